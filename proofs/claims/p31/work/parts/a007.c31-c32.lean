section
theorem hd_yX12_differ_RX12 : yX12_differ.cls = RX12 ∧ yX12_differ.cls ≠ "java/lang/invoke/MethodHandle" ∧ yX12_differ.cls ≠ "java/lang/invoke/VarHandle" ∧ (parseMethodDescriptor yX12_differ.desc).map (fun d => d.parameters.length) = some 0 := by decide +kernel
theorem hd_yX12_firstWays_RX12 : yX12_firstWays.cls = RX12 ∧ yX12_firstWays.cls ≠ "java/lang/invoke/MethodHandle" ∧ yX12_firstWays.cls ≠ "java/lang/invoke/VarHandle" ∧ (parseMethodDescriptor yX12_firstWays.desc).map (fun d => d.parameters.length) = some 0 := by decide +kernel
theorem hd_yX12_solves_RX12 : yX12_solves.cls = RX12 ∧ yX12_solves.cls ≠ "java/lang/invoke/MethodHandle" ∧ yX12_solves.cls ≠ "java/lang/invoke/VarHandle" ∧ (parseMethodDescriptor yX12_solves.desc).map (fun d => d.parameters.length) = some 2 := by decide +kernel
theorem hd_yX12_nextWays_RX12 : yX12_nextWays.cls = RX12 ∧ yX12_nextWays.cls ≠ "java/lang/invoke/MethodHandle" ∧ yX12_nextWays.cls ≠ "java/lang/invoke/VarHandle" ∧ (parseMethodDescriptor yX12_nextWays.desc).map (fun d => d.parameters.length) = some 0 := by decide +kernel
theorem hd_yX12_firstValues_RX12 : yX12_firstValues.cls = RX12 ∧ yX12_firstValues.cls ≠ "java/lang/invoke/MethodHandle" ∧ yX12_firstValues.cls ≠ "java/lang/invoke/VarHandle" ∧ (parseMethodDescriptor yX12_firstValues.desc).map (fun d => d.parameters.length) = some 0 := by decide +kernel
theorem hd_yX12_counts_RX12 : yX12_counts.cls = RX12 ∧ yX12_counts.cls ≠ "java/lang/invoke/MethodHandle" ∧ yX12_counts.cls ≠ "java/lang/invoke/VarHandle" ∧ (parseMethodDescriptor yX12_counts.desc).map (fun d => d.parameters.length) = some 0 := by decide +kernel
theorem hd_yX12_nextValues_RX12 : yX12_nextValues.cls = RX12 ∧ yX12_nextValues.cls ≠ "java/lang/invoke/MethodHandle" ∧ yX12_nextValues.cls ≠ "java/lang/invoke/VarHandle" ∧ (parseMethodDescriptor yX12_nextValues.desc).map (fun d => d.parameters.length) = some 0 := by decide +kernel
theorem hd_yX12_isBetter_RX12 : yX12_isBetter.cls = RX12 ∧ yX12_isBetter.cls ≠ "java/lang/invoke/MethodHandle" ∧ yX12_isBetter.cls ≠ "java/lang/invoke/VarHandle" ∧ (parseMethodDescriptor yX12_isBetter.desc).map (fun d => d.parameters.length) = some 0 := by decide +kernel
theorem hd_yX12_take_RX12 : yX12_take.cls = RX12 ∧ yX12_take.cls ≠ "java/lang/invoke/MethodHandle" ∧ yX12_take.cls ≠ "java/lang/invoke/VarHandle" ∧ (parseMethodDescriptor yX12_take.desc).map (fun d => d.parameters.length) = some 0 := by decide +kernel
theorem dX12_counts_0 : decode cX12_counts 0 = .ok (.aload_n 0, 1) := dk_42 (by decide +kernel)
theorem dX12_counts_1 : decode cX12_counts 1 = .ok (.invokevirtual 879, 3) := dk_182 (by decide +kernel)
theorem dX12_counts_4 : decode cX12_counts 4 = .ok (.ifCond .ne 5, 3) := dk_154 (by decide +kernel)
theorem dX12_counts_7 : decode cX12_counts 7 = .ok (.iconst 0, 1) := dk_3 (by decide +kernel)
theorem dX12_counts_8 : decode cX12_counts 8 = .ok (.ireturn, 1) := dk_172 (by decide +kernel)
theorem dX12_counts_9 : decode cX12_counts 9 = .ok (.aload_n 0, 1) := dk_42 (by decide +kernel)
theorem dX12_counts_10 : decode cX12_counts 10 = .ok (.invokevirtual 876, 3) := dk_182 (by decide +kernel)
theorem dX12_counts_13 : decode cX12_counts 13 = .ok (.iconst 1, 1) := dk_4 (by decide +kernel)
theorem dX12_counts_14 : decode cX12_counts 14 = .ok (.istore_n 1, 1) := dk_60 (by decide +kernel)
theorem dX12_counts_15 : decode cX12_counts 15 = .ok (.iload_n 1, 1) := dk_27 (by decide +kernel)
theorem dX12_counts_16 : decode cX12_counts 16 = .ok (.ifCond .eq 22, 3) := dk_153 (by decide +kernel)
theorem dX12_counts_19 : decode cX12_counts 19 = .ok (.aload_n 0, 1) := dk_42 (by decide +kernel)
theorem dX12_counts_20 : decode cX12_counts 20 = .ok (.iconst 0, 1) := dk_3 (by decide +kernel)
theorem dX12_counts_21 : decode cX12_counts 21 = .ok (.iconst 0, 1) := dk_3 (by decide +kernel)
theorem dX12_counts_22 : decode cX12_counts 22 = .ok (.invokevirtual 866, 3) := dk_182 (by decide +kernel)
theorem dX12_counts_25 : decode cX12_counts 25 = .ok (.ifCond .eq 5, 3) := dk_153 (by decide +kernel)
theorem dX12_counts_28 : decode cX12_counts 28 = .ok (.iconst 1, 1) := dk_4 (by decide +kernel)
theorem dX12_counts_29 : decode cX12_counts 29 = .ok (.ireturn, 1) := dk_172 (by decide +kernel)
theorem dX12_counts_30 : decode cX12_counts 30 = .ok (.aload_n 0, 1) := dk_42 (by decide +kernel)
theorem dX12_counts_31 : decode cX12_counts 31 = .ok (.invokevirtual 885, 3) := dk_182 (by decide +kernel)
theorem dX12_counts_34 : decode cX12_counts 34 = .ok (.istore_n 1, 1) := dk_60 (by decide +kernel)
theorem dX12_counts_35 : decode cX12_counts 35 = .ok (.goto (-20), 3) := dk_167 (by decide +kernel)
theorem dX12_counts_38 : decode cX12_counts 38 = .ok (.iconst 0, 1) := dk_3 (by decide +kernel)
theorem dX12_counts_39 : decode cX12_counts 39 = .ok (.ireturn, 1) := dk_172 (by decide +kernel)
def wsRX12_counts : List Cond := .code yX12_counts cX12_counts 2 (some .boolean) :: ([] ++ wsX120 ++ (wsV RX12 879 RX12 yX12_differ wsRX12_differ) ++ (wsV RX12 876 RX12 yX12_firstWays wsRX12_firstWays) ++ (wsV RX12 866 RX12 yX12_solves wsRX12_solves) ++ (wsV RX12 885 RX12 yX12_nextWays wsRX12_nextWays))
theorem iwsRX12_counts_in12 : ∀ w ∈ wsX120, w ∈ wsRX12_counts := fun _ h => List.mem_cons_of_mem _ (List.mem_append_left _ (List.mem_append_left _ (List.mem_append_left _ (List.mem_append_left _ (List.mem_append_right _ h)))))
theorem gwsRX12_counts_0 : GoodIn wsRX12_counts (wsV RX12 879 RX12 yX12_differ wsRX12_differ) := goodIn_sub (fun _ h => List.mem_cons_of_mem _ (List.mem_append_left _ (List.mem_append_left _ (List.mem_append_left _ (List.mem_append_right _ h))))) (gdV (by decide +kernel) gdwsRX12_differ)
theorem gwsRX12_counts_1 : GoodIn wsRX12_counts (wsV RX12 876 RX12 yX12_firstWays wsRX12_firstWays) := goodIn_sub (fun _ h => List.mem_cons_of_mem _ (List.mem_append_left _ (List.mem_append_left _ (List.mem_append_right _ h)))) (gdV (by decide +kernel) gdwsRX12_firstWays)
theorem gwsRX12_counts_2 : GoodIn wsRX12_counts (wsV RX12 866 RX12 yX12_solves wsRX12_solves) := goodIn_sub (fun _ h => List.mem_cons_of_mem _ (List.mem_append_left _ (List.mem_append_right _ h))) (gdV (by decide +kernel) gdwsRX12_solves)
theorem gwsRX12_counts_3 : GoodIn wsRX12_counts (wsV RX12 885 RX12 yX12_nextWays wsRX12_nextWays) := goodIn_sub (fun _ h => List.mem_cons_of_mem _ (List.mem_append_right _ h)) (gdV (by decide +kernel) gdwsRX12_nextWays)
theorem gdwsRX12_counts : wsRX12_counts.all goodWord = true := gdC rfl (gdA (gdA (gdA (gdA (gdA (by decide +kernel : ([] : List Cond).all goodWord = true) gdwsX120) (gdV (by decide +kernel) gdwsRX12_differ)) (gdV (by decide +kernel) gdwsRX12_firstWays)) (gdV (by decide +kernel) gdwsRX12_solves)) (gdV (by decide +kernel) gdwsRX12_nextWays))
set_option maxHeartbeats 4000000 in
set_option maxRecDepth 100000 in
/-- counts() -/
theorem r_X12_counts (l : Launch) (dC : Nat → ClassId) (dI : Nat → Nat → Nat) (a : Nat → Nat) (k : Nat → ClassId) (h0 : Nat) (vi : Nat → Int32) (vj : Nat → Int64) (vF : Nat → Nat → Int32) (vG : Nat → Nat → Int64) (vn : Nat) (mr : Nat) (gq : Nat) (dn : Nat) (mg : Nat → Int) (hBg : Bg (vF 0) mg) (hvn : vi 90 = nI vn) (hvn8 : vn ≤ 8) (hmr : vi 91 = nI mr) (hmr12 : mr ≤ 12) (hmg : vi 93 = nI gq) (hgq : gq ≤ 3) (hdn : vi 92 = nI dn) (hdn8 : dn ≤ 8) (hM : MdlB vF gq) (hlh : ∀ k, k < vn → (vF 56 k).toInt ≤ (vF 57 k).toInt) (hwm : WmO (vF 59) mr) (hAn : AnsB mg 1020) (sz : Nat) : Met l yX12_counts wsRX12_counts ({ frames := 7, cells := 0, slots := 0, locals := 182 }) (va_Pc [.ref h0] (fun U => U.heap.size = sz ∧ va_P (dC, dI) vwCl (WR a k h0 vi vj vF vG) U.heap ∧ va_K (dC, dI) vwCl (tX12 k) U ∧ va_D (fun _ => True) (WR a k h0 vi vj vF vG))) (va_Qi (fun (r : Int32) (u : (Nat → Int32) × (Nat → Int32) × (Nat → Int32) × (Nat → Int32) × (Nat → Int32) × (Nat → Int32) × (Nat → Int64) × (Nat → Int64) × (Nat → Int64) × (Int64) × (Int32) × (Int32) × (Int32) × (Int32) × (Int32) × (Nat → Int32) × (Nat → Int)) => (Bg (u.1) (u.2.2.2.2.2.2.2.2.2.2.2.2.2.2.2.2)) ∧ (AnsB (u.2.2.2.2.2.2.2.2.2.2.2.2.2.2.2.2) 1020) ∧ (∀ q, ((1000 ≤ q ∧ q < 1020) ∨ 1036 ≤ q) → (u.2.2.2.2.2.2.2.2.2.2.2.2.2.2.2.2) q = mg q) ∧ ((r) = 0 ∨ (r) = 1)) (fun (u : (Nat → Int32) × (Nat → Int32) × (Nat → Int32) × (Nat → Int32) × (Nat → Int32) × (Nat → Int32) × (Nat → Int64) × (Nat → Int64) × (Nat → Int64) × (Int64) × (Int32) × (Int32) × (Int32) × (Int32) × (Int32) × (Nat → Int32) × (Nat → Int)) t => va_P (dC, dI) vwCl (WR a k h0 (fT (fT (fT (fT (fT vi 11 (u.2.2.2.2.2.2.2.2.2.2.1)) 116 (u.2.2.2.2.2.2.2.2.2.2.2.1)) 5 (u.2.2.2.2.2.2.2.2.2.2.2.2.1)) 6 (u.2.2.2.2.2.2.2.2.2.2.2.2.2.1)) 7 (u.2.2.2.2.2.2.2.2.2.2.2.2.2.2.1)) (fT vj 12 (u.2.2.2.2.2.2.2.2.2.1)) (fT (fT (fT (fT (fT (fT (fT vF 69 (u.2.2.2.2.2.2.2.2.2.2.2.2.2.2.2.1)) 0 (u.1)) 2 (u.2.1)) 3 (u.2.2.1)) 4 (u.2.2.2.1)) 5 (u.2.2.2.2.1)) 6 (u.2.2.2.2.2.1)) (fT (fT (fT vG 1 (u.2.2.2.2.2.2.1)) 7 (u.2.2.2.2.2.2.2.1)) 8 (u.2.2.2.2.2.2.2.2.1))) t.heap ∧ va_D (va_A (WR a k h0 vi vj vF vG) sz) (WR a k h0 (fT (fT (fT (fT (fT vi 11 (u.2.2.2.2.2.2.2.2.2.2.1)) 116 (u.2.2.2.2.2.2.2.2.2.2.2.1)) 5 (u.2.2.2.2.2.2.2.2.2.2.2.2.1)) 6 (u.2.2.2.2.2.2.2.2.2.2.2.2.2.1)) 7 (u.2.2.2.2.2.2.2.2.2.2.2.2.2.2.1)) (fT vj 12 (u.2.2.2.2.2.2.2.2.2.1)) (fT (fT (fT (fT (fT (fT (fT vF 69 (u.2.2.2.2.2.2.2.2.2.2.2.2.2.2.2.1)) 0 (u.1)) 2 (u.2.1)) 3 (u.2.2.1)) 4 (u.2.2.2.1)) 5 (u.2.2.2.2.1)) 6 (u.2.2.2.2.2.1)) (fT (fT (fT vG 1 (u.2.2.2.2.2.2.1)) 7 (u.2.2.2.2.2.2.2.1)) 8 (u.2.2.2.2.2.2.2.2.1)))) (va_A (WR a k h0 vi vj vF vG) sz)) 0 0 (va_A (WR a k h0 vi vj vF vG) sz) := by
  refine Met.ofW (cc := cX12_counts) (maxL := 2) (ret := (some .boolean)) (by decide) rfl ?_
  intro p e s m args below meth c s₁ B hml hv
  obtain ⟨rfl, hsz, hP, hK, hD0⟩ := hv
  have hx := B.exec
  have hb := B.bytes
  have hr := B.returns
  have hts := atoms_spec (ws := wsRX12_counts) B.pre
  have hown : s.vm.findClass RX12 = some m.cls := findClass_of_methodNamed B.named
  have hlocks := B.notSynchronized
  subst hsz
  have hD := hD0.self (sz := s.heap.size)
  generalize hAe : va_A (WR a k h0 vi vj vF vG) s.heap.size = A at hD ⊢
  have hA : ∀ q : Nat, s.heap.size ≤ q → A q := fun q h => by rw [← hAe]; exact Or.inr h
  have hS : va_S A s.heap s.heap [] := va_S.rf
  have hl := lv_entry ([.ref h0]) (n := 2) (Nat.le_of_ble_eq_true rfl)
  rw [lg_entry_eq]
  generalize (lg_sl ([.ref h0]) ++ List.replicate (2 - (lg_sl ([.ref h0])).length) Slot.unset).toArray = ls at hl ⊢
  have hl : lv_has ls 2 [(0, .ref h0)] := hl
  refine lv_aload_n hx hb dX12_counts_0 rfl (lv_at hl 0 rfl) ?_
  have hFc := allFree hD hS hA
  refine va_calli (va_runV (As := []) (rest := []) ⟨hx, hb, hml, hown, hts⟩ (r_X12_differ l dC dI a k h0 vi vj vF vG vn dn (by first | with_reducible assumption | decide | omega | rfl | assumption) (by first | with_reducible assumption | decide | omega | rfl | assumption) (by first | with_reducible assumption | decide | omega | rfl | assumption) (by first | with_reducible assumption | decide | omega | rfl | assumption) s.heap.size) (cwV 0 hts gwsRX12_counts_0 rfl rfl rfl hd_yX12_differ_RX12 (by decide +kernel)) (fz_pre (va_recv hK hP (ci := 12) (q0 := 0) rfl rfl) hP hK hD) rfl rfl hl.1 rfl (lv_room (Nat.le_of_ble_eq_true rfl)) dX12_counts_1 (by decide +kernel)) hS (fun q _ h => hFc q h) hFc (fun r1 u t9_ H locs ht hvm hw9 hB9 hz1 hk1 hS => ?_)
  have hP : va_P (dC, dI) vwCl (WR a k h0 vi vj vF vG) H := fz_P ht hB9.1
  have hD : va_D A (WR a k h0 vi vj vF vG) := hB9.2.weaken (fun _ q _ h => hFc q.1 h)
  have f1_0 := hw9
  try dsimp only at f1_0
  refine lv_if_ne (tgt := 9) hx hb dX12_counts_4 (by decide) (fun c_4 => ?_) (fun c_4 => ?_)
  · have t_4 : (r1).toInt ≠ 0 := toI_ne c_4 rfl (by decide)
    refine lv_aload_n hx hb dX12_counts_9 rfl (lv_at hl 0 rfl) ?_
    have hFc := allFree hD hS hA
    refine va_callv (va_runV (As := []) (rest := []) ⟨hx, hb, hml, hown, hts⟩ (r_X12_firstWays l dC dI a k h0 vi vj vF vG mr (by first | with_reducible assumption | decide | omega | rfl | assumption) (by first | with_reducible assumption | decide | omega | rfl | assumption) H.size) (cwV 0 hts gwsRX12_counts_1 rfl rfl rfl hd_yX12_firstWays_RX12 (by decide +kernel)) (fz_pre (va_recv hK hP (ci := 12) (q0 := 0) rfl rfl) hP hK hD) rfl rfl hl.1 rfl (lv_room (Nat.le_of_ble_eq_true rfl)) dX12_counts_10 (by decide +kernel)) hS (fun q _ h => hFc q h) hFc (fun f6910 t9_ H locs ht hvm hw9 hB9 hz1 hk1 hS => ?_)
    have hP : va_P (dC, dI) vwCl (WR a k h0 vi vj (fT vF 69 f6910) vG) H := fz_P ht hB9.1
    have hD : va_D A (WR a k h0 vi vj (fT vF 69 f6910) vG) := hB9.2.weaken (fun _ q _ h => hFc q.1 h)
    have f10_0 := hw9
    try dsimp only at f10_0
    refine lv_iconst (v := 1) hx hb dX12_counts_13 (by decide) ?_
    refine lv_istore_n hx hb dX12_counts_14 rfl hl (by decide) rfl (fun ls (hl : lv_has ls _ ([(1, .int 1), (0, .ref h0)])) => ?_)
    have e9 : fT (fT (fT (fT (fT vi 11 (vi 11)) 116 (vi 116)) 5 (vi 5)) 6 (vi 6)) 7 (vi 7) = vi := by funext q9; by_cases h9_11 : q9 = 11; (subst h9_11; exact ((fT_ne _ _ (Nat.ne_of_beq_eq_false rfl)).trans ((fT_ne _ _ (Nat.ne_of_beq_eq_false rfl)).trans ((fT_ne _ _ (Nat.ne_of_beq_eq_false rfl)).trans ((fT_ne _ _ (Nat.ne_of_beq_eq_false rfl)).trans (fT_eq _ _ _))))).trans (Eq.trans (by first | with_reducible rfl | with_reducible assumption | (symm; with_reducible assumption) | rfl | assumption | (symm; assumption) | (subst_vars; rfl)) (Eq.refl _).symm)); by_cases h9_116 : q9 = 116; (subst h9_116; exact ((fT_ne _ _ (Nat.ne_of_beq_eq_false rfl)).trans ((fT_ne _ _ (Nat.ne_of_beq_eq_false rfl)).trans ((fT_ne _ _ (Nat.ne_of_beq_eq_false rfl)).trans (fT_eq _ _ _)))).trans (Eq.trans (by first | with_reducible rfl | with_reducible assumption | (symm; with_reducible assumption) | rfl | assumption | (symm; assumption) | (subst_vars; rfl)) (Eq.refl _).symm)); by_cases h9_5 : q9 = 5; (subst h9_5; exact ((fT_ne _ _ (Nat.ne_of_beq_eq_false rfl)).trans ((fT_ne _ _ (Nat.ne_of_beq_eq_false rfl)).trans (fT_eq _ _ _))).trans (Eq.trans (by first | with_reducible rfl | with_reducible assumption | (symm; with_reducible assumption) | rfl | assumption | (symm; assumption) | (subst_vars; rfl)) (Eq.refl _).symm)); by_cases h9_6 : q9 = 6; (subst h9_6; exact ((fT_ne _ _ (Nat.ne_of_beq_eq_false rfl)).trans (fT_eq _ _ _)).trans (Eq.trans (by first | with_reducible rfl | with_reducible assumption | (symm; with_reducible assumption) | rfl | assumption | (symm; assumption) | (subst_vars; rfl)) (Eq.refl _).symm)); by_cases h9_7 : q9 = 7; (subst h9_7; exact (fT_eq _ _ _).trans (Eq.trans (by first | with_reducible rfl | with_reducible assumption | (symm; with_reducible assumption) | rfl | assumption | (symm; assumption) | (subst_vars; rfl)) (Eq.refl _).symm)); exact ((fT_ne _ _ h9_7).trans ((fT_ne _ _ h9_6).trans ((fT_ne _ _ h9_5).trans ((fT_ne _ _ h9_116).trans (fT_ne _ _ h9_11))))).trans (Eq.refl _).symm
    have hP : va_P (dC, dI) vwCl (WR a k h0 (fT (fT (fT (fT (fT vi 11 (vi 11)) 116 (vi 116)) 5 (vi 5)) 6 (vi 6)) 7 (vi 7)) vj (fT vF 69 f6910) vG) H := by rw [e9]; exact hP
    have hD : va_D A (WR a k h0 (fT (fT (fT (fT (fT vi 11 (vi 11)) 116 (vi 116)) 5 (vi 5)) 6 (vi 6)) 7 (vi 7)) vj (fT vF 69 f6910) vG) := by rw [e9]; exact hD
    clear e9
    have e9 : fT vj 12 (vj 12) = vj := by funext q9; by_cases h9_12 : q9 = 12; (subst h9_12; exact (fT_eq _ _ _).trans (Eq.trans (by first | with_reducible rfl | with_reducible assumption | (symm; with_reducible assumption) | rfl | assumption | (symm; assumption) | (subst_vars; rfl)) (Eq.refl _).symm)); exact (fT_ne _ _ h9_12).trans (Eq.refl _).symm
    have hP : va_P (dC, dI) vwCl (WR a k h0 (fT (fT (fT (fT (fT vi 11 (vi 11)) 116 (vi 116)) 5 (vi 5)) 6 (vi 6)) 7 (vi 7)) (fT vj 12 (vj 12)) (fT vF 69 f6910) vG) H := by rw [e9]; exact hP
    have hD : va_D A (WR a k h0 (fT (fT (fT (fT (fT vi 11 (vi 11)) 116 (vi 116)) 5 (vi 5)) 6 (vi 6)) 7 (vi 7)) (fT vj 12 (vj 12)) (fT vF 69 f6910) vG) := by rw [e9]; exact hD
    clear e9
    have e9 : fT (fT (fT (fT (fT (fT (fT vF 69 f6910) 0 (vF 0)) 2 (vF 2)) 3 (vF 3)) 4 (vF 4)) 5 (vF 5)) 6 (vF 6) = fT vF 69 f6910 := by funext q9; by_cases h9_69 : q9 = 69; (subst h9_69; exact ((fT_ne _ _ (Nat.ne_of_beq_eq_false rfl)).trans ((fT_ne _ _ (Nat.ne_of_beq_eq_false rfl)).trans ((fT_ne _ _ (Nat.ne_of_beq_eq_false rfl)).trans ((fT_ne _ _ (Nat.ne_of_beq_eq_false rfl)).trans ((fT_ne _ _ (Nat.ne_of_beq_eq_false rfl)).trans ((fT_ne _ _ (Nat.ne_of_beq_eq_false rfl)).trans (fT_eq _ _ _))))))).trans (Eq.trans (by first | with_reducible rfl | with_reducible assumption | (symm; with_reducible assumption) | rfl | assumption | (symm; assumption) | (subst_vars; rfl)) (fT_eq _ _ _).symm)); by_cases h9_0 : q9 = 0; (subst h9_0; exact ((fT_ne _ _ (Nat.ne_of_beq_eq_false rfl)).trans ((fT_ne _ _ (Nat.ne_of_beq_eq_false rfl)).trans ((fT_ne _ _ (Nat.ne_of_beq_eq_false rfl)).trans ((fT_ne _ _ (Nat.ne_of_beq_eq_false rfl)).trans ((fT_ne _ _ (Nat.ne_of_beq_eq_false rfl)).trans (fT_eq _ _ _)))))).trans (Eq.trans (by first | with_reducible rfl | with_reducible assumption | (symm; with_reducible assumption) | rfl | assumption | (symm; assumption) | (subst_vars; rfl)) (fT_ne _ _ (Nat.ne_of_beq_eq_false rfl)).symm)); by_cases h9_2 : q9 = 2; (subst h9_2; exact ((fT_ne _ _ (Nat.ne_of_beq_eq_false rfl)).trans ((fT_ne _ _ (Nat.ne_of_beq_eq_false rfl)).trans ((fT_ne _ _ (Nat.ne_of_beq_eq_false rfl)).trans ((fT_ne _ _ (Nat.ne_of_beq_eq_false rfl)).trans (fT_eq _ _ _))))).trans (Eq.trans (by first | with_reducible rfl | with_reducible assumption | (symm; with_reducible assumption) | rfl | assumption | (symm; assumption) | (subst_vars; rfl)) (fT_ne _ _ (Nat.ne_of_beq_eq_false rfl)).symm)); by_cases h9_3 : q9 = 3; (subst h9_3; exact ((fT_ne _ _ (Nat.ne_of_beq_eq_false rfl)).trans ((fT_ne _ _ (Nat.ne_of_beq_eq_false rfl)).trans ((fT_ne _ _ (Nat.ne_of_beq_eq_false rfl)).trans (fT_eq _ _ _)))).trans (Eq.trans (by first | with_reducible rfl | with_reducible assumption | (symm; with_reducible assumption) | rfl | assumption | (symm; assumption) | (subst_vars; rfl)) (fT_ne _ _ (Nat.ne_of_beq_eq_false rfl)).symm)); by_cases h9_4 : q9 = 4; (subst h9_4; exact ((fT_ne _ _ (Nat.ne_of_beq_eq_false rfl)).trans ((fT_ne _ _ (Nat.ne_of_beq_eq_false rfl)).trans (fT_eq _ _ _))).trans (Eq.trans (by first | with_reducible rfl | with_reducible assumption | (symm; with_reducible assumption) | rfl | assumption | (symm; assumption) | (subst_vars; rfl)) (fT_ne _ _ (Nat.ne_of_beq_eq_false rfl)).symm)); by_cases h9_5 : q9 = 5; (subst h9_5; exact ((fT_ne _ _ (Nat.ne_of_beq_eq_false rfl)).trans (fT_eq _ _ _)).trans (Eq.trans (by first | with_reducible rfl | with_reducible assumption | (symm; with_reducible assumption) | rfl | assumption | (symm; assumption) | (subst_vars; rfl)) (fT_ne _ _ (Nat.ne_of_beq_eq_false rfl)).symm)); by_cases h9_6 : q9 = 6; (subst h9_6; exact (fT_eq _ _ _).trans (Eq.trans (by first | with_reducible rfl | with_reducible assumption | (symm; with_reducible assumption) | rfl | assumption | (symm; assumption) | (subst_vars; rfl)) (fT_ne _ _ (Nat.ne_of_beq_eq_false rfl)).symm)); exact ((fT_ne _ _ h9_6).trans ((fT_ne _ _ h9_5).trans ((fT_ne _ _ h9_4).trans ((fT_ne _ _ h9_3).trans ((fT_ne _ _ h9_2).trans ((fT_ne _ _ h9_0).trans (fT_ne _ _ h9_69))))))).trans (fT_ne _ _ h9_69).symm
    have hP : va_P (dC, dI) vwCl (WR a k h0 (fT (fT (fT (fT (fT vi 11 (vi 11)) 116 (vi 116)) 5 (vi 5)) 6 (vi 6)) 7 (vi 7)) (fT vj 12 (vj 12)) (fT (fT (fT (fT (fT (fT (fT vF 69 f6910) 0 (vF 0)) 2 (vF 2)) 3 (vF 3)) 4 (vF 4)) 5 (vF 5)) 6 (vF 6)) vG) H := by rw [e9]; exact hP
    have hD : va_D A (WR a k h0 (fT (fT (fT (fT (fT vi 11 (vi 11)) 116 (vi 116)) 5 (vi 5)) 6 (vi 6)) 7 (vi 7)) (fT vj 12 (vj 12)) (fT (fT (fT (fT (fT (fT (fT vF 69 f6910) 0 (vF 0)) 2 (vF 2)) 3 (vF 3)) 4 (vF 4)) 5 (vF 5)) 6 (vF 6)) vG) := by rw [e9]; exact hD
    clear e9
    have e9 : fT (fT (fT vG 1 (vG 1)) 7 (vG 7)) 8 (vG 8) = vG := by funext q9; by_cases h9_1 : q9 = 1; (subst h9_1; exact ((fT_ne _ _ (Nat.ne_of_beq_eq_false rfl)).trans ((fT_ne _ _ (Nat.ne_of_beq_eq_false rfl)).trans (fT_eq _ _ _))).trans (Eq.trans (by first | with_reducible rfl | with_reducible assumption | (symm; with_reducible assumption) | rfl | assumption | (symm; assumption) | (subst_vars; rfl)) (Eq.refl _).symm)); by_cases h9_7 : q9 = 7; (subst h9_7; exact ((fT_ne _ _ (Nat.ne_of_beq_eq_false rfl)).trans (fT_eq _ _ _)).trans (Eq.trans (by first | with_reducible rfl | with_reducible assumption | (symm; with_reducible assumption) | rfl | assumption | (symm; assumption) | (subst_vars; rfl)) (Eq.refl _).symm)); by_cases h9_8 : q9 = 8; (subst h9_8; exact (fT_eq _ _ _).trans (Eq.trans (by first | with_reducible rfl | with_reducible assumption | (symm; with_reducible assumption) | rfl | assumption | (symm; assumption) | (subst_vars; rfl)) (Eq.refl _).symm)); exact ((fT_ne _ _ h9_8).trans ((fT_ne _ _ h9_7).trans (fT_ne _ _ h9_1))).trans (Eq.refl _).symm
    have hP : va_P (dC, dI) vwCl (WR a k h0 (fT (fT (fT (fT (fT vi 11 (vi 11)) 116 (vi 116)) 5 (vi 5)) 6 (vi 6)) 7 (vi 7)) (fT vj 12 (vj 12)) (fT (fT (fT (fT (fT (fT (fT vF 69 f6910) 0 (vF 0)) 2 (vF 2)) 3 (vF 3)) 4 (vF 4)) 5 (vF 5)) 6 (vF 6)) (fT (fT (fT vG 1 (vG 1)) 7 (vG 7)) 8 (vG 8))) H := by rw [e9]; exact hP
    have hD : va_D A (WR a k h0 (fT (fT (fT (fT (fT vi 11 (vi 11)) 116 (vi 116)) 5 (vi 5)) 6 (vi 6)) 7 (vi 7)) (fT vj 12 (vj 12)) (fT (fT (fT (fT (fT (fT (fT vF 69 f6910) 0 (vF 0)) 2 (vF 2)) 3 (vF 3)) 4 (vF 4)) 5 (vF 5)) 6 (vF 6)) (fT (fT (fT vG 1 (vG 1)) 7 (vG 7)) 8 (vG 8))) := by rw [e9]; exact hD
    clear e9
    have hl : lv_has _ _ ([(0, .ref h0), (1, .int 1)]) := lv_sub hl [1, 0] rfl
    refine (fun (loop : ∀ (n9 : Nat) (mo : Int32) (f69x : Nat → Int32) (gx : Nat → Int32) (f2wx : Nat → Int32) (f3wx : Nat → Int32) (f4x : Nat → Int32) (f5x : Nat → Int32) (f6x : Nat → Int32) (gsx : Nat → Int64) (Fx : Nat → Int64) (L8x : Nat → Int64) (qdx : Int64) (qkx : Int32) (fxx : Int32) (cn2x : Int32) (rn2x : Int32) (gn2x : Int32) (m1 : Nat → Int) (H : Heap) (locs : List Loc) (ls : Array Slot), (Bg gx m1) → (ChO (vF 59) f69x mr) → (AnsB m1 1020) → (∀ q, ((1000 ≤ q ∧ q < 1020) ∨ 1036 ≤ q) → m1 q = mg q) →  ((mo = 0 ∧ 0 < n9) ∨ odoP (cD (vF 59)) mr < odo (cD f69x) (cD (vF 59)) mr + n9) → va_P (dC, dI) vwCl (WR a k h0 (fT (fT (fT (fT (fT vi 11 qkx) 116 fxx) 5 cn2x) 6 rn2x) 7 gn2x) (fT vj 12 qdx) (fT (fT (fT (fT (fT (fT (fT vF 69 f69x) 0 gx) 2 f2wx) 3 f3wx) 4 f4x) 5 f5x) 6 f6x) (fT (fT (fT vG 1 gsx) 7 Fx) 8 L8x)) H → va_D A (WR a k h0 (fT (fT (fT (fT (fT vi 11 qkx) 116 fxx) 5 cn2x) 6 rn2x) 7 gn2x) (fT vj 12 qdx) (fT (fT (fT (fT (fT (fT (fT vF 69 f69x) 0 gx) 2 f2wx) 3 f3wx) 4 f4x) 5 f5x) 6 f6x) (fT (fT (fT vG 1 gsx) 7 Fx) 8 L8x)) → va_S A s.heap H locs → lv_has ls 2 [(0, .ref h0), (1, .int mo)] → W p l e _ s m _ below meth c H locs 0 0 _ (F0 m 15 ls [])) => loop (odoP (cD (vF 59)) mr + 1) 1 f6910 (vF 0) (vF 2) (vF 3) (vF 4) (vF 5) (vF 6) (vG 1) (vG 7) (vG 8) (vj 12) (vi 11) (vi 116) (vi 5) (vi 6) (vi 7) mg _ _ _ (hBg) (ChO.first hwm f10_0) (hAn) (fun q _ => rfl) (Or.inr (by omega)) hP hD hS hl) ?_
    intro n9
    induction n9 with
    | zero => intro mo f69x gx f2wx f3wx f4x f5x f6x gsx Fx L8x qdx qkx fxx cn2x rn2x gn2x m1 H locs ls hB1 hc1 hA1 ho hf9; exact False.elim (by (have h9 := odo_lt (f := cD f69x) (b := cD (vF 59)) mr (fun q hq => hc1.dg hq)); omega)
    | succ n9 ih15 =>
      intro mo f69x gx f2wx f3wx f4x f5x f6x gsx Fx L8x qdx qkx fxx cn2x rn2x gn2x m1 H locs ls hB1 hc1 hA1 ho hf15 hP hD hS hl
      have hfx := hf15
      refine lv_iload_n hx hb dX12_counts_15 rfl (lv_at hl 1 rfl) ?_
      refine lv_if_eq (tgt := 38) hx hb dX12_counts_16 (by decide) (fun c_16 => ?_) (fun c_16 => ?_)
      · have t_16 : (mo).toInt = 0 := toI_eq c_16 rfl (by decide)
        refine lv_iconst (v := 0) hx hb dX12_counts_38 (by decide) ?_
        refine W.widen (k := 0) (n := 0) (by decide +kernel) (by decide +kernel) ?_
        exact W.zret (v := 0) hx hb hr rfl (fun t9_ ht hW => ⟨⟨0, (gx, f2wx, f3wx, f4x, f5x, f6x, gsx, Fx, L8x, qdx, qkx, fxx, cn2x, rn2x, gn2x, f69x, m1), rfl, by (try dsimp only); exact ⟨hB1, hA1, ho, Or.inl rfl⟩, by rw [ht]; exact hP, hD⟩, hS.F ht⟩) hS.2.2 dX12_counts_39
      · have t_16 : ¬ (mo).toInt = 0 := toI_neq c_16 rfl (by decide)
        refine lv_aload_n hx hb dX12_counts_19 rfl (lv_at hl 0 rfl) ?_
        refine lv_iconst (v := 0) hx hb dX12_counts_20 (by decide) ?_
        refine lv_iconst (v := 0) hx hb dX12_counts_21 (by decide) ?_
        have hFc := allFree hD hS hA
        refine va_calli (va_runV (As := [.int 0, .int 0]) (rest := []) ⟨hx, hb, hml, hown, hts⟩ (r_X12_solves l dC dI a k h0 (fT (fT (fT (fT (fT vi 11 qkx) 116 fxx) 5 cn2x) 6 rn2x) 7 gn2x) (fT vj 12 qdx) (fT (fT (fT (fT (fT (fT (fT vF 69 f69x) 0 gx) 2 f2wx) 3 f3wx) 4 f4x) 5 f5x) 6 f6x) (fT (fT (fT vG 1 gsx) 7 Fx) 8 L8x) 0 0 vn mr gq m1 hB1 (by first | with_reducible assumption | decide | omega | rfl | assumption) (by first | with_reducible assumption | decide | omega | rfl | assumption) (by first | with_reducible assumption | decide | omega | rfl | assumption) (by first | with_reducible assumption | decide | omega | rfl | assumption) (by first | with_reducible assumption | decide | omega | rfl | assumption) (by first | with_reducible assumption | decide | omega | rfl | assumption) (by first | with_reducible assumption | decide | omega | rfl | assumption) (fun _ => hc1) (hA1) H.size) (cwV 2 hts gwsRX12_counts_2 rfl rfl rfl hd_yX12_solves_RX12 (by decide +kernel)) (fz_pre (va_recv hK hP (ci := 12) (q0 := 0) rfl rfl) hP hK hD) rfl rfl hl.1 rfl (lv_room (Nat.le_of_ble_eq_true rfl)) dX12_counts_22 (by decide +kernel)) hS (fun q _ h => hFc q h) hFc (fun r22 u t9_ H locs ht hvm hw9 hB9 hz1 hk1 hS => ?_)
        revert u
        refine fz_p15 ?_
        intro g22 f2w22 f3w22 f422 f522 f622 gs22 F22 L822 qd22 fx22 cn222 rn222 gn222 m222 hw9 hB9
        try dsimp only at hw9 hB9
        have hP : va_P (dC, dI) vwCl (WR a k h0 (fT (fT (fT (fT (fT (fT (fT (fT (fT (fT vi 11 qkx) 116 fxx) 5 cn2x) 6 rn2x) 7 gn2x) 116 fx22) 5 cn222) 6 rn222) 7 gn222) 11 0) (fT (fT vj 12 qdx) 12 qd22) (fT (fT (fT (fT (fT (fT (fT (fT (fT (fT (fT (fT (fT vF 69 f69x) 0 gx) 2 f2wx) 3 f3wx) 4 f4x) 5 f5x) 6 f6x) 0 g22) 4 f422) 6 f622) 5 f522) 2 f2w22) 3 f3w22) (fT (fT (fT (fT (fT (fT vG 1 gsx) 7 Fx) 8 L8x) 1 gs22) 7 F22) 8 L822)) H := fz_P ht hB9.1
        have hD : va_D A (WR a k h0 (fT (fT (fT (fT (fT (fT (fT (fT (fT (fT vi 11 qkx) 116 fxx) 5 cn2x) 6 rn2x) 7 gn2x) 116 fx22) 5 cn222) 6 rn222) 7 gn222) 11 0) (fT (fT vj 12 qdx) 12 qd22) (fT (fT (fT (fT (fT (fT (fT (fT (fT (fT (fT (fT (fT vF 69 f69x) 0 gx) 2 f2wx) 3 f3wx) 4 f4x) 5 f5x) 6 f6x) 0 g22) 4 f422) 6 f622) 5 f522) 2 f2w22) 3 f3w22) (fT (fT (fT (fT (fT (fT vG 1 gsx) 7 Fx) 8 L8x) 1 gs22) 7 F22) 8 L822)) := hB9.2.weaken (fun _ q _ h => hFc q.1 h)
        have e9 : fT (fT (fT (fT (fT vi 11 0) 116 fx22) 5 cn222) 6 rn222) 7 gn222 = fT (fT (fT (fT (fT (fT (fT (fT (fT (fT vi 11 qkx) 116 fxx) 5 cn2x) 6 rn2x) 7 gn2x) 116 fx22) 5 cn222) 6 rn222) 7 gn222) 11 0 := ((congrArg (fun g9 => fT (fT (fT (fT g9 5 cn222) 6 rn222) 7 gn222) 11 0) ((fT_sw _ _ _ (Nat.ne_of_beq_eq_false rfl)).trans (congrArg (fun g9 => fT g9 7 gn2x) ((fT_sw _ _ _ (Nat.ne_of_beq_eq_false rfl)).trans (congrArg (fun g9 => fT g9 6 rn2x) ((fT_sw _ _ _ (Nat.ne_of_beq_eq_false rfl)).trans (congrArg (fun g9 => fT g9 5 cn2x) (fT_sm _ _ _ _)))))))).trans ((congrArg (fun g9 => fT (fT (fT g9 6 rn222) 7 gn222) 11 0) ((fT_sw _ _ _ (Nat.ne_of_beq_eq_false rfl)).trans (congrArg (fun g9 => fT g9 7 gn2x) ((fT_sw _ _ _ (Nat.ne_of_beq_eq_false rfl)).trans (congrArg (fun g9 => fT g9 6 rn2x) (fT_sm _ _ _ _)))))).trans ((congrArg (fun g9 => fT (fT g9 7 gn222) 11 0) ((fT_sw _ _ _ (Nat.ne_of_beq_eq_false rfl)).trans (congrArg (fun g9 => fT g9 7 gn2x) (fT_sm _ _ _ _)))).trans ((congrArg (fun g9 => fT g9 11 0) (fT_sm _ _ _ _)).trans ((fT_sw _ _ _ (Nat.ne_of_beq_eq_false rfl)).trans (congrArg (fun g9 => fT g9 7 gn222) ((fT_sw _ _ _ (Nat.ne_of_beq_eq_false rfl)).trans (congrArg (fun g9 => fT g9 6 rn222) ((fT_sw _ _ _ (Nat.ne_of_beq_eq_false rfl)).trans (congrArg (fun g9 => fT g9 5 cn222) ((fT_sw _ _ _ (Nat.ne_of_beq_eq_false rfl)).trans (congrArg (fun g9 => fT g9 116 fx22) (fT_sm _ _ _ _))))))))))))).symm
        rw [← e9] at hP hD
        clear e9
        have e9 : fT vj 12 qd22 = fT (fT vj 12 qdx) 12 qd22 := (fT_sm _ _ _ _).symm
        rw [← e9] at hP hD
        clear e9
        have e9 : fT (fT (fT (fT (fT (fT (fT vF 69 f69x) 0 g22) 2 f2w22) 3 f3w22) 4 f422) 5 f522) 6 f622 = fT (fT (fT (fT (fT (fT (fT (fT (fT (fT (fT (fT (fT vF 69 f69x) 0 gx) 2 f2wx) 3 f3wx) 4 f4x) 5 f5x) 6 f6x) 0 g22) 4 f422) 6 f622) 5 f522) 2 f2w22) 3 f3w22 := ((congrArg (fun g9 => fT (fT (fT (fT (fT g9 4 f422) 6 f622) 5 f522) 2 f2w22) 3 f3w22) ((fT_sw _ _ _ (Nat.ne_of_beq_eq_false rfl)).trans (congrArg (fun g9 => fT g9 6 f6x) ((fT_sw _ _ _ (Nat.ne_of_beq_eq_false rfl)).trans (congrArg (fun g9 => fT g9 5 f5x) ((fT_sw _ _ _ (Nat.ne_of_beq_eq_false rfl)).trans (congrArg (fun g9 => fT g9 4 f4x) ((fT_sw _ _ _ (Nat.ne_of_beq_eq_false rfl)).trans (congrArg (fun g9 => fT g9 3 f3wx) ((fT_sw _ _ _ (Nat.ne_of_beq_eq_false rfl)).trans (congrArg (fun g9 => fT g9 2 f2wx) (fT_sm _ _ _ _)))))))))))).trans ((congrArg (fun g9 => fT (fT (fT (fT g9 6 f622) 5 f522) 2 f2w22) 3 f3w22) ((fT_sw _ _ _ (Nat.ne_of_beq_eq_false rfl)).trans (congrArg (fun g9 => fT g9 6 f6x) ((fT_sw _ _ _ (Nat.ne_of_beq_eq_false rfl)).trans (congrArg (fun g9 => fT g9 5 f5x) (fT_sm _ _ _ _)))))).trans ((congrArg (fun g9 => fT (fT (fT g9 5 f522) 2 f2w22) 3 f3w22) (fT_sm _ _ _ _)).trans ((congrArg (fun g9 => fT (fT g9 2 f2w22) 3 f3w22) ((fT_sw _ _ _ (Nat.ne_of_beq_eq_false rfl)).trans (congrArg (fun g9 => fT g9 6 f622) (fT_sm _ _ _ _)))).trans ((congrArg (fun g9 => fT g9 3 f3w22) ((fT_sw _ _ _ (Nat.ne_of_beq_eq_false rfl)).trans (congrArg (fun g9 => fT g9 6 f622) ((fT_sw _ _ _ (Nat.ne_of_beq_eq_false rfl)).trans (congrArg (fun g9 => fT g9 5 f522) ((fT_sw _ _ _ (Nat.ne_of_beq_eq_false rfl)).trans (congrArg (fun g9 => fT g9 4 f422) ((fT_sw _ _ _ (Nat.ne_of_beq_eq_false rfl)).trans (congrArg (fun g9 => fT g9 3 f3wx) (fT_sm _ _ _ _)))))))))).trans ((fT_sw _ _ _ (Nat.ne_of_beq_eq_false rfl)).trans (congrArg (fun g9 => fT g9 6 f622) ((fT_sw _ _ _ (Nat.ne_of_beq_eq_false rfl)).trans (congrArg (fun g9 => fT g9 5 f522) ((fT_sw _ _ _ (Nat.ne_of_beq_eq_false rfl)).trans (congrArg (fun g9 => fT g9 4 f422) (fT_sm _ _ _ _)))))))))))).symm
        rw [← e9] at hP hD
        clear e9
        have e9 : fT (fT (fT vG 1 gs22) 7 F22) 8 L822 = fT (fT (fT (fT (fT (fT vG 1 gsx) 7 Fx) 8 L8x) 1 gs22) 7 F22) 8 L822 := ((congrArg (fun g9 => fT (fT g9 7 F22) 8 L822) ((fT_sw _ _ _ (Nat.ne_of_beq_eq_false rfl)).trans (congrArg (fun g9 => fT g9 8 L8x) ((fT_sw _ _ _ (Nat.ne_of_beq_eq_false rfl)).trans (congrArg (fun g9 => fT g9 7 Fx) (fT_sm _ _ _ _)))))).trans ((congrArg (fun g9 => fT g9 8 L822) ((fT_sw _ _ _ (Nat.ne_of_beq_eq_false rfl)).trans (congrArg (fun g9 => fT g9 8 L8x) (fT_sm _ _ _ _)))).trans (fT_sm _ _ _ _))).symm
        rw [← e9] at hP hD
        clear e9
        have hP : va_P (dC, dI) vwCl (WR a k h0 (fT (fT (fT (fT (fT vi 11 0) 116 fx22) 5 cn222) 6 rn222) 7 gn222) (fT vj 12 qd22) (fT (fT (fT (fT (fT (fT (fT vF 69 f69x) 0 g22) 2 f2w22) 3 f3w22) 4 f422) 5 f522) 6 f622) (fT (fT (fT vG 1 gs22) 7 F22) 8 L822)) H := hP
        have hD : va_D A (WR a k h0 (fT (fT (fT (fT (fT vi 11 0) 116 fx22) 5 cn222) 6 rn222) 7 gn222) (fT vj 12 qd22) (fT (fT (fT (fT (fT (fT (fT vF 69 f69x) 0 g22) 2 f2w22) 3 f3w22) 4 f422) 5 f522) 6 f622) (fT (fT (fT vG 1 gs22) 7 F22) 8 L822)) := hD
        revert hw9
        refine fz_a5 ?_
        intro f22_0 f22_1 f22_2 f22_3 f22_4
        refine lv_if_eq (tgt := 30) hx hb dX12_counts_25 (by decide) (fun c_25 => ?_) (fun c_25 => ?_)
        · have t_25 : (r22).toInt = 0 := toI_eq c_25 rfl (by decide)
          refine lv_aload_n hx hb dX12_counts_30 rfl (lv_at hl 0 rfl) ?_
          have hFc := allFree hD hS hA
          refine va_calli (va_runV (As := []) (rest := []) ⟨hx, hb, hml, hown, hts⟩ (r_X12_nextWays l dC dI a k h0 (fT (fT (fT (fT (fT vi 11 0) 116 fx22) 5 cn222) 6 rn222) 7 gn222) (fT vj 12 qd22) (fT (fT (fT (fT (fT (fT (fT vF 69 f69x) 0 g22) 2 f2w22) 3 f3w22) 4 f422) 5 f522) 6 f622) (fT (fT (fT vG 1 gs22) 7 F22) 8 L822) mr (by first | with_reducible assumption | decide | omega | rfl | assumption) (by first | with_reducible assumption | decide | omega | rfl | assumption) (hc1) H.size) (cwV 0 hts gwsRX12_counts_3 rfl rfl rfl hd_yX12_nextWays_RX12 (by decide +kernel)) (fz_pre (va_recv hK hP (ci := 12) (q0 := 0) rfl rfl) hP hK hD) rfl rfl hl.1 rfl (lv_room (Nat.le_of_ble_eq_true rfl)) dX12_counts_31 (by decide +kernel)) hS (fun q _ h => hFc q h) hFc (fun r31 f6931 t9_ H locs ht hvm hw9 hB9 hz1 hk1 hS => ?_)
          have hP : va_P (dC, dI) vwCl (WR a k h0 (fT (fT (fT (fT (fT vi 11 0) 116 fx22) 5 cn222) 6 rn222) 7 gn222) (fT vj 12 qd22) (fT (fT (fT (fT (fT (fT (fT (fT vF 69 f69x) 0 g22) 2 f2w22) 3 f3w22) 4 f422) 5 f522) 6 f622) 69 f6931) (fT (fT (fT vG 1 gs22) 7 F22) 8 L822)) H := fz_P ht hB9.1
          have hD : va_D A (WR a k h0 (fT (fT (fT (fT (fT vi 11 0) 116 fx22) 5 cn222) 6 rn222) 7 gn222) (fT vj 12 qd22) (fT (fT (fT (fT (fT (fT (fT (fT vF 69 f69x) 0 g22) 2 f2w22) 3 f3w22) 4 f422) 5 f522) 6 f622) 69 f6931) (fT (fT (fT vG 1 gs22) 7 F22) 8 L822)) := hB9.2.weaken (fun _ q _ h => hFc q.1 h)
          have e9 : fT (fT (fT (fT (fT (fT (fT vF 69 f6931) 0 g22) 2 f2w22) 3 f3w22) 4 f422) 5 f522) 6 f622 = fT (fT (fT (fT (fT (fT (fT (fT vF 69 f69x) 0 g22) 2 f2w22) 3 f3w22) 4 f422) 5 f522) 6 f622) 69 f6931 := ((fT_sw _ _ _ (Nat.ne_of_beq_eq_false rfl)).trans (congrArg (fun g9 => fT g9 6 f622) ((fT_sw _ _ _ (Nat.ne_of_beq_eq_false rfl)).trans (congrArg (fun g9 => fT g9 5 f522) ((fT_sw _ _ _ (Nat.ne_of_beq_eq_false rfl)).trans (congrArg (fun g9 => fT g9 4 f422) ((fT_sw _ _ _ (Nat.ne_of_beq_eq_false rfl)).trans (congrArg (fun g9 => fT g9 3 f3w22) ((fT_sw _ _ _ (Nat.ne_of_beq_eq_false rfl)).trans (congrArg (fun g9 => fT g9 2 f2w22) ((fT_sw _ _ _ (Nat.ne_of_beq_eq_false rfl)).trans (congrArg (fun g9 => fT g9 0 g22) (fT_sm _ _ _ _))))))))))))).symm
          rw [← e9] at hP hD
          clear e9
          have hP : va_P (dC, dI) vwCl (WR a k h0 (fT (fT (fT (fT (fT vi 11 0) 116 fx22) 5 cn222) 6 rn222) 7 gn222) (fT vj 12 qd22) (fT (fT (fT (fT (fT (fT (fT vF 69 f6931) 0 g22) 2 f2w22) 3 f3w22) 4 f422) 5 f522) 6 f622) (fT (fT (fT vG 1 gs22) 7 F22) 8 L822)) H := hP
          have hD : va_D A (WR a k h0 (fT (fT (fT (fT (fT vi 11 0) 116 fx22) 5 cn222) 6 rn222) 7 gn222) (fT vj 12 qd22) (fT (fT (fT (fT (fT (fT (fT vF 69 f6931) 0 g22) 2 f2w22) 3 f3w22) 4 f422) 5 f522) 6 f622) (fT (fT (fT vG 1 gs22) 7 F22) 8 L822)) := hD
          rcases hw9 with ⟨rfl, f31_0, f31_1⟩ | ⟨rfl, f31_0⟩
          · have f31_0 : ChO (vF 59) f6931 mr := f31_0
            have f31_1 : odo (cD f69x) (cD (vF 59)) mr < odo (cD f6931) (cD (vF 59)) mr := f31_1
            refine lv_istore_n hx hb dX12_counts_34 rfl hl (by decide) rfl (fun ls (hl : lv_has ls _ ([(1, .int 1), (0, .ref h0)])) => ?_)
            refine lv_goto (tgt := 15) hx hb dX12_counts_35 (by decide) ?_
            have hl : lv_has _ _ ([(0, .ref h0), (1, .int 1)]) := lv_sub hl [1, 0] rfl
            exact ih15 1 f6931 g22 f2w22 f3w22 f422 f522 f622 gs22 F22 L822 qd22 0 fx22 cn222 rn222 gn222 m222 _ _ _ (f22_0) (f31_0) (f22_1) (fun q hq => by (rw [f22_2 _ (by omega)]); exact ho q hq) (by (have h8 := odo_lt (f := cD f69x) (b := cD (vF 59)) mr (fun q hq => hc1.dg hq)); (have h9 := hfx.resolve_left (fun h => c_16 h.1)); (have h7 := f31_1); exact Or.inr (by omega)) hP hD hS hl
          · have f31_0 : ChO (vF 59) f6931 mr := f31_0
            refine lv_istore_n hx hb dX12_counts_34 rfl hl (by decide) rfl (fun ls (hl : lv_has ls _ ([(1, .int 0), (0, .ref h0)])) => ?_)
            refine lv_goto (tgt := 15) hx hb dX12_counts_35 (by decide) ?_
            have hl : lv_has _ _ ([(0, .ref h0), (1, .int 0)]) := lv_sub hl [1, 0] rfl
            exact ih15 0 f6931 g22 f2w22 f3w22 f422 f522 f622 gs22 F22 L822 qd22 0 fx22 cn222 rn222 gn222 m222 _ _ _ (f22_0) (f31_0) (f22_1) (fun q hq => by (rw [f22_2 _ (by omega)]); exact ho q hq) (by (have h8 := odo_lt (f := cD f69x) (b := cD (vF 59)) mr (fun q hq => hc1.dg hq)); (have h9 := hfx.resolve_left (fun h => c_16 h.1)); exact Or.inl ⟨rfl, by omega⟩) hP hD hS hl
        · have t_25 : ¬ (r22).toInt = 0 := toI_neq c_25 rfl (by decide)
          refine lv_iconst (v := 1) hx hb dX12_counts_28 (by decide) ?_
          refine W.widen (k := 0) (n := 0) (by decide +kernel) (by decide +kernel) ?_
          exact W.zret (v := 1) hx hb hr rfl (fun t9_ ht hW => ⟨⟨1, (g22, f2w22, f3w22, f422, f522, f622, gs22, F22, L822, qd22, 0, fx22, cn222, rn222, gn222, f69x, m222), rfl, by (try dsimp only); exact ⟨f22_0, f22_1, fun q hq => by (rw [f22_2 _ (by omega)]); exact ho q hq, Or.inr rfl⟩, by rw [ht]; exact hP, hD⟩, hS.F ht⟩) hS.2.2 dX12_counts_29
  · have t_4 : (r1).toInt = 0 := toI_nne c_4 rfl (by decide)
    refine lv_iconst (v := 0) hx hb dX12_counts_7 (by decide) ?_
    refine W.widen (k := 0) (n := 0) (by decide +kernel) (by decide +kernel) ?_
    have e9 : fT (fT (fT (fT (fT vi 11 (vi 11)) 116 (vi 116)) 5 (vi 5)) 6 (vi 6)) 7 (vi 7) = vi := (fT_id _ _ ((fT_ne _ _ (Nat.ne_of_beq_eq_false rfl)).trans ((fT_ne _ _ (Nat.ne_of_beq_eq_false rfl)).trans ((fT_ne _ _ (Nat.ne_of_beq_eq_false rfl)).trans (fT_ne _ _ (Nat.ne_of_beq_eq_false rfl)))))).trans ((fT_id _ _ ((fT_ne _ _ (Nat.ne_of_beq_eq_false rfl)).trans ((fT_ne _ _ (Nat.ne_of_beq_eq_false rfl)).trans (fT_ne _ _ (Nat.ne_of_beq_eq_false rfl))))).trans ((fT_id _ _ ((fT_ne _ _ (Nat.ne_of_beq_eq_false rfl)).trans (fT_ne _ _ (Nat.ne_of_beq_eq_false rfl)))).trans ((fT_id _ _ (fT_ne _ _ (Nat.ne_of_beq_eq_false rfl))).trans (fT_id _ _ (rfl)))))
    have hP : va_P (dC, dI) vwCl (WR a k h0 (fT (fT (fT (fT (fT vi 11 (vi 11)) 116 (vi 116)) 5 (vi 5)) 6 (vi 6)) 7 (vi 7)) vj vF vG) H := by rw [e9]; exact hP
    have hD : va_D A (WR a k h0 (fT (fT (fT (fT (fT vi 11 (vi 11)) 116 (vi 116)) 5 (vi 5)) 6 (vi 6)) 7 (vi 7)) vj vF vG) := by rw [e9]; exact hD
    clear e9
    have e9 : fT vj 12 (vj 12) = vj := fT_id _ _ (rfl)
    have hP : va_P (dC, dI) vwCl (WR a k h0 (fT (fT (fT (fT (fT vi 11 (vi 11)) 116 (vi 116)) 5 (vi 5)) 6 (vi 6)) 7 (vi 7)) (fT vj 12 (vj 12)) vF vG) H := by rw [e9]; exact hP
    have hD : va_D A (WR a k h0 (fT (fT (fT (fT (fT vi 11 (vi 11)) 116 (vi 116)) 5 (vi 5)) 6 (vi 6)) 7 (vi 7)) (fT vj 12 (vj 12)) vF vG) := by rw [e9]; exact hD
    clear e9
    have e9 : fT (fT (fT (fT (fT (fT (fT vF 69 (vF 69)) 0 (vF 0)) 2 (vF 2)) 3 (vF 3)) 4 (vF 4)) 5 (vF 5)) 6 (vF 6) = vF := (fT_id _ _ ((fT_ne _ _ (Nat.ne_of_beq_eq_false rfl)).trans ((fT_ne _ _ (Nat.ne_of_beq_eq_false rfl)).trans ((fT_ne _ _ (Nat.ne_of_beq_eq_false rfl)).trans ((fT_ne _ _ (Nat.ne_of_beq_eq_false rfl)).trans ((fT_ne _ _ (Nat.ne_of_beq_eq_false rfl)).trans (fT_ne _ _ (Nat.ne_of_beq_eq_false rfl)))))))).trans ((fT_id _ _ ((fT_ne _ _ (Nat.ne_of_beq_eq_false rfl)).trans ((fT_ne _ _ (Nat.ne_of_beq_eq_false rfl)).trans ((fT_ne _ _ (Nat.ne_of_beq_eq_false rfl)).trans ((fT_ne _ _ (Nat.ne_of_beq_eq_false rfl)).trans (fT_ne _ _ (Nat.ne_of_beq_eq_false rfl))))))).trans ((fT_id _ _ ((fT_ne _ _ (Nat.ne_of_beq_eq_false rfl)).trans ((fT_ne _ _ (Nat.ne_of_beq_eq_false rfl)).trans ((fT_ne _ _ (Nat.ne_of_beq_eq_false rfl)).trans (fT_ne _ _ (Nat.ne_of_beq_eq_false rfl)))))).trans ((fT_id _ _ ((fT_ne _ _ (Nat.ne_of_beq_eq_false rfl)).trans ((fT_ne _ _ (Nat.ne_of_beq_eq_false rfl)).trans (fT_ne _ _ (Nat.ne_of_beq_eq_false rfl))))).trans ((fT_id _ _ ((fT_ne _ _ (Nat.ne_of_beq_eq_false rfl)).trans (fT_ne _ _ (Nat.ne_of_beq_eq_false rfl)))).trans ((fT_id _ _ (fT_ne _ _ (Nat.ne_of_beq_eq_false rfl))).trans (fT_id _ _ (rfl)))))))
    have hP : va_P (dC, dI) vwCl (WR a k h0 (fT (fT (fT (fT (fT vi 11 (vi 11)) 116 (vi 116)) 5 (vi 5)) 6 (vi 6)) 7 (vi 7)) (fT vj 12 (vj 12)) (fT (fT (fT (fT (fT (fT (fT vF 69 (vF 69)) 0 (vF 0)) 2 (vF 2)) 3 (vF 3)) 4 (vF 4)) 5 (vF 5)) 6 (vF 6)) vG) H := by rw [e9]; exact hP
    have hD : va_D A (WR a k h0 (fT (fT (fT (fT (fT vi 11 (vi 11)) 116 (vi 116)) 5 (vi 5)) 6 (vi 6)) 7 (vi 7)) (fT vj 12 (vj 12)) (fT (fT (fT (fT (fT (fT (fT vF 69 (vF 69)) 0 (vF 0)) 2 (vF 2)) 3 (vF 3)) 4 (vF 4)) 5 (vF 5)) 6 (vF 6)) vG) := by rw [e9]; exact hD
    clear e9
    have e9 : fT (fT (fT vG 1 (vG 1)) 7 (vG 7)) 8 (vG 8) = vG := (fT_id _ _ ((fT_ne _ _ (Nat.ne_of_beq_eq_false rfl)).trans (fT_ne _ _ (Nat.ne_of_beq_eq_false rfl)))).trans ((fT_id _ _ (fT_ne _ _ (Nat.ne_of_beq_eq_false rfl))).trans (fT_id _ _ (rfl)))
    have hP : va_P (dC, dI) vwCl (WR a k h0 (fT (fT (fT (fT (fT vi 11 (vi 11)) 116 (vi 116)) 5 (vi 5)) 6 (vi 6)) 7 (vi 7)) (fT vj 12 (vj 12)) (fT (fT (fT (fT (fT (fT (fT vF 69 (vF 69)) 0 (vF 0)) 2 (vF 2)) 3 (vF 3)) 4 (vF 4)) 5 (vF 5)) 6 (vF 6)) (fT (fT (fT vG 1 (vG 1)) 7 (vG 7)) 8 (vG 8))) H := by rw [e9]; exact hP
    have hD : va_D A (WR a k h0 (fT (fT (fT (fT (fT vi 11 (vi 11)) 116 (vi 116)) 5 (vi 5)) 6 (vi 6)) 7 (vi 7)) (fT vj 12 (vj 12)) (fT (fT (fT (fT (fT (fT (fT vF 69 (vF 69)) 0 (vF 0)) 2 (vF 2)) 3 (vF 3)) 4 (vF 4)) 5 (vF 5)) 6 (vF 6)) (fT (fT (fT vG 1 (vG 1)) 7 (vG 7)) 8 (vG 8))) := by rw [e9]; exact hD
    clear e9
    exact W.zret (v := 0) hx hb hr rfl (fun t9_ ht hW => ⟨⟨0, ((vF 0), (vF 2), (vF 3), (vF 4), (vF 5), (vF 6), (vG 1), (vG 7), (vG 8), (vj 12), (vi 11), (vi 116), (vi 5), (vi 6), (vi 7), (vF 69), mg), rfl, by (try dsimp only); exact ⟨hBg, hAn, fun q _ => rfl, Or.inl rfl⟩, by rw [ht]; exact hP, hD⟩, hS.F ht⟩) hS.2.2 dX12_counts_8
theorem dX12_count_0 : decode cX12_count 0 = .ok (.aload_n 0, 1) := dk_42 (by decide +kernel)
theorem dX12_count_1 : decode cX12_count 1 = .ok (.aload_n 0, 1) := dk_42 (by decide +kernel)
theorem dX12_count_2 : decode cX12_count 2 = .ok (.getfield 808, 3) := dk_180 (by decide +kernel)
theorem dX12_count_5 : decode cX12_count 5 = .ok (.ifCond .eq 7, 3) := dk_153 (by decide +kernel)
theorem dX12_count_8 : decode cX12_count 8 = .ok (.iconst 0, 1) := dk_3 (by decide +kernel)
theorem dX12_count_9 : decode cX12_count 9 = .ok (.goto 4, 3) := dk_167 (by decide +kernel)
theorem dX12_count_12 : decode cX12_count 12 = .ok (.iconst 1, 1) := dk_4 (by decide +kernel)
theorem dX12_count_13 : decode cX12_count 13 = .ok (.putfield 348, 3) := dk_181 (by decide +kernel)
theorem dX12_count_16 : decode cX12_count 16 = .ok (.aload_n 0, 1) := dk_42 (by decide +kernel)
theorem dX12_count_17 : decode cX12_count 17 = .ok (.getfield 348, 3) := dk_180 (by decide +kernel)
theorem dX12_count_20 : decode cX12_count 20 = .ok (.ifCond .le 5, 3) := dk_158 (by decide +kernel)
theorem dX12_count_23 : decode cX12_count 23 = .ok (.iconst 0, 1) := dk_3 (by decide +kernel)
theorem dX12_count_24 : decode cX12_count 24 = .ok (.ireturn, 1) := dk_172 (by decide +kernel)
theorem dX12_count_25 : decode cX12_count 25 = .ok (.iconst 0, 1) := dk_3 (by decide +kernel)
theorem dX12_count_26 : decode cX12_count 26 = .ok (.istore_n 1, 1) := dk_60 (by decide +kernel)
theorem dX12_count_27 : decode cX12_count 27 = .ok (.aload_n 0, 1) := dk_42 (by decide +kernel)
theorem dX12_count_28 : decode cX12_count 28 = .ok (.invokevirtual 873, 3) := dk_182 (by decide +kernel)
theorem dX12_count_31 : decode cX12_count 31 = .ok (.iconst 1, 1) := dk_4 (by decide +kernel)
theorem dX12_count_32 : decode cX12_count 32 = .ok (.istore_n 2, 1) := dk_61 (by decide +kernel)
theorem dX12_count_33 : decode cX12_count 33 = .ok (.iload_n 2, 1) := dk_28 (by decide +kernel)
theorem dX12_count_34 : decode cX12_count 34 = .ok (.ifCond .eq 26, 3) := dk_153 (by decide +kernel)
theorem dX12_count_37 : decode cX12_count 37 = .ok (.iload_n 1, 1) := dk_27 (by decide +kernel)
theorem dX12_count_38 : decode cX12_count 38 = .ok (.aload_n 0, 1) := dk_42 (by decide +kernel)
theorem dX12_count_39 : decode cX12_count 39 = .ok (.invokevirtual 891, 3) := dk_182 (by decide +kernel)
theorem dX12_count_42 : decode cX12_count 42 = .ok (.ifCond .eq 7, 3) := dk_153 (by decide +kernel)
theorem dX12_count_45 : decode cX12_count 45 = .ok (.iconst 1, 1) := dk_4 (by decide +kernel)
theorem dX12_count_46 : decode cX12_count 46 = .ok (.goto 4, 3) := dk_167 (by decide +kernel)
theorem dX12_count_49 : decode cX12_count 49 = .ok (.iconst 0, 1) := dk_3 (by decide +kernel)
theorem dX12_count_50 : decode cX12_count 50 = .ok (.iadd, 1) := dk_96 (by decide +kernel)
theorem dX12_count_51 : decode cX12_count 51 = .ok (.istore_n 1, 1) := dk_60 (by decide +kernel)
theorem dX12_count_52 : decode cX12_count 52 = .ok (.aload_n 0, 1) := dk_42 (by decide +kernel)
theorem dX12_count_53 : decode cX12_count 53 = .ok (.invokevirtual 888, 3) := dk_182 (by decide +kernel)
theorem dX12_count_56 : decode cX12_count 56 = .ok (.istore_n 2, 1) := dk_61 (by decide +kernel)
theorem dX12_count_57 : decode cX12_count 57 = .ok (.goto (-24), 3) := dk_167 (by decide +kernel)
theorem dX12_count_60 : decode cX12_count 60 = .ok (.iload_n 1, 1) := dk_27 (by decide +kernel)
theorem dX12_count_61 : decode cX12_count 61 = .ok (.ireturn, 1) := dk_172 (by decide +kernel)
def wsRX12_count : List Cond := .code yX12_count cX12_count 3 (some .int) :: ([.fieldLink RX12 808 "OptimaWorksModel" "isModel" "Z", .fieldLink RX12 348 "OptimaWorksModel" "thrown" "I"] ++ wsX120 ++ (wsV RX12 873 RX12 yX12_firstValues wsRX12_firstValues) ++ (wsV RX12 891 RX12 yX12_counts wsRX12_counts) ++ (wsV RX12 888 RX12 yX12_nextValues wsRX12_nextValues))
theorem iwsRX12_count_in12 : ∀ w ∈ wsX120, w ∈ wsRX12_count := fun _ h => List.mem_cons_of_mem _ (List.mem_append_left _ (List.mem_append_left _ (List.mem_append_left _ (List.mem_append_right _ h))))
theorem gwsRX12_count_0 : GoodIn wsRX12_count (wsV RX12 873 RX12 yX12_firstValues wsRX12_firstValues) := goodIn_sub (fun _ h => List.mem_cons_of_mem _ (List.mem_append_left _ (List.mem_append_left _ (List.mem_append_right _ h)))) (gdV (by decide +kernel) gdwsRX12_firstValues)
theorem gwsRX12_count_1 : GoodIn wsRX12_count (wsV RX12 891 RX12 yX12_counts wsRX12_counts) := goodIn_sub (fun _ h => List.mem_cons_of_mem _ (List.mem_append_left _ (List.mem_append_right _ h))) (gdV (by decide +kernel) gdwsRX12_counts)
theorem gwsRX12_count_2 : GoodIn wsRX12_count (wsV RX12 888 RX12 yX12_nextValues wsRX12_nextValues) := goodIn_sub (fun _ h => List.mem_cons_of_mem _ (List.mem_append_right _ h)) (gdV (by decide +kernel) gdwsRX12_nextValues)
theorem gdwsRX12_count : wsRX12_count.all goodWord = true := gdC rfl (gdA (gdA (gdA (gdA (by decide +kernel : ([.fieldLink RX12 808 "OptimaWorksModel" "isModel" "Z", .fieldLink RX12 348 "OptimaWorksModel" "thrown" "I"] : List Cond).all goodWord = true) gdwsX120) (gdV (by decide +kernel) gdwsRX12_firstValues)) (gdV (by decide +kernel) gdwsRX12_counts)) (gdV (by decide +kernel) gdwsRX12_nextValues))
set_option maxHeartbeats 4000000 in
set_option maxRecDepth 100000 in
/-- count() -/
theorem r_X12_count (l : Launch) (dC : Nat → ClassId) (dI : Nat → Nat → Nat) (a : Nat → Nat) (k : Nat → ClassId) (h0 : Nat) (vi : Nat → Int32) (vj : Nat → Int64) (vF : Nat → Nat → Int32) (vG : Nat → Nat → Int64) (vn : Nat) (mr : Nat) (gq : Nat) (dn : Nat) (mg : Nat → Int) (hBg : Bg (vF 0) mg) (hvn : vi 90 = nI vn) (hvn8 : vn ≤ 8) (hmr : vi 91 = nI mr) (hmr12 : mr ≤ 12) (hmg : vi 93 = nI gq) (hgq : gq ≤ 3) (hdn : vi 92 = nI dn) (hdn8 : dn ≤ 8) (hM : MdlB vF gq) (hlh : ∀ k, k < vn → (vF 56 k).toInt ≤ (vF 57 k).toInt) (hwm : WmO (vF 59) mr) (hAn : AnsB mg 1020) (sz : Nat) : Met l yX12_count wsRX12_count ({ frames := 8, cells := 0, slots := 0, locals := 203 }) (va_Pc [.ref h0] (fun U => U.heap.size = sz ∧ va_P (dC, dI) vwCl (WR a k h0 vi vj vF vG) U.heap ∧ va_K (dC, dI) vwCl (tX12 k) U ∧ va_D (fun _ => True) (WR a k h0 vi vj vF vG))) (va_Qi (fun (r : Int32) (u : (Nat → Int32) × (Nat → Int32) × (Nat → Int32) × (Nat → Int32) × (Nat → Int32) × (Nat → Int32) × (Nat → Int64) × (Nat → Int64) × (Nat → Int64) × (Int64) × (Int32) × (Int32) × (Int32) × (Int32) × (Int32) × (Int32) × (Nat → Int32) × (Nat → Int32) × (Nat → Int)) => (Bg (u.1) (u.2.2.2.2.2.2.2.2.2.2.2.2.2.2.2.2.2.2)) ∧ (AnsB (u.2.2.2.2.2.2.2.2.2.2.2.2.2.2.2.2.2.2) 1020) ∧ (∀ q, ((1000 ≤ q ∧ q < 1020) ∨ 1036 ≤ q) → (u.2.2.2.2.2.2.2.2.2.2.2.2.2.2.2.2.2.2) q = mg q) ∧ (∀ k, k < 9 → -999 ≤ ((u.2.2.2.2.2.2.2.2.2.2.2.2.2.2.2.2.2.1) k).toInt ∧ ((u.2.2.2.2.2.2.2.2.2.2.2.2.2.2.2.2.2.1) k).toInt ≤ 999)) (fun (u : (Nat → Int32) × (Nat → Int32) × (Nat → Int32) × (Nat → Int32) × (Nat → Int32) × (Nat → Int32) × (Nat → Int64) × (Nat → Int64) × (Nat → Int64) × (Int64) × (Int32) × (Int32) × (Int32) × (Int32) × (Int32) × (Int32) × (Nat → Int32) × (Nat → Int32) × (Nat → Int)) t => va_P (dC, dI) vwCl (WR a k h0 (fT (fT (fT (fT (fT (fT vi 0 (u.2.2.2.2.2.2.2.2.2.2.2.2.2.2.2.1)) 11 (u.2.2.2.2.2.2.2.2.2.2.1)) 116 (u.2.2.2.2.2.2.2.2.2.2.2.1)) 5 (u.2.2.2.2.2.2.2.2.2.2.2.2.1)) 6 (u.2.2.2.2.2.2.2.2.2.2.2.2.2.1)) 7 (u.2.2.2.2.2.2.2.2.2.2.2.2.2.2.1)) (fT vj 12 (u.2.2.2.2.2.2.2.2.2.1)) (fT (fT (fT (fT (fT (fT (fT (fT vF 70 (u.2.2.2.2.2.2.2.2.2.2.2.2.2.2.2.2.2.1)) 0 (u.1)) 2 (u.2.1)) 3 (u.2.2.1)) 4 (u.2.2.2.1)) 5 (u.2.2.2.2.1)) 6 (u.2.2.2.2.2.1)) 69 (u.2.2.2.2.2.2.2.2.2.2.2.2.2.2.2.2.1)) (fT (fT (fT vG 1 (u.2.2.2.2.2.2.1)) 7 (u.2.2.2.2.2.2.2.1)) 8 (u.2.2.2.2.2.2.2.2.1))) t.heap ∧ va_D (va_A (WR a k h0 vi vj vF vG) sz) (WR a k h0 (fT (fT (fT (fT (fT (fT vi 0 (u.2.2.2.2.2.2.2.2.2.2.2.2.2.2.2.1)) 11 (u.2.2.2.2.2.2.2.2.2.2.1)) 116 (u.2.2.2.2.2.2.2.2.2.2.2.1)) 5 (u.2.2.2.2.2.2.2.2.2.2.2.2.1)) 6 (u.2.2.2.2.2.2.2.2.2.2.2.2.2.1)) 7 (u.2.2.2.2.2.2.2.2.2.2.2.2.2.2.1)) (fT vj 12 (u.2.2.2.2.2.2.2.2.2.1)) (fT (fT (fT (fT (fT (fT (fT (fT vF 70 (u.2.2.2.2.2.2.2.2.2.2.2.2.2.2.2.2.2.1)) 0 (u.1)) 2 (u.2.1)) 3 (u.2.2.1)) 4 (u.2.2.2.1)) 5 (u.2.2.2.2.1)) 6 (u.2.2.2.2.2.1)) 69 (u.2.2.2.2.2.2.2.2.2.2.2.2.2.2.2.2.1)) (fT (fT (fT vG 1 (u.2.2.2.2.2.2.1)) 7 (u.2.2.2.2.2.2.2.1)) 8 (u.2.2.2.2.2.2.2.2.1)))) (va_A (WR a k h0 vi vj vF vG) sz)) 0 0 (va_A (WR a k h0 vi vj vF vG) sz) := by
  refine Met.ofW (cc := cX12_count) (maxL := 3) (ret := (some .int)) (by decide) rfl ?_
  intro p e s m args below meth c s₁ B hml hv
  obtain ⟨rfl, hsz, hP, hK, hD0⟩ := hv
  have hx := B.exec
  have hb := B.bytes
  have hr := B.returns
  have hts := atoms_spec (ws := wsRX12_count) B.pre
  have hown : s.vm.findClass RX12 = some m.cls := findClass_of_methodNamed B.named
  have hlocks := B.notSynchronized
  subst hsz
  have hD := hD0.self (sz := s.heap.size)
  generalize hAe : va_A (WR a k h0 vi vj vF vG) s.heap.size = A at hD ⊢
  have hA : ∀ q : Nat, s.heap.size ≤ q → A q := fun q h => by rw [← hAe]; exact Or.inr h
  have hS : va_S A s.heap s.heap [] := va_S.rf
  have hl := lv_entry ([.ref h0]) (n := 3) (Nat.le_of_ble_eq_true rfl)
  rw [lg_entry_eq]
  generalize (lg_sl ([.ref h0]) ++ List.replicate (3 - (lg_sl ([.ref h0])).length) Slot.unset).toArray = ls at hl ⊢
  have hl : lv_has ls 3 [(0, .ref h0)] := hl
  refine lv_aload_n hx hb dX12_count_0 rfl (lv_at hl 0 rfl) ?_
  refine lv_aload_n hx hb dX12_count_1 rfl (lv_at hl 0 rfl) ?_
  refine va_get (D := (dC, dI)) (ci := 12) (v := .int (vi 95)) (C := RX12) (T := TX12) (N := 163) (fs := fM (vS a vi vj)) hx hb hts iwsRX12_count_in12 hown hK hP 0 rfl rfl 95 (by decide) (hts (.fieldLink RX12 808 "OptimaWorksModel" "isModel" "Z") (by decide +kernel)) (fun _ h9 => h9) rfl dX12_count_2 ?_
  refine lv_if_eq (tgt := 12) hx hb dX12_count_5 (by decide) (fun c_5 => ?_) (fun c_5 => ?_)
  · have t_5 : ((vi 95)).toInt = 0 := toI_eq c_5 rfl (by decide)
    refine lv_iconst (v := 1) hx hb dX12_count_12 (by decide) ?_
    refine va_put (D := (dC, dI)) (ci := 12) (v := .int 1) (ty := .int) (C := RX12) (T := TX12) (N := 163) (fs := fM (vS a vi vj)) hx hb hts iwsRX12_count_in12 tyX12 tyX12_ok nmX12 hown hK hP hD hS 0 rfl rfl 0 (by decide) (hts (.fieldLink RX12 348 "OptimaWorksModel" "thrown" "I") (by decide +kernel)) (fun _ h9 => h9) rfl (by decide +kernel) rfl rfl (Nat.le_of_ble_eq_true rfl) dX12_count_13 (fun H locs hP hD hS => ?_)
    have hP : va_P (dC, dI) vwCl (WR a k h0 (fT vi 0 1) vj vF vG) H := by rw [← WR_i 0 _ rfl]; exact hP
    have hD : va_D A (WR a k h0 (fT vi 0 1) vj vF vG) := by rw [← WR_i 0 _ rfl]; exact hD
    refine lv_aload_n hx hb dX12_count_16 rfl (lv_at hl 0 rfl) ?_
    refine va_get (D := (dC, dI)) (ci := 12) (v := .int 1) (C := RX12) (T := TX12) (N := 163) (fs := fM (vS a (fT vi 0 1) vj)) hx hb hts iwsRX12_count_in12 hown hK hP 0 rfl rfl 0 (by decide) (hts (.fieldLink RX12 348 "OptimaWorksModel" "thrown" "I") (by decide +kernel)) (fun _ h9 => h9) rfl dX12_count_17 ?_
    refine lv_if_le (tgt := 25) hx hb dX12_count_20 (by decide) (fun c9 => absurd c9 (by decide)) (fun _ => ?_)
    refine lv_iconst (v := 0) hx hb dX12_count_23 (by decide) ?_
    refine W.widen (k := 0) (n := 0) (by decide +kernel) (by decide +kernel) ?_
    have e9 : fT (fT (fT (fT (fT (fT vi 0 1) 11 (vi 11)) 116 (vi 116)) 5 (vi 5)) 6 (vi 6)) 7 (vi 7) = fT vi 0 1 := (fT_id _ _ ((fT_ne _ _ (Nat.ne_of_beq_eq_false rfl)).trans ((fT_ne _ _ (Nat.ne_of_beq_eq_false rfl)).trans ((fT_ne _ _ (Nat.ne_of_beq_eq_false rfl)).trans ((fT_ne _ _ (Nat.ne_of_beq_eq_false rfl)).trans (fT_ne _ _ (Nat.ne_of_beq_eq_false rfl))))))).trans ((fT_id _ _ ((fT_ne _ _ (Nat.ne_of_beq_eq_false rfl)).trans ((fT_ne _ _ (Nat.ne_of_beq_eq_false rfl)).trans ((fT_ne _ _ (Nat.ne_of_beq_eq_false rfl)).trans (fT_ne _ _ (Nat.ne_of_beq_eq_false rfl)))))).trans ((fT_id _ _ ((fT_ne _ _ (Nat.ne_of_beq_eq_false rfl)).trans ((fT_ne _ _ (Nat.ne_of_beq_eq_false rfl)).trans (fT_ne _ _ (Nat.ne_of_beq_eq_false rfl))))).trans ((fT_id _ _ ((fT_ne _ _ (Nat.ne_of_beq_eq_false rfl)).trans (fT_ne _ _ (Nat.ne_of_beq_eq_false rfl)))).trans (fT_id _ _ (fT_ne _ _ (Nat.ne_of_beq_eq_false rfl))))))
    have hP : va_P (dC, dI) vwCl (WR a k h0 (fT (fT (fT (fT (fT (fT vi 0 1) 11 (vi 11)) 116 (vi 116)) 5 (vi 5)) 6 (vi 6)) 7 (vi 7)) vj vF vG) H := by rw [e9]; exact hP
    have hD : va_D A (WR a k h0 (fT (fT (fT (fT (fT (fT vi 0 1) 11 (vi 11)) 116 (vi 116)) 5 (vi 5)) 6 (vi 6)) 7 (vi 7)) vj vF vG) := by rw [e9]; exact hD
    clear e9
    have e9 : fT vj 12 (vj 12) = vj := fT_id _ _ (rfl)
    have hP : va_P (dC, dI) vwCl (WR a k h0 (fT (fT (fT (fT (fT (fT vi 0 1) 11 (vi 11)) 116 (vi 116)) 5 (vi 5)) 6 (vi 6)) 7 (vi 7)) (fT vj 12 (vj 12)) vF vG) H := by rw [e9]; exact hP
    have hD : va_D A (WR a k h0 (fT (fT (fT (fT (fT (fT vi 0 1) 11 (vi 11)) 116 (vi 116)) 5 (vi 5)) 6 (vi 6)) 7 (vi 7)) (fT vj 12 (vj 12)) vF vG) := by rw [e9]; exact hD
    clear e9
    have e9 : fT (fT (fT (fT (fT (fT (fT (fT vF 70 (vF 70)) 0 (vF 0)) 2 (vF 2)) 3 (vF 3)) 4 (vF 4)) 5 (vF 5)) 6 (vF 6)) 69 (vF 69) = vF := (fT_id _ _ ((fT_ne _ _ (Nat.ne_of_beq_eq_false rfl)).trans ((fT_ne _ _ (Nat.ne_of_beq_eq_false rfl)).trans ((fT_ne _ _ (Nat.ne_of_beq_eq_false rfl)).trans ((fT_ne _ _ (Nat.ne_of_beq_eq_false rfl)).trans ((fT_ne _ _ (Nat.ne_of_beq_eq_false rfl)).trans ((fT_ne _ _ (Nat.ne_of_beq_eq_false rfl)).trans (fT_ne _ _ (Nat.ne_of_beq_eq_false rfl))))))))).trans ((fT_id _ _ ((fT_ne _ _ (Nat.ne_of_beq_eq_false rfl)).trans ((fT_ne _ _ (Nat.ne_of_beq_eq_false rfl)).trans ((fT_ne _ _ (Nat.ne_of_beq_eq_false rfl)).trans ((fT_ne _ _ (Nat.ne_of_beq_eq_false rfl)).trans ((fT_ne _ _ (Nat.ne_of_beq_eq_false rfl)).trans (fT_ne _ _ (Nat.ne_of_beq_eq_false rfl)))))))).trans ((fT_id _ _ ((fT_ne _ _ (Nat.ne_of_beq_eq_false rfl)).trans ((fT_ne _ _ (Nat.ne_of_beq_eq_false rfl)).trans ((fT_ne _ _ (Nat.ne_of_beq_eq_false rfl)).trans ((fT_ne _ _ (Nat.ne_of_beq_eq_false rfl)).trans (fT_ne _ _ (Nat.ne_of_beq_eq_false rfl))))))).trans ((fT_id _ _ ((fT_ne _ _ (Nat.ne_of_beq_eq_false rfl)).trans ((fT_ne _ _ (Nat.ne_of_beq_eq_false rfl)).trans ((fT_ne _ _ (Nat.ne_of_beq_eq_false rfl)).trans (fT_ne _ _ (Nat.ne_of_beq_eq_false rfl)))))).trans ((fT_id _ _ ((fT_ne _ _ (Nat.ne_of_beq_eq_false rfl)).trans ((fT_ne _ _ (Nat.ne_of_beq_eq_false rfl)).trans (fT_ne _ _ (Nat.ne_of_beq_eq_false rfl))))).trans ((fT_id _ _ ((fT_ne _ _ (Nat.ne_of_beq_eq_false rfl)).trans (fT_ne _ _ (Nat.ne_of_beq_eq_false rfl)))).trans ((fT_id _ _ (fT_ne _ _ (Nat.ne_of_beq_eq_false rfl))).trans (fT_id _ _ (rfl))))))))
    have hP : va_P (dC, dI) vwCl (WR a k h0 (fT (fT (fT (fT (fT (fT vi 0 1) 11 (vi 11)) 116 (vi 116)) 5 (vi 5)) 6 (vi 6)) 7 (vi 7)) (fT vj 12 (vj 12)) (fT (fT (fT (fT (fT (fT (fT (fT vF 70 (vF 70)) 0 (vF 0)) 2 (vF 2)) 3 (vF 3)) 4 (vF 4)) 5 (vF 5)) 6 (vF 6)) 69 (vF 69)) vG) H := by rw [e9]; exact hP
    have hD : va_D A (WR a k h0 (fT (fT (fT (fT (fT (fT vi 0 1) 11 (vi 11)) 116 (vi 116)) 5 (vi 5)) 6 (vi 6)) 7 (vi 7)) (fT vj 12 (vj 12)) (fT (fT (fT (fT (fT (fT (fT (fT vF 70 (vF 70)) 0 (vF 0)) 2 (vF 2)) 3 (vF 3)) 4 (vF 4)) 5 (vF 5)) 6 (vF 6)) 69 (vF 69)) vG) := by rw [e9]; exact hD
    clear e9
    have e9 : fT (fT (fT vG 1 (vG 1)) 7 (vG 7)) 8 (vG 8) = vG := (fT_id _ _ ((fT_ne _ _ (Nat.ne_of_beq_eq_false rfl)).trans (fT_ne _ _ (Nat.ne_of_beq_eq_false rfl)))).trans ((fT_id _ _ (fT_ne _ _ (Nat.ne_of_beq_eq_false rfl))).trans (fT_id _ _ (rfl)))
    have hP : va_P (dC, dI) vwCl (WR a k h0 (fT (fT (fT (fT (fT (fT vi 0 1) 11 (vi 11)) 116 (vi 116)) 5 (vi 5)) 6 (vi 6)) 7 (vi 7)) (fT vj 12 (vj 12)) (fT (fT (fT (fT (fT (fT (fT (fT vF 70 (vF 70)) 0 (vF 0)) 2 (vF 2)) 3 (vF 3)) 4 (vF 4)) 5 (vF 5)) 6 (vF 6)) 69 (vF 69)) (fT (fT (fT vG 1 (vG 1)) 7 (vG 7)) 8 (vG 8))) H := by rw [e9]; exact hP
    have hD : va_D A (WR a k h0 (fT (fT (fT (fT (fT (fT vi 0 1) 11 (vi 11)) 116 (vi 116)) 5 (vi 5)) 6 (vi 6)) 7 (vi 7)) (fT vj 12 (vj 12)) (fT (fT (fT (fT (fT (fT (fT (fT vF 70 (vF 70)) 0 (vF 0)) 2 (vF 2)) 3 (vF 3)) 4 (vF 4)) 5 (vF 5)) 6 (vF 6)) 69 (vF 69)) (fT (fT (fT vG 1 (vG 1)) 7 (vG 7)) 8 (vG 8))) := by rw [e9]; exact hD
    clear e9
    exact W.iret (v := 0) hx hb hr (fun t9_ ht hW => ⟨⟨0, ((vF 0), (vF 2), (vF 3), (vF 4), (vF 5), (vF 6), (vG 1), (vG 7), (vG 8), (vj 12), (vi 11), (vi 116), (vi 5), (vi 6), (vi 7), 1, (vF 69), (vF 70), mg), rfl, by (try dsimp only); exact ⟨hBg, hAn, fun q _ => rfl, hM.2.2.2.2.2.2⟩, by rw [ht]; exact hP, hD⟩, hS.F ht⟩) hS.2.2 dX12_count_24
  · have t_5 : ¬ ((vi 95)).toInt = 0 := toI_neq c_5 rfl (by decide)
    refine lv_iconst (v := 0) hx hb dX12_count_8 (by decide) ?_
    refine lv_goto (tgt := 13) hx hb dX12_count_9 (by decide) ?_
    refine va_put (D := (dC, dI)) (ci := 12) (v := .int 0) (ty := .int) (C := RX12) (T := TX12) (N := 163) (fs := fM (vS a vi vj)) hx hb hts iwsRX12_count_in12 tyX12 tyX12_ok nmX12 hown hK hP hD hS 0 rfl rfl 0 (by decide) (hts (.fieldLink RX12 348 "OptimaWorksModel" "thrown" "I") (by decide +kernel)) (fun _ h9 => h9) rfl (by decide +kernel) rfl rfl (Nat.le_of_ble_eq_true rfl) dX12_count_13 (fun H locs hP hD hS => ?_)
    have hP : va_P (dC, dI) vwCl (WR a k h0 (fT vi 0 0) vj vF vG) H := by rw [← WR_i 0 _ rfl]; exact hP
    have hD : va_D A (WR a k h0 (fT vi 0 0) vj vF vG) := by rw [← WR_i 0 _ rfl]; exact hD
    refine lv_aload_n hx hb dX12_count_16 rfl (lv_at hl 0 rfl) ?_
    refine va_get (D := (dC, dI)) (ci := 12) (v := .int 0) (C := RX12) (T := TX12) (N := 163) (fs := fM (vS a (fT vi 0 0) vj)) hx hb hts iwsRX12_count_in12 hown hK hP 0 rfl rfl 0 (by decide) (hts (.fieldLink RX12 348 "OptimaWorksModel" "thrown" "I") (by decide +kernel)) (fun _ h9 => h9) rfl dX12_count_17 ?_
    refine lv_if_le (tgt := 25) hx hb dX12_count_20 (by decide) (fun _ => ?_) (fun c9 => absurd (by decide) c9)
    refine lv_iconst (v := 0) hx hb dX12_count_25 (by decide) ?_
    refine lv_istore_n hx hb dX12_count_26 rfl hl (by decide) rfl (fun ls (hl : lv_has ls _ ([(1, .int 0), (0, .ref h0)])) => ?_)
    refine lv_aload_n hx hb dX12_count_27 rfl (lv_at hl 1 rfl) ?_
    have hFc := allFree hD hS hA
    refine va_callv (va_runV (As := []) (rest := []) ⟨hx, hb, hml, hown, hts⟩ (r_X12_firstValues l dC dI a k h0 (fT vi 0 0) vj vF vG vn (by first | with_reducible assumption | decide | omega | rfl | assumption) (by first | with_reducible assumption | decide | omega | rfl | assumption) H.size) (cwV 0 hts gwsRX12_count_0 rfl rfl rfl hd_yX12_firstValues_RX12 (by decide +kernel)) (fz_pre (va_recv hK hP (ci := 12) (q0 := 0) rfl rfl) hP hK hD) rfl rfl hl.1 rfl (lv_room (Nat.le_of_ble_eq_true rfl)) dX12_count_28 (by decide +kernel)) hS (fun q _ h => hFc q h) hFc (fun f7028 t9_ H locs ht hvm hw9 hB9 hz1 hk1 hS => ?_)
    have hP : va_P (dC, dI) vwCl (WR a k h0 (fT vi 0 0) vj (fT vF 70 f7028) vG) H := fz_P ht hB9.1
    have hD : va_D A (WR a k h0 (fT vi 0 0) vj (fT vF 70 f7028) vG) := hB9.2.weaken (fun _ q _ h => hFc q.1 h)
    revert hw9
    refine fz_a2 ?_
    intro f28_0 f28_1
    have f28_0 : ∀ k, k < vn → f7028 k = (vF 56) k := f28_0
    have f28_1 : ∀ k, vn ≤ k → f7028 k = (vF 70) k := f28_1
    refine lv_iconst (v := 1) hx hb dX12_count_31 (by decide) ?_
    refine lv_istore_n hx hb dX12_count_32 rfl hl (by decide) rfl (fun ls (hl : lv_has ls _ ([(2, .int 1), (1, .int 0), (0, .ref h0)])) => ?_)
    have e9 : fT (fT (fT (fT (fT (fT vi 0 0) 11 (vi 11)) 116 (vi 116)) 5 (vi 5)) 6 (vi 6)) 7 (vi 7) = fT vi 0 0 := by funext q9; by_cases h9_0 : q9 = 0; (subst h9_0; exact ((fT_ne _ _ (Nat.ne_of_beq_eq_false rfl)).trans ((fT_ne _ _ (Nat.ne_of_beq_eq_false rfl)).trans ((fT_ne _ _ (Nat.ne_of_beq_eq_false rfl)).trans ((fT_ne _ _ (Nat.ne_of_beq_eq_false rfl)).trans ((fT_ne _ _ (Nat.ne_of_beq_eq_false rfl)).trans (fT_eq _ _ _)))))).trans (Eq.trans (by first | with_reducible rfl | with_reducible assumption | (symm; with_reducible assumption) | rfl | assumption | (symm; assumption) | (subst_vars; rfl)) (fT_eq _ _ _).symm)); by_cases h9_11 : q9 = 11; (subst h9_11; exact ((fT_ne _ _ (Nat.ne_of_beq_eq_false rfl)).trans ((fT_ne _ _ (Nat.ne_of_beq_eq_false rfl)).trans ((fT_ne _ _ (Nat.ne_of_beq_eq_false rfl)).trans ((fT_ne _ _ (Nat.ne_of_beq_eq_false rfl)).trans (fT_eq _ _ _))))).trans (Eq.trans (by first | with_reducible rfl | with_reducible assumption | (symm; with_reducible assumption) | rfl | assumption | (symm; assumption) | (subst_vars; rfl)) (fT_ne _ _ (Nat.ne_of_beq_eq_false rfl)).symm)); by_cases h9_116 : q9 = 116; (subst h9_116; exact ((fT_ne _ _ (Nat.ne_of_beq_eq_false rfl)).trans ((fT_ne _ _ (Nat.ne_of_beq_eq_false rfl)).trans ((fT_ne _ _ (Nat.ne_of_beq_eq_false rfl)).trans (fT_eq _ _ _)))).trans (Eq.trans (by first | with_reducible rfl | with_reducible assumption | (symm; with_reducible assumption) | rfl | assumption | (symm; assumption) | (subst_vars; rfl)) (fT_ne _ _ (Nat.ne_of_beq_eq_false rfl)).symm)); by_cases h9_5 : q9 = 5; (subst h9_5; exact ((fT_ne _ _ (Nat.ne_of_beq_eq_false rfl)).trans ((fT_ne _ _ (Nat.ne_of_beq_eq_false rfl)).trans (fT_eq _ _ _))).trans (Eq.trans (by first | with_reducible rfl | with_reducible assumption | (symm; with_reducible assumption) | rfl | assumption | (symm; assumption) | (subst_vars; rfl)) (fT_ne _ _ (Nat.ne_of_beq_eq_false rfl)).symm)); by_cases h9_6 : q9 = 6; (subst h9_6; exact ((fT_ne _ _ (Nat.ne_of_beq_eq_false rfl)).trans (fT_eq _ _ _)).trans (Eq.trans (by first | with_reducible rfl | with_reducible assumption | (symm; with_reducible assumption) | rfl | assumption | (symm; assumption) | (subst_vars; rfl)) (fT_ne _ _ (Nat.ne_of_beq_eq_false rfl)).symm)); by_cases h9_7 : q9 = 7; (subst h9_7; exact (fT_eq _ _ _).trans (Eq.trans (by first | with_reducible rfl | with_reducible assumption | (symm; with_reducible assumption) | rfl | assumption | (symm; assumption) | (subst_vars; rfl)) (fT_ne _ _ (Nat.ne_of_beq_eq_false rfl)).symm)); exact ((fT_ne _ _ h9_7).trans ((fT_ne _ _ h9_6).trans ((fT_ne _ _ h9_5).trans ((fT_ne _ _ h9_116).trans ((fT_ne _ _ h9_11).trans (fT_ne _ _ h9_0)))))).trans (fT_ne _ _ h9_0).symm
    have hP : va_P (dC, dI) vwCl (WR a k h0 (fT (fT (fT (fT (fT (fT vi 0 0) 11 (vi 11)) 116 (vi 116)) 5 (vi 5)) 6 (vi 6)) 7 (vi 7)) vj (fT vF 70 f7028) vG) H := by rw [e9]; exact hP
    have hD : va_D A (WR a k h0 (fT (fT (fT (fT (fT (fT vi 0 0) 11 (vi 11)) 116 (vi 116)) 5 (vi 5)) 6 (vi 6)) 7 (vi 7)) vj (fT vF 70 f7028) vG) := by rw [e9]; exact hD
    clear e9
    have e9 : fT vj 12 (vj 12) = vj := by funext q9; by_cases h9_12 : q9 = 12; (subst h9_12; exact (fT_eq _ _ _).trans (Eq.trans (by first | with_reducible rfl | with_reducible assumption | (symm; with_reducible assumption) | rfl | assumption | (symm; assumption) | (subst_vars; rfl)) (Eq.refl _).symm)); exact (fT_ne _ _ h9_12).trans (Eq.refl _).symm
    have hP : va_P (dC, dI) vwCl (WR a k h0 (fT (fT (fT (fT (fT (fT vi 0 0) 11 (vi 11)) 116 (vi 116)) 5 (vi 5)) 6 (vi 6)) 7 (vi 7)) (fT vj 12 (vj 12)) (fT vF 70 f7028) vG) H := by rw [e9]; exact hP
    have hD : va_D A (WR a k h0 (fT (fT (fT (fT (fT (fT vi 0 0) 11 (vi 11)) 116 (vi 116)) 5 (vi 5)) 6 (vi 6)) 7 (vi 7)) (fT vj 12 (vj 12)) (fT vF 70 f7028) vG) := by rw [e9]; exact hD
    clear e9
    have e9 : fT (fT (fT (fT (fT (fT (fT (fT vF 70 f7028) 0 (vF 0)) 2 (vF 2)) 3 (vF 3)) 4 (vF 4)) 5 (vF 5)) 6 (vF 6)) 69 (vF 69) = fT vF 70 f7028 := by funext q9; by_cases h9_70 : q9 = 70; (subst h9_70; exact ((fT_ne _ _ (Nat.ne_of_beq_eq_false rfl)).trans ((fT_ne _ _ (Nat.ne_of_beq_eq_false rfl)).trans ((fT_ne _ _ (Nat.ne_of_beq_eq_false rfl)).trans ((fT_ne _ _ (Nat.ne_of_beq_eq_false rfl)).trans ((fT_ne _ _ (Nat.ne_of_beq_eq_false rfl)).trans ((fT_ne _ _ (Nat.ne_of_beq_eq_false rfl)).trans ((fT_ne _ _ (Nat.ne_of_beq_eq_false rfl)).trans (fT_eq _ _ _)))))))).trans (Eq.trans (by first | with_reducible rfl | with_reducible assumption | (symm; with_reducible assumption) | rfl | assumption | (symm; assumption) | (subst_vars; rfl)) (fT_eq _ _ _).symm)); by_cases h9_0 : q9 = 0; (subst h9_0; exact ((fT_ne _ _ (Nat.ne_of_beq_eq_false rfl)).trans ((fT_ne _ _ (Nat.ne_of_beq_eq_false rfl)).trans ((fT_ne _ _ (Nat.ne_of_beq_eq_false rfl)).trans ((fT_ne _ _ (Nat.ne_of_beq_eq_false rfl)).trans ((fT_ne _ _ (Nat.ne_of_beq_eq_false rfl)).trans ((fT_ne _ _ (Nat.ne_of_beq_eq_false rfl)).trans (fT_eq _ _ _))))))).trans (Eq.trans (by first | with_reducible rfl | with_reducible assumption | (symm; with_reducible assumption) | rfl | assumption | (symm; assumption) | (subst_vars; rfl)) (fT_ne _ _ (Nat.ne_of_beq_eq_false rfl)).symm)); by_cases h9_2 : q9 = 2; (subst h9_2; exact ((fT_ne _ _ (Nat.ne_of_beq_eq_false rfl)).trans ((fT_ne _ _ (Nat.ne_of_beq_eq_false rfl)).trans ((fT_ne _ _ (Nat.ne_of_beq_eq_false rfl)).trans ((fT_ne _ _ (Nat.ne_of_beq_eq_false rfl)).trans ((fT_ne _ _ (Nat.ne_of_beq_eq_false rfl)).trans (fT_eq _ _ _)))))).trans (Eq.trans (by first | with_reducible rfl | with_reducible assumption | (symm; with_reducible assumption) | rfl | assumption | (symm; assumption) | (subst_vars; rfl)) (fT_ne _ _ (Nat.ne_of_beq_eq_false rfl)).symm)); by_cases h9_3 : q9 = 3; (subst h9_3; exact ((fT_ne _ _ (Nat.ne_of_beq_eq_false rfl)).trans ((fT_ne _ _ (Nat.ne_of_beq_eq_false rfl)).trans ((fT_ne _ _ (Nat.ne_of_beq_eq_false rfl)).trans ((fT_ne _ _ (Nat.ne_of_beq_eq_false rfl)).trans (fT_eq _ _ _))))).trans (Eq.trans (by first | with_reducible rfl | with_reducible assumption | (symm; with_reducible assumption) | rfl | assumption | (symm; assumption) | (subst_vars; rfl)) (fT_ne _ _ (Nat.ne_of_beq_eq_false rfl)).symm)); by_cases h9_4 : q9 = 4; (subst h9_4; exact ((fT_ne _ _ (Nat.ne_of_beq_eq_false rfl)).trans ((fT_ne _ _ (Nat.ne_of_beq_eq_false rfl)).trans ((fT_ne _ _ (Nat.ne_of_beq_eq_false rfl)).trans (fT_eq _ _ _)))).trans (Eq.trans (by first | with_reducible rfl | with_reducible assumption | (symm; with_reducible assumption) | rfl | assumption | (symm; assumption) | (subst_vars; rfl)) (fT_ne _ _ (Nat.ne_of_beq_eq_false rfl)).symm)); by_cases h9_5 : q9 = 5; (subst h9_5; exact ((fT_ne _ _ (Nat.ne_of_beq_eq_false rfl)).trans ((fT_ne _ _ (Nat.ne_of_beq_eq_false rfl)).trans (fT_eq _ _ _))).trans (Eq.trans (by first | with_reducible rfl | with_reducible assumption | (symm; with_reducible assumption) | rfl | assumption | (symm; assumption) | (subst_vars; rfl)) (fT_ne _ _ (Nat.ne_of_beq_eq_false rfl)).symm)); by_cases h9_6 : q9 = 6; (subst h9_6; exact ((fT_ne _ _ (Nat.ne_of_beq_eq_false rfl)).trans (fT_eq _ _ _)).trans (Eq.trans (by first | with_reducible rfl | with_reducible assumption | (symm; with_reducible assumption) | rfl | assumption | (symm; assumption) | (subst_vars; rfl)) (fT_ne _ _ (Nat.ne_of_beq_eq_false rfl)).symm)); by_cases h9_69 : q9 = 69; (subst h9_69; exact (fT_eq _ _ _).trans (Eq.trans (by first | with_reducible rfl | with_reducible assumption | (symm; with_reducible assumption) | rfl | assumption | (symm; assumption) | (subst_vars; rfl)) (fT_ne _ _ (Nat.ne_of_beq_eq_false rfl)).symm)); exact ((fT_ne _ _ h9_69).trans ((fT_ne _ _ h9_6).trans ((fT_ne _ _ h9_5).trans ((fT_ne _ _ h9_4).trans ((fT_ne _ _ h9_3).trans ((fT_ne _ _ h9_2).trans ((fT_ne _ _ h9_0).trans (fT_ne _ _ h9_70)))))))).trans (fT_ne _ _ h9_70).symm
    have hP : va_P (dC, dI) vwCl (WR a k h0 (fT (fT (fT (fT (fT (fT vi 0 0) 11 (vi 11)) 116 (vi 116)) 5 (vi 5)) 6 (vi 6)) 7 (vi 7)) (fT vj 12 (vj 12)) (fT (fT (fT (fT (fT (fT (fT (fT vF 70 f7028) 0 (vF 0)) 2 (vF 2)) 3 (vF 3)) 4 (vF 4)) 5 (vF 5)) 6 (vF 6)) 69 (vF 69)) vG) H := by rw [e9]; exact hP
    have hD : va_D A (WR a k h0 (fT (fT (fT (fT (fT (fT vi 0 0) 11 (vi 11)) 116 (vi 116)) 5 (vi 5)) 6 (vi 6)) 7 (vi 7)) (fT vj 12 (vj 12)) (fT (fT (fT (fT (fT (fT (fT (fT vF 70 f7028) 0 (vF 0)) 2 (vF 2)) 3 (vF 3)) 4 (vF 4)) 5 (vF 5)) 6 (vF 6)) 69 (vF 69)) vG) := by rw [e9]; exact hD
    clear e9
    have e9 : fT (fT (fT vG 1 (vG 1)) 7 (vG 7)) 8 (vG 8) = vG := by funext q9; by_cases h9_1 : q9 = 1; (subst h9_1; exact ((fT_ne _ _ (Nat.ne_of_beq_eq_false rfl)).trans ((fT_ne _ _ (Nat.ne_of_beq_eq_false rfl)).trans (fT_eq _ _ _))).trans (Eq.trans (by first | with_reducible rfl | with_reducible assumption | (symm; with_reducible assumption) | rfl | assumption | (symm; assumption) | (subst_vars; rfl)) (Eq.refl _).symm)); by_cases h9_7 : q9 = 7; (subst h9_7; exact ((fT_ne _ _ (Nat.ne_of_beq_eq_false rfl)).trans (fT_eq _ _ _)).trans (Eq.trans (by first | with_reducible rfl | with_reducible assumption | (symm; with_reducible assumption) | rfl | assumption | (symm; assumption) | (subst_vars; rfl)) (Eq.refl _).symm)); by_cases h9_8 : q9 = 8; (subst h9_8; exact (fT_eq _ _ _).trans (Eq.trans (by first | with_reducible rfl | with_reducible assumption | (symm; with_reducible assumption) | rfl | assumption | (symm; assumption) | (subst_vars; rfl)) (Eq.refl _).symm)); exact ((fT_ne _ _ h9_8).trans ((fT_ne _ _ h9_7).trans (fT_ne _ _ h9_1))).trans (Eq.refl _).symm
    have hP : va_P (dC, dI) vwCl (WR a k h0 (fT (fT (fT (fT (fT (fT vi 0 0) 11 (vi 11)) 116 (vi 116)) 5 (vi 5)) 6 (vi 6)) 7 (vi 7)) (fT vj 12 (vj 12)) (fT (fT (fT (fT (fT (fT (fT (fT vF 70 f7028) 0 (vF 0)) 2 (vF 2)) 3 (vF 3)) 4 (vF 4)) 5 (vF 5)) 6 (vF 6)) 69 (vF 69)) (fT (fT (fT vG 1 (vG 1)) 7 (vG 7)) 8 (vG 8))) H := by rw [e9]; exact hP
    have hD : va_D A (WR a k h0 (fT (fT (fT (fT (fT (fT vi 0 0) 11 (vi 11)) 116 (vi 116)) 5 (vi 5)) 6 (vi 6)) 7 (vi 7)) (fT vj 12 (vj 12)) (fT (fT (fT (fT (fT (fT (fT (fT vF 70 f7028) 0 (vF 0)) 2 (vF 2)) 3 (vF 3)) 4 (vF 4)) 5 (vF 5)) 6 (vF 6)) 69 (vF 69)) (fT (fT (fT vG 1 (vG 1)) 7 (vG 7)) 8 (vG 8))) := by rw [e9]; exact hD
    clear e9
    have hl : lv_has _ _ ([(0, .ref h0), (1, .int 0), (2, .int 1)]) := lv_sub hl [2, 1, 0] rfl
    refine (fun (loop : ∀ (n9 : Nat) (nq : Int32) (mo : Int32) (f69x : Nat → Int32) (f70x : Nat → Int32) (gx : Nat → Int32) (f2wx : Nat → Int32) (f3wx : Nat → Int32) (f4x : Nat → Int32) (f5x : Nat → Int32) (f6x : Nat → Int32) (gsx : Nat → Int64) (Fx : Nat → Int64) (L8x : Nat → Int64) (qdx : Int64) (qkx : Int32) (fxx : Int32) (cn2x : Int32) (rn2x : Int32) (gn2x : Int32) (m1 : Nat → Int) (H : Heap) (locs : List Loc) (ls : Array Slot), (Bg gx m1) → (VaO (vF 56) (vF 57) (vF 58) f70x vn) → (∀ q, vn ≤ q → f70x q = vF 70 q) → (AnsB m1 1020) → (∀ q, ((1000 ≤ q ∧ q < 1020) ∨ 1036 ≤ q) → m1 q = mg q) →  ((mo = 0 ∧ 0 < n9) ∨ odoP (vR (vF 56) (vF 57)) vn < odo (vD (vF 56) f70x) (vR (vF 56) (vF 57)) vn + n9) → va_P (dC, dI) vwCl (WR a k h0 (fT (fT (fT (fT (fT (fT vi 0 0) 11 qkx) 116 fxx) 5 cn2x) 6 rn2x) 7 gn2x) (fT vj 12 qdx) (fT (fT (fT (fT (fT (fT (fT (fT vF 70 f70x) 0 gx) 2 f2wx) 3 f3wx) 4 f4x) 5 f5x) 6 f6x) 69 f69x) (fT (fT (fT vG 1 gsx) 7 Fx) 8 L8x)) H → va_D A (WR a k h0 (fT (fT (fT (fT (fT (fT vi 0 0) 11 qkx) 116 fxx) 5 cn2x) 6 rn2x) 7 gn2x) (fT vj 12 qdx) (fT (fT (fT (fT (fT (fT (fT (fT vF 70 f70x) 0 gx) 2 f2wx) 3 f3wx) 4 f4x) 5 f5x) 6 f6x) 69 f69x) (fT (fT (fT vG 1 gsx) 7 Fx) 8 L8x)) → va_S A s.heap H locs → lv_has ls 3 [(0, .ref h0), (1, .int nq), (2, .int mo)] → W p l e _ s m _ below meth c H locs 0 0 _ (F0 m 33 ls [])) => loop (odoP (vR (vF 56) (vF 57)) vn + 1) 0 1 (vF 69) f7028 (vF 0) (vF 2) (vF 3) (vF 4) (vF 5) (vF 6) (vG 1) (vG 7) (vG 8) (vj 12) (vi 11) (vi 116) (vi 5) (vi 6) (vi 7) mg _ _ _ (hBg) (VaO.first hlh f28_0) (f28_1) (hAn) (fun q _ => rfl) (Or.inr (by omega)) hP hD hS hl) ?_
    intro n9
    induction n9 with
    | zero => intro nq mo f69x f70x gx f2wx f3wx f4x f5x f6x gsx Fx L8x qdx qkx fxx cn2x rn2x gn2x m1 H locs ls hB1 hva hvr hA1 ho hf9; exact False.elim (by (have h9 := odo_lt (f := vD (vF 56) f70x) (b := vR (vF 56) (vF 57)) vn (fun q hq => hva.dg hq)); omega)
    | succ n9 ih33 =>
      intro nq mo f69x f70x gx f2wx f3wx f4x f5x f6x gsx Fx L8x qdx qkx fxx cn2x rn2x gn2x m1 H locs ls hB1 hva hvr hA1 ho hf33 hP hD hS hl
      have hfx := hf33
      refine lv_iload_n hx hb dX12_count_33 rfl (lv_at hl 2 rfl) ?_
      refine lv_if_eq (tgt := 60) hx hb dX12_count_34 (by decide) (fun c_34 => ?_) (fun c_34 => ?_)
      · have t_34 : (mo).toInt = 0 := toI_eq c_34 rfl (by decide)
        refine lv_iload_n hx hb dX12_count_60 rfl (lv_at hl 1 rfl) ?_
        refine W.widen (k := 0) (n := 0) (by decide +kernel) (by decide +kernel) ?_
        exact W.iret (v := nq) hx hb hr (fun t9_ ht hW => ⟨⟨nq, (gx, f2wx, f3wx, f4x, f5x, f6x, gsx, Fx, L8x, qdx, qkx, fxx, cn2x, rn2x, gn2x, 0, f69x, f70x, m1), rfl, by (try dsimp only); exact ⟨hB1, hA1, ho, VaO.box hM hva hvr⟩, by rw [ht]; exact hP, hD⟩, hS.F ht⟩) hS.2.2 dX12_count_61
      · have t_34 : ¬ (mo).toInt = 0 := toI_neq c_34 rfl (by decide)
        refine lv_iload_n hx hb dX12_count_37 rfl (lv_at hl 1 rfl) ?_
        refine lv_aload_n hx hb dX12_count_38 rfl (lv_at hl 0 rfl) ?_
        have hFc := allFree hD hS hA
        refine va_calli (va_runV (As := []) (rest := [.int nq]) ⟨hx, hb, hml, hown, hts⟩ (r_X12_counts l dC dI a k h0 (fT (fT (fT (fT (fT (fT vi 0 0) 11 qkx) 116 fxx) 5 cn2x) 6 rn2x) 7 gn2x) (fT vj 12 qdx) (fT (fT (fT (fT (fT (fT (fT (fT vF 70 f70x) 0 gx) 2 f2wx) 3 f3wx) 4 f4x) 5 f5x) 6 f6x) 69 f69x) (fT (fT (fT vG 1 gsx) 7 Fx) 8 L8x) vn mr gq dn m1 hB1 (by first | with_reducible assumption | decide | omega | rfl | assumption) (by first | with_reducible assumption | decide | omega | rfl | assumption) (by first | with_reducible assumption | decide | omega | rfl | assumption) (by first | with_reducible assumption | decide | omega | rfl | assumption) (by first | with_reducible assumption | decide | omega | rfl | assumption) (by first | with_reducible assumption | decide | omega | rfl | assumption) (by first | with_reducible assumption | decide | omega | rfl | assumption) (by first | with_reducible assumption | decide | omega | rfl | assumption) (hM.val (VaO.box hM hva hvr)) (by first | with_reducible assumption | decide | omega | rfl | assumption) (by first | with_reducible assumption | decide | omega | rfl | assumption) (hA1) H.size) (cwV 0 hts gwsRX12_count_1 rfl rfl rfl hd_yX12_counts_RX12 (by decide +kernel)) (fz_pre (va_recv hK hP (ci := 12) (q0 := 0) rfl rfl) hP hK hD) rfl rfl hl.1 rfl (lv_room (Nat.le_of_ble_eq_true rfl)) dX12_count_39 (by decide +kernel)) hS (fun q _ h => hFc q h) hFc (fun r39 u t9_ H locs ht hvm hw9 hB9 hz1 hk1 hS => ?_)
        revert u
        refine fz_p17 ?_
        intro g39 f2w39 f3w39 f439 f539 f639 gs39 F39 L839 qd39 qk39 fx39 cn239 rn239 gn239 f6939 m239 hw9 hB9
        try dsimp only at hw9 hB9
        have hP : va_P (dC, dI) vwCl (WR a k h0 (fT (fT (fT (fT (fT (fT (fT (fT (fT (fT (fT vi 0 0) 11 qkx) 116 fxx) 5 cn2x) 6 rn2x) 7 gn2x) 11 qk39) 116 fx39) 5 cn239) 6 rn239) 7 gn239) (fT (fT vj 12 qdx) 12 qd39) (fT (fT (fT (fT (fT (fT (fT (fT (fT (fT (fT (fT (fT (fT (fT vF 70 f70x) 0 gx) 2 f2wx) 3 f3wx) 4 f4x) 5 f5x) 6 f6x) 69 f69x) 69 f6939) 0 g39) 2 f2w39) 3 f3w39) 4 f439) 5 f539) 6 f639) (fT (fT (fT (fT (fT (fT vG 1 gsx) 7 Fx) 8 L8x) 1 gs39) 7 F39) 8 L839)) H := fz_P ht hB9.1
        have hD : va_D A (WR a k h0 (fT (fT (fT (fT (fT (fT (fT (fT (fT (fT (fT vi 0 0) 11 qkx) 116 fxx) 5 cn2x) 6 rn2x) 7 gn2x) 11 qk39) 116 fx39) 5 cn239) 6 rn239) 7 gn239) (fT (fT vj 12 qdx) 12 qd39) (fT (fT (fT (fT (fT (fT (fT (fT (fT (fT (fT (fT (fT (fT (fT vF 70 f70x) 0 gx) 2 f2wx) 3 f3wx) 4 f4x) 5 f5x) 6 f6x) 69 f69x) 69 f6939) 0 g39) 2 f2w39) 3 f3w39) 4 f439) 5 f539) 6 f639) (fT (fT (fT (fT (fT (fT vG 1 gsx) 7 Fx) 8 L8x) 1 gs39) 7 F39) 8 L839)) := hB9.2.weaken (fun _ q _ h => hFc q.1 h)
        have e9 : fT (fT (fT (fT (fT (fT vi 0 0) 11 qk39) 116 fx39) 5 cn239) 6 rn239) 7 gn239 = fT (fT (fT (fT (fT (fT (fT (fT (fT (fT (fT vi 0 0) 11 qkx) 116 fxx) 5 cn2x) 6 rn2x) 7 gn2x) 11 qk39) 116 fx39) 5 cn239) 6 rn239) 7 gn239 := ((congrArg (fun g9 => fT (fT (fT (fT g9 116 fx39) 5 cn239) 6 rn239) 7 gn239) ((fT_sw _ _ _ (Nat.ne_of_beq_eq_false rfl)).trans (congrArg (fun g9 => fT g9 7 gn2x) ((fT_sw _ _ _ (Nat.ne_of_beq_eq_false rfl)).trans (congrArg (fun g9 => fT g9 6 rn2x) ((fT_sw _ _ _ (Nat.ne_of_beq_eq_false rfl)).trans (congrArg (fun g9 => fT g9 5 cn2x) ((fT_sw _ _ _ (Nat.ne_of_beq_eq_false rfl)).trans (congrArg (fun g9 => fT g9 116 fxx) (fT_sm _ _ _ _)))))))))).trans ((congrArg (fun g9 => fT (fT (fT g9 5 cn239) 6 rn239) 7 gn239) ((fT_sw _ _ _ (Nat.ne_of_beq_eq_false rfl)).trans (congrArg (fun g9 => fT g9 7 gn2x) ((fT_sw _ _ _ (Nat.ne_of_beq_eq_false rfl)).trans (congrArg (fun g9 => fT g9 6 rn2x) ((fT_sw _ _ _ (Nat.ne_of_beq_eq_false rfl)).trans (congrArg (fun g9 => fT g9 5 cn2x) (fT_sm _ _ _ _)))))))).trans ((congrArg (fun g9 => fT (fT g9 6 rn239) 7 gn239) ((fT_sw _ _ _ (Nat.ne_of_beq_eq_false rfl)).trans (congrArg (fun g9 => fT g9 7 gn2x) ((fT_sw _ _ _ (Nat.ne_of_beq_eq_false rfl)).trans (congrArg (fun g9 => fT g9 6 rn2x) (fT_sm _ _ _ _)))))).trans ((congrArg (fun g9 => fT g9 7 gn239) ((fT_sw _ _ _ (Nat.ne_of_beq_eq_false rfl)).trans (congrArg (fun g9 => fT g9 7 gn2x) (fT_sm _ _ _ _)))).trans (fT_sm _ _ _ _))))).symm
        rw [← e9] at hP hD
        clear e9
        have e9 : fT vj 12 qd39 = fT (fT vj 12 qdx) 12 qd39 := (fT_sm _ _ _ _).symm
        rw [← e9] at hP hD
        clear e9
        have e9 : fT (fT (fT (fT (fT (fT (fT (fT vF 70 f70x) 0 g39) 2 f2w39) 3 f3w39) 4 f439) 5 f539) 6 f639) 69 f6939 = fT (fT (fT (fT (fT (fT (fT (fT (fT (fT (fT (fT (fT (fT (fT vF 70 f70x) 0 gx) 2 f2wx) 3 f3wx) 4 f4x) 5 f5x) 6 f6x) 69 f69x) 69 f6939) 0 g39) 2 f2w39) 3 f3w39) 4 f439) 5 f539) 6 f639 := ((congrArg (fun g9 => fT (fT (fT (fT (fT (fT g9 0 g39) 2 f2w39) 3 f3w39) 4 f439) 5 f539) 6 f639) (fT_sm _ _ _ _)).trans ((congrArg (fun g9 => fT (fT (fT (fT (fT g9 2 f2w39) 3 f3w39) 4 f439) 5 f539) 6 f639) ((fT_sw _ _ _ (Nat.ne_of_beq_eq_false rfl)).trans (congrArg (fun g9 => fT g9 69 f6939) ((fT_sw _ _ _ (Nat.ne_of_beq_eq_false rfl)).trans (congrArg (fun g9 => fT g9 6 f6x) ((fT_sw _ _ _ (Nat.ne_of_beq_eq_false rfl)).trans (congrArg (fun g9 => fT g9 5 f5x) ((fT_sw _ _ _ (Nat.ne_of_beq_eq_false rfl)).trans (congrArg (fun g9 => fT g9 4 f4x) ((fT_sw _ _ _ (Nat.ne_of_beq_eq_false rfl)).trans (congrArg (fun g9 => fT g9 3 f3wx) ((fT_sw _ _ _ (Nat.ne_of_beq_eq_false rfl)).trans (congrArg (fun g9 => fT g9 2 f2wx) (fT_sm _ _ _ _)))))))))))))).trans ((congrArg (fun g9 => fT (fT (fT (fT g9 3 f3w39) 4 f439) 5 f539) 6 f639) ((fT_sw _ _ _ (Nat.ne_of_beq_eq_false rfl)).trans (congrArg (fun g9 => fT g9 69 f6939) ((fT_sw _ _ _ (Nat.ne_of_beq_eq_false rfl)).trans (congrArg (fun g9 => fT g9 6 f6x) ((fT_sw _ _ _ (Nat.ne_of_beq_eq_false rfl)).trans (congrArg (fun g9 => fT g9 5 f5x) ((fT_sw _ _ _ (Nat.ne_of_beq_eq_false rfl)).trans (congrArg (fun g9 => fT g9 4 f4x) ((fT_sw _ _ _ (Nat.ne_of_beq_eq_false rfl)).trans (congrArg (fun g9 => fT g9 3 f3wx) (fT_sm _ _ _ _)))))))))))).trans ((congrArg (fun g9 => fT (fT (fT g9 4 f439) 5 f539) 6 f639) ((fT_sw _ _ _ (Nat.ne_of_beq_eq_false rfl)).trans (congrArg (fun g9 => fT g9 69 f6939) ((fT_sw _ _ _ (Nat.ne_of_beq_eq_false rfl)).trans (congrArg (fun g9 => fT g9 6 f6x) ((fT_sw _ _ _ (Nat.ne_of_beq_eq_false rfl)).trans (congrArg (fun g9 => fT g9 5 f5x) ((fT_sw _ _ _ (Nat.ne_of_beq_eq_false rfl)).trans (congrArg (fun g9 => fT g9 4 f4x) (fT_sm _ _ _ _)))))))))).trans ((congrArg (fun g9 => fT (fT g9 5 f539) 6 f639) ((fT_sw _ _ _ (Nat.ne_of_beq_eq_false rfl)).trans (congrArg (fun g9 => fT g9 69 f6939) ((fT_sw _ _ _ (Nat.ne_of_beq_eq_false rfl)).trans (congrArg (fun g9 => fT g9 6 f6x) ((fT_sw _ _ _ (Nat.ne_of_beq_eq_false rfl)).trans (congrArg (fun g9 => fT g9 5 f5x) (fT_sm _ _ _ _)))))))).trans ((congrArg (fun g9 => fT g9 6 f639) ((fT_sw _ _ _ (Nat.ne_of_beq_eq_false rfl)).trans (congrArg (fun g9 => fT g9 69 f6939) ((fT_sw _ _ _ (Nat.ne_of_beq_eq_false rfl)).trans (congrArg (fun g9 => fT g9 6 f6x) (fT_sm _ _ _ _)))))).trans ((fT_sw _ _ _ (Nat.ne_of_beq_eq_false rfl)).trans (congrArg (fun g9 => fT g9 69 f6939) (fT_sm _ _ _ _))))))))).symm
        rw [← e9] at hP hD
        clear e9
        have e9 : fT (fT (fT vG 1 gs39) 7 F39) 8 L839 = fT (fT (fT (fT (fT (fT vG 1 gsx) 7 Fx) 8 L8x) 1 gs39) 7 F39) 8 L839 := ((congrArg (fun g9 => fT (fT g9 7 F39) 8 L839) ((fT_sw _ _ _ (Nat.ne_of_beq_eq_false rfl)).trans (congrArg (fun g9 => fT g9 8 L8x) ((fT_sw _ _ _ (Nat.ne_of_beq_eq_false rfl)).trans (congrArg (fun g9 => fT g9 7 Fx) (fT_sm _ _ _ _)))))).trans ((congrArg (fun g9 => fT g9 8 L839) ((fT_sw _ _ _ (Nat.ne_of_beq_eq_false rfl)).trans (congrArg (fun g9 => fT g9 8 L8x) (fT_sm _ _ _ _)))).trans (fT_sm _ _ _ _))).symm
        rw [← e9] at hP hD
        clear e9
        have hP : va_P (dC, dI) vwCl (WR a k h0 (fT (fT (fT (fT (fT (fT vi 0 0) 11 qk39) 116 fx39) 5 cn239) 6 rn239) 7 gn239) (fT vj 12 qd39) (fT (fT (fT (fT (fT (fT (fT (fT vF 70 f70x) 0 g39) 2 f2w39) 3 f3w39) 4 f439) 5 f539) 6 f639) 69 f6939) (fT (fT (fT vG 1 gs39) 7 F39) 8 L839)) H := hP
        have hD : va_D A (WR a k h0 (fT (fT (fT (fT (fT (fT vi 0 0) 11 qk39) 116 fx39) 5 cn239) 6 rn239) 7 gn239) (fT vj 12 qd39) (fT (fT (fT (fT (fT (fT (fT (fT vF 70 f70x) 0 g39) 2 f2w39) 3 f3w39) 4 f439) 5 f539) 6 f639) 69 f6939) (fT (fT (fT vG 1 gs39) 7 F39) 8 L839)) := hD
        revert hw9
        refine fz_a4 ?_
        intro f39_0 f39_1 f39_2 f39_3
        refine W.cut (pc := 50) (fun H locs ls stk => ∃ (b9 : Int32),  stk = [.int b9, .int nq] ∧ va_P (dC, dI) vwCl (WR a k h0 (fT (fT (fT (fT (fT (fT vi 0 0) 11 qk39) 116 fx39) 5 cn239) 6 rn239) 7 gn239) (fT vj 12 qd39) (fT (fT (fT (fT (fT (fT (fT (fT vF 70 f70x) 0 g39) 2 f2w39) 3 f3w39) 4 f439) 5 f539) 6 f639) 69 f6939) (fT (fT (fT vG 1 gs39) 7 F39) 8 L839)) H ∧ va_D A (WR a k h0 (fT (fT (fT (fT (fT (fT vi 0 0) 11 qk39) 116 fx39) 5 cn239) 6 rn239) 7 gn239) (fT vj 12 qd39) (fT (fT (fT (fT (fT (fT (fT (fT vF 70 f70x) 0 g39) 2 f2w39) 3 f3w39) 4 f439) 5 f539) 6 f639) 69 f6939) (fT (fT (fT vG 1 gs39) 7 F39) 8 L839)) ∧ va_S A s.heap H locs ∧ lv_has ls 3 [(0, .ref h0)]) (fun join1 => ?_) ?_
        · refine lv_if_eq (tgt := 49) hx hb dX12_count_42 (by decide) (fun c_42 => ?_) (fun c_42 => ?_)
          · have t_42 : (r39).toInt = 0 := toI_eq c_42 rfl (by decide)
            refine lv_iconst (v := 0) hx hb dX12_count_49 (by decide) ?_
            have hl : lv_has _ _ ([(0, .ref h0)]) := lv_sub hl [0] rfl
            exact join1 _ _ _ _ ⟨0, rfl, hP, hD, hS, hl⟩
          · have t_42 : ¬ (r39).toInt = 0 := toI_neq c_42 rfl (by decide)
            refine lv_iconst (v := 1) hx hb dX12_count_45 (by decide) ?_
            refine lv_goto (tgt := 50) hx hb dX12_count_46 (by decide) ?_
            have hl : lv_has _ _ ([(0, .ref h0)]) := lv_sub hl [0] rfl
            exact join1 _ _ _ _ ⟨1, rfl, hP, hD, hS, hl⟩
        · rintro H locs ls stk ⟨b9, rfl, hP, hD, hS, hl⟩
          refine lv_iadd hx hb dX12_count_50 ?_
          refine lv_istore_n hx hb dX12_count_51 rfl hl (by decide) rfl (fun ls (hl : lv_has ls _ ([(1, .int (nq + b9)), (0, .ref h0)])) => ?_)
          refine lv_aload_n hx hb dX12_count_52 rfl (lv_at hl 1 rfl) ?_
          have hFc := allFree hD hS hA
          refine va_calli (va_runV (As := []) (rest := []) ⟨hx, hb, hml, hown, hts⟩ (r_X12_nextValues l dC dI a k h0 (fT (fT (fT (fT (fT (fT vi 0 0) 11 qk39) 116 fx39) 5 cn239) 6 rn239) 7 gn239) (fT vj 12 qd39) (fT (fT (fT (fT (fT (fT (fT (fT vF 70 f70x) 0 g39) 2 f2w39) 3 f3w39) 4 f439) 5 f539) 6 f639) 69 f6939) (fT (fT (fT vG 1 gs39) 7 F39) 8 L839) vn gq (by first | with_reducible assumption | decide | omega | rfl | assumption) (by first | with_reducible assumption | decide | omega | rfl | assumption) (hM.val (VaO.box hM hva hvr)) (hva) H.size) (cwV 0 hts gwsRX12_count_2 rfl rfl rfl hd_yX12_nextValues_RX12 (by decide +kernel)) (fz_pre (va_recv hK hP (ci := 12) (q0 := 0) rfl rfl) hP hK hD) rfl rfl hl.1 rfl (lv_room (Nat.le_of_ble_eq_true rfl)) dX12_count_53 (by decide +kernel)) hS (fun q _ h => hFc q h) hFc (fun r53 f7053 t9_ H locs ht hvm hw9 hB9 hz1 hk1 hS => ?_)
          have hP : va_P (dC, dI) vwCl (WR a k h0 (fT (fT (fT (fT (fT (fT vi 0 0) 11 qk39) 116 fx39) 5 cn239) 6 rn239) 7 gn239) (fT vj 12 qd39) (fT (fT (fT (fT (fT (fT (fT (fT (fT vF 70 f70x) 0 g39) 2 f2w39) 3 f3w39) 4 f439) 5 f539) 6 f639) 69 f6939) 70 f7053) (fT (fT (fT vG 1 gs39) 7 F39) 8 L839)) H := fz_P ht hB9.1
          have hD : va_D A (WR a k h0 (fT (fT (fT (fT (fT (fT vi 0 0) 11 qk39) 116 fx39) 5 cn239) 6 rn239) 7 gn239) (fT vj 12 qd39) (fT (fT (fT (fT (fT (fT (fT (fT (fT vF 70 f70x) 0 g39) 2 f2w39) 3 f3w39) 4 f439) 5 f539) 6 f639) 69 f6939) 70 f7053) (fT (fT (fT vG 1 gs39) 7 F39) 8 L839)) := hB9.2.weaken (fun _ q _ h => hFc q.1 h)
          have e9 : fT (fT (fT (fT (fT (fT (fT (fT vF 70 f7053) 0 g39) 2 f2w39) 3 f3w39) 4 f439) 5 f539) 6 f639) 69 f6939 = fT (fT (fT (fT (fT (fT (fT (fT (fT vF 70 f70x) 0 g39) 2 f2w39) 3 f3w39) 4 f439) 5 f539) 6 f639) 69 f6939) 70 f7053 := ((fT_sw _ _ _ (Nat.ne_of_beq_eq_false rfl)).trans (congrArg (fun g9 => fT g9 69 f6939) ((fT_sw _ _ _ (Nat.ne_of_beq_eq_false rfl)).trans (congrArg (fun g9 => fT g9 6 f639) ((fT_sw _ _ _ (Nat.ne_of_beq_eq_false rfl)).trans (congrArg (fun g9 => fT g9 5 f539) ((fT_sw _ _ _ (Nat.ne_of_beq_eq_false rfl)).trans (congrArg (fun g9 => fT g9 4 f439) ((fT_sw _ _ _ (Nat.ne_of_beq_eq_false rfl)).trans (congrArg (fun g9 => fT g9 3 f3w39) ((fT_sw _ _ _ (Nat.ne_of_beq_eq_false rfl)).trans (congrArg (fun g9 => fT g9 2 f2w39) ((fT_sw _ _ _ (Nat.ne_of_beq_eq_false rfl)).trans (congrArg (fun g9 => fT g9 0 g39) (fT_sm _ _ _ _))))))))))))))).symm
          rw [← e9] at hP hD
          clear e9
          have hP : va_P (dC, dI) vwCl (WR a k h0 (fT (fT (fT (fT (fT (fT vi 0 0) 11 qk39) 116 fx39) 5 cn239) 6 rn239) 7 gn239) (fT vj 12 qd39) (fT (fT (fT (fT (fT (fT (fT (fT vF 70 f7053) 0 g39) 2 f2w39) 3 f3w39) 4 f439) 5 f539) 6 f639) 69 f6939) (fT (fT (fT vG 1 gs39) 7 F39) 8 L839)) H := hP
          have hD : va_D A (WR a k h0 (fT (fT (fT (fT (fT (fT vi 0 0) 11 qk39) 116 fx39) 5 cn239) 6 rn239) 7 gn239) (fT vj 12 qd39) (fT (fT (fT (fT (fT (fT (fT (fT vF 70 f7053) 0 g39) 2 f2w39) 3 f3w39) 4 f439) 5 f539) 6 f639) 69 f6939) (fT (fT (fT vG 1 gs39) 7 F39) 8 L839)) := hD
          rcases hw9 with ⟨rfl, f53_0, f53_1, f53_2⟩ | ⟨rfl, f53_0, f53_1⟩
          · have f53_0 : VaO (vF 56) (vF 57) (vF 58) f7053 vn := f53_0
            have f53_1 : ∀ q, vn ≤ q → f7053 q = f70x q := f53_1
            have f53_2 : odo (vD (vF 56) f70x) (vR (vF 56) (vF 57)) vn < odo (vD (vF 56) f7053) (vR (vF 56) (vF 57)) vn := f53_2
            refine lv_istore_n hx hb dX12_count_56 rfl hl (by decide) rfl (fun ls (hl : lv_has ls _ ([(2, .int 1), (1, .int (nq + b9)), (0, .ref h0)])) => ?_)
            refine lv_goto (tgt := 33) hx hb dX12_count_57 (by decide) ?_
            have hl : lv_has _ _ ([(0, .ref h0), (1, .int (nq + b9)), (2, .int 1)]) := lv_sub hl [2, 1, 0] rfl
            exact ih33 (nq + b9) 1 f6939 f7053 g39 f2w39 f3w39 f439 f539 f639 gs39 F39 L839 qd39 qk39 fx39 cn239 rn239 gn239 m239 _ _ _ (f39_0) (f53_0) (fun q hq => (f53_1 q hq).trans (hvr q hq)) (f39_1) (fun q hq => by (rw [f39_2 _ (by omega)]); exact ho q hq) (by (have h8 := odo_lt (f := vD (vF 56) f70x) (b := vR (vF 56) (vF 57)) vn (fun q hq => hva.dg hq)); (have h9 := hfx.resolve_left (fun h => c_34 h.1)); (have h7 := f53_2); exact Or.inr (by omega)) hP hD hS hl
          · have f53_0 : VaO (vF 56) (vF 57) (vF 58) f7053 vn := f53_0
            have f53_1 : ∀ q, vn ≤ q → f7053 q = f70x q := f53_1
            refine lv_istore_n hx hb dX12_count_56 rfl hl (by decide) rfl (fun ls (hl : lv_has ls _ ([(2, .int 0), (1, .int (nq + b9)), (0, .ref h0)])) => ?_)
            refine lv_goto (tgt := 33) hx hb dX12_count_57 (by decide) ?_
            have hl : lv_has _ _ ([(0, .ref h0), (1, .int (nq + b9)), (2, .int 0)]) := lv_sub hl [2, 1, 0] rfl
            exact ih33 (nq + b9) 0 f6939 f7053 g39 f2w39 f3w39 f439 f539 f639 gs39 F39 L839 qd39 qk39 fx39 cn239 rn239 gn239 m239 _ _ _ (f39_0) (f53_0) (fun q hq => (f53_1 q hq).trans (hvr q hq)) (f39_1) (fun q hq => by (rw [f39_2 _ (by omega)]); exact ho q hq) (by (have h8 := odo_lt (f := vD (vF 56) f70x) (b := vR (vF 56) (vF 57)) vn (fun q hq => hva.dg hq)); (have h9 := hfx.resolve_left (fun h => c_34 h.1)); exact Or.inl ⟨rfl, by omega⟩) hP hD hS hl
theorem dX12_counted_0 : decode cX12_counted 0 = .ok (.aload_n 0, 1) := dk_42 (by decide +kernel)
theorem dX12_counted_1 : decode cX12_counted 1 = .ok (.aload_n 0, 1) := dk_42 (by decide +kernel)
theorem dX12_counted_2 : decode cX12_counted 2 = .ok (.getfield 808, 3) := dk_180 (by decide +kernel)
theorem dX12_counted_5 : decode cX12_counted 5 = .ok (.ifCond .eq 7, 3) := dk_153 (by decide +kernel)
theorem dX12_counted_8 : decode cX12_counted 8 = .ok (.iconst 0, 1) := dk_3 (by decide +kernel)
theorem dX12_counted_9 : decode cX12_counted 9 = .ok (.goto 4, 3) := dk_167 (by decide +kernel)
theorem dX12_counted_12 : decode cX12_counted 12 = .ok (.iconst 1, 1) := dk_4 (by decide +kernel)
theorem dX12_counted_13 : decode cX12_counted 13 = .ok (.putfield 348, 3) := dk_181 (by decide +kernel)
theorem dX12_counted_16 : decode cX12_counted 16 = .ok (.aload_n 0, 1) := dk_42 (by decide +kernel)
theorem dX12_counted_17 : decode cX12_counted 17 = .ok (.getfield 348, 3) := dk_180 (by decide +kernel)
theorem dX12_counted_20 : decode cX12_counted 20 = .ok (.ifCond .le 5, 3) := dk_158 (by decide +kernel)
theorem dX12_counted_23 : decode cX12_counted 23 = .ok (.iconst 0, 1) := dk_3 (by decide +kernel)
theorem dX12_counted_24 : decode cX12_counted 24 = .ok (.ireturn, 1) := dk_172 (by decide +kernel)
theorem dX12_counted_25 : decode cX12_counted 25 = .ok (.iload_n 1, 1) := dk_27 (by decide +kernel)
theorem dX12_counted_26 : decode cX12_counted 26 = .ok (.ifCond .lt 24, 3) := dk_155 (by decide +kernel)
theorem dX12_counted_29 : decode cX12_counted 29 = .ok (.iload_n 2, 1) := dk_28 (by decide +kernel)
theorem dX12_counted_30 : decode cX12_counted 30 = .ok (.ifCond .lt 20, 3) := dk_155 (by decide +kernel)
theorem dX12_counted_33 : decode cX12_counted 33 = .ok (.iload_n 2, 1) := dk_28 (by decide +kernel)
theorem dX12_counted_34 : decode cX12_counted 34 = .ok (.aload_n 0, 1) := dk_42 (by decide +kernel)
theorem dX12_counted_35 : decode cX12_counted 35 = .ok (.getfield 774, 3) := dk_180 (by decide +kernel)
theorem dX12_counted_38 : decode cX12_counted 38 = .ok (.if_icmp .ge 12, 3) := dk_162 (by decide +kernel)
theorem dX12_counted_41 : decode cX12_counted 41 = .ok (.aload_n 0, 1) := dk_42 (by decide +kernel)
theorem dX12_counted_42 : decode cX12_counted 42 = .ok (.getfield 197, 3) := dk_180 (by decide +kernel)
theorem dX12_counted_45 : decode cX12_counted 45 = .ok (.iload_n 2, 1) := dk_28 (by decide +kernel)
theorem dX12_counted_46 : decode cX12_counted 46 = .ok (.iaload, 1) := dk_46 (by decide +kernel)
theorem dX12_counted_47 : decode cX12_counted 47 = .ok (.ifCond .ne 7, 3) := dk_154 (by decide +kernel)
theorem dX12_counted_50 : decode cX12_counted 50 = .ok (.sipush (-1000), 3) := dk_17 (by decide +kernel)
theorem dX12_counted_53 : decode cX12_counted 53 = .ok (.ireturn, 1) := dk_172 (by decide +kernel)
theorem dX12_counted_54 : decode cX12_counted 54 = .ok (.iconst 0, 1) := dk_3 (by decide +kernel)
theorem dX12_counted_55 : decode cX12_counted 55 = .ok (.istore_n 3, 1) := dk_62 (by decide +kernel)
theorem dX12_counted_56 : decode cX12_counted 56 = .ok (.aload_n 0, 1) := dk_42 (by decide +kernel)
theorem dX12_counted_57 : decode cX12_counted 57 = .ok (.invokevirtual 873, 3) := dk_182 (by decide +kernel)
theorem dX12_counted_60 : decode cX12_counted 60 = .ok (.iconst 1, 1) := dk_4 (by decide +kernel)
theorem dX12_counted_61 : decode cX12_counted 61 = .ok (.istore 4, 2) := dk_54 (by decide +kernel)
theorem dX12_counted_63 : decode cX12_counted 63 = .ok (.iload 4, 2) := dk_21 (by decide +kernel)
theorem dX12_counted_65 : decode cX12_counted 65 = .ok (.ifCond .eq 34, 3) := dk_153 (by decide +kernel)
theorem dX12_counted_68 : decode cX12_counted 68 = .ok (.aload_n 0, 1) := dk_42 (by decide +kernel)
theorem dX12_counted_69 : decode cX12_counted 69 = .ok (.invokevirtual 891, 3) := dk_182 (by decide +kernel)
theorem dX12_counted_72 : decode cX12_counted 72 = .ok (.ifCond .eq 18, 3) := dk_153 (by decide +kernel)
theorem dX12_counted_75 : decode cX12_counted 75 = .ok (.iload_n 3, 1) := dk_29 (by decide +kernel)
theorem dX12_counted_76 : decode cX12_counted 76 = .ok (.iload_n 1, 1) := dk_27 (by decide +kernel)
theorem dX12_counted_77 : decode cX12_counted 77 = .ok (.if_icmp .ne 10, 3) := dk_160 (by decide +kernel)
theorem dX12_counted_80 : decode cX12_counted 80 = .ok (.aload_n 0, 1) := dk_42 (by decide +kernel)
theorem dX12_counted_81 : decode cX12_counted 81 = .ok (.getfield 233, 3) := dk_180 (by decide +kernel)
theorem dX12_counted_84 : decode cX12_counted 84 = .ok (.iload_n 2, 1) := dk_28 (by decide +kernel)
theorem dX12_counted_85 : decode cX12_counted 85 = .ok (.iaload, 1) := dk_46 (by decide +kernel)
theorem dX12_counted_86 : decode cX12_counted 86 = .ok (.ireturn, 1) := dk_172 (by decide +kernel)
theorem dX12_counted_87 : decode cX12_counted 87 = .ok (.iinc 3 1, 3) := dk_132 (by decide +kernel)
theorem dX12_counted_90 : decode cX12_counted 90 = .ok (.aload_n 0, 1) := dk_42 (by decide +kernel)
theorem dX12_counted_91 : decode cX12_counted 91 = .ok (.invokevirtual 888, 3) := dk_182 (by decide +kernel)
theorem dX12_counted_94 : decode cX12_counted 94 = .ok (.istore 4, 2) := dk_54 (by decide +kernel)
theorem dX12_counted_96 : decode cX12_counted 96 = .ok (.goto (-33), 3) := dk_167 (by decide +kernel)
theorem dX12_counted_99 : decode cX12_counted 99 = .ok (.sipush (-1000), 3) := dk_17 (by decide +kernel)
theorem dX12_counted_102 : decode cX12_counted 102 = .ok (.ireturn, 1) := dk_172 (by decide +kernel)
def wsRX12_counted : List Cond := .code yX12_counted cX12_counted 5 (some .int) :: ([.fieldLink RX12 808 "OptimaWorksModel" "isModel" "Z", .fieldLink RX12 348 "OptimaWorksModel" "thrown" "I", .fieldLink RX12 774 "OptimaWorksModel" "variables" "I", .fieldLink RX12 197 "OptimaWorksModel" "whole" "[I", .fieldLink RX12 233 "OptimaWorksModel" "value" "[I"] ++ wsX120 ++ (wsV RX12 873 RX12 yX12_firstValues wsRX12_firstValues) ++ (wsV RX12 891 RX12 yX12_counts wsRX12_counts) ++ (wsV RX12 888 RX12 yX12_nextValues wsRX12_nextValues))
theorem iwsRX12_counted_in12 : ∀ w ∈ wsX120, w ∈ wsRX12_counted := fun _ h => List.mem_cons_of_mem _ (List.mem_append_left _ (List.mem_append_left _ (List.mem_append_left _ (List.mem_append_right _ h))))
theorem gwsRX12_counted_0 : GoodIn wsRX12_counted (wsV RX12 873 RX12 yX12_firstValues wsRX12_firstValues) := goodIn_sub (fun _ h => List.mem_cons_of_mem _ (List.mem_append_left _ (List.mem_append_left _ (List.mem_append_right _ h)))) (gdV (by decide +kernel) gdwsRX12_firstValues)
theorem gwsRX12_counted_1 : GoodIn wsRX12_counted (wsV RX12 891 RX12 yX12_counts wsRX12_counts) := goodIn_sub (fun _ h => List.mem_cons_of_mem _ (List.mem_append_left _ (List.mem_append_right _ h))) (gdV (by decide +kernel) gdwsRX12_counts)
theorem gwsRX12_counted_2 : GoodIn wsRX12_counted (wsV RX12 888 RX12 yX12_nextValues wsRX12_nextValues) := goodIn_sub (fun _ h => List.mem_cons_of_mem _ (List.mem_append_right _ h)) (gdV (by decide +kernel) gdwsRX12_nextValues)
theorem gdwsRX12_counted : wsRX12_counted.all goodWord = true := gdC rfl (gdA (gdA (gdA (gdA (by decide +kernel : ([.fieldLink RX12 808 "OptimaWorksModel" "isModel" "Z", .fieldLink RX12 348 "OptimaWorksModel" "thrown" "I", .fieldLink RX12 774 "OptimaWorksModel" "variables" "I", .fieldLink RX12 197 "OptimaWorksModel" "whole" "[I", .fieldLink RX12 233 "OptimaWorksModel" "value" "[I"] : List Cond).all goodWord = true) gdwsX120) (gdV (by decide +kernel) gdwsRX12_firstValues)) (gdV (by decide +kernel) gdwsRX12_counts)) (gdV (by decide +kernel) gdwsRX12_nextValues))
set_option maxHeartbeats 4000000 in
set_option maxRecDepth 100000 in
/-- counted(k, v) -/
theorem r_X12_counted (l : Launch) (dC : Nat → ClassId) (dI : Nat → Nat → Nat) (a : Nat → Nat) (k : Nat → ClassId) (h0 : Nat) (vi : Nat → Int32) (vj : Nat → Int64) (vF : Nat → Nat → Int32) (vG : Nat → Nat → Int64) (vn : Nat) (mr : Nat) (gq : Nat) (dn : Nat) (kk : Int32) (vv : Int32) (mg : Nat → Int) (hBg : Bg (vF 0) mg) (hvn : vi 90 = nI vn) (hvn8 : vn ≤ 8) (hmr : vi 91 = nI mr) (hmr12 : mr ≤ 12) (hmg : vi 93 = nI gq) (hgq : gq ≤ 3) (hdn : vi 92 = nI dn) (hdn8 : dn ≤ 8) (hM : MdlB vF gq) (hlh : ∀ k, k < vn → (vF 56 k).toInt ≤ (vF 57 k).toInt) (hwm : WmO (vF 59) mr) (hAn : AnsB mg 1020) (sz : Nat) : Met l yX12_counted wsRX12_counted ({ frames := 8, cells := 0, slots := 0, locals := 203 }) (va_Pc [.ref h0, .int kk, .int vv] (fun U => U.heap.size = sz ∧ va_P (dC, dI) vwCl (WR a k h0 vi vj vF vG) U.heap ∧ va_K (dC, dI) vwCl (tX12 k) U ∧ va_D (fun _ => True) (WR a k h0 vi vj vF vG))) (va_Qi (fun (r : Int32) (u : (Nat → Int32) × (Nat → Int32) × (Nat → Int32) × (Nat → Int32) × (Nat → Int32) × (Nat → Int32) × (Nat → Int64) × (Nat → Int64) × (Nat → Int64) × (Int64) × (Int32) × (Int32) × (Int32) × (Int32) × (Int32) × (Int32) × (Nat → Int32) × (Nat → Int32) × (Nat → Int)) => (Bg (u.1) (u.2.2.2.2.2.2.2.2.2.2.2.2.2.2.2.2.2.2)) ∧ (AnsB (u.2.2.2.2.2.2.2.2.2.2.2.2.2.2.2.2.2.2) 1020) ∧ (∀ q, ((1000 ≤ q ∧ q < 1020) ∨ 1036 ≤ q) → (u.2.2.2.2.2.2.2.2.2.2.2.2.2.2.2.2.2.2) q = mg q) ∧ (∀ k, k < 9 → -999 ≤ ((u.2.2.2.2.2.2.2.2.2.2.2.2.2.2.2.2.2.1) k).toInt ∧ ((u.2.2.2.2.2.2.2.2.2.2.2.2.2.2.2.2.2.1) k).toInt ≤ 999)) (fun (u : (Nat → Int32) × (Nat → Int32) × (Nat → Int32) × (Nat → Int32) × (Nat → Int32) × (Nat → Int32) × (Nat → Int64) × (Nat → Int64) × (Nat → Int64) × (Int64) × (Int32) × (Int32) × (Int32) × (Int32) × (Int32) × (Int32) × (Nat → Int32) × (Nat → Int32) × (Nat → Int)) t => va_P (dC, dI) vwCl (WR a k h0 (fT (fT (fT (fT (fT (fT vi 0 (u.2.2.2.2.2.2.2.2.2.2.2.2.2.2.2.1)) 11 (u.2.2.2.2.2.2.2.2.2.2.1)) 116 (u.2.2.2.2.2.2.2.2.2.2.2.1)) 5 (u.2.2.2.2.2.2.2.2.2.2.2.2.1)) 6 (u.2.2.2.2.2.2.2.2.2.2.2.2.2.1)) 7 (u.2.2.2.2.2.2.2.2.2.2.2.2.2.2.1)) (fT vj 12 (u.2.2.2.2.2.2.2.2.2.1)) (fT (fT (fT (fT (fT (fT (fT (fT vF 70 (u.2.2.2.2.2.2.2.2.2.2.2.2.2.2.2.2.2.1)) 0 (u.1)) 2 (u.2.1)) 3 (u.2.2.1)) 4 (u.2.2.2.1)) 5 (u.2.2.2.2.1)) 6 (u.2.2.2.2.2.1)) 69 (u.2.2.2.2.2.2.2.2.2.2.2.2.2.2.2.2.1)) (fT (fT (fT vG 1 (u.2.2.2.2.2.2.1)) 7 (u.2.2.2.2.2.2.2.1)) 8 (u.2.2.2.2.2.2.2.2.1))) t.heap ∧ va_D (va_A (WR a k h0 vi vj vF vG) sz) (WR a k h0 (fT (fT (fT (fT (fT (fT vi 0 (u.2.2.2.2.2.2.2.2.2.2.2.2.2.2.2.1)) 11 (u.2.2.2.2.2.2.2.2.2.2.1)) 116 (u.2.2.2.2.2.2.2.2.2.2.2.1)) 5 (u.2.2.2.2.2.2.2.2.2.2.2.2.1)) 6 (u.2.2.2.2.2.2.2.2.2.2.2.2.2.1)) 7 (u.2.2.2.2.2.2.2.2.2.2.2.2.2.2.1)) (fT vj 12 (u.2.2.2.2.2.2.2.2.2.1)) (fT (fT (fT (fT (fT (fT (fT (fT vF 70 (u.2.2.2.2.2.2.2.2.2.2.2.2.2.2.2.2.2.1)) 0 (u.1)) 2 (u.2.1)) 3 (u.2.2.1)) 4 (u.2.2.2.1)) 5 (u.2.2.2.2.1)) 6 (u.2.2.2.2.2.1)) 69 (u.2.2.2.2.2.2.2.2.2.2.2.2.2.2.2.2.1)) (fT (fT (fT vG 1 (u.2.2.2.2.2.2.1)) 7 (u.2.2.2.2.2.2.2.1)) 8 (u.2.2.2.2.2.2.2.2.1)))) (va_A (WR a k h0 vi vj vF vG) sz)) 0 0 (va_A (WR a k h0 vi vj vF vG) sz) := by
  refine Met.ofW (cc := cX12_counted) (maxL := 5) (ret := (some .int)) (by decide) rfl ?_
  intro p e s m args below meth c s₁ B hml hv
  obtain ⟨rfl, hsz, hP, hK, hD0⟩ := hv
  have hx := B.exec
  have hb := B.bytes
  have hr := B.returns
  have hts := atoms_spec (ws := wsRX12_counted) B.pre
  have hown : s.vm.findClass RX12 = some m.cls := findClass_of_methodNamed B.named
  have hlocks := B.notSynchronized
  subst hsz
  have hD := hD0.self (sz := s.heap.size)
  generalize hAe : va_A (WR a k h0 vi vj vF vG) s.heap.size = A at hD ⊢
  have hA : ∀ q : Nat, s.heap.size ≤ q → A q := fun q h => by rw [← hAe]; exact Or.inr h
  have hS : va_S A s.heap s.heap [] := va_S.rf
  have hl := lv_entry ([.ref h0, .int kk, .int vv]) (n := 5) (Nat.le_of_ble_eq_true rfl)
  rw [lg_entry_eq]
  generalize (lg_sl ([.ref h0, .int kk, .int vv]) ++ List.replicate (5 - (lg_sl ([.ref h0, .int kk, .int vv])).length) Slot.unset).toArray = ls at hl ⊢
  have hl : lv_has ls 5 [(0, .ref h0), (1, .int kk), (2, .int vv)] := hl
  refine lv_aload_n hx hb dX12_counted_0 rfl (lv_at hl 0 rfl) ?_
  refine lv_aload_n hx hb dX12_counted_1 rfl (lv_at hl 0 rfl) ?_
  refine va_get (D := (dC, dI)) (ci := 12) (v := .int (vi 95)) (C := RX12) (T := TX12) (N := 163) (fs := fM (vS a vi vj)) hx hb hts iwsRX12_counted_in12 hown hK hP 0 rfl rfl 95 (by decide) (hts (.fieldLink RX12 808 "OptimaWorksModel" "isModel" "Z") (by decide +kernel)) (fun _ h9 => h9) rfl dX12_counted_2 ?_
  refine lv_if_eq (tgt := 12) hx hb dX12_counted_5 (by decide) (fun c_5 => ?_) (fun c_5 => ?_)
  · have t_5 : ((vi 95)).toInt = 0 := toI_eq c_5 rfl (by decide)
    refine lv_iconst (v := 1) hx hb dX12_counted_12 (by decide) ?_
    refine va_put (D := (dC, dI)) (ci := 12) (v := .int 1) (ty := .int) (C := RX12) (T := TX12) (N := 163) (fs := fM (vS a vi vj)) hx hb hts iwsRX12_counted_in12 tyX12 tyX12_ok nmX12 hown hK hP hD hS 0 rfl rfl 0 (by decide) (hts (.fieldLink RX12 348 "OptimaWorksModel" "thrown" "I") (by decide +kernel)) (fun _ h9 => h9) rfl (by decide +kernel) rfl rfl (Nat.le_of_ble_eq_true rfl) dX12_counted_13 (fun H locs hP hD hS => ?_)
    have hP : va_P (dC, dI) vwCl (WR a k h0 (fT vi 0 1) vj vF vG) H := by rw [← WR_i 0 _ rfl]; exact hP
    have hD : va_D A (WR a k h0 (fT vi 0 1) vj vF vG) := by rw [← WR_i 0 _ rfl]; exact hD
    refine lv_aload_n hx hb dX12_counted_16 rfl (lv_at hl 0 rfl) ?_
    refine va_get (D := (dC, dI)) (ci := 12) (v := .int 1) (C := RX12) (T := TX12) (N := 163) (fs := fM (vS a (fT vi 0 1) vj)) hx hb hts iwsRX12_counted_in12 hown hK hP 0 rfl rfl 0 (by decide) (hts (.fieldLink RX12 348 "OptimaWorksModel" "thrown" "I") (by decide +kernel)) (fun _ h9 => h9) rfl dX12_counted_17 ?_
    refine lv_if_le (tgt := 25) hx hb dX12_counted_20 (by decide) (fun c9 => absurd c9 (by decide)) (fun _ => ?_)
    refine lv_iconst (v := 0) hx hb dX12_counted_23 (by decide) ?_
    refine W.widen (k := 0) (n := 0) (by decide +kernel) (by decide +kernel) ?_
    have e9 : fT (fT (fT (fT (fT (fT vi 0 1) 11 (vi 11)) 116 (vi 116)) 5 (vi 5)) 6 (vi 6)) 7 (vi 7) = fT vi 0 1 := (fT_id _ _ ((fT_ne _ _ (Nat.ne_of_beq_eq_false rfl)).trans ((fT_ne _ _ (Nat.ne_of_beq_eq_false rfl)).trans ((fT_ne _ _ (Nat.ne_of_beq_eq_false rfl)).trans ((fT_ne _ _ (Nat.ne_of_beq_eq_false rfl)).trans (fT_ne _ _ (Nat.ne_of_beq_eq_false rfl))))))).trans ((fT_id _ _ ((fT_ne _ _ (Nat.ne_of_beq_eq_false rfl)).trans ((fT_ne _ _ (Nat.ne_of_beq_eq_false rfl)).trans ((fT_ne _ _ (Nat.ne_of_beq_eq_false rfl)).trans (fT_ne _ _ (Nat.ne_of_beq_eq_false rfl)))))).trans ((fT_id _ _ ((fT_ne _ _ (Nat.ne_of_beq_eq_false rfl)).trans ((fT_ne _ _ (Nat.ne_of_beq_eq_false rfl)).trans (fT_ne _ _ (Nat.ne_of_beq_eq_false rfl))))).trans ((fT_id _ _ ((fT_ne _ _ (Nat.ne_of_beq_eq_false rfl)).trans (fT_ne _ _ (Nat.ne_of_beq_eq_false rfl)))).trans (fT_id _ _ (fT_ne _ _ (Nat.ne_of_beq_eq_false rfl))))))
    have hP : va_P (dC, dI) vwCl (WR a k h0 (fT (fT (fT (fT (fT (fT vi 0 1) 11 (vi 11)) 116 (vi 116)) 5 (vi 5)) 6 (vi 6)) 7 (vi 7)) vj vF vG) H := by rw [e9]; exact hP
    have hD : va_D A (WR a k h0 (fT (fT (fT (fT (fT (fT vi 0 1) 11 (vi 11)) 116 (vi 116)) 5 (vi 5)) 6 (vi 6)) 7 (vi 7)) vj vF vG) := by rw [e9]; exact hD
    clear e9
    have e9 : fT vj 12 (vj 12) = vj := fT_id _ _ (rfl)
    have hP : va_P (dC, dI) vwCl (WR a k h0 (fT (fT (fT (fT (fT (fT vi 0 1) 11 (vi 11)) 116 (vi 116)) 5 (vi 5)) 6 (vi 6)) 7 (vi 7)) (fT vj 12 (vj 12)) vF vG) H := by rw [e9]; exact hP
    have hD : va_D A (WR a k h0 (fT (fT (fT (fT (fT (fT vi 0 1) 11 (vi 11)) 116 (vi 116)) 5 (vi 5)) 6 (vi 6)) 7 (vi 7)) (fT vj 12 (vj 12)) vF vG) := by rw [e9]; exact hD
    clear e9
    have e9 : fT (fT (fT (fT (fT (fT (fT (fT vF 70 (vF 70)) 0 (vF 0)) 2 (vF 2)) 3 (vF 3)) 4 (vF 4)) 5 (vF 5)) 6 (vF 6)) 69 (vF 69) = vF := (fT_id _ _ ((fT_ne _ _ (Nat.ne_of_beq_eq_false rfl)).trans ((fT_ne _ _ (Nat.ne_of_beq_eq_false rfl)).trans ((fT_ne _ _ (Nat.ne_of_beq_eq_false rfl)).trans ((fT_ne _ _ (Nat.ne_of_beq_eq_false rfl)).trans ((fT_ne _ _ (Nat.ne_of_beq_eq_false rfl)).trans ((fT_ne _ _ (Nat.ne_of_beq_eq_false rfl)).trans (fT_ne _ _ (Nat.ne_of_beq_eq_false rfl))))))))).trans ((fT_id _ _ ((fT_ne _ _ (Nat.ne_of_beq_eq_false rfl)).trans ((fT_ne _ _ (Nat.ne_of_beq_eq_false rfl)).trans ((fT_ne _ _ (Nat.ne_of_beq_eq_false rfl)).trans ((fT_ne _ _ (Nat.ne_of_beq_eq_false rfl)).trans ((fT_ne _ _ (Nat.ne_of_beq_eq_false rfl)).trans (fT_ne _ _ (Nat.ne_of_beq_eq_false rfl)))))))).trans ((fT_id _ _ ((fT_ne _ _ (Nat.ne_of_beq_eq_false rfl)).trans ((fT_ne _ _ (Nat.ne_of_beq_eq_false rfl)).trans ((fT_ne _ _ (Nat.ne_of_beq_eq_false rfl)).trans ((fT_ne _ _ (Nat.ne_of_beq_eq_false rfl)).trans (fT_ne _ _ (Nat.ne_of_beq_eq_false rfl))))))).trans ((fT_id _ _ ((fT_ne _ _ (Nat.ne_of_beq_eq_false rfl)).trans ((fT_ne _ _ (Nat.ne_of_beq_eq_false rfl)).trans ((fT_ne _ _ (Nat.ne_of_beq_eq_false rfl)).trans (fT_ne _ _ (Nat.ne_of_beq_eq_false rfl)))))).trans ((fT_id _ _ ((fT_ne _ _ (Nat.ne_of_beq_eq_false rfl)).trans ((fT_ne _ _ (Nat.ne_of_beq_eq_false rfl)).trans (fT_ne _ _ (Nat.ne_of_beq_eq_false rfl))))).trans ((fT_id _ _ ((fT_ne _ _ (Nat.ne_of_beq_eq_false rfl)).trans (fT_ne _ _ (Nat.ne_of_beq_eq_false rfl)))).trans ((fT_id _ _ (fT_ne _ _ (Nat.ne_of_beq_eq_false rfl))).trans (fT_id _ _ (rfl))))))))
    have hP : va_P (dC, dI) vwCl (WR a k h0 (fT (fT (fT (fT (fT (fT vi 0 1) 11 (vi 11)) 116 (vi 116)) 5 (vi 5)) 6 (vi 6)) 7 (vi 7)) (fT vj 12 (vj 12)) (fT (fT (fT (fT (fT (fT (fT (fT vF 70 (vF 70)) 0 (vF 0)) 2 (vF 2)) 3 (vF 3)) 4 (vF 4)) 5 (vF 5)) 6 (vF 6)) 69 (vF 69)) vG) H := by rw [e9]; exact hP
    have hD : va_D A (WR a k h0 (fT (fT (fT (fT (fT (fT vi 0 1) 11 (vi 11)) 116 (vi 116)) 5 (vi 5)) 6 (vi 6)) 7 (vi 7)) (fT vj 12 (vj 12)) (fT (fT (fT (fT (fT (fT (fT (fT vF 70 (vF 70)) 0 (vF 0)) 2 (vF 2)) 3 (vF 3)) 4 (vF 4)) 5 (vF 5)) 6 (vF 6)) 69 (vF 69)) vG) := by rw [e9]; exact hD
    clear e9
    have e9 : fT (fT (fT vG 1 (vG 1)) 7 (vG 7)) 8 (vG 8) = vG := (fT_id _ _ ((fT_ne _ _ (Nat.ne_of_beq_eq_false rfl)).trans (fT_ne _ _ (Nat.ne_of_beq_eq_false rfl)))).trans ((fT_id _ _ (fT_ne _ _ (Nat.ne_of_beq_eq_false rfl))).trans (fT_id _ _ (rfl)))
    have hP : va_P (dC, dI) vwCl (WR a k h0 (fT (fT (fT (fT (fT (fT vi 0 1) 11 (vi 11)) 116 (vi 116)) 5 (vi 5)) 6 (vi 6)) 7 (vi 7)) (fT vj 12 (vj 12)) (fT (fT (fT (fT (fT (fT (fT (fT vF 70 (vF 70)) 0 (vF 0)) 2 (vF 2)) 3 (vF 3)) 4 (vF 4)) 5 (vF 5)) 6 (vF 6)) 69 (vF 69)) (fT (fT (fT vG 1 (vG 1)) 7 (vG 7)) 8 (vG 8))) H := by rw [e9]; exact hP
    have hD : va_D A (WR a k h0 (fT (fT (fT (fT (fT (fT vi 0 1) 11 (vi 11)) 116 (vi 116)) 5 (vi 5)) 6 (vi 6)) 7 (vi 7)) (fT vj 12 (vj 12)) (fT (fT (fT (fT (fT (fT (fT (fT vF 70 (vF 70)) 0 (vF 0)) 2 (vF 2)) 3 (vF 3)) 4 (vF 4)) 5 (vF 5)) 6 (vF 6)) 69 (vF 69)) (fT (fT (fT vG 1 (vG 1)) 7 (vG 7)) 8 (vG 8))) := by rw [e9]; exact hD
    clear e9
    exact W.iret (v := 0) hx hb hr (fun t9_ ht hW => ⟨⟨0, ((vF 0), (vF 2), (vF 3), (vF 4), (vF 5), (vF 6), (vG 1), (vG 7), (vG 8), (vj 12), (vi 11), (vi 116), (vi 5), (vi 6), (vi 7), 1, (vF 69), (vF 70), mg), rfl, by (try dsimp only); exact ⟨hBg, hAn, fun q _ => rfl, hM.2.2.2.2.2.2⟩, by rw [ht]; exact hP, hD⟩, hS.F ht⟩) hS.2.2 dX12_counted_24
  · have t_5 : ¬ ((vi 95)).toInt = 0 := toI_neq c_5 rfl (by decide)
    refine lv_iconst (v := 0) hx hb dX12_counted_8 (by decide) ?_
    refine lv_goto (tgt := 13) hx hb dX12_counted_9 (by decide) ?_
    refine va_put (D := (dC, dI)) (ci := 12) (v := .int 0) (ty := .int) (C := RX12) (T := TX12) (N := 163) (fs := fM (vS a vi vj)) hx hb hts iwsRX12_counted_in12 tyX12 tyX12_ok nmX12 hown hK hP hD hS 0 rfl rfl 0 (by decide) (hts (.fieldLink RX12 348 "OptimaWorksModel" "thrown" "I") (by decide +kernel)) (fun _ h9 => h9) rfl (by decide +kernel) rfl rfl (Nat.le_of_ble_eq_true rfl) dX12_counted_13 (fun H locs hP hD hS => ?_)
    have hP : va_P (dC, dI) vwCl (WR a k h0 (fT vi 0 0) vj vF vG) H := by rw [← WR_i 0 _ rfl]; exact hP
    have hD : va_D A (WR a k h0 (fT vi 0 0) vj vF vG) := by rw [← WR_i 0 _ rfl]; exact hD
    refine lv_aload_n hx hb dX12_counted_16 rfl (lv_at hl 0 rfl) ?_
    refine va_get (D := (dC, dI)) (ci := 12) (v := .int 0) (C := RX12) (T := TX12) (N := 163) (fs := fM (vS a (fT vi 0 0) vj)) hx hb hts iwsRX12_counted_in12 hown hK hP 0 rfl rfl 0 (by decide) (hts (.fieldLink RX12 348 "OptimaWorksModel" "thrown" "I") (by decide +kernel)) (fun _ h9 => h9) rfl dX12_counted_17 ?_
    refine lv_if_le (tgt := 25) hx hb dX12_counted_20 (by decide) (fun _ => ?_) (fun c9 => absurd (by decide) c9)
    refine lv_iload_n hx hb dX12_counted_25 rfl (lv_at hl 1 rfl) ?_
    refine lv_if_lt (tgt := 50) hx hb dX12_counted_26 (by decide) (fun c_26 => ?_) (fun c_26 => ?_)
    · have t_26 : (kk).toInt < 0 := toI_lt c_26 rfl (by decide)
      refine lv_sipush (v := (-1000)) hx hb dX12_counted_50 (by decide) ?_
      refine W.widen (k := 0) (n := 0) (by decide +kernel) (by decide +kernel) ?_
      have e9 : fT (fT (fT (fT (fT (fT vi 0 0) 11 (vi 11)) 116 (vi 116)) 5 (vi 5)) 6 (vi 6)) 7 (vi 7) = fT vi 0 0 := (fT_id _ _ ((fT_ne _ _ (Nat.ne_of_beq_eq_false rfl)).trans ((fT_ne _ _ (Nat.ne_of_beq_eq_false rfl)).trans ((fT_ne _ _ (Nat.ne_of_beq_eq_false rfl)).trans ((fT_ne _ _ (Nat.ne_of_beq_eq_false rfl)).trans (fT_ne _ _ (Nat.ne_of_beq_eq_false rfl))))))).trans ((fT_id _ _ ((fT_ne _ _ (Nat.ne_of_beq_eq_false rfl)).trans ((fT_ne _ _ (Nat.ne_of_beq_eq_false rfl)).trans ((fT_ne _ _ (Nat.ne_of_beq_eq_false rfl)).trans (fT_ne _ _ (Nat.ne_of_beq_eq_false rfl)))))).trans ((fT_id _ _ ((fT_ne _ _ (Nat.ne_of_beq_eq_false rfl)).trans ((fT_ne _ _ (Nat.ne_of_beq_eq_false rfl)).trans (fT_ne _ _ (Nat.ne_of_beq_eq_false rfl))))).trans ((fT_id _ _ ((fT_ne _ _ (Nat.ne_of_beq_eq_false rfl)).trans (fT_ne _ _ (Nat.ne_of_beq_eq_false rfl)))).trans (fT_id _ _ (fT_ne _ _ (Nat.ne_of_beq_eq_false rfl))))))
      have hP : va_P (dC, dI) vwCl (WR a k h0 (fT (fT (fT (fT (fT (fT vi 0 0) 11 (vi 11)) 116 (vi 116)) 5 (vi 5)) 6 (vi 6)) 7 (vi 7)) vj vF vG) H := by rw [e9]; exact hP
      have hD : va_D A (WR a k h0 (fT (fT (fT (fT (fT (fT vi 0 0) 11 (vi 11)) 116 (vi 116)) 5 (vi 5)) 6 (vi 6)) 7 (vi 7)) vj vF vG) := by rw [e9]; exact hD
      clear e9
      have e9 : fT vj 12 (vj 12) = vj := fT_id _ _ (rfl)
      have hP : va_P (dC, dI) vwCl (WR a k h0 (fT (fT (fT (fT (fT (fT vi 0 0) 11 (vi 11)) 116 (vi 116)) 5 (vi 5)) 6 (vi 6)) 7 (vi 7)) (fT vj 12 (vj 12)) vF vG) H := by rw [e9]; exact hP
      have hD : va_D A (WR a k h0 (fT (fT (fT (fT (fT (fT vi 0 0) 11 (vi 11)) 116 (vi 116)) 5 (vi 5)) 6 (vi 6)) 7 (vi 7)) (fT vj 12 (vj 12)) vF vG) := by rw [e9]; exact hD
      clear e9
      have e9 : fT (fT (fT (fT (fT (fT (fT (fT vF 70 (vF 70)) 0 (vF 0)) 2 (vF 2)) 3 (vF 3)) 4 (vF 4)) 5 (vF 5)) 6 (vF 6)) 69 (vF 69) = vF := (fT_id _ _ ((fT_ne _ _ (Nat.ne_of_beq_eq_false rfl)).trans ((fT_ne _ _ (Nat.ne_of_beq_eq_false rfl)).trans ((fT_ne _ _ (Nat.ne_of_beq_eq_false rfl)).trans ((fT_ne _ _ (Nat.ne_of_beq_eq_false rfl)).trans ((fT_ne _ _ (Nat.ne_of_beq_eq_false rfl)).trans ((fT_ne _ _ (Nat.ne_of_beq_eq_false rfl)).trans (fT_ne _ _ (Nat.ne_of_beq_eq_false rfl))))))))).trans ((fT_id _ _ ((fT_ne _ _ (Nat.ne_of_beq_eq_false rfl)).trans ((fT_ne _ _ (Nat.ne_of_beq_eq_false rfl)).trans ((fT_ne _ _ (Nat.ne_of_beq_eq_false rfl)).trans ((fT_ne _ _ (Nat.ne_of_beq_eq_false rfl)).trans ((fT_ne _ _ (Nat.ne_of_beq_eq_false rfl)).trans (fT_ne _ _ (Nat.ne_of_beq_eq_false rfl)))))))).trans ((fT_id _ _ ((fT_ne _ _ (Nat.ne_of_beq_eq_false rfl)).trans ((fT_ne _ _ (Nat.ne_of_beq_eq_false rfl)).trans ((fT_ne _ _ (Nat.ne_of_beq_eq_false rfl)).trans ((fT_ne _ _ (Nat.ne_of_beq_eq_false rfl)).trans (fT_ne _ _ (Nat.ne_of_beq_eq_false rfl))))))).trans ((fT_id _ _ ((fT_ne _ _ (Nat.ne_of_beq_eq_false rfl)).trans ((fT_ne _ _ (Nat.ne_of_beq_eq_false rfl)).trans ((fT_ne _ _ (Nat.ne_of_beq_eq_false rfl)).trans (fT_ne _ _ (Nat.ne_of_beq_eq_false rfl)))))).trans ((fT_id _ _ ((fT_ne _ _ (Nat.ne_of_beq_eq_false rfl)).trans ((fT_ne _ _ (Nat.ne_of_beq_eq_false rfl)).trans (fT_ne _ _ (Nat.ne_of_beq_eq_false rfl))))).trans ((fT_id _ _ ((fT_ne _ _ (Nat.ne_of_beq_eq_false rfl)).trans (fT_ne _ _ (Nat.ne_of_beq_eq_false rfl)))).trans ((fT_id _ _ (fT_ne _ _ (Nat.ne_of_beq_eq_false rfl))).trans (fT_id _ _ (rfl))))))))
      have hP : va_P (dC, dI) vwCl (WR a k h0 (fT (fT (fT (fT (fT (fT vi 0 0) 11 (vi 11)) 116 (vi 116)) 5 (vi 5)) 6 (vi 6)) 7 (vi 7)) (fT vj 12 (vj 12)) (fT (fT (fT (fT (fT (fT (fT (fT vF 70 (vF 70)) 0 (vF 0)) 2 (vF 2)) 3 (vF 3)) 4 (vF 4)) 5 (vF 5)) 6 (vF 6)) 69 (vF 69)) vG) H := by rw [e9]; exact hP
      have hD : va_D A (WR a k h0 (fT (fT (fT (fT (fT (fT vi 0 0) 11 (vi 11)) 116 (vi 116)) 5 (vi 5)) 6 (vi 6)) 7 (vi 7)) (fT vj 12 (vj 12)) (fT (fT (fT (fT (fT (fT (fT (fT vF 70 (vF 70)) 0 (vF 0)) 2 (vF 2)) 3 (vF 3)) 4 (vF 4)) 5 (vF 5)) 6 (vF 6)) 69 (vF 69)) vG) := by rw [e9]; exact hD
      clear e9
      have e9 : fT (fT (fT vG 1 (vG 1)) 7 (vG 7)) 8 (vG 8) = vG := (fT_id _ _ ((fT_ne _ _ (Nat.ne_of_beq_eq_false rfl)).trans (fT_ne _ _ (Nat.ne_of_beq_eq_false rfl)))).trans ((fT_id _ _ (fT_ne _ _ (Nat.ne_of_beq_eq_false rfl))).trans (fT_id _ _ (rfl)))
      have hP : va_P (dC, dI) vwCl (WR a k h0 (fT (fT (fT (fT (fT (fT vi 0 0) 11 (vi 11)) 116 (vi 116)) 5 (vi 5)) 6 (vi 6)) 7 (vi 7)) (fT vj 12 (vj 12)) (fT (fT (fT (fT (fT (fT (fT (fT vF 70 (vF 70)) 0 (vF 0)) 2 (vF 2)) 3 (vF 3)) 4 (vF 4)) 5 (vF 5)) 6 (vF 6)) 69 (vF 69)) (fT (fT (fT vG 1 (vG 1)) 7 (vG 7)) 8 (vG 8))) H := by rw [e9]; exact hP
      have hD : va_D A (WR a k h0 (fT (fT (fT (fT (fT (fT vi 0 0) 11 (vi 11)) 116 (vi 116)) 5 (vi 5)) 6 (vi 6)) 7 (vi 7)) (fT vj 12 (vj 12)) (fT (fT (fT (fT (fT (fT (fT (fT vF 70 (vF 70)) 0 (vF 0)) 2 (vF 2)) 3 (vF 3)) 4 (vF 4)) 5 (vF 5)) 6 (vF 6)) 69 (vF 69)) (fT (fT (fT vG 1 (vG 1)) 7 (vG 7)) 8 (vG 8))) := by rw [e9]; exact hD
      clear e9
      exact W.iret (v := (-1000)) hx hb hr (fun t9_ ht hW => ⟨⟨(-1000), ((vF 0), (vF 2), (vF 3), (vF 4), (vF 5), (vF 6), (vG 1), (vG 7), (vG 8), (vj 12), (vi 11), (vi 116), (vi 5), (vi 6), (vi 7), 0, (vF 69), (vF 70), mg), rfl, by (try dsimp only); exact ⟨hBg, hAn, fun q _ => rfl, hM.2.2.2.2.2.2⟩, by rw [ht]; exact hP, hD⟩, hS.F ht⟩) hS.2.2 dX12_counted_53
    · have t_26 : ¬ (kk).toInt < 0 := toI_nlt c_26 rfl (by decide)
      refine lv_iload_n hx hb dX12_counted_29 rfl (lv_at hl 2 rfl) ?_
      refine lv_if_lt (tgt := 50) hx hb dX12_counted_30 (by decide) (fun c_30 => ?_) (fun c_30 => ?_)
      · have t_30 : (vv).toInt < 0 := toI_lt c_30 rfl (by decide)
        refine lv_sipush (v := (-1000)) hx hb dX12_counted_50 (by decide) ?_
        refine W.widen (k := 0) (n := 0) (by decide +kernel) (by decide +kernel) ?_
        have e9 : fT (fT (fT (fT (fT (fT vi 0 0) 11 (vi 11)) 116 (vi 116)) 5 (vi 5)) 6 (vi 6)) 7 (vi 7) = fT vi 0 0 := (fT_id _ _ ((fT_ne _ _ (Nat.ne_of_beq_eq_false rfl)).trans ((fT_ne _ _ (Nat.ne_of_beq_eq_false rfl)).trans ((fT_ne _ _ (Nat.ne_of_beq_eq_false rfl)).trans ((fT_ne _ _ (Nat.ne_of_beq_eq_false rfl)).trans (fT_ne _ _ (Nat.ne_of_beq_eq_false rfl))))))).trans ((fT_id _ _ ((fT_ne _ _ (Nat.ne_of_beq_eq_false rfl)).trans ((fT_ne _ _ (Nat.ne_of_beq_eq_false rfl)).trans ((fT_ne _ _ (Nat.ne_of_beq_eq_false rfl)).trans (fT_ne _ _ (Nat.ne_of_beq_eq_false rfl)))))).trans ((fT_id _ _ ((fT_ne _ _ (Nat.ne_of_beq_eq_false rfl)).trans ((fT_ne _ _ (Nat.ne_of_beq_eq_false rfl)).trans (fT_ne _ _ (Nat.ne_of_beq_eq_false rfl))))).trans ((fT_id _ _ ((fT_ne _ _ (Nat.ne_of_beq_eq_false rfl)).trans (fT_ne _ _ (Nat.ne_of_beq_eq_false rfl)))).trans (fT_id _ _ (fT_ne _ _ (Nat.ne_of_beq_eq_false rfl))))))
        have hP : va_P (dC, dI) vwCl (WR a k h0 (fT (fT (fT (fT (fT (fT vi 0 0) 11 (vi 11)) 116 (vi 116)) 5 (vi 5)) 6 (vi 6)) 7 (vi 7)) vj vF vG) H := by rw [e9]; exact hP
        have hD : va_D A (WR a k h0 (fT (fT (fT (fT (fT (fT vi 0 0) 11 (vi 11)) 116 (vi 116)) 5 (vi 5)) 6 (vi 6)) 7 (vi 7)) vj vF vG) := by rw [e9]; exact hD
        clear e9
        have e9 : fT vj 12 (vj 12) = vj := fT_id _ _ (rfl)
        have hP : va_P (dC, dI) vwCl (WR a k h0 (fT (fT (fT (fT (fT (fT vi 0 0) 11 (vi 11)) 116 (vi 116)) 5 (vi 5)) 6 (vi 6)) 7 (vi 7)) (fT vj 12 (vj 12)) vF vG) H := by rw [e9]; exact hP
        have hD : va_D A (WR a k h0 (fT (fT (fT (fT (fT (fT vi 0 0) 11 (vi 11)) 116 (vi 116)) 5 (vi 5)) 6 (vi 6)) 7 (vi 7)) (fT vj 12 (vj 12)) vF vG) := by rw [e9]; exact hD
        clear e9
        have e9 : fT (fT (fT (fT (fT (fT (fT (fT vF 70 (vF 70)) 0 (vF 0)) 2 (vF 2)) 3 (vF 3)) 4 (vF 4)) 5 (vF 5)) 6 (vF 6)) 69 (vF 69) = vF := (fT_id _ _ ((fT_ne _ _ (Nat.ne_of_beq_eq_false rfl)).trans ((fT_ne _ _ (Nat.ne_of_beq_eq_false rfl)).trans ((fT_ne _ _ (Nat.ne_of_beq_eq_false rfl)).trans ((fT_ne _ _ (Nat.ne_of_beq_eq_false rfl)).trans ((fT_ne _ _ (Nat.ne_of_beq_eq_false rfl)).trans ((fT_ne _ _ (Nat.ne_of_beq_eq_false rfl)).trans (fT_ne _ _ (Nat.ne_of_beq_eq_false rfl))))))))).trans ((fT_id _ _ ((fT_ne _ _ (Nat.ne_of_beq_eq_false rfl)).trans ((fT_ne _ _ (Nat.ne_of_beq_eq_false rfl)).trans ((fT_ne _ _ (Nat.ne_of_beq_eq_false rfl)).trans ((fT_ne _ _ (Nat.ne_of_beq_eq_false rfl)).trans ((fT_ne _ _ (Nat.ne_of_beq_eq_false rfl)).trans (fT_ne _ _ (Nat.ne_of_beq_eq_false rfl)))))))).trans ((fT_id _ _ ((fT_ne _ _ (Nat.ne_of_beq_eq_false rfl)).trans ((fT_ne _ _ (Nat.ne_of_beq_eq_false rfl)).trans ((fT_ne _ _ (Nat.ne_of_beq_eq_false rfl)).trans ((fT_ne _ _ (Nat.ne_of_beq_eq_false rfl)).trans (fT_ne _ _ (Nat.ne_of_beq_eq_false rfl))))))).trans ((fT_id _ _ ((fT_ne _ _ (Nat.ne_of_beq_eq_false rfl)).trans ((fT_ne _ _ (Nat.ne_of_beq_eq_false rfl)).trans ((fT_ne _ _ (Nat.ne_of_beq_eq_false rfl)).trans (fT_ne _ _ (Nat.ne_of_beq_eq_false rfl)))))).trans ((fT_id _ _ ((fT_ne _ _ (Nat.ne_of_beq_eq_false rfl)).trans ((fT_ne _ _ (Nat.ne_of_beq_eq_false rfl)).trans (fT_ne _ _ (Nat.ne_of_beq_eq_false rfl))))).trans ((fT_id _ _ ((fT_ne _ _ (Nat.ne_of_beq_eq_false rfl)).trans (fT_ne _ _ (Nat.ne_of_beq_eq_false rfl)))).trans ((fT_id _ _ (fT_ne _ _ (Nat.ne_of_beq_eq_false rfl))).trans (fT_id _ _ (rfl))))))))
        have hP : va_P (dC, dI) vwCl (WR a k h0 (fT (fT (fT (fT (fT (fT vi 0 0) 11 (vi 11)) 116 (vi 116)) 5 (vi 5)) 6 (vi 6)) 7 (vi 7)) (fT vj 12 (vj 12)) (fT (fT (fT (fT (fT (fT (fT (fT vF 70 (vF 70)) 0 (vF 0)) 2 (vF 2)) 3 (vF 3)) 4 (vF 4)) 5 (vF 5)) 6 (vF 6)) 69 (vF 69)) vG) H := by rw [e9]; exact hP
        have hD : va_D A (WR a k h0 (fT (fT (fT (fT (fT (fT vi 0 0) 11 (vi 11)) 116 (vi 116)) 5 (vi 5)) 6 (vi 6)) 7 (vi 7)) (fT vj 12 (vj 12)) (fT (fT (fT (fT (fT (fT (fT (fT vF 70 (vF 70)) 0 (vF 0)) 2 (vF 2)) 3 (vF 3)) 4 (vF 4)) 5 (vF 5)) 6 (vF 6)) 69 (vF 69)) vG) := by rw [e9]; exact hD
        clear e9
        have e9 : fT (fT (fT vG 1 (vG 1)) 7 (vG 7)) 8 (vG 8) = vG := (fT_id _ _ ((fT_ne _ _ (Nat.ne_of_beq_eq_false rfl)).trans (fT_ne _ _ (Nat.ne_of_beq_eq_false rfl)))).trans ((fT_id _ _ (fT_ne _ _ (Nat.ne_of_beq_eq_false rfl))).trans (fT_id _ _ (rfl)))
        have hP : va_P (dC, dI) vwCl (WR a k h0 (fT (fT (fT (fT (fT (fT vi 0 0) 11 (vi 11)) 116 (vi 116)) 5 (vi 5)) 6 (vi 6)) 7 (vi 7)) (fT vj 12 (vj 12)) (fT (fT (fT (fT (fT (fT (fT (fT vF 70 (vF 70)) 0 (vF 0)) 2 (vF 2)) 3 (vF 3)) 4 (vF 4)) 5 (vF 5)) 6 (vF 6)) 69 (vF 69)) (fT (fT (fT vG 1 (vG 1)) 7 (vG 7)) 8 (vG 8))) H := by rw [e9]; exact hP
        have hD : va_D A (WR a k h0 (fT (fT (fT (fT (fT (fT vi 0 0) 11 (vi 11)) 116 (vi 116)) 5 (vi 5)) 6 (vi 6)) 7 (vi 7)) (fT vj 12 (vj 12)) (fT (fT (fT (fT (fT (fT (fT (fT vF 70 (vF 70)) 0 (vF 0)) 2 (vF 2)) 3 (vF 3)) 4 (vF 4)) 5 (vF 5)) 6 (vF 6)) 69 (vF 69)) (fT (fT (fT vG 1 (vG 1)) 7 (vG 7)) 8 (vG 8))) := by rw [e9]; exact hD
        clear e9
        exact W.iret (v := (-1000)) hx hb hr (fun t9_ ht hW => ⟨⟨(-1000), ((vF 0), (vF 2), (vF 3), (vF 4), (vF 5), (vF 6), (vG 1), (vG 7), (vG 8), (vj 12), (vi 11), (vi 116), (vi 5), (vi 6), (vi 7), 0, (vF 69), (vF 70), mg), rfl, by (try dsimp only); exact ⟨hBg, hAn, fun q _ => rfl, hM.2.2.2.2.2.2⟩, by rw [ht]; exact hP, hD⟩, hS.F ht⟩) hS.2.2 dX12_counted_53
      · have t_30 : ¬ (vv).toInt < 0 := toI_nlt c_30 rfl (by decide)
        refine lv_iload_n hx hb dX12_counted_33 rfl (lv_at hl 2 rfl) ?_
        refine lv_aload_n hx hb dX12_counted_34 rfl (lv_at hl 0 rfl) ?_
        refine va_get (D := (dC, dI)) (ci := 12) (v := .int (vi 90)) (C := RX12) (T := TX12) (N := 163) (fs := fM (vS a (fT vi 0 0) vj)) hx hb hts iwsRX12_counted_in12 hown hK hP 0 rfl rfl 90 (by decide) (hts (.fieldLink RX12 774 "OptimaWorksModel" "variables" "I") (by decide +kernel)) (fun _ h9 => h9) rfl dX12_counted_35 ?_
        refine lv_topi (fun y1 hy1 => ?_)
        obtain rfl : (nI vn) = y1 := (hy1.trans (hvn)).symm
        refine lv_icmp_ge (tgt := 50) hx hb dX12_counted_38 (by decide) (fun c_38 => ?_) (fun c_38 => ?_)
        · have t_38 : (vv).toInt ≥ ((vn : Nat) : Int) := toI_ge c_38 rfl (nI_toInt (by omega))
          refine lv_sipush (v := (-1000)) hx hb dX12_counted_50 (by decide) ?_
          refine W.widen (k := 0) (n := 0) (by decide +kernel) (by decide +kernel) ?_
          have e9 : fT (fT (fT (fT (fT (fT vi 0 0) 11 (vi 11)) 116 (vi 116)) 5 (vi 5)) 6 (vi 6)) 7 (vi 7) = fT vi 0 0 := (fT_id _ _ ((fT_ne _ _ (Nat.ne_of_beq_eq_false rfl)).trans ((fT_ne _ _ (Nat.ne_of_beq_eq_false rfl)).trans ((fT_ne _ _ (Nat.ne_of_beq_eq_false rfl)).trans ((fT_ne _ _ (Nat.ne_of_beq_eq_false rfl)).trans (fT_ne _ _ (Nat.ne_of_beq_eq_false rfl))))))).trans ((fT_id _ _ ((fT_ne _ _ (Nat.ne_of_beq_eq_false rfl)).trans ((fT_ne _ _ (Nat.ne_of_beq_eq_false rfl)).trans ((fT_ne _ _ (Nat.ne_of_beq_eq_false rfl)).trans (fT_ne _ _ (Nat.ne_of_beq_eq_false rfl)))))).trans ((fT_id _ _ ((fT_ne _ _ (Nat.ne_of_beq_eq_false rfl)).trans ((fT_ne _ _ (Nat.ne_of_beq_eq_false rfl)).trans (fT_ne _ _ (Nat.ne_of_beq_eq_false rfl))))).trans ((fT_id _ _ ((fT_ne _ _ (Nat.ne_of_beq_eq_false rfl)).trans (fT_ne _ _ (Nat.ne_of_beq_eq_false rfl)))).trans (fT_id _ _ (fT_ne _ _ (Nat.ne_of_beq_eq_false rfl))))))
          have hP : va_P (dC, dI) vwCl (WR a k h0 (fT (fT (fT (fT (fT (fT vi 0 0) 11 (vi 11)) 116 (vi 116)) 5 (vi 5)) 6 (vi 6)) 7 (vi 7)) vj vF vG) H := by rw [e9]; exact hP
          have hD : va_D A (WR a k h0 (fT (fT (fT (fT (fT (fT vi 0 0) 11 (vi 11)) 116 (vi 116)) 5 (vi 5)) 6 (vi 6)) 7 (vi 7)) vj vF vG) := by rw [e9]; exact hD
          clear e9
          have e9 : fT vj 12 (vj 12) = vj := fT_id _ _ (rfl)
          have hP : va_P (dC, dI) vwCl (WR a k h0 (fT (fT (fT (fT (fT (fT vi 0 0) 11 (vi 11)) 116 (vi 116)) 5 (vi 5)) 6 (vi 6)) 7 (vi 7)) (fT vj 12 (vj 12)) vF vG) H := by rw [e9]; exact hP
          have hD : va_D A (WR a k h0 (fT (fT (fT (fT (fT (fT vi 0 0) 11 (vi 11)) 116 (vi 116)) 5 (vi 5)) 6 (vi 6)) 7 (vi 7)) (fT vj 12 (vj 12)) vF vG) := by rw [e9]; exact hD
          clear e9
          have e9 : fT (fT (fT (fT (fT (fT (fT (fT vF 70 (vF 70)) 0 (vF 0)) 2 (vF 2)) 3 (vF 3)) 4 (vF 4)) 5 (vF 5)) 6 (vF 6)) 69 (vF 69) = vF := (fT_id _ _ ((fT_ne _ _ (Nat.ne_of_beq_eq_false rfl)).trans ((fT_ne _ _ (Nat.ne_of_beq_eq_false rfl)).trans ((fT_ne _ _ (Nat.ne_of_beq_eq_false rfl)).trans ((fT_ne _ _ (Nat.ne_of_beq_eq_false rfl)).trans ((fT_ne _ _ (Nat.ne_of_beq_eq_false rfl)).trans ((fT_ne _ _ (Nat.ne_of_beq_eq_false rfl)).trans (fT_ne _ _ (Nat.ne_of_beq_eq_false rfl))))))))).trans ((fT_id _ _ ((fT_ne _ _ (Nat.ne_of_beq_eq_false rfl)).trans ((fT_ne _ _ (Nat.ne_of_beq_eq_false rfl)).trans ((fT_ne _ _ (Nat.ne_of_beq_eq_false rfl)).trans ((fT_ne _ _ (Nat.ne_of_beq_eq_false rfl)).trans ((fT_ne _ _ (Nat.ne_of_beq_eq_false rfl)).trans (fT_ne _ _ (Nat.ne_of_beq_eq_false rfl)))))))).trans ((fT_id _ _ ((fT_ne _ _ (Nat.ne_of_beq_eq_false rfl)).trans ((fT_ne _ _ (Nat.ne_of_beq_eq_false rfl)).trans ((fT_ne _ _ (Nat.ne_of_beq_eq_false rfl)).trans ((fT_ne _ _ (Nat.ne_of_beq_eq_false rfl)).trans (fT_ne _ _ (Nat.ne_of_beq_eq_false rfl))))))).trans ((fT_id _ _ ((fT_ne _ _ (Nat.ne_of_beq_eq_false rfl)).trans ((fT_ne _ _ (Nat.ne_of_beq_eq_false rfl)).trans ((fT_ne _ _ (Nat.ne_of_beq_eq_false rfl)).trans (fT_ne _ _ (Nat.ne_of_beq_eq_false rfl)))))).trans ((fT_id _ _ ((fT_ne _ _ (Nat.ne_of_beq_eq_false rfl)).trans ((fT_ne _ _ (Nat.ne_of_beq_eq_false rfl)).trans (fT_ne _ _ (Nat.ne_of_beq_eq_false rfl))))).trans ((fT_id _ _ ((fT_ne _ _ (Nat.ne_of_beq_eq_false rfl)).trans (fT_ne _ _ (Nat.ne_of_beq_eq_false rfl)))).trans ((fT_id _ _ (fT_ne _ _ (Nat.ne_of_beq_eq_false rfl))).trans (fT_id _ _ (rfl))))))))
          have hP : va_P (dC, dI) vwCl (WR a k h0 (fT (fT (fT (fT (fT (fT vi 0 0) 11 (vi 11)) 116 (vi 116)) 5 (vi 5)) 6 (vi 6)) 7 (vi 7)) (fT vj 12 (vj 12)) (fT (fT (fT (fT (fT (fT (fT (fT vF 70 (vF 70)) 0 (vF 0)) 2 (vF 2)) 3 (vF 3)) 4 (vF 4)) 5 (vF 5)) 6 (vF 6)) 69 (vF 69)) vG) H := by rw [e9]; exact hP
          have hD : va_D A (WR a k h0 (fT (fT (fT (fT (fT (fT vi 0 0) 11 (vi 11)) 116 (vi 116)) 5 (vi 5)) 6 (vi 6)) 7 (vi 7)) (fT vj 12 (vj 12)) (fT (fT (fT (fT (fT (fT (fT (fT vF 70 (vF 70)) 0 (vF 0)) 2 (vF 2)) 3 (vF 3)) 4 (vF 4)) 5 (vF 5)) 6 (vF 6)) 69 (vF 69)) vG) := by rw [e9]; exact hD
          clear e9
          have e9 : fT (fT (fT vG 1 (vG 1)) 7 (vG 7)) 8 (vG 8) = vG := (fT_id _ _ ((fT_ne _ _ (Nat.ne_of_beq_eq_false rfl)).trans (fT_ne _ _ (Nat.ne_of_beq_eq_false rfl)))).trans ((fT_id _ _ (fT_ne _ _ (Nat.ne_of_beq_eq_false rfl))).trans (fT_id _ _ (rfl)))
          have hP : va_P (dC, dI) vwCl (WR a k h0 (fT (fT (fT (fT (fT (fT vi 0 0) 11 (vi 11)) 116 (vi 116)) 5 (vi 5)) 6 (vi 6)) 7 (vi 7)) (fT vj 12 (vj 12)) (fT (fT (fT (fT (fT (fT (fT (fT vF 70 (vF 70)) 0 (vF 0)) 2 (vF 2)) 3 (vF 3)) 4 (vF 4)) 5 (vF 5)) 6 (vF 6)) 69 (vF 69)) (fT (fT (fT vG 1 (vG 1)) 7 (vG 7)) 8 (vG 8))) H := by rw [e9]; exact hP
          have hD : va_D A (WR a k h0 (fT (fT (fT (fT (fT (fT vi 0 0) 11 (vi 11)) 116 (vi 116)) 5 (vi 5)) 6 (vi 6)) 7 (vi 7)) (fT vj 12 (vj 12)) (fT (fT (fT (fT (fT (fT (fT (fT vF 70 (vF 70)) 0 (vF 0)) 2 (vF 2)) 3 (vF 3)) 4 (vF 4)) 5 (vF 5)) 6 (vF 6)) 69 (vF 69)) (fT (fT (fT vG 1 (vG 1)) 7 (vG 7)) 8 (vG 8))) := by rw [e9]; exact hD
          clear e9
          exact W.iret (v := (-1000)) hx hb hr (fun t9_ ht hW => ⟨⟨(-1000), ((vF 0), (vF 2), (vF 3), (vF 4), (vF 5), (vF 6), (vG 1), (vG 7), (vG 8), (vj 12), (vi 11), (vi 116), (vi 5), (vi 6), (vi 7), 0, (vF 69), (vF 70), mg), rfl, by (try dsimp only); exact ⟨hBg, hAn, fun q _ => rfl, hM.2.2.2.2.2.2⟩, by rw [ht]; exact hP, hD⟩, hS.F ht⟩) hS.2.2 dX12_counted_53
        · have t_38 : ¬ (vv).toInt ≥ ((vn : Nat) : Int) := toI_nge c_38 rfl (nI_toInt (by omega))
          refine lv_aload_n hx hb dX12_counted_41 rfl (lv_at hl 0 rfl) ?_
          refine va_get (D := (dC, dI)) (ci := 12) (v := .ref (a 58)) (C := RX12) (T := TX12) (N := 163) (fs := fM (vS a (fT vi 0 0) vj)) hx hb hts iwsRX12_counted_in12 hown hK hP 0 rfl rfl 98 (by decide) (hts (.fieldLink RX12 197 "OptimaWorksModel" "whole" "[I") (by decide +kernel)) (fun _ h9 => h9) rfl dX12_counted_42 ?_
          refine lv_iload_n hx hb dX12_counted_45 rfl (lv_at hl 2 rfl) ?_
          refine va_iald (cA := k 58) (n := 9) (f := (vF 58)) hx hb hK hP 59 58 (WR_get 58 (by decide)) (TR_get 58 (by decide)) (vp_in_iff.mpr (by omega)) dX12_counted_46 ?_
          refine lv_if_ne (tgt := 54) hx hb dX12_counted_47 (by decide) (fun c_47 => ?_) (fun c_47 => ?_)
          · have t_47 : (((vF 58) (vv).toNatClampNeg)).toInt ≠ 0 := toI_ne c_47 rfl (by decide)
            refine lv_iconst (v := 0) hx hb dX12_counted_54 (by decide) ?_
            refine lv_istore_n hx hb dX12_counted_55 rfl hl (by decide) rfl (fun ls (hl : lv_has ls _ ([(3, .int 0), (0, .ref h0), (1, .int kk), (2, .int vv)])) => ?_)
            refine lv_aload_n hx hb dX12_counted_56 rfl (lv_at hl 1 rfl) ?_
            have hFc := allFree hD hS hA
            refine va_callv (va_runV (As := []) (rest := []) ⟨hx, hb, hml, hown, hts⟩ (r_X12_firstValues l dC dI a k h0 (fT vi 0 0) vj vF vG vn (by first | with_reducible assumption | decide | omega | rfl | assumption) (by first | with_reducible assumption | decide | omega | rfl | assumption) H.size) (cwV 0 hts gwsRX12_counted_0 rfl rfl rfl hd_yX12_firstValues_RX12 (by decide +kernel)) (fz_pre (va_recv hK hP (ci := 12) (q0 := 0) rfl rfl) hP hK hD) rfl rfl hl.1 rfl (lv_room (Nat.le_of_ble_eq_true rfl)) dX12_counted_57 (by decide +kernel)) hS (fun q _ h => hFc q h) hFc (fun f7057 t9_ H locs ht hvm hw9 hB9 hz1 hk1 hS => ?_)
            have hP : va_P (dC, dI) vwCl (WR a k h0 (fT vi 0 0) vj (fT vF 70 f7057) vG) H := fz_P ht hB9.1
            have hD : va_D A (WR a k h0 (fT vi 0 0) vj (fT vF 70 f7057) vG) := hB9.2.weaken (fun _ q _ h => hFc q.1 h)
            revert hw9
            refine fz_a2 ?_
            intro f57_0 f57_1
            have f57_0 : ∀ k, k < vn → f7057 k = (vF 56) k := f57_0
            have f57_1 : ∀ k, vn ≤ k → f7057 k = (vF 70) k := f57_1
            refine lv_iconst (v := 1) hx hb dX12_counted_60 (by decide) ?_
            refine lv_istore hx hb dX12_counted_61 hl (by decide) rfl (fun ls (hl : lv_has ls _ ([(4, .int 1), (3, .int 0), (0, .ref h0), (1, .int kk), (2, .int vv)])) => ?_)
            have e9 : fT (fT (fT (fT (fT (fT vi 0 0) 11 (vi 11)) 116 (vi 116)) 5 (vi 5)) 6 (vi 6)) 7 (vi 7) = fT vi 0 0 := by funext q9; by_cases h9_0 : q9 = 0; (subst h9_0; exact ((fT_ne _ _ (Nat.ne_of_beq_eq_false rfl)).trans ((fT_ne _ _ (Nat.ne_of_beq_eq_false rfl)).trans ((fT_ne _ _ (Nat.ne_of_beq_eq_false rfl)).trans ((fT_ne _ _ (Nat.ne_of_beq_eq_false rfl)).trans ((fT_ne _ _ (Nat.ne_of_beq_eq_false rfl)).trans (fT_eq _ _ _)))))).trans (Eq.trans (by first | with_reducible rfl | with_reducible assumption | (symm; with_reducible assumption) | rfl | assumption | (symm; assumption) | (subst_vars; rfl)) (fT_eq _ _ _).symm)); by_cases h9_11 : q9 = 11; (subst h9_11; exact ((fT_ne _ _ (Nat.ne_of_beq_eq_false rfl)).trans ((fT_ne _ _ (Nat.ne_of_beq_eq_false rfl)).trans ((fT_ne _ _ (Nat.ne_of_beq_eq_false rfl)).trans ((fT_ne _ _ (Nat.ne_of_beq_eq_false rfl)).trans (fT_eq _ _ _))))).trans (Eq.trans (by first | with_reducible rfl | with_reducible assumption | (symm; with_reducible assumption) | rfl | assumption | (symm; assumption) | (subst_vars; rfl)) (fT_ne _ _ (Nat.ne_of_beq_eq_false rfl)).symm)); by_cases h9_116 : q9 = 116; (subst h9_116; exact ((fT_ne _ _ (Nat.ne_of_beq_eq_false rfl)).trans ((fT_ne _ _ (Nat.ne_of_beq_eq_false rfl)).trans ((fT_ne _ _ (Nat.ne_of_beq_eq_false rfl)).trans (fT_eq _ _ _)))).trans (Eq.trans (by first | with_reducible rfl | with_reducible assumption | (symm; with_reducible assumption) | rfl | assumption | (symm; assumption) | (subst_vars; rfl)) (fT_ne _ _ (Nat.ne_of_beq_eq_false rfl)).symm)); by_cases h9_5 : q9 = 5; (subst h9_5; exact ((fT_ne _ _ (Nat.ne_of_beq_eq_false rfl)).trans ((fT_ne _ _ (Nat.ne_of_beq_eq_false rfl)).trans (fT_eq _ _ _))).trans (Eq.trans (by first | with_reducible rfl | with_reducible assumption | (symm; with_reducible assumption) | rfl | assumption | (symm; assumption) | (subst_vars; rfl)) (fT_ne _ _ (Nat.ne_of_beq_eq_false rfl)).symm)); by_cases h9_6 : q9 = 6; (subst h9_6; exact ((fT_ne _ _ (Nat.ne_of_beq_eq_false rfl)).trans (fT_eq _ _ _)).trans (Eq.trans (by first | with_reducible rfl | with_reducible assumption | (symm; with_reducible assumption) | rfl | assumption | (symm; assumption) | (subst_vars; rfl)) (fT_ne _ _ (Nat.ne_of_beq_eq_false rfl)).symm)); by_cases h9_7 : q9 = 7; (subst h9_7; exact (fT_eq _ _ _).trans (Eq.trans (by first | with_reducible rfl | with_reducible assumption | (symm; with_reducible assumption) | rfl | assumption | (symm; assumption) | (subst_vars; rfl)) (fT_ne _ _ (Nat.ne_of_beq_eq_false rfl)).symm)); exact ((fT_ne _ _ h9_7).trans ((fT_ne _ _ h9_6).trans ((fT_ne _ _ h9_5).trans ((fT_ne _ _ h9_116).trans ((fT_ne _ _ h9_11).trans (fT_ne _ _ h9_0)))))).trans (fT_ne _ _ h9_0).symm
            have hP : va_P (dC, dI) vwCl (WR a k h0 (fT (fT (fT (fT (fT (fT vi 0 0) 11 (vi 11)) 116 (vi 116)) 5 (vi 5)) 6 (vi 6)) 7 (vi 7)) vj (fT vF 70 f7057) vG) H := by rw [e9]; exact hP
            have hD : va_D A (WR a k h0 (fT (fT (fT (fT (fT (fT vi 0 0) 11 (vi 11)) 116 (vi 116)) 5 (vi 5)) 6 (vi 6)) 7 (vi 7)) vj (fT vF 70 f7057) vG) := by rw [e9]; exact hD
            clear e9
            have e9 : fT vj 12 (vj 12) = vj := by funext q9; by_cases h9_12 : q9 = 12; (subst h9_12; exact (fT_eq _ _ _).trans (Eq.trans (by first | with_reducible rfl | with_reducible assumption | (symm; with_reducible assumption) | rfl | assumption | (symm; assumption) | (subst_vars; rfl)) (Eq.refl _).symm)); exact (fT_ne _ _ h9_12).trans (Eq.refl _).symm
            have hP : va_P (dC, dI) vwCl (WR a k h0 (fT (fT (fT (fT (fT (fT vi 0 0) 11 (vi 11)) 116 (vi 116)) 5 (vi 5)) 6 (vi 6)) 7 (vi 7)) (fT vj 12 (vj 12)) (fT vF 70 f7057) vG) H := by rw [e9]; exact hP
            have hD : va_D A (WR a k h0 (fT (fT (fT (fT (fT (fT vi 0 0) 11 (vi 11)) 116 (vi 116)) 5 (vi 5)) 6 (vi 6)) 7 (vi 7)) (fT vj 12 (vj 12)) (fT vF 70 f7057) vG) := by rw [e9]; exact hD
            clear e9
            have e9 : fT (fT (fT (fT (fT (fT (fT (fT vF 70 f7057) 0 (vF 0)) 2 (vF 2)) 3 (vF 3)) 4 (vF 4)) 5 (vF 5)) 6 (vF 6)) 69 (vF 69) = fT vF 70 f7057 := by funext q9; by_cases h9_70 : q9 = 70; (subst h9_70; exact ((fT_ne _ _ (Nat.ne_of_beq_eq_false rfl)).trans ((fT_ne _ _ (Nat.ne_of_beq_eq_false rfl)).trans ((fT_ne _ _ (Nat.ne_of_beq_eq_false rfl)).trans ((fT_ne _ _ (Nat.ne_of_beq_eq_false rfl)).trans ((fT_ne _ _ (Nat.ne_of_beq_eq_false rfl)).trans ((fT_ne _ _ (Nat.ne_of_beq_eq_false rfl)).trans ((fT_ne _ _ (Nat.ne_of_beq_eq_false rfl)).trans (fT_eq _ _ _)))))))).trans (Eq.trans (by first | with_reducible rfl | with_reducible assumption | (symm; with_reducible assumption) | rfl | assumption | (symm; assumption) | (subst_vars; rfl)) (fT_eq _ _ _).symm)); by_cases h9_0 : q9 = 0; (subst h9_0; exact ((fT_ne _ _ (Nat.ne_of_beq_eq_false rfl)).trans ((fT_ne _ _ (Nat.ne_of_beq_eq_false rfl)).trans ((fT_ne _ _ (Nat.ne_of_beq_eq_false rfl)).trans ((fT_ne _ _ (Nat.ne_of_beq_eq_false rfl)).trans ((fT_ne _ _ (Nat.ne_of_beq_eq_false rfl)).trans ((fT_ne _ _ (Nat.ne_of_beq_eq_false rfl)).trans (fT_eq _ _ _))))))).trans (Eq.trans (by first | with_reducible rfl | with_reducible assumption | (symm; with_reducible assumption) | rfl | assumption | (symm; assumption) | (subst_vars; rfl)) (fT_ne _ _ (Nat.ne_of_beq_eq_false rfl)).symm)); by_cases h9_2 : q9 = 2; (subst h9_2; exact ((fT_ne _ _ (Nat.ne_of_beq_eq_false rfl)).trans ((fT_ne _ _ (Nat.ne_of_beq_eq_false rfl)).trans ((fT_ne _ _ (Nat.ne_of_beq_eq_false rfl)).trans ((fT_ne _ _ (Nat.ne_of_beq_eq_false rfl)).trans ((fT_ne _ _ (Nat.ne_of_beq_eq_false rfl)).trans (fT_eq _ _ _)))))).trans (Eq.trans (by first | with_reducible rfl | with_reducible assumption | (symm; with_reducible assumption) | rfl | assumption | (symm; assumption) | (subst_vars; rfl)) (fT_ne _ _ (Nat.ne_of_beq_eq_false rfl)).symm)); by_cases h9_3 : q9 = 3; (subst h9_3; exact ((fT_ne _ _ (Nat.ne_of_beq_eq_false rfl)).trans ((fT_ne _ _ (Nat.ne_of_beq_eq_false rfl)).trans ((fT_ne _ _ (Nat.ne_of_beq_eq_false rfl)).trans ((fT_ne _ _ (Nat.ne_of_beq_eq_false rfl)).trans (fT_eq _ _ _))))).trans (Eq.trans (by first | with_reducible rfl | with_reducible assumption | (symm; with_reducible assumption) | rfl | assumption | (symm; assumption) | (subst_vars; rfl)) (fT_ne _ _ (Nat.ne_of_beq_eq_false rfl)).symm)); by_cases h9_4 : q9 = 4; (subst h9_4; exact ((fT_ne _ _ (Nat.ne_of_beq_eq_false rfl)).trans ((fT_ne _ _ (Nat.ne_of_beq_eq_false rfl)).trans ((fT_ne _ _ (Nat.ne_of_beq_eq_false rfl)).trans (fT_eq _ _ _)))).trans (Eq.trans (by first | with_reducible rfl | with_reducible assumption | (symm; with_reducible assumption) | rfl | assumption | (symm; assumption) | (subst_vars; rfl)) (fT_ne _ _ (Nat.ne_of_beq_eq_false rfl)).symm)); by_cases h9_5 : q9 = 5; (subst h9_5; exact ((fT_ne _ _ (Nat.ne_of_beq_eq_false rfl)).trans ((fT_ne _ _ (Nat.ne_of_beq_eq_false rfl)).trans (fT_eq _ _ _))).trans (Eq.trans (by first | with_reducible rfl | with_reducible assumption | (symm; with_reducible assumption) | rfl | assumption | (symm; assumption) | (subst_vars; rfl)) (fT_ne _ _ (Nat.ne_of_beq_eq_false rfl)).symm)); by_cases h9_6 : q9 = 6; (subst h9_6; exact ((fT_ne _ _ (Nat.ne_of_beq_eq_false rfl)).trans (fT_eq _ _ _)).trans (Eq.trans (by first | with_reducible rfl | with_reducible assumption | (symm; with_reducible assumption) | rfl | assumption | (symm; assumption) | (subst_vars; rfl)) (fT_ne _ _ (Nat.ne_of_beq_eq_false rfl)).symm)); by_cases h9_69 : q9 = 69; (subst h9_69; exact (fT_eq _ _ _).trans (Eq.trans (by first | with_reducible rfl | with_reducible assumption | (symm; with_reducible assumption) | rfl | assumption | (symm; assumption) | (subst_vars; rfl)) (fT_ne _ _ (Nat.ne_of_beq_eq_false rfl)).symm)); exact ((fT_ne _ _ h9_69).trans ((fT_ne _ _ h9_6).trans ((fT_ne _ _ h9_5).trans ((fT_ne _ _ h9_4).trans ((fT_ne _ _ h9_3).trans ((fT_ne _ _ h9_2).trans ((fT_ne _ _ h9_0).trans (fT_ne _ _ h9_70)))))))).trans (fT_ne _ _ h9_70).symm
            have hP : va_P (dC, dI) vwCl (WR a k h0 (fT (fT (fT (fT (fT (fT vi 0 0) 11 (vi 11)) 116 (vi 116)) 5 (vi 5)) 6 (vi 6)) 7 (vi 7)) (fT vj 12 (vj 12)) (fT (fT (fT (fT (fT (fT (fT (fT vF 70 f7057) 0 (vF 0)) 2 (vF 2)) 3 (vF 3)) 4 (vF 4)) 5 (vF 5)) 6 (vF 6)) 69 (vF 69)) vG) H := by rw [e9]; exact hP
            have hD : va_D A (WR a k h0 (fT (fT (fT (fT (fT (fT vi 0 0) 11 (vi 11)) 116 (vi 116)) 5 (vi 5)) 6 (vi 6)) 7 (vi 7)) (fT vj 12 (vj 12)) (fT (fT (fT (fT (fT (fT (fT (fT vF 70 f7057) 0 (vF 0)) 2 (vF 2)) 3 (vF 3)) 4 (vF 4)) 5 (vF 5)) 6 (vF 6)) 69 (vF 69)) vG) := by rw [e9]; exact hD
            clear e9
            have e9 : fT (fT (fT vG 1 (vG 1)) 7 (vG 7)) 8 (vG 8) = vG := by funext q9; by_cases h9_1 : q9 = 1; (subst h9_1; exact ((fT_ne _ _ (Nat.ne_of_beq_eq_false rfl)).trans ((fT_ne _ _ (Nat.ne_of_beq_eq_false rfl)).trans (fT_eq _ _ _))).trans (Eq.trans (by first | with_reducible rfl | with_reducible assumption | (symm; with_reducible assumption) | rfl | assumption | (symm; assumption) | (subst_vars; rfl)) (Eq.refl _).symm)); by_cases h9_7 : q9 = 7; (subst h9_7; exact ((fT_ne _ _ (Nat.ne_of_beq_eq_false rfl)).trans (fT_eq _ _ _)).trans (Eq.trans (by first | with_reducible rfl | with_reducible assumption | (symm; with_reducible assumption) | rfl | assumption | (symm; assumption) | (subst_vars; rfl)) (Eq.refl _).symm)); by_cases h9_8 : q9 = 8; (subst h9_8; exact (fT_eq _ _ _).trans (Eq.trans (by first | with_reducible rfl | with_reducible assumption | (symm; with_reducible assumption) | rfl | assumption | (symm; assumption) | (subst_vars; rfl)) (Eq.refl _).symm)); exact ((fT_ne _ _ h9_8).trans ((fT_ne _ _ h9_7).trans (fT_ne _ _ h9_1))).trans (Eq.refl _).symm
            have hP : va_P (dC, dI) vwCl (WR a k h0 (fT (fT (fT (fT (fT (fT vi 0 0) 11 (vi 11)) 116 (vi 116)) 5 (vi 5)) 6 (vi 6)) 7 (vi 7)) (fT vj 12 (vj 12)) (fT (fT (fT (fT (fT (fT (fT (fT vF 70 f7057) 0 (vF 0)) 2 (vF 2)) 3 (vF 3)) 4 (vF 4)) 5 (vF 5)) 6 (vF 6)) 69 (vF 69)) (fT (fT (fT vG 1 (vG 1)) 7 (vG 7)) 8 (vG 8))) H := by rw [e9]; exact hP
            have hD : va_D A (WR a k h0 (fT (fT (fT (fT (fT (fT vi 0 0) 11 (vi 11)) 116 (vi 116)) 5 (vi 5)) 6 (vi 6)) 7 (vi 7)) (fT vj 12 (vj 12)) (fT (fT (fT (fT (fT (fT (fT (fT vF 70 f7057) 0 (vF 0)) 2 (vF 2)) 3 (vF 3)) 4 (vF 4)) 5 (vF 5)) 6 (vF 6)) 69 (vF 69)) (fT (fT (fT vG 1 (vG 1)) 7 (vG 7)) 8 (vG 8))) := by rw [e9]; exact hD
            clear e9
            have hl : lv_has _ _ ([(0, .ref h0), (1, .int kk), (2, .int vv), (3, .int 0), (4, .int 1)]) := lv_sub hl [2, 3, 4, 1, 0] rfl
            refine (fun (loop : ∀ (n9 : Nat) (nq : Int32) (mo : Int32) (f69x : Nat → Int32) (f70x : Nat → Int32) (gx : Nat → Int32) (f2wx : Nat → Int32) (f3wx : Nat → Int32) (f4x : Nat → Int32) (f5x : Nat → Int32) (f6x : Nat → Int32) (gsx : Nat → Int64) (Fx : Nat → Int64) (L8x : Nat → Int64) (qdx : Int64) (qkx : Int32) (fxx : Int32) (cn2x : Int32) (rn2x : Int32) (gn2x : Int32) (m1 : Nat → Int) (H : Heap) (locs : List Loc) (ls : Array Slot), (Bg gx m1) → (VaO (vF 56) (vF 57) (vF 58) f70x vn) → (∀ q, vn ≤ q → f70x q = vF 70 q) → (AnsB m1 1020) → (∀ q, ((1000 ≤ q ∧ q < 1020) ∨ 1036 ≤ q) → m1 q = mg q) →  ((mo = 0 ∧ 0 < n9) ∨ odoP (vR (vF 56) (vF 57)) vn < odo (vD (vF 56) f70x) (vR (vF 56) (vF 57)) vn + n9) → va_P (dC, dI) vwCl (WR a k h0 (fT (fT (fT (fT (fT (fT vi 0 0) 11 qkx) 116 fxx) 5 cn2x) 6 rn2x) 7 gn2x) (fT vj 12 qdx) (fT (fT (fT (fT (fT (fT (fT (fT vF 70 f70x) 0 gx) 2 f2wx) 3 f3wx) 4 f4x) 5 f5x) 6 f6x) 69 f69x) (fT (fT (fT vG 1 gsx) 7 Fx) 8 L8x)) H → va_D A (WR a k h0 (fT (fT (fT (fT (fT (fT vi 0 0) 11 qkx) 116 fxx) 5 cn2x) 6 rn2x) 7 gn2x) (fT vj 12 qdx) (fT (fT (fT (fT (fT (fT (fT (fT vF 70 f70x) 0 gx) 2 f2wx) 3 f3wx) 4 f4x) 5 f5x) 6 f6x) 69 f69x) (fT (fT (fT vG 1 gsx) 7 Fx) 8 L8x)) → va_S A s.heap H locs → lv_has ls 5 [(0, .ref h0), (1, .int kk), (2, .int vv), (3, .int nq), (4, .int mo)] → W p l e _ s m _ below meth c H locs 0 0 _ (F0 m 63 ls [])) => loop (odoP (vR (vF 56) (vF 57)) vn + 1) 0 1 (vF 69) f7057 (vF 0) (vF 2) (vF 3) (vF 4) (vF 5) (vF 6) (vG 1) (vG 7) (vG 8) (vj 12) (vi 11) (vi 116) (vi 5) (vi 6) (vi 7) mg _ _ _ (hBg) (VaO.first hlh f57_0) (f57_1) (hAn) (fun q _ => rfl) (Or.inr (by omega)) hP hD hS hl) ?_
            intro n9
            induction n9 with
            | zero => intro nq mo f69x f70x gx f2wx f3wx f4x f5x f6x gsx Fx L8x qdx qkx fxx cn2x rn2x gn2x m1 H locs ls hB1 hva hvr hA1 ho hf9; exact False.elim (by (have h9 := odo_lt (f := vD (vF 56) f70x) (b := vR (vF 56) (vF 57)) vn (fun q hq => hva.dg hq)); omega)
            | succ n9 ih63 =>
              intro nq mo f69x f70x gx f2wx f3wx f4x f5x f6x gsx Fx L8x qdx qkx fxx cn2x rn2x gn2x m1 H locs ls hB1 hva hvr hA1 ho hf63 hP hD hS hl
              have hfx := hf63
              refine lv_iload hx hb dX12_counted_63 (lv_at hl 4 rfl) ?_
              refine lv_if_eq (tgt := 99) hx hb dX12_counted_65 (by decide) (fun c_65 => ?_) (fun c_65 => ?_)
              · have t_65 : (mo).toInt = 0 := toI_eq c_65 rfl (by decide)
                refine lv_sipush (v := (-1000)) hx hb dX12_counted_99 (by decide) ?_
                refine W.widen (k := 0) (n := 0) (by decide +kernel) (by decide +kernel) ?_
                exact W.iret (v := (-1000)) hx hb hr (fun t9_ ht hW => ⟨⟨(-1000), (gx, f2wx, f3wx, f4x, f5x, f6x, gsx, Fx, L8x, qdx, qkx, fxx, cn2x, rn2x, gn2x, 0, f69x, f70x, m1), rfl, by (try dsimp only); exact ⟨hB1, hA1, ho, VaO.box hM hva hvr⟩, by rw [ht]; exact hP, hD⟩, hS.F ht⟩) hS.2.2 dX12_counted_102
              · have t_65 : ¬ (mo).toInt = 0 := toI_neq c_65 rfl (by decide)
                refine lv_aload_n hx hb dX12_counted_68 rfl (lv_at hl 0 rfl) ?_
                have hFc := allFree hD hS hA
                refine va_calli (va_runV (As := []) (rest := []) ⟨hx, hb, hml, hown, hts⟩ (r_X12_counts l dC dI a k h0 (fT (fT (fT (fT (fT (fT vi 0 0) 11 qkx) 116 fxx) 5 cn2x) 6 rn2x) 7 gn2x) (fT vj 12 qdx) (fT (fT (fT (fT (fT (fT (fT (fT vF 70 f70x) 0 gx) 2 f2wx) 3 f3wx) 4 f4x) 5 f5x) 6 f6x) 69 f69x) (fT (fT (fT vG 1 gsx) 7 Fx) 8 L8x) vn mr gq dn m1 hB1 (by first | with_reducible assumption | decide | omega | rfl | assumption) (by first | with_reducible assumption | decide | omega | rfl | assumption) (by first | with_reducible assumption | decide | omega | rfl | assumption) (by first | with_reducible assumption | decide | omega | rfl | assumption) (by first | with_reducible assumption | decide | omega | rfl | assumption) (by first | with_reducible assumption | decide | omega | rfl | assumption) (by first | with_reducible assumption | decide | omega | rfl | assumption) (by first | with_reducible assumption | decide | omega | rfl | assumption) (hM.val (VaO.box hM hva hvr)) (by first | with_reducible assumption | decide | omega | rfl | assumption) (by first | with_reducible assumption | decide | omega | rfl | assumption) (hA1) H.size) (cwV 0 hts gwsRX12_counted_1 rfl rfl rfl hd_yX12_counts_RX12 (by decide +kernel)) (fz_pre (va_recv hK hP (ci := 12) (q0 := 0) rfl rfl) hP hK hD) rfl rfl hl.1 rfl (lv_room (Nat.le_of_ble_eq_true rfl)) dX12_counted_69 (by decide +kernel)) hS (fun q _ h => hFc q h) hFc (fun r69 u t9_ H locs ht hvm hw9 hB9 hz1 hk1 hS => ?_)
                revert u
                refine fz_p17 ?_
                intro g69 f2w69 f3w69 f469 f569 f669 gs69 F69 L869 qd69 qk69 fx69 cn269 rn269 gn269 f6969 m269 hw9 hB9
                try dsimp only at hw9 hB9
                have hP : va_P (dC, dI) vwCl (WR a k h0 (fT (fT (fT (fT (fT (fT (fT (fT (fT (fT (fT vi 0 0) 11 qkx) 116 fxx) 5 cn2x) 6 rn2x) 7 gn2x) 11 qk69) 116 fx69) 5 cn269) 6 rn269) 7 gn269) (fT (fT vj 12 qdx) 12 qd69) (fT (fT (fT (fT (fT (fT (fT (fT (fT (fT (fT (fT (fT (fT (fT vF 70 f70x) 0 gx) 2 f2wx) 3 f3wx) 4 f4x) 5 f5x) 6 f6x) 69 f69x) 69 f6969) 0 g69) 2 f2w69) 3 f3w69) 4 f469) 5 f569) 6 f669) (fT (fT (fT (fT (fT (fT vG 1 gsx) 7 Fx) 8 L8x) 1 gs69) 7 F69) 8 L869)) H := fz_P ht hB9.1
                have hD : va_D A (WR a k h0 (fT (fT (fT (fT (fT (fT (fT (fT (fT (fT (fT vi 0 0) 11 qkx) 116 fxx) 5 cn2x) 6 rn2x) 7 gn2x) 11 qk69) 116 fx69) 5 cn269) 6 rn269) 7 gn269) (fT (fT vj 12 qdx) 12 qd69) (fT (fT (fT (fT (fT (fT (fT (fT (fT (fT (fT (fT (fT (fT (fT vF 70 f70x) 0 gx) 2 f2wx) 3 f3wx) 4 f4x) 5 f5x) 6 f6x) 69 f69x) 69 f6969) 0 g69) 2 f2w69) 3 f3w69) 4 f469) 5 f569) 6 f669) (fT (fT (fT (fT (fT (fT vG 1 gsx) 7 Fx) 8 L8x) 1 gs69) 7 F69) 8 L869)) := hB9.2.weaken (fun _ q _ h => hFc q.1 h)
                have e9 : fT (fT (fT (fT (fT (fT vi 0 0) 11 qk69) 116 fx69) 5 cn269) 6 rn269) 7 gn269 = fT (fT (fT (fT (fT (fT (fT (fT (fT (fT (fT vi 0 0) 11 qkx) 116 fxx) 5 cn2x) 6 rn2x) 7 gn2x) 11 qk69) 116 fx69) 5 cn269) 6 rn269) 7 gn269 := ((congrArg (fun g9 => fT (fT (fT (fT g9 116 fx69) 5 cn269) 6 rn269) 7 gn269) ((fT_sw _ _ _ (Nat.ne_of_beq_eq_false rfl)).trans (congrArg (fun g9 => fT g9 7 gn2x) ((fT_sw _ _ _ (Nat.ne_of_beq_eq_false rfl)).trans (congrArg (fun g9 => fT g9 6 rn2x) ((fT_sw _ _ _ (Nat.ne_of_beq_eq_false rfl)).trans (congrArg (fun g9 => fT g9 5 cn2x) ((fT_sw _ _ _ (Nat.ne_of_beq_eq_false rfl)).trans (congrArg (fun g9 => fT g9 116 fxx) (fT_sm _ _ _ _)))))))))).trans ((congrArg (fun g9 => fT (fT (fT g9 5 cn269) 6 rn269) 7 gn269) ((fT_sw _ _ _ (Nat.ne_of_beq_eq_false rfl)).trans (congrArg (fun g9 => fT g9 7 gn2x) ((fT_sw _ _ _ (Nat.ne_of_beq_eq_false rfl)).trans (congrArg (fun g9 => fT g9 6 rn2x) ((fT_sw _ _ _ (Nat.ne_of_beq_eq_false rfl)).trans (congrArg (fun g9 => fT g9 5 cn2x) (fT_sm _ _ _ _)))))))).trans ((congrArg (fun g9 => fT (fT g9 6 rn269) 7 gn269) ((fT_sw _ _ _ (Nat.ne_of_beq_eq_false rfl)).trans (congrArg (fun g9 => fT g9 7 gn2x) ((fT_sw _ _ _ (Nat.ne_of_beq_eq_false rfl)).trans (congrArg (fun g9 => fT g9 6 rn2x) (fT_sm _ _ _ _)))))).trans ((congrArg (fun g9 => fT g9 7 gn269) ((fT_sw _ _ _ (Nat.ne_of_beq_eq_false rfl)).trans (congrArg (fun g9 => fT g9 7 gn2x) (fT_sm _ _ _ _)))).trans (fT_sm _ _ _ _))))).symm
                rw [← e9] at hP hD
                clear e9
                have e9 : fT vj 12 qd69 = fT (fT vj 12 qdx) 12 qd69 := (fT_sm _ _ _ _).symm
                rw [← e9] at hP hD
                clear e9
                have e9 : fT (fT (fT (fT (fT (fT (fT (fT vF 70 f70x) 0 g69) 2 f2w69) 3 f3w69) 4 f469) 5 f569) 6 f669) 69 f6969 = fT (fT (fT (fT (fT (fT (fT (fT (fT (fT (fT (fT (fT (fT (fT vF 70 f70x) 0 gx) 2 f2wx) 3 f3wx) 4 f4x) 5 f5x) 6 f6x) 69 f69x) 69 f6969) 0 g69) 2 f2w69) 3 f3w69) 4 f469) 5 f569) 6 f669 := ((congrArg (fun g9 => fT (fT (fT (fT (fT (fT g9 0 g69) 2 f2w69) 3 f3w69) 4 f469) 5 f569) 6 f669) (fT_sm _ _ _ _)).trans ((congrArg (fun g9 => fT (fT (fT (fT (fT g9 2 f2w69) 3 f3w69) 4 f469) 5 f569) 6 f669) ((fT_sw _ _ _ (Nat.ne_of_beq_eq_false rfl)).trans (congrArg (fun g9 => fT g9 69 f6969) ((fT_sw _ _ _ (Nat.ne_of_beq_eq_false rfl)).trans (congrArg (fun g9 => fT g9 6 f6x) ((fT_sw _ _ _ (Nat.ne_of_beq_eq_false rfl)).trans (congrArg (fun g9 => fT g9 5 f5x) ((fT_sw _ _ _ (Nat.ne_of_beq_eq_false rfl)).trans (congrArg (fun g9 => fT g9 4 f4x) ((fT_sw _ _ _ (Nat.ne_of_beq_eq_false rfl)).trans (congrArg (fun g9 => fT g9 3 f3wx) ((fT_sw _ _ _ (Nat.ne_of_beq_eq_false rfl)).trans (congrArg (fun g9 => fT g9 2 f2wx) (fT_sm _ _ _ _)))))))))))))).trans ((congrArg (fun g9 => fT (fT (fT (fT g9 3 f3w69) 4 f469) 5 f569) 6 f669) ((fT_sw _ _ _ (Nat.ne_of_beq_eq_false rfl)).trans (congrArg (fun g9 => fT g9 69 f6969) ((fT_sw _ _ _ (Nat.ne_of_beq_eq_false rfl)).trans (congrArg (fun g9 => fT g9 6 f6x) ((fT_sw _ _ _ (Nat.ne_of_beq_eq_false rfl)).trans (congrArg (fun g9 => fT g9 5 f5x) ((fT_sw _ _ _ (Nat.ne_of_beq_eq_false rfl)).trans (congrArg (fun g9 => fT g9 4 f4x) ((fT_sw _ _ _ (Nat.ne_of_beq_eq_false rfl)).trans (congrArg (fun g9 => fT g9 3 f3wx) (fT_sm _ _ _ _)))))))))))).trans ((congrArg (fun g9 => fT (fT (fT g9 4 f469) 5 f569) 6 f669) ((fT_sw _ _ _ (Nat.ne_of_beq_eq_false rfl)).trans (congrArg (fun g9 => fT g9 69 f6969) ((fT_sw _ _ _ (Nat.ne_of_beq_eq_false rfl)).trans (congrArg (fun g9 => fT g9 6 f6x) ((fT_sw _ _ _ (Nat.ne_of_beq_eq_false rfl)).trans (congrArg (fun g9 => fT g9 5 f5x) ((fT_sw _ _ _ (Nat.ne_of_beq_eq_false rfl)).trans (congrArg (fun g9 => fT g9 4 f4x) (fT_sm _ _ _ _)))))))))).trans ((congrArg (fun g9 => fT (fT g9 5 f569) 6 f669) ((fT_sw _ _ _ (Nat.ne_of_beq_eq_false rfl)).trans (congrArg (fun g9 => fT g9 69 f6969) ((fT_sw _ _ _ (Nat.ne_of_beq_eq_false rfl)).trans (congrArg (fun g9 => fT g9 6 f6x) ((fT_sw _ _ _ (Nat.ne_of_beq_eq_false rfl)).trans (congrArg (fun g9 => fT g9 5 f5x) (fT_sm _ _ _ _)))))))).trans ((congrArg (fun g9 => fT g9 6 f669) ((fT_sw _ _ _ (Nat.ne_of_beq_eq_false rfl)).trans (congrArg (fun g9 => fT g9 69 f6969) ((fT_sw _ _ _ (Nat.ne_of_beq_eq_false rfl)).trans (congrArg (fun g9 => fT g9 6 f6x) (fT_sm _ _ _ _)))))).trans ((fT_sw _ _ _ (Nat.ne_of_beq_eq_false rfl)).trans (congrArg (fun g9 => fT g9 69 f6969) (fT_sm _ _ _ _))))))))).symm
                rw [← e9] at hP hD
                clear e9
                have e9 : fT (fT (fT vG 1 gs69) 7 F69) 8 L869 = fT (fT (fT (fT (fT (fT vG 1 gsx) 7 Fx) 8 L8x) 1 gs69) 7 F69) 8 L869 := ((congrArg (fun g9 => fT (fT g9 7 F69) 8 L869) ((fT_sw _ _ _ (Nat.ne_of_beq_eq_false rfl)).trans (congrArg (fun g9 => fT g9 8 L8x) ((fT_sw _ _ _ (Nat.ne_of_beq_eq_false rfl)).trans (congrArg (fun g9 => fT g9 7 Fx) (fT_sm _ _ _ _)))))).trans ((congrArg (fun g9 => fT g9 8 L869) ((fT_sw _ _ _ (Nat.ne_of_beq_eq_false rfl)).trans (congrArg (fun g9 => fT g9 8 L8x) (fT_sm _ _ _ _)))).trans (fT_sm _ _ _ _))).symm
                rw [← e9] at hP hD
                clear e9
                have hP : va_P (dC, dI) vwCl (WR a k h0 (fT (fT (fT (fT (fT (fT vi 0 0) 11 qk69) 116 fx69) 5 cn269) 6 rn269) 7 gn269) (fT vj 12 qd69) (fT (fT (fT (fT (fT (fT (fT (fT vF 70 f70x) 0 g69) 2 f2w69) 3 f3w69) 4 f469) 5 f569) 6 f669) 69 f6969) (fT (fT (fT vG 1 gs69) 7 F69) 8 L869)) H := hP
                have hD : va_D A (WR a k h0 (fT (fT (fT (fT (fT (fT vi 0 0) 11 qk69) 116 fx69) 5 cn269) 6 rn269) 7 gn269) (fT vj 12 qd69) (fT (fT (fT (fT (fT (fT (fT (fT vF 70 f70x) 0 g69) 2 f2w69) 3 f3w69) 4 f469) 5 f569) 6 f669) 69 f6969) (fT (fT (fT vG 1 gs69) 7 F69) 8 L869)) := hD
                revert hw9
                refine fz_a4 ?_
                intro f69_0 f69_1 f69_2 f69_3
                refine lv_if_eq (tgt := 90) hx hb dX12_counted_72 (by decide) (fun c_72 => ?_) (fun c_72 => ?_)
                · have t_72 : (r69).toInt = 0 := toI_eq c_72 rfl (by decide)
                  refine lv_aload_n hx hb dX12_counted_90 rfl (lv_at hl 0 rfl) ?_
                  have hFc := allFree hD hS hA
                  refine va_calli (va_runV (As := []) (rest := []) ⟨hx, hb, hml, hown, hts⟩ (r_X12_nextValues l dC dI a k h0 (fT (fT (fT (fT (fT (fT vi 0 0) 11 qk69) 116 fx69) 5 cn269) 6 rn269) 7 gn269) (fT vj 12 qd69) (fT (fT (fT (fT (fT (fT (fT (fT vF 70 f70x) 0 g69) 2 f2w69) 3 f3w69) 4 f469) 5 f569) 6 f669) 69 f6969) (fT (fT (fT vG 1 gs69) 7 F69) 8 L869) vn gq (by first | with_reducible assumption | decide | omega | rfl | assumption) (by first | with_reducible assumption | decide | omega | rfl | assumption) (hM.val (VaO.box hM hva hvr)) (hva) H.size) (cwV 0 hts gwsRX12_counted_2 rfl rfl rfl hd_yX12_nextValues_RX12 (by decide +kernel)) (fz_pre (va_recv hK hP (ci := 12) (q0 := 0) rfl rfl) hP hK hD) rfl rfl hl.1 rfl (lv_room (Nat.le_of_ble_eq_true rfl)) dX12_counted_91 (by decide +kernel)) hS (fun q _ h => hFc q h) hFc (fun r91 f7091 t9_ H locs ht hvm hw9 hB9 hz1 hk1 hS => ?_)
                  have hP : va_P (dC, dI) vwCl (WR a k h0 (fT (fT (fT (fT (fT (fT vi 0 0) 11 qk69) 116 fx69) 5 cn269) 6 rn269) 7 gn269) (fT vj 12 qd69) (fT (fT (fT (fT (fT (fT (fT (fT (fT vF 70 f70x) 0 g69) 2 f2w69) 3 f3w69) 4 f469) 5 f569) 6 f669) 69 f6969) 70 f7091) (fT (fT (fT vG 1 gs69) 7 F69) 8 L869)) H := fz_P ht hB9.1
                  have hD : va_D A (WR a k h0 (fT (fT (fT (fT (fT (fT vi 0 0) 11 qk69) 116 fx69) 5 cn269) 6 rn269) 7 gn269) (fT vj 12 qd69) (fT (fT (fT (fT (fT (fT (fT (fT (fT vF 70 f70x) 0 g69) 2 f2w69) 3 f3w69) 4 f469) 5 f569) 6 f669) 69 f6969) 70 f7091) (fT (fT (fT vG 1 gs69) 7 F69) 8 L869)) := hB9.2.weaken (fun _ q _ h => hFc q.1 h)
                  have e9 : fT (fT (fT (fT (fT (fT (fT (fT vF 70 f7091) 0 g69) 2 f2w69) 3 f3w69) 4 f469) 5 f569) 6 f669) 69 f6969 = fT (fT (fT (fT (fT (fT (fT (fT (fT vF 70 f70x) 0 g69) 2 f2w69) 3 f3w69) 4 f469) 5 f569) 6 f669) 69 f6969) 70 f7091 := ((fT_sw _ _ _ (Nat.ne_of_beq_eq_false rfl)).trans (congrArg (fun g9 => fT g9 69 f6969) ((fT_sw _ _ _ (Nat.ne_of_beq_eq_false rfl)).trans (congrArg (fun g9 => fT g9 6 f669) ((fT_sw _ _ _ (Nat.ne_of_beq_eq_false rfl)).trans (congrArg (fun g9 => fT g9 5 f569) ((fT_sw _ _ _ (Nat.ne_of_beq_eq_false rfl)).trans (congrArg (fun g9 => fT g9 4 f469) ((fT_sw _ _ _ (Nat.ne_of_beq_eq_false rfl)).trans (congrArg (fun g9 => fT g9 3 f3w69) ((fT_sw _ _ _ (Nat.ne_of_beq_eq_false rfl)).trans (congrArg (fun g9 => fT g9 2 f2w69) ((fT_sw _ _ _ (Nat.ne_of_beq_eq_false rfl)).trans (congrArg (fun g9 => fT g9 0 g69) (fT_sm _ _ _ _))))))))))))))).symm
                  rw [← e9] at hP hD
                  clear e9
                  have hP : va_P (dC, dI) vwCl (WR a k h0 (fT (fT (fT (fT (fT (fT vi 0 0) 11 qk69) 116 fx69) 5 cn269) 6 rn269) 7 gn269) (fT vj 12 qd69) (fT (fT (fT (fT (fT (fT (fT (fT vF 70 f7091) 0 g69) 2 f2w69) 3 f3w69) 4 f469) 5 f569) 6 f669) 69 f6969) (fT (fT (fT vG 1 gs69) 7 F69) 8 L869)) H := hP
                  have hD : va_D A (WR a k h0 (fT (fT (fT (fT (fT (fT vi 0 0) 11 qk69) 116 fx69) 5 cn269) 6 rn269) 7 gn269) (fT vj 12 qd69) (fT (fT (fT (fT (fT (fT (fT (fT vF 70 f7091) 0 g69) 2 f2w69) 3 f3w69) 4 f469) 5 f569) 6 f669) 69 f6969) (fT (fT (fT vG 1 gs69) 7 F69) 8 L869)) := hD
                  rcases hw9 with ⟨rfl, f91_0, f91_1, f91_2⟩ | ⟨rfl, f91_0, f91_1⟩
                  · have f91_0 : VaO (vF 56) (vF 57) (vF 58) f7091 vn := f91_0
                    have f91_1 : ∀ q, vn ≤ q → f7091 q = f70x q := f91_1
                    have f91_2 : odo (vD (vF 56) f70x) (vR (vF 56) (vF 57)) vn < odo (vD (vF 56) f7091) (vR (vF 56) (vF 57)) vn := f91_2
                    refine lv_istore hx hb dX12_counted_94 hl (by decide) rfl (fun ls (hl : lv_has ls _ ([(4, .int 1), (0, .ref h0), (1, .int kk), (2, .int vv), (3, .int nq)])) => ?_)
                    refine lv_goto (tgt := 63) hx hb dX12_counted_96 (by decide) ?_
                    have hl : lv_has _ _ ([(0, .ref h0), (1, .int kk), (2, .int vv), (3, .int nq), (4, .int 1)]) := lv_sub hl [1, 2, 3, 4, 0] rfl
                    exact ih63 nq 1 f6969 f7091 g69 f2w69 f3w69 f469 f569 f669 gs69 F69 L869 qd69 qk69 fx69 cn269 rn269 gn269 m269 _ _ _ (f69_0) (f91_0) (fun q hq => (f91_1 q hq).trans (hvr q hq)) (f69_1) (fun q hq => by (rw [f69_2 _ (by omega)]); exact ho q hq) (by (have h8 := odo_lt (f := vD (vF 56) f70x) (b := vR (vF 56) (vF 57)) vn (fun q hq => hva.dg hq)); (have h9 := hfx.resolve_left (fun h => c_65 h.1)); (have h7 := f91_2); exact Or.inr (by omega)) hP hD hS hl
                  · have f91_0 : VaO (vF 56) (vF 57) (vF 58) f7091 vn := f91_0
                    have f91_1 : ∀ q, vn ≤ q → f7091 q = f70x q := f91_1
                    refine lv_istore hx hb dX12_counted_94 hl (by decide) rfl (fun ls (hl : lv_has ls _ ([(4, .int 0), (0, .ref h0), (1, .int kk), (2, .int vv), (3, .int nq)])) => ?_)
                    refine lv_goto (tgt := 63) hx hb dX12_counted_96 (by decide) ?_
                    have hl : lv_has _ _ ([(0, .ref h0), (1, .int kk), (2, .int vv), (3, .int nq), (4, .int 0)]) := lv_sub hl [1, 2, 3, 4, 0] rfl
                    exact ih63 nq 0 f6969 f7091 g69 f2w69 f3w69 f469 f569 f669 gs69 F69 L869 qd69 qk69 fx69 cn269 rn269 gn269 m269 _ _ _ (f69_0) (f91_0) (fun q hq => (f91_1 q hq).trans (hvr q hq)) (f69_1) (fun q hq => by (rw [f69_2 _ (by omega)]); exact ho q hq) (by (have h8 := odo_lt (f := vD (vF 56) f70x) (b := vR (vF 56) (vF 57)) vn (fun q hq => hva.dg hq)); (have h9 := hfx.resolve_left (fun h => c_65 h.1)); exact Or.inl ⟨rfl, by omega⟩) hP hD hS hl
                · have t_72 : ¬ (r69).toInt = 0 := toI_neq c_72 rfl (by decide)
                  refine lv_iload_n hx hb dX12_counted_75 rfl (lv_at hl 3 rfl) ?_
                  refine lv_iload_n hx hb dX12_counted_76 rfl (lv_at hl 1 rfl) ?_
                  refine lv_icmp_ne (tgt := 87) hx hb dX12_counted_77 (by decide) (fun c_77 => ?_) (fun c_77 => ?_)
                  · have t_77 : (nq).toInt ≠ (kk).toInt := toI_ne c_77 rfl rfl
                    refine lv_iinc (v := (nq + 1)) hx hb dX12_counted_87 hl (k := 3) rfl rfl (by decide) rfl (fun ls (hl : lv_has ls _ ([(3, .int (nq + 1)), (0, .ref h0), (1, .int kk), (2, .int vv), (4, .int mo)])) => ?_)
                    refine lv_aload_n hx hb dX12_counted_90 rfl (lv_at hl 1 rfl) ?_
                    have hFc := allFree hD hS hA
                    refine va_calli (va_runV (As := []) (rest := []) ⟨hx, hb, hml, hown, hts⟩ (r_X12_nextValues l dC dI a k h0 (fT (fT (fT (fT (fT (fT vi 0 0) 11 qk69) 116 fx69) 5 cn269) 6 rn269) 7 gn269) (fT vj 12 qd69) (fT (fT (fT (fT (fT (fT (fT (fT vF 70 f70x) 0 g69) 2 f2w69) 3 f3w69) 4 f469) 5 f569) 6 f669) 69 f6969) (fT (fT (fT vG 1 gs69) 7 F69) 8 L869) vn gq (by first | with_reducible assumption | decide | omega | rfl | assumption) (by first | with_reducible assumption | decide | omega | rfl | assumption) (hM.val (VaO.box hM hva hvr)) (hva) H.size) (cwV 0 hts gwsRX12_counted_2 rfl rfl rfl hd_yX12_nextValues_RX12 (by decide +kernel)) (fz_pre (va_recv hK hP (ci := 12) (q0 := 0) rfl rfl) hP hK hD) rfl rfl hl.1 rfl (lv_room (Nat.le_of_ble_eq_true rfl)) dX12_counted_91 (by decide +kernel)) hS (fun q _ h => hFc q h) hFc (fun r91_1 f7091_1 t9_ H locs ht hvm hw9 hB9 hz1 hk1 hS => ?_)
                    have hP : va_P (dC, dI) vwCl (WR a k h0 (fT (fT (fT (fT (fT (fT vi 0 0) 11 qk69) 116 fx69) 5 cn269) 6 rn269) 7 gn269) (fT vj 12 qd69) (fT (fT (fT (fT (fT (fT (fT (fT (fT vF 70 f70x) 0 g69) 2 f2w69) 3 f3w69) 4 f469) 5 f569) 6 f669) 69 f6969) 70 f7091_1) (fT (fT (fT vG 1 gs69) 7 F69) 8 L869)) H := fz_P ht hB9.1
                    have hD : va_D A (WR a k h0 (fT (fT (fT (fT (fT (fT vi 0 0) 11 qk69) 116 fx69) 5 cn269) 6 rn269) 7 gn269) (fT vj 12 qd69) (fT (fT (fT (fT (fT (fT (fT (fT (fT vF 70 f70x) 0 g69) 2 f2w69) 3 f3w69) 4 f469) 5 f569) 6 f669) 69 f6969) 70 f7091_1) (fT (fT (fT vG 1 gs69) 7 F69) 8 L869)) := hB9.2.weaken (fun _ q _ h => hFc q.1 h)
                    have e9 : fT (fT (fT (fT (fT (fT (fT (fT vF 70 f7091_1) 0 g69) 2 f2w69) 3 f3w69) 4 f469) 5 f569) 6 f669) 69 f6969 = fT (fT (fT (fT (fT (fT (fT (fT (fT vF 70 f70x) 0 g69) 2 f2w69) 3 f3w69) 4 f469) 5 f569) 6 f669) 69 f6969) 70 f7091_1 := ((fT_sw _ _ _ (Nat.ne_of_beq_eq_false rfl)).trans (congrArg (fun g9 => fT g9 69 f6969) ((fT_sw _ _ _ (Nat.ne_of_beq_eq_false rfl)).trans (congrArg (fun g9 => fT g9 6 f669) ((fT_sw _ _ _ (Nat.ne_of_beq_eq_false rfl)).trans (congrArg (fun g9 => fT g9 5 f569) ((fT_sw _ _ _ (Nat.ne_of_beq_eq_false rfl)).trans (congrArg (fun g9 => fT g9 4 f469) ((fT_sw _ _ _ (Nat.ne_of_beq_eq_false rfl)).trans (congrArg (fun g9 => fT g9 3 f3w69) ((fT_sw _ _ _ (Nat.ne_of_beq_eq_false rfl)).trans (congrArg (fun g9 => fT g9 2 f2w69) ((fT_sw _ _ _ (Nat.ne_of_beq_eq_false rfl)).trans (congrArg (fun g9 => fT g9 0 g69) (fT_sm _ _ _ _))))))))))))))).symm
                    rw [← e9] at hP hD
                    clear e9
                    have hP : va_P (dC, dI) vwCl (WR a k h0 (fT (fT (fT (fT (fT (fT vi 0 0) 11 qk69) 116 fx69) 5 cn269) 6 rn269) 7 gn269) (fT vj 12 qd69) (fT (fT (fT (fT (fT (fT (fT (fT vF 70 f7091_1) 0 g69) 2 f2w69) 3 f3w69) 4 f469) 5 f569) 6 f669) 69 f6969) (fT (fT (fT vG 1 gs69) 7 F69) 8 L869)) H := hP
                    have hD : va_D A (WR a k h0 (fT (fT (fT (fT (fT (fT vi 0 0) 11 qk69) 116 fx69) 5 cn269) 6 rn269) 7 gn269) (fT vj 12 qd69) (fT (fT (fT (fT (fT (fT (fT (fT vF 70 f7091_1) 0 g69) 2 f2w69) 3 f3w69) 4 f469) 5 f569) 6 f669) 69 f6969) (fT (fT (fT vG 1 gs69) 7 F69) 8 L869)) := hD
                    rcases hw9 with ⟨rfl, f91_1_0, f91_1_1, f91_1_2⟩ | ⟨rfl, f91_1_0, f91_1_1⟩
                    · have f91_1_0 : VaO (vF 56) (vF 57) (vF 58) f7091_1 vn := f91_1_0
                      have f91_1_1 : ∀ q, vn ≤ q → f7091_1 q = f70x q := f91_1_1
                      have f91_1_2 : odo (vD (vF 56) f70x) (vR (vF 56) (vF 57)) vn < odo (vD (vF 56) f7091_1) (vR (vF 56) (vF 57)) vn := f91_1_2
                      refine lv_istore hx hb dX12_counted_94 hl (by decide) rfl (fun ls (hl : lv_has ls _ ([(4, .int 1), (3, .int (nq + 1)), (0, .ref h0), (1, .int kk), (2, .int vv)])) => ?_)
                      refine lv_goto (tgt := 63) hx hb dX12_counted_96 (by decide) ?_
                      have hl : lv_has _ _ ([(0, .ref h0), (1, .int kk), (2, .int vv), (3, .int (nq + 1)), (4, .int 1)]) := lv_sub hl [2, 3, 4, 1, 0] rfl
                      exact ih63 (nq + 1) 1 f6969 f7091_1 g69 f2w69 f3w69 f469 f569 f669 gs69 F69 L869 qd69 qk69 fx69 cn269 rn269 gn269 m269 _ _ _ (f69_0) (f91_1_0) (fun q hq => (f91_1_1 q hq).trans (hvr q hq)) (f69_1) (fun q hq => by (rw [f69_2 _ (by omega)]); exact ho q hq) (by (have h8 := odo_lt (f := vD (vF 56) f70x) (b := vR (vF 56) (vF 57)) vn (fun q hq => hva.dg hq)); (have h9 := hfx.resolve_left (fun h => c_65 h.1)); (have h7 := f91_1_2); exact Or.inr (by omega)) hP hD hS hl
                    · have f91_1_0 : VaO (vF 56) (vF 57) (vF 58) f7091_1 vn := f91_1_0
                      have f91_1_1 : ∀ q, vn ≤ q → f7091_1 q = f70x q := f91_1_1
                      refine lv_istore hx hb dX12_counted_94 hl (by decide) rfl (fun ls (hl : lv_has ls _ ([(4, .int 0), (3, .int (nq + 1)), (0, .ref h0), (1, .int kk), (2, .int vv)])) => ?_)
                      refine lv_goto (tgt := 63) hx hb dX12_counted_96 (by decide) ?_
                      have hl : lv_has _ _ ([(0, .ref h0), (1, .int kk), (2, .int vv), (3, .int (nq + 1)), (4, .int 0)]) := lv_sub hl [2, 3, 4, 1, 0] rfl
                      exact ih63 (nq + 1) 0 f6969 f7091_1 g69 f2w69 f3w69 f469 f569 f669 gs69 F69 L869 qd69 qk69 fx69 cn269 rn269 gn269 m269 _ _ _ (f69_0) (f91_1_0) (fun q hq => (f91_1_1 q hq).trans (hvr q hq)) (f69_1) (fun q hq => by (rw [f69_2 _ (by omega)]); exact ho q hq) (by (have h8 := odo_lt (f := vD (vF 56) f70x) (b := vR (vF 56) (vF 57)) vn (fun q hq => hva.dg hq)); (have h9 := hfx.resolve_left (fun h => c_65 h.1)); exact Or.inl ⟨rfl, by omega⟩) hP hD hS hl
                  · have t_77 : (nq).toInt = (kk).toInt := toI_nne c_77 rfl rfl
                    refine lv_aload_n hx hb dX12_counted_80 rfl (lv_at hl 0 rfl) ?_
                    refine va_get (D := (dC, dI)) (ci := 12) (v := .ref (a 70)) (C := RX12) (T := TX12) (N := 163) (fs := fM (vS a (fT (fT (fT (fT (fT (fT vi 0 0) 11 qk69) 116 fx69) 5 cn269) 6 rn269) 7 gn269) (fT vj 12 qd69))) hx hb hts iwsRX12_counted_in12 hown hK hP 0 rfl rfl 115 (by decide) (hts (.fieldLink RX12 233 "OptimaWorksModel" "value" "[I") (by decide +kernel)) (fun _ h9 => h9) rfl dX12_counted_81 ?_
                    refine lv_iload_n hx hb dX12_counted_84 rfl (lv_at hl 2 rfl) ?_
                    refine va_iald (cA := k 70) (n := 9) (f := f70x) hx hb hK hP 71 70 (WR_get 70 (by decide)) (TR_get 70 (by decide)) (vp_in_iff.mpr (by omega)) dX12_counted_85 ?_
                    refine W.widen (k := 0) (n := 0) (by decide +kernel) (by decide +kernel) ?_
                    exact W.iret (v := (f70x (vv).toNatClampNeg)) hx hb hr (fun t9_ ht hW => ⟨⟨(f70x (vv).toNatClampNeg), (g69, f2w69, f3w69, f469, f569, f669, gs69, F69, L869, qd69, qk69, fx69, cn269, rn269, gn269, 0, f6969, f70x, m269), rfl, by (try dsimp only); exact ⟨f69_0, f69_1, fun q hq => by (rw [f69_2 _ (by omega)]); exact ho q hq, VaO.box hM hva hvr⟩, by rw [ht]; exact hP, hD⟩, hS.F ht⟩) hS.2.2 dX12_counted_86
          · have t_47 : (((vF 58) (vv).toNatClampNeg)).toInt = 0 := toI_nne c_47 rfl (by decide)
            refine lv_sipush (v := (-1000)) hx hb dX12_counted_50 (by decide) ?_
            refine W.widen (k := 0) (n := 0) (by decide +kernel) (by decide +kernel) ?_
            have e9 : fT (fT (fT (fT (fT (fT vi 0 0) 11 (vi 11)) 116 (vi 116)) 5 (vi 5)) 6 (vi 6)) 7 (vi 7) = fT vi 0 0 := (fT_id _ _ ((fT_ne _ _ (Nat.ne_of_beq_eq_false rfl)).trans ((fT_ne _ _ (Nat.ne_of_beq_eq_false rfl)).trans ((fT_ne _ _ (Nat.ne_of_beq_eq_false rfl)).trans ((fT_ne _ _ (Nat.ne_of_beq_eq_false rfl)).trans (fT_ne _ _ (Nat.ne_of_beq_eq_false rfl))))))).trans ((fT_id _ _ ((fT_ne _ _ (Nat.ne_of_beq_eq_false rfl)).trans ((fT_ne _ _ (Nat.ne_of_beq_eq_false rfl)).trans ((fT_ne _ _ (Nat.ne_of_beq_eq_false rfl)).trans (fT_ne _ _ (Nat.ne_of_beq_eq_false rfl)))))).trans ((fT_id _ _ ((fT_ne _ _ (Nat.ne_of_beq_eq_false rfl)).trans ((fT_ne _ _ (Nat.ne_of_beq_eq_false rfl)).trans (fT_ne _ _ (Nat.ne_of_beq_eq_false rfl))))).trans ((fT_id _ _ ((fT_ne _ _ (Nat.ne_of_beq_eq_false rfl)).trans (fT_ne _ _ (Nat.ne_of_beq_eq_false rfl)))).trans (fT_id _ _ (fT_ne _ _ (Nat.ne_of_beq_eq_false rfl))))))
            have hP : va_P (dC, dI) vwCl (WR a k h0 (fT (fT (fT (fT (fT (fT vi 0 0) 11 (vi 11)) 116 (vi 116)) 5 (vi 5)) 6 (vi 6)) 7 (vi 7)) vj vF vG) H := by rw [e9]; exact hP
            have hD : va_D A (WR a k h0 (fT (fT (fT (fT (fT (fT vi 0 0) 11 (vi 11)) 116 (vi 116)) 5 (vi 5)) 6 (vi 6)) 7 (vi 7)) vj vF vG) := by rw [e9]; exact hD
            clear e9
            have e9 : fT vj 12 (vj 12) = vj := fT_id _ _ (rfl)
            have hP : va_P (dC, dI) vwCl (WR a k h0 (fT (fT (fT (fT (fT (fT vi 0 0) 11 (vi 11)) 116 (vi 116)) 5 (vi 5)) 6 (vi 6)) 7 (vi 7)) (fT vj 12 (vj 12)) vF vG) H := by rw [e9]; exact hP
            have hD : va_D A (WR a k h0 (fT (fT (fT (fT (fT (fT vi 0 0) 11 (vi 11)) 116 (vi 116)) 5 (vi 5)) 6 (vi 6)) 7 (vi 7)) (fT vj 12 (vj 12)) vF vG) := by rw [e9]; exact hD
            clear e9
            have e9 : fT (fT (fT (fT (fT (fT (fT (fT vF 70 (vF 70)) 0 (vF 0)) 2 (vF 2)) 3 (vF 3)) 4 (vF 4)) 5 (vF 5)) 6 (vF 6)) 69 (vF 69) = vF := (fT_id _ _ ((fT_ne _ _ (Nat.ne_of_beq_eq_false rfl)).trans ((fT_ne _ _ (Nat.ne_of_beq_eq_false rfl)).trans ((fT_ne _ _ (Nat.ne_of_beq_eq_false rfl)).trans ((fT_ne _ _ (Nat.ne_of_beq_eq_false rfl)).trans ((fT_ne _ _ (Nat.ne_of_beq_eq_false rfl)).trans ((fT_ne _ _ (Nat.ne_of_beq_eq_false rfl)).trans (fT_ne _ _ (Nat.ne_of_beq_eq_false rfl))))))))).trans ((fT_id _ _ ((fT_ne _ _ (Nat.ne_of_beq_eq_false rfl)).trans ((fT_ne _ _ (Nat.ne_of_beq_eq_false rfl)).trans ((fT_ne _ _ (Nat.ne_of_beq_eq_false rfl)).trans ((fT_ne _ _ (Nat.ne_of_beq_eq_false rfl)).trans ((fT_ne _ _ (Nat.ne_of_beq_eq_false rfl)).trans (fT_ne _ _ (Nat.ne_of_beq_eq_false rfl)))))))).trans ((fT_id _ _ ((fT_ne _ _ (Nat.ne_of_beq_eq_false rfl)).trans ((fT_ne _ _ (Nat.ne_of_beq_eq_false rfl)).trans ((fT_ne _ _ (Nat.ne_of_beq_eq_false rfl)).trans ((fT_ne _ _ (Nat.ne_of_beq_eq_false rfl)).trans (fT_ne _ _ (Nat.ne_of_beq_eq_false rfl))))))).trans ((fT_id _ _ ((fT_ne _ _ (Nat.ne_of_beq_eq_false rfl)).trans ((fT_ne _ _ (Nat.ne_of_beq_eq_false rfl)).trans ((fT_ne _ _ (Nat.ne_of_beq_eq_false rfl)).trans (fT_ne _ _ (Nat.ne_of_beq_eq_false rfl)))))).trans ((fT_id _ _ ((fT_ne _ _ (Nat.ne_of_beq_eq_false rfl)).trans ((fT_ne _ _ (Nat.ne_of_beq_eq_false rfl)).trans (fT_ne _ _ (Nat.ne_of_beq_eq_false rfl))))).trans ((fT_id _ _ ((fT_ne _ _ (Nat.ne_of_beq_eq_false rfl)).trans (fT_ne _ _ (Nat.ne_of_beq_eq_false rfl)))).trans ((fT_id _ _ (fT_ne _ _ (Nat.ne_of_beq_eq_false rfl))).trans (fT_id _ _ (rfl))))))))
            have hP : va_P (dC, dI) vwCl (WR a k h0 (fT (fT (fT (fT (fT (fT vi 0 0) 11 (vi 11)) 116 (vi 116)) 5 (vi 5)) 6 (vi 6)) 7 (vi 7)) (fT vj 12 (vj 12)) (fT (fT (fT (fT (fT (fT (fT (fT vF 70 (vF 70)) 0 (vF 0)) 2 (vF 2)) 3 (vF 3)) 4 (vF 4)) 5 (vF 5)) 6 (vF 6)) 69 (vF 69)) vG) H := by rw [e9]; exact hP
            have hD : va_D A (WR a k h0 (fT (fT (fT (fT (fT (fT vi 0 0) 11 (vi 11)) 116 (vi 116)) 5 (vi 5)) 6 (vi 6)) 7 (vi 7)) (fT vj 12 (vj 12)) (fT (fT (fT (fT (fT (fT (fT (fT vF 70 (vF 70)) 0 (vF 0)) 2 (vF 2)) 3 (vF 3)) 4 (vF 4)) 5 (vF 5)) 6 (vF 6)) 69 (vF 69)) vG) := by rw [e9]; exact hD
            clear e9
            have e9 : fT (fT (fT vG 1 (vG 1)) 7 (vG 7)) 8 (vG 8) = vG := (fT_id _ _ ((fT_ne _ _ (Nat.ne_of_beq_eq_false rfl)).trans (fT_ne _ _ (Nat.ne_of_beq_eq_false rfl)))).trans ((fT_id _ _ (fT_ne _ _ (Nat.ne_of_beq_eq_false rfl))).trans (fT_id _ _ (rfl)))
            have hP : va_P (dC, dI) vwCl (WR a k h0 (fT (fT (fT (fT (fT (fT vi 0 0) 11 (vi 11)) 116 (vi 116)) 5 (vi 5)) 6 (vi 6)) 7 (vi 7)) (fT vj 12 (vj 12)) (fT (fT (fT (fT (fT (fT (fT (fT vF 70 (vF 70)) 0 (vF 0)) 2 (vF 2)) 3 (vF 3)) 4 (vF 4)) 5 (vF 5)) 6 (vF 6)) 69 (vF 69)) (fT (fT (fT vG 1 (vG 1)) 7 (vG 7)) 8 (vG 8))) H := by rw [e9]; exact hP
            have hD : va_D A (WR a k h0 (fT (fT (fT (fT (fT (fT vi 0 0) 11 (vi 11)) 116 (vi 116)) 5 (vi 5)) 6 (vi 6)) 7 (vi 7)) (fT vj 12 (vj 12)) (fT (fT (fT (fT (fT (fT (fT (fT vF 70 (vF 70)) 0 (vF 0)) 2 (vF 2)) 3 (vF 3)) 4 (vF 4)) 5 (vF 5)) 6 (vF 6)) 69 (vF 69)) (fT (fT (fT vG 1 (vG 1)) 7 (vG 7)) 8 (vG 8))) := by rw [e9]; exact hD
            clear e9
            exact W.iret (v := (-1000)) hx hb hr (fun t9_ ht hW => ⟨⟨(-1000), ((vF 0), (vF 2), (vF 3), (vF 4), (vF 5), (vF 6), (vG 1), (vG 7), (vG 8), (vj 12), (vi 11), (vi 116), (vi 5), (vi 6), (vi 7), 0, (vF 69), (vF 70), mg), rfl, by (try dsimp only); exact ⟨hBg, hAn, fun q _ => rfl, hM.2.2.2.2.2.2⟩, by rw [ht]; exact hP, hD⟩, hS.F ht⟩) hS.2.2 dX12_counted_53
theorem dX12_solve_0 : decode cX12_solve 0 = .ok (.aload_n 0, 1) := dk_42 (by decide +kernel)
theorem dX12_solve_1 : decode cX12_solve 1 = .ok (.aload_n 0, 1) := dk_42 (by decide +kernel)
theorem dX12_solve_2 : decode cX12_solve 2 = .ok (.getfield 808, 3) := dk_180 (by decide +kernel)
theorem dX12_solve_5 : decode cX12_solve 5 = .ok (.ifCond .eq 7, 3) := dk_153 (by decide +kernel)
theorem dX12_solve_8 : decode cX12_solve 8 = .ok (.iconst 0, 1) := dk_3 (by decide +kernel)
theorem dX12_solve_9 : decode cX12_solve 9 = .ok (.goto 4, 3) := dk_167 (by decide +kernel)
theorem dX12_solve_12 : decode cX12_solve 12 = .ok (.iconst 1, 1) := dk_4 (by decide +kernel)
theorem dX12_solve_13 : decode cX12_solve 13 = .ok (.putfield 348, 3) := dk_181 (by decide +kernel)
theorem dX12_solve_16 : decode cX12_solve 16 = .ok (.aload_n 0, 1) := dk_42 (by decide +kernel)
theorem dX12_solve_17 : decode cX12_solve 17 = .ok (.getfield 348, 3) := dk_180 (by decide +kernel)
theorem dX12_solve_20 : decode cX12_solve 20 = .ok (.ifCond .le 5, 3) := dk_158 (by decide +kernel)
theorem dX12_solve_23 : decode cX12_solve 23 = .ok (.iconst 0, 1) := dk_3 (by decide +kernel)
theorem dX12_solve_24 : decode cX12_solve 24 = .ok (.ireturn, 1) := dk_172 (by decide +kernel)
theorem dX12_solve_25 : decode cX12_solve 25 = .ok (.aload_n 0, 1) := dk_42 (by decide +kernel)
theorem dX12_solve_26 : decode cX12_solve 26 = .ok (.iconst 0, 1) := dk_3 (by decide +kernel)
theorem dX12_solve_27 : decode cX12_solve 27 = .ok (.putfield 811, 3) := dk_181 (by decide +kernel)
theorem dX12_solve_30 : decode cX12_solve 30 = .ok (.iload_n 1, 1) := dk_27 (by decide +kernel)
theorem dX12_solve_31 : decode cX12_solve 31 = .ok (.ifCond .eq 21, 3) := dk_153 (by decide +kernel)
theorem dX12_solve_34 : decode cX12_solve 34 = .ok (.aload_n 0, 1) := dk_42 (by decide +kernel)
theorem dX12_solve_35 : decode cX12_solve 35 = .ok (.iconst 1, 1) := dk_4 (by decide +kernel)
theorem dX12_solve_36 : decode cX12_solve 36 = .ok (.iconst 1, 1) := dk_4 (by decide +kernel)
theorem dX12_solve_37 : decode cX12_solve 37 = .ok (.invokevirtual 866, 3) := dk_182 (by decide +kernel)
theorem dX12_solve_40 : decode cX12_solve 40 = .ok (.ifCond .eq 7, 3) := dk_153 (by decide +kernel)
theorem dX12_solve_43 : decode cX12_solve 43 = .ok (.aload_n 0, 1) := dk_42 (by decide +kernel)
theorem dX12_solve_44 : decode cX12_solve 44 = .ok (.invokevirtual 870, 3) := dk_182 (by decide +kernel)
theorem dX12_solve_47 : decode cX12_solve 47 = .ok (.aload_n 0, 1) := dk_42 (by decide +kernel)
theorem dX12_solve_48 : decode cX12_solve 48 = .ok (.getfield 811, 3) := dk_180 (by decide +kernel)
theorem dX12_solve_51 : decode cX12_solve 51 = .ok (.ireturn, 1) := dk_172 (by decide +kernel)
theorem dX12_solve_52 : decode cX12_solve 52 = .ok (.aload_n 0, 1) := dk_42 (by decide +kernel)
theorem dX12_solve_53 : decode cX12_solve 53 = .ok (.invokevirtual 873, 3) := dk_182 (by decide +kernel)
theorem dX12_solve_56 : decode cX12_solve 56 = .ok (.iconst 1, 1) := dk_4 (by decide +kernel)
theorem dX12_solve_57 : decode cX12_solve 57 = .ok (.istore_n 2, 1) := dk_61 (by decide +kernel)
theorem dX12_solve_58 : decode cX12_solve 58 = .ok (.iload_n 2, 1) := dk_28 (by decide +kernel)
theorem dX12_solve_59 : decode cX12_solve 59 = .ok (.ifCond .eq 59, 3) := dk_153 (by decide +kernel)
theorem dX12_solve_62 : decode cX12_solve 62 = .ok (.aload_n 0, 1) := dk_42 (by decide +kernel)
theorem dX12_solve_63 : decode cX12_solve 63 = .ok (.invokevirtual 876, 3) := dk_182 (by decide +kernel)
theorem dX12_solve_66 : decode cX12_solve 66 = .ok (.aload_n 0, 1) := dk_42 (by decide +kernel)
theorem dX12_solve_67 : decode cX12_solve 67 = .ok (.invokevirtual 879, 3) := dk_182 (by decide +kernel)
theorem dX12_solve_70 : decode cX12_solve 70 = .ok (.istore_n 3, 1) := dk_62 (by decide +kernel)
theorem dX12_solve_71 : decode cX12_solve 71 = .ok (.iload_n 3, 1) := dk_29 (by decide +kernel)
theorem dX12_solve_72 : decode cX12_solve 72 = .ok (.ifCond .eq 38, 3) := dk_153 (by decide +kernel)
theorem dX12_solve_75 : decode cX12_solve 75 = .ok (.aload_n 0, 1) := dk_42 (by decide +kernel)
theorem dX12_solve_76 : decode cX12_solve 76 = .ok (.iconst 0, 1) := dk_3 (by decide +kernel)
theorem dX12_solve_77 : decode cX12_solve 77 = .ok (.iconst 1, 1) := dk_4 (by decide +kernel)
theorem dX12_solve_78 : decode cX12_solve 78 = .ok (.invokevirtual 866, 3) := dk_182 (by decide +kernel)
theorem dX12_solve_81 : decode cX12_solve 81 = .ok (.ifCond .eq 21, 3) := dk_153 (by decide +kernel)
theorem dX12_solve_84 : decode cX12_solve 84 = .ok (.aload_n 0, 1) := dk_42 (by decide +kernel)
theorem dX12_solve_85 : decode cX12_solve 85 = .ok (.getfield 811, 3) := dk_180 (by decide +kernel)
theorem dX12_solve_88 : decode cX12_solve 88 = .ok (.ifCond .eq 10, 3) := dk_153 (by decide +kernel)
theorem dX12_solve_91 : decode cX12_solve 91 = .ok (.aload_n 0, 1) := dk_42 (by decide +kernel)
theorem dX12_solve_92 : decode cX12_solve 92 = .ok (.invokevirtual 882, 3) := dk_182 (by decide +kernel)
theorem dX12_solve_95 : decode cX12_solve 95 = .ok (.ifCond .eq 7, 3) := dk_153 (by decide +kernel)
theorem dX12_solve_98 : decode cX12_solve 98 = .ok (.aload_n 0, 1) := dk_42 (by decide +kernel)
theorem dX12_solve_99 : decode cX12_solve 99 = .ok (.invokevirtual 870, 3) := dk_182 (by decide +kernel)
theorem dX12_solve_102 : decode cX12_solve 102 = .ok (.aload_n 0, 1) := dk_42 (by decide +kernel)
theorem dX12_solve_103 : decode cX12_solve 103 = .ok (.invokevirtual 885, 3) := dk_182 (by decide +kernel)
theorem dX12_solve_106 : decode cX12_solve 106 = .ok (.istore_n 3, 1) := dk_62 (by decide +kernel)
theorem dX12_solve_107 : decode cX12_solve 107 = .ok (.goto (-36), 3) := dk_167 (by decide +kernel)
theorem dX12_solve_110 : decode cX12_solve 110 = .ok (.aload_n 0, 1) := dk_42 (by decide +kernel)
theorem dX12_solve_111 : decode cX12_solve 111 = .ok (.invokevirtual 888, 3) := dk_182 (by decide +kernel)
theorem dX12_solve_114 : decode cX12_solve 114 = .ok (.istore_n 2, 1) := dk_61 (by decide +kernel)
theorem dX12_solve_115 : decode cX12_solve 115 = .ok (.goto (-57), 3) := dk_167 (by decide +kernel)
theorem dX12_solve_118 : decode cX12_solve 118 = .ok (.aload_n 0, 1) := dk_42 (by decide +kernel)
theorem dX12_solve_119 : decode cX12_solve 119 = .ok (.getfield 811, 3) := dk_180 (by decide +kernel)
theorem dX12_solve_122 : decode cX12_solve 122 = .ok (.ireturn, 1) := dk_172 (by decide +kernel)
def wsRX12_solve : List Cond := .code yX12_solve cX12_solve 4 (some .boolean) :: ([.fieldLink RX12 808 "OptimaWorksModel" "isModel" "Z", .fieldLink RX12 348 "OptimaWorksModel" "thrown" "I", .fieldLink RX12 811 "OptimaWorksModel" "hasAnswer" "Z"] ++ wsX120 ++ (wsV RX12 873 RX12 yX12_firstValues wsRX12_firstValues) ++ (wsV RX12 876 RX12 yX12_firstWays wsRX12_firstWays) ++ (wsV RX12 879 RX12 yX12_differ wsRX12_differ) ++ (wsV RX12 888 RX12 yX12_nextValues wsRX12_nextValues) ++ (wsV RX12 866 RX12 yX12_solves wsRX12_solves) ++ (wsV RX12 882 RX12 yX12_isBetter wsRX12_isBetter) ++ (wsV RX12 870 RX12 yX12_take wsRX12_take) ++ (wsV RX12 885 RX12 yX12_nextWays wsRX12_nextWays))
theorem iwsRX12_solve_in12 : ∀ w ∈ wsX120, w ∈ wsRX12_solve := fun _ h => List.mem_cons_of_mem _ (List.mem_append_left _ (List.mem_append_left _ (List.mem_append_left _ (List.mem_append_left _ (List.mem_append_left _ (List.mem_append_left _ (List.mem_append_left _ (List.mem_append_left _ (List.mem_append_right _ h)))))))))
theorem gwsRX12_solve_0 : GoodIn wsRX12_solve (wsV RX12 873 RX12 yX12_firstValues wsRX12_firstValues) := goodIn_sub (fun _ h => List.mem_cons_of_mem _ (List.mem_append_left _ (List.mem_append_left _ (List.mem_append_left _ (List.mem_append_left _ (List.mem_append_left _ (List.mem_append_left _ (List.mem_append_left _ (List.mem_append_right _ h))))))))) (gdV (by decide +kernel) gdwsRX12_firstValues)
theorem gwsRX12_solve_1 : GoodIn wsRX12_solve (wsV RX12 876 RX12 yX12_firstWays wsRX12_firstWays) := goodIn_sub (fun _ h => List.mem_cons_of_mem _ (List.mem_append_left _ (List.mem_append_left _ (List.mem_append_left _ (List.mem_append_left _ (List.mem_append_left _ (List.mem_append_left _ (List.mem_append_right _ h)))))))) (gdV (by decide +kernel) gdwsRX12_firstWays)
theorem gwsRX12_solve_2 : GoodIn wsRX12_solve (wsV RX12 879 RX12 yX12_differ wsRX12_differ) := goodIn_sub (fun _ h => List.mem_cons_of_mem _ (List.mem_append_left _ (List.mem_append_left _ (List.mem_append_left _ (List.mem_append_left _ (List.mem_append_left _ (List.mem_append_right _ h))))))) (gdV (by decide +kernel) gdwsRX12_differ)
theorem gwsRX12_solve_3 : GoodIn wsRX12_solve (wsV RX12 888 RX12 yX12_nextValues wsRX12_nextValues) := goodIn_sub (fun _ h => List.mem_cons_of_mem _ (List.mem_append_left _ (List.mem_append_left _ (List.mem_append_left _ (List.mem_append_left _ (List.mem_append_right _ h)))))) (gdV (by decide +kernel) gdwsRX12_nextValues)
theorem gwsRX12_solve_4 : GoodIn wsRX12_solve (wsV RX12 866 RX12 yX12_solves wsRX12_solves) := goodIn_sub (fun _ h => List.mem_cons_of_mem _ (List.mem_append_left _ (List.mem_append_left _ (List.mem_append_left _ (List.mem_append_right _ h))))) (gdV (by decide +kernel) gdwsRX12_solves)
theorem gwsRX12_solve_5 : GoodIn wsRX12_solve (wsV RX12 882 RX12 yX12_isBetter wsRX12_isBetter) := goodIn_sub (fun _ h => List.mem_cons_of_mem _ (List.mem_append_left _ (List.mem_append_left _ (List.mem_append_right _ h)))) (gdV (by decide +kernel) gdwsRX12_isBetter)
theorem gwsRX12_solve_6 : GoodIn wsRX12_solve (wsV RX12 870 RX12 yX12_take wsRX12_take) := goodIn_sub (fun _ h => List.mem_cons_of_mem _ (List.mem_append_left _ (List.mem_append_right _ h))) (gdV (by decide +kernel) gdwsRX12_take)
theorem gwsRX12_solve_7 : GoodIn wsRX12_solve (wsV RX12 885 RX12 yX12_nextWays wsRX12_nextWays) := goodIn_sub (fun _ h => List.mem_cons_of_mem _ (List.mem_append_right _ h)) (gdV (by decide +kernel) gdwsRX12_nextWays)
theorem gdwsRX12_solve : wsRX12_solve.all goodWord = true := gdC rfl (gdA (gdA (gdA (gdA (gdA (gdA (gdA (gdA (gdA (by decide +kernel : ([.fieldLink RX12 808 "OptimaWorksModel" "isModel" "Z", .fieldLink RX12 348 "OptimaWorksModel" "thrown" "I", .fieldLink RX12 811 "OptimaWorksModel" "hasAnswer" "Z"] : List Cond).all goodWord = true) gdwsX120) (gdV (by decide +kernel) gdwsRX12_firstValues)) (gdV (by decide +kernel) gdwsRX12_firstWays)) (gdV (by decide +kernel) gdwsRX12_differ)) (gdV (by decide +kernel) gdwsRX12_nextValues)) (gdV (by decide +kernel) gdwsRX12_solves)) (gdV (by decide +kernel) gdwsRX12_isBetter)) (gdV (by decide +kernel) gdwsRX12_take)) (gdV (by decide +kernel) gdwsRX12_nextWays))
set_option maxHeartbeats 4000000 in
set_option maxRecDepth 100000 in
/-- solve(relaxed) -/
theorem r_X12_solve (l : Launch) (dC : Nat → ClassId) (dI : Nat → Nat → Nat) (a : Nat → Nat) (k : Nat → ClassId) (h0 : Nat) (vi : Nat → Int32) (vj : Nat → Int64) (vF : Nat → Nat → Int32) (vG : Nat → Nat → Int64) (vn : Nat) (mr : Nat) (gq : Nat) (dn : Nat) (rl : Int32) (mg : Nat → Int) (hBg : Bg (vF 0) mg) (hvn : vi 90 = nI vn) (hvn8 : vn ≤ 8) (hmr : vi 91 = nI mr) (hmr12 : mr ≤ 12) (hmg : vi 93 = nI gq) (hgq : gq ≤ 3) (hdn : vi 92 = nI dn) (hdn8 : dn ≤ 8) (hM : MdlB vF gq) (hlh : ∀ k, k < vn → (vF 56 k).toInt ≤ (vF 57 k).toInt) (hwm : WmO (vF 59) mr) (hAn : AnsB mg 1020) (hAb : AnsB mg 1000) (hPp0 : vi 113 ≠ 0 → AnsP mg 1000 gq) (hha : vi 113 = 0 ∨ vi 113 = 1) (sz : Nat) : Met l yX12_solve wsRX12_solve ({ frames := 7, cells := 0, slots := 0, locals := 182 }) (va_Pc [.ref h0, .int rl] (fun U => U.heap.size = sz ∧ va_P (dC, dI) vwCl (WR a k h0 vi vj vF vG) U.heap ∧ va_K (dC, dI) vwCl (tX12 k) U ∧ va_D (fun _ => True) (WR a k h0 vi vj vF vG))) (va_Qi (fun (r : Int32) (u : (Nat → Int32) × (Nat → Int32) × (Nat → Int32) × (Nat → Int32) × (Nat → Int32) × (Nat → Int32) × (Nat → Int64) × (Nat → Int64) × (Nat → Int64) × (Int64) × (Int32) × (Int32) × (Int32) × (Int32) × (Int32) × (Int32) × (Int32) × (Nat → Int32) × (Nat → Int32) × (Nat → Int)) => (Bg (u.1) (u.2.2.2.2.2.2.2.2.2.2.2.2.2.2.2.2.2.2.2)) ∧ (AnsB (u.2.2.2.2.2.2.2.2.2.2.2.2.2.2.2.2.2.2.2) 1020) ∧ (AnsB (u.2.2.2.2.2.2.2.2.2.2.2.2.2.2.2.2.2.2.2) 1000) ∧ ((u.2.2.2.2.2.2.2.2.2.2.2.2.2.2.2.2.1) ≠ 0 → AnsP (u.2.2.2.2.2.2.2.2.2.2.2.2.2.2.2.2.2.2.2) 1000 gq) ∧ (∀ q, 1036 ≤ q → (u.2.2.2.2.2.2.2.2.2.2.2.2.2.2.2.2.2.2.2) q = mg q) ∧ (∀ k, k < 9 → -999 ≤ ((u.2.2.2.2.2.2.2.2.2.2.2.2.2.2.2.2.2.2.1) k).toInt ∧ ((u.2.2.2.2.2.2.2.2.2.2.2.2.2.2.2.2.2.2.1) k).toInt ≤ 999) ∧ ((u.2.2.2.2.2.2.2.2.2.2.2.2.2.2.2.2.1) = 0 ∨ (u.2.2.2.2.2.2.2.2.2.2.2.2.2.2.2.2.1) = 1)) (fun (u : (Nat → Int32) × (Nat → Int32) × (Nat → Int32) × (Nat → Int32) × (Nat → Int32) × (Nat → Int32) × (Nat → Int64) × (Nat → Int64) × (Nat → Int64) × (Int64) × (Int32) × (Int32) × (Int32) × (Int32) × (Int32) × (Int32) × (Int32) × (Nat → Int32) × (Nat → Int32) × (Nat → Int)) t => va_P (dC, dI) vwCl (WR a k h0 (fT (fT (fT (fT (fT (fT (fT vi 0 (u.2.2.2.2.2.2.2.2.2.2.2.2.2.2.2.1)) 113 (u.2.2.2.2.2.2.2.2.2.2.2.2.2.2.2.2.1)) 11 (u.2.2.2.2.2.2.2.2.2.2.1)) 116 (u.2.2.2.2.2.2.2.2.2.2.2.1)) 5 (u.2.2.2.2.2.2.2.2.2.2.2.2.1)) 6 (u.2.2.2.2.2.2.2.2.2.2.2.2.2.1)) 7 (u.2.2.2.2.2.2.2.2.2.2.2.2.2.2.1)) (fT vj 12 (u.2.2.2.2.2.2.2.2.2.1)) (fT (fT (fT (fT (fT (fT (fT (fT vF 70 (u.2.2.2.2.2.2.2.2.2.2.2.2.2.2.2.2.2.2.1)) 0 (u.1)) 2 (u.2.1)) 3 (u.2.2.1)) 4 (u.2.2.2.1)) 5 (u.2.2.2.2.1)) 6 (u.2.2.2.2.2.1)) 69 (u.2.2.2.2.2.2.2.2.2.2.2.2.2.2.2.2.2.1)) (fT (fT (fT vG 1 (u.2.2.2.2.2.2.1)) 7 (u.2.2.2.2.2.2.2.1)) 8 (u.2.2.2.2.2.2.2.2.1))) t.heap ∧ va_D (va_A (WR a k h0 vi vj vF vG) sz) (WR a k h0 (fT (fT (fT (fT (fT (fT (fT vi 0 (u.2.2.2.2.2.2.2.2.2.2.2.2.2.2.2.1)) 113 (u.2.2.2.2.2.2.2.2.2.2.2.2.2.2.2.2.1)) 11 (u.2.2.2.2.2.2.2.2.2.2.1)) 116 (u.2.2.2.2.2.2.2.2.2.2.2.1)) 5 (u.2.2.2.2.2.2.2.2.2.2.2.2.1)) 6 (u.2.2.2.2.2.2.2.2.2.2.2.2.2.1)) 7 (u.2.2.2.2.2.2.2.2.2.2.2.2.2.2.1)) (fT vj 12 (u.2.2.2.2.2.2.2.2.2.1)) (fT (fT (fT (fT (fT (fT (fT (fT vF 70 (u.2.2.2.2.2.2.2.2.2.2.2.2.2.2.2.2.2.2.1)) 0 (u.1)) 2 (u.2.1)) 3 (u.2.2.1)) 4 (u.2.2.2.1)) 5 (u.2.2.2.2.1)) 6 (u.2.2.2.2.2.1)) 69 (u.2.2.2.2.2.2.2.2.2.2.2.2.2.2.2.2.2.1)) (fT (fT (fT vG 1 (u.2.2.2.2.2.2.1)) 7 (u.2.2.2.2.2.2.2.1)) 8 (u.2.2.2.2.2.2.2.2.1)))) (va_A (WR a k h0 vi vj vF vG) sz)) 0 0 (va_A (WR a k h0 vi vj vF vG) sz) := by
  refine Met.ofW (cc := cX12_solve) (maxL := 4) (ret := (some .boolean)) (by decide) rfl ?_
  intro p e s m args below meth c s₁ B hml hv
  obtain ⟨rfl, hsz, hP, hK, hD0⟩ := hv
  have hx := B.exec
  have hb := B.bytes
  have hr := B.returns
  have hts := atoms_spec (ws := wsRX12_solve) B.pre
  have hown : s.vm.findClass RX12 = some m.cls := findClass_of_methodNamed B.named
  have hlocks := B.notSynchronized
  subst hsz
  have hD := hD0.self (sz := s.heap.size)
  generalize hAe : va_A (WR a k h0 vi vj vF vG) s.heap.size = A at hD ⊢
  have hA : ∀ q : Nat, s.heap.size ≤ q → A q := fun q h => by rw [← hAe]; exact Or.inr h
  have hS : va_S A s.heap s.heap [] := va_S.rf
  have hl := lv_entry ([.ref h0, .int rl]) (n := 4) (Nat.le_of_ble_eq_true rfl)
  rw [lg_entry_eq]
  generalize (lg_sl ([.ref h0, .int rl]) ++ List.replicate (4 - (lg_sl ([.ref h0, .int rl])).length) Slot.unset).toArray = ls at hl ⊢
  have hl : lv_has ls 4 [(0, .ref h0), (1, .int rl)] := hl
  refine lv_aload_n hx hb dX12_solve_0 rfl (lv_at hl 0 rfl) ?_
  refine lv_aload_n hx hb dX12_solve_1 rfl (lv_at hl 0 rfl) ?_
  refine va_get (D := (dC, dI)) (ci := 12) (v := .int (vi 95)) (C := RX12) (T := TX12) (N := 163) (fs := fM (vS a vi vj)) hx hb hts iwsRX12_solve_in12 hown hK hP 0 rfl rfl 95 (by decide) (hts (.fieldLink RX12 808 "OptimaWorksModel" "isModel" "Z") (by decide +kernel)) (fun _ h9 => h9) rfl dX12_solve_2 ?_
  refine lv_if_eq (tgt := 12) hx hb dX12_solve_5 (by decide) (fun c_5 => ?_) (fun c_5 => ?_)
  · have t_5 : ((vi 95)).toInt = 0 := toI_eq c_5 rfl (by decide)
    refine lv_iconst (v := 1) hx hb dX12_solve_12 (by decide) ?_
    refine va_put (D := (dC, dI)) (ci := 12) (v := .int 1) (ty := .int) (C := RX12) (T := TX12) (N := 163) (fs := fM (vS a vi vj)) hx hb hts iwsRX12_solve_in12 tyX12 tyX12_ok nmX12 hown hK hP hD hS 0 rfl rfl 0 (by decide) (hts (.fieldLink RX12 348 "OptimaWorksModel" "thrown" "I") (by decide +kernel)) (fun _ h9 => h9) rfl (by decide +kernel) rfl rfl (Nat.le_of_ble_eq_true rfl) dX12_solve_13 (fun H locs hP hD hS => ?_)
    have hP : va_P (dC, dI) vwCl (WR a k h0 (fT vi 0 1) vj vF vG) H := by rw [← WR_i 0 _ rfl]; exact hP
    have hD : va_D A (WR a k h0 (fT vi 0 1) vj vF vG) := by rw [← WR_i 0 _ rfl]; exact hD
    refine lv_aload_n hx hb dX12_solve_16 rfl (lv_at hl 0 rfl) ?_
    refine va_get (D := (dC, dI)) (ci := 12) (v := .int 1) (C := RX12) (T := TX12) (N := 163) (fs := fM (vS a (fT vi 0 1) vj)) hx hb hts iwsRX12_solve_in12 hown hK hP 0 rfl rfl 0 (by decide) (hts (.fieldLink RX12 348 "OptimaWorksModel" "thrown" "I") (by decide +kernel)) (fun _ h9 => h9) rfl dX12_solve_17 ?_
    refine lv_if_le (tgt := 25) hx hb dX12_solve_20 (by decide) (fun c9 => absurd c9 (by decide)) (fun _ => ?_)
    refine lv_iconst (v := 0) hx hb dX12_solve_23 (by decide) ?_
    refine W.widen (k := 0) (n := 0) (by decide +kernel) (by decide +kernel) ?_
    have e9 : fT (fT (fT (fT (fT (fT (fT vi 0 1) 113 (vi 113)) 11 (vi 11)) 116 (vi 116)) 5 (vi 5)) 6 (vi 6)) 7 (vi 7) = fT vi 0 1 := (fT_id _ _ ((fT_ne _ _ (Nat.ne_of_beq_eq_false rfl)).trans ((fT_ne _ _ (Nat.ne_of_beq_eq_false rfl)).trans ((fT_ne _ _ (Nat.ne_of_beq_eq_false rfl)).trans ((fT_ne _ _ (Nat.ne_of_beq_eq_false rfl)).trans ((fT_ne _ _ (Nat.ne_of_beq_eq_false rfl)).trans (fT_ne _ _ (Nat.ne_of_beq_eq_false rfl)))))))).trans ((fT_id _ _ ((fT_ne _ _ (Nat.ne_of_beq_eq_false rfl)).trans ((fT_ne _ _ (Nat.ne_of_beq_eq_false rfl)).trans ((fT_ne _ _ (Nat.ne_of_beq_eq_false rfl)).trans ((fT_ne _ _ (Nat.ne_of_beq_eq_false rfl)).trans (fT_ne _ _ (Nat.ne_of_beq_eq_false rfl))))))).trans ((fT_id _ _ ((fT_ne _ _ (Nat.ne_of_beq_eq_false rfl)).trans ((fT_ne _ _ (Nat.ne_of_beq_eq_false rfl)).trans ((fT_ne _ _ (Nat.ne_of_beq_eq_false rfl)).trans (fT_ne _ _ (Nat.ne_of_beq_eq_false rfl)))))).trans ((fT_id _ _ ((fT_ne _ _ (Nat.ne_of_beq_eq_false rfl)).trans ((fT_ne _ _ (Nat.ne_of_beq_eq_false rfl)).trans (fT_ne _ _ (Nat.ne_of_beq_eq_false rfl))))).trans ((fT_id _ _ ((fT_ne _ _ (Nat.ne_of_beq_eq_false rfl)).trans (fT_ne _ _ (Nat.ne_of_beq_eq_false rfl)))).trans (fT_id _ _ (fT_ne _ _ (Nat.ne_of_beq_eq_false rfl)))))))
    have hP : va_P (dC, dI) vwCl (WR a k h0 (fT (fT (fT (fT (fT (fT (fT vi 0 1) 113 (vi 113)) 11 (vi 11)) 116 (vi 116)) 5 (vi 5)) 6 (vi 6)) 7 (vi 7)) vj vF vG) H := by rw [e9]; exact hP
    have hD : va_D A (WR a k h0 (fT (fT (fT (fT (fT (fT (fT vi 0 1) 113 (vi 113)) 11 (vi 11)) 116 (vi 116)) 5 (vi 5)) 6 (vi 6)) 7 (vi 7)) vj vF vG) := by rw [e9]; exact hD
    clear e9
    have e9 : fT vj 12 (vj 12) = vj := fT_id _ _ (rfl)
    have hP : va_P (dC, dI) vwCl (WR a k h0 (fT (fT (fT (fT (fT (fT (fT vi 0 1) 113 (vi 113)) 11 (vi 11)) 116 (vi 116)) 5 (vi 5)) 6 (vi 6)) 7 (vi 7)) (fT vj 12 (vj 12)) vF vG) H := by rw [e9]; exact hP
    have hD : va_D A (WR a k h0 (fT (fT (fT (fT (fT (fT (fT vi 0 1) 113 (vi 113)) 11 (vi 11)) 116 (vi 116)) 5 (vi 5)) 6 (vi 6)) 7 (vi 7)) (fT vj 12 (vj 12)) vF vG) := by rw [e9]; exact hD
    clear e9
    have e9 : fT (fT (fT (fT (fT (fT (fT (fT vF 70 (vF 70)) 0 (vF 0)) 2 (vF 2)) 3 (vF 3)) 4 (vF 4)) 5 (vF 5)) 6 (vF 6)) 69 (vF 69) = vF := (fT_id _ _ ((fT_ne _ _ (Nat.ne_of_beq_eq_false rfl)).trans ((fT_ne _ _ (Nat.ne_of_beq_eq_false rfl)).trans ((fT_ne _ _ (Nat.ne_of_beq_eq_false rfl)).trans ((fT_ne _ _ (Nat.ne_of_beq_eq_false rfl)).trans ((fT_ne _ _ (Nat.ne_of_beq_eq_false rfl)).trans ((fT_ne _ _ (Nat.ne_of_beq_eq_false rfl)).trans (fT_ne _ _ (Nat.ne_of_beq_eq_false rfl))))))))).trans ((fT_id _ _ ((fT_ne _ _ (Nat.ne_of_beq_eq_false rfl)).trans ((fT_ne _ _ (Nat.ne_of_beq_eq_false rfl)).trans ((fT_ne _ _ (Nat.ne_of_beq_eq_false rfl)).trans ((fT_ne _ _ (Nat.ne_of_beq_eq_false rfl)).trans ((fT_ne _ _ (Nat.ne_of_beq_eq_false rfl)).trans (fT_ne _ _ (Nat.ne_of_beq_eq_false rfl)))))))).trans ((fT_id _ _ ((fT_ne _ _ (Nat.ne_of_beq_eq_false rfl)).trans ((fT_ne _ _ (Nat.ne_of_beq_eq_false rfl)).trans ((fT_ne _ _ (Nat.ne_of_beq_eq_false rfl)).trans ((fT_ne _ _ (Nat.ne_of_beq_eq_false rfl)).trans (fT_ne _ _ (Nat.ne_of_beq_eq_false rfl))))))).trans ((fT_id _ _ ((fT_ne _ _ (Nat.ne_of_beq_eq_false rfl)).trans ((fT_ne _ _ (Nat.ne_of_beq_eq_false rfl)).trans ((fT_ne _ _ (Nat.ne_of_beq_eq_false rfl)).trans (fT_ne _ _ (Nat.ne_of_beq_eq_false rfl)))))).trans ((fT_id _ _ ((fT_ne _ _ (Nat.ne_of_beq_eq_false rfl)).trans ((fT_ne _ _ (Nat.ne_of_beq_eq_false rfl)).trans (fT_ne _ _ (Nat.ne_of_beq_eq_false rfl))))).trans ((fT_id _ _ ((fT_ne _ _ (Nat.ne_of_beq_eq_false rfl)).trans (fT_ne _ _ (Nat.ne_of_beq_eq_false rfl)))).trans ((fT_id _ _ (fT_ne _ _ (Nat.ne_of_beq_eq_false rfl))).trans (fT_id _ _ (rfl))))))))
    have hP : va_P (dC, dI) vwCl (WR a k h0 (fT (fT (fT (fT (fT (fT (fT vi 0 1) 113 (vi 113)) 11 (vi 11)) 116 (vi 116)) 5 (vi 5)) 6 (vi 6)) 7 (vi 7)) (fT vj 12 (vj 12)) (fT (fT (fT (fT (fT (fT (fT (fT vF 70 (vF 70)) 0 (vF 0)) 2 (vF 2)) 3 (vF 3)) 4 (vF 4)) 5 (vF 5)) 6 (vF 6)) 69 (vF 69)) vG) H := by rw [e9]; exact hP
    have hD : va_D A (WR a k h0 (fT (fT (fT (fT (fT (fT (fT vi 0 1) 113 (vi 113)) 11 (vi 11)) 116 (vi 116)) 5 (vi 5)) 6 (vi 6)) 7 (vi 7)) (fT vj 12 (vj 12)) (fT (fT (fT (fT (fT (fT (fT (fT vF 70 (vF 70)) 0 (vF 0)) 2 (vF 2)) 3 (vF 3)) 4 (vF 4)) 5 (vF 5)) 6 (vF 6)) 69 (vF 69)) vG) := by rw [e9]; exact hD
    clear e9
    have e9 : fT (fT (fT vG 1 (vG 1)) 7 (vG 7)) 8 (vG 8) = vG := (fT_id _ _ ((fT_ne _ _ (Nat.ne_of_beq_eq_false rfl)).trans (fT_ne _ _ (Nat.ne_of_beq_eq_false rfl)))).trans ((fT_id _ _ (fT_ne _ _ (Nat.ne_of_beq_eq_false rfl))).trans (fT_id _ _ (rfl)))
    have hP : va_P (dC, dI) vwCl (WR a k h0 (fT (fT (fT (fT (fT (fT (fT vi 0 1) 113 (vi 113)) 11 (vi 11)) 116 (vi 116)) 5 (vi 5)) 6 (vi 6)) 7 (vi 7)) (fT vj 12 (vj 12)) (fT (fT (fT (fT (fT (fT (fT (fT vF 70 (vF 70)) 0 (vF 0)) 2 (vF 2)) 3 (vF 3)) 4 (vF 4)) 5 (vF 5)) 6 (vF 6)) 69 (vF 69)) (fT (fT (fT vG 1 (vG 1)) 7 (vG 7)) 8 (vG 8))) H := by rw [e9]; exact hP
    have hD : va_D A (WR a k h0 (fT (fT (fT (fT (fT (fT (fT vi 0 1) 113 (vi 113)) 11 (vi 11)) 116 (vi 116)) 5 (vi 5)) 6 (vi 6)) 7 (vi 7)) (fT vj 12 (vj 12)) (fT (fT (fT (fT (fT (fT (fT (fT vF 70 (vF 70)) 0 (vF 0)) 2 (vF 2)) 3 (vF 3)) 4 (vF 4)) 5 (vF 5)) 6 (vF 6)) 69 (vF 69)) (fT (fT (fT vG 1 (vG 1)) 7 (vG 7)) 8 (vG 8))) := by rw [e9]; exact hD
    clear e9
    exact W.zret (v := 0) hx hb hr rfl (fun t9_ ht hW => ⟨⟨0, ((vF 0), (vF 2), (vF 3), (vF 4), (vF 5), (vF 6), (vG 1), (vG 7), (vG 8), (vj 12), (vi 11), (vi 116), (vi 5), (vi 6), (vi 7), 1, (vi 113), (vF 69), (vF 70), mg), rfl, by (try dsimp only); exact ⟨hBg, hAn, hAb, hPp0, fun q _ => rfl, hM.2.2.2.2.2.2, hha⟩, by rw [ht]; exact hP, hD⟩, hS.F ht⟩) hS.2.2 dX12_solve_24
  · have t_5 : ¬ ((vi 95)).toInt = 0 := toI_neq c_5 rfl (by decide)
    refine lv_iconst (v := 0) hx hb dX12_solve_8 (by decide) ?_
    refine lv_goto (tgt := 13) hx hb dX12_solve_9 (by decide) ?_
    refine va_put (D := (dC, dI)) (ci := 12) (v := .int 0) (ty := .int) (C := RX12) (T := TX12) (N := 163) (fs := fM (vS a vi vj)) hx hb hts iwsRX12_solve_in12 tyX12 tyX12_ok nmX12 hown hK hP hD hS 0 rfl rfl 0 (by decide) (hts (.fieldLink RX12 348 "OptimaWorksModel" "thrown" "I") (by decide +kernel)) (fun _ h9 => h9) rfl (by decide +kernel) rfl rfl (Nat.le_of_ble_eq_true rfl) dX12_solve_13 (fun H locs hP hD hS => ?_)
    have hP : va_P (dC, dI) vwCl (WR a k h0 (fT vi 0 0) vj vF vG) H := by rw [← WR_i 0 _ rfl]; exact hP
    have hD : va_D A (WR a k h0 (fT vi 0 0) vj vF vG) := by rw [← WR_i 0 _ rfl]; exact hD
    refine lv_aload_n hx hb dX12_solve_16 rfl (lv_at hl 0 rfl) ?_
    refine va_get (D := (dC, dI)) (ci := 12) (v := .int 0) (C := RX12) (T := TX12) (N := 163) (fs := fM (vS a (fT vi 0 0) vj)) hx hb hts iwsRX12_solve_in12 hown hK hP 0 rfl rfl 0 (by decide) (hts (.fieldLink RX12 348 "OptimaWorksModel" "thrown" "I") (by decide +kernel)) (fun _ h9 => h9) rfl dX12_solve_17 ?_
    refine lv_if_le (tgt := 25) hx hb dX12_solve_20 (by decide) (fun _ => ?_) (fun c9 => absurd (by decide) c9)
    refine lv_aload_n hx hb dX12_solve_25 rfl (lv_at hl 0 rfl) ?_
    refine lv_iconst (v := 0) hx hb dX12_solve_26 (by decide) ?_
    refine va_put (D := (dC, dI)) (ci := 12) (v := .int 0) (ty := .boolean) (C := RX12) (T := TX12) (N := 163) (fs := fM (vS a (fT vi 0 0) vj)) hx hb hts iwsRX12_solve_in12 tyX12 tyX12_ok nmX12 hown hK hP hD hS 0 rfl rfl 113 (by decide) (hts (.fieldLink RX12 811 "OptimaWorksModel" "hasAnswer" "Z") (by decide +kernel)) (fun _ h9 => h9) rfl (by decide +kernel) rfl rfl (Nat.le_of_ble_eq_true rfl) dX12_solve_27 (fun H locs hP hD hS => ?_)
    have hP : va_P (dC, dI) vwCl (WR a k h0 (fT (fT vi 0 0) 113 0) vj vF vG) H := by rw [← WR_i 113 _ rfl]; exact hP
    have hD : va_D A (WR a k h0 (fT (fT vi 0 0) 113 0) vj vF vG) := by rw [← WR_i 113 _ rfl]; exact hD
    refine lv_iload_n hx hb dX12_solve_30 rfl (lv_at hl 1 rfl) ?_
    refine lv_if_eq (tgt := 52) hx hb dX12_solve_31 (by decide) (fun c_31 => ?_) (fun c_31 => ?_)
    · have t_31 : (rl).toInt = 0 := toI_eq c_31 rfl (by decide)
      refine lv_aload_n hx hb dX12_solve_52 rfl (lv_at hl 0 rfl) ?_
      have hFc := allFree hD hS hA
      refine va_callv (va_runV (As := []) (rest := []) ⟨hx, hb, hml, hown, hts⟩ (r_X12_firstValues l dC dI a k h0 (fT (fT vi 0 0) 113 0) vj vF vG vn (by first | with_reducible assumption | decide | omega | rfl | assumption) (by first | with_reducible assumption | decide | omega | rfl | assumption) H.size) (cwV 0 hts gwsRX12_solve_0 rfl rfl rfl hd_yX12_firstValues_RX12 (by decide +kernel)) (fz_pre (va_recv hK hP (ci := 12) (q0 := 0) rfl rfl) hP hK hD) rfl rfl hl.1 rfl (lv_room (Nat.le_of_ble_eq_true rfl)) dX12_solve_53 (by decide +kernel)) hS (fun q _ h => hFc q h) hFc (fun f7053 t9_ H locs ht hvm hw9 hB9 hz1 hk1 hS => ?_)
      have hP : va_P (dC, dI) vwCl (WR a k h0 (fT (fT vi 0 0) 113 0) vj (fT vF 70 f7053) vG) H := fz_P ht hB9.1
      have hD : va_D A (WR a k h0 (fT (fT vi 0 0) 113 0) vj (fT vF 70 f7053) vG) := hB9.2.weaken (fun _ q _ h => hFc q.1 h)
      revert hw9
      refine fz_a2 ?_
      intro f53_0 f53_1
      have f53_0 : ∀ k, k < vn → f7053 k = (vF 56) k := f53_0
      have f53_1 : ∀ k, vn ≤ k → f7053 k = (vF 70) k := f53_1
      refine lv_iconst (v := 1) hx hb dX12_solve_56 (by decide) ?_
      refine lv_istore_n hx hb dX12_solve_57 rfl hl (by decide) rfl (fun ls (hl : lv_has ls _ ([(2, .int 1), (0, .ref h0), (1, .int rl)])) => ?_)
      have e9 : fT (fT (fT (fT (fT (fT (fT vi 0 0) 113 0) 11 (vi 11)) 116 (vi 116)) 5 (vi 5)) 6 (vi 6)) 7 (vi 7) = fT (fT vi 0 0) 113 0 := by funext q9; by_cases h9_0 : q9 = 0; (subst h9_0; exact ((fT_ne _ _ (Nat.ne_of_beq_eq_false rfl)).trans ((fT_ne _ _ (Nat.ne_of_beq_eq_false rfl)).trans ((fT_ne _ _ (Nat.ne_of_beq_eq_false rfl)).trans ((fT_ne _ _ (Nat.ne_of_beq_eq_false rfl)).trans ((fT_ne _ _ (Nat.ne_of_beq_eq_false rfl)).trans ((fT_ne _ _ (Nat.ne_of_beq_eq_false rfl)).trans (fT_eq _ _ _))))))).trans (Eq.trans (by first | with_reducible rfl | with_reducible assumption | (symm; with_reducible assumption) | rfl | assumption | (symm; assumption) | (subst_vars; rfl)) ((fT_ne _ _ (Nat.ne_of_beq_eq_false rfl)).trans (fT_eq _ _ _)).symm)); by_cases h9_113 : q9 = 113; (subst h9_113; exact ((fT_ne _ _ (Nat.ne_of_beq_eq_false rfl)).trans ((fT_ne _ _ (Nat.ne_of_beq_eq_false rfl)).trans ((fT_ne _ _ (Nat.ne_of_beq_eq_false rfl)).trans ((fT_ne _ _ (Nat.ne_of_beq_eq_false rfl)).trans ((fT_ne _ _ (Nat.ne_of_beq_eq_false rfl)).trans (fT_eq _ _ _)))))).trans (Eq.trans (by first | with_reducible rfl | with_reducible assumption | (symm; with_reducible assumption) | rfl | assumption | (symm; assumption) | (subst_vars; rfl)) (fT_eq _ _ _).symm)); by_cases h9_11 : q9 = 11; (subst h9_11; exact ((fT_ne _ _ (Nat.ne_of_beq_eq_false rfl)).trans ((fT_ne _ _ (Nat.ne_of_beq_eq_false rfl)).trans ((fT_ne _ _ (Nat.ne_of_beq_eq_false rfl)).trans ((fT_ne _ _ (Nat.ne_of_beq_eq_false rfl)).trans (fT_eq _ _ _))))).trans (Eq.trans (by first | with_reducible rfl | with_reducible assumption | (symm; with_reducible assumption) | rfl | assumption | (symm; assumption) | (subst_vars; rfl)) ((fT_ne _ _ (Nat.ne_of_beq_eq_false rfl)).trans (fT_ne _ _ (Nat.ne_of_beq_eq_false rfl))).symm)); by_cases h9_116 : q9 = 116; (subst h9_116; exact ((fT_ne _ _ (Nat.ne_of_beq_eq_false rfl)).trans ((fT_ne _ _ (Nat.ne_of_beq_eq_false rfl)).trans ((fT_ne _ _ (Nat.ne_of_beq_eq_false rfl)).trans (fT_eq _ _ _)))).trans (Eq.trans (by first | with_reducible rfl | with_reducible assumption | (symm; with_reducible assumption) | rfl | assumption | (symm; assumption) | (subst_vars; rfl)) ((fT_ne _ _ (Nat.ne_of_beq_eq_false rfl)).trans (fT_ne _ _ (Nat.ne_of_beq_eq_false rfl))).symm)); by_cases h9_5 : q9 = 5; (subst h9_5; exact ((fT_ne _ _ (Nat.ne_of_beq_eq_false rfl)).trans ((fT_ne _ _ (Nat.ne_of_beq_eq_false rfl)).trans (fT_eq _ _ _))).trans (Eq.trans (by first | with_reducible rfl | with_reducible assumption | (symm; with_reducible assumption) | rfl | assumption | (symm; assumption) | (subst_vars; rfl)) ((fT_ne _ _ (Nat.ne_of_beq_eq_false rfl)).trans (fT_ne _ _ (Nat.ne_of_beq_eq_false rfl))).symm)); by_cases h9_6 : q9 = 6; (subst h9_6; exact ((fT_ne _ _ (Nat.ne_of_beq_eq_false rfl)).trans (fT_eq _ _ _)).trans (Eq.trans (by first | with_reducible rfl | with_reducible assumption | (symm; with_reducible assumption) | rfl | assumption | (symm; assumption) | (subst_vars; rfl)) ((fT_ne _ _ (Nat.ne_of_beq_eq_false rfl)).trans (fT_ne _ _ (Nat.ne_of_beq_eq_false rfl))).symm)); by_cases h9_7 : q9 = 7; (subst h9_7; exact (fT_eq _ _ _).trans (Eq.trans (by first | with_reducible rfl | with_reducible assumption | (symm; with_reducible assumption) | rfl | assumption | (symm; assumption) | (subst_vars; rfl)) ((fT_ne _ _ (Nat.ne_of_beq_eq_false rfl)).trans (fT_ne _ _ (Nat.ne_of_beq_eq_false rfl))).symm)); exact ((fT_ne _ _ h9_7).trans ((fT_ne _ _ h9_6).trans ((fT_ne _ _ h9_5).trans ((fT_ne _ _ h9_116).trans ((fT_ne _ _ h9_11).trans ((fT_ne _ _ h9_113).trans (fT_ne _ _ h9_0))))))).trans ((fT_ne _ _ h9_113).trans (fT_ne _ _ h9_0)).symm
      have hP : va_P (dC, dI) vwCl (WR a k h0 (fT (fT (fT (fT (fT (fT (fT vi 0 0) 113 0) 11 (vi 11)) 116 (vi 116)) 5 (vi 5)) 6 (vi 6)) 7 (vi 7)) vj (fT vF 70 f7053) vG) H := by rw [e9]; exact hP
      have hD : va_D A (WR a k h0 (fT (fT (fT (fT (fT (fT (fT vi 0 0) 113 0) 11 (vi 11)) 116 (vi 116)) 5 (vi 5)) 6 (vi 6)) 7 (vi 7)) vj (fT vF 70 f7053) vG) := by rw [e9]; exact hD
      clear e9
      have e9 : fT vj 12 (vj 12) = vj := by funext q9; by_cases h9_12 : q9 = 12; (subst h9_12; exact (fT_eq _ _ _).trans (Eq.trans (by first | with_reducible rfl | with_reducible assumption | (symm; with_reducible assumption) | rfl | assumption | (symm; assumption) | (subst_vars; rfl)) (Eq.refl _).symm)); exact (fT_ne _ _ h9_12).trans (Eq.refl _).symm
      have hP : va_P (dC, dI) vwCl (WR a k h0 (fT (fT (fT (fT (fT (fT (fT vi 0 0) 113 0) 11 (vi 11)) 116 (vi 116)) 5 (vi 5)) 6 (vi 6)) 7 (vi 7)) (fT vj 12 (vj 12)) (fT vF 70 f7053) vG) H := by rw [e9]; exact hP
      have hD : va_D A (WR a k h0 (fT (fT (fT (fT (fT (fT (fT vi 0 0) 113 0) 11 (vi 11)) 116 (vi 116)) 5 (vi 5)) 6 (vi 6)) 7 (vi 7)) (fT vj 12 (vj 12)) (fT vF 70 f7053) vG) := by rw [e9]; exact hD
      clear e9
      have e9 : fT (fT (fT (fT (fT (fT (fT (fT vF 70 f7053) 0 (vF 0)) 2 (vF 2)) 3 (vF 3)) 4 (vF 4)) 5 (vF 5)) 6 (vF 6)) 69 (vF 69) = fT vF 70 f7053 := by funext q9; by_cases h9_70 : q9 = 70; (subst h9_70; exact ((fT_ne _ _ (Nat.ne_of_beq_eq_false rfl)).trans ((fT_ne _ _ (Nat.ne_of_beq_eq_false rfl)).trans ((fT_ne _ _ (Nat.ne_of_beq_eq_false rfl)).trans ((fT_ne _ _ (Nat.ne_of_beq_eq_false rfl)).trans ((fT_ne _ _ (Nat.ne_of_beq_eq_false rfl)).trans ((fT_ne _ _ (Nat.ne_of_beq_eq_false rfl)).trans ((fT_ne _ _ (Nat.ne_of_beq_eq_false rfl)).trans (fT_eq _ _ _)))))))).trans (Eq.trans (by first | with_reducible rfl | with_reducible assumption | (symm; with_reducible assumption) | rfl | assumption | (symm; assumption) | (subst_vars; rfl)) (fT_eq _ _ _).symm)); by_cases h9_0 : q9 = 0; (subst h9_0; exact ((fT_ne _ _ (Nat.ne_of_beq_eq_false rfl)).trans ((fT_ne _ _ (Nat.ne_of_beq_eq_false rfl)).trans ((fT_ne _ _ (Nat.ne_of_beq_eq_false rfl)).trans ((fT_ne _ _ (Nat.ne_of_beq_eq_false rfl)).trans ((fT_ne _ _ (Nat.ne_of_beq_eq_false rfl)).trans ((fT_ne _ _ (Nat.ne_of_beq_eq_false rfl)).trans (fT_eq _ _ _))))))).trans (Eq.trans (by first | with_reducible rfl | with_reducible assumption | (symm; with_reducible assumption) | rfl | assumption | (symm; assumption) | (subst_vars; rfl)) (fT_ne _ _ (Nat.ne_of_beq_eq_false rfl)).symm)); by_cases h9_2 : q9 = 2; (subst h9_2; exact ((fT_ne _ _ (Nat.ne_of_beq_eq_false rfl)).trans ((fT_ne _ _ (Nat.ne_of_beq_eq_false rfl)).trans ((fT_ne _ _ (Nat.ne_of_beq_eq_false rfl)).trans ((fT_ne _ _ (Nat.ne_of_beq_eq_false rfl)).trans ((fT_ne _ _ (Nat.ne_of_beq_eq_false rfl)).trans (fT_eq _ _ _)))))).trans (Eq.trans (by first | with_reducible rfl | with_reducible assumption | (symm; with_reducible assumption) | rfl | assumption | (symm; assumption) | (subst_vars; rfl)) (fT_ne _ _ (Nat.ne_of_beq_eq_false rfl)).symm)); by_cases h9_3 : q9 = 3; (subst h9_3; exact ((fT_ne _ _ (Nat.ne_of_beq_eq_false rfl)).trans ((fT_ne _ _ (Nat.ne_of_beq_eq_false rfl)).trans ((fT_ne _ _ (Nat.ne_of_beq_eq_false rfl)).trans ((fT_ne _ _ (Nat.ne_of_beq_eq_false rfl)).trans (fT_eq _ _ _))))).trans (Eq.trans (by first | with_reducible rfl | with_reducible assumption | (symm; with_reducible assumption) | rfl | assumption | (symm; assumption) | (subst_vars; rfl)) (fT_ne _ _ (Nat.ne_of_beq_eq_false rfl)).symm)); by_cases h9_4 : q9 = 4; (subst h9_4; exact ((fT_ne _ _ (Nat.ne_of_beq_eq_false rfl)).trans ((fT_ne _ _ (Nat.ne_of_beq_eq_false rfl)).trans ((fT_ne _ _ (Nat.ne_of_beq_eq_false rfl)).trans (fT_eq _ _ _)))).trans (Eq.trans (by first | with_reducible rfl | with_reducible assumption | (symm; with_reducible assumption) | rfl | assumption | (symm; assumption) | (subst_vars; rfl)) (fT_ne _ _ (Nat.ne_of_beq_eq_false rfl)).symm)); by_cases h9_5 : q9 = 5; (subst h9_5; exact ((fT_ne _ _ (Nat.ne_of_beq_eq_false rfl)).trans ((fT_ne _ _ (Nat.ne_of_beq_eq_false rfl)).trans (fT_eq _ _ _))).trans (Eq.trans (by first | with_reducible rfl | with_reducible assumption | (symm; with_reducible assumption) | rfl | assumption | (symm; assumption) | (subst_vars; rfl)) (fT_ne _ _ (Nat.ne_of_beq_eq_false rfl)).symm)); by_cases h9_6 : q9 = 6; (subst h9_6; exact ((fT_ne _ _ (Nat.ne_of_beq_eq_false rfl)).trans (fT_eq _ _ _)).trans (Eq.trans (by first | with_reducible rfl | with_reducible assumption | (symm; with_reducible assumption) | rfl | assumption | (symm; assumption) | (subst_vars; rfl)) (fT_ne _ _ (Nat.ne_of_beq_eq_false rfl)).symm)); by_cases h9_69 : q9 = 69; (subst h9_69; exact (fT_eq _ _ _).trans (Eq.trans (by first | with_reducible rfl | with_reducible assumption | (symm; with_reducible assumption) | rfl | assumption | (symm; assumption) | (subst_vars; rfl)) (fT_ne _ _ (Nat.ne_of_beq_eq_false rfl)).symm)); exact ((fT_ne _ _ h9_69).trans ((fT_ne _ _ h9_6).trans ((fT_ne _ _ h9_5).trans ((fT_ne _ _ h9_4).trans ((fT_ne _ _ h9_3).trans ((fT_ne _ _ h9_2).trans ((fT_ne _ _ h9_0).trans (fT_ne _ _ h9_70)))))))).trans (fT_ne _ _ h9_70).symm
      have hP : va_P (dC, dI) vwCl (WR a k h0 (fT (fT (fT (fT (fT (fT (fT vi 0 0) 113 0) 11 (vi 11)) 116 (vi 116)) 5 (vi 5)) 6 (vi 6)) 7 (vi 7)) (fT vj 12 (vj 12)) (fT (fT (fT (fT (fT (fT (fT (fT vF 70 f7053) 0 (vF 0)) 2 (vF 2)) 3 (vF 3)) 4 (vF 4)) 5 (vF 5)) 6 (vF 6)) 69 (vF 69)) vG) H := by rw [e9]; exact hP
      have hD : va_D A (WR a k h0 (fT (fT (fT (fT (fT (fT (fT vi 0 0) 113 0) 11 (vi 11)) 116 (vi 116)) 5 (vi 5)) 6 (vi 6)) 7 (vi 7)) (fT vj 12 (vj 12)) (fT (fT (fT (fT (fT (fT (fT (fT vF 70 f7053) 0 (vF 0)) 2 (vF 2)) 3 (vF 3)) 4 (vF 4)) 5 (vF 5)) 6 (vF 6)) 69 (vF 69)) vG) := by rw [e9]; exact hD
      clear e9
      have e9 : fT (fT (fT vG 1 (vG 1)) 7 (vG 7)) 8 (vG 8) = vG := by funext q9; by_cases h9_1 : q9 = 1; (subst h9_1; exact ((fT_ne _ _ (Nat.ne_of_beq_eq_false rfl)).trans ((fT_ne _ _ (Nat.ne_of_beq_eq_false rfl)).trans (fT_eq _ _ _))).trans (Eq.trans (by first | with_reducible rfl | with_reducible assumption | (symm; with_reducible assumption) | rfl | assumption | (symm; assumption) | (subst_vars; rfl)) (Eq.refl _).symm)); by_cases h9_7 : q9 = 7; (subst h9_7; exact ((fT_ne _ _ (Nat.ne_of_beq_eq_false rfl)).trans (fT_eq _ _ _)).trans (Eq.trans (by first | with_reducible rfl | with_reducible assumption | (symm; with_reducible assumption) | rfl | assumption | (symm; assumption) | (subst_vars; rfl)) (Eq.refl _).symm)); by_cases h9_8 : q9 = 8; (subst h9_8; exact (fT_eq _ _ _).trans (Eq.trans (by first | with_reducible rfl | with_reducible assumption | (symm; with_reducible assumption) | rfl | assumption | (symm; assumption) | (subst_vars; rfl)) (Eq.refl _).symm)); exact ((fT_ne _ _ h9_8).trans ((fT_ne _ _ h9_7).trans (fT_ne _ _ h9_1))).trans (Eq.refl _).symm
      have hP : va_P (dC, dI) vwCl (WR a k h0 (fT (fT (fT (fT (fT (fT (fT vi 0 0) 113 0) 11 (vi 11)) 116 (vi 116)) 5 (vi 5)) 6 (vi 6)) 7 (vi 7)) (fT vj 12 (vj 12)) (fT (fT (fT (fT (fT (fT (fT (fT vF 70 f7053) 0 (vF 0)) 2 (vF 2)) 3 (vF 3)) 4 (vF 4)) 5 (vF 5)) 6 (vF 6)) 69 (vF 69)) (fT (fT (fT vG 1 (vG 1)) 7 (vG 7)) 8 (vG 8))) H := by rw [e9]; exact hP
      have hD : va_D A (WR a k h0 (fT (fT (fT (fT (fT (fT (fT vi 0 0) 113 0) 11 (vi 11)) 116 (vi 116)) 5 (vi 5)) 6 (vi 6)) 7 (vi 7)) (fT vj 12 (vj 12)) (fT (fT (fT (fT (fT (fT (fT (fT vF 70 f7053) 0 (vF 0)) 2 (vF 2)) 3 (vF 3)) 4 (vF 4)) 5 (vF 5)) 6 (vF 6)) 69 (vF 69)) (fT (fT (fT vG 1 (vG 1)) 7 (vG 7)) 8 (vG 8))) := by rw [e9]; exact hD
      clear e9
      have hl : lv_has _ _ ([(0, .ref h0), (2, .int 1)]) := lv_sub hl [1, 0] rfl
      refine (fun (loop : ∀ (n9 : Nat) (mo : Int32) (hax : Int32) (f69x : Nat → Int32) (f70x : Nat → Int32) (gx : Nat → Int32) (f2wx : Nat → Int32) (f3wx : Nat → Int32) (f4x : Nat → Int32) (f5x : Nat → Int32) (f6x : Nat → Int32) (gsx : Nat → Int64) (Fx : Nat → Int64) (L8x : Nat → Int64) (qdx : Int64) (qkx : Int32) (fxx : Int32) (cn2x : Int32) (rn2x : Int32) (gn2x : Int32) (m1 : Nat → Int) (H : Heap) (locs : List Loc) (ls : Array Slot), (Bg gx m1) → (VaO (vF 56) (vF 57) (vF 58) f70x vn) → (∀ q, vn ≤ q → f70x q = vF 70 q) → (AnsB m1 1020) → (AnsB m1 1000) → (hax ≠ 0 → AnsP m1 1000 gq) → (hax = 0 ∨ hax = 1) → (∀ q, 1036 ≤ q → m1 q = mg q) →  ((mo = 0 ∧ 0 < n9) ∨ odoP (vR (vF 56) (vF 57)) vn < odo (vD (vF 56) f70x) (vR (vF 56) (vF 57)) vn + n9) → va_P (dC, dI) vwCl (WR a k h0 (fT (fT (fT (fT (fT (fT (fT vi 0 0) 113 hax) 11 qkx) 116 fxx) 5 cn2x) 6 rn2x) 7 gn2x) (fT vj 12 qdx) (fT (fT (fT (fT (fT (fT (fT (fT vF 70 f70x) 0 gx) 2 f2wx) 3 f3wx) 4 f4x) 5 f5x) 6 f6x) 69 f69x) (fT (fT (fT vG 1 gsx) 7 Fx) 8 L8x)) H → va_D A (WR a k h0 (fT (fT (fT (fT (fT (fT (fT vi 0 0) 113 hax) 11 qkx) 116 fxx) 5 cn2x) 6 rn2x) 7 gn2x) (fT vj 12 qdx) (fT (fT (fT (fT (fT (fT (fT (fT vF 70 f70x) 0 gx) 2 f2wx) 3 f3wx) 4 f4x) 5 f5x) 6 f6x) 69 f69x) (fT (fT (fT vG 1 gsx) 7 Fx) 8 L8x)) → va_S A s.heap H locs → lv_has ls 4 [(0, .ref h0), (2, .int mo)] → W p l e _ s m _ below meth c H locs 0 0 _ (F0 m 58 ls [])) => loop (odoP (vR (vF 56) (vF 57)) vn + 1) 1 0 (vF 69) f7053 (vF 0) (vF 2) (vF 3) (vF 4) (vF 5) (vF 6) (vG 1) (vG 7) (vG 8) (vj 12) (vi 11) (vi 116) (vi 5) (vi 6) (vi 7) mg _ _ _ (hBg) (VaO.first hlh f53_0) (f53_1) (hAn) (hAb) (fun h9 => absurd rfl h9) (Or.inl rfl) (fun q _ => rfl) (Or.inr (by omega)) hP hD hS hl) ?_
      intro n9
      induction n9 with
      | zero => intro mo hax f69x f70x gx f2wx f3wx f4x f5x f6x gsx Fx L8x qdx qkx fxx cn2x rn2x gn2x m1 H locs ls hB1 hva hvr hA1 hA0 hPp hax1 ho hf9; exact False.elim (by (have h9 := odo_lt (f := vD (vF 56) f70x) (b := vR (vF 56) (vF 57)) vn (fun q hq => hva.dg hq)); omega)
      | succ n9 ih58 =>
        intro mo hax f69x f70x gx f2wx f3wx f4x f5x f6x gsx Fx L8x qdx qkx fxx cn2x rn2x gn2x m1 H locs ls hB1 hva hvr hA1 hA0 hPp hax1 ho hf58 hP hD hS hl
        have hfx := hf58
        refine lv_iload_n hx hb dX12_solve_58 rfl (lv_at hl 1 rfl) ?_
        refine lv_if_eq (tgt := 118) hx hb dX12_solve_59 (by decide) (fun c_59 => ?_) (fun c_59 => ?_)
        · have t_59 : (mo).toInt = 0 := toI_eq c_59 rfl (by decide)
          refine lv_aload_n hx hb dX12_solve_118 rfl (lv_at hl 0 rfl) ?_
          refine va_get (D := (dC, dI)) (ci := 12) (v := .int hax) (C := RX12) (T := TX12) (N := 163) (fs := fM (vS a (fT (fT (fT (fT (fT (fT (fT vi 0 0) 113 hax) 11 qkx) 116 fxx) 5 cn2x) 6 rn2x) 7 gn2x) (fT vj 12 qdx))) hx hb hts iwsRX12_solve_in12 hown hK hP 0 rfl rfl 113 (by decide) (hts (.fieldLink RX12 811 "OptimaWorksModel" "hasAnswer" "Z") (by decide +kernel)) (fun _ h9 => h9) rfl dX12_solve_119 ?_
          refine W.widen (k := 0) (n := 0) (by decide +kernel) (by decide +kernel) ?_
          exact W.zret (v := hax) hx hb hr (by rcases hax1 with h | h <;> rw [h] <;> rfl) (fun t9_ ht hW => ⟨⟨hax, (gx, f2wx, f3wx, f4x, f5x, f6x, gsx, Fx, L8x, qdx, qkx, fxx, cn2x, rn2x, gn2x, 0, hax, f69x, f70x, m1), rfl, by (try dsimp only); exact ⟨hB1, hA1, hA0, hPp, ho, VaO.box hM hva hvr, hax1⟩, by rw [ht]; exact hP, hD⟩, hS.F ht⟩) hS.2.2 dX12_solve_122
        · have t_59 : ¬ (mo).toInt = 0 := toI_neq c_59 rfl (by decide)
          refine lv_aload_n hx hb dX12_solve_62 rfl (lv_at hl 0 rfl) ?_
          have hFc := allFree hD hS hA
          refine va_callv (va_runV (As := []) (rest := []) ⟨hx, hb, hml, hown, hts⟩ (r_X12_firstWays l dC dI a k h0 (fT (fT (fT (fT (fT (fT (fT vi 0 0) 113 hax) 11 qkx) 116 fxx) 5 cn2x) 6 rn2x) 7 gn2x) (fT vj 12 qdx) (fT (fT (fT (fT (fT (fT (fT (fT vF 70 f70x) 0 gx) 2 f2wx) 3 f3wx) 4 f4x) 5 f5x) 6 f6x) 69 f69x) (fT (fT (fT vG 1 gsx) 7 Fx) 8 L8x) mr (by first | with_reducible assumption | decide | omega | rfl | assumption) (by first | with_reducible assumption | decide | omega | rfl | assumption) H.size) (cwV 0 hts gwsRX12_solve_1 rfl rfl rfl hd_yX12_firstWays_RX12 (by decide +kernel)) (fz_pre (va_recv hK hP (ci := 12) (q0 := 0) rfl rfl) hP hK hD) rfl rfl hl.1 rfl (lv_room (Nat.le_of_ble_eq_true rfl)) dX12_solve_63 (by decide +kernel)) hS (fun q _ h => hFc q h) hFc (fun f6963 t9_ H locs ht hvm hw9 hB9 hz1 hk1 hS => ?_)
          have hP : va_P (dC, dI) vwCl (WR a k h0 (fT (fT (fT (fT (fT (fT (fT vi 0 0) 113 hax) 11 qkx) 116 fxx) 5 cn2x) 6 rn2x) 7 gn2x) (fT vj 12 qdx) (fT (fT (fT (fT (fT (fT (fT (fT (fT vF 70 f70x) 0 gx) 2 f2wx) 3 f3wx) 4 f4x) 5 f5x) 6 f6x) 69 f69x) 69 f6963) (fT (fT (fT vG 1 gsx) 7 Fx) 8 L8x)) H := fz_P ht hB9.1
          have hD : va_D A (WR a k h0 (fT (fT (fT (fT (fT (fT (fT vi 0 0) 113 hax) 11 qkx) 116 fxx) 5 cn2x) 6 rn2x) 7 gn2x) (fT vj 12 qdx) (fT (fT (fT (fT (fT (fT (fT (fT (fT vF 70 f70x) 0 gx) 2 f2wx) 3 f3wx) 4 f4x) 5 f5x) 6 f6x) 69 f69x) 69 f6963) (fT (fT (fT vG 1 gsx) 7 Fx) 8 L8x)) := hB9.2.weaken (fun _ q _ h => hFc q.1 h)
          have e9 : fT (fT (fT (fT (fT (fT (fT (fT vF 70 f70x) 0 gx) 2 f2wx) 3 f3wx) 4 f4x) 5 f5x) 6 f6x) 69 f6963 = fT (fT (fT (fT (fT (fT (fT (fT (fT vF 70 f70x) 0 gx) 2 f2wx) 3 f3wx) 4 f4x) 5 f5x) 6 f6x) 69 f69x) 69 f6963 := (fT_sm _ _ _ _).symm
          rw [← e9] at hP hD
          clear e9
          have hP : va_P (dC, dI) vwCl (WR a k h0 (fT (fT (fT (fT (fT (fT (fT vi 0 0) 113 hax) 11 qkx) 116 fxx) 5 cn2x) 6 rn2x) 7 gn2x) (fT vj 12 qdx) (fT (fT (fT (fT (fT (fT (fT (fT vF 70 f70x) 0 gx) 2 f2wx) 3 f3wx) 4 f4x) 5 f5x) 6 f6x) 69 f6963) (fT (fT (fT vG 1 gsx) 7 Fx) 8 L8x)) H := hP
          have hD : va_D A (WR a k h0 (fT (fT (fT (fT (fT (fT (fT vi 0 0) 113 hax) 11 qkx) 116 fxx) 5 cn2x) 6 rn2x) 7 gn2x) (fT vj 12 qdx) (fT (fT (fT (fT (fT (fT (fT (fT vF 70 f70x) 0 gx) 2 f2wx) 3 f3wx) 4 f4x) 5 f5x) 6 f6x) 69 f6963) (fT (fT (fT vG 1 gsx) 7 Fx) 8 L8x)) := hD
          have f63_0 := hw9
          try dsimp only at f63_0
          refine lv_aload_n hx hb dX12_solve_66 rfl (lv_at hl 0 rfl) ?_
          have hFc := allFree hD hS hA
          refine va_calli (va_runV (As := []) (rest := []) ⟨hx, hb, hml, hown, hts⟩ (r_X12_differ l dC dI a k h0 (fT (fT (fT (fT (fT (fT (fT vi 0 0) 113 hax) 11 qkx) 116 fxx) 5 cn2x) 6 rn2x) 7 gn2x) (fT vj 12 qdx) (fT (fT (fT (fT (fT (fT (fT (fT vF 70 f70x) 0 gx) 2 f2wx) 3 f3wx) 4 f4x) 5 f5x) 6 f6x) 69 f6963) (fT (fT (fT vG 1 gsx) 7 Fx) 8 L8x) vn dn (by first | with_reducible assumption | decide | omega | rfl | assumption) (by first | with_reducible assumption | decide | omega | rfl | assumption) (by first | with_reducible assumption | decide | omega | rfl | assumption) (by first | with_reducible assumption | decide | omega | rfl | assumption) H.size) (cwV 0 hts gwsRX12_solve_2 rfl rfl rfl hd_yX12_differ_RX12 (by decide +kernel)) (fz_pre (va_recv hK hP (ci := 12) (q0 := 0) rfl rfl) hP hK hD) rfl rfl hl.1 rfl (lv_room (Nat.le_of_ble_eq_true rfl)) dX12_solve_67 (by decide +kernel)) hS (fun q _ h => hFc q h) hFc (fun r67 u t9_ H locs ht hvm hw9 hB9 hz1 hk1 hS => ?_)
          have hP : va_P (dC, dI) vwCl (WR a k h0 (fT (fT (fT (fT (fT (fT (fT vi 0 0) 113 hax) 11 qkx) 116 fxx) 5 cn2x) 6 rn2x) 7 gn2x) (fT vj 12 qdx) (fT (fT (fT (fT (fT (fT (fT (fT vF 70 f70x) 0 gx) 2 f2wx) 3 f3wx) 4 f4x) 5 f5x) 6 f6x) 69 f6963) (fT (fT (fT vG 1 gsx) 7 Fx) 8 L8x)) H := fz_P ht hB9.1
          have hD : va_D A (WR a k h0 (fT (fT (fT (fT (fT (fT (fT vi 0 0) 113 hax) 11 qkx) 116 fxx) 5 cn2x) 6 rn2x) 7 gn2x) (fT vj 12 qdx) (fT (fT (fT (fT (fT (fT (fT (fT vF 70 f70x) 0 gx) 2 f2wx) 3 f3wx) 4 f4x) 5 f5x) 6 f6x) 69 f6963) (fT (fT (fT vG 1 gsx) 7 Fx) 8 L8x)) := hB9.2.weaken (fun _ q _ h => hFc q.1 h)
          have f67_0 := hw9
          try dsimp only at f67_0
          refine lv_istore_n hx hb dX12_solve_70 rfl hl (by decide) rfl (fun ls (hl : lv_has ls _ ([(3, .int r67), (0, .ref h0), (2, .int mo)])) => ?_)
          have hl : lv_has _ _ ([(0, .ref h0), (2, .int mo), (3, .int r67)]) := lv_sub hl [1, 2, 0] rfl
          refine (fun (loop : ∀ (n9 : Nat) (wy : Int32) (hay : Int32) (f69y : Nat → Int32) (gy : Nat → Int32) (f2wy : Nat → Int32) (f3wy : Nat → Int32) (f4y : Nat → Int32) (f5y : Nat → Int32) (f6y : Nat → Int32) (gsy : Nat → Int64) (Fy : Nat → Int64) (L8y : Nat → Int64) (qdy : Int64) (qky : Int32) (fxy : Int32) (cn2y : Int32) (rn2y : Int32) (gn2y : Int32) (m3 : Nat → Int) (H : Heap) (locs : List Loc) (ls : Array Slot), (Bg gy m3) → (ChO (vF 59) f69y mr) → (AnsB m3 1020) → (AnsB m3 1000) → (hay ≠ 0 → AnsP m3 1000 gq) → (hay = 0 ∨ hay = 1) → (∀ q, 1036 ≤ q → m3 q = mg q) →  ((wy = 0 ∧ 0 < n9) ∨ odoP (cD (vF 59)) mr < odo (cD f69y) (cD (vF 59)) mr + n9) → va_P (dC, dI) vwCl (WR a k h0 (fT (fT (fT (fT (fT (fT (fT vi 0 0) 113 hay) 11 qky) 116 fxy) 5 cn2y) 6 rn2y) 7 gn2y) (fT vj 12 qdy) (fT (fT (fT (fT (fT (fT (fT (fT vF 70 f70x) 0 gy) 2 f2wy) 3 f3wy) 4 f4y) 5 f5y) 6 f6y) 69 f69y) (fT (fT (fT vG 1 gsy) 7 Fy) 8 L8y)) H → va_D A (WR a k h0 (fT (fT (fT (fT (fT (fT (fT vi 0 0) 113 hay) 11 qky) 116 fxy) 5 cn2y) 6 rn2y) 7 gn2y) (fT vj 12 qdy) (fT (fT (fT (fT (fT (fT (fT (fT vF 70 f70x) 0 gy) 2 f2wy) 3 f3wy) 4 f4y) 5 f5y) 6 f6y) 69 f69y) (fT (fT (fT vG 1 gsy) 7 Fy) 8 L8y)) → va_S A s.heap H locs → lv_has ls 4 [(0, .ref h0), (2, .int mo), (3, .int wy)] → W p l e _ s m _ below meth c H locs 0 0 _ (F0 m 71 ls [])) => loop (odoP (cD (vF 59)) mr + 1) r67 hax f6963 gx f2wx f3wx f4x f5x f6x gsx Fx L8x qdx qkx fxx cn2x rn2x gn2x m1 _ _ _ (hB1) (ChO.first hwm f63_0) (hA1) (hA0) (hPp) (hax1) (ho) (Or.inr (by omega)) hP hD hS hl) ?_
          intro n9
          induction n9 with
          | zero => intro wy hay f69y gy f2wy f3wy f4y f5y f6y gsy Fy L8y qdy qky fxy cn2y rn2y gn2y m3 H locs ls hB3 hc1 hA2 hA02 hPp2 hax2 ho2 hf9; exact False.elim (by (have h9 := odo_lt (f := cD f69y) (b := cD (vF 59)) mr (fun q hq => hc1.dg hq)); omega)
          | succ n9 ih71_1 =>
            intro wy hay f69y gy f2wy f3wy f4y f5y f6y gsy Fy L8y qdy qky fxy cn2y rn2y gn2y m3 H locs ls hB3 hc1 hA2 hA02 hPp2 hax2 ho2 hf71_1 hP hD hS hl
            have hfy := hf71_1
            refine lv_iload_n hx hb dX12_solve_71 rfl (lv_at hl 2 rfl) ?_
            refine lv_if_eq (tgt := 110) hx hb dX12_solve_72 (by decide) (fun c_72 => ?_) (fun c_72 => ?_)
            · have t_72 : (wy).toInt = 0 := toI_eq c_72 rfl (by decide)
              refine lv_aload_n hx hb dX12_solve_110 rfl (lv_at hl 0 rfl) ?_
              have hFc := allFree hD hS hA
              refine va_calli (va_runV (As := []) (rest := []) ⟨hx, hb, hml, hown, hts⟩ (r_X12_nextValues l dC dI a k h0 (fT (fT (fT (fT (fT (fT (fT vi 0 0) 113 hay) 11 qky) 116 fxy) 5 cn2y) 6 rn2y) 7 gn2y) (fT vj 12 qdy) (fT (fT (fT (fT (fT (fT (fT (fT vF 70 f70x) 0 gy) 2 f2wy) 3 f3wy) 4 f4y) 5 f5y) 6 f6y) 69 f69y) (fT (fT (fT vG 1 gsy) 7 Fy) 8 L8y) vn gq (by first | with_reducible assumption | decide | omega | rfl | assumption) (by first | with_reducible assumption | decide | omega | rfl | assumption) (hM.val (VaO.box hM hva hvr)) (hva) H.size) (cwV 0 hts gwsRX12_solve_3 rfl rfl rfl hd_yX12_nextValues_RX12 (by decide +kernel)) (fz_pre (va_recv hK hP (ci := 12) (q0 := 0) rfl rfl) hP hK hD) rfl rfl hl.1 rfl (lv_room (Nat.le_of_ble_eq_true rfl)) dX12_solve_111 (by decide +kernel)) hS (fun q _ h => hFc q h) hFc (fun r111 f70111 t9_ H locs ht hvm hw9 hB9 hz1 hk1 hS => ?_)
              have hP : va_P (dC, dI) vwCl (WR a k h0 (fT (fT (fT (fT (fT (fT (fT vi 0 0) 113 hay) 11 qky) 116 fxy) 5 cn2y) 6 rn2y) 7 gn2y) (fT vj 12 qdy) (fT (fT (fT (fT (fT (fT (fT (fT (fT vF 70 f70x) 0 gy) 2 f2wy) 3 f3wy) 4 f4y) 5 f5y) 6 f6y) 69 f69y) 70 f70111) (fT (fT (fT vG 1 gsy) 7 Fy) 8 L8y)) H := fz_P ht hB9.1
              have hD : va_D A (WR a k h0 (fT (fT (fT (fT (fT (fT (fT vi 0 0) 113 hay) 11 qky) 116 fxy) 5 cn2y) 6 rn2y) 7 gn2y) (fT vj 12 qdy) (fT (fT (fT (fT (fT (fT (fT (fT (fT vF 70 f70x) 0 gy) 2 f2wy) 3 f3wy) 4 f4y) 5 f5y) 6 f6y) 69 f69y) 70 f70111) (fT (fT (fT vG 1 gsy) 7 Fy) 8 L8y)) := hB9.2.weaken (fun _ q _ h => hFc q.1 h)
              have e9 : fT (fT (fT (fT (fT (fT (fT (fT vF 70 f70111) 0 gy) 2 f2wy) 3 f3wy) 4 f4y) 5 f5y) 6 f6y) 69 f69y = fT (fT (fT (fT (fT (fT (fT (fT (fT vF 70 f70x) 0 gy) 2 f2wy) 3 f3wy) 4 f4y) 5 f5y) 6 f6y) 69 f69y) 70 f70111 := ((fT_sw _ _ _ (Nat.ne_of_beq_eq_false rfl)).trans (congrArg (fun g9 => fT g9 69 f69y) ((fT_sw _ _ _ (Nat.ne_of_beq_eq_false rfl)).trans (congrArg (fun g9 => fT g9 6 f6y) ((fT_sw _ _ _ (Nat.ne_of_beq_eq_false rfl)).trans (congrArg (fun g9 => fT g9 5 f5y) ((fT_sw _ _ _ (Nat.ne_of_beq_eq_false rfl)).trans (congrArg (fun g9 => fT g9 4 f4y) ((fT_sw _ _ _ (Nat.ne_of_beq_eq_false rfl)).trans (congrArg (fun g9 => fT g9 3 f3wy) ((fT_sw _ _ _ (Nat.ne_of_beq_eq_false rfl)).trans (congrArg (fun g9 => fT g9 2 f2wy) ((fT_sw _ _ _ (Nat.ne_of_beq_eq_false rfl)).trans (congrArg (fun g9 => fT g9 0 gy) (fT_sm _ _ _ _))))))))))))))).symm
              rw [← e9] at hP hD
              clear e9
              have hP : va_P (dC, dI) vwCl (WR a k h0 (fT (fT (fT (fT (fT (fT (fT vi 0 0) 113 hay) 11 qky) 116 fxy) 5 cn2y) 6 rn2y) 7 gn2y) (fT vj 12 qdy) (fT (fT (fT (fT (fT (fT (fT (fT vF 70 f70111) 0 gy) 2 f2wy) 3 f3wy) 4 f4y) 5 f5y) 6 f6y) 69 f69y) (fT (fT (fT vG 1 gsy) 7 Fy) 8 L8y)) H := hP
              have hD : va_D A (WR a k h0 (fT (fT (fT (fT (fT (fT (fT vi 0 0) 113 hay) 11 qky) 116 fxy) 5 cn2y) 6 rn2y) 7 gn2y) (fT vj 12 qdy) (fT (fT (fT (fT (fT (fT (fT (fT vF 70 f70111) 0 gy) 2 f2wy) 3 f3wy) 4 f4y) 5 f5y) 6 f6y) 69 f69y) (fT (fT (fT vG 1 gsy) 7 Fy) 8 L8y)) := hD
              rcases hw9 with ⟨rfl, f111_0, f111_1, f111_2⟩ | ⟨rfl, f111_0, f111_1⟩
              · have f111_0 : VaO (vF 56) (vF 57) (vF 58) f70111 vn := f111_0
                have f111_1 : ∀ q, vn ≤ q → f70111 q = f70x q := f111_1
                have f111_2 : odo (vD (vF 56) f70x) (vR (vF 56) (vF 57)) vn < odo (vD (vF 56) f70111) (vR (vF 56) (vF 57)) vn := f111_2
                refine lv_istore_n hx hb dX12_solve_114 rfl hl (by decide) rfl (fun ls (hl : lv_has ls _ ([(2, .int 1), (0, .ref h0), (3, .int wy)])) => ?_)
                refine lv_goto (tgt := 58) hx hb dX12_solve_115 (by decide) ?_
                have hl : lv_has _ _ ([(0, .ref h0), (2, .int 1)]) := lv_sub hl [1, 0] rfl
                exact ih58 1 hay f69y f70111 gy f2wy f3wy f4y f5y f6y gsy Fy L8y qdy qky fxy cn2y rn2y gn2y m3 _ _ _ (hB3) (f111_0) (fun q hq => (f111_1 q hq).trans (hvr q hq)) (hA2) (hA02) (hPp2) (hax2) (ho2) (by (have h8 := odo_lt (f := vD (vF 56) f70x) (b := vR (vF 56) (vF 57)) vn (fun q hq => hva.dg hq)); (have h9 := hfx.resolve_left (fun h => c_59 h.1)); (have h7 := f111_2); exact Or.inr (by omega)) hP hD hS hl
              · have f111_0 : VaO (vF 56) (vF 57) (vF 58) f70111 vn := f111_0
                have f111_1 : ∀ q, vn ≤ q → f70111 q = f70x q := f111_1
                refine lv_istore_n hx hb dX12_solve_114 rfl hl (by decide) rfl (fun ls (hl : lv_has ls _ ([(2, .int 0), (0, .ref h0), (3, .int wy)])) => ?_)
                refine lv_goto (tgt := 58) hx hb dX12_solve_115 (by decide) ?_
                have hl : lv_has _ _ ([(0, .ref h0), (2, .int 0)]) := lv_sub hl [1, 0] rfl
                exact ih58 0 hay f69y f70111 gy f2wy f3wy f4y f5y f6y gsy Fy L8y qdy qky fxy cn2y rn2y gn2y m3 _ _ _ (hB3) (f111_0) (fun q hq => (f111_1 q hq).trans (hvr q hq)) (hA2) (hA02) (hPp2) (hax2) (ho2) (by (have h8 := odo_lt (f := vD (vF 56) f70x) (b := vR (vF 56) (vF 57)) vn (fun q hq => hva.dg hq)); (have h9 := hfx.resolve_left (fun h => c_59 h.1)); exact Or.inl ⟨rfl, by omega⟩) hP hD hS hl
            · have t_72 : ¬ (wy).toInt = 0 := toI_neq c_72 rfl (by decide)
              refine lv_aload_n hx hb dX12_solve_75 rfl (lv_at hl 0 rfl) ?_
              refine lv_iconst (v := 0) hx hb dX12_solve_76 (by decide) ?_
              refine lv_iconst (v := 1) hx hb dX12_solve_77 (by decide) ?_
              have hFc := allFree hD hS hA
              refine va_calli (va_runV (As := [.int 0, .int 1]) (rest := []) ⟨hx, hb, hml, hown, hts⟩ (r_X12_solves l dC dI a k h0 (fT (fT (fT (fT (fT (fT (fT vi 0 0) 113 hay) 11 qky) 116 fxy) 5 cn2y) 6 rn2y) 7 gn2y) (fT vj 12 qdy) (fT (fT (fT (fT (fT (fT (fT (fT vF 70 f70x) 0 gy) 2 f2wy) 3 f3wy) 4 f4y) 5 f5y) 6 f6y) 69 f69y) (fT (fT (fT vG 1 gsy) 7 Fy) 8 L8y) 0 1 vn mr gq m3 hB3 (by first | with_reducible assumption | decide | omega | rfl | assumption) (by first | with_reducible assumption | decide | omega | rfl | assumption) (by first | with_reducible assumption | decide | omega | rfl | assumption) (by first | with_reducible assumption | decide | omega | rfl | assumption) (by first | with_reducible assumption | decide | omega | rfl | assumption) (by first | with_reducible assumption | decide | omega | rfl | assumption) (hM.val (VaO.box hM hva hvr)) (fun _ => hc1) (hA2) H.size) (cwV 2 hts gwsRX12_solve_4 rfl rfl rfl hd_yX12_solves_RX12 (by decide +kernel)) (fz_pre (va_recv hK hP (ci := 12) (q0 := 0) rfl rfl) hP hK hD) rfl rfl hl.1 rfl (lv_room (Nat.le_of_ble_eq_true rfl)) dX12_solve_78 (by decide +kernel)) hS (fun q _ h => hFc q h) hFc (fun r78 u t9_ H locs ht hvm hw9 hB9 hz1 hk1 hS => ?_)
              revert u
              refine fz_p15 ?_
              intro g78 f2w78 f3w78 f478 f578 f678 gs78 F78 L878 qd78 fx78 cn278 rn278 gn278 m278 hw9 hB9
              try dsimp only at hw9 hB9
              have hP : va_P (dC, dI) vwCl (WR a k h0 (fT (fT (fT (fT (fT (fT (fT (fT (fT (fT (fT (fT vi 0 0) 113 hay) 11 qky) 116 fxy) 5 cn2y) 6 rn2y) 7 gn2y) 116 fx78) 5 cn278) 6 rn278) 7 gn278) 11 0) (fT (fT vj 12 qdy) 12 qd78) (fT (fT (fT (fT (fT (fT (fT (fT (fT (fT (fT (fT (fT (fT vF 70 f70x) 0 gy) 2 f2wy) 3 f3wy) 4 f4y) 5 f5y) 6 f6y) 69 f69y) 0 g78) 4 f478) 6 f678) 5 f578) 2 f2w78) 3 f3w78) (fT (fT (fT (fT (fT (fT vG 1 gsy) 7 Fy) 8 L8y) 1 gs78) 7 F78) 8 L878)) H := fz_P ht hB9.1
              have hD : va_D A (WR a k h0 (fT (fT (fT (fT (fT (fT (fT (fT (fT (fT (fT (fT vi 0 0) 113 hay) 11 qky) 116 fxy) 5 cn2y) 6 rn2y) 7 gn2y) 116 fx78) 5 cn278) 6 rn278) 7 gn278) 11 0) (fT (fT vj 12 qdy) 12 qd78) (fT (fT (fT (fT (fT (fT (fT (fT (fT (fT (fT (fT (fT (fT vF 70 f70x) 0 gy) 2 f2wy) 3 f3wy) 4 f4y) 5 f5y) 6 f6y) 69 f69y) 0 g78) 4 f478) 6 f678) 5 f578) 2 f2w78) 3 f3w78) (fT (fT (fT (fT (fT (fT vG 1 gsy) 7 Fy) 8 L8y) 1 gs78) 7 F78) 8 L878)) := hB9.2.weaken (fun _ q _ h => hFc q.1 h)
              have e9 : fT (fT (fT (fT (fT (fT (fT vi 0 0) 113 hay) 11 0) 116 fx78) 5 cn278) 6 rn278) 7 gn278 = fT (fT (fT (fT (fT (fT (fT (fT (fT (fT (fT (fT vi 0 0) 113 hay) 11 qky) 116 fxy) 5 cn2y) 6 rn2y) 7 gn2y) 116 fx78) 5 cn278) 6 rn278) 7 gn278) 11 0 := ((congrArg (fun g9 => fT (fT (fT (fT g9 5 cn278) 6 rn278) 7 gn278) 11 0) ((fT_sw _ _ _ (Nat.ne_of_beq_eq_false rfl)).trans (congrArg (fun g9 => fT g9 7 gn2y) ((fT_sw _ _ _ (Nat.ne_of_beq_eq_false rfl)).trans (congrArg (fun g9 => fT g9 6 rn2y) ((fT_sw _ _ _ (Nat.ne_of_beq_eq_false rfl)).trans (congrArg (fun g9 => fT g9 5 cn2y) (fT_sm _ _ _ _)))))))).trans ((congrArg (fun g9 => fT (fT (fT g9 6 rn278) 7 gn278) 11 0) ((fT_sw _ _ _ (Nat.ne_of_beq_eq_false rfl)).trans (congrArg (fun g9 => fT g9 7 gn2y) ((fT_sw _ _ _ (Nat.ne_of_beq_eq_false rfl)).trans (congrArg (fun g9 => fT g9 6 rn2y) (fT_sm _ _ _ _)))))).trans ((congrArg (fun g9 => fT (fT g9 7 gn278) 11 0) ((fT_sw _ _ _ (Nat.ne_of_beq_eq_false rfl)).trans (congrArg (fun g9 => fT g9 7 gn2y) (fT_sm _ _ _ _)))).trans ((congrArg (fun g9 => fT g9 11 0) (fT_sm _ _ _ _)).trans ((fT_sw _ _ _ (Nat.ne_of_beq_eq_false rfl)).trans (congrArg (fun g9 => fT g9 7 gn278) ((fT_sw _ _ _ (Nat.ne_of_beq_eq_false rfl)).trans (congrArg (fun g9 => fT g9 6 rn278) ((fT_sw _ _ _ (Nat.ne_of_beq_eq_false rfl)).trans (congrArg (fun g9 => fT g9 5 cn278) ((fT_sw _ _ _ (Nat.ne_of_beq_eq_false rfl)).trans (congrArg (fun g9 => fT g9 116 fx78) (fT_sm _ _ _ _))))))))))))).symm
              rw [← e9] at hP hD
              clear e9
              have e9 : fT vj 12 qd78 = fT (fT vj 12 qdy) 12 qd78 := (fT_sm _ _ _ _).symm
              rw [← e9] at hP hD
              clear e9
              have e9 : fT (fT (fT (fT (fT (fT (fT (fT vF 70 f70x) 0 g78) 2 f2w78) 3 f3w78) 4 f478) 5 f578) 6 f678) 69 f69y = fT (fT (fT (fT (fT (fT (fT (fT (fT (fT (fT (fT (fT (fT vF 70 f70x) 0 gy) 2 f2wy) 3 f3wy) 4 f4y) 5 f5y) 6 f6y) 69 f69y) 0 g78) 4 f478) 6 f678) 5 f578) 2 f2w78) 3 f3w78 := ((congrArg (fun g9 => fT (fT (fT (fT (fT g9 4 f478) 6 f678) 5 f578) 2 f2w78) 3 f3w78) ((fT_sw _ _ _ (Nat.ne_of_beq_eq_false rfl)).trans (congrArg (fun g9 => fT g9 69 f69y) ((fT_sw _ _ _ (Nat.ne_of_beq_eq_false rfl)).trans (congrArg (fun g9 => fT g9 6 f6y) ((fT_sw _ _ _ (Nat.ne_of_beq_eq_false rfl)).trans (congrArg (fun g9 => fT g9 5 f5y) ((fT_sw _ _ _ (Nat.ne_of_beq_eq_false rfl)).trans (congrArg (fun g9 => fT g9 4 f4y) ((fT_sw _ _ _ (Nat.ne_of_beq_eq_false rfl)).trans (congrArg (fun g9 => fT g9 3 f3wy) ((fT_sw _ _ _ (Nat.ne_of_beq_eq_false rfl)).trans (congrArg (fun g9 => fT g9 2 f2wy) (fT_sm _ _ _ _)))))))))))))).trans ((congrArg (fun g9 => fT (fT (fT (fT g9 6 f678) 5 f578) 2 f2w78) 3 f3w78) ((fT_sw _ _ _ (Nat.ne_of_beq_eq_false rfl)).trans (congrArg (fun g9 => fT g9 69 f69y) ((fT_sw _ _ _ (Nat.ne_of_beq_eq_false rfl)).trans (congrArg (fun g9 => fT g9 6 f6y) ((fT_sw _ _ _ (Nat.ne_of_beq_eq_false rfl)).trans (congrArg (fun g9 => fT g9 5 f5y) (fT_sm _ _ _ _)))))))).trans ((congrArg (fun g9 => fT (fT (fT g9 5 f578) 2 f2w78) 3 f3w78) ((fT_sw _ _ _ (Nat.ne_of_beq_eq_false rfl)).trans (congrArg (fun g9 => fT g9 69 f69y) (fT_sm _ _ _ _)))).trans ((congrArg (fun g9 => fT (fT g9 2 f2w78) 3 f3w78) ((fT_sw _ _ _ (Nat.ne_of_beq_eq_false rfl)).trans (congrArg (fun g9 => fT g9 69 f69y) ((fT_sw _ _ _ (Nat.ne_of_beq_eq_false rfl)).trans (congrArg (fun g9 => fT g9 6 f678) (fT_sm _ _ _ _)))))).trans ((congrArg (fun g9 => fT g9 3 f3w78) ((fT_sw _ _ _ (Nat.ne_of_beq_eq_false rfl)).trans (congrArg (fun g9 => fT g9 69 f69y) ((fT_sw _ _ _ (Nat.ne_of_beq_eq_false rfl)).trans (congrArg (fun g9 => fT g9 6 f678) ((fT_sw _ _ _ (Nat.ne_of_beq_eq_false rfl)).trans (congrArg (fun g9 => fT g9 5 f578) ((fT_sw _ _ _ (Nat.ne_of_beq_eq_false rfl)).trans (congrArg (fun g9 => fT g9 4 f478) ((fT_sw _ _ _ (Nat.ne_of_beq_eq_false rfl)).trans (congrArg (fun g9 => fT g9 3 f3wy) (fT_sm _ _ _ _)))))))))))).trans ((fT_sw _ _ _ (Nat.ne_of_beq_eq_false rfl)).trans (congrArg (fun g9 => fT g9 69 f69y) ((fT_sw _ _ _ (Nat.ne_of_beq_eq_false rfl)).trans (congrArg (fun g9 => fT g9 6 f678) ((fT_sw _ _ _ (Nat.ne_of_beq_eq_false rfl)).trans (congrArg (fun g9 => fT g9 5 f578) ((fT_sw _ _ _ (Nat.ne_of_beq_eq_false rfl)).trans (congrArg (fun g9 => fT g9 4 f478) (fT_sm _ _ _ _)))))))))))))).symm
              rw [← e9] at hP hD
              clear e9
              have e9 : fT (fT (fT vG 1 gs78) 7 F78) 8 L878 = fT (fT (fT (fT (fT (fT vG 1 gsy) 7 Fy) 8 L8y) 1 gs78) 7 F78) 8 L878 := ((congrArg (fun g9 => fT (fT g9 7 F78) 8 L878) ((fT_sw _ _ _ (Nat.ne_of_beq_eq_false rfl)).trans (congrArg (fun g9 => fT g9 8 L8y) ((fT_sw _ _ _ (Nat.ne_of_beq_eq_false rfl)).trans (congrArg (fun g9 => fT g9 7 Fy) (fT_sm _ _ _ _)))))).trans ((congrArg (fun g9 => fT g9 8 L878) ((fT_sw _ _ _ (Nat.ne_of_beq_eq_false rfl)).trans (congrArg (fun g9 => fT g9 8 L8y) (fT_sm _ _ _ _)))).trans (fT_sm _ _ _ _))).symm
              rw [← e9] at hP hD
              clear e9
              have hP : va_P (dC, dI) vwCl (WR a k h0 (fT (fT (fT (fT (fT (fT (fT vi 0 0) 113 hay) 11 0) 116 fx78) 5 cn278) 6 rn278) 7 gn278) (fT vj 12 qd78) (fT (fT (fT (fT (fT (fT (fT (fT vF 70 f70x) 0 g78) 2 f2w78) 3 f3w78) 4 f478) 5 f578) 6 f678) 69 f69y) (fT (fT (fT vG 1 gs78) 7 F78) 8 L878)) H := hP
              have hD : va_D A (WR a k h0 (fT (fT (fT (fT (fT (fT (fT vi 0 0) 113 hay) 11 0) 116 fx78) 5 cn278) 6 rn278) 7 gn278) (fT vj 12 qd78) (fT (fT (fT (fT (fT (fT (fT (fT vF 70 f70x) 0 g78) 2 f2w78) 3 f3w78) 4 f478) 5 f578) 6 f678) 69 f69y) (fT (fT (fT vG 1 gs78) 7 F78) 8 L878)) := hD
              revert hw9
              refine fz_a5 ?_
              intro f78_0 f78_1 f78_2 f78_3 f78_4
              refine W.cut (pc := 102) (fun H locs ls stk => ∃ (haz : Int32) (g5 : Nat → Int32) (gs5 : Nat → Int64) (m5 : Nat → Int), (Bg g5 m5) ∧ (AnsB m5 1020) ∧ (AnsB m5 1000) ∧ (haz ≠ 0 → AnsP m5 1000 gq) ∧ (haz = 0 ∨ haz = 1) ∧ (∀ q, 1036 ≤ q → m5 q = mg q) ∧  stk = [] ∧ va_P (dC, dI) vwCl (WR a k h0 (fT (fT (fT (fT (fT (fT (fT vi 0 0) 113 haz) 11 0) 116 fx78) 5 cn278) 6 rn278) 7 gn278) (fT vj 12 qd78) (fT (fT (fT (fT (fT (fT (fT (fT vF 70 f70x) 0 g5) 2 f2w78) 3 f3w78) 4 f478) 5 f578) 6 f678) 69 f69y) (fT (fT (fT vG 1 gs5) 7 F78) 8 L878)) H ∧ va_D A (WR a k h0 (fT (fT (fT (fT (fT (fT (fT vi 0 0) 113 haz) 11 0) 116 fx78) 5 cn278) 6 rn278) 7 gn278) (fT vj 12 qd78) (fT (fT (fT (fT (fT (fT (fT (fT vF 70 f70x) 0 g5) 2 f2w78) 3 f3w78) 4 f478) 5 f578) 6 f678) 69 f69y) (fT (fT (fT vG 1 gs5) 7 F78) 8 L878)) ∧ va_S A s.heap H locs ∧ lv_has ls 4 [(0, .ref h0), (2, .int mo), (3, .int wy)]) (fun join1 => ?_) ?_
              · refine lv_if_eq (tgt := 102) hx hb dX12_solve_81 (by decide) (fun c_81 => ?_) (fun c_81 => ?_)
                · have t_81 : (r78).toInt = 0 := toI_eq c_81 rfl (by decide)
                  have hl : lv_has _ _ ([(0, .ref h0), (2, .int mo), (3, .int wy)]) := lv_sub hl [0, 1, 2] rfl
                  exact join1 _ _ _ _ ⟨hay, g78, gs78, m278, f78_0, f78_1, hA02.frame (fun p h1 h2 => by (rw [f78_2 _ (by omega)])), fun h9 => (hPp2 h9).frame hgq (fun p h1 h2 => by (rw [f78_2 _ (by omega)])), hax2, fun q hq => by (rw [f78_2 _ (by omega)]); exact ho2 q hq, rfl, hP, hD, hS, hl⟩
                · have t_81 : ¬ (r78).toInt = 0 := toI_neq c_81 rfl (by decide)
                  refine lv_aload_n hx hb dX12_solve_84 rfl (lv_at hl 0 rfl) ?_
                  refine va_get (D := (dC, dI)) (ci := 12) (v := .int hay) (C := RX12) (T := TX12) (N := 163) (fs := fM (vS a (fT (fT (fT (fT (fT (fT (fT vi 0 0) 113 hay) 11 0) 116 fx78) 5 cn278) 6 rn278) 7 gn278) (fT vj 12 qd78))) hx hb hts iwsRX12_solve_in12 hown hK hP 0 rfl rfl 113 (by decide) (hts (.fieldLink RX12 811 "OptimaWorksModel" "hasAnswer" "Z") (by decide +kernel)) (fun _ h9 => h9) rfl dX12_solve_85 ?_
                  refine W.cut (pc := 98) (fun H locs ls stk => ∃ (g4 : Nat → Int32) (gs4 : Nat → Int64) (m4 : Nat → Int), (Bg g4 m4) ∧ (AnsB m4 1020) ∧ (0 < m4 1028 ∧ ∀ g, g < gq → 0 < m4 (1033 + g)) ∧ (∀ q, 1036 ≤ q → m4 q = mg q) ∧  stk = [] ∧ va_P (dC, dI) vwCl (WR a k h0 (fT (fT (fT (fT (fT (fT (fT vi 0 0) 113 hay) 11 0) 116 fx78) 5 cn278) 6 rn278) 7 gn278) (fT vj 12 qd78) (fT (fT (fT (fT (fT (fT (fT (fT vF 70 f70x) 0 g4) 2 f2w78) 3 f3w78) 4 f478) 5 f578) 6 f678) 69 f69y) (fT (fT (fT vG 1 gs4) 7 F78) 8 L878)) H ∧ va_D A (WR a k h0 (fT (fT (fT (fT (fT (fT (fT vi 0 0) 113 hay) 11 0) 116 fx78) 5 cn278) 6 rn278) 7 gn278) (fT vj 12 qd78) (fT (fT (fT (fT (fT (fT (fT (fT vF 70 f70x) 0 g4) 2 f2w78) 3 f3w78) 4 f478) 5 f578) 6 f678) 69 f69y) (fT (fT (fT vG 1 gs4) 7 F78) 8 L878)) ∧ va_S A s.heap H locs ∧ lv_has ls 4 [(0, .ref h0), (2, .int mo), (3, .int wy)]) (fun join2 => ?_) ?_
                  · refine lv_if_eq (tgt := 98) hx hb dX12_solve_88 (by decide) (fun c_88 => ?_) (fun c_88 => ?_)
                    · have t_88 : (hay).toInt = 0 := toI_eq c_88 rfl (by decide)
                      have hl : lv_has _ _ ([(0, .ref h0), (2, .int mo), (3, .int wy)]) := lv_sub hl [0, 1, 2] rfl
                      exact join2 _ _ _ _ ⟨g78, gs78, m278, f78_0, f78_1, (f78_4.resolve_left c_81).resolve_left (by decide), fun q hq => by (rw [f78_2 _ (by omega)]); exact ho2 q hq, rfl, hP, hD, hS, hl⟩
                    · have t_88 : ¬ (hay).toInt = 0 := toI_neq c_88 rfl (by decide)
                      refine lv_aload_n hx hb dX12_solve_91 rfl (lv_at hl 0 rfl) ?_
                      have hFc := allFree hD hS hA
                      refine va_calli (va_runV (As := []) (rest := []) ⟨hx, hb, hml, hown, hts⟩ (r_X12_isBetter l dC dI a k h0 (fT (fT (fT (fT (fT (fT (fT vi 0 0) 113 hay) 11 0) 116 fx78) 5 cn278) 6 rn278) 7 gn278) (fT vj 12 qd78) (fT (fT (fT (fT (fT (fT (fT (fT vF 70 f70x) 0 g78) 2 f2w78) 3 f3w78) 4 f478) 5 f578) 6 f678) 69 f69y) (fT (fT (fT vG 1 gs78) 7 F78) 8 L878) vn gq m278 f78_0 (by first | with_reducible assumption | decide | omega | rfl | assumption) (by first | with_reducible assumption | decide | omega | rfl | assumption) (by first | with_reducible assumption | decide | omega | rfl | assumption) (by first | with_reducible assumption | decide | omega | rfl | assumption) (f78_1) (hA02.frame (fun p h1 h2 => by (rw [f78_2 _ (by omega)]))) H.size) (cwV 0 hts gwsRX12_solve_5 rfl rfl rfl hd_yX12_isBetter_RX12 (by decide +kernel)) (fz_pre (va_recv hK hP (ci := 12) (q0 := 0) rfl rfl) hP hK hD) rfl rfl hl.1 rfl (lv_room (Nat.le_of_ble_eq_true rfl)) dX12_solve_92 (by decide +kernel)) hS (fun q _ h => hFc q h) hFc (fun r92 u t9_ H locs ht hvm hw9 hB9 hz1 hk1 hS => ?_)
                      revert u
                      refine fz_p3 ?_
                      intro g92 gs92 m292 hw9 hB9
                      try dsimp only at hw9 hB9
                      have hP : va_P (dC, dI) vwCl (WR a k h0 (fT (fT (fT (fT (fT (fT (fT vi 0 0) 113 hay) 11 0) 116 fx78) 5 cn278) 6 rn278) 7 gn278) (fT vj 12 qd78) (fT (fT (fT (fT (fT (fT (fT (fT (fT vF 70 f70x) 0 g78) 2 f2w78) 3 f3w78) 4 f478) 5 f578) 6 f678) 69 f69y) 0 g92) (fT (fT (fT (fT vG 1 gs78) 7 F78) 8 L878) 1 gs92)) H := fz_P ht hB9.1
                      have hD : va_D A (WR a k h0 (fT (fT (fT (fT (fT (fT (fT vi 0 0) 113 hay) 11 0) 116 fx78) 5 cn278) 6 rn278) 7 gn278) (fT vj 12 qd78) (fT (fT (fT (fT (fT (fT (fT (fT (fT vF 70 f70x) 0 g78) 2 f2w78) 3 f3w78) 4 f478) 5 f578) 6 f678) 69 f69y) 0 g92) (fT (fT (fT (fT vG 1 gs78) 7 F78) 8 L878) 1 gs92)) := hB9.2.weaken (fun _ q _ h => hFc q.1 h)
                      have e9 : fT (fT (fT (fT (fT (fT (fT (fT vF 70 f70x) 0 g92) 2 f2w78) 3 f3w78) 4 f478) 5 f578) 6 f678) 69 f69y = fT (fT (fT (fT (fT (fT (fT (fT (fT vF 70 f70x) 0 g78) 2 f2w78) 3 f3w78) 4 f478) 5 f578) 6 f678) 69 f69y) 0 g92 := ((fT_sw _ _ _ (Nat.ne_of_beq_eq_false rfl)).trans (congrArg (fun g9 => fT g9 69 f69y) ((fT_sw _ _ _ (Nat.ne_of_beq_eq_false rfl)).trans (congrArg (fun g9 => fT g9 6 f678) ((fT_sw _ _ _ (Nat.ne_of_beq_eq_false rfl)).trans (congrArg (fun g9 => fT g9 5 f578) ((fT_sw _ _ _ (Nat.ne_of_beq_eq_false rfl)).trans (congrArg (fun g9 => fT g9 4 f478) ((fT_sw _ _ _ (Nat.ne_of_beq_eq_false rfl)).trans (congrArg (fun g9 => fT g9 3 f3w78) ((fT_sw _ _ _ (Nat.ne_of_beq_eq_false rfl)).trans (congrArg (fun g9 => fT g9 2 f2w78) (fT_sm _ _ _ _))))))))))))).symm
                      rw [← e9] at hP hD
                      clear e9
                      have e9 : fT (fT (fT vG 1 gs92) 7 F78) 8 L878 = fT (fT (fT (fT vG 1 gs78) 7 F78) 8 L878) 1 gs92 := ((fT_sw _ _ _ (Nat.ne_of_beq_eq_false rfl)).trans (congrArg (fun g9 => fT g9 8 L878) ((fT_sw _ _ _ (Nat.ne_of_beq_eq_false rfl)).trans (congrArg (fun g9 => fT g9 7 F78) (fT_sm _ _ _ _))))).symm
                      rw [← e9] at hP hD
                      clear e9
                      have hP : va_P (dC, dI) vwCl (WR a k h0 (fT (fT (fT (fT (fT (fT (fT vi 0 0) 113 hay) 11 0) 116 fx78) 5 cn278) 6 rn278) 7 gn278) (fT vj 12 qd78) (fT (fT (fT (fT (fT (fT (fT (fT vF 70 f70x) 0 g92) 2 f2w78) 3 f3w78) 4 f478) 5 f578) 6 f678) 69 f69y) (fT (fT (fT vG 1 gs92) 7 F78) 8 L878)) H := hP
                      have hD : va_D A (WR a k h0 (fT (fT (fT (fT (fT (fT (fT vi 0 0) 113 hay) 11 0) 116 fx78) 5 cn278) 6 rn278) 7 gn278) (fT vj 12 qd78) (fT (fT (fT (fT (fT (fT (fT (fT vF 70 f70x) 0 g92) 2 f2w78) 3 f3w78) 4 f478) 5 f578) 6 f678) 69 f69y) (fT (fT (fT vG 1 gs92) 7 F78) 8 L878)) := hD
                      revert hw9
                      refine fz_a3 ?_
                      intro f92_0 f92_1 f92_2
                      refine lv_if_eq (tgt := 102) hx hb dX12_solve_95 (by decide) (fun c_95 => ?_) (fun c_95 => ?_)
                      · have t_95 : (r92).toInt = 0 := toI_eq c_95 rfl (by decide)
                        have hl : lv_has _ _ ([(0, .ref h0), (2, .int mo), (3, .int wy)]) := lv_sub hl [0, 1, 2] rfl
                        exact join1 _ _ _ _ ⟨hay, g92, gs92, m292, f92_0, (f78_1).frame (fun p h1 h2 => f92_1 p (by omega)), hA02.frame (fun p h1 h2 => by (rw [f92_1 _ (by omega), f78_2 _ (by omega)])), fun h9 => (hPp2 h9).frame hgq (fun p h1 h2 => by (rw [f92_1 _ (by omega), f78_2 _ (by omega)])), hax2, fun q hq => by (rw [f92_1 _ (by omega), f78_2 _ (by omega)]); exact ho2 q hq, rfl, hP, hD, hS, hl⟩
                      · have t_95 : ¬ (r92).toInt = 0 := toI_neq c_95 rfl (by decide)
                        have hl : lv_has _ _ ([(0, .ref h0), (2, .int mo), (3, .int wy)]) := lv_sub hl [0, 1, 2] rfl
                        exact join2 _ _ _ _ ⟨g92, gs92, m292, f92_0, (f78_1).frame (fun p h1 h2 => f92_1 p (by omega)), by (have q9 := (f78_4.resolve_left c_81).resolve_left (by decide)); exact ⟨by rw [f92_1 _ (by omega)]; exact q9.1, fun g hg => by rw [f92_1 _ (by omega)]; exact q9.2 g hg⟩, fun q hq => by (rw [f92_1 _ (by omega), f78_2 _ (by omega)]); exact ho2 q hq, rfl, hP, hD, hS, hl⟩
                  · rintro H locs ls stk ⟨g4, gs4, m4, hB4, hA4, hP4, ho4, rfl, hP, hD, hS, hl⟩
                    refine lv_aload_n hx hb dX12_solve_98 rfl (lv_at hl 0 rfl) ?_
                    have hFc := allFree hD hS hA
                    refine va_callv (va_runV (As := []) (rest := []) ⟨hx, hb, hml, hown, hts⟩ (r_X12_take l dC dI a k h0 (fT (fT (fT (fT (fT (fT (fT vi 0 0) 113 hay) 11 0) 116 fx78) 5 cn278) 6 rn278) 7 gn278) (fT vj 12 qd78) (fT (fT (fT (fT (fT (fT (fT (fT vF 70 f70x) 0 g4) 2 f2w78) 3 f3w78) 4 f478) 5 f578) 6 f678) 69 f69y) (fT (fT (fT vG 1 gs4) 7 F78) 8 L878) m4 hB4 H.size) (cwV 0 hts gwsRX12_solve_6 rfl rfl rfl hd_yX12_take_RX12 (by decide +kernel)) (fz_pre (va_recv hK hP (ci := 12) (q0 := 0) rfl rfl) hP hK hD) rfl rfl hl.1 rfl (lv_room (Nat.le_of_ble_eq_true rfl)) dX12_solve_99 (by decide +kernel)) hS (fun q _ h => hFc q h) hFc (fun u t9_ H locs ht hvm hw9 hB9 hz1 hk1 hS => ?_)
                    revert u
                    refine fz_p2 ?_
                    intro g99 m299 hw9 hB9
                    try dsimp only at hw9 hB9
                    have hP : va_P (dC, dI) vwCl (WR a k h0 (fT (fT (fT (fT (fT (fT (fT (fT vi 0 0) 113 hay) 11 0) 116 fx78) 5 cn278) 6 rn278) 7 gn278) 113 1) (fT vj 12 qd78) (fT (fT (fT (fT (fT (fT (fT (fT (fT vF 70 f70x) 0 g4) 2 f2w78) 3 f3w78) 4 f478) 5 f578) 6 f678) 69 f69y) 0 g99) (fT (fT (fT vG 1 gs4) 7 F78) 8 L878)) H := fz_P ht hB9.1
                    have hD : va_D A (WR a k h0 (fT (fT (fT (fT (fT (fT (fT (fT vi 0 0) 113 hay) 11 0) 116 fx78) 5 cn278) 6 rn278) 7 gn278) 113 1) (fT vj 12 qd78) (fT (fT (fT (fT (fT (fT (fT (fT (fT vF 70 f70x) 0 g4) 2 f2w78) 3 f3w78) 4 f478) 5 f578) 6 f678) 69 f69y) 0 g99) (fT (fT (fT vG 1 gs4) 7 F78) 8 L878)) := hB9.2.weaken (fun _ q _ h => hFc q.1 h)
                    have e9 : fT (fT (fT (fT (fT (fT (fT vi 0 0) 113 1) 11 0) 116 fx78) 5 cn278) 6 rn278) 7 gn278 = fT (fT (fT (fT (fT (fT (fT (fT vi 0 0) 113 hay) 11 0) 116 fx78) 5 cn278) 6 rn278) 7 gn278) 113 1 := ((fT_sw _ _ _ (Nat.ne_of_beq_eq_false rfl)).trans (congrArg (fun g9 => fT g9 7 gn278) ((fT_sw _ _ _ (Nat.ne_of_beq_eq_false rfl)).trans (congrArg (fun g9 => fT g9 6 rn278) ((fT_sw _ _ _ (Nat.ne_of_beq_eq_false rfl)).trans (congrArg (fun g9 => fT g9 5 cn278) ((fT_sw _ _ _ (Nat.ne_of_beq_eq_false rfl)).trans (congrArg (fun g9 => fT g9 116 fx78) ((fT_sw _ _ _ (Nat.ne_of_beq_eq_false rfl)).trans (congrArg (fun g9 => fT g9 11 0) (fT_sm _ _ _ _))))))))))).symm
                    rw [← e9] at hP hD
                    clear e9
                    have e9 : fT (fT (fT (fT (fT (fT (fT (fT vF 70 f70x) 0 g99) 2 f2w78) 3 f3w78) 4 f478) 5 f578) 6 f678) 69 f69y = fT (fT (fT (fT (fT (fT (fT (fT (fT vF 70 f70x) 0 g4) 2 f2w78) 3 f3w78) 4 f478) 5 f578) 6 f678) 69 f69y) 0 g99 := ((fT_sw _ _ _ (Nat.ne_of_beq_eq_false rfl)).trans (congrArg (fun g9 => fT g9 69 f69y) ((fT_sw _ _ _ (Nat.ne_of_beq_eq_false rfl)).trans (congrArg (fun g9 => fT g9 6 f678) ((fT_sw _ _ _ (Nat.ne_of_beq_eq_false rfl)).trans (congrArg (fun g9 => fT g9 5 f578) ((fT_sw _ _ _ (Nat.ne_of_beq_eq_false rfl)).trans (congrArg (fun g9 => fT g9 4 f478) ((fT_sw _ _ _ (Nat.ne_of_beq_eq_false rfl)).trans (congrArg (fun g9 => fT g9 3 f3w78) ((fT_sw _ _ _ (Nat.ne_of_beq_eq_false rfl)).trans (congrArg (fun g9 => fT g9 2 f2w78) (fT_sm _ _ _ _))))))))))))).symm
                    rw [← e9] at hP hD
                    clear e9
                    have hP : va_P (dC, dI) vwCl (WR a k h0 (fT (fT (fT (fT (fT (fT (fT vi 0 0) 113 1) 11 0) 116 fx78) 5 cn278) 6 rn278) 7 gn278) (fT vj 12 qd78) (fT (fT (fT (fT (fT (fT (fT (fT vF 70 f70x) 0 g99) 2 f2w78) 3 f3w78) 4 f478) 5 f578) 6 f678) 69 f69y) (fT (fT (fT vG 1 gs4) 7 F78) 8 L878)) H := hP
                    have hD : va_D A (WR a k h0 (fT (fT (fT (fT (fT (fT (fT vi 0 0) 113 1) 11 0) 116 fx78) 5 cn278) 6 rn278) 7 gn278) (fT vj 12 qd78) (fT (fT (fT (fT (fT (fT (fT (fT vF 70 f70x) 0 g99) 2 f2w78) 3 f3w78) 4 f478) 5 f578) 6 f678) 69 f69y) (fT (fT (fT vG 1 gs4) 7 F78) 8 L878)) := hD
                    revert hw9
                    refine fz_a3 ?_
                    intro f99_0 f99_1 f99_2
                    have hl : lv_has _ _ ([(0, .ref h0), (2, .int mo), (3, .int wy)]) := lv_sub hl [0, 1, 2] rfl
                    exact join1 _ _ _ _ ⟨1, g99, gs4, m299, f99_0, hA4.frame (fun p h1 h2 => f99_2 p (by omega)), AnsB.taken hA4 f99_1, fun _ => AnsP.taken hP4 hgq f99_1, Or.inr rfl, fun q hq => by (rw [f99_2 _ (by omega)]); exact ho4 q hq, rfl, hP, hD, hS, hl⟩
              · rintro H locs ls stk ⟨haz, g5, gs5, m5, hB5, hA3, hA03, hPp3, hax3, ho3, rfl, hP, hD, hS, hl⟩
                refine lv_aload_n hx hb dX12_solve_102 rfl (lv_at hl 0 rfl) ?_
                have hFc := allFree hD hS hA
                refine va_calli (va_runV (As := []) (rest := []) ⟨hx, hb, hml, hown, hts⟩ (r_X12_nextWays l dC dI a k h0 (fT (fT (fT (fT (fT (fT (fT vi 0 0) 113 haz) 11 0) 116 fx78) 5 cn278) 6 rn278) 7 gn278) (fT vj 12 qd78) (fT (fT (fT (fT (fT (fT (fT (fT vF 70 f70x) 0 g5) 2 f2w78) 3 f3w78) 4 f478) 5 f578) 6 f678) 69 f69y) (fT (fT (fT vG 1 gs5) 7 F78) 8 L878) mr (by first | with_reducible assumption | decide | omega | rfl | assumption) (by first | with_reducible assumption | decide | omega | rfl | assumption) (hc1) H.size) (cwV 0 hts gwsRX12_solve_7 rfl rfl rfl hd_yX12_nextWays_RX12 (by decide +kernel)) (fz_pre (va_recv hK hP (ci := 12) (q0 := 0) rfl rfl) hP hK hD) rfl rfl hl.1 rfl (lv_room (Nat.le_of_ble_eq_true rfl)) dX12_solve_103 (by decide +kernel)) hS (fun q _ h => hFc q h) hFc (fun r103 f69103 t9_ H locs ht hvm hw9 hB9 hz1 hk1 hS => ?_)
                have hP : va_P (dC, dI) vwCl (WR a k h0 (fT (fT (fT (fT (fT (fT (fT vi 0 0) 113 haz) 11 0) 116 fx78) 5 cn278) 6 rn278) 7 gn278) (fT vj 12 qd78) (fT (fT (fT (fT (fT (fT (fT (fT (fT vF 70 f70x) 0 g5) 2 f2w78) 3 f3w78) 4 f478) 5 f578) 6 f678) 69 f69y) 69 f69103) (fT (fT (fT vG 1 gs5) 7 F78) 8 L878)) H := fz_P ht hB9.1
                have hD : va_D A (WR a k h0 (fT (fT (fT (fT (fT (fT (fT vi 0 0) 113 haz) 11 0) 116 fx78) 5 cn278) 6 rn278) 7 gn278) (fT vj 12 qd78) (fT (fT (fT (fT (fT (fT (fT (fT (fT vF 70 f70x) 0 g5) 2 f2w78) 3 f3w78) 4 f478) 5 f578) 6 f678) 69 f69y) 69 f69103) (fT (fT (fT vG 1 gs5) 7 F78) 8 L878)) := hB9.2.weaken (fun _ q _ h => hFc q.1 h)
                have e9 : fT (fT (fT (fT (fT (fT (fT (fT vF 70 f70x) 0 g5) 2 f2w78) 3 f3w78) 4 f478) 5 f578) 6 f678) 69 f69103 = fT (fT (fT (fT (fT (fT (fT (fT (fT vF 70 f70x) 0 g5) 2 f2w78) 3 f3w78) 4 f478) 5 f578) 6 f678) 69 f69y) 69 f69103 := (fT_sm _ _ _ _).symm
                rw [← e9] at hP hD
                clear e9
                have hP : va_P (dC, dI) vwCl (WR a k h0 (fT (fT (fT (fT (fT (fT (fT vi 0 0) 113 haz) 11 0) 116 fx78) 5 cn278) 6 rn278) 7 gn278) (fT vj 12 qd78) (fT (fT (fT (fT (fT (fT (fT (fT vF 70 f70x) 0 g5) 2 f2w78) 3 f3w78) 4 f478) 5 f578) 6 f678) 69 f69103) (fT (fT (fT vG 1 gs5) 7 F78) 8 L878)) H := hP
                have hD : va_D A (WR a k h0 (fT (fT (fT (fT (fT (fT (fT vi 0 0) 113 haz) 11 0) 116 fx78) 5 cn278) 6 rn278) 7 gn278) (fT vj 12 qd78) (fT (fT (fT (fT (fT (fT (fT (fT vF 70 f70x) 0 g5) 2 f2w78) 3 f3w78) 4 f478) 5 f578) 6 f678) 69 f69103) (fT (fT (fT vG 1 gs5) 7 F78) 8 L878)) := hD
                rcases hw9 with ⟨rfl, f103_0, f103_1⟩ | ⟨rfl, f103_0⟩
                · have f103_0 : ChO (vF 59) f69103 mr := f103_0
                  have f103_1 : odo (cD f69y) (cD (vF 59)) mr < odo (cD f69103) (cD (vF 59)) mr := f103_1
                  refine lv_istore_n hx hb dX12_solve_106 rfl hl (by decide) rfl (fun ls (hl : lv_has ls _ ([(3, .int 1), (0, .ref h0), (2, .int mo)])) => ?_)
                  refine lv_goto (tgt := 71) hx hb dX12_solve_107 (by decide) ?_
                  have hl : lv_has _ _ ([(0, .ref h0), (2, .int mo), (3, .int 1)]) := lv_sub hl [1, 2, 0] rfl
                  exact ih71_1 1 haz f69103 g5 f2w78 f3w78 f478 f578 f678 gs5 F78 L878 qd78 0 fx78 cn278 rn278 gn278 m5 _ _ _ (hB5) (f103_0) (hA3) (hA03) (hPp3) (hax3) (ho3) (by (have h8 := odo_lt (f := cD f69y) (b := cD (vF 59)) mr (fun q hq => hc1.dg hq)); (have h9 := hfy.resolve_left (fun h => c_72 h.1)); (have h7 := f103_1); exact Or.inr (by omega)) hP hD hS hl
                · have f103_0 : ChO (vF 59) f69103 mr := f103_0
                  refine lv_istore_n hx hb dX12_solve_106 rfl hl (by decide) rfl (fun ls (hl : lv_has ls _ ([(3, .int 0), (0, .ref h0), (2, .int mo)])) => ?_)
                  refine lv_goto (tgt := 71) hx hb dX12_solve_107 (by decide) ?_
                  have hl : lv_has _ _ ([(0, .ref h0), (2, .int mo), (3, .int 0)]) := lv_sub hl [1, 2, 0] rfl
                  exact ih71_1 0 haz f69103 g5 f2w78 f3w78 f478 f578 f678 gs5 F78 L878 qd78 0 fx78 cn278 rn278 gn278 m5 _ _ _ (hB5) (f103_0) (hA3) (hA03) (hPp3) (hax3) (ho3) (by (have h8 := odo_lt (f := cD f69y) (b := cD (vF 59)) mr (fun q hq => hc1.dg hq)); (have h9 := hfy.resolve_left (fun h => c_72 h.1)); exact Or.inl ⟨rfl, by omega⟩) hP hD hS hl
    · have t_31 : ¬ (rl).toInt = 0 := toI_neq c_31 rfl (by decide)
      refine lv_aload_n hx hb dX12_solve_34 rfl (lv_at hl 0 rfl) ?_
      refine lv_iconst (v := 1) hx hb dX12_solve_35 (by decide) ?_
      refine lv_iconst (v := 1) hx hb dX12_solve_36 (by decide) ?_
      have hFc := allFree hD hS hA
      refine va_calli (va_runV (As := [.int 1, .int 1]) (rest := []) ⟨hx, hb, hml, hown, hts⟩ (r_X12_solves l dC dI a k h0 (fT (fT vi 0 0) 113 0) vj vF vG 1 1 vn mr gq mg hBg (by first | with_reducible assumption | decide | omega | rfl | assumption) (by first | with_reducible assumption | decide | omega | rfl | assumption) (by first | with_reducible assumption | decide | omega | rfl | assumption) (by first | with_reducible assumption | decide | omega | rfl | assumption) (by first | with_reducible assumption | decide | omega | rfl | assumption) (by first | with_reducible assumption | decide | omega | rfl | assumption) (by first | with_reducible assumption | decide | omega | rfl | assumption) (fun h9 => absurd h9 (by decide)) (by first | with_reducible assumption | decide | omega | rfl | assumption) H.size) (cwV 2 hts gwsRX12_solve_4 rfl rfl rfl hd_yX12_solves_RX12 (by decide +kernel)) (fz_pre (va_recv hK hP (ci := 12) (q0 := 0) rfl rfl) hP hK hD) rfl rfl hl.1 rfl (lv_room (Nat.le_of_ble_eq_true rfl)) dX12_solve_37 (by decide +kernel)) hS (fun q _ h => hFc q h) hFc (fun r37 u t9_ H locs ht hvm hw9 hB9 hz1 hk1 hS => ?_)
      revert u
      refine fz_p15 ?_
      intro g37 f2w37 f3w37 f437 f537 f637 gs37 F37 L837 qd37 fx37 cn237 rn237 gn237 m237 hw9 hB9
      try dsimp only at hw9 hB9
      have hP : va_P (dC, dI) vwCl (WR a k h0 (fT (fT (fT (fT (fT (fT (fT vi 0 0) 113 0) 116 fx37) 5 cn237) 6 rn237) 7 gn237) 11 0) (fT vj 12 qd37) (fT (fT (fT (fT (fT (fT vF 0 g37) 4 f437) 6 f637) 5 f537) 2 f2w37) 3 f3w37) (fT (fT (fT vG 1 gs37) 7 F37) 8 L837)) H := fz_P ht hB9.1
      have hD : va_D A (WR a k h0 (fT (fT (fT (fT (fT (fT (fT vi 0 0) 113 0) 116 fx37) 5 cn237) 6 rn237) 7 gn237) 11 0) (fT vj 12 qd37) (fT (fT (fT (fT (fT (fT vF 0 g37) 4 f437) 6 f637) 5 f537) 2 f2w37) 3 f3w37) (fT (fT (fT vG 1 gs37) 7 F37) 8 L837)) := hB9.2.weaken (fun _ q _ h => hFc q.1 h)
      revert hw9
      refine fz_a5 ?_
      intro f37_0 f37_1 f37_2 f37_3 f37_4
      refine W.cut (pc := 47) (fun H locs ls stk => ∃ (haz : Int32) (g5 : Nat → Int32) (m5 : Nat → Int), (Bg g5 m5) ∧ (AnsB m5 1020) ∧ (AnsB m5 1000) ∧ (haz ≠ 0 → AnsP m5 1000 gq) ∧ (haz = 0 ∨ haz = 1) ∧ (∀ q, 1036 ≤ q → m5 q = mg q) ∧  stk = [] ∧ va_P (dC, dI) vwCl (WR a k h0 (fT (fT (fT (fT (fT (fT (fT vi 0 0) 113 haz) 116 fx37) 5 cn237) 6 rn237) 7 gn237) 11 0) (fT vj 12 qd37) (fT (fT (fT (fT (fT (fT vF 0 g5) 4 f437) 6 f637) 5 f537) 2 f2w37) 3 f3w37) (fT (fT (fT vG 1 gs37) 7 F37) 8 L837)) H ∧ va_D A (WR a k h0 (fT (fT (fT (fT (fT (fT (fT vi 0 0) 113 haz) 116 fx37) 5 cn237) 6 rn237) 7 gn237) 11 0) (fT vj 12 qd37) (fT (fT (fT (fT (fT (fT vF 0 g5) 4 f437) 6 f637) 5 f537) 2 f2w37) 3 f3w37) (fT (fT (fT vG 1 gs37) 7 F37) 8 L837)) ∧ va_S A s.heap H locs ∧ lv_has ls 4 [(0, .ref h0)]) (fun join3 => ?_) ?_
      · refine lv_if_eq (tgt := 47) hx hb dX12_solve_40 (by decide) (fun c_40 => ?_) (fun c_40 => ?_)
        · have t_40 : (r37).toInt = 0 := toI_eq c_40 rfl (by decide)
          have hl : lv_has _ _ ([(0, .ref h0)]) := lv_sub hl [0] rfl
          exact join3 _ _ _ _ ⟨0, g37, m237, f37_0, f37_1, hAb.frame (fun p h1 h2 => by (rw [f37_2 _ (by omega)])), fun h9 => absurd rfl h9, Or.inl rfl, fun q hq => by (rw [f37_2 _ (by omega)]), rfl, hP, hD, hS, hl⟩
        · have t_40 : ¬ (r37).toInt = 0 := toI_neq c_40 rfl (by decide)
          refine lv_aload_n hx hb dX12_solve_43 rfl (lv_at hl 0 rfl) ?_
          have hFc := allFree hD hS hA
          refine va_callv (va_runV (As := []) (rest := []) ⟨hx, hb, hml, hown, hts⟩ (r_X12_take l dC dI a k h0 (fT (fT (fT (fT (fT (fT (fT vi 0 0) 113 0) 116 fx37) 5 cn237) 6 rn237) 7 gn237) 11 0) (fT vj 12 qd37) (fT (fT (fT (fT (fT (fT vF 0 g37) 4 f437) 6 f637) 5 f537) 2 f2w37) 3 f3w37) (fT (fT (fT vG 1 gs37) 7 F37) 8 L837) m237 f37_0 H.size) (cwV 0 hts gwsRX12_solve_6 rfl rfl rfl hd_yX12_take_RX12 (by decide +kernel)) (fz_pre (va_recv hK hP (ci := 12) (q0 := 0) rfl rfl) hP hK hD) rfl rfl hl.1 rfl (lv_room (Nat.le_of_ble_eq_true rfl)) dX12_solve_44 (by decide +kernel)) hS (fun q _ h => hFc q h) hFc (fun u t9_ H locs ht hvm hw9 hB9 hz1 hk1 hS => ?_)
          revert u
          refine fz_p2 ?_
          intro g44 m244 hw9 hB9
          try dsimp only at hw9 hB9
          have hP : va_P (dC, dI) vwCl (WR a k h0 (fT (fT (fT (fT (fT (fT (fT (fT vi 0 0) 113 0) 116 fx37) 5 cn237) 6 rn237) 7 gn237) 11 0) 113 1) (fT vj 12 qd37) (fT (fT (fT (fT (fT (fT (fT vF 0 g37) 4 f437) 6 f637) 5 f537) 2 f2w37) 3 f3w37) 0 g44) (fT (fT (fT vG 1 gs37) 7 F37) 8 L837)) H := fz_P ht hB9.1
          have hD : va_D A (WR a k h0 (fT (fT (fT (fT (fT (fT (fT (fT vi 0 0) 113 0) 116 fx37) 5 cn237) 6 rn237) 7 gn237) 11 0) 113 1) (fT vj 12 qd37) (fT (fT (fT (fT (fT (fT (fT vF 0 g37) 4 f437) 6 f637) 5 f537) 2 f2w37) 3 f3w37) 0 g44) (fT (fT (fT vG 1 gs37) 7 F37) 8 L837)) := hB9.2.weaken (fun _ q _ h => hFc q.1 h)
          have e9 : fT (fT (fT (fT (fT (fT (fT vi 0 0) 113 1) 116 fx37) 5 cn237) 6 rn237) 7 gn237) 11 0 = fT (fT (fT (fT (fT (fT (fT (fT vi 0 0) 113 0) 116 fx37) 5 cn237) 6 rn237) 7 gn237) 11 0) 113 1 := ((fT_sw _ _ _ (Nat.ne_of_beq_eq_false rfl)).trans (congrArg (fun g9 => fT g9 11 0) ((fT_sw _ _ _ (Nat.ne_of_beq_eq_false rfl)).trans (congrArg (fun g9 => fT g9 7 gn237) ((fT_sw _ _ _ (Nat.ne_of_beq_eq_false rfl)).trans (congrArg (fun g9 => fT g9 6 rn237) ((fT_sw _ _ _ (Nat.ne_of_beq_eq_false rfl)).trans (congrArg (fun g9 => fT g9 5 cn237) ((fT_sw _ _ _ (Nat.ne_of_beq_eq_false rfl)).trans (congrArg (fun g9 => fT g9 116 fx37) (fT_sm _ _ _ _))))))))))).symm
          rw [← e9] at hP hD
          clear e9
          have e9 : fT (fT (fT (fT (fT (fT vF 0 g44) 4 f437) 6 f637) 5 f537) 2 f2w37) 3 f3w37 = fT (fT (fT (fT (fT (fT (fT vF 0 g37) 4 f437) 6 f637) 5 f537) 2 f2w37) 3 f3w37) 0 g44 := ((fT_sw _ _ _ (Nat.ne_of_beq_eq_false rfl)).trans (congrArg (fun g9 => fT g9 3 f3w37) ((fT_sw _ _ _ (Nat.ne_of_beq_eq_false rfl)).trans (congrArg (fun g9 => fT g9 2 f2w37) ((fT_sw _ _ _ (Nat.ne_of_beq_eq_false rfl)).trans (congrArg (fun g9 => fT g9 5 f537) ((fT_sw _ _ _ (Nat.ne_of_beq_eq_false rfl)).trans (congrArg (fun g9 => fT g9 6 f637) ((fT_sw _ _ _ (Nat.ne_of_beq_eq_false rfl)).trans (congrArg (fun g9 => fT g9 4 f437) (fT_sm _ _ _ _))))))))))).symm
          rw [← e9] at hP hD
          clear e9
          have hP : va_P (dC, dI) vwCl (WR a k h0 (fT (fT (fT (fT (fT (fT (fT vi 0 0) 113 1) 116 fx37) 5 cn237) 6 rn237) 7 gn237) 11 0) (fT vj 12 qd37) (fT (fT (fT (fT (fT (fT vF 0 g44) 4 f437) 6 f637) 5 f537) 2 f2w37) 3 f3w37) (fT (fT (fT vG 1 gs37) 7 F37) 8 L837)) H := hP
          have hD : va_D A (WR a k h0 (fT (fT (fT (fT (fT (fT (fT vi 0 0) 113 1) 116 fx37) 5 cn237) 6 rn237) 7 gn237) 11 0) (fT vj 12 qd37) (fT (fT (fT (fT (fT (fT vF 0 g44) 4 f437) 6 f637) 5 f537) 2 f2w37) 3 f3w37) (fT (fT (fT vG 1 gs37) 7 F37) 8 L837)) := hD
          revert hw9
          refine fz_a3 ?_
          intro f44_0 f44_1 f44_2
          have hl : lv_has _ _ ([(0, .ref h0)]) := lv_sub hl [0] rfl
          exact join3 _ _ _ _ ⟨1, g44, m244, f44_0, (f37_1).frame (fun p h1 h2 => f44_2 p (by omega)), AnsB.taken f37_1 f44_1, fun _ => AnsP.taken ((f37_4.resolve_left c_40).resolve_left (by decide)) hgq f44_1, Or.inr rfl, fun q hq => by (rw [f44_2 _ (by omega), f37_2 _ (by omega)]), rfl, hP, hD, hS, hl⟩
      · rintro H locs ls stk ⟨haz, g5, m5, hB5, hA3, hA03, hPp3, hax3, ho3, rfl, hP, hD, hS, hl⟩
        refine lv_aload_n hx hb dX12_solve_47 rfl (lv_at hl 0 rfl) ?_
        refine va_get (D := (dC, dI)) (ci := 12) (v := .int haz) (C := RX12) (T := TX12) (N := 163) (fs := fM (vS a (fT (fT (fT (fT (fT (fT (fT vi 0 0) 113 haz) 116 fx37) 5 cn237) 6 rn237) 7 gn237) 11 0) (fT vj 12 qd37))) hx hb hts iwsRX12_solve_in12 hown hK hP 0 rfl rfl 113 (by decide) (hts (.fieldLink RX12 811 "OptimaWorksModel" "hasAnswer" "Z") (by decide +kernel)) (fun _ h9 => h9) rfl dX12_solve_48 ?_
        refine W.widen (k := 0) (n := 0) (by decide +kernel) (by decide +kernel) ?_
        have e9 : fT (fT (fT (fT (fT (fT (fT vi 0 0) 113 haz) 11 0) 116 fx37) 5 cn237) 6 rn237) 7 gn237 = fT (fT (fT (fT (fT (fT (fT vi 0 0) 113 haz) 116 fx37) 5 cn237) 6 rn237) 7 gn237) 11 0 := by funext q9; by_cases h9_0 : q9 = 0; (subst h9_0; exact ((fT_ne _ _ (Nat.ne_of_beq_eq_false rfl)).trans ((fT_ne _ _ (Nat.ne_of_beq_eq_false rfl)).trans ((fT_ne _ _ (Nat.ne_of_beq_eq_false rfl)).trans ((fT_ne _ _ (Nat.ne_of_beq_eq_false rfl)).trans ((fT_ne _ _ (Nat.ne_of_beq_eq_false rfl)).trans ((fT_ne _ _ (Nat.ne_of_beq_eq_false rfl)).trans (fT_eq _ _ _))))))).trans (Eq.trans (by first | with_reducible rfl | with_reducible assumption | (symm; with_reducible assumption) | rfl | assumption | (symm; assumption) | (subst_vars; rfl)) ((fT_ne _ _ (Nat.ne_of_beq_eq_false rfl)).trans ((fT_ne _ _ (Nat.ne_of_beq_eq_false rfl)).trans ((fT_ne _ _ (Nat.ne_of_beq_eq_false rfl)).trans ((fT_ne _ _ (Nat.ne_of_beq_eq_false rfl)).trans ((fT_ne _ _ (Nat.ne_of_beq_eq_false rfl)).trans ((fT_ne _ _ (Nat.ne_of_beq_eq_false rfl)).trans (fT_eq _ _ _))))))).symm)); by_cases h9_113 : q9 = 113; (subst h9_113; exact ((fT_ne _ _ (Nat.ne_of_beq_eq_false rfl)).trans ((fT_ne _ _ (Nat.ne_of_beq_eq_false rfl)).trans ((fT_ne _ _ (Nat.ne_of_beq_eq_false rfl)).trans ((fT_ne _ _ (Nat.ne_of_beq_eq_false rfl)).trans ((fT_ne _ _ (Nat.ne_of_beq_eq_false rfl)).trans (fT_eq _ _ _)))))).trans (Eq.trans (by first | with_reducible rfl | with_reducible assumption | (symm; with_reducible assumption) | rfl | assumption | (symm; assumption) | (subst_vars; rfl)) ((fT_ne _ _ (Nat.ne_of_beq_eq_false rfl)).trans ((fT_ne _ _ (Nat.ne_of_beq_eq_false rfl)).trans ((fT_ne _ _ (Nat.ne_of_beq_eq_false rfl)).trans ((fT_ne _ _ (Nat.ne_of_beq_eq_false rfl)).trans ((fT_ne _ _ (Nat.ne_of_beq_eq_false rfl)).trans (fT_eq _ _ _)))))).symm)); by_cases h9_11 : q9 = 11; (subst h9_11; exact ((fT_ne _ _ (Nat.ne_of_beq_eq_false rfl)).trans ((fT_ne _ _ (Nat.ne_of_beq_eq_false rfl)).trans ((fT_ne _ _ (Nat.ne_of_beq_eq_false rfl)).trans ((fT_ne _ _ (Nat.ne_of_beq_eq_false rfl)).trans (fT_eq _ _ _))))).trans (Eq.trans (by first | with_reducible rfl | with_reducible assumption | (symm; with_reducible assumption) | rfl | assumption | (symm; assumption) | (subst_vars; rfl)) (fT_eq _ _ _).symm)); by_cases h9_116 : q9 = 116; (subst h9_116; exact ((fT_ne _ _ (Nat.ne_of_beq_eq_false rfl)).trans ((fT_ne _ _ (Nat.ne_of_beq_eq_false rfl)).trans ((fT_ne _ _ (Nat.ne_of_beq_eq_false rfl)).trans (fT_eq _ _ _)))).trans (Eq.trans (by first | with_reducible rfl | with_reducible assumption | (symm; with_reducible assumption) | rfl | assumption | (symm; assumption) | (subst_vars; rfl)) ((fT_ne _ _ (Nat.ne_of_beq_eq_false rfl)).trans ((fT_ne _ _ (Nat.ne_of_beq_eq_false rfl)).trans ((fT_ne _ _ (Nat.ne_of_beq_eq_false rfl)).trans ((fT_ne _ _ (Nat.ne_of_beq_eq_false rfl)).trans (fT_eq _ _ _))))).symm)); by_cases h9_5 : q9 = 5; (subst h9_5; exact ((fT_ne _ _ (Nat.ne_of_beq_eq_false rfl)).trans ((fT_ne _ _ (Nat.ne_of_beq_eq_false rfl)).trans (fT_eq _ _ _))).trans (Eq.trans (by first | with_reducible rfl | with_reducible assumption | (symm; with_reducible assumption) | rfl | assumption | (symm; assumption) | (subst_vars; rfl)) ((fT_ne _ _ (Nat.ne_of_beq_eq_false rfl)).trans ((fT_ne _ _ (Nat.ne_of_beq_eq_false rfl)).trans ((fT_ne _ _ (Nat.ne_of_beq_eq_false rfl)).trans (fT_eq _ _ _)))).symm)); by_cases h9_6 : q9 = 6; (subst h9_6; exact ((fT_ne _ _ (Nat.ne_of_beq_eq_false rfl)).trans (fT_eq _ _ _)).trans (Eq.trans (by first | with_reducible rfl | with_reducible assumption | (symm; with_reducible assumption) | rfl | assumption | (symm; assumption) | (subst_vars; rfl)) ((fT_ne _ _ (Nat.ne_of_beq_eq_false rfl)).trans ((fT_ne _ _ (Nat.ne_of_beq_eq_false rfl)).trans (fT_eq _ _ _))).symm)); by_cases h9_7 : q9 = 7; (subst h9_7; exact (fT_eq _ _ _).trans (Eq.trans (by first | with_reducible rfl | with_reducible assumption | (symm; with_reducible assumption) | rfl | assumption | (symm; assumption) | (subst_vars; rfl)) ((fT_ne _ _ (Nat.ne_of_beq_eq_false rfl)).trans (fT_eq _ _ _)).symm)); exact ((fT_ne _ _ h9_7).trans ((fT_ne _ _ h9_6).trans ((fT_ne _ _ h9_5).trans ((fT_ne _ _ h9_116).trans ((fT_ne _ _ h9_11).trans ((fT_ne _ _ h9_113).trans (fT_ne _ _ h9_0))))))).trans ((fT_ne _ _ h9_11).trans ((fT_ne _ _ h9_7).trans ((fT_ne _ _ h9_6).trans ((fT_ne _ _ h9_5).trans ((fT_ne _ _ h9_116).trans ((fT_ne _ _ h9_113).trans (fT_ne _ _ h9_0))))))).symm
        have hP : va_P (dC, dI) vwCl (WR a k h0 (fT (fT (fT (fT (fT (fT (fT vi 0 0) 113 haz) 11 0) 116 fx37) 5 cn237) 6 rn237) 7 gn237) (fT vj 12 qd37) (fT (fT (fT (fT (fT (fT vF 0 g5) 4 f437) 6 f637) 5 f537) 2 f2w37) 3 f3w37) (fT (fT (fT vG 1 gs37) 7 F37) 8 L837)) H := by rw [e9]; exact hP
        have hD : va_D A (WR a k h0 (fT (fT (fT (fT (fT (fT (fT vi 0 0) 113 haz) 11 0) 116 fx37) 5 cn237) 6 rn237) 7 gn237) (fT vj 12 qd37) (fT (fT (fT (fT (fT (fT vF 0 g5) 4 f437) 6 f637) 5 f537) 2 f2w37) 3 f3w37) (fT (fT (fT vG 1 gs37) 7 F37) 8 L837)) := by rw [e9]; exact hD
        clear e9
        have e9 : fT (fT (fT (fT (fT (fT (fT (fT vF 70 (vF 70)) 0 g5) 2 f2w37) 3 f3w37) 4 f437) 5 f537) 6 f637) 69 (vF 69) = fT (fT (fT (fT (fT (fT vF 0 g5) 4 f437) 6 f637) 5 f537) 2 f2w37) 3 f3w37 := by funext q9; by_cases h9_70 : q9 = 70; (subst h9_70; exact ((fT_ne _ _ (Nat.ne_of_beq_eq_false rfl)).trans ((fT_ne _ _ (Nat.ne_of_beq_eq_false rfl)).trans ((fT_ne _ _ (Nat.ne_of_beq_eq_false rfl)).trans ((fT_ne _ _ (Nat.ne_of_beq_eq_false rfl)).trans ((fT_ne _ _ (Nat.ne_of_beq_eq_false rfl)).trans ((fT_ne _ _ (Nat.ne_of_beq_eq_false rfl)).trans ((fT_ne _ _ (Nat.ne_of_beq_eq_false rfl)).trans (fT_eq _ _ _)))))))).trans (Eq.trans (by first | with_reducible rfl | with_reducible assumption | (symm; with_reducible assumption) | rfl | assumption | (symm; assumption) | (subst_vars; rfl)) ((fT_ne _ _ (Nat.ne_of_beq_eq_false rfl)).trans ((fT_ne _ _ (Nat.ne_of_beq_eq_false rfl)).trans ((fT_ne _ _ (Nat.ne_of_beq_eq_false rfl)).trans ((fT_ne _ _ (Nat.ne_of_beq_eq_false rfl)).trans ((fT_ne _ _ (Nat.ne_of_beq_eq_false rfl)).trans (fT_ne _ _ (Nat.ne_of_beq_eq_false rfl))))))).symm)); by_cases h9_0 : q9 = 0; (subst h9_0; exact ((fT_ne _ _ (Nat.ne_of_beq_eq_false rfl)).trans ((fT_ne _ _ (Nat.ne_of_beq_eq_false rfl)).trans ((fT_ne _ _ (Nat.ne_of_beq_eq_false rfl)).trans ((fT_ne _ _ (Nat.ne_of_beq_eq_false rfl)).trans ((fT_ne _ _ (Nat.ne_of_beq_eq_false rfl)).trans ((fT_ne _ _ (Nat.ne_of_beq_eq_false rfl)).trans (fT_eq _ _ _))))))).trans (Eq.trans (by first | with_reducible rfl | with_reducible assumption | (symm; with_reducible assumption) | rfl | assumption | (symm; assumption) | (subst_vars; rfl)) ((fT_ne _ _ (Nat.ne_of_beq_eq_false rfl)).trans ((fT_ne _ _ (Nat.ne_of_beq_eq_false rfl)).trans ((fT_ne _ _ (Nat.ne_of_beq_eq_false rfl)).trans ((fT_ne _ _ (Nat.ne_of_beq_eq_false rfl)).trans ((fT_ne _ _ (Nat.ne_of_beq_eq_false rfl)).trans (fT_eq _ _ _)))))).symm)); by_cases h9_2 : q9 = 2; (subst h9_2; exact ((fT_ne _ _ (Nat.ne_of_beq_eq_false rfl)).trans ((fT_ne _ _ (Nat.ne_of_beq_eq_false rfl)).trans ((fT_ne _ _ (Nat.ne_of_beq_eq_false rfl)).trans ((fT_ne _ _ (Nat.ne_of_beq_eq_false rfl)).trans ((fT_ne _ _ (Nat.ne_of_beq_eq_false rfl)).trans (fT_eq _ _ _)))))).trans (Eq.trans (by first | with_reducible rfl | with_reducible assumption | (symm; with_reducible assumption) | rfl | assumption | (symm; assumption) | (subst_vars; rfl)) ((fT_ne _ _ (Nat.ne_of_beq_eq_false rfl)).trans (fT_eq _ _ _)).symm)); by_cases h9_3 : q9 = 3; (subst h9_3; exact ((fT_ne _ _ (Nat.ne_of_beq_eq_false rfl)).trans ((fT_ne _ _ (Nat.ne_of_beq_eq_false rfl)).trans ((fT_ne _ _ (Nat.ne_of_beq_eq_false rfl)).trans ((fT_ne _ _ (Nat.ne_of_beq_eq_false rfl)).trans (fT_eq _ _ _))))).trans (Eq.trans (by first | with_reducible rfl | with_reducible assumption | (symm; with_reducible assumption) | rfl | assumption | (symm; assumption) | (subst_vars; rfl)) (fT_eq _ _ _).symm)); by_cases h9_4 : q9 = 4; (subst h9_4; exact ((fT_ne _ _ (Nat.ne_of_beq_eq_false rfl)).trans ((fT_ne _ _ (Nat.ne_of_beq_eq_false rfl)).trans ((fT_ne _ _ (Nat.ne_of_beq_eq_false rfl)).trans (fT_eq _ _ _)))).trans (Eq.trans (by first | with_reducible rfl | with_reducible assumption | (symm; with_reducible assumption) | rfl | assumption | (symm; assumption) | (subst_vars; rfl)) ((fT_ne _ _ (Nat.ne_of_beq_eq_false rfl)).trans ((fT_ne _ _ (Nat.ne_of_beq_eq_false rfl)).trans ((fT_ne _ _ (Nat.ne_of_beq_eq_false rfl)).trans ((fT_ne _ _ (Nat.ne_of_beq_eq_false rfl)).trans (fT_eq _ _ _))))).symm)); by_cases h9_5 : q9 = 5; (subst h9_5; exact ((fT_ne _ _ (Nat.ne_of_beq_eq_false rfl)).trans ((fT_ne _ _ (Nat.ne_of_beq_eq_false rfl)).trans (fT_eq _ _ _))).trans (Eq.trans (by first | with_reducible rfl | with_reducible assumption | (symm; with_reducible assumption) | rfl | assumption | (symm; assumption) | (subst_vars; rfl)) ((fT_ne _ _ (Nat.ne_of_beq_eq_false rfl)).trans ((fT_ne _ _ (Nat.ne_of_beq_eq_false rfl)).trans (fT_eq _ _ _))).symm)); by_cases h9_6 : q9 = 6; (subst h9_6; exact ((fT_ne _ _ (Nat.ne_of_beq_eq_false rfl)).trans (fT_eq _ _ _)).trans (Eq.trans (by first | with_reducible rfl | with_reducible assumption | (symm; with_reducible assumption) | rfl | assumption | (symm; assumption) | (subst_vars; rfl)) ((fT_ne _ _ (Nat.ne_of_beq_eq_false rfl)).trans ((fT_ne _ _ (Nat.ne_of_beq_eq_false rfl)).trans ((fT_ne _ _ (Nat.ne_of_beq_eq_false rfl)).trans (fT_eq _ _ _)))).symm)); by_cases h9_69 : q9 = 69; (subst h9_69; exact (fT_eq _ _ _).trans (Eq.trans (by first | with_reducible rfl | with_reducible assumption | (symm; with_reducible assumption) | rfl | assumption | (symm; assumption) | (subst_vars; rfl)) ((fT_ne _ _ (Nat.ne_of_beq_eq_false rfl)).trans ((fT_ne _ _ (Nat.ne_of_beq_eq_false rfl)).trans ((fT_ne _ _ (Nat.ne_of_beq_eq_false rfl)).trans ((fT_ne _ _ (Nat.ne_of_beq_eq_false rfl)).trans ((fT_ne _ _ (Nat.ne_of_beq_eq_false rfl)).trans (fT_ne _ _ (Nat.ne_of_beq_eq_false rfl))))))).symm)); exact ((fT_ne _ _ h9_69).trans ((fT_ne _ _ h9_6).trans ((fT_ne _ _ h9_5).trans ((fT_ne _ _ h9_4).trans ((fT_ne _ _ h9_3).trans ((fT_ne _ _ h9_2).trans ((fT_ne _ _ h9_0).trans (fT_ne _ _ h9_70)))))))).trans ((fT_ne _ _ h9_3).trans ((fT_ne _ _ h9_2).trans ((fT_ne _ _ h9_5).trans ((fT_ne _ _ h9_6).trans ((fT_ne _ _ h9_4).trans (fT_ne _ _ h9_0)))))).symm
        have hP : va_P (dC, dI) vwCl (WR a k h0 (fT (fT (fT (fT (fT (fT (fT vi 0 0) 113 haz) 11 0) 116 fx37) 5 cn237) 6 rn237) 7 gn237) (fT vj 12 qd37) (fT (fT (fT (fT (fT (fT (fT (fT vF 70 (vF 70)) 0 g5) 2 f2w37) 3 f3w37) 4 f437) 5 f537) 6 f637) 69 (vF 69)) (fT (fT (fT vG 1 gs37) 7 F37) 8 L837)) H := by rw [e9]; exact hP
        have hD : va_D A (WR a k h0 (fT (fT (fT (fT (fT (fT (fT vi 0 0) 113 haz) 11 0) 116 fx37) 5 cn237) 6 rn237) 7 gn237) (fT vj 12 qd37) (fT (fT (fT (fT (fT (fT (fT (fT vF 70 (vF 70)) 0 g5) 2 f2w37) 3 f3w37) 4 f437) 5 f537) 6 f637) 69 (vF 69)) (fT (fT (fT vG 1 gs37) 7 F37) 8 L837)) := by rw [e9]; exact hD
        clear e9
        exact W.zret (v := haz) hx hb hr (by rcases hax3 with h | h <;> rw [h] <;> rfl) (fun t9_ ht hW => ⟨⟨haz, (g5, f2w37, f3w37, f437, f537, f637, gs37, F37, L837, qd37, 0, fx37, cn237, rn237, gn237, 0, haz, (vF 69), (vF 70), m5), rfl, by (try dsimp only); exact ⟨hB5, hA3, hA03, hPp3, ho3, hM.2.2.2.2.2.2, hax3⟩, by rw [ht]; exact hP, hD⟩, hS.F ht⟩) hS.2.2 dX12_solve_51
end
section
theorem neg32 {x : Int32} {b : Nat} (h : x.toInt.natAbs ≤ b) (hb : b ≤ 2000000000) : (-x).toInt.natAbs ≤ b ∧ (-x).toInt = -x.toInt := by
  have e : (-x).toInt = -x.toInt := by
    rw [Int32.toInt_neg]; exact Int.bmod_eq_of_le (by omega) (by omega)
  rw [e]; exact ⟨by omega, rfl⟩
abbrev EqP (f61 f71 f72 : Nat → Int32) (i : Nat) : Prop := f71 i = 0 ∧ f61 (3 * cD f72 i) = 2
/-- how many columns a need has -/
def ncw (f61 f71 f72 f73 : Nat → Int32) (i : Nat) : Nat := if f73 i = 0 then 0 else if EqP f61 f71 f72 i then 2 else 1
def ncS (w : Nat → Nat) : Nat → Nat
  | 0 => 0
  | n + 1 => ncS w n + w n
theorem ncS_mono {w : Nat → Nat} {a b : Nat} (h : a ≤ b) : ncS w a ≤ ncS w b := by
  induction b with
  | zero => have : a = 0 := by omega
            subst this; exact Nat.le_refl _
  | succ b ih =>
    by_cases e : a = b + 1
    · subst e; exact Nat.le_refl _
    · exact Nat.le_trans (ih (by omega)) (Nat.le_add_right _ _)
theorem ncS_in {w : Nat → Nat} {i n : Nat} (h : i < n) : ncS w i + w i ≤ ncS w n := ncS_mono (w := w) (show i + 1 ≤ n from h)
theorem ncS_le {w : Nat → Nat} {a b k : Nat} (h : a ≤ b) (hw : ∀ i, a ≤ i → i < b → w i ≤ k) : ncS w b ≤ ncS w a + (b - a) * k := by
  induction b with
  | zero => have : a = 0 := by omega
            subst this; omega
  | succ b ih =>
    by_cases e : a = b + 1
    · subst e; omega
    · have h1 := ih (by omega) (fun i h1 h2 => hw i h1 (by omega))
      have h2 := hw b (by omega) (by omega)
      show ncS w b + w b ≤ _
      rw [show b + 1 - a = b - a + 1 by omega, Nat.succ_mul]; omega
/-- the needs, as they are listed: rows first, then variables -/
def NdO (f71 f72 : Nat → Int32) (vn mr z nd : Nat) : Prop := z ≤ mr ∧ z ≤ nd ∧ nd ≤ z + 2 * vn ∧ (∀ i, i < z → f71 i = 0 ∧ ∃ o, o < mr ∧ f72 i = nI o) ∧ ∀ i, z ≤ i → i < nd → (f71 i = 1 ∨ f71 i = 2) ∧ ∃ o, o < vn ∧ f72 i = nI o
theorem NdO.row {f71 f72 : Nat → Int32} {vn mr z nd i : Nat} (h : NdO f71 f72 vn mr z nd) (hi : i < nd) (h0 : f71 i = 0) : i < z ∧ ∃ o, o < mr ∧ f72 i = nI o := by
  by_cases e : i < z
  · exact ⟨e, (h.2.2.2.1 i e).2⟩
  · exfalso
    rcases (h.2.2.2.2 i (by omega) hi).1 with h1 | h1 <;> rw [h0] at h1 <;> exact absurd h1 (by decide)
theorem NdO.var {f71 f72 : Nat → Int32} {vn mr z nd i : Nat} (h : NdO f71 f72 vn mr z nd) (hi : i < nd) (h0 : ¬ f71 i = 0) : z ≤ i ∧ ∃ o, o < vn ∧ f72 i = nI o := by
  by_cases e : i < z
  · exact absurd (h.2.2.2.1 i e).1 h0
  · exact ⟨by omega, (h.2.2.2.2 i (by omega) hi).2⟩
theorem NdO.any {f71 f72 : Nat → Int32} {vn mr z nd i : Nat} (h : NdO f71 f72 vn mr z nd) (hi : i < nd) : ∃ o, f72 i = nI o ∧ ((f71 i = 0 ∧ o < mr) ∨ (¬ f71 i = 0 ∧ o < vn)) := by
  by_cases e : f71 i = 0
  · obtain ⟨_, o, h1, h2⟩ := h.row hi e
    exact ⟨o, h2, Or.inl ⟨e, h1⟩⟩
  · obtain ⟨_, o, h1, h2⟩ := h.var hi e
    exact ⟨o, h2, Or.inr ⟨e, h1⟩⟩
theorem ncw_le (f61 f71 f72 f73 : Nat → Int32) (i : Nat) : ncw f61 f71 f72 f73 i ≤ 2 := by unfold ncw; split <;> (try split) <;> omega
theorem NdO.w1 {f61 f71 f72 f73 : Nat → Int32} {vn mr z nd i : Nat} (h : NdO f71 f72 vn mr z nd) (hz : z ≤ i) (hi : i < nd) : ncw f61 f71 f72 f73 i ≤ 1 := by
  unfold ncw
  split
  · omega
  · rw [if_neg (fun e => by have h1 := (h.row hi e.1).1; omega)]; omega
theorem NdO.cz {f71 f72 : Nat → Int32} {vn mr z nd : Nat} (h : NdO f71 f72 vn mr z nd) (f61 f73 : Nat → Int32) : ncS (ncw f61 f71 f72 f73) z ≤ 2 * z ∧ ncS (ncw f61 f71 f72 f73) nd ≤ ncS (ncw f61 f71 f72 f73) z + (nd - z) := by
  have h1 := ncS_le (w := ncw f61 f71 f72 f73) (a := 0) (b := z) (k := 2) (by omega) (fun i _ _ => ncw_le f61 f71 f72 f73 i)
  have h2 := ncS_le (w := ncw f61 f71 f72 f73) (a := z) (b := nd) (k := 1) h.2.1 (fun i h3 h4 => h.w1 h3 h4)
  have h3 : ncS (ncw f61 f71 f72 f73) 0 = 0 := rfl
  omega
/-- how great a number can be in a column -/
def bcl (cz j : Nat) : Nat := if j < cz then 99 else 1
theorem sumN_bcl {cz n : Nat} : sumN n (bcl cz) ≤ 99 * cz + (n - cz) := by
  induction n with
  | zero => exact Nat.zero_le _
  | succ n ih =>
    simp only [sumN]
    by_cases e : n < cz
    · have h2 : ∀ k, k ≤ cz → sumN k (bcl cz) ≤ 99 * k := by
        intro k
        induction k with
        | zero => intro _; exact Nat.zero_le _
        | succ k ih2 => intro hk; simp only [sumN]; have h3 := ih2 (by omega); have h4 : bcl cz k = 99 := by unfold bcl; rw [if_pos (by omega)]
                        rw [h4]; omega
      have h3 := h2 n (by omega)
      have h4 : bcl cz n = 99 := by unfold bcl; rw [if_pos e]
      rw [h4]; omega
    · have h4 : bcl cz n = 1 := by unfold bcl; rw [if_neg e]
      rw [h4]; omega
theorem sumN_mono {n : Nat} {f g : Nat → Nat} (h : ∀ q, q < n → f q ≤ g q) : sumN n f ≤ sumN n g := by
  induction n with
  | zero => exact Nat.le_refl _
  | succ n ih => simp only [sumN]; exact Nat.add_le_add (ih (fun q hq => h q (by omega))) (h n (by omega))
/-- the numbers of a line, but the last two -/
def RwB (C : Nat) (m : Nat → Int) (r : Nat) (bb : Nat → Nat) : Prop := ∀ j, j < C - 1 → (m (30 + r * (C + 1) + j)).natAbs ≤ bb j
/-- lines as they are laid -/
def BldP (C R : Nat) (m : Nat → Int) (f5 : Nat → Int32) (bb : Nat → Nat) (Bs : Nat) : Prop := ∀ i, i < R → f5 i = nI (C + i) ∧ RwB C m i bb ∧ m (30 + i * (C + 1) + (C - 1)) = -1 ∧ (m (30 + i * (C + 1) + C)).natAbs ≤ Bs
theorem BldP.more {C R : Nat} {m m2 : Nat → Int} {f5 f52 : Nat → Int32} {bb : Nat → Nat} {Bs : Nat} (h : BldP C R m f5 bb Bs) (hf : ∀ i, i < R → f52 i = f5 i) (e : ∀ p, 30 ≤ p → p < 30 + R * (C + 1) → m2 p = m p) (hC : 0 < C) (h1 : f52 R = nI (C + R)) (h2 : RwB C m2 R bb) (h3 : m2 (30 + R * (C + 1) + (C - 1)) = -1) (h4 : (m2 (30 + R * (C + 1) + C)).natAbs ≤ Bs) : BldP C (R + 1) m2 f52 bb Bs := by
  intro i hi
  by_cases ei : i = R
  · subst ei; exact ⟨h1, h2, h3, h4⟩
  · have hiR : i < R := by omega
    obtain ⟨k1, k2, k3, k4⟩ := h i hiR
    have hp : ∀ j, j ≤ C → m2 (30 + i * (C + 1) + j) = m (30 + i * (C + 1) + j) := fun j hj => e _ (by omega) (by have := pl_lt hiR hj; omega)
    exact ⟨by rw [hf i hiR]; exact k1, fun j hj => by rw [hp j (by omega)]; exact k2 j hj, by rw [hp _ (by omega)]; exact k3, by rw [hp _ (Nat.le_refl _)]; exact k4⟩
theorem BldP.frame {C R : Nat} {m m2 : Nat → Int} {f5 : Nat → Int32} {bb : Nat → Nat} {Bs : Nat} (h : BldP C R m f5 bb Bs) (e : ∀ p, 30 ≤ p → p < 30 + R * (C + 1) → m2 p = m p) : BldP C R m2 f5 bb Bs := by
  intro i hi
  obtain ⟨k1, k2, k3, k4⟩ := h i hi
  have hp : ∀ j, j ≤ C → m2 (30 + i * (C + 1) + j) = m (30 + i * (C + 1) + j) := fun j hj => e _ (by omega) (by have := pl_lt hi hj; omega)
  exact ⟨k1, fun j hj => by rw [hp j (by omega)]; exact k2 j hj, by rw [hp _ (by omega)]; exact k3, by rw [hp _ (Nat.le_refl _)]; exact k4⟩
theorem prov_num : (bF 2393 (2 ^ 74) 1 16 < 2 ^ 258 ∧ bF 2393 (2 ^ 74) 1 16 * 2 ^ 23 < 2 ^ 294) ∧ bF 2393 1 1 18 < 2 ^ 258 ∧ bF 2393 1 1 18 * 2 ^ 23 < 2 ^ 294 := by decide +kernel
/-- the tableaux of a proof are small -/
theorem prov_small {C R cz Bs : Nat} {m : Nat → Int} {f5 : Nat → Int32} (hC : 0 < C) (hC41 : C ≤ 41) (hcz : cz ≤ 24) (hcn : C ≤ cz + 17) (hB : BldP C R m f5 (bcl cz) Bs) (hR : (R ≤ 16 ∧ Bs = 2 ^ 74) ∨ (R ≤ 18 ∧ Bs = 1)) (h1 : ∀ j, j ≤ C → m (30 + R * (C + 1) + j) = if j = C - 1 then 1 else 0) (h2 : ∀ j, j ≤ C → (m (30 + (R + 1) * (C + 1) + j)).natAbs ≤ 99999) :
    ∀ t D rl cl, SxF C R (R + 2) (fun i j => m (30 + i * (C + 1) + j)) t D rl cl → (D.natAbs < 2 ^ 258 ∧ ∀ i, i < R → ∀ j, j ≤ C → (t i j).natAbs < 2 ^ 258) ∧ ∀ i, i < R + 2 → ∀ j, j ≤ C → (t i j).natAbs < 2 ^ 294 := by
  intro t D rl cl h
  have hrow : ∀ i, i < R → sumN C (fun q => (m (30 + i * (C + 1) + q)).natAbs) ≤ 2393 := fun i hi => by
    obtain ⟨k1, k2, k3, k4⟩ := hB i hi
    have e : sumN C (fun q => (m (30 + i * (C + 1) + q)).natAbs) = sumN (C - 1) (fun q => (m (30 + i * (C + 1) + q)).natAbs) + (m (30 + i * (C + 1) + (C - 1))).natAbs := by
      obtain ⟨c, rfl⟩ : ∃ c, C = c + 1 := ⟨C - 1, by omega⟩
      rfl
    have h3 := sumN_mono (n := C - 1) (f := fun q => (m (30 + i * (C + 1) + q)).natAbs) (g := bcl cz) (fun q hq => k2 q hq)
    have h4 := sumN_bcl (cz := cz) (n := C - 1)
    rw [e, k3]; have h5 : (-1 : Int).natAbs = 1 := rfl
    omega
  have hall : ∀ i, R ≤ i → i < R + 2 → sumN (C + 1) (fun q => (m (30 + i * (C + 1) + q)).natAbs) ≤ 2 ^ 23 := fun i hi hT => by
    have h3 : sumN (C + 1) (fun q => (m (30 + i * (C + 1) + q)).natAbs) ≤ (C + 1) * 99999 := sumN_le (fun q hq => by
      by_cases e : i = R
      · subst e; rw [h1 q (by omega)]; split <;> decide
      · have : i = R + 1 := by omega
        subst this; exact h2 q (by omega))
    have h4 : (C + 1) * 99999 ≤ 42 * 99999 := Nat.mul_le_mul_right _ (by omega)
    exact Nat.le_trans (Nat.le_trans h3 h4) (by decide)
  have hn := prov_num
  have key : ∀ k Bq, (R ≤ k) → (∀ i, i < R → (m (30 + i * (C + 1) + C)).natAbs ≤ Bq) → bF 2393 Bq 1 k < 2 ^ 258 → bF 2393 Bq 1 k * 2 ^ 23 < 2 ^ 294 → (D.natAbs < 2 ^ 258 ∧ ∀ i, i < R → ∀ j, j ≤ C → (t i j).natAbs < 2 ^ 258) ∧ ∀ i, i < R + 2 → ∀ j, j ≤ C → (t i j).natAbs < 2 ^ 294 := by
    intro k Bq hk hq hn1 hn2
    have hb := h.bd (W := 2393) (Bc := Bq) (GM := 2 ^ 23) (k := k) (by decide) (by decide) (Or.inl hk) hrow hq hall (by omega)
    refine ⟨⟨Nat.lt_of_le_of_lt hb.1 hn1, fun i hi j hj => ?_⟩, fun i hi j hj => ?_⟩
    · have h3 := hb.2 i (by omega) j hj
      rw [if_pos hi, Nat.mul_one] at h3
      exact Nat.lt_of_le_of_lt h3 hn1
    · have h3 := hb.2 i hi j hj
      refine Nat.lt_of_le_of_lt h3 (Nat.lt_of_le_of_lt (Nat.mul_le_mul_left _ ?_) hn2)
      split
      · exact Nat.one_le_two_pow
      · exact Nat.le_refl _
  rcases hR with ⟨hR1, hR2⟩ | ⟨hR1, hR2⟩
  · exact key 16 (2 ^ 74) hR1 (fun i hi => Nat.le_trans (hB i hi).2.2.2 (Nat.le_of_eq hR2)) hn.1.1 hn.1.2
  · exact key 18 1 hR1 (fun i hi => Nat.le_trans (hB i hi).2.2.2 (Nat.le_of_eq hR2)) hn.2.1 hn.2.2
/-- a need's numbers are not above what its columns may hold -/
theorem NdO.cap {f61 f71 f72 f73 : Nat → Int32} {vn mr z nd i x : Nat} (h : NdO f71 f72 vn mr z nd) (hi : i < nd) (hx : (f71 i = 0 ∧ x ≤ 99) ∨ (¬ f71 i = 0 ∧ x ≤ 1)) : ∀ j, ncS (ncw f61 f71 f72 f73) i ≤ j → j < ncS (ncw f61 f71 f72 f73) i + ncw f61 f71 f72 f73 i → x ≤ bcl (ncS (ncw f61 f71 f72 f73) z) j := by
  intro j h1 h2
  unfold bcl
  rcases hx with ⟨h3, h4⟩ | ⟨h3, h4⟩
  · have h5 := (h.row hi h3).1
    have h6 := ncS_in (w := ncw f61 f71 f72 f73) h5
    rw [if_pos (by omega)]; exact h4
  · have h5 := (h.var hi h3).1
    have h6 := ncS_mono (w := ncw f61 f71 f72 f73) h5
    rw [if_neg (by omega)]; exact h4
theorem bcl_one (cz j : Nat) : 1 ≤ bcl cz j := by unfold bcl; split <;> decide
theorem sub224 {x y : Int} (hx : Sz 223 x) (hy : Sz 201 y) : Sz 224 (x + -1 * y) := by
  unfold Sz at *
  have h1 : (x + -1 * y).natAbs ≤ x.natAbs + y.natAbs := by omega
  have h2 : (2 : Nat) ^ 223 + 2 ^ 201 ≤ 2 ^ 224 := by decide +kernel
  omega
theorem sub259 {x y : Int} (hx : Sz 258 x) (hy : Sz 258 y) : Sz 259 (x + -1 * y) := by
  unfold Sz at *
  have h1 : (x + -1 * y).natAbs ≤ x.natAbs + y.natAbs := by omega
  have h2 : (2 : Nat) ^ 258 + 2 ^ 258 ≤ 2 ^ 259 := by decide +kernel
  omega
end
section
theorem hd_yX12_need1_RX12 : yX12_need1.cls = RX12 ∧ yX12_need1.cls ≠ "java/lang/invoke/MethodHandle" ∧ yX12_need1.cls ≠ "java/lang/invoke/VarHandle" ∧ (parseMethodDescriptor yX12_need1.desc).map (fun d => d.parameters.length) = some 2 := by decide +kernel
theorem hd_yX12_isEqual_RX12 : yX12_isEqual.cls = RX12 ∧ yX12_isEqual.cls ≠ "java/lang/invoke/MethodHandle" ∧ yX12_isEqual.cls ≠ "java/lang/invoke/VarHandle" ∧ (parseMethodDescriptor yX12_isEqual.desc).map (fun d => d.parameters.length) = some 1 := by decide +kernel
theorem dX12_need1_0 : decode cX12_need1 0 = .ok (.aload_n 0, 1) := dk_42 (by decide +kernel)
theorem dX12_need1_1 : decode cX12_need1 1 = .ok (.getfield 236, 3) := dk_180 (by decide +kernel)
theorem dX12_need1_4 : decode cX12_need1 4 = .ok (.aload_n 0, 1) := dk_42 (by decide +kernel)
theorem dX12_need1_5 : decode cX12_need1 5 = .ok (.getfield 894, 3) := dk_180 (by decide +kernel)
theorem dX12_need1_8 : decode cX12_need1 8 = .ok (.iload_n 1, 1) := dk_27 (by decide +kernel)
theorem dX12_need1_9 : decode cX12_need1 9 = .ok (.iastore, 1) := dk_79 (by decide +kernel)
theorem dX12_need1_10 : decode cX12_need1 10 = .ok (.aload_n 0, 1) := dk_42 (by decide +kernel)
theorem dX12_need1_11 : decode cX12_need1 11 = .ok (.getfield 239, 3) := dk_180 (by decide +kernel)
theorem dX12_need1_14 : decode cX12_need1 14 = .ok (.aload_n 0, 1) := dk_42 (by decide +kernel)
theorem dX12_need1_15 : decode cX12_need1 15 = .ok (.getfield 894, 3) := dk_180 (by decide +kernel)
theorem dX12_need1_18 : decode cX12_need1 18 = .ok (.iload_n 2, 1) := dk_28 (by decide +kernel)
theorem dX12_need1_19 : decode cX12_need1 19 = .ok (.iastore, 1) := dk_79 (by decide +kernel)
theorem dX12_need1_20 : decode cX12_need1 20 = .ok (.aload_n 0, 1) := dk_42 (by decide +kernel)
theorem dX12_need1_21 : decode cX12_need1 21 = .ok (.getfield 242, 3) := dk_180 (by decide +kernel)
theorem dX12_need1_24 : decode cX12_need1 24 = .ok (.aload_n 0, 1) := dk_42 (by decide +kernel)
theorem dX12_need1_25 : decode cX12_need1 25 = .ok (.getfield 894, 3) := dk_180 (by decide +kernel)
theorem dX12_need1_28 : decode cX12_need1 28 = .ok (.iconst 1, 1) := dk_4 (by decide +kernel)
theorem dX12_need1_29 : decode cX12_need1 29 = .ok (.iastore, 1) := dk_79 (by decide +kernel)
theorem dX12_need1_30 : decode cX12_need1 30 = .ok (.aload_n 0, 1) := dk_42 (by decide +kernel)
theorem dX12_need1_31 : decode cX12_need1 31 = .ok (.dup, 1) := dk_89 (by decide +kernel)
theorem dX12_need1_32 : decode cX12_need1 32 = .ok (.getfield 894, 3) := dk_180 (by decide +kernel)
theorem dX12_need1_35 : decode cX12_need1 35 = .ok (.iconst 1, 1) := dk_4 (by decide +kernel)
theorem dX12_need1_36 : decode cX12_need1 36 = .ok (.iadd, 1) := dk_96 (by decide +kernel)
theorem dX12_need1_37 : decode cX12_need1 37 = .ok (.putfield 894, 3) := dk_181 (by decide +kernel)
theorem dX12_need1_40 : decode cX12_need1 40 = .ok (.return_, 1) := dk_177 (by decide +kernel)
def wsRX12_need1 : List Cond := .code yX12_need1 cX12_need1 3 none :: ([.fieldLink RX12 236 "OptimaWorksModel" "needKind" "[I", .fieldLink RX12 894 "OptimaWorksModel" "needs" "I", .fieldLink RX12 239 "OptimaWorksModel" "needOf" "[I", .fieldLink RX12 242 "OptimaWorksModel" "needKept" "[I"] ++ wsX120)
theorem iwsRX12_need1_in12 : ∀ w ∈ wsX120, w ∈ wsRX12_need1 := fun _ h => List.mem_cons_of_mem _ (List.mem_append_right _ h)
theorem gdwsRX12_need1 : wsRX12_need1.all goodWord = true := gdC rfl (gdA (by decide +kernel : ([.fieldLink RX12 236 "OptimaWorksModel" "needKind" "[I", .fieldLink RX12 894 "OptimaWorksModel" "needs" "I", .fieldLink RX12 239 "OptimaWorksModel" "needOf" "[I", .fieldLink RX12 242 "OptimaWorksModel" "needKept" "[I"] : List Cond).all goodWord = true) gdwsX120)
set_option maxHeartbeats 4000000 in
set_option maxRecDepth 100000 in
/-- need1(k, of) -/
theorem r_X12_need1 (l : Launch) (dC : Nat → ClassId) (dI : Nat → Nat → Nat) (a : Nat → Nat) (k : Nat → ClassId) (h0 : Nat) (vi : Nat → Int32) (vj : Nat → Int64) (vF : Nat → Nat → Int32) (vG : Nat → Nat → Int64) (kv : Int32) (ov : Int32) (nd : Nat) (hnd : vi 119 = nI nd) (hnd28 : nd < 28) (sz : Nat) : Met l yX12_need1 wsRX12_need1 ({ frames := 0, cells := 0, slots := 0, locals := 0 }) (va_Pc [.ref h0, .int kv, .int ov] (fun U => U.heap.size = sz ∧ va_P (dC, dI) vwCl (WR a k h0 vi vj vF vG) U.heap ∧ va_K (dC, dI) vwCl (tX12 k) U ∧ va_D (fun _ => True) (WR a k h0 vi vj vF vG))) (va_Qv (fun (u : Unit) => True) (fun (u : Unit) t => va_P (dC, dI) vwCl (WR a k h0 (fT vi 119 (nI (nd + 1))) vj (fT (fT (fT vF 71 (upd (vF 71) (nI nd).toNatClampNeg kv)) 72 (upd (vF 72) (nI nd).toNatClampNeg ov)) 73 (upd (vF 73) (nI nd).toNatClampNeg 1)) vG) t.heap ∧ va_D (va_A (WR a k h0 vi vj vF vG) sz) (WR a k h0 (fT vi 119 (nI (nd + 1))) vj (fT (fT (fT vF 71 (upd (vF 71) (nI nd).toNatClampNeg kv)) 72 (upd (vF 72) (nI nd).toNatClampNeg ov)) 73 (upd (vF 73) (nI nd).toNatClampNeg 1)) vG)) (va_A (WR a k h0 vi vj vF vG) sz)) 0 0 (va_A (WR a k h0 vi vj vF vG) sz) := by
  refine Met.ofW (cc := cX12_need1) (maxL := 3) (ret := none) (by decide) rfl ?_
  intro p e s m args below meth c s₁ B hml hv
  obtain ⟨rfl, hsz, hP, hK, hD0⟩ := hv
  have hx := B.exec
  have hb := B.bytes
  have hr := B.returns
  have hts := atoms_spec (ws := wsRX12_need1) B.pre
  have hown : s.vm.findClass RX12 = some m.cls := findClass_of_methodNamed B.named
  have hlocks := B.notSynchronized
  subst hsz
  have hD := hD0.self (sz := s.heap.size)
  generalize hAe : va_A (WR a k h0 vi vj vF vG) s.heap.size = A at hD ⊢
  have hA : ∀ q : Nat, s.heap.size ≤ q → A q := fun q h => by rw [← hAe]; exact Or.inr h
  have hS : va_S A s.heap s.heap [] := va_S.rf
  have hl := lv_entry ([.ref h0, .int kv, .int ov]) (n := 3) (Nat.le_of_ble_eq_true rfl)
  rw [lg_entry_eq]
  generalize (lg_sl ([.ref h0, .int kv, .int ov]) ++ List.replicate (3 - (lg_sl ([.ref h0, .int kv, .int ov])).length) Slot.unset).toArray = ls at hl ⊢
  have hl : lv_has ls 3 [(0, .ref h0), (1, .int kv), (2, .int ov)] := hl
  refine lv_aload_n hx hb dX12_need1_0 rfl (lv_at hl 0 rfl) ?_
  refine va_get (D := (dC, dI)) (ci := 12) (v := .ref (a 71)) (C := RX12) (T := TX12) (N := 163) (fs := fM (vS a vi vj)) hx hb hts iwsRX12_need1_in12 hown hK hP 0 rfl rfl 120 (by decide) (hts (.fieldLink RX12 236 "OptimaWorksModel" "needKind" "[I") (by decide +kernel)) (fun _ h9 => h9) rfl dX12_need1_1 ?_
  refine lv_aload_n hx hb dX12_need1_4 rfl (lv_at hl 0 rfl) ?_
  refine va_get (D := (dC, dI)) (ci := 12) (v := .int (vi 119)) (C := RX12) (T := TX12) (N := 163) (fs := fM (vS a vi vj)) hx hb hts iwsRX12_need1_in12 hown hK hP 0 rfl rfl 119 (by decide) (hts (.fieldLink RX12 894 "OptimaWorksModel" "needs" "I") (by decide +kernel)) (fun _ h9 => h9) rfl dX12_need1_5 ?_
  refine lv_topi (fun y1 hy1 => ?_)
  obtain rfl : (nI nd) = y1 := (hy1.trans (hnd)).symm
  refine lv_iload_n hx hb dX12_need1_8 rfl (lv_at hl 1 rfl) ?_
  refine va_iast (cA := k 71) (n := 28) (f := (vF 71)) hx hb hK hP hD hS 72 71 (WR_get 71 (by decide)) (TR_get 71 (by decide)) (vp_in_nI (show nd < 28 by omega) (by omega)) dX12_need1_9 (fun H locs hP hD hS => ?_)
  have hP : va_P (dC, dI) vwCl (WR a k h0 vi vj (fT vF 71 (upd (vF 71) ((nI nd)).toNatClampNeg kv)) vG) H := by rw [← WR_F 71 (by decide) _ rfl]; exact hP
  have hD : va_D A (WR a k h0 vi vj (fT vF 71 (upd (vF 71) ((nI nd)).toNatClampNeg kv)) vG) := by rw [← WR_F 71 (by decide) _ rfl]; exact hD
  refine lv_aload_n hx hb dX12_need1_10 rfl (lv_at hl 0 rfl) ?_
  refine va_get (D := (dC, dI)) (ci := 12) (v := .ref (a 72)) (C := RX12) (T := TX12) (N := 163) (fs := fM (vS a vi vj)) hx hb hts iwsRX12_need1_in12 hown hK hP 0 rfl rfl 121 (by decide) (hts (.fieldLink RX12 239 "OptimaWorksModel" "needOf" "[I") (by decide +kernel)) (fun _ h9 => h9) rfl dX12_need1_11 ?_
  refine lv_aload_n hx hb dX12_need1_14 rfl (lv_at hl 0 rfl) ?_
  refine va_get (D := (dC, dI)) (ci := 12) (v := .int (vi 119)) (C := RX12) (T := TX12) (N := 163) (fs := fM (vS a vi vj)) hx hb hts iwsRX12_need1_in12 hown hK hP 0 rfl rfl 119 (by decide) (hts (.fieldLink RX12 894 "OptimaWorksModel" "needs" "I") (by decide +kernel)) (fun _ h9 => h9) rfl dX12_need1_15 ?_
  refine lv_topi (fun y2 hy2 => ?_)
  obtain rfl : (nI nd) = y2 := (hy2.trans (hnd)).symm
  refine lv_iload_n hx hb dX12_need1_18 rfl (lv_at hl 2 rfl) ?_
  refine va_iast (cA := k 72) (n := 28) (f := (vF 72)) hx hb hK hP hD hS 73 72 (WR_get 72 (by decide)) (TR_get 72 (by decide)) (vp_in_nI (show nd < 28 by omega) (by omega)) dX12_need1_19 (fun H locs hP hD hS => ?_)
  have hP : va_P (dC, dI) vwCl (WR a k h0 vi vj (fT (fT vF 71 (upd (vF 71) ((nI nd)).toNatClampNeg kv)) 72 (upd (vF 72) ((nI nd)).toNatClampNeg ov)) vG) H := by rw [← WR_F 72 (by decide) _ rfl]; exact hP
  have hD : va_D A (WR a k h0 vi vj (fT (fT vF 71 (upd (vF 71) ((nI nd)).toNatClampNeg kv)) 72 (upd (vF 72) ((nI nd)).toNatClampNeg ov)) vG) := by rw [← WR_F 72 (by decide) _ rfl]; exact hD
  refine lv_aload_n hx hb dX12_need1_20 rfl (lv_at hl 0 rfl) ?_
  refine va_get (D := (dC, dI)) (ci := 12) (v := .ref (a 73)) (C := RX12) (T := TX12) (N := 163) (fs := fM (vS a vi vj)) hx hb hts iwsRX12_need1_in12 hown hK hP 0 rfl rfl 122 (by decide) (hts (.fieldLink RX12 242 "OptimaWorksModel" "needKept" "[I") (by decide +kernel)) (fun _ h9 => h9) rfl dX12_need1_21 ?_
  refine lv_aload_n hx hb dX12_need1_24 rfl (lv_at hl 0 rfl) ?_
  refine va_get (D := (dC, dI)) (ci := 12) (v := .int (vi 119)) (C := RX12) (T := TX12) (N := 163) (fs := fM (vS a vi vj)) hx hb hts iwsRX12_need1_in12 hown hK hP 0 rfl rfl 119 (by decide) (hts (.fieldLink RX12 894 "OptimaWorksModel" "needs" "I") (by decide +kernel)) (fun _ h9 => h9) rfl dX12_need1_25 ?_
  refine lv_topi (fun y3 hy3 => ?_)
  obtain rfl : (nI nd) = y3 := (hy3.trans (hnd)).symm
  refine lv_iconst (v := 1) hx hb dX12_need1_28 (by decide) ?_
  refine va_iast (cA := k 73) (n := 28) (f := (vF 73)) hx hb hK hP hD hS 74 73 (WR_get 73 (by decide)) (TR_get 73 (by decide)) (vp_in_nI (show nd < 28 by omega) (by omega)) dX12_need1_29 (fun H locs hP hD hS => ?_)
  have hP : va_P (dC, dI) vwCl (WR a k h0 vi vj (fT (fT (fT vF 71 (upd (vF 71) ((nI nd)).toNatClampNeg kv)) 72 (upd (vF 72) ((nI nd)).toNatClampNeg ov)) 73 (upd (vF 73) ((nI nd)).toNatClampNeg 1)) vG) H := by rw [← WR_F 73 (by decide) _ rfl]; exact hP
  have hD : va_D A (WR a k h0 vi vj (fT (fT (fT vF 71 (upd (vF 71) ((nI nd)).toNatClampNeg kv)) 72 (upd (vF 72) ((nI nd)).toNatClampNeg ov)) 73 (upd (vF 73) ((nI nd)).toNatClampNeg 1)) vG) := by rw [← WR_F 73 (by decide) _ rfl]; exact hD
  refine lv_aload_n hx hb dX12_need1_30 rfl (lv_at hl 0 rfl) ?_
  refine lv_dup hx hb dX12_need1_31 rfl ?_
  refine va_get (D := (dC, dI)) (ci := 12) (v := .int (vi 119)) (C := RX12) (T := TX12) (N := 163) (fs := fM (vS a vi vj)) hx hb hts iwsRX12_need1_in12 hown hK hP 0 rfl rfl 119 (by decide) (hts (.fieldLink RX12 894 "OptimaWorksModel" "needs" "I") (by decide +kernel)) (fun _ h9 => h9) rfl dX12_need1_32 ?_
  refine lv_topi (fun y4 hy4 => ?_)
  obtain rfl : (nI nd) = y4 := (hy4.trans (hnd)).symm
  refine lv_iconst (v := 1) hx hb dX12_need1_35 (by decide) ?_
  refine lv_iadd hx hb dX12_need1_36 ?_
  refine lv_topi (fun y5 hy5 => ?_)
  obtain rfl : (nI (nd + 1)) = y5 := (hy5.trans (nI_add nd 1)).symm
  refine va_put (D := (dC, dI)) (ci := 12) (v := .int (nI (nd + 1))) (ty := .int) (C := RX12) (T := TX12) (N := 163) (fs := fM (vS a vi vj)) hx hb hts iwsRX12_need1_in12 tyX12 tyX12_ok nmX12 hown hK hP hD hS 0 rfl rfl 119 (by decide) (hts (.fieldLink RX12 894 "OptimaWorksModel" "needs" "I") (by decide +kernel)) (fun _ h9 => h9) rfl (by decide +kernel) rfl rfl (Nat.le_of_ble_eq_true rfl) dX12_need1_37 (fun H locs hP hD hS => ?_)
  have hP : va_P (dC, dI) vwCl (WR a k h0 (fT vi 119 (nI (nd + 1))) vj (fT (fT (fT vF 71 (upd (vF 71) ((nI nd)).toNatClampNeg kv)) 72 (upd (vF 72) ((nI nd)).toNatClampNeg ov)) 73 (upd (vF 73) ((nI nd)).toNatClampNeg 1)) vG) H := by rw [← WR_i 119 _ rfl]; exact hP
  have hD : va_D A (WR a k h0 (fT vi 119 (nI (nd + 1))) vj (fT (fT (fT vF 71 (upd (vF 71) ((nI nd)).toNatClampNeg kv)) 72 (upd (vF 72) ((nI nd)).toNatClampNeg ov)) 73 (upd (vF 73) ((nI nd)).toNatClampNeg 1)) vG) := by rw [← WR_i 119 _ rfl]; exact hD
  refine W.widen (k := 0) (n := 0) (by decide +kernel) (by decide +kernel) ?_
  have e9 : fT (fT (fT vF 71 (upd (vF 71) (nI nd).toNatClampNeg kv)) 72 (upd (vF 72) (nI nd).toNatClampNeg ov)) 73 (upd (vF 73) (nI nd).toNatClampNeg 1) = fT (fT (fT vF 71 (upd (vF 71) ((nI nd)).toNatClampNeg kv)) 72 (upd (vF 72) ((nI nd)).toNatClampNeg ov)) 73 (upd (vF 73) ((nI nd)).toNatClampNeg 1) := by funext q9; by_cases h9_71 : q9 = 71; (subst h9_71; exact ((fT_ne _ _ (Nat.ne_of_beq_eq_false rfl)).trans ((fT_ne _ _ (Nat.ne_of_beq_eq_false rfl)).trans (fT_eq _ _ _))).trans (Eq.trans (by first | with_reducible rfl | with_reducible assumption | (symm; with_reducible assumption) | rfl | assumption | (symm; assumption) | (subst_vars; rfl)) ((fT_ne _ _ (Nat.ne_of_beq_eq_false rfl)).trans ((fT_ne _ _ (Nat.ne_of_beq_eq_false rfl)).trans (fT_eq _ _ _))).symm)); by_cases h9_72 : q9 = 72; (subst h9_72; exact ((fT_ne _ _ (Nat.ne_of_beq_eq_false rfl)).trans (fT_eq _ _ _)).trans (Eq.trans (by first | with_reducible rfl | with_reducible assumption | (symm; with_reducible assumption) | rfl | assumption | (symm; assumption) | (subst_vars; rfl)) ((fT_ne _ _ (Nat.ne_of_beq_eq_false rfl)).trans (fT_eq _ _ _)).symm)); by_cases h9_73 : q9 = 73; (subst h9_73; exact (fT_eq _ _ _).trans (Eq.trans (by first | with_reducible rfl | with_reducible assumption | (symm; with_reducible assumption) | rfl | assumption | (symm; assumption) | (subst_vars; rfl)) (fT_eq _ _ _).symm)); exact ((fT_ne _ _ h9_73).trans ((fT_ne _ _ h9_72).trans (fT_ne _ _ h9_71))).trans ((fT_ne _ _ h9_73).trans ((fT_ne _ _ h9_72).trans (fT_ne _ _ h9_71))).symm
  have hP : va_P (dC, dI) vwCl (WR a k h0 (fT vi 119 (nI (nd + 1))) vj (fT (fT (fT vF 71 (upd (vF 71) (nI nd).toNatClampNeg kv)) 72 (upd (vF 72) (nI nd).toNatClampNeg ov)) 73 (upd (vF 73) (nI nd).toNatClampNeg 1)) vG) H := by rw [e9]; exact hP
  have hD : va_D A (WR a k h0 (fT vi 119 (nI (nd + 1))) vj (fT (fT (fT vF 71 (upd (vF 71) (nI nd).toNatClampNeg kv)) 72 (upd (vF 72) (nI nd).toNatClampNeg ov)) 73 (upd (vF 73) (nI nd).toNatClampNeg 1)) vG) := by rw [e9]; exact hD
  clear e9
  exact W.vret hx hb hr (fun t9_ ht hW => ⟨⟨(), rfl, trivial, by rw [ht]; exact hP, hD⟩, hS.F ht⟩) hS.2.2 dX12_need1_40
theorem dX12_listNeeds_0 : decode cX12_listNeeds 0 = .ok (.aload_n 0, 1) := dk_42 (by decide +kernel)
theorem dX12_listNeeds_1 : decode cX12_listNeeds 1 = .ok (.iconst 0, 1) := dk_3 (by decide +kernel)
theorem dX12_listNeeds_2 : decode cX12_listNeeds 2 = .ok (.putfield 894, 3) := dk_181 (by decide +kernel)
theorem dX12_listNeeds_5 : decode cX12_listNeeds 5 = .ok (.iconst 0, 1) := dk_3 (by decide +kernel)
theorem dX12_listNeeds_6 : decode cX12_listNeeds 6 = .ok (.istore_n 1, 1) := dk_60 (by decide +kernel)
theorem dX12_listNeeds_7 : decode cX12_listNeeds 7 = .ok (.iload_n 1, 1) := dk_27 (by decide +kernel)
theorem dX12_listNeeds_8 : decode cX12_listNeeds 8 = .ok (.aload_n 0, 1) := dk_42 (by decide +kernel)
theorem dX12_listNeeds_9 : decode cX12_listNeeds 9 = .ok (.getfield 786, 3) := dk_180 (by decide +kernel)
theorem dX12_listNeeds_12 : decode cX12_listNeeds 12 = .ok (.if_icmp .ge 25, 3) := dk_162 (by decide +kernel)
theorem dX12_listNeeds_15 : decode cX12_listNeeds 15 = .ok (.aload_n 0, 1) := dk_42 (by decide +kernel)
theorem dX12_listNeeds_16 : decode cX12_listNeeds 16 = .ok (.getfield 200, 3) := dk_180 (by decide +kernel)
theorem dX12_listNeeds_19 : decode cX12_listNeeds 19 = .ok (.iload_n 1, 1) := dk_27 (by decide +kernel)
theorem dX12_listNeeds_20 : decode cX12_listNeeds 20 = .ok (.iaload, 1) := dk_46 (by decide +kernel)
theorem dX12_listNeeds_21 : decode cX12_listNeeds 21 = .ok (.iconst 1, 1) := dk_4 (by decide +kernel)
theorem dX12_listNeeds_22 : decode cX12_listNeeds 22 = .ok (.if_icmp .ne 9, 3) := dk_160 (by decide +kernel)
theorem dX12_listNeeds_25 : decode cX12_listNeeds 25 = .ok (.aload_n 0, 1) := dk_42 (by decide +kernel)
theorem dX12_listNeeds_26 : decode cX12_listNeeds 26 = .ok (.iconst 0, 1) := dk_3 (by decide +kernel)
theorem dX12_listNeeds_27 : decode cX12_listNeeds 27 = .ok (.iload_n 1, 1) := dk_27 (by decide +kernel)
theorem dX12_listNeeds_28 : decode cX12_listNeeds 28 = .ok (.invokevirtual 897, 3) := dk_182 (by decide +kernel)
theorem dX12_listNeeds_31 : decode cX12_listNeeds 31 = .ok (.iinc 1 1, 3) := dk_132 (by decide +kernel)
theorem dX12_listNeeds_34 : decode cX12_listNeeds 34 = .ok (.goto (-27), 3) := dk_167 (by decide +kernel)
theorem dX12_listNeeds_37 : decode cX12_listNeeds 37 = .ok (.iconst 0, 1) := dk_3 (by decide +kernel)
theorem dX12_listNeeds_38 : decode cX12_listNeeds 38 = .ok (.istore_n 1, 1) := dk_60 (by decide +kernel)
theorem dX12_listNeeds_39 : decode cX12_listNeeds 39 = .ok (.iload_n 1, 1) := dk_27 (by decide +kernel)
theorem dX12_listNeeds_40 : decode cX12_listNeeds 40 = .ok (.aload_n 0, 1) := dk_42 (by decide +kernel)
theorem dX12_listNeeds_41 : decode cX12_listNeeds 41 = .ok (.getfield 774, 3) := dk_180 (by decide +kernel)
theorem dX12_listNeeds_44 : decode cX12_listNeeds 44 = .ok (.if_icmp .ge 15, 3) := dk_162 (by decide +kernel)
theorem dX12_listNeeds_47 : decode cX12_listNeeds 47 = .ok (.aload_n 0, 1) := dk_42 (by decide +kernel)
theorem dX12_listNeeds_48 : decode cX12_listNeeds 48 = .ok (.iconst 1, 1) := dk_4 (by decide +kernel)
theorem dX12_listNeeds_49 : decode cX12_listNeeds 49 = .ok (.iload_n 1, 1) := dk_27 (by decide +kernel)
theorem dX12_listNeeds_50 : decode cX12_listNeeds 50 = .ok (.invokevirtual 897, 3) := dk_182 (by decide +kernel)
theorem dX12_listNeeds_53 : decode cX12_listNeeds 53 = .ok (.iinc 1 1, 3) := dk_132 (by decide +kernel)
theorem dX12_listNeeds_56 : decode cX12_listNeeds 56 = .ok (.goto (-17), 3) := dk_167 (by decide +kernel)
theorem dX12_listNeeds_59 : decode cX12_listNeeds 59 = .ok (.iconst 0, 1) := dk_3 (by decide +kernel)
theorem dX12_listNeeds_60 : decode cX12_listNeeds 60 = .ok (.istore_n 1, 1) := dk_60 (by decide +kernel)
theorem dX12_listNeeds_61 : decode cX12_listNeeds 61 = .ok (.iload_n 1, 1) := dk_27 (by decide +kernel)
theorem dX12_listNeeds_62 : decode cX12_listNeeds 62 = .ok (.aload_n 0, 1) := dk_42 (by decide +kernel)
theorem dX12_listNeeds_63 : decode cX12_listNeeds 63 = .ok (.getfield 774, 3) := dk_180 (by decide +kernel)
theorem dX12_listNeeds_66 : decode cX12_listNeeds 66 = .ok (.if_icmp .ge 15, 3) := dk_162 (by decide +kernel)
theorem dX12_listNeeds_69 : decode cX12_listNeeds 69 = .ok (.aload_n 0, 1) := dk_42 (by decide +kernel)
theorem dX12_listNeeds_70 : decode cX12_listNeeds 70 = .ok (.iconst 2, 1) := dk_5 (by decide +kernel)
theorem dX12_listNeeds_71 : decode cX12_listNeeds 71 = .ok (.iload_n 1, 1) := dk_27 (by decide +kernel)
theorem dX12_listNeeds_72 : decode cX12_listNeeds 72 = .ok (.invokevirtual 897, 3) := dk_182 (by decide +kernel)
theorem dX12_listNeeds_75 : decode cX12_listNeeds 75 = .ok (.iinc 1 1, 3) := dk_132 (by decide +kernel)
theorem dX12_listNeeds_78 : decode cX12_listNeeds 78 = .ok (.goto (-17), 3) := dk_167 (by decide +kernel)
theorem dX12_listNeeds_81 : decode cX12_listNeeds 81 = .ok (.return_, 1) := dk_177 (by decide +kernel)
def wsRX12_listNeeds : List Cond := .code yX12_listNeeds cX12_listNeeds 2 none :: ([.fieldLink RX12 894 "OptimaWorksModel" "needs" "I", .fieldLink RX12 786 "OptimaWorksModel" "modelRows" "I", .fieldLink RX12 774 "OptimaWorksModel" "variables" "I", .fieldLink RX12 200 "OptimaWorksModel" "wayMany" "[I"] ++ wsX120 ++ (wsV RX12 897 RX12 yX12_need1 wsRX12_need1))
theorem iwsRX12_listNeeds_in12 : ∀ w ∈ wsX120, w ∈ wsRX12_listNeeds := fun _ h => List.mem_cons_of_mem _ (List.mem_append_left _ (List.mem_append_right _ h))
theorem gwsRX12_listNeeds_0 : GoodIn wsRX12_listNeeds (wsV RX12 897 RX12 yX12_need1 wsRX12_need1) := goodIn_sub (fun _ h => List.mem_cons_of_mem _ (List.mem_append_right _ h)) (gdV (by decide +kernel) gdwsRX12_need1)
theorem gdwsRX12_listNeeds : wsRX12_listNeeds.all goodWord = true := gdC rfl (gdA (gdA (by decide +kernel : ([.fieldLink RX12 894 "OptimaWorksModel" "needs" "I", .fieldLink RX12 786 "OptimaWorksModel" "modelRows" "I", .fieldLink RX12 774 "OptimaWorksModel" "variables" "I", .fieldLink RX12 200 "OptimaWorksModel" "wayMany" "[I"] : List Cond).all goodWord = true) gdwsX120) (gdV (by decide +kernel) gdwsRX12_need1))
set_option maxHeartbeats 4000000 in
set_option maxRecDepth 100000 in
/-- listNeeds() -/
theorem r_X12_listNeeds (l : Launch) (dC : Nat → ClassId) (dI : Nat → Nat → Nat) (a : Nat → Nat) (k : Nat → ClassId) (h0 : Nat) (vi : Nat → Int32) (vj : Nat → Int64) (vF : Nat → Nat → Int32) (vG : Nat → Nat → Int64) (vn : Nat) (mr : Nat) (hvn : vi 90 = nI vn) (hvn8 : vn ≤ 8) (hmr : vi 91 = nI mr) (hmr12 : mr ≤ 12) (sz : Nat) : Met l yX12_listNeeds wsRX12_listNeeds ({ frames := 1, cells := 0, slots := 0, locals := 22 }) (va_Pc [.ref h0] (fun U => U.heap.size = sz ∧ va_P (dC, dI) vwCl (WR a k h0 vi vj vF vG) U.heap ∧ va_K (dC, dI) vwCl (tX12 k) U ∧ va_D (fun _ => True) (WR a k h0 vi vj vF vG))) (va_Qv (fun (u : (Nat → Int32) × (Nat → Int32) × (Nat → Int32) × (Nat) × (Nat)) => (NdO (u.1) (u.2.1) vn mr (u.2.2.2.1) (u.2.2.2.2))) (fun (u : (Nat → Int32) × (Nat → Int32) × (Nat → Int32) × (Nat) × (Nat)) t => va_P (dC, dI) vwCl (WR a k h0 (fT vi 119 (nI (u.2.2.2.2))) vj (fT (fT (fT vF 71 (u.1)) 72 (u.2.1)) 73 (u.2.2.1)) vG) t.heap ∧ va_D (va_A (WR a k h0 vi vj vF vG) sz) (WR a k h0 (fT vi 119 (nI (u.2.2.2.2))) vj (fT (fT (fT vF 71 (u.1)) 72 (u.2.1)) 73 (u.2.2.1)) vG)) (va_A (WR a k h0 vi vj vF vG) sz)) 0 0 (va_A (WR a k h0 vi vj vF vG) sz) := by
  refine Met.ofW (cc := cX12_listNeeds) (maxL := 2) (ret := none) (by decide) rfl ?_
  intro p e s m args below meth c s₁ B hml hv
  obtain ⟨rfl, hsz, hP, hK, hD0⟩ := hv
  have hx := B.exec
  have hb := B.bytes
  have hr := B.returns
  have hts := atoms_spec (ws := wsRX12_listNeeds) B.pre
  have hown : s.vm.findClass RX12 = some m.cls := findClass_of_methodNamed B.named
  have hlocks := B.notSynchronized
  subst hsz
  have hD := hD0.self (sz := s.heap.size)
  generalize hAe : va_A (WR a k h0 vi vj vF vG) s.heap.size = A at hD ⊢
  have hA : ∀ q : Nat, s.heap.size ≤ q → A q := fun q h => by rw [← hAe]; exact Or.inr h
  have hS : va_S A s.heap s.heap [] := va_S.rf
  have hl := lv_entry ([.ref h0]) (n := 2) (Nat.le_of_ble_eq_true rfl)
  rw [lg_entry_eq]
  generalize (lg_sl ([.ref h0]) ++ List.replicate (2 - (lg_sl ([.ref h0])).length) Slot.unset).toArray = ls at hl ⊢
  have hl : lv_has ls 2 [(0, .ref h0)] := hl
  have z9 := nI_0
  refine lv_aload_n hx hb dX12_listNeeds_0 rfl (lv_at hl 0 rfl) ?_
  refine lv_iconst (v := 0) hx hb dX12_listNeeds_1 (by decide) ?_
  refine va_put (D := (dC, dI)) (ci := 12) (v := .int 0) (ty := .int) (C := RX12) (T := TX12) (N := 163) (fs := fM (vS a vi vj)) hx hb hts iwsRX12_listNeeds_in12 tyX12 tyX12_ok nmX12 hown hK hP hD hS 0 rfl rfl 119 (by decide) (hts (.fieldLink RX12 894 "OptimaWorksModel" "needs" "I") (by decide +kernel)) (fun _ h9 => h9) rfl (by decide +kernel) rfl rfl (Nat.le_of_ble_eq_true rfl) dX12_listNeeds_2 (fun H locs hP hD hS => ?_)
  have hP : va_P (dC, dI) vwCl (WR a k h0 (fT vi 119 0) vj vF vG) H := by rw [← WR_i 119 _ rfl]; exact hP
  have hD : va_D A (WR a k h0 (fT vi 119 0) vj vF vG) := by rw [← WR_i 119 _ rfl]; exact hD
  refine lv_iconst (v := 0) hx hb dX12_listNeeds_5 (by decide) ?_
  refine lv_istore_n hx hb dX12_listNeeds_6 rfl hl (by decide) rfl (fun ls (hl : lv_has ls _ ([(1, .int 0), (0, .ref h0)])) => ?_)
  have e9 : fT vi 119 (nI 0) = fT vi 119 0 := by funext q9; by_cases h9_119 : q9 = 119; (subst h9_119; exact (fT_eq _ _ _).trans (Eq.trans (by first | with_reducible rfl | with_reducible assumption | (symm; with_reducible assumption) | rfl | assumption | (symm; assumption) | (subst_vars; rfl)) (fT_eq _ _ _).symm)); exact (fT_ne _ _ h9_119).trans (fT_ne _ _ h9_119).symm
  have hP : va_P (dC, dI) vwCl (WR a k h0 (fT vi 119 (nI 0)) vj vF vG) H := by rw [e9]; exact hP
  have hD : va_D A (WR a k h0 (fT vi 119 (nI 0)) vj vF vG) := by rw [e9]; exact hD
  clear e9
  have e9 : fT (fT (fT vF 71 (vF 71)) 72 (vF 72)) 73 (vF 73) = vF := by funext q9; by_cases h9_71 : q9 = 71; (subst h9_71; exact ((fT_ne _ _ (Nat.ne_of_beq_eq_false rfl)).trans ((fT_ne _ _ (Nat.ne_of_beq_eq_false rfl)).trans (fT_eq _ _ _))).trans (Eq.trans (by first | with_reducible rfl | with_reducible assumption | (symm; with_reducible assumption) | rfl | assumption | (symm; assumption) | (subst_vars; rfl)) (Eq.refl _).symm)); by_cases h9_72 : q9 = 72; (subst h9_72; exact ((fT_ne _ _ (Nat.ne_of_beq_eq_false rfl)).trans (fT_eq _ _ _)).trans (Eq.trans (by first | with_reducible rfl | with_reducible assumption | (symm; with_reducible assumption) | rfl | assumption | (symm; assumption) | (subst_vars; rfl)) (Eq.refl _).symm)); by_cases h9_73 : q9 = 73; (subst h9_73; exact (fT_eq _ _ _).trans (Eq.trans (by first | with_reducible rfl | with_reducible assumption | (symm; with_reducible assumption) | rfl | assumption | (symm; assumption) | (subst_vars; rfl)) (Eq.refl _).symm)); exact ((fT_ne _ _ h9_73).trans ((fT_ne _ _ h9_72).trans (fT_ne _ _ h9_71))).trans (Eq.refl _).symm
  have hP : va_P (dC, dI) vwCl (WR a k h0 (fT vi 119 (nI 0)) vj (fT (fT (fT vF 71 (vF 71)) 72 (vF 72)) 73 (vF 73)) vG) H := by rw [e9]; exact hP
  have hD : va_D A (WR a k h0 (fT vi 119 (nI 0)) vj (fT (fT (fT vF 71 (vF 71)) 72 (vF 72)) 73 (vF 73)) vG) := by rw [e9]; exact hD
  clear e9
  have hl : lv_has _ _ ([(0, .ref h0), (1, .int (nI 0))]) := lv_sub hl [1, 0] rfl
  refine (fun (loop : ∀ (n9 : Nat) (r5 : Nat) (z : Nat) (f71x : Nat → Int32) (f72x : Nat → Int32) (f73x : Nat → Int32) (H : Heap) (locs : List Loc) (ls : Array Slot), (r5 ≤ mr) → (z ≤ r5) → (∀ i, i < z → f71x i = 0 ∧ ∃ o, o < mr ∧ f72x i = nI o) →  (mr < r5 + n9) → va_P (dC, dI) vwCl (WR a k h0 (fT vi 119 (nI z)) vj (fT (fT (fT vF 71 f71x) 72 f72x) 73 f73x) vG) H → va_D A (WR a k h0 (fT vi 119 (nI z)) vj (fT (fT (fT vF 71 f71x) 72 f72x) 73 f73x) vG) → va_S A s.heap H locs → lv_has ls 2 [(0, .ref h0), (1, .int (nI r5))] → W p l e _ s m _ below meth c H locs 0 0 _ (F0 m 7 ls [])) => loop (mr + 1) 0 0 (vF 71) (vF 72) (vF 73) _ _ _ (by omega) (by omega) (fun i hi => absurd hi (by omega)) (by omega) hP hD hS hl) ?_
  intro n9
  induction n9 with
  | zero => intro r5 z f71x f72x f73x H locs ls hr5 hz hr1 hf9; exact False.elim (by omega)
  | succ n9 ih7 =>
    intro r5 z f71x f72x f73x H locs ls hr5 hz hr1 hf7 hP hD hS hl
    refine lv_iload_n hx hb dX12_listNeeds_7 rfl (lv_at hl 1 rfl) ?_
    refine lv_aload_n hx hb dX12_listNeeds_8 rfl (lv_at hl 0 rfl) ?_
    refine va_get (D := (dC, dI)) (ci := 12) (v := .int (vi 91)) (C := RX12) (T := TX12) (N := 163) (fs := fM (vS a (fT vi 119 (nI z)) vj)) hx hb hts iwsRX12_listNeeds_in12 hown hK hP 0 rfl rfl 91 (by decide) (hts (.fieldLink RX12 786 "OptimaWorksModel" "modelRows" "I") (by decide +kernel)) (fun _ h9 => h9) rfl dX12_listNeeds_9 ?_
    refine lv_topi (fun y1 hy1 => ?_)
    obtain rfl : (nI mr) = y1 := (hy1.trans (hmr)).symm
    refine lv_icmp_ge (tgt := 37) hx hb dX12_listNeeds_12 (by decide) (fun c_12 => ?_) (fun c_12 => ?_)
    · have t_12 : ((r5 : Nat) : Int) ≥ ((mr : Nat) : Int) := toI_ge c_12 (nI_toInt (by omega)) (nI_toInt (by omega))
      refine lv_iconst (v := 0) hx hb dX12_listNeeds_37 (by decide) ?_
      refine lv_istore_n hx hb dX12_listNeeds_38 rfl hl (by decide) rfl (fun ls (hl : lv_has ls _ ([(1, .int 0), (0, .ref h0)])) => ?_)
      have e9 : fT vi 119 (nI (z + 0)) = fT vi 119 (nI z) := by funext q9; by_cases h9_119 : q9 = 119; (subst h9_119; exact (fT_eq _ _ _).trans (Eq.trans (by first | with_reducible rfl | with_reducible assumption | (symm; with_reducible assumption) | rfl | assumption | (symm; assumption) | (subst_vars; rfl)) (fT_eq _ _ _).symm)); exact (fT_ne _ _ h9_119).trans (fT_ne _ _ h9_119).symm
      have hP : va_P (dC, dI) vwCl (WR a k h0 (fT vi 119 (nI (z + 0))) vj (fT (fT (fT vF 71 f71x) 72 f72x) 73 f73x) vG) H := by rw [e9]; exact hP
      have hD : va_D A (WR a k h0 (fT vi 119 (nI (z + 0))) vj (fT (fT (fT vF 71 f71x) 72 f72x) 73 f73x) vG) := by rw [e9]; exact hD
      clear e9
      have hl : lv_has _ _ ([(0, .ref h0), (1, .int (nI 0))]) := lv_sub hl [1, 0] rfl
      refine (fun (loop : ∀ (n9 : Nat) (k6 : Nat) (f71y : Nat → Int32) (f72y : Nat → Int32) (f73y : Nat → Int32) (H : Heap) (locs : List Loc) (ls : Array Slot), (k6 ≤ vn) → (∀ i, i < z → f71y i = 0 ∧ ∃ o, o < mr ∧ f72y i = nI o) → (∀ i, z ≤ i → i < z + k6 → (f71y i = 1 ∨ f71y i = 2) ∧ ∃ o, o < vn ∧ f72y i = nI o) →  (vn < k6 + n9) → va_P (dC, dI) vwCl (WR a k h0 (fT vi 119 (nI (z + k6))) vj (fT (fT (fT vF 71 f71y) 72 f72y) 73 f73y) vG) H → va_D A (WR a k h0 (fT vi 119 (nI (z + k6))) vj (fT (fT (fT vF 71 f71y) 72 f72y) 73 f73y) vG) → va_S A s.heap H locs → lv_has ls 2 [(0, .ref h0), (1, .int (nI k6))] → W p l e _ s m _ below meth c H locs 0 0 _ (F0 m 39 ls [])) => loop (vn + 1) 0 f71x f72x f73x _ _ _ (by omega) (hr1) (fun i h1 h2 => absurd h2 (by omega)) (by omega) hP hD hS hl) ?_
      intro n9
      induction n9 with
      | zero => intro k6 f71y f72y f73y H locs ls hk6 hr2 hv2 hf9; exact False.elim (by omega)
      | succ n9 ih39_1 =>
        intro k6 f71y f72y f73y H locs ls hk6 hr2 hv2 hf39_1 hP hD hS hl
        refine lv_iload_n hx hb dX12_listNeeds_39 rfl (lv_at hl 1 rfl) ?_
        refine lv_aload_n hx hb dX12_listNeeds_40 rfl (lv_at hl 0 rfl) ?_
        refine va_get (D := (dC, dI)) (ci := 12) (v := .int (vi 90)) (C := RX12) (T := TX12) (N := 163) (fs := fM (vS a (fT vi 119 (nI (z + k6))) vj)) hx hb hts iwsRX12_listNeeds_in12 hown hK hP 0 rfl rfl 90 (by decide) (hts (.fieldLink RX12 774 "OptimaWorksModel" "variables" "I") (by decide +kernel)) (fun _ h9 => h9) rfl dX12_listNeeds_41 ?_
        refine lv_topi (fun y2 hy2 => ?_)
        obtain rfl : (nI vn) = y2 := (hy2.trans (hvn)).symm
        refine lv_icmp_ge (tgt := 59) hx hb dX12_listNeeds_44 (by decide) (fun c_44 => ?_) (fun c_44 => ?_)
        · have t_44 : ((k6 : Nat) : Int) ≥ ((vn : Nat) : Int) := toI_ge c_44 (nI_toInt (by omega)) (nI_toInt (by omega))
          refine lv_iconst (v := 0) hx hb dX12_listNeeds_59 (by decide) ?_
          refine lv_istore_n hx hb dX12_listNeeds_60 rfl hl (by decide) rfl (fun ls (hl : lv_has ls _ ([(1, .int 0), (0, .ref h0)])) => ?_)
          have e9 : fT vi 119 (nI (z + k6 + 0)) = fT vi 119 (nI (z + k6)) := by funext q9; by_cases h9_119 : q9 = 119; (subst h9_119; exact (fT_eq _ _ _).trans (Eq.trans (by first | with_reducible rfl | with_reducible assumption | (symm; with_reducible assumption) | rfl | assumption | (symm; assumption) | (subst_vars; rfl)) (fT_eq _ _ _).symm)); exact (fT_ne _ _ h9_119).trans (fT_ne _ _ h9_119).symm
          have hP : va_P (dC, dI) vwCl (WR a k h0 (fT vi 119 (nI (z + k6 + 0))) vj (fT (fT (fT vF 71 f71y) 72 f72y) 73 f73y) vG) H := by rw [e9]; exact hP
          have hD : va_D A (WR a k h0 (fT vi 119 (nI (z + k6 + 0))) vj (fT (fT (fT vF 71 f71y) 72 f72y) 73 f73y) vG) := by rw [e9]; exact hD
          clear e9
          have hl : lv_has _ _ ([(0, .ref h0), (1, .int (nI 0))]) := lv_sub hl [1, 0] rfl
          refine (fun (loop : ∀ (n9 : Nat) (k7 : Nat) (f71w : Nat → Int32) (f72w : Nat → Int32) (f73w : Nat → Int32) (H : Heap) (locs : List Loc) (ls : Array Slot), (k7 ≤ vn) → (∀ i, i < z → f71w i = 0 ∧ ∃ o, o < mr ∧ f72w i = nI o) → (∀ i, z ≤ i → i < z + k6 + k7 → (f71w i = 1 ∨ f71w i = 2) ∧ ∃ o, o < vn ∧ f72w i = nI o) →  (vn < k7 + n9) → va_P (dC, dI) vwCl (WR a k h0 (fT vi 119 (nI (z + k6 + k7))) vj (fT (fT (fT vF 71 f71w) 72 f72w) 73 f73w) vG) H → va_D A (WR a k h0 (fT vi 119 (nI (z + k6 + k7))) vj (fT (fT (fT vF 71 f71w) 72 f72w) 73 f73w) vG) → va_S A s.heap H locs → lv_has ls 2 [(0, .ref h0), (1, .int (nI k7))] → W p l e _ s m _ below meth c H locs 0 0 _ (F0 m 61 ls [])) => loop (vn + 1) 0 f71y f72y f73y _ _ _ (by omega) (hr2) (hv2) (by omega) hP hD hS hl) ?_
          intro n9
          induction n9 with
          | zero => intro k7 f71w f72w f73w H locs ls hk7 hr3 hv3 hf9; exact False.elim (by omega)
          | succ n9 ih61_2 =>
            intro k7 f71w f72w f73w H locs ls hk7 hr3 hv3 hf61_2 hP hD hS hl
            refine lv_iload_n hx hb dX12_listNeeds_61 rfl (lv_at hl 1 rfl) ?_
            refine lv_aload_n hx hb dX12_listNeeds_62 rfl (lv_at hl 0 rfl) ?_
            refine va_get (D := (dC, dI)) (ci := 12) (v := .int (vi 90)) (C := RX12) (T := TX12) (N := 163) (fs := fM (vS a (fT vi 119 (nI (z + k6 + k7))) vj)) hx hb hts iwsRX12_listNeeds_in12 hown hK hP 0 rfl rfl 90 (by decide) (hts (.fieldLink RX12 774 "OptimaWorksModel" "variables" "I") (by decide +kernel)) (fun _ h9 => h9) rfl dX12_listNeeds_63 ?_
            refine lv_topi (fun y3 hy3 => ?_)
            obtain rfl : (nI vn) = y3 := (hy3.trans (hvn)).symm
            refine lv_icmp_ge (tgt := 81) hx hb dX12_listNeeds_66 (by decide) (fun c_66 => ?_) (fun c_66 => ?_)
            · have t_66 : ((k7 : Nat) : Int) ≥ ((vn : Nat) : Int) := toI_ge c_66 (nI_toInt (by omega)) (nI_toInt (by omega))
              refine W.widen (k := 0) (n := 0) (by decide +kernel) (by decide +kernel) ?_
              exact W.vret hx hb hr (fun t9_ ht hW => ⟨⟨(f71w, f72w, f73w, z, (z + k6 + k7)), rfl, by (try dsimp only); exact ⟨by omega, by omega, by omega, hr3, hv3⟩, by rw [ht]; exact hP, hD⟩, hS.F ht⟩) hS.2.2 dX12_listNeeds_81
            · have t_66 : ¬ ((k7 : Nat) : Int) ≥ ((vn : Nat) : Int) := toI_nge c_66 (nI_toInt (by omega)) (nI_toInt (by omega))
              refine lv_aload_n hx hb dX12_listNeeds_69 rfl (lv_at hl 0 rfl) ?_
              refine lv_iconst (v := 2) hx hb dX12_listNeeds_70 (by decide) ?_
              refine lv_iload_n hx hb dX12_listNeeds_71 rfl (lv_at hl 1 rfl) ?_
              have hFc := allFree hD hS hA
              refine va_callv (va_runV (As := [.int 2, .int (nI k7)]) (rest := []) ⟨hx, hb, hml, hown, hts⟩ (r_X12_need1 l dC dI a k h0 (fT vi 119 (nI (z + k6 + k7))) vj (fT (fT (fT vF 71 f71w) 72 f72w) 73 f73w) vG 2 (nI k7) (z + k6 + k7) (rfl) (by first | with_reducible assumption | decide | omega | rfl | assumption) H.size) (cwV 2 hts gwsRX12_listNeeds_0 rfl rfl rfl hd_yX12_need1_RX12 (by decide +kernel)) (fz_pre (va_recv hK hP (ci := 12) (q0 := 0) rfl rfl) hP hK hD) rfl rfl hl.1 rfl (lv_room (Nat.le_of_ble_eq_true rfl)) dX12_listNeeds_72 (by decide +kernel)) hS (fun q _ h => hFc q h) hFc (fun u t9_ H locs ht hvm hw9 hB9 hz1 hk1 hS => ?_)
              have hP : va_P (dC, dI) vwCl (WR a k h0 (fT (fT vi 119 (nI (z + k6 + k7))) 119 (nI ((z + k6 + k7) + 1))) vj (fT (fT (fT (fT (fT (fT vF 71 f71w) 72 f72w) 73 f73w) 71 (upd f71w (nI (z + k6 + k7)).toNatClampNeg 2)) 72 (upd f72w (nI (z + k6 + k7)).toNatClampNeg (nI k7))) 73 (upd f73w (nI (z + k6 + k7)).toNatClampNeg 1)) vG) H := fz_P ht hB9.1
              have hD : va_D A (WR a k h0 (fT (fT vi 119 (nI (z + k6 + k7))) 119 (nI ((z + k6 + k7) + 1))) vj (fT (fT (fT (fT (fT (fT vF 71 f71w) 72 f72w) 73 f73w) 71 (upd f71w (nI (z + k6 + k7)).toNatClampNeg 2)) 72 (upd f72w (nI (z + k6 + k7)).toNatClampNeg (nI k7))) 73 (upd f73w (nI (z + k6 + k7)).toNatClampNeg 1)) vG) := hB9.2.weaken (fun _ q _ h => hFc q.1 h)
              have e9 : fT vi 119 (nI ((z + k6 + k7) + 1)) = fT (fT vi 119 (nI (z + k6 + k7))) 119 (nI ((z + k6 + k7) + 1)) := (fT_sm _ _ _ _).symm
              rw [← e9] at hP hD
              clear e9
              have e9 : fT (fT (fT vF 71 (upd f71w (nI (z + k6 + k7)).toNatClampNeg 2)) 72 (upd f72w (nI (z + k6 + k7)).toNatClampNeg (nI k7))) 73 (upd f73w (nI (z + k6 + k7)).toNatClampNeg 1) = fT (fT (fT (fT (fT (fT vF 71 f71w) 72 f72w) 73 f73w) 71 (upd f71w (nI (z + k6 + k7)).toNatClampNeg 2)) 72 (upd f72w (nI (z + k6 + k7)).toNatClampNeg (nI k7))) 73 (upd f73w (nI (z + k6 + k7)).toNatClampNeg 1) := ((congrArg (fun g9 => fT (fT g9 72 (upd f72w (nI (z + k6 + k7)).toNatClampNeg (nI k7))) 73 (upd f73w (nI (z + k6 + k7)).toNatClampNeg 1)) ((fT_sw _ _ _ (Nat.ne_of_beq_eq_false rfl)).trans (congrArg (fun g9 => fT g9 73 f73w) ((fT_sw _ _ _ (Nat.ne_of_beq_eq_false rfl)).trans (congrArg (fun g9 => fT g9 72 f72w) (fT_sm _ _ _ _)))))).trans ((congrArg (fun g9 => fT g9 73 (upd f73w (nI (z + k6 + k7)).toNatClampNeg 1)) ((fT_sw _ _ _ (Nat.ne_of_beq_eq_false rfl)).trans (congrArg (fun g9 => fT g9 73 f73w) (fT_sm _ _ _ _)))).trans (fT_sm _ _ _ _))).symm
              rw [← e9] at hP hD
              clear e9
              have hP : va_P (dC, dI) vwCl (WR a k h0 (fT vi 119 (nI ((z + k6 + k7) + 1))) vj (fT (fT (fT vF 71 (upd f71w (nI (z + k6 + k7)).toNatClampNeg 2)) 72 (upd f72w (nI (z + k6 + k7)).toNatClampNeg (nI k7))) 73 (upd f73w (nI (z + k6 + k7)).toNatClampNeg 1)) vG) H := hP
              have hD : va_D A (WR a k h0 (fT vi 119 (nI ((z + k6 + k7) + 1))) vj (fT (fT (fT vF 71 (upd f71w (nI (z + k6 + k7)).toNatClampNeg 2)) 72 (upd f72w (nI (z + k6 + k7)).toNatClampNeg (nI k7))) 73 (upd f73w (nI (z + k6 + k7)).toNatClampNeg 1)) vG) := hD
              refine lv_iinc (v := (nI (k7 + 1))) hx hb dX12_listNeeds_75 hl (k := 1) rfl (nI_add k7 1) (by decide) rfl (fun ls (hl : lv_has ls _ ([(1, .int (nI (k7 + 1))), (0, .ref h0)])) => ?_)
              refine lv_goto (tgt := 61) hx hb dX12_listNeeds_78 (by decide) ?_
              have e9 : fT vi 119 (nI (z + k6 + (k7 + 1))) = fT vi 119 (nI ((z + k6 + k7) + 1)) := by funext q9; by_cases h9_119 : q9 = 119; (subst h9_119; exact (fT_eq _ _ _).trans (Eq.trans (by first | with_reducible rfl | with_reducible assumption | (symm; with_reducible assumption) | rfl | assumption | (symm; assumption) | (subst_vars; rfl)) (fT_eq _ _ _).symm)); exact (fT_ne _ _ h9_119).trans (fT_ne _ _ h9_119).symm
              have hP : va_P (dC, dI) vwCl (WR a k h0 (fT vi 119 (nI (z + k6 + (k7 + 1)))) vj (fT (fT (fT vF 71 (upd f71w (nI (z + k6 + k7)).toNatClampNeg 2)) 72 (upd f72w (nI (z + k6 + k7)).toNatClampNeg (nI k7))) 73 (upd f73w (nI (z + k6 + k7)).toNatClampNeg 1)) vG) H := by rw [e9]; exact hP
              have hD : va_D A (WR a k h0 (fT vi 119 (nI (z + k6 + (k7 + 1)))) vj (fT (fT (fT vF 71 (upd f71w (nI (z + k6 + k7)).toNatClampNeg 2)) 72 (upd f72w (nI (z + k6 + k7)).toNatClampNeg (nI k7))) 73 (upd f73w (nI (z + k6 + k7)).toNatClampNeg 1)) vG) := by rw [e9]; exact hD
              clear e9
              have hl : lv_has _ _ ([(0, .ref h0), (1, .int (nI (k7 + 1)))]) := lv_sub hl [1, 0] rfl
              exact ih61_2 (k7 + 1) (upd f71w (nI (z + k6 + k7)).toNatClampNeg 2) (upd f72w (nI (z + k6 + k7)).toNatClampNeg (nI k7)) (upd f73w (nI (z + k6 + k7)).toNatClampNeg 1) _ _ _ (by omega) (fun i hi => by rw [upd_at (by omega), upd_at (by omega), if_neg (by omega), if_neg (by omega)]; exact hr3 i hi) (fun i hi1 hi2 => by rw [upd_at (by omega), upd_at (by omega)]; by_cases e9 : i = z + k6 + k7; (rw [if_pos e9, if_pos e9]; exact ⟨Or.inr rfl, k7, by omega, rfl⟩); (rw [if_neg e9, if_neg e9]; exact hv3 i hi1 (by omega))) (by omega) hP hD hS hl
        · have t_44 : ¬ ((k6 : Nat) : Int) ≥ ((vn : Nat) : Int) := toI_nge c_44 (nI_toInt (by omega)) (nI_toInt (by omega))
          refine lv_aload_n hx hb dX12_listNeeds_47 rfl (lv_at hl 0 rfl) ?_
          refine lv_iconst (v := 1) hx hb dX12_listNeeds_48 (by decide) ?_
          refine lv_iload_n hx hb dX12_listNeeds_49 rfl (lv_at hl 1 rfl) ?_
          have hFc := allFree hD hS hA
          refine va_callv (va_runV (As := [.int 1, .int (nI k6)]) (rest := []) ⟨hx, hb, hml, hown, hts⟩ (r_X12_need1 l dC dI a k h0 (fT vi 119 (nI (z + k6))) vj (fT (fT (fT vF 71 f71y) 72 f72y) 73 f73y) vG 1 (nI k6) (z + k6) (rfl) (by first | with_reducible assumption | decide | omega | rfl | assumption) H.size) (cwV 2 hts gwsRX12_listNeeds_0 rfl rfl rfl hd_yX12_need1_RX12 (by decide +kernel)) (fz_pre (va_recv hK hP (ci := 12) (q0 := 0) rfl rfl) hP hK hD) rfl rfl hl.1 rfl (lv_room (Nat.le_of_ble_eq_true rfl)) dX12_listNeeds_50 (by decide +kernel)) hS (fun q _ h => hFc q h) hFc (fun u t9_ H locs ht hvm hw9 hB9 hz1 hk1 hS => ?_)
          have hP : va_P (dC, dI) vwCl (WR a k h0 (fT (fT vi 119 (nI (z + k6))) 119 (nI ((z + k6) + 1))) vj (fT (fT (fT (fT (fT (fT vF 71 f71y) 72 f72y) 73 f73y) 71 (upd f71y (nI (z + k6)).toNatClampNeg 1)) 72 (upd f72y (nI (z + k6)).toNatClampNeg (nI k6))) 73 (upd f73y (nI (z + k6)).toNatClampNeg 1)) vG) H := fz_P ht hB9.1
          have hD : va_D A (WR a k h0 (fT (fT vi 119 (nI (z + k6))) 119 (nI ((z + k6) + 1))) vj (fT (fT (fT (fT (fT (fT vF 71 f71y) 72 f72y) 73 f73y) 71 (upd f71y (nI (z + k6)).toNatClampNeg 1)) 72 (upd f72y (nI (z + k6)).toNatClampNeg (nI k6))) 73 (upd f73y (nI (z + k6)).toNatClampNeg 1)) vG) := hB9.2.weaken (fun _ q _ h => hFc q.1 h)
          have e9 : fT vi 119 (nI ((z + k6) + 1)) = fT (fT vi 119 (nI (z + k6))) 119 (nI ((z + k6) + 1)) := (fT_sm _ _ _ _).symm
          rw [← e9] at hP hD
          clear e9
          have e9 : fT (fT (fT vF 71 (upd f71y (nI (z + k6)).toNatClampNeg 1)) 72 (upd f72y (nI (z + k6)).toNatClampNeg (nI k6))) 73 (upd f73y (nI (z + k6)).toNatClampNeg 1) = fT (fT (fT (fT (fT (fT vF 71 f71y) 72 f72y) 73 f73y) 71 (upd f71y (nI (z + k6)).toNatClampNeg 1)) 72 (upd f72y (nI (z + k6)).toNatClampNeg (nI k6))) 73 (upd f73y (nI (z + k6)).toNatClampNeg 1) := ((congrArg (fun g9 => fT (fT g9 72 (upd f72y (nI (z + k6)).toNatClampNeg (nI k6))) 73 (upd f73y (nI (z + k6)).toNatClampNeg 1)) ((fT_sw _ _ _ (Nat.ne_of_beq_eq_false rfl)).trans (congrArg (fun g9 => fT g9 73 f73y) ((fT_sw _ _ _ (Nat.ne_of_beq_eq_false rfl)).trans (congrArg (fun g9 => fT g9 72 f72y) (fT_sm _ _ _ _)))))).trans ((congrArg (fun g9 => fT g9 73 (upd f73y (nI (z + k6)).toNatClampNeg 1)) ((fT_sw _ _ _ (Nat.ne_of_beq_eq_false rfl)).trans (congrArg (fun g9 => fT g9 73 f73y) (fT_sm _ _ _ _)))).trans (fT_sm _ _ _ _))).symm
          rw [← e9] at hP hD
          clear e9
          have hP : va_P (dC, dI) vwCl (WR a k h0 (fT vi 119 (nI ((z + k6) + 1))) vj (fT (fT (fT vF 71 (upd f71y (nI (z + k6)).toNatClampNeg 1)) 72 (upd f72y (nI (z + k6)).toNatClampNeg (nI k6))) 73 (upd f73y (nI (z + k6)).toNatClampNeg 1)) vG) H := hP
          have hD : va_D A (WR a k h0 (fT vi 119 (nI ((z + k6) + 1))) vj (fT (fT (fT vF 71 (upd f71y (nI (z + k6)).toNatClampNeg 1)) 72 (upd f72y (nI (z + k6)).toNatClampNeg (nI k6))) 73 (upd f73y (nI (z + k6)).toNatClampNeg 1)) vG) := hD
          refine lv_iinc (v := (nI (k6 + 1))) hx hb dX12_listNeeds_53 hl (k := 1) rfl (nI_add k6 1) (by decide) rfl (fun ls (hl : lv_has ls _ ([(1, .int (nI (k6 + 1))), (0, .ref h0)])) => ?_)
          refine lv_goto (tgt := 39) hx hb dX12_listNeeds_56 (by decide) ?_
          have e9 : fT vi 119 (nI (z + (k6 + 1))) = fT vi 119 (nI ((z + k6) + 1)) := by funext q9; by_cases h9_119 : q9 = 119; (subst h9_119; exact (fT_eq _ _ _).trans (Eq.trans (by first | with_reducible rfl | with_reducible assumption | (symm; with_reducible assumption) | rfl | assumption | (symm; assumption) | (subst_vars; rfl)) (fT_eq _ _ _).symm)); exact (fT_ne _ _ h9_119).trans (fT_ne _ _ h9_119).symm
          have hP : va_P (dC, dI) vwCl (WR a k h0 (fT vi 119 (nI (z + (k6 + 1)))) vj (fT (fT (fT vF 71 (upd f71y (nI (z + k6)).toNatClampNeg 1)) 72 (upd f72y (nI (z + k6)).toNatClampNeg (nI k6))) 73 (upd f73y (nI (z + k6)).toNatClampNeg 1)) vG) H := by rw [e9]; exact hP
          have hD : va_D A (WR a k h0 (fT vi 119 (nI (z + (k6 + 1)))) vj (fT (fT (fT vF 71 (upd f71y (nI (z + k6)).toNatClampNeg 1)) 72 (upd f72y (nI (z + k6)).toNatClampNeg (nI k6))) 73 (upd f73y (nI (z + k6)).toNatClampNeg 1)) vG) := by rw [e9]; exact hD
          clear e9
          have hl : lv_has _ _ ([(0, .ref h0), (1, .int (nI (k6 + 1)))]) := lv_sub hl [1, 0] rfl
          exact ih39_1 (k6 + 1) (upd f71y (nI (z + k6)).toNatClampNeg 1) (upd f72y (nI (z + k6)).toNatClampNeg (nI k6)) (upd f73y (nI (z + k6)).toNatClampNeg 1) _ _ _ (by omega) (fun i hi => by rw [upd_at (by omega), upd_at (by omega), if_neg (by omega), if_neg (by omega)]; exact hr2 i hi) (fun i hi1 hi2 => by rw [upd_at (by omega), upd_at (by omega)]; by_cases e9 : i = z + k6; (rw [if_pos e9, if_pos e9]; exact ⟨Or.inl rfl, k6, by omega, rfl⟩); (rw [if_neg e9, if_neg e9]; exact hv2 i hi1 (by omega))) (by omega) hP hD hS hl
    · have t_12 : ¬ ((r5 : Nat) : Int) ≥ ((mr : Nat) : Int) := toI_nge c_12 (nI_toInt (by omega)) (nI_toInt (by omega))
      refine lv_aload_n hx hb dX12_listNeeds_15 rfl (lv_at hl 0 rfl) ?_
      refine va_get (D := (dC, dI)) (ci := 12) (v := .ref (a 59)) (C := RX12) (T := TX12) (N := 163) (fs := fM (vS a (fT vi 119 (nI z)) vj)) hx hb hts iwsRX12_listNeeds_in12 hown hK hP 0 rfl rfl 99 (by decide) (hts (.fieldLink RX12 200 "OptimaWorksModel" "wayMany" "[I") (by decide +kernel)) (fun _ h9 => h9) rfl dX12_listNeeds_16 ?_
      refine lv_iload_n hx hb dX12_listNeeds_19 rfl (lv_at hl 1 rfl) ?_
      refine va_iald (cA := k 59) (n := 13) (f := (vF 59)) hx hb hK hP 60 59 (WR_get 59 (by decide)) (TR_get 59 (by decide)) (vp_in_nI (show r5 < 13 by omega) (by omega)) dX12_listNeeds_20 ?_
      refine lv_topi (fun y4 hy4 => ?_)
      obtain rfl : ((vF 59) r5) = y4 := (hy4.trans (by rw [nI_clamp (by omega)])).symm
      refine lv_iconst (v := 1) hx hb dX12_listNeeds_21 (by decide) ?_
      refine lv_icmp_ne (tgt := 31) hx hb dX12_listNeeds_22 (by decide) (fun c_22 => ?_) (fun c_22 => ?_)
      · have t_22 : (((vF 59) r5)).toInt ≠ 1 := toI_ne c_22 rfl (by decide)
        refine lv_iinc (v := (nI (r5 + 1))) hx hb dX12_listNeeds_31 hl (k := 1) rfl (nI_add r5 1) (by decide) rfl (fun ls (hl : lv_has ls _ ([(1, .int (nI (r5 + 1))), (0, .ref h0)])) => ?_)
        refine lv_goto (tgt := 7) hx hb dX12_listNeeds_34 (by decide) ?_
        have hl : lv_has _ _ ([(0, .ref h0), (1, .int (nI (r5 + 1)))]) := lv_sub hl [1, 0] rfl
        exact ih7 (r5 + 1) z f71x f72x f73x _ _ _ (by omega) (by omega) (hr1) (by omega) hP hD hS hl
      · have t_22 : (((vF 59) r5)).toInt = 1 := toI_nne c_22 rfl (by decide)
        refine lv_aload_n hx hb dX12_listNeeds_25 rfl (lv_at hl 0 rfl) ?_
        refine lv_iconst (v := 0) hx hb dX12_listNeeds_26 (by decide) ?_
        refine lv_iload_n hx hb dX12_listNeeds_27 rfl (lv_at hl 1 rfl) ?_
        have hFc := allFree hD hS hA
        refine va_callv (va_runV (As := [.int 0, .int (nI r5)]) (rest := []) ⟨hx, hb, hml, hown, hts⟩ (r_X12_need1 l dC dI a k h0 (fT vi 119 (nI z)) vj (fT (fT (fT vF 71 f71x) 72 f72x) 73 f73x) vG 0 (nI r5) z (rfl) (by first | with_reducible assumption | decide | omega | rfl | assumption) H.size) (cwV 2 hts gwsRX12_listNeeds_0 rfl rfl rfl hd_yX12_need1_RX12 (by decide +kernel)) (fz_pre (va_recv hK hP (ci := 12) (q0 := 0) rfl rfl) hP hK hD) rfl rfl hl.1 rfl (lv_room (Nat.le_of_ble_eq_true rfl)) dX12_listNeeds_28 (by decide +kernel)) hS (fun q _ h => hFc q h) hFc (fun u t9_ H locs ht hvm hw9 hB9 hz1 hk1 hS => ?_)
        have hP : va_P (dC, dI) vwCl (WR a k h0 (fT (fT vi 119 (nI z)) 119 (nI (z + 1))) vj (fT (fT (fT (fT (fT (fT vF 71 f71x) 72 f72x) 73 f73x) 71 (upd f71x (nI z).toNatClampNeg 0)) 72 (upd f72x (nI z).toNatClampNeg (nI r5))) 73 (upd f73x (nI z).toNatClampNeg 1)) vG) H := fz_P ht hB9.1
        have hD : va_D A (WR a k h0 (fT (fT vi 119 (nI z)) 119 (nI (z + 1))) vj (fT (fT (fT (fT (fT (fT vF 71 f71x) 72 f72x) 73 f73x) 71 (upd f71x (nI z).toNatClampNeg 0)) 72 (upd f72x (nI z).toNatClampNeg (nI r5))) 73 (upd f73x (nI z).toNatClampNeg 1)) vG) := hB9.2.weaken (fun _ q _ h => hFc q.1 h)
        have e9 : fT vi 119 (nI (z + 1)) = fT (fT vi 119 (nI z)) 119 (nI (z + 1)) := (fT_sm _ _ _ _).symm
        rw [← e9] at hP hD
        clear e9
        have e9 : fT (fT (fT vF 71 (upd f71x (nI z).toNatClampNeg 0)) 72 (upd f72x (nI z).toNatClampNeg (nI r5))) 73 (upd f73x (nI z).toNatClampNeg 1) = fT (fT (fT (fT (fT (fT vF 71 f71x) 72 f72x) 73 f73x) 71 (upd f71x (nI z).toNatClampNeg 0)) 72 (upd f72x (nI z).toNatClampNeg (nI r5))) 73 (upd f73x (nI z).toNatClampNeg 1) := ((congrArg (fun g9 => fT (fT g9 72 (upd f72x (nI z).toNatClampNeg (nI r5))) 73 (upd f73x (nI z).toNatClampNeg 1)) ((fT_sw _ _ _ (Nat.ne_of_beq_eq_false rfl)).trans (congrArg (fun g9 => fT g9 73 f73x) ((fT_sw _ _ _ (Nat.ne_of_beq_eq_false rfl)).trans (congrArg (fun g9 => fT g9 72 f72x) (fT_sm _ _ _ _)))))).trans ((congrArg (fun g9 => fT g9 73 (upd f73x (nI z).toNatClampNeg 1)) ((fT_sw _ _ _ (Nat.ne_of_beq_eq_false rfl)).trans (congrArg (fun g9 => fT g9 73 f73x) (fT_sm _ _ _ _)))).trans (fT_sm _ _ _ _))).symm
        rw [← e9] at hP hD
        clear e9
        have hP : va_P (dC, dI) vwCl (WR a k h0 (fT vi 119 (nI (z + 1))) vj (fT (fT (fT vF 71 (upd f71x (nI z).toNatClampNeg 0)) 72 (upd f72x (nI z).toNatClampNeg (nI r5))) 73 (upd f73x (nI z).toNatClampNeg 1)) vG) H := hP
        have hD : va_D A (WR a k h0 (fT vi 119 (nI (z + 1))) vj (fT (fT (fT vF 71 (upd f71x (nI z).toNatClampNeg 0)) 72 (upd f72x (nI z).toNatClampNeg (nI r5))) 73 (upd f73x (nI z).toNatClampNeg 1)) vG) := hD
        refine lv_iinc (v := (nI (r5 + 1))) hx hb dX12_listNeeds_31 hl (k := 1) rfl (nI_add r5 1) (by decide) rfl (fun ls (hl : lv_has ls _ ([(1, .int (nI (r5 + 1))), (0, .ref h0)])) => ?_)
        refine lv_goto (tgt := 7) hx hb dX12_listNeeds_34 (by decide) ?_
        have hl : lv_has _ _ ([(0, .ref h0), (1, .int (nI (r5 + 1)))]) := lv_sub hl [1, 0] rfl
        exact ih7 (r5 + 1) (z + 1) (upd f71x (nI z).toNatClampNeg 0) (upd f72x (nI z).toNatClampNeg (nI r5)) (upd f73x (nI z).toNatClampNeg 1) _ _ _ (by omega) (by omega) (fun i hi => by rw [upd_at (by omega), upd_at (by omega)]; by_cases e9 : i = z; (rw [if_pos e9, if_pos e9]; exact ⟨rfl, r5, by omega, rfl⟩); (rw [if_neg e9, if_neg e9]; exact hr1 i (by omega))) (by omega) hP hD hS hl
theorem dX12_isEqual_0 : decode cX12_isEqual 0 = .ok (.aload_n 0, 1) := dk_42 (by decide +kernel)
theorem dX12_isEqual_1 : decode cX12_isEqual 1 = .ok (.getfield 236, 3) := dk_180 (by decide +kernel)
theorem dX12_isEqual_4 : decode cX12_isEqual 4 = .ok (.iload_n 1, 1) := dk_27 (by decide +kernel)
theorem dX12_isEqual_5 : decode cX12_isEqual 5 = .ok (.iaload, 1) := dk_46 (by decide +kernel)
theorem dX12_isEqual_6 : decode cX12_isEqual 6 = .ok (.ifCond .ne 24, 3) := dk_154 (by decide +kernel)
theorem dX12_isEqual_9 : decode cX12_isEqual 9 = .ok (.aload_n 0, 1) := dk_42 (by decide +kernel)
theorem dX12_isEqual_10 : decode cX12_isEqual 10 = .ok (.getfield 206, 3) := dk_180 (by decide +kernel)
theorem dX12_isEqual_13 : decode cX12_isEqual 13 = .ok (.iconst 3, 1) := dk_6 (by decide +kernel)
theorem dX12_isEqual_14 : decode cX12_isEqual 14 = .ok (.aload_n 0, 1) := dk_42 (by decide +kernel)
theorem dX12_isEqual_15 : decode cX12_isEqual 15 = .ok (.getfield 239, 3) := dk_180 (by decide +kernel)
theorem dX12_isEqual_18 : decode cX12_isEqual 18 = .ok (.iload_n 1, 1) := dk_27 (by decide +kernel)
theorem dX12_isEqual_19 : decode cX12_isEqual 19 = .ok (.iaload, 1) := dk_46 (by decide +kernel)
theorem dX12_isEqual_20 : decode cX12_isEqual 20 = .ok (.imul, 1) := dk_104 (by decide +kernel)
theorem dX12_isEqual_21 : decode cX12_isEqual 21 = .ok (.iaload, 1) := dk_46 (by decide +kernel)
theorem dX12_isEqual_22 : decode cX12_isEqual 22 = .ok (.iconst 2, 1) := dk_5 (by decide +kernel)
theorem dX12_isEqual_23 : decode cX12_isEqual 23 = .ok (.if_icmp .ne 7, 3) := dk_160 (by decide +kernel)
theorem dX12_isEqual_26 : decode cX12_isEqual 26 = .ok (.iconst 1, 1) := dk_4 (by decide +kernel)
theorem dX12_isEqual_27 : decode cX12_isEqual 27 = .ok (.goto 4, 3) := dk_167 (by decide +kernel)
theorem dX12_isEqual_30 : decode cX12_isEqual 30 = .ok (.iconst 0, 1) := dk_3 (by decide +kernel)
theorem dX12_isEqual_31 : decode cX12_isEqual 31 = .ok (.ireturn, 1) := dk_172 (by decide +kernel)
def wsRX12_isEqual : List Cond := .code yX12_isEqual cX12_isEqual 2 (some .boolean) :: ([.fieldLink RX12 236 "OptimaWorksModel" "needKind" "[I", .fieldLink RX12 206 "OptimaWorksModel" "waySign" "[I", .fieldLink RX12 239 "OptimaWorksModel" "needOf" "[I"] ++ wsX120)
theorem iwsRX12_isEqual_in12 : ∀ w ∈ wsX120, w ∈ wsRX12_isEqual := fun _ h => List.mem_cons_of_mem _ (List.mem_append_right _ h)
theorem gdwsRX12_isEqual : wsRX12_isEqual.all goodWord = true := gdC rfl (gdA (by decide +kernel : ([.fieldLink RX12 236 "OptimaWorksModel" "needKind" "[I", .fieldLink RX12 206 "OptimaWorksModel" "waySign" "[I", .fieldLink RX12 239 "OptimaWorksModel" "needOf" "[I"] : List Cond).all goodWord = true) gdwsX120)
set_option maxHeartbeats 4000000 in
set_option maxRecDepth 100000 in
/-- isEqual(i) -/
theorem r_X12_isEqual (l : Launch) (dC : Nat → ClassId) (dI : Nat → Nat → Nat) (a : Nat → Nat) (k : Nat → ClassId) (h0 : Nat) (vi : Nat → Int32) (vj : Nat → Int64) (vF : Nat → Nat → Int32) (vG : Nat → Nat → Int64) (iN : Nat) (vn : Nat) (mr : Nat) (z : Nat) (nd : Nat) (hN : NdO (vF 71) (vF 72) vn mr z nd) (hvn8 : vn ≤ 8) (hmr12 : mr ≤ 12) (hiN : iN < nd) (sz : Nat) : Met l yX12_isEqual wsRX12_isEqual ({ frames := 0, cells := 0, slots := 0, locals := 0 }) (va_Pc [.ref h0, .int (nI iN)] (fun U => U.heap.size = sz ∧ va_P (dC, dI) vwCl (WR a k h0 vi vj vF vG) U.heap ∧ va_K (dC, dI) vwCl (tX12 k) U ∧ va_D (fun _ => True) (WR a k h0 vi vj vF vG))) (va_Qi (fun (r : Int32) (u : Unit) => (r = 1 ∧ (EqP (vF 61) (vF 71) (vF 72) iN)) ∨ (r = 0 ∧ (¬ EqP (vF 61) (vF 71) (vF 72) iN))) (fun (u : Unit) t => va_P (dC, dI) vwCl (WR a k h0 vi vj vF vG) t.heap ∧ va_D (va_A (WR a k h0 vi vj vF vG) sz) (WR a k h0 vi vj vF vG)) (va_A (WR a k h0 vi vj vF vG) sz)) 0 0 (va_A (WR a k h0 vi vj vF vG) sz) := by
  refine Met.ofW (cc := cX12_isEqual) (maxL := 2) (ret := (some .boolean)) (by decide) rfl ?_
  intro p e s m args below meth c s₁ B hml hv
  obtain ⟨rfl, hsz, hP, hK, hD0⟩ := hv
  have hx := B.exec
  have hb := B.bytes
  have hr := B.returns
  have hts := atoms_spec (ws := wsRX12_isEqual) B.pre
  have hown : s.vm.findClass RX12 = some m.cls := findClass_of_methodNamed B.named
  have hlocks := B.notSynchronized
  subst hsz
  have hD := hD0.self (sz := s.heap.size)
  generalize hAe : va_A (WR a k h0 vi vj vF vG) s.heap.size = A at hD ⊢
  have hA : ∀ q : Nat, s.heap.size ≤ q → A q := fun q h => by rw [← hAe]; exact Or.inr h
  have hS : va_S A s.heap s.heap [] := va_S.rf
  have hl := lv_entry ([.ref h0, .int (nI iN)]) (n := 2) (Nat.le_of_ble_eq_true rfl)
  rw [lg_entry_eq]
  generalize (lg_sl ([.ref h0, .int (nI iN)]) ++ List.replicate (2 - (lg_sl ([.ref h0, .int (nI iN)])).length) Slot.unset).toArray = ls at hl ⊢
  have hl : lv_has ls 2 [(0, .ref h0), (1, .int (nI iN))] := hl
  have hn28 : nd ≤ 28 := by have h1 := hN.1; have h2 := hN.2.2.1; omega
  refine lv_aload_n hx hb dX12_isEqual_0 rfl (lv_at hl 0 rfl) ?_
  refine va_get (D := (dC, dI)) (ci := 12) (v := .ref (a 71)) (C := RX12) (T := TX12) (N := 163) (fs := fM (vS a vi vj)) hx hb hts iwsRX12_isEqual_in12 hown hK hP 0 rfl rfl 120 (by decide) (hts (.fieldLink RX12 236 "OptimaWorksModel" "needKind" "[I") (by decide +kernel)) (fun _ h9 => h9) rfl dX12_isEqual_1 ?_
  refine lv_iload_n hx hb dX12_isEqual_4 rfl (lv_at hl 1 rfl) ?_
  refine va_iald (cA := k 71) (n := 28) (f := (vF 71)) hx hb hK hP 72 71 (WR_get 71 (by decide)) (TR_get 71 (by decide)) (vp_in_nI (show iN < 28 by omega) (by omega)) dX12_isEqual_5 ?_
  refine lv_topi (fun y1 hy1 => ?_)
  obtain rfl : ((vF 71) iN) = y1 := (hy1.trans (by rw [nI_clamp (by omega)])).symm
  refine lv_if_ne (tgt := 30) hx hb dX12_isEqual_6 (by decide) (fun c_6 => ?_) (fun c_6 => ?_)
  · have t_6 : (((vF 71) iN)).toInt ≠ 0 := toI_ne c_6 rfl (by decide)
    refine lv_iconst (v := 0) hx hb dX12_isEqual_30 (by decide) ?_
    refine W.widen (k := 0) (n := 0) (by decide +kernel) (by decide +kernel) ?_
    exact W.zret (v := 0) hx hb hr rfl (fun t9_ ht hW => ⟨⟨0, (), rfl, by (try dsimp only); exact Or.inr ⟨rfl, fun h9 => c_6 h9.1⟩, by rw [ht]; exact hP, hD⟩, hS.F ht⟩) hS.2.2 dX12_isEqual_31
  · have t_6 : (((vF 71) iN)).toInt = 0 := toI_nne c_6 rfl (by decide)
    obtain ⟨hiz, o, ho1, ho2⟩ := hN.row hiN c_6
    refine lv_aload_n hx hb dX12_isEqual_9 rfl (lv_at hl 0 rfl) ?_
    refine va_get (D := (dC, dI)) (ci := 12) (v := .ref (a 61)) (C := RX12) (T := TX12) (N := 163) (fs := fM (vS a vi vj)) hx hb hts iwsRX12_isEqual_in12 hown hK hP 0 rfl rfl 101 (by decide) (hts (.fieldLink RX12 206 "OptimaWorksModel" "waySign" "[I") (by decide +kernel)) (fun _ h9 => h9) rfl dX12_isEqual_10 ?_
    refine lv_iconst (v := 3) hx hb dX12_isEqual_13 (by decide) ?_
    refine lv_aload_n hx hb dX12_isEqual_14 rfl (lv_at hl 0 rfl) ?_
    refine va_get (D := (dC, dI)) (ci := 12) (v := .ref (a 72)) (C := RX12) (T := TX12) (N := 163) (fs := fM (vS a vi vj)) hx hb hts iwsRX12_isEqual_in12 hown hK hP 0 rfl rfl 121 (by decide) (hts (.fieldLink RX12 239 "OptimaWorksModel" "needOf" "[I") (by decide +kernel)) (fun _ h9 => h9) rfl dX12_isEqual_15 ?_
    refine lv_iload_n hx hb dX12_isEqual_18 rfl (lv_at hl 1 rfl) ?_
    refine va_iald (cA := k 72) (n := 28) (f := (vF 72)) hx hb hK hP 73 72 (WR_get 72 (by decide)) (TR_get 72 (by decide)) (vp_in_nI (show iN < 28 by omega) (by omega)) dX12_isEqual_19 ?_
    refine lv_topi (fun y2 hy2 => ?_)
    obtain rfl : ((vF 72) iN) = y2 := (hy2.trans (by rw [nI_clamp (by omega)])).symm
    refine lv_topi (fun y3 hy3 => ?_)
    obtain rfl : (nI o) = y3 := (hy3.trans (ho2)).symm
    refine lv_imul hx hb dX12_isEqual_20 ?_
    refine lv_topi (fun y4 hy4 => ?_)
    obtain rfl : (nI (3 * o)) = y4 := (hy4.trans (pk_mul 3 o)).symm
    refine va_iald (cA := k 61) (n := 39) (f := (vF 61)) hx hb hK hP 62 61 (WR_get 61 (by decide)) (TR_get 61 (by decide)) (vp_in_nI (show (3 * o) < 39 by omega) (by omega)) dX12_isEqual_21 ?_
    refine lv_topi (fun y5 hy5 => ?_)
    obtain rfl : ((vF 61) (3 * o)) = y5 := (hy5.trans (by rw [nI_clamp (by omega)])).symm
    refine lv_iconst (v := 2) hx hb dX12_isEqual_22 (by decide) ?_
    refine lv_icmp_ne (tgt := 30) hx hb dX12_isEqual_23 (by decide) (fun c_23 => ?_) (fun c_23 => ?_)
    · have t_23 : (((vF 61) (3 * o))).toInt ≠ 2 := toI_ne c_23 rfl (by decide)
      refine lv_iconst (v := 0) hx hb dX12_isEqual_30 (by decide) ?_
      refine W.widen (k := 0) (n := 0) (by decide +kernel) (by decide +kernel) ?_
      exact W.zret (v := 0) hx hb hr rfl (fun t9_ ht hW => ⟨⟨0, (), rfl, by (try dsimp only); exact Or.inr ⟨rfl, fun h9 => by (have h8 := h9.2); unfold cD at h8; rw [ho2, nI_clamp (by omega)] at h8; exact c_23 h8⟩, by rw [ht]; exact hP, hD⟩, hS.F ht⟩) hS.2.2 dX12_isEqual_31
    · have t_23 : (((vF 61) (3 * o))).toInt = 2 := toI_nne c_23 rfl (by decide)
      refine lv_iconst (v := 1) hx hb dX12_isEqual_26 (by decide) ?_
      refine lv_goto (tgt := 31) hx hb dX12_isEqual_27 (by decide) ?_
      refine W.widen (k := 0) (n := 0) (by decide +kernel) (by decide +kernel) ?_
      exact W.zret (v := 1) hx hb hr rfl (fun t9_ ht hW => ⟨⟨1, (), rfl, by (try dsimp only); exact Or.inl ⟨rfl, c_6, by unfold cD; rw [ho2, nI_clamp (by omega)]; exact c_23⟩, by rw [ht]; exact hP, hD⟩, hS.F ht⟩) hS.2.2 dX12_isEqual_31
theorem dX12_needNumber_0 : decode cX12_needNumber 0 = .ok (.aload_n 0, 1) := dk_42 (by decide +kernel)
theorem dX12_needNumber_1 : decode cX12_needNumber 1 = .ok (.getfield 239, 3) := dk_180 (by decide +kernel)
theorem dX12_needNumber_4 : decode cX12_needNumber 4 = .ok (.iload_n 1, 1) := dk_27 (by decide +kernel)
theorem dX12_needNumber_5 : decode cX12_needNumber 5 = .ok (.iaload, 1) := dk_46 (by decide +kernel)
theorem dX12_needNumber_6 : decode cX12_needNumber 6 = .ok (.istore_n 3, 1) := dk_62 (by decide +kernel)
theorem dX12_needNumber_7 : decode cX12_needNumber 7 = .ok (.aload_n 0, 1) := dk_42 (by decide +kernel)
theorem dX12_needNumber_8 : decode cX12_needNumber 8 = .ok (.getfield 236, 3) := dk_180 (by decide +kernel)
theorem dX12_needNumber_11 : decode cX12_needNumber 11 = .ok (.iload_n 1, 1) := dk_27 (by decide +kernel)
theorem dX12_needNumber_12 : decode cX12_needNumber 12 = .ok (.iaload, 1) := dk_46 (by decide +kernel)
theorem dX12_needNumber_13 : decode cX12_needNumber 13 = .ok (.iconst 1, 1) := dk_4 (by decide +kernel)
theorem dX12_needNumber_14 : decode cX12_needNumber 14 = .ok (.if_icmp .ne 28, 3) := dk_160 (by decide +kernel)
theorem dX12_needNumber_17 : decode cX12_needNumber 17 = .ok (.iload_n 2, 1) := dk_28 (by decide +kernel)
theorem dX12_needNumber_18 : decode cX12_needNumber 18 = .ok (.iconst (-1), 1) := dk_2 (by decide +kernel)
theorem dX12_needNumber_19 : decode cX12_needNumber 19 = .ok (.if_icmp .ne 12, 3) := dk_160 (by decide +kernel)
theorem dX12_needNumber_31 : decode cX12_needNumber 31 = .ok (.iload_n 2, 1) := dk_28 (by decide +kernel)
theorem dX12_needNumber_32 : decode cX12_needNumber 32 = .ok (.iload_n 3, 1) := dk_29 (by decide +kernel)
theorem dX12_needNumber_33 : decode cX12_needNumber 33 = .ok (.if_icmp .ne 7, 3) := dk_160 (by decide +kernel)
theorem dX12_needNumber_36 : decode cX12_needNumber 36 = .ok (.iconst 1, 1) := dk_4 (by decide +kernel)
theorem dX12_needNumber_37 : decode cX12_needNumber 37 = .ok (.goto 4, 3) := dk_167 (by decide +kernel)
theorem dX12_needNumber_40 : decode cX12_needNumber 40 = .ok (.iconst 0, 1) := dk_3 (by decide +kernel)
theorem dX12_needNumber_41 : decode cX12_needNumber 41 = .ok (.ireturn, 1) := dk_172 (by decide +kernel)
theorem dX12_needNumber_42 : decode cX12_needNumber 42 = .ok (.aload_n 0, 1) := dk_42 (by decide +kernel)
theorem dX12_needNumber_43 : decode cX12_needNumber 43 = .ok (.getfield 236, 3) := dk_180 (by decide +kernel)
theorem dX12_needNumber_46 : decode cX12_needNumber 46 = .ok (.iload_n 1, 1) := dk_27 (by decide +kernel)
theorem dX12_needNumber_47 : decode cX12_needNumber 47 = .ok (.iaload, 1) := dk_46 (by decide +kernel)
theorem dX12_needNumber_48 : decode cX12_needNumber 48 = .ok (.iconst 2, 1) := dk_5 (by decide +kernel)
theorem dX12_needNumber_49 : decode cX12_needNumber 49 = .ok (.if_icmp .ne 29, 3) := dk_160 (by decide +kernel)
theorem dX12_needNumber_52 : decode cX12_needNumber 52 = .ok (.iload_n 2, 1) := dk_28 (by decide +kernel)
theorem dX12_needNumber_53 : decode cX12_needNumber 53 = .ok (.iconst (-1), 1) := dk_2 (by decide +kernel)
theorem dX12_needNumber_54 : decode cX12_needNumber 54 = .ok (.if_icmp .ne 13, 3) := dk_160 (by decide +kernel)
theorem dX12_needNumber_67 : decode cX12_needNumber 67 = .ok (.iload_n 2, 1) := dk_28 (by decide +kernel)
theorem dX12_needNumber_68 : decode cX12_needNumber 68 = .ok (.iload_n 3, 1) := dk_29 (by decide +kernel)
theorem dX12_needNumber_69 : decode cX12_needNumber 69 = .ok (.if_icmp .ne 7, 3) := dk_160 (by decide +kernel)
theorem dX12_needNumber_72 : decode cX12_needNumber 72 = .ok (.iconst (-1), 1) := dk_2 (by decide +kernel)
theorem dX12_needNumber_73 : decode cX12_needNumber 73 = .ok (.goto 4, 3) := dk_167 (by decide +kernel)
theorem dX12_needNumber_76 : decode cX12_needNumber 76 = .ok (.iconst 0, 1) := dk_3 (by decide +kernel)
theorem dX12_needNumber_77 : decode cX12_needNumber 77 = .ok (.ireturn, 1) := dk_172 (by decide +kernel)
theorem dX12_needNumber_78 : decode cX12_needNumber 78 = .ok (.aload_n 0, 1) := dk_42 (by decide +kernel)
theorem dX12_needNumber_79 : decode cX12_needNumber 79 = .ok (.getfield 203, 3) := dk_180 (by decide +kernel)
theorem dX12_needNumber_82 : decode cX12_needNumber 82 = .ok (.bipush 27, 2) := dk_16 (by decide +kernel)
theorem dX12_needNumber_84 : decode cX12_needNumber 84 = .ok (.iload_n 3, 1) := dk_29 (by decide +kernel)
theorem dX12_needNumber_85 : decode cX12_needNumber 85 = .ok (.imul, 1) := dk_104 (by decide +kernel)
theorem dX12_needNumber_86 : decode cX12_needNumber 86 = .ok (.iconst 1, 1) := dk_4 (by decide +kernel)
theorem dX12_needNumber_87 : decode cX12_needNumber 87 = .ok (.iadd, 1) := dk_96 (by decide +kernel)
theorem dX12_needNumber_88 : decode cX12_needNumber 88 = .ok (.iload_n 2, 1) := dk_28 (by decide +kernel)
theorem dX12_needNumber_89 : decode cX12_needNumber 89 = .ok (.iadd, 1) := dk_96 (by decide +kernel)
theorem dX12_needNumber_90 : decode cX12_needNumber 90 = .ok (.iaload, 1) := dk_46 (by decide +kernel)
theorem dX12_needNumber_91 : decode cX12_needNumber 91 = .ok (.istore 4, 2) := dk_54 (by decide +kernel)
theorem dX12_needNumber_93 : decode cX12_needNumber 93 = .ok (.aload_n 0, 1) := dk_42 (by decide +kernel)
theorem dX12_needNumber_94 : decode cX12_needNumber 94 = .ok (.getfield 206, 3) := dk_180 (by decide +kernel)
theorem dX12_needNumber_97 : decode cX12_needNumber 97 = .ok (.iconst 3, 1) := dk_6 (by decide +kernel)
theorem dX12_needNumber_98 : decode cX12_needNumber 98 = .ok (.iload_n 3, 1) := dk_29 (by decide +kernel)
theorem dX12_needNumber_99 : decode cX12_needNumber 99 = .ok (.imul, 1) := dk_104 (by decide +kernel)
theorem dX12_needNumber_100 : decode cX12_needNumber 100 = .ok (.iaload, 1) := dk_46 (by decide +kernel)
theorem dX12_needNumber_101 : decode cX12_needNumber 101 = .ok (.ifCond .ne 9, 3) := dk_154 (by decide +kernel)
theorem dX12_needNumber_104 : decode cX12_needNumber 104 = .ok (.iload 4, 2) := dk_21 (by decide +kernel)
theorem dX12_needNumber_106 : decode cX12_needNumber 106 = .ok (.ineg, 1) := dk_116 (by decide +kernel)
theorem dX12_needNumber_107 : decode cX12_needNumber 107 = .ok (.goto 5, 3) := dk_167 (by decide +kernel)
theorem dX12_needNumber_110 : decode cX12_needNumber 110 = .ok (.iload 4, 2) := dk_21 (by decide +kernel)
theorem dX12_needNumber_112 : decode cX12_needNumber 112 = .ok (.ireturn, 1) := dk_172 (by decide +kernel)
def wsRneedNa : List Cond := .code yX12_needNumber cX12_needNumber 5 (some .int) :: ([.fieldLink RX12 239 "OptimaWorksModel" "needOf" "[I", .fieldLink RX12 236 "OptimaWorksModel" "needKind" "[I", .fieldLink RX12 203 "OptimaWorksModel" "wayNumber" "[I", .fieldLink RX12 206 "OptimaWorksModel" "waySign" "[I"] ++ wsX120)
theorem iwsRneedNa_in12 : ∀ w ∈ wsX120, w ∈ wsRneedNa := fun _ h => List.mem_cons_of_mem _ (List.mem_append_right _ h)
theorem gdwsRneedNa : wsRneedNa.all goodWord = true := gdC rfl (gdA (by decide +kernel : ([.fieldLink RX12 239 "OptimaWorksModel" "needOf" "[I", .fieldLink RX12 236 "OptimaWorksModel" "needKind" "[I", .fieldLink RX12 203 "OptimaWorksModel" "wayNumber" "[I", .fieldLink RX12 206 "OptimaWorksModel" "waySign" "[I"] : List Cond).all goodWord = true) gdwsX120)
set_option maxHeartbeats 4000000 in
set_option maxRecDepth 100000 in
/-- needNumber(i, k) -/
theorem r_X12_needNumbera (l : Launch) (dC : Nat → ClassId) (dI : Nat → Nat → Nat) (a : Nat → Nat) (k : Nat → ClassId) (h0 : Nat) (vi : Nat → Int32) (vj : Nat → Int64) (vF : Nat → Nat → Int32) (vG : Nat → Nat → Int64) (iN : Nat) (vn : Nat) (mr : Nat) (z : Nat) (nd : Nat) (kn : Nat) (gq : Nat) (hN : NdO (vF 71) (vF 72) vn mr z nd) (hvn8 : vn ≤ 8) (hmr12 : mr ≤ 12) (hiN : iN < nd) (hM : MdlB vF gq) (hkn : kn < vn) (sz : Nat) : Met l yX12_needNumber wsRneedNa ({ frames := 0, cells := 0, slots := 0, locals := 0 }) (va_Pc [.ref h0, .int (nI iN), .int (nI kn)] (fun U => U.heap.size = sz ∧ va_P (dC, dI) vwCl (WR a k h0 vi vj vF vG) U.heap ∧ va_K (dC, dI) vwCl (tX12 k) U ∧ va_D (fun _ => True) (WR a k h0 vi vj vF vG))) (va_Qi (fun (r : Int32) (u : Unit) => ((vF 71 iN = 0 ∧ (r).toInt.natAbs ≤ 99) ∨ (¬ vF 71 iN = 0 ∧ (r).toInt.natAbs ≤ 1))) (fun (u : Unit) t => va_P (dC, dI) vwCl (WR a k h0 vi vj vF vG) t.heap ∧ va_D (va_A (WR a k h0 vi vj vF vG) sz) (WR a k h0 vi vj vF vG)) (va_A (WR a k h0 vi vj vF vG) sz)) 0 0 (va_A (WR a k h0 vi vj vF vG) sz) := by
  refine Met.ofW (cc := cX12_needNumber) (maxL := 5) (ret := (some .int)) (by decide) rfl ?_
  intro p e s m args below meth c s₁ B hml hv
  obtain ⟨rfl, hsz, hP, hK, hD0⟩ := hv
  have hx := B.exec
  have hb := B.bytes
  have hr := B.returns
  have hts := atoms_spec (ws := wsRneedNa) B.pre
  have hown : s.vm.findClass RX12 = some m.cls := findClass_of_methodNamed B.named
  have hlocks := B.notSynchronized
  subst hsz
  have hD := hD0.self (sz := s.heap.size)
  generalize hAe : va_A (WR a k h0 vi vj vF vG) s.heap.size = A at hD ⊢
  have hA : ∀ q : Nat, s.heap.size ≤ q → A q := fun q h => by rw [← hAe]; exact Or.inr h
  have hS : va_S A s.heap s.heap [] := va_S.rf
  have hl := lv_entry ([.ref h0, .int (nI iN), .int (nI kn)]) (n := 5) (Nat.le_of_ble_eq_true rfl)
  rw [lg_entry_eq]
  generalize (lg_sl ([.ref h0, .int (nI iN), .int (nI kn)]) ++ List.replicate (5 - (lg_sl ([.ref h0, .int (nI iN), .int (nI kn)])).length) Slot.unset).toArray = ls at hl ⊢
  have hl : lv_has ls 5 [(0, .ref h0), (1, .int (nI iN)), (2, .int (nI kn))] := hl
  obtain ⟨o, ho2, ho1⟩ := hN.any hiN
  have hn28 : nd ≤ 28 := by have h1 := hN.1; have h2 := hN.2.2.1; omega
  refine lv_aload_n hx hb dX12_needNumber_0 rfl (lv_at hl 0 rfl) ?_
  refine va_get (D := (dC, dI)) (ci := 12) (v := .ref (a 72)) (C := RX12) (T := TX12) (N := 163) (fs := fM (vS a vi vj)) hx hb hts iwsRneedNa_in12 hown hK hP 0 rfl rfl 121 (by decide) (hts (.fieldLink RX12 239 "OptimaWorksModel" "needOf" "[I") (by decide +kernel)) (fun _ h9 => h9) rfl dX12_needNumber_1 ?_
  refine lv_iload_n hx hb dX12_needNumber_4 rfl (lv_at hl 1 rfl) ?_
  refine va_iald (cA := k 72) (n := 28) (f := (vF 72)) hx hb hK hP 73 72 (WR_get 72 (by decide)) (TR_get 72 (by decide)) (vp_in_nI (show iN < 28 by omega) (by omega)) dX12_needNumber_5 ?_
  refine lv_topi (fun y1 hy1 => ?_)
  obtain rfl : ((vF 72) iN) = y1 := (hy1.trans (by rw [nI_clamp (by omega)])).symm
  refine lv_topi (fun y2 hy2 => ?_)
  obtain rfl : (nI o) = y2 := (hy2.trans (ho2)).symm
  refine lv_istore_n hx hb dX12_needNumber_6 rfl hl (by decide) rfl (fun ls (hl : lv_has ls _ ([(3, .int (nI o)), (0, .ref h0), (1, .int (nI iN)), (2, .int (nI kn))])) => ?_)
  refine lv_aload_n hx hb dX12_needNumber_7 rfl (lv_at hl 1 rfl) ?_
  refine va_get (D := (dC, dI)) (ci := 12) (v := .ref (a 71)) (C := RX12) (T := TX12) (N := 163) (fs := fM (vS a vi vj)) hx hb hts iwsRneedNa_in12 hown hK hP 0 rfl rfl 120 (by decide) (hts (.fieldLink RX12 236 "OptimaWorksModel" "needKind" "[I") (by decide +kernel)) (fun _ h9 => h9) rfl dX12_needNumber_8 ?_
  refine lv_iload_n hx hb dX12_needNumber_11 rfl (lv_at hl 2 rfl) ?_
  refine va_iald (cA := k 71) (n := 28) (f := (vF 71)) hx hb hK hP 72 71 (WR_get 71 (by decide)) (TR_get 71 (by decide)) (vp_in_nI (show iN < 28 by omega) (by omega)) dX12_needNumber_12 ?_
  refine lv_topi (fun y3 hy3 => ?_)
  obtain rfl : ((vF 71) iN) = y3 := (hy3.trans (by rw [nI_clamp (by omega)])).symm
  refine lv_iconst (v := 1) hx hb dX12_needNumber_13 (by decide) ?_
  refine lv_icmp_ne (tgt := 42) hx hb dX12_needNumber_14 (by decide) (fun c_14 => ?_) (fun c_14 => ?_)
  · have t_14 : (((vF 71) iN)).toInt ≠ 1 := toI_ne c_14 rfl (by decide)
    refine lv_aload_n hx hb dX12_needNumber_42 rfl (lv_at hl 1 rfl) ?_
    refine va_get (D := (dC, dI)) (ci := 12) (v := .ref (a 71)) (C := RX12) (T := TX12) (N := 163) (fs := fM (vS a vi vj)) hx hb hts iwsRneedNa_in12 hown hK hP 0 rfl rfl 120 (by decide) (hts (.fieldLink RX12 236 "OptimaWorksModel" "needKind" "[I") (by decide +kernel)) (fun _ h9 => h9) rfl dX12_needNumber_43 ?_
    refine lv_iload_n hx hb dX12_needNumber_46 rfl (lv_at hl 2 rfl) ?_
    refine va_iald (cA := k 71) (n := 28) (f := (vF 71)) hx hb hK hP 72 71 (WR_get 71 (by decide)) (TR_get 71 (by decide)) (vp_in_nI (show iN < 28 by omega) (by omega)) dX12_needNumber_47 ?_
    refine lv_topi (fun y4 hy4 => ?_)
    obtain rfl : ((vF 71) iN) = y4 := (hy4.trans (by rw [nI_clamp (by omega)])).symm
    refine lv_iconst (v := 2) hx hb dX12_needNumber_48 (by decide) ?_
    refine lv_icmp_ne (tgt := 78) hx hb dX12_needNumber_49 (by decide) (fun c_49 => ?_) (fun c_49 => ?_)
    · have t_49 : (((vF 71) iN)).toInt ≠ 2 := toI_ne c_49 rfl (by decide)
      have h710 : vF 71 iN = 0 := by rcases ho1 with h9 | h9; (exact h9.1); (exfalso; by_cases e9 : iN < z; (exact h9.1 (hN.2.2.2.1 iN e9).1); (rcases (hN.2.2.2.2 iN (by omega) hiN).1 with h8 | h8; (exact c_14 h8); (exact c_49 h8)))
      have ho3 : o < mr := by rcases ho1 with h9 | h9; (exact h9.2); (exact absurd h710 h9.1)
      refine lv_aload_n hx hb dX12_needNumber_78 rfl (lv_at hl 1 rfl) ?_
      refine va_get (D := (dC, dI)) (ci := 12) (v := .ref (a 60)) (C := RX12) (T := TX12) (N := 163) (fs := fM (vS a vi vj)) hx hb hts iwsRneedNa_in12 hown hK hP 0 rfl rfl 100 (by decide) (hts (.fieldLink RX12 203 "OptimaWorksModel" "wayNumber" "[I") (by decide +kernel)) (fun _ h9 => h9) rfl dX12_needNumber_79 ?_
      refine lv_bipush (v := 27) hx hb dX12_needNumber_82 (by decide) ?_
      refine lv_iload_n hx hb dX12_needNumber_84 rfl (lv_at hl 0 rfl) ?_
      refine lv_imul hx hb dX12_needNumber_85 ?_
      refine lv_topi (fun y5 hy5 => ?_)
      obtain rfl : (nI (27 * o)) = y5 := (hy5.trans (pk_mul 27 o)).symm
      refine lv_iconst (v := 1) hx hb dX12_needNumber_86 (by decide) ?_
      refine lv_iadd hx hb dX12_needNumber_87 ?_
      refine lv_topi (fun y6 hy6 => ?_)
      obtain rfl : (nI ((27 * o) + 1)) = y6 := (hy6.trans (nI_add (27 * o) 1)).symm
      refine lv_iload_n hx hb dX12_needNumber_88 rfl (lv_at hl 3 rfl) ?_
      refine lv_iadd hx hb dX12_needNumber_89 ?_
      refine lv_topi (fun y7 hy7 => ?_)
      obtain rfl : (nI (((27 * o) + 1) + kn)) = y7 := (hy7.trans (nI_add ((27 * o) + 1) kn)).symm
      refine va_iald (cA := k 60) (n := 351) (f := (vF 60)) hx hb hK hP 61 60 (WR_get 60 (by decide)) (TR_get 60 (by decide)) (vp_in_nI (show (((27 * o) + 1) + kn) < 351 by omega) (by omega)) dX12_needNumber_90 ?_
      refine lv_topi (fun y8 hy8 => ?_)
      obtain rfl : ((vF 60) (((27 * o) + 1) + kn)) = y8 := (hy8.trans (by rw [nI_clamp (by omega)])).symm
      refine lv_istore hx hb dX12_needNumber_91 hl (by decide) rfl (fun ls (hl : lv_has ls _ ([(4, .int ((vF 60) (((27 * o) + 1) + kn))), (3, .int (nI o)), (0, .ref h0), (1, .int (nI iN)), (2, .int (nI kn))])) => ?_)
      refine lv_aload_n hx hb dX12_needNumber_93 rfl (lv_at hl 2 rfl) ?_
      refine va_get (D := (dC, dI)) (ci := 12) (v := .ref (a 61)) (C := RX12) (T := TX12) (N := 163) (fs := fM (vS a vi vj)) hx hb hts iwsRneedNa_in12 hown hK hP 0 rfl rfl 101 (by decide) (hts (.fieldLink RX12 206 "OptimaWorksModel" "waySign" "[I") (by decide +kernel)) (fun _ h9 => h9) rfl dX12_needNumber_94 ?_
      refine lv_iconst (v := 3) hx hb dX12_needNumber_97 (by decide) ?_
      refine lv_iload_n hx hb dX12_needNumber_98 rfl (lv_at hl 1 rfl) ?_
      refine lv_imul hx hb dX12_needNumber_99 ?_
      refine lv_topi (fun y9 hy9 => ?_)
      obtain rfl : (nI (3 * o)) = y9 := (hy9.trans (pk_mul 3 o)).symm
      refine va_iald (cA := k 61) (n := 39) (f := (vF 61)) hx hb hK hP 62 61 (WR_get 61 (by decide)) (TR_get 61 (by decide)) (vp_in_nI (show (3 * o) < 39 by omega) (by omega)) dX12_needNumber_100 ?_
      refine lv_topi (fun y10 hy10 => ?_)
      obtain rfl : ((vF 61) (3 * o)) = y10 := (hy10.trans (by rw [nI_clamp (by omega)])).symm
      refine lv_if_ne (tgt := 110) hx hb dX12_needNumber_101 (by decide) (fun c_101 => ?_) (fun c_101 => ?_)
      · have t_101 : (((vF 61) (3 * o))).toInt ≠ 0 := toI_ne c_101 rfl (by decide)
        refine lv_iload hx hb dX12_needNumber_110 (lv_at hl 0 rfl) ?_
        refine W.widen (k := 0) (n := 0) (by decide +kernel) (by decide +kernel) ?_
        exact W.iret (v := ((vF 60) (((27 * o) + 1) + kn))) hx hb hr (fun t9_ ht hW => ⟨⟨((vF 60) (((27 * o) + 1) + kn)), (), rfl, by (try dsimp only); (have b9 := (hM.2.2.2.1 (3 * o) kn (by omega) (by omega))); (rw [show 9 * (3 * o) + 1 + kn = 27 * o + 1 + kn by omega] at b9); exact Or.inl ⟨h710, by omega⟩, by rw [ht]; exact hP, hD⟩, hS.F ht⟩) hS.2.2 dX12_needNumber_112
      · have t_101 : (((vF 61) (3 * o))).toInt = 0 := toI_nne c_101 rfl (by decide)
        refine lv_iload hx hb dX12_needNumber_104 (lv_at hl 0 rfl) ?_
        refine lv_ineg hx hb dX12_needNumber_106 ?_
        refine lv_goto (tgt := 112) hx hb dX12_needNumber_107 (by decide) ?_
        refine W.widen (k := 0) (n := 0) (by decide +kernel) (by decide +kernel) ?_
        exact W.iret (v := (-((vF 60) (((27 * o) + 1) + kn)))) hx hb hr (fun t9_ ht hW => ⟨⟨(-((vF 60) (((27 * o) + 1) + kn))), (), rfl, by (try dsimp only); (have b9 := (hM.2.2.2.1 (3 * o) kn (by omega) (by omega))); (rw [show 9 * (3 * o) + 1 + kn = 27 * o + 1 + kn by omega] at b9); exact Or.inl ⟨h710, (neg32 (b := 99) (by omega) (by decide)).1⟩, by rw [ht]; exact hP, hD⟩, hS.F ht⟩) hS.2.2 dX12_needNumber_112
    · have t_49 : (((vF 71) iN)).toInt = 2 := toI_nne c_49 rfl (by decide)
      refine lv_iload_n hx hb dX12_needNumber_52 rfl (lv_at hl 3 rfl) ?_
      refine lv_iconst (v := (-1)) hx hb dX12_needNumber_53 (by decide) ?_
      refine lv_icmp_ne (tgt := 67) hx hb dX12_needNumber_54 (by decide) (fun c_54 => ?_) (fun c9 => False.elim (by (have h9 := nI_toInt (n := kn) (by omega)); rw [c9] at h9; (have h8 : ((-1 : Int32)).toInt = -1 := by decide); omega))
      have t_54 : ((kn : Nat) : Int) ≠ -1 := toI_ne c_54 (nI_toInt (by omega)) (by decide)
      refine lv_iload_n hx hb dX12_needNumber_67 rfl (lv_at hl 3 rfl) ?_
      refine lv_iload_n hx hb dX12_needNumber_68 rfl (lv_at hl 0 rfl) ?_
      refine lv_icmp_ne (tgt := 76) hx hb dX12_needNumber_69 (by decide) (fun c_69 => ?_) (fun c_69 => ?_)
      · have t_69 : ((kn : Nat) : Int) ≠ ((o : Nat) : Int) := toI_ne c_69 (nI_toInt (by omega)) (nI_toInt (by omega))
        refine lv_iconst (v := 0) hx hb dX12_needNumber_76 (by decide) ?_
        refine W.widen (k := 0) (n := 0) (by decide +kernel) (by decide +kernel) ?_
        exact W.iret (v := 0) hx hb hr (fun t9_ ht hW => ⟨⟨0, (), rfl, by (try dsimp only); exact Or.inr ⟨fun h9 => by rw [c_49] at h9; exact absurd h9 (by decide), by decide⟩, by rw [ht]; exact hP, hD⟩, hS.F ht⟩) hS.2.2 dX12_needNumber_77
      · have t_69 : ((kn : Nat) : Int) = ((o : Nat) : Int) := toI_nne c_69 (nI_toInt (by omega)) (nI_toInt (by omega))
        refine lv_iconst (v := (-1)) hx hb dX12_needNumber_72 (by decide) ?_
        refine lv_goto (tgt := 77) hx hb dX12_needNumber_73 (by decide) ?_
        refine W.widen (k := 0) (n := 0) (by decide +kernel) (by decide +kernel) ?_
        exact W.iret (v := (-1)) hx hb hr (fun t9_ ht hW => ⟨⟨(-1), (), rfl, by (try dsimp only); exact Or.inr ⟨fun h9 => by rw [c_49] at h9; exact absurd h9 (by decide), by decide⟩, by rw [ht]; exact hP, hD⟩, hS.F ht⟩) hS.2.2 dX12_needNumber_77
  · have t_14 : (((vF 71) iN)).toInt = 1 := toI_nne c_14 rfl (by decide)
    refine lv_iload_n hx hb dX12_needNumber_17 rfl (lv_at hl 3 rfl) ?_
    refine lv_iconst (v := (-1)) hx hb dX12_needNumber_18 (by decide) ?_
    refine lv_icmp_ne (tgt := 31) hx hb dX12_needNumber_19 (by decide) (fun c_19 => ?_) (fun c9 => False.elim (by (have h9 := nI_toInt (n := kn) (by omega)); rw [c9] at h9; (have h8 : ((-1 : Int32)).toInt = -1 := by decide); omega))
    have t_19 : ((kn : Nat) : Int) ≠ -1 := toI_ne c_19 (nI_toInt (by omega)) (by decide)
    refine lv_iload_n hx hb dX12_needNumber_31 rfl (lv_at hl 3 rfl) ?_
    refine lv_iload_n hx hb dX12_needNumber_32 rfl (lv_at hl 0 rfl) ?_
    refine lv_icmp_ne (tgt := 40) hx hb dX12_needNumber_33 (by decide) (fun c_33 => ?_) (fun c_33 => ?_)
    · have t_33 : ((kn : Nat) : Int) ≠ ((o : Nat) : Int) := toI_ne c_33 (nI_toInt (by omega)) (nI_toInt (by omega))
      refine lv_iconst (v := 0) hx hb dX12_needNumber_40 (by decide) ?_
      refine W.widen (k := 0) (n := 0) (by decide +kernel) (by decide +kernel) ?_
      exact W.iret (v := 0) hx hb hr (fun t9_ ht hW => ⟨⟨0, (), rfl, by (try dsimp only); exact Or.inr ⟨fun h9 => by rw [c_14] at h9; exact absurd h9 (by decide), by decide⟩, by rw [ht]; exact hP, hD⟩, hS.F ht⟩) hS.2.2 dX12_needNumber_41
    · have t_33 : ((kn : Nat) : Int) = ((o : Nat) : Int) := toI_nne c_33 (nI_toInt (by omega)) (nI_toInt (by omega))
      refine lv_iconst (v := 1) hx hb dX12_needNumber_36 (by decide) ?_
      refine lv_goto (tgt := 41) hx hb dX12_needNumber_37 (by decide) ?_
      refine W.widen (k := 0) (n := 0) (by decide +kernel) (by decide +kernel) ?_
      exact W.iret (v := 1) hx hb hr (fun t9_ ht hW => ⟨⟨1, (), rfl, by (try dsimp only); exact Or.inr ⟨fun h9 => by rw [c_14] at h9; exact absurd h9 (by decide), by decide⟩, by rw [ht]; exact hP, hD⟩, hS.F ht⟩) hS.2.2 dX12_needNumber_41
theorem dX12_needNumber_22 : decode cX12_needNumber 22 = .ok (.aload_n 0, 1) := dk_42 (by decide +kernel)
theorem dX12_needNumber_23 : decode cX12_needNumber 23 = .ok (.getfield 191, 3) := dk_180 (by decide +kernel)
theorem dX12_needNumber_26 : decode cX12_needNumber 26 = .ok (.iload_n 3, 1) := dk_29 (by decide +kernel)
theorem dX12_needNumber_27 : decode cX12_needNumber 27 = .ok (.iaload, 1) := dk_46 (by decide +kernel)
theorem dX12_needNumber_28 : decode cX12_needNumber 28 = .ok (.goto 13, 3) := dk_167 (by decide +kernel)
theorem dX12_needNumber_57 : decode cX12_needNumber 57 = .ok (.aload_n 0, 1) := dk_42 (by decide +kernel)
theorem dX12_needNumber_58 : decode cX12_needNumber 58 = .ok (.getfield 194, 3) := dk_180 (by decide +kernel)
theorem dX12_needNumber_61 : decode cX12_needNumber 61 = .ok (.iload_n 3, 1) := dk_29 (by decide +kernel)
theorem dX12_needNumber_62 : decode cX12_needNumber 62 = .ok (.iaload, 1) := dk_46 (by decide +kernel)
theorem dX12_needNumber_63 : decode cX12_needNumber 63 = .ok (.ineg, 1) := dk_116 (by decide +kernel)
theorem dX12_needNumber_64 : decode cX12_needNumber 64 = .ok (.goto 13, 3) := dk_167 (by decide +kernel)
def wsRneedNb : List Cond := .code yX12_needNumber cX12_needNumber 5 (some .int) :: ([.fieldLink RX12 239 "OptimaWorksModel" "needOf" "[I", .fieldLink RX12 236 "OptimaWorksModel" "needKind" "[I", .fieldLink RX12 203 "OptimaWorksModel" "wayNumber" "[I", .fieldLink RX12 206 "OptimaWorksModel" "waySign" "[I", .fieldLink RX12 194 "OptimaWorksModel" "high" "[I", .fieldLink RX12 191 "OptimaWorksModel" "low" "[I"] ++ wsX120)
theorem iwsRneedNb_in12 : ∀ w ∈ wsX120, w ∈ wsRneedNb := fun _ h => List.mem_cons_of_mem _ (List.mem_append_right _ h)
theorem gdwsRneedNb : wsRneedNb.all goodWord = true := gdC rfl (gdA (by decide +kernel : ([.fieldLink RX12 239 "OptimaWorksModel" "needOf" "[I", .fieldLink RX12 236 "OptimaWorksModel" "needKind" "[I", .fieldLink RX12 203 "OptimaWorksModel" "wayNumber" "[I", .fieldLink RX12 206 "OptimaWorksModel" "waySign" "[I", .fieldLink RX12 194 "OptimaWorksModel" "high" "[I", .fieldLink RX12 191 "OptimaWorksModel" "low" "[I"] : List Cond).all goodWord = true) gdwsX120)
set_option maxHeartbeats 4000000 in
set_option maxRecDepth 100000 in
/-- needNumber(i, NONE) -/
theorem r_X12_needNumberb (l : Launch) (dC : Nat → ClassId) (dI : Nat → Nat → Nat) (a : Nat → Nat) (k : Nat → ClassId) (h0 : Nat) (vi : Nat → Int32) (vj : Nat → Int64) (vF : Nat → Nat → Int32) (vG : Nat → Nat → Int64) (iN : Nat) (vn : Nat) (mr : Nat) (z : Nat) (nd : Nat) (gq : Nat) (hN : NdO (vF 71) (vF 72) vn mr z nd) (hvn8 : vn ≤ 8) (hmr12 : mr ≤ 12) (hiN : iN < nd) (hM : MdlB vF gq) (sz : Nat) : Met l yX12_needNumber wsRneedNb ({ frames := 0, cells := 0, slots := 0, locals := 0 }) (va_Pc [.ref h0, .int (nI iN), .int (-1)] (fun U => U.heap.size = sz ∧ va_P (dC, dI) vwCl (WR a k h0 vi vj vF vG) U.heap ∧ va_K (dC, dI) vwCl (tX12 k) U ∧ va_D (fun _ => True) (WR a k h0 vi vj vF vG))) (va_Qi (fun (r : Int32) (u : Unit) => ((r).toInt.natAbs ≤ 99999)) (fun (u : Unit) t => va_P (dC, dI) vwCl (WR a k h0 vi vj vF vG) t.heap ∧ va_D (va_A (WR a k h0 vi vj vF vG) sz) (WR a k h0 vi vj vF vG)) (va_A (WR a k h0 vi vj vF vG) sz)) 0 0 (va_A (WR a k h0 vi vj vF vG) sz) := by
  refine Met.ofW (cc := cX12_needNumber) (maxL := 5) (ret := (some .int)) (by decide) rfl ?_
  intro p e s m args below meth c s₁ B hml hv
  obtain ⟨rfl, hsz, hP, hK, hD0⟩ := hv
  have hx := B.exec
  have hb := B.bytes
  have hr := B.returns
  have hts := atoms_spec (ws := wsRneedNb) B.pre
  have hown : s.vm.findClass RX12 = some m.cls := findClass_of_methodNamed B.named
  have hlocks := B.notSynchronized
  subst hsz
  have hD := hD0.self (sz := s.heap.size)
  generalize hAe : va_A (WR a k h0 vi vj vF vG) s.heap.size = A at hD ⊢
  have hA : ∀ q : Nat, s.heap.size ≤ q → A q := fun q h => by rw [← hAe]; exact Or.inr h
  have hS : va_S A s.heap s.heap [] := va_S.rf
  have hl := lv_entry ([.ref h0, .int (nI iN), .int (-1)]) (n := 5) (Nat.le_of_ble_eq_true rfl)
  rw [lg_entry_eq]
  generalize (lg_sl ([.ref h0, .int (nI iN), .int (-1)]) ++ List.replicate (5 - (lg_sl ([.ref h0, .int (nI iN), .int (-1)])).length) Slot.unset).toArray = ls at hl ⊢
  have hl : lv_has ls 5 [(0, .ref h0), (1, .int (nI iN)), (2, .int (-1))] := hl
  obtain ⟨o, ho2, ho1⟩ := hN.any hiN
  have hn28 : nd ≤ 28 := by have h1 := hN.1; have h2 := hN.2.2.1; omega
  refine lv_aload_n hx hb dX12_needNumber_0 rfl (lv_at hl 0 rfl) ?_
  refine va_get (D := (dC, dI)) (ci := 12) (v := .ref (a 72)) (C := RX12) (T := TX12) (N := 163) (fs := fM (vS a vi vj)) hx hb hts iwsRneedNb_in12 hown hK hP 0 rfl rfl 121 (by decide) (hts (.fieldLink RX12 239 "OptimaWorksModel" "needOf" "[I") (by decide +kernel)) (fun _ h9 => h9) rfl dX12_needNumber_1 ?_
  refine lv_iload_n hx hb dX12_needNumber_4 rfl (lv_at hl 1 rfl) ?_
  refine va_iald (cA := k 72) (n := 28) (f := (vF 72)) hx hb hK hP 73 72 (WR_get 72 (by decide)) (TR_get 72 (by decide)) (vp_in_nI (show iN < 28 by omega) (by omega)) dX12_needNumber_5 ?_
  refine lv_topi (fun y1 hy1 => ?_)
  obtain rfl : ((vF 72) iN) = y1 := (hy1.trans (by rw [nI_clamp (by omega)])).symm
  refine lv_topi (fun y2 hy2 => ?_)
  obtain rfl : (nI o) = y2 := (hy2.trans (ho2)).symm
  refine lv_istore_n hx hb dX12_needNumber_6 rfl hl (by decide) rfl (fun ls (hl : lv_has ls _ ([(3, .int (nI o)), (0, .ref h0), (1, .int (nI iN)), (2, .int (-1))])) => ?_)
  refine lv_aload_n hx hb dX12_needNumber_7 rfl (lv_at hl 1 rfl) ?_
  refine va_get (D := (dC, dI)) (ci := 12) (v := .ref (a 71)) (C := RX12) (T := TX12) (N := 163) (fs := fM (vS a vi vj)) hx hb hts iwsRneedNb_in12 hown hK hP 0 rfl rfl 120 (by decide) (hts (.fieldLink RX12 236 "OptimaWorksModel" "needKind" "[I") (by decide +kernel)) (fun _ h9 => h9) rfl dX12_needNumber_8 ?_
  refine lv_iload_n hx hb dX12_needNumber_11 rfl (lv_at hl 2 rfl) ?_
  refine va_iald (cA := k 71) (n := 28) (f := (vF 71)) hx hb hK hP 72 71 (WR_get 71 (by decide)) (TR_get 71 (by decide)) (vp_in_nI (show iN < 28 by omega) (by omega)) dX12_needNumber_12 ?_
  refine lv_topi (fun y3 hy3 => ?_)
  obtain rfl : ((vF 71) iN) = y3 := (hy3.trans (by rw [nI_clamp (by omega)])).symm
  refine lv_iconst (v := 1) hx hb dX12_needNumber_13 (by decide) ?_
  refine lv_icmp_ne (tgt := 42) hx hb dX12_needNumber_14 (by decide) (fun c_14 => ?_) (fun c_14 => ?_)
  · have t_14 : (((vF 71) iN)).toInt ≠ 1 := toI_ne c_14 rfl (by decide)
    refine lv_aload_n hx hb dX12_needNumber_42 rfl (lv_at hl 1 rfl) ?_
    refine va_get (D := (dC, dI)) (ci := 12) (v := .ref (a 71)) (C := RX12) (T := TX12) (N := 163) (fs := fM (vS a vi vj)) hx hb hts iwsRneedNb_in12 hown hK hP 0 rfl rfl 120 (by decide) (hts (.fieldLink RX12 236 "OptimaWorksModel" "needKind" "[I") (by decide +kernel)) (fun _ h9 => h9) rfl dX12_needNumber_43 ?_
    refine lv_iload_n hx hb dX12_needNumber_46 rfl (lv_at hl 2 rfl) ?_
    refine va_iald (cA := k 71) (n := 28) (f := (vF 71)) hx hb hK hP 72 71 (WR_get 71 (by decide)) (TR_get 71 (by decide)) (vp_in_nI (show iN < 28 by omega) (by omega)) dX12_needNumber_47 ?_
    refine lv_topi (fun y4 hy4 => ?_)
    obtain rfl : ((vF 71) iN) = y4 := (hy4.trans (by rw [nI_clamp (by omega)])).symm
    refine lv_iconst (v := 2) hx hb dX12_needNumber_48 (by decide) ?_
    refine lv_icmp_ne (tgt := 78) hx hb dX12_needNumber_49 (by decide) (fun c_49 => ?_) (fun c_49 => ?_)
    · have t_49 : (((vF 71) iN)).toInt ≠ 2 := toI_ne c_49 rfl (by decide)
      have h710 : vF 71 iN = 0 := by rcases ho1 with h9 | h9; (exact h9.1); (exfalso; by_cases e9 : iN < z; (exact h9.1 (hN.2.2.2.1 iN e9).1); (rcases (hN.2.2.2.2 iN (by omega) hiN).1 with h8 | h8; (exact c_14 h8); (exact c_49 h8)))
      have ho3 : o < mr := by rcases ho1 with h9 | h9; (exact h9.2); (exact absurd h710 h9.1)
      refine lv_aload_n hx hb dX12_needNumber_78 rfl (lv_at hl 1 rfl) ?_
      refine va_get (D := (dC, dI)) (ci := 12) (v := .ref (a 60)) (C := RX12) (T := TX12) (N := 163) (fs := fM (vS a vi vj)) hx hb hts iwsRneedNb_in12 hown hK hP 0 rfl rfl 100 (by decide) (hts (.fieldLink RX12 203 "OptimaWorksModel" "wayNumber" "[I") (by decide +kernel)) (fun _ h9 => h9) rfl dX12_needNumber_79 ?_
      refine lv_bipush (v := 27) hx hb dX12_needNumber_82 (by decide) ?_
      refine lv_iload_n hx hb dX12_needNumber_84 rfl (lv_at hl 0 rfl) ?_
      refine lv_imul hx hb dX12_needNumber_85 ?_
      refine lv_topi (fun y5 hy5 => ?_)
      obtain rfl : (nI (27 * o)) = y5 := (hy5.trans (pk_mul 27 o)).symm
      refine lv_iconst (v := 1) hx hb dX12_needNumber_86 (by decide) ?_
      refine lv_iadd hx hb dX12_needNumber_87 ?_
      refine lv_topi (fun y6 hy6 => ?_)
      obtain rfl : (nI ((27 * o) + 1)) = y6 := (hy6.trans (nI_add (27 * o) 1)).symm
      refine lv_iload_n hx hb dX12_needNumber_88 rfl (lv_at hl 3 rfl) ?_
      refine lv_iadd hx hb dX12_needNumber_89 ?_
      refine lv_topi (fun y7 hy7 => ?_)
      obtain rfl : (nI (27 * o)) = y7 := (hy7.trans (sb_m1 (by omega))).symm
      refine va_iald (cA := k 60) (n := 351) (f := (vF 60)) hx hb hK hP 61 60 (WR_get 60 (by decide)) (TR_get 60 (by decide)) (vp_in_nI (show (27 * o) < 351 by omega) (by omega)) dX12_needNumber_90 ?_
      refine lv_topi (fun y8 hy8 => ?_)
      obtain rfl : ((vF 60) (27 * o)) = y8 := (hy8.trans (by rw [nI_clamp (by omega)])).symm
      refine lv_istore hx hb dX12_needNumber_91 hl (by decide) rfl (fun ls (hl : lv_has ls _ ([(4, .int ((vF 60) (27 * o))), (3, .int (nI o)), (0, .ref h0), (1, .int (nI iN)), (2, .int (-1))])) => ?_)
      refine lv_aload_n hx hb dX12_needNumber_93 rfl (lv_at hl 2 rfl) ?_
      refine va_get (D := (dC, dI)) (ci := 12) (v := .ref (a 61)) (C := RX12) (T := TX12) (N := 163) (fs := fM (vS a vi vj)) hx hb hts iwsRneedNb_in12 hown hK hP 0 rfl rfl 101 (by decide) (hts (.fieldLink RX12 206 "OptimaWorksModel" "waySign" "[I") (by decide +kernel)) (fun _ h9 => h9) rfl dX12_needNumber_94 ?_
      refine lv_iconst (v := 3) hx hb dX12_needNumber_97 (by decide) ?_
      refine lv_iload_n hx hb dX12_needNumber_98 rfl (lv_at hl 1 rfl) ?_
      refine lv_imul hx hb dX12_needNumber_99 ?_
      refine lv_topi (fun y9 hy9 => ?_)
      obtain rfl : (nI (3 * o)) = y9 := (hy9.trans (pk_mul 3 o)).symm
      refine va_iald (cA := k 61) (n := 39) (f := (vF 61)) hx hb hK hP 62 61 (WR_get 61 (by decide)) (TR_get 61 (by decide)) (vp_in_nI (show (3 * o) < 39 by omega) (by omega)) dX12_needNumber_100 ?_
      refine lv_topi (fun y10 hy10 => ?_)
      obtain rfl : ((vF 61) (3 * o)) = y10 := (hy10.trans (by rw [nI_clamp (by omega)])).symm
      refine lv_if_ne (tgt := 110) hx hb dX12_needNumber_101 (by decide) (fun c_101 => ?_) (fun c_101 => ?_)
      · have t_101 : (((vF 61) (3 * o))).toInt ≠ 0 := toI_ne c_101 rfl (by decide)
        refine lv_iload hx hb dX12_needNumber_110 (lv_at hl 0 rfl) ?_
        refine W.widen (k := 0) (n := 0) (by decide +kernel) (by decide +kernel) ?_
        exact W.iret (v := ((vF 60) (27 * o))) hx hb hr (fun t9_ ht hW => ⟨⟨((vF 60) (27 * o)), (), rfl, by (try dsimp only); (have b9 := hM.2.2.1 (3 * o) (by omega)); (rw [show 9 * (3 * o) = 27 * o by omega] at b9); omega, by rw [ht]; exact hP, hD⟩, hS.F ht⟩) hS.2.2 dX12_needNumber_112
      · have t_101 : (((vF 61) (3 * o))).toInt = 0 := toI_nne c_101 rfl (by decide)
        refine lv_iload hx hb dX12_needNumber_104 (lv_at hl 0 rfl) ?_
        refine lv_ineg hx hb dX12_needNumber_106 ?_
        refine lv_goto (tgt := 112) hx hb dX12_needNumber_107 (by decide) ?_
        refine W.widen (k := 0) (n := 0) (by decide +kernel) (by decide +kernel) ?_
        exact W.iret (v := (-((vF 60) (27 * o)))) hx hb hr (fun t9_ ht hW => ⟨⟨(-((vF 60) (27 * o))), (), rfl, by (try dsimp only); (have b9 := hM.2.2.1 (3 * o) (by omega)); (rw [show 9 * (3 * o) = 27 * o by omega] at b9); exact (neg32 (b := 99999) (by omega) (by decide)).1, by rw [ht]; exact hP, hD⟩, hS.F ht⟩) hS.2.2 dX12_needNumber_112
    · have t_49 : (((vF 71) iN)).toInt = 2 := toI_nne c_49 rfl (by decide)
      refine lv_iload_n hx hb dX12_needNumber_52 rfl (lv_at hl 3 rfl) ?_
      refine lv_iconst (v := (-1)) hx hb dX12_needNumber_53 (by decide) ?_
      refine lv_icmp_ne (tgt := 67) hx hb dX12_needNumber_54 (by decide) (fun c9 => absurd c9 (by decide)) (fun _ => ?_)
      have ho3 : o < vn := by rcases ho1 with h9 | h9; (exfalso; (have h8 := h9.1); rw [c_49] at h8; exact absurd h8 (by decide)); (exact h9.2)
      refine lv_aload_n hx hb dX12_needNumber_57 rfl (lv_at hl 1 rfl) ?_
      refine va_get (D := (dC, dI)) (ci := 12) (v := .ref (a 57)) (C := RX12) (T := TX12) (N := 163) (fs := fM (vS a vi vj)) hx hb hts iwsRneedNb_in12 hown hK hP 0 rfl rfl 97 (by decide) (hts (.fieldLink RX12 194 "OptimaWorksModel" "high" "[I") (by decide +kernel)) (fun _ h9 => h9) rfl dX12_needNumber_58 ?_
      refine lv_iload_n hx hb dX12_needNumber_61 rfl (lv_at hl 0 rfl) ?_
      refine va_iald (cA := k 57) (n := 9) (f := (vF 57)) hx hb hK hP 58 57 (WR_get 57 (by decide)) (TR_get 57 (by decide)) (vp_in_nI (show o < 9 by omega) (by omega)) dX12_needNumber_62 ?_
      refine lv_topi (fun y11 hy11 => ?_)
      obtain rfl : ((vF 57) o) = y11 := (hy11.trans (by rw [nI_clamp (by omega)])).symm
      refine lv_ineg hx hb dX12_needNumber_63 ?_
      refine lv_goto (tgt := 77) hx hb dX12_needNumber_64 (by decide) ?_
      refine W.widen (k := 0) (n := 0) (by decide +kernel) (by decide +kernel) ?_
      exact W.iret (v := (-((vF 57) o))) hx hb hr (fun t9_ ht hW => ⟨⟨(-((vF 57) o)), (), rfl, by (try dsimp only); (have b9 := hM.2.1 o (by omega)); exact (neg32 (b := 99999) (by omega) (by decide)).1, by rw [ht]; exact hP, hD⟩, hS.F ht⟩) hS.2.2 dX12_needNumber_77
  · have t_14 : (((vF 71) iN)).toInt = 1 := toI_nne c_14 rfl (by decide)
    refine lv_iload_n hx hb dX12_needNumber_17 rfl (lv_at hl 3 rfl) ?_
    refine lv_iconst (v := (-1)) hx hb dX12_needNumber_18 (by decide) ?_
    refine lv_icmp_ne (tgt := 31) hx hb dX12_needNumber_19 (by decide) (fun c9 => absurd c9 (by decide)) (fun _ => ?_)
    have ho3 : o < vn := by rcases ho1 with h9 | h9; (exfalso; (have h8 := h9.1); rw [c_14] at h8; exact absurd h8 (by decide)); (exact h9.2)
    refine lv_aload_n hx hb dX12_needNumber_22 rfl (lv_at hl 1 rfl) ?_
    refine va_get (D := (dC, dI)) (ci := 12) (v := .ref (a 56)) (C := RX12) (T := TX12) (N := 163) (fs := fM (vS a vi vj)) hx hb hts iwsRneedNb_in12 hown hK hP 0 rfl rfl 96 (by decide) (hts (.fieldLink RX12 191 "OptimaWorksModel" "low" "[I") (by decide +kernel)) (fun _ h9 => h9) rfl dX12_needNumber_23 ?_
    refine lv_iload_n hx hb dX12_needNumber_26 rfl (lv_at hl 0 rfl) ?_
    refine va_iald (cA := k 56) (n := 9) (f := (vF 56)) hx hb hK hP 57 56 (WR_get 56 (by decide)) (TR_get 56 (by decide)) (vp_in_nI (show o < 9 by omega) (by omega)) dX12_needNumber_27 ?_
    refine lv_topi (fun y12 hy12 => ?_)
    obtain rfl : ((vF 56) o) = y12 := (hy12.trans (by rw [nI_clamp (by omega)])).symm
    refine lv_goto (tgt := 41) hx hb dX12_needNumber_28 (by decide) ?_
    refine W.widen (k := 0) (n := 0) (by decide +kernel) (by decide +kernel) ?_
    exact W.iret (v := ((vF 56) o)) hx hb hr (fun t9_ ht hW => ⟨⟨((vF 56) o), (), rfl, by (try dsimp only); (have b9 := hM.1 o (by omega)); omega, by rw [ht]; exact hP, hD⟩, hS.F ht⟩) hS.2.2 dX12_needNumber_41
theorem dX12_spread_0 : decode cX12_spread 0 = .ok (.aload_n 0, 1) := dk_42 (by decide +kernel)
theorem dX12_spread_1 : decode cX12_spread 1 = .ok (.getfield 242, 3) := dk_180 (by decide +kernel)
theorem dX12_spread_4 : decode cX12_spread 4 = .ok (.iload_n 2, 1) := dk_28 (by decide +kernel)
theorem dX12_spread_5 : decode cX12_spread 5 = .ok (.iaload, 1) := dk_46 (by decide +kernel)
theorem dX12_spread_6 : decode cX12_spread 6 = .ok (.ifCond .ne 4, 3) := dk_154 (by decide +kernel)
theorem dX12_spread_9 : decode cX12_spread 9 = .ok (.return_, 1) := dk_177 (by decide +kernel)
theorem dX12_spread_10 : decode cX12_spread 10 = .ok (.aload_n 0, 1) := dk_42 (by decide +kernel)
theorem dX12_spread_11 : decode cX12_spread 11 = .ok (.aload_n 0, 1) := dk_42 (by decide +kernel)
theorem dX12_spread_12 : decode cX12_spread 12 = .ok (.iload_n 1, 1) := dk_27 (by decide +kernel)
theorem dX12_spread_13 : decode cX12_spread 13 = .ok (.aload_n 0, 1) := dk_42 (by decide +kernel)
theorem dX12_spread_14 : decode cX12_spread 14 = .ok (.getfield 245, 3) := dk_180 (by decide +kernel)
theorem dX12_spread_17 : decode cX12_spread 17 = .ok (.iload_n 2, 1) := dk_28 (by decide +kernel)
theorem dX12_spread_18 : decode cX12_spread 18 = .ok (.iaload, 1) := dk_46 (by decide +kernel)
theorem dX12_spread_19 : decode cX12_spread 19 = .ok (.invokevirtual 405, 3) := dk_182 (by decide +kernel)
theorem dX12_spread_22 : decode cX12_spread 22 = .ok (.iload_n 3, 1) := dk_29 (by decide +kernel)
theorem dX12_spread_23 : decode cX12_spread 23 = .ok (.i2l, 1) := dk_133 (by decide +kernel)
theorem dX12_spread_24 : decode cX12_spread 24 = .ok (.iload 4, 2) := dk_21 (by decide +kernel)
theorem dX12_spread_26 : decode cX12_spread 26 = .ok (.i2l, 1) := dk_133 (by decide +kernel)
theorem dX12_spread_27 : decode cX12_spread 27 = .ok (.lmul, 1) := dk_105 (by decide +kernel)
theorem dX12_spread_28 : decode cX12_spread 28 = .ok (.invokevirtual 369, 3) := dk_182 (by decide +kernel)
theorem dX12_spread_31 : decode cX12_spread 31 = .ok (.aload_n 0, 1) := dk_42 (by decide +kernel)
theorem dX12_spread_32 : decode cX12_spread 32 = .ok (.iload_n 2, 1) := dk_28 (by decide +kernel)
theorem dX12_spread_33 : decode cX12_spread 33 = .ok (.invokevirtual 900, 3) := dk_182 (by decide +kernel)
theorem dX12_spread_36 : decode cX12_spread 36 = .ok (.ifCond .eq 27, 3) := dk_153 (by decide +kernel)
theorem dX12_spread_39 : decode cX12_spread 39 = .ok (.aload_n 0, 1) := dk_42 (by decide +kernel)
theorem dX12_spread_40 : decode cX12_spread 40 = .ok (.aload_n 0, 1) := dk_42 (by decide +kernel)
theorem dX12_spread_41 : decode cX12_spread 41 = .ok (.iload_n 1, 1) := dk_27 (by decide +kernel)
theorem dX12_spread_42 : decode cX12_spread 42 = .ok (.aload_n 0, 1) := dk_42 (by decide +kernel)
theorem dX12_spread_43 : decode cX12_spread 43 = .ok (.getfield 245, 3) := dk_180 (by decide +kernel)
theorem dX12_spread_46 : decode cX12_spread 46 = .ok (.iload_n 2, 1) := dk_28 (by decide +kernel)
theorem dX12_spread_47 : decode cX12_spread 47 = .ok (.iaload, 1) := dk_46 (by decide +kernel)
theorem dX12_spread_48 : decode cX12_spread 48 = .ok (.iconst 1, 1) := dk_4 (by decide +kernel)
theorem dX12_spread_49 : decode cX12_spread 49 = .ok (.iadd, 1) := dk_96 (by decide +kernel)
theorem dX12_spread_50 : decode cX12_spread 50 = .ok (.invokevirtual 405, 3) := dk_182 (by decide +kernel)
theorem dX12_spread_53 : decode cX12_spread 53 = .ok (.iload_n 3, 1) := dk_29 (by decide +kernel)
theorem dX12_spread_54 : decode cX12_spread 54 = .ok (.ineg, 1) := dk_116 (by decide +kernel)
theorem dX12_spread_55 : decode cX12_spread 55 = .ok (.i2l, 1) := dk_133 (by decide +kernel)
theorem dX12_spread_56 : decode cX12_spread 56 = .ok (.iload 4, 2) := dk_21 (by decide +kernel)
theorem dX12_spread_58 : decode cX12_spread 58 = .ok (.i2l, 1) := dk_133 (by decide +kernel)
theorem dX12_spread_59 : decode cX12_spread 59 = .ok (.lmul, 1) := dk_105 (by decide +kernel)
theorem dX12_spread_60 : decode cX12_spread 60 = .ok (.invokevirtual 369, 3) := dk_182 (by decide +kernel)
theorem dX12_spread_63 : decode cX12_spread 63 = .ok (.return_, 1) := dk_177 (by decide +kernel)
def wsRX12_spread : List Cond := .code yX12_spread cX12_spread 5 none :: ([.fieldLink RX12 242 "OptimaWorksModel" "needKept" "[I", .fieldLink RX12 245 "OptimaWorksModel" "needColumn" "[I"] ++ wsX120 ++ (wsV RX12 405 RX12 yX12_at wsRX12_at) ++ (wsV RX12 369 RX12 yX12_put wsRX12_put) ++ (wsV RX12 900 RX12 yX12_isEqual wsRX12_isEqual))
theorem iwsRX12_spread_in12 : ∀ w ∈ wsX120, w ∈ wsRX12_spread := fun _ h => List.mem_cons_of_mem _ (List.mem_append_left _ (List.mem_append_left _ (List.mem_append_left _ (List.mem_append_right _ h))))
theorem gwsRX12_spread_0 : GoodIn wsRX12_spread (wsV RX12 405 RX12 yX12_at wsRX12_at) := goodIn_sub (fun _ h => List.mem_cons_of_mem _ (List.mem_append_left _ (List.mem_append_left _ (List.mem_append_right _ h)))) (gdV (by decide +kernel) gdwsRX12_at)
theorem gwsRX12_spread_1 : GoodIn wsRX12_spread (wsV RX12 369 RX12 yX12_put wsRX12_put) := goodIn_sub (fun _ h => List.mem_cons_of_mem _ (List.mem_append_left _ (List.mem_append_right _ h))) (gdV (by decide +kernel) gdwsRX12_put)
theorem gwsRX12_spread_2 : GoodIn wsRX12_spread (wsV RX12 900 RX12 yX12_isEqual wsRX12_isEqual) := goodIn_sub (fun _ h => List.mem_cons_of_mem _ (List.mem_append_right _ h)) (gdV (by decide +kernel) gdwsRX12_isEqual)
theorem gdwsRX12_spread : wsRX12_spread.all goodWord = true := gdC rfl (gdA (gdA (gdA (gdA (by decide +kernel : ([.fieldLink RX12 242 "OptimaWorksModel" "needKept" "[I", .fieldLink RX12 245 "OptimaWorksModel" "needColumn" "[I"] : List Cond).all goodWord = true) gdwsX120) (gdV (by decide +kernel) gdwsRX12_at)) (gdV (by decide +kernel) gdwsRX12_put)) (gdV (by decide +kernel) gdwsRX12_isEqual))
set_option maxHeartbeats 4000000 in
set_option maxRecDepth 100000 in
/-- spread(r, i, v, how) -/
theorem r_X12_spread (l : Launch) (dC : Nat → ClassId) (dI : Nat → Nat → Nat) (a : Nat → Nat) (k : Nat → ClassId) (h0 : Nat) (vi : Nat → Int32) (vj : Nat → Int64) (vF : Nat → Nat → Int32) (vG : Nat → Nat → Int64) (rn : Nat) (vI : Int32) (hw : Int32) (hI : Int) (C : Nat) (bb : Nat → Nat) (iN : Nat) (vn : Nat) (mr : Nat) (z : Nat) (nd : Nat) (mg : Nat → Int) (hBg : Bg (vF 0) mg) (hN : NdO (vF 71) (vF 72) vn mr z nd) (hvn8 : vn ≤ 8) (hmr12 : mr ≤ 12) (hiN : iN < nd) (hC : vi 5 = nI C) (hC0 : 0 < C ∧ C ≤ 45) (hrn : 30 + rn * (C + 1) + C < 1000) (hcol : vF 74 iN = nI (ncS (ncw (vF 61) (vF 71) (vF 72) (vF 73)) iN)) (hlast : ncS (ncw (vF 61) (vF 71) (vF 72) (vF 73)) iN + (ncw (vF 61) (vF 71) (vF 72) (vF 73)) iN ≤ C - 1) (hhI : (hw).toInt = hI) (hI1 : hI = 1 ∨ hI = -1) (hvb : (vI).toInt.natAbs ≤ 99999) (hbb : ∀ j, ncS (ncw (vF 61) (vF 71) (vF 72) (vF 73)) iN ≤ j → j < ncS (ncw (vF 61) (vF 71) (vF 72) (vF 73)) iN + (ncw (vF 61) (vF 71) (vF 72) (vF 73)) iN → (vI).toInt.natAbs ≤ bb j) (hrow : RwB C mg rn bb) (sz : Nat) : Met l yX12_spread wsRX12_spread ({ frames := 1, cells := 0, slots := 0, locals := 27 }) (va_Pc [.ref h0, .int (nI rn), .int (nI iN), .int vI, .int hw] (fun U => U.heap.size = sz ∧ va_P (dC, dI) vwCl (WR a k h0 vi vj vF vG) U.heap ∧ va_K (dC, dI) vwCl (tX12 k) U ∧ va_D (fun _ => True) (WR a k h0 vi vj vF vG))) (va_Qv (fun (u : (Nat → Int32) × (Nat → Int)) => (Bg (u.1) (u.2)) ∧ (RwB C (u.2) rn bb) ∧ (∀ q, (q < 30 + rn * (C + 1) ∨ 30 + rn * (C + 1) + (C - 1) ≤ q) → (u.2) q = mg q)) (fun (u : (Nat → Int32) × (Nat → Int)) t => va_P (dC, dI) vwCl (WR a k h0 vi vj (fT vF 0 (u.1)) vG) t.heap ∧ va_D (va_A (WR a k h0 vi vj vF vG) sz) (WR a k h0 vi vj (fT vF 0 (u.1)) vG)) (va_A (WR a k h0 vi vj vF vG) sz)) 0 0 (va_A (WR a k h0 vi vj vF vG) sz) := by
  refine Met.ofW (cc := cX12_spread) (maxL := 5) (ret := none) (by decide) rfl ?_
  intro p e s m args below meth c s₁ B hml hv
  obtain ⟨rfl, hsz, hP, hK, hD0⟩ := hv
  have hx := B.exec
  have hb := B.bytes
  have hr := B.returns
  have hts := atoms_spec (ws := wsRX12_spread) B.pre
  have hown : s.vm.findClass RX12 = some m.cls := findClass_of_methodNamed B.named
  have hlocks := B.notSynchronized
  subst hsz
  have hD := hD0.self (sz := s.heap.size)
  generalize hAe : va_A (WR a k h0 vi vj vF vG) s.heap.size = A at hD ⊢
  have hA : ∀ q : Nat, s.heap.size ≤ q → A q := fun q h => by rw [← hAe]; exact Or.inr h
  have hS : va_S A s.heap s.heap [] := va_S.rf
  have hl := lv_entry ([.ref h0, .int (nI rn), .int (nI iN), .int vI, .int hw]) (n := 5) (Nat.le_of_ble_eq_true rfl)
  rw [lg_entry_eq]
  generalize (lg_sl ([.ref h0, .int (nI rn), .int (nI iN), .int vI, .int hw]) ++ List.replicate (5 - (lg_sl ([.ref h0, .int (nI rn), .int (nI iN), .int vI, .int hw])).length) Slot.unset).toArray = ls at hl ⊢
  have hl : lv_has ls 5 [(0, .ref h0), (1, .int (nI rn)), (2, .int (nI iN)), (3, .int vI), (4, .int hw)] := hl
  have hn28 : nd ≤ 28 := by have h1 := hN.1; have h2 := hN.2.2.1; omega
  refine lv_aload_n hx hb dX12_spread_0 rfl (lv_at hl 0 rfl) ?_
  refine va_get (D := (dC, dI)) (ci := 12) (v := .ref (a 73)) (C := RX12) (T := TX12) (N := 163) (fs := fM (vS a vi vj)) hx hb hts iwsRX12_spread_in12 hown hK hP 0 rfl rfl 122 (by decide) (hts (.fieldLink RX12 242 "OptimaWorksModel" "needKept" "[I") (by decide +kernel)) (fun _ h9 => h9) rfl dX12_spread_1 ?_
  refine lv_iload_n hx hb dX12_spread_4 rfl (lv_at hl 2 rfl) ?_
  refine va_iald (cA := k 73) (n := 28) (f := (vF 73)) hx hb hK hP 74 73 (WR_get 73 (by decide)) (TR_get 73 (by decide)) (vp_in_nI (show iN < 28 by omega) (by omega)) dX12_spread_5 ?_
  refine lv_topi (fun y1 hy1 => ?_)
  obtain rfl : ((vF 73) iN) = y1 := (hy1.trans (by rw [nI_clamp (by omega)])).symm
  refine lv_if_ne (tgt := 10) hx hb dX12_spread_6 (by decide) (fun c_6 => ?_) (fun c_6 => ?_)
  · have t_6 : (((vF 73) iN)).toInt ≠ 0 := toI_ne c_6 rfl (by decide)
    have hw1 : 1 ≤ (ncw (vF 61) (vF 71) (vF 72) (vF 73)) iN := by unfold ncw; rw [if_neg c_6]; split <;> omega
    have ea := mulI (x := vI) (y := hw)
    have bx : ((vI).toInt * hI).natAbs ≤ (vI).toInt.natAbs := by rcases hI1 with h | h <;> rw [h] <;> omega
    have hc45 : ncS (ncw (vF 61) (vF 71) (vF 72) (vF 73)) iN < 45 := by omega
    refine lv_aload_n hx hb dX12_spread_10 rfl (lv_at hl 0 rfl) ?_
    refine lv_aload_n hx hb dX12_spread_11 rfl (lv_at hl 0 rfl) ?_
    refine lv_iload_n hx hb dX12_spread_12 rfl (lv_at hl 1 rfl) ?_
    refine lv_aload_n hx hb dX12_spread_13 rfl (lv_at hl 0 rfl) ?_
    refine va_get (D := (dC, dI)) (ci := 12) (v := .ref (a 74)) (C := RX12) (T := TX12) (N := 163) (fs := fM (vS a vi vj)) hx hb hts iwsRX12_spread_in12 hown hK hP 0 rfl rfl 123 (by decide) (hts (.fieldLink RX12 245 "OptimaWorksModel" "needColumn" "[I") (by decide +kernel)) (fun _ h9 => h9) rfl dX12_spread_14 ?_
    refine lv_iload_n hx hb dX12_spread_17 rfl (lv_at hl 2 rfl) ?_
    refine va_iald (cA := k 74) (n := 28) (f := (vF 74)) hx hb hK hP 75 74 (WR_get 74 (by decide)) (TR_get 74 (by decide)) (vp_in_nI (show iN < 28 by omega) (by omega)) dX12_spread_18 ?_
    refine lv_topi (fun y2 hy2 => ?_)
    obtain rfl : ((vF 74) iN) = y2 := (hy2.trans (by rw [nI_clamp (by omega)])).symm
    refine lv_topi (fun y3 hy3 => ?_)
    obtain rfl : (nI (ncS (ncw (vF 61) (vF 71) (vF 72) (vF 73)) iN)) = y3 := (hy3.trans (hcol)).symm
    have hFc := allFree hD hS hA
    refine va_calli (va_runV (As := [.int (nI rn), .int (nI (ncS (ncw (vF 61) (vF 71) (vF 72) (vF 73)) iN))]) (rest := [.ref h0]) ⟨hx, hb, hml, hown, hts⟩ (r_X12_at l dC dI a k h0 vi vj vF vG rn (ncS (ncw (vF 61) (vF 71) (vF 72) (vF 73)) iN) C (by first | with_reducible assumption | decide | omega | rfl | assumption) s.heap.size) (cwV 2 hts gwsRX12_spread_0 rfl rfl rfl hd_yX12_at_RX12 (by decide +kernel)) (fz_pre (va_recv hK hP (ci := 12) (q0 := 0) rfl rfl) hP hK hD) rfl rfl hl.1 rfl (lv_room (Nat.le_of_ble_eq_true rfl)) dX12_spread_19 (by decide +kernel)) hS (fun q _ h => hFc q h) hFc (fun r19 u t9_ H locs ht hvm hw9 hB9 hz1 hk1 hS => ?_)
    have hP : va_P (dC, dI) vwCl (WR a k h0 vi vj vF vG) H := fz_P ht hB9.1
    have hD : va_D A (WR a k h0 vi vj vF vG) := hB9.2.weaken (fun _ q _ h => hFc q.1 h)
    obtain rfl := hw9
    refine lv_iload_n hx hb dX12_spread_22 rfl (lv_at hl 3 rfl) ?_
    refine lv_i2l hx hb dX12_spread_23 rfl ?_
    refine lv_iload hx hb dX12_spread_24 (lv_at hl 4 rfl) ?_
    refine lv_i2l hx hb dX12_spread_26 rfl ?_
    refine lv_lmul hx hb dX12_spread_27 ?_
    have hFc := allFree hD hS hA
    refine va_callv (va_runV (As := [.int (nI (30 + rn * (C + 1) + (ncS (ncw (vF 61) (vF 71) (vF 72) (vF 73)) iN))), .long ((vI).toInt64 * (hw).toInt64)]) (rest := []) ⟨hx, hb, hml, hown, hts⟩ (b_X12_put l dC dI a k h0 vi vj vF vG (30 + rn * (C + 1) + (ncS (ncw (vF 61) (vF 71) (vF 72) (vF 73)) iN)) ((vI).toInt64 * (hw).toInt64) ((vI).toInt * hI) mg hBg (by first | with_reducible assumption | decide | omega | rfl | assumption) (by rw [ea, hhI]) (by omega) H.size) (cwV 2 hts gwsRX12_spread_1 rfl rfl rfl hd_yX12_put_RX12 (by decide +kernel)) (fz_pre (va_recv hK hP (ci := 12) (q0 := 0) rfl rfl) hP hK hD) rfl rfl hl.1 rfl (lv_room (Nat.le_of_ble_eq_true rfl)) dX12_spread_28 (by decide +kernel)) hS (fun q _ h => hFc q h) hFc (fun g28 t9_ H locs ht hvm hw9 hB9 hz1 hk1 hS => ?_)
    have hP : va_P (dC, dI) vwCl (WR a k h0 vi vj (fT vF 0 g28) vG) H := fz_P ht hB9.1
    have hD : va_D A (WR a k h0 vi vj (fT vF 0 g28) vG) := hB9.2.weaken (fun _ q _ h => hFc q.1 h)
    have f28_0 := hw9
    try dsimp only at f28_0
    refine lv_aload_n hx hb dX12_spread_31 rfl (lv_at hl 0 rfl) ?_
    refine lv_iload_n hx hb dX12_spread_32 rfl (lv_at hl 2 rfl) ?_
    have hFc := allFree hD hS hA
    refine va_calli (va_runV (As := [.int (nI iN)]) (rest := []) ⟨hx, hb, hml, hown, hts⟩ (r_X12_isEqual l dC dI a k h0 vi vj (fT vF 0 g28) vG iN vn mr z nd (hN) (by first | with_reducible assumption | decide | omega | rfl | assumption) (by first | with_reducible assumption | decide | omega | rfl | assumption) (by first | with_reducible assumption | decide | omega | rfl | assumption) H.size) (cwV 1 hts gwsRX12_spread_2 rfl rfl rfl hd_yX12_isEqual_RX12 (by decide +kernel)) (fz_pre (va_recv hK hP (ci := 12) (q0 := 0) rfl rfl) hP hK hD) rfl rfl hl.1 rfl (lv_room (Nat.le_of_ble_eq_true rfl)) dX12_spread_33 (by decide +kernel)) hS (fun q _ h => hFc q h) hFc (fun r33 u t9_ H locs ht hvm hw9 hB9 hz1 hk1 hS => ?_)
    have hP : va_P (dC, dI) vwCl (WR a k h0 vi vj (fT vF 0 g28) vG) H := fz_P ht hB9.1
    have hD : va_D A (WR a k h0 vi vj (fT vF 0 g28) vG) := hB9.2.weaken (fun _ q _ h => hFc q.1 h)
    rcases hw9 with ⟨rfl, f33_0⟩ | ⟨rfl, f33_0⟩
    · have f33_0 : EqP (vF 61) (vF 71) (vF 72) iN := f33_0
      refine lv_if_eq (tgt := 63) hx hb dX12_spread_36 (by decide) (fun c9 => absurd c9 (by decide)) (fun _ => ?_)
      have hw2 : (ncw (vF 61) (vF 71) (vF 72) (vF 73)) iN = 2 := by unfold ncw; rw [if_neg c_6, if_pos f33_0]
      have hng := neg32 (b := 99999) hvb (by decide)
      have eb := mulI (x := -vI) (y := hw)
      have by9 : (-(vI).toInt * hI).natAbs ≤ (vI).toInt.natAbs := by rcases hI1 with h | h <;> rw [h] <;> omega
      refine lv_aload_n hx hb dX12_spread_39 rfl (lv_at hl 0 rfl) ?_
      refine lv_aload_n hx hb dX12_spread_40 rfl (lv_at hl 0 rfl) ?_
      refine lv_iload_n hx hb dX12_spread_41 rfl (lv_at hl 1 rfl) ?_
      refine lv_aload_n hx hb dX12_spread_42 rfl (lv_at hl 0 rfl) ?_
      refine va_get (D := (dC, dI)) (ci := 12) (v := .ref (a 74)) (C := RX12) (T := TX12) (N := 163) (fs := fM (vS a vi vj)) hx hb hts iwsRX12_spread_in12 hown hK hP 0 rfl rfl 123 (by decide) (hts (.fieldLink RX12 245 "OptimaWorksModel" "needColumn" "[I") (by decide +kernel)) (fun _ h9 => h9) rfl dX12_spread_43 ?_
      refine lv_iload_n hx hb dX12_spread_46 rfl (lv_at hl 2 rfl) ?_
      refine va_iald (cA := k 74) (n := 28) (f := (vF 74)) hx hb hK hP 75 74 (WR_get 74 (by decide)) (TR_get 74 (by decide)) (vp_in_nI (show iN < 28 by omega) (by omega)) dX12_spread_47 ?_
      refine lv_topi (fun y4 hy4 => ?_)
      obtain rfl : ((vF 74) iN) = y4 := (hy4.trans (by rw [nI_clamp (by omega)])).symm
      refine lv_topi (fun y5 hy5 => ?_)
      obtain rfl : (nI (ncS (ncw (vF 61) (vF 71) (vF 72) (vF 73)) iN)) = y5 := (hy5.trans (hcol)).symm
      refine lv_iconst (v := 1) hx hb dX12_spread_48 (by decide) ?_
      refine lv_iadd hx hb dX12_spread_49 ?_
      refine lv_topi (fun y6 hy6 => ?_)
      obtain rfl : (nI ((ncS (ncw (vF 61) (vF 71) (vF 72) (vF 73)) iN) + 1)) = y6 := (hy6.trans (nI_add (ncS (ncw (vF 61) (vF 71) (vF 72) (vF 73)) iN) 1)).symm
      have hFc := allFree hD hS hA
      refine va_calli (va_runV (As := [.int (nI rn), .int (nI ((ncS (ncw (vF 61) (vF 71) (vF 72) (vF 73)) iN) + 1))]) (rest := [.ref h0]) ⟨hx, hb, hml, hown, hts⟩ (r_X12_at l dC dI a k h0 vi vj (fT vF 0 g28) vG rn ((ncS (ncw (vF 61) (vF 71) (vF 72) (vF 73)) iN) + 1) C (by first | with_reducible assumption | decide | omega | rfl | assumption) H.size) (cwV 2 hts gwsRX12_spread_0 rfl rfl rfl hd_yX12_at_RX12 (by decide +kernel)) (fz_pre (va_recv hK hP (ci := 12) (q0 := 0) rfl rfl) hP hK hD) rfl rfl hl.1 rfl (lv_room (Nat.le_of_ble_eq_true rfl)) dX12_spread_50 (by decide +kernel)) hS (fun q _ h => hFc q h) hFc (fun r50 u t9_ H locs ht hvm hw9 hB9 hz1 hk1 hS => ?_)
      have hP : va_P (dC, dI) vwCl (WR a k h0 vi vj (fT vF 0 g28) vG) H := fz_P ht hB9.1
      have hD : va_D A (WR a k h0 vi vj (fT vF 0 g28) vG) := hB9.2.weaken (fun _ q _ h => hFc q.1 h)
      obtain rfl := hw9
      refine lv_iload_n hx hb dX12_spread_53 rfl (lv_at hl 3 rfl) ?_
      refine lv_ineg hx hb dX12_spread_54 ?_
      refine lv_i2l hx hb dX12_spread_55 rfl ?_
      refine lv_iload hx hb dX12_spread_56 (lv_at hl 4 rfl) ?_
      refine lv_i2l hx hb dX12_spread_58 rfl ?_
      refine lv_lmul hx hb dX12_spread_59 ?_
      have hFc := allFree hD hS hA
      refine va_callv (va_runV (As := [.int (nI (30 + rn * (C + 1) + ((ncS (ncw (vF 61) (vF 71) (vF 72) (vF 73)) iN) + 1))), .long (((-vI)).toInt64 * (hw).toInt64)]) (rest := []) ⟨hx, hb, hml, hown, hts⟩ (b_X12_put l dC dI a k h0 vi vj (fT vF 0 g28) vG (30 + rn * (C + 1) + ((ncS (ncw (vF 61) (vF 71) (vF 72) (vF 73)) iN) + 1)) (((-vI)).toInt64 * (hw).toInt64) (-(vI).toInt * hI) (fT mg (30 + rn * (C + 1) + (ncS (ncw (vF 61) (vF 71) (vF 72) (vF 73)) iN)) ((vI).toInt * hI)) f28_0 (by first | with_reducible assumption | decide | omega | rfl | assumption) (by rw [eb, hhI, hng.2]) (by omega) H.size) (cwV 2 hts gwsRX12_spread_1 rfl rfl rfl hd_yX12_put_RX12 (by decide +kernel)) (fz_pre (va_recv hK hP (ci := 12) (q0 := 0) rfl rfl) hP hK hD) rfl rfl hl.1 rfl (lv_room (Nat.le_of_ble_eq_true rfl)) dX12_spread_60 (by decide +kernel)) hS (fun q _ h => hFc q h) hFc (fun g60 t9_ H locs ht hvm hw9 hB9 hz1 hk1 hS => ?_)
      have hP : va_P (dC, dI) vwCl (WR a k h0 vi vj (fT (fT vF 0 g28) 0 g60) vG) H := fz_P ht hB9.1
      have hD : va_D A (WR a k h0 vi vj (fT (fT vF 0 g28) 0 g60) vG) := hB9.2.weaken (fun _ q _ h => hFc q.1 h)
      have e9 : fT vF 0 g60 = fT (fT vF 0 g28) 0 g60 := (fT_sm _ _ _ _).symm
      rw [← e9] at hP hD
      clear e9
      have hP : va_P (dC, dI) vwCl (WR a k h0 vi vj (fT vF 0 g60) vG) H := hP
      have hD : va_D A (WR a k h0 vi vj (fT vF 0 g60) vG) := hD
      have f60_0 := hw9
      try dsimp only at f60_0
      refine W.widen (k := 0) (n := 0) (by decide +kernel) (by decide +kernel) ?_
      exact W.vret hx hb hr (fun t9_ ht hW => ⟨⟨(g60, (fT (fT mg (30 + rn * (C + 1) + (ncS (ncw (vF 61) (vF 71) (vF 72) (vF 73)) iN)) ((vI).toInt * hI)) (30 + rn * (C + 1) + ((ncS (ncw (vF 61) (vF 71) (vF 72) (vF 73)) iN) + 1)) (-(vI).toInt * hI))), rfl, by (try dsimp only); exact ⟨f60_0, fun j hj => by by_cases e8 : j = ncS (ncw (vF 61) (vF 71) (vF 72) (vF 73)) iN + 1; (rw [e8, fT_eq]; exact Nat.le_trans by9 (hbb _ (by omega) (by omega))); rw [fT_ne _ _ (by omega)]; by_cases e9 : j = ncS (ncw (vF 61) (vF 71) (vF 72) (vF 73)) iN; (rw [e9, fT_eq]; exact Nat.le_trans bx (hbb _ (by omega) (by omega))); (rw [fT_ne _ _ (by omega)]; exact hrow j hj), fun q hq => by (rw [fT_ne _ _ (by omega), fT_ne _ _ (by omega)])⟩, by rw [ht]; exact hP, hD⟩, hS.F ht⟩) hS.2.2 dX12_spread_63
    · have f33_0 : ¬ EqP (vF 61) (vF 71) (vF 72) iN := f33_0
      refine lv_if_eq (tgt := 63) hx hb dX12_spread_36 (by decide) (fun _ => ?_) (fun c9 => absurd (by decide) c9)
      refine W.widen (k := 0) (n := 0) (by decide +kernel) (by decide +kernel) ?_
      exact W.vret hx hb hr (fun t9_ ht hW => ⟨⟨(g28, (fT mg (30 + rn * (C + 1) + (ncS (ncw (vF 61) (vF 71) (vF 72) (vF 73)) iN)) ((vI).toInt * hI))), rfl, by (try dsimp only); exact ⟨f28_0, fun j hj => by by_cases e9 : j = ncS (ncw (vF 61) (vF 71) (vF 72) (vF 73)) iN; (rw [e9, fT_eq]; exact Nat.le_trans bx (hbb _ (by omega) (by omega))); (rw [fT_ne _ _ (by omega)]; exact hrow j hj), fun q hq => by (rw [fT_ne _ _ (by omega)])⟩, by rw [ht]; exact hP, hD⟩, hS.F ht⟩) hS.2.2 dX12_spread_63
  · have t_6 : (((vF 73) iN)).toInt = 0 := toI_nne c_6 rfl (by decide)
    refine W.widen (k := 0) (n := 0) (by decide +kernel) (by decide +kernel) ?_
    have e9 : fT vF 0 (vF 0) = vF := fT_id _ _ (rfl)
    have hP : va_P (dC, dI) vwCl (WR a k h0 vi vj (fT vF 0 (vF 0)) vG) s.heap := by rw [e9]; exact hP
    have hD : va_D A (WR a k h0 vi vj (fT vF 0 (vF 0)) vG) := by rw [e9]; exact hD
    clear e9
    exact W.vret hx hb hr (fun t9_ ht hW => ⟨⟨((vF 0), mg), rfl, by (try dsimp only); exact ⟨hBg, hrow, fun q _ => rfl⟩, by rw [ht]; exact hP, hD⟩, hS.F ht⟩) hS.2.2 dX12_spread_9
end

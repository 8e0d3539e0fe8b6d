section
theorem hd_yX12_say_RX12 : yX12_say.cls = RX12 ∧ yX12_say.cls ≠ "java/lang/invoke/MethodHandle" ∧ yX12_say.cls ≠ "java/lang/invoke/VarHandle" ∧ (parseMethodDescriptor yX12_say.desc).map (fun d => d.parameters.length) = some 1 := by decide +kernel
theorem hd_yX12_sayNumber_RX12 : yX12_sayNumber.cls = RX12 ∧ yX12_sayNumber.cls ≠ "java/lang/invoke/MethodHandle" ∧ yX12_sayNumber.cls ≠ "java/lang/invoke/VarHandle" ∧ (parseMethodDescriptor yX12_sayNumber.desc).map (fun d => d.parameters.length) = some 1 := by decide +kernel
theorem hd_yX12_sayPart_RX12 : yX12_sayPart.cls = RX12 ∧ yX12_sayPart.cls ≠ "java/lang/invoke/MethodHandle" ∧ yX12_sayPart.cls ≠ "java/lang/invoke/VarHandle" ∧ (parseMethodDescriptor yX12_sayPart.desc).map (fun d => d.parameters.length) = some 2 := by decide +kernel
theorem hd_yX12_sayTerm_RX12 : yX12_sayTerm.cls = RX12 ∧ yX12_sayTerm.cls ≠ "java/lang/invoke/MethodHandle" ∧ yX12_sayTerm.cls ≠ "java/lang/invoke/VarHandle" ∧ (parseMethodDescriptor yX12_sayTerm.desc).map (fun d => d.parameters.length) = some 4 := by decide +kernel
theorem dX12_sayNumber_0 : decode cX12_sayNumber 0 = .ok (.iload_n 1, 1) := dk_27 (by decide +kernel)
theorem dX12_sayNumber_1 : decode cX12_sayNumber 1 = .ok (.ifCond .ge 9, 3) := dk_156 (by decide +kernel)
theorem dX12_sayNumber_4 : decode cX12_sayNumber 4 = .ok (.aload_n 0, 1) := dk_42 (by decide +kernel)
theorem dX12_sayNumber_5 : decode cX12_sayNumber 5 = .ok (.bipush 45, 2) := dk_16 (by decide +kernel)
theorem dX12_sayNumber_7 : decode cX12_sayNumber 7 = .ok (.invokevirtual 936, 3) := dk_182 (by decide +kernel)
theorem dX12_sayNumber_10 : decode cX12_sayNumber 10 = .ok (.iload_n 1, 1) := dk_27 (by decide +kernel)
theorem dX12_sayNumber_11 : decode cX12_sayNumber 11 = .ok (.ifCond .ge 8, 3) := dk_156 (by decide +kernel)
theorem dX12_sayNumber_14 : decode cX12_sayNumber 14 = .ok (.iload_n 1, 1) := dk_27 (by decide +kernel)
theorem dX12_sayNumber_15 : decode cX12_sayNumber 15 = .ok (.ineg, 1) := dk_116 (by decide +kernel)
theorem dX12_sayNumber_16 : decode cX12_sayNumber 16 = .ok (.goto 4, 3) := dk_167 (by decide +kernel)
theorem dX12_sayNumber_19 : decode cX12_sayNumber 19 = .ok (.iload_n 1, 1) := dk_27 (by decide +kernel)
theorem dX12_sayNumber_20 : decode cX12_sayNumber 20 = .ok (.istore_n 2, 1) := dk_61 (by decide +kernel)
theorem dX12_sayNumber_21 : decode cX12_sayNumber 21 = .ok (.iconst 1, 1) := dk_4 (by decide +kernel)
theorem dX12_sayNumber_22 : decode cX12_sayNumber 22 = .ok (.istore_n 3, 1) := dk_62 (by decide +kernel)
theorem dX12_sayNumber_23 : decode cX12_sayNumber 23 = .ok (.iload_n 2, 1) := dk_28 (by decide +kernel)
theorem dX12_sayNumber_24 : decode cX12_sayNumber 24 = .ok (.iload_n 3, 1) := dk_29 (by decide +kernel)
theorem dX12_sayNumber_25 : decode cX12_sayNumber 25 = .ok (.idiv, 1) := dk_108 (by decide +kernel)
theorem dX12_sayNumber_26 : decode cX12_sayNumber 26 = .ok (.bipush 9, 2) := dk_16 (by decide +kernel)
theorem dX12_sayNumber_28 : decode cX12_sayNumber 28 = .ok (.if_icmp .le 11, 3) := dk_164 (by decide +kernel)
theorem dX12_sayNumber_31 : decode cX12_sayNumber 31 = .ok (.iload_n 3, 1) := dk_29 (by decide +kernel)
theorem dX12_sayNumber_32 : decode cX12_sayNumber 32 = .ok (.bipush 10, 2) := dk_16 (by decide +kernel)
theorem dX12_sayNumber_34 : decode cX12_sayNumber 34 = .ok (.imul, 1) := dk_104 (by decide +kernel)
theorem dX12_sayNumber_35 : decode cX12_sayNumber 35 = .ok (.istore_n 3, 1) := dk_62 (by decide +kernel)
theorem dX12_sayNumber_36 : decode cX12_sayNumber 36 = .ok (.goto (-13), 3) := dk_167 (by decide +kernel)
theorem dX12_sayNumber_39 : decode cX12_sayNumber 39 = .ok (.iload_n 3, 1) := dk_29 (by decide +kernel)
theorem dX12_sayNumber_40 : decode cX12_sayNumber 40 = .ok (.ifCond .le 24, 3) := dk_158 (by decide +kernel)
theorem dX12_sayNumber_43 : decode cX12_sayNumber 43 = .ok (.aload_n 0, 1) := dk_42 (by decide +kernel)
theorem dX12_sayNumber_44 : decode cX12_sayNumber 44 = .ok (.bipush 48, 2) := dk_16 (by decide +kernel)
theorem dX12_sayNumber_46 : decode cX12_sayNumber 46 = .ok (.iload_n 2, 1) := dk_28 (by decide +kernel)
theorem dX12_sayNumber_47 : decode cX12_sayNumber 47 = .ok (.iload_n 3, 1) := dk_29 (by decide +kernel)
theorem dX12_sayNumber_48 : decode cX12_sayNumber 48 = .ok (.idiv, 1) := dk_108 (by decide +kernel)
theorem dX12_sayNumber_49 : decode cX12_sayNumber 49 = .ok (.bipush 10, 2) := dk_16 (by decide +kernel)
theorem dX12_sayNumber_51 : decode cX12_sayNumber 51 = .ok (.irem, 1) := dk_112 (by decide +kernel)
theorem dX12_sayNumber_52 : decode cX12_sayNumber 52 = .ok (.iadd, 1) := dk_96 (by decide +kernel)
theorem dX12_sayNumber_53 : decode cX12_sayNumber 53 = .ok (.invokevirtual 936, 3) := dk_182 (by decide +kernel)
theorem dX12_sayNumber_56 : decode cX12_sayNumber 56 = .ok (.iload_n 3, 1) := dk_29 (by decide +kernel)
theorem dX12_sayNumber_57 : decode cX12_sayNumber 57 = .ok (.bipush 10, 2) := dk_16 (by decide +kernel)
theorem dX12_sayNumber_59 : decode cX12_sayNumber 59 = .ok (.idiv, 1) := dk_108 (by decide +kernel)
theorem dX12_sayNumber_60 : decode cX12_sayNumber 60 = .ok (.istore_n 3, 1) := dk_62 (by decide +kernel)
theorem dX12_sayNumber_61 : decode cX12_sayNumber 61 = .ok (.goto (-22), 3) := dk_167 (by decide +kernel)
theorem dX12_sayNumber_64 : decode cX12_sayNumber 64 = .ok (.return_, 1) := dk_177 (by decide +kernel)
def wsRX12_sayNumber : List Cond := .code yX12_sayNumber cX12_sayNumber 4 none :: ([] ++ wsX120 ++ (wsV RX12 936 RX12 yX12_say wsRX12_say))
theorem iwsRX12_sayNumber_in12 : ∀ w ∈ wsX120, w ∈ wsRX12_sayNumber := fun _ h => List.mem_cons_of_mem _ (List.mem_append_left _ (List.mem_append_right _ h))
theorem gwsRX12_sayNumber_0 : GoodIn wsRX12_sayNumber (wsV RX12 936 RX12 yX12_say wsRX12_say) := goodIn_sub (fun _ h => List.mem_cons_of_mem _ (List.mem_append_right _ h)) (gdV (by decide +kernel) gdwsRX12_say)
theorem gdwsRX12_sayNumber : wsRX12_sayNumber.all goodWord = true := gdC rfl (gdA (gdA (by decide +kernel : ([] : List Cond).all goodWord = true) gdwsX120) (gdV (by decide +kernel) gdwsRX12_say))
set_option maxHeartbeats 4000000 in
set_option maxRecDepth 100000 in
/-- sayNumber(v) -/
theorem r_X12_sayNumber (l : Launch) (dC : Nat → ClassId) (dI : Nat → Nat → Nat) (a : Nat → Nat) (k : Nat → ClassId) (h0 : Nat) (vi : Nat → Int32) (vj : Nat → Int64) (vF : Nat → Nat → Int32) (vG : Nat → Nat → Int64) (vI : Int32) (pn : Nat) (hpn : vi 125 = nI pn) (hpn2 : pn ≤ 30000) (hvI : (vI).toInt.natAbs ≤ 1000000) (sz : Nat) : Met l yX12_sayNumber wsRX12_sayNumber ({ frames := 1, cells := 0, slots := 0, locals := 21 }) (va_Pc [.ref h0, .int vI] (fun U => U.heap.size = sz ∧ va_P (dC, dI) vwCl (WR a k h0 vi vj vF vG) U.heap ∧ va_K (dC, dI) vwCl (tX12 k) U ∧ va_D (fun _ => True) (WR a k h0 vi vj vF vG))) (va_Qv (fun (u : (Nat) × (Nat → Int32)) => ((u.1) ≤ 30000)) (fun (u : (Nat) × (Nat → Int32)) t => va_P (dC, dI) vwCl (WR a k h0 (fT vi 125 (nI (u.1))) vj (fT vF 75 (u.2)) vG) t.heap ∧ va_D (va_A (WR a k h0 vi vj vF vG) sz) (WR a k h0 (fT vi 125 (nI (u.1))) vj (fT vF 75 (u.2)) vG)) (va_A (WR a k h0 vi vj vF vG) sz)) 0 0 (va_A (WR a k h0 vi vj vF vG) sz) := by
  refine Met.ofW (cc := cX12_sayNumber) (maxL := 4) (ret := none) (by decide) rfl ?_
  intro p e s m args below meth c s₁ B hml hv
  obtain ⟨rfl, hsz, hP, hK, hD0⟩ := hv
  have hx := B.exec
  have hb := B.bytes
  have hr := B.returns
  have hts := atoms_spec (ws := wsRX12_sayNumber) B.pre
  have hown : s.vm.findClass RX12 = some m.cls := findClass_of_methodNamed B.named
  have hlocks := B.notSynchronized
  subst hsz
  have hD := hD0.self (sz := s.heap.size)
  generalize hAe : va_A (WR a k h0 vi vj vF vG) s.heap.size = A at hD ⊢
  have hA : ∀ q : Nat, s.heap.size ≤ q → A q := fun q h => by rw [← hAe]; exact Or.inr h
  have hS : va_S A s.heap s.heap [] := va_S.rf
  have hl := lv_entry ([.ref h0, .int vI]) (n := 4) (Nat.le_of_ble_eq_true rfl)
  rw [lg_entry_eq]
  generalize (lg_sl ([.ref h0, .int vI]) ++ List.replicate (4 - (lg_sl ([.ref h0, .int vI])).length) Slot.unset).toArray = ls at hl ⊢
  have hl : lv_has ls 4 [(0, .ref h0), (1, .int vI)] := hl
  refine lv_iload_n hx hb dX12_sayNumber_0 rfl (lv_at hl 1 rfl) ?_
  refine W.cut (pc := 10) (fun H locs ls stk => ∃ (j1_i125 : Nat) (j1_F75 : Nat → Int32), (j1_i125 ≤ 30000) ∧  stk = [] ∧ va_P (dC, dI) vwCl (WR a k h0 (fT vi 125 (nI j1_i125)) vj (fT vF 75 j1_F75) vG) H ∧ va_D A (WR a k h0 (fT vi 125 (nI j1_i125)) vj (fT vF 75 j1_F75) vG) ∧ va_S A s.heap H locs ∧ lv_has ls 4 [(0, .ref h0), (1, .int vI)]) (fun join1 => ?_) ?_
  · refine lv_if_ge (tgt := 10) hx hb dX12_sayNumber_1 (by decide) (fun c_1 => ?_) (fun c_1 => ?_)
    · have t_1 : (vI).toInt ≥ 0 := toI_ge c_1 rfl (by decide)
      have e9 : fT vi 125 (nI pn) = vi := by funext q9; by_cases h9_125 : q9 = 125; (subst h9_125; exact (fT_eq _ _ _).trans (Eq.trans (by first | with_reducible rfl | with_reducible assumption | (symm; with_reducible assumption) | rfl | assumption | (symm; assumption) | (subst_vars; rfl)) (Eq.refl _).symm)); exact (fT_ne _ _ h9_125).trans (Eq.refl _).symm
      have hP := wr_Pi e9 hP
      have hD := wr_Di e9 hD
      clear e9
      have e9 : fT vF 75 (vF 75) = vF := by funext q9; by_cases h9_75 : q9 = 75; (subst h9_75; exact (fT_eq _ _ _).trans (Eq.trans (by first | with_reducible rfl | with_reducible assumption | (symm; with_reducible assumption) | rfl | assumption | (symm; assumption) | (subst_vars; rfl)) (Eq.refl _).symm)); exact (fT_ne _ _ h9_75).trans (Eq.refl _).symm
      have hP := wr_PF e9 hP
      have hD := wr_DF e9 hD
      clear e9
      have hl : lv_has _ _ ([(0, .ref h0), (1, .int vI)]) := lv_sub hl [0, 1] rfl
      exact join1 _ _ _ _ ⟨pn, (vF 75), by first | assumption | omega, rfl, hP, hD, hS, hl⟩
    · have t_1 : ¬ (vI).toInt ≥ 0 := toI_nge c_1 rfl (by decide)
      refine lv_aload_n hx hb dX12_sayNumber_4 rfl (lv_at hl 0 rfl) ?_
      refine lv_bipush (v := 45) hx hb dX12_sayNumber_5 (by decide) ?_
      have hFc := allFree hD hS hA
      refine va_callv (va_runV (As := [.int 45]) (rest := []) ⟨hx, hb, hml, hown, hts⟩ (r_X12_say l dC dI a k h0 vi vj vF vG 45 pn hpn (by first | with_reducible assumption | decide | omega | rfl | assumption) s.heap.size) (cwV 1 hts gwsRX12_sayNumber_0 rfl rfl rfl hd_yX12_say_RX12 (by decide +kernel)) (fz_pre (va_recv hK hP (ci := 12) (q0 := 0) rfl rfl) hP hK hD) rfl rfl hl.1 rfl (lv_room (Nat.le_of_ble_eq_true rfl)) dX12_sayNumber_7 (by decide +kernel)) hS (fun q _ h => hFc q h) hFc (fun u t9_ H locs ht hvm hw9 hB9 hz1 hk1 hS => ?_)
      revert u hw9 hB9
      refine fz_p2 ?_
      intro p27 f757 hw9 hB9
      try dsimp only at hw9 hB9
      have hP : va_P (dC, dI) vwCl (WR a k h0 (fT vi 125 (nI p27)) vj (fT vF 75 f757) vG) H := fz_P ht hB9.1
      have hD := fz_sd hP (hB9.2.weaken (fun _ q _ h => hFc q.1 h)) rfl
      revert hw9
      refine fz_a3 ?_
      intro f7_0 f7_1 f7_2
      have hl : lv_has _ _ ([(0, .ref h0), (1, .int vI)]) := lv_sub hl [0, 1] rfl
      exact join1 _ _ _ _ ⟨p27, f757, by first | assumption | omega, rfl, hP, hD, hS, hl⟩
  · rintro H locs ls stk ⟨j1_i125, j1_F75, hj1_i125, rfl, hP, hD, hS, hl⟩
    refine lv_iload_n hx hb dX12_sayNumber_10 rfl (lv_at hl 1 rfl) ?_
    refine W.cut (pc := 20) (fun H locs ls stk => ∃ (un : Nat), (un ≤ 1000000) ∧  stk = [.int (nI un)] ∧ va_P (dC, dI) vwCl (WR a k h0 (fT vi 125 (nI j1_i125)) vj (fT vF 75 j1_F75) vG) H ∧ va_D A (WR a k h0 (fT vi 125 (nI j1_i125)) vj (fT vF 75 j1_F75) vG) ∧ va_S A s.heap H locs ∧ lv_has ls 4 [(0, .ref h0)]) (fun join2 => ?_) ?_
    · refine lv_if_ge (tgt := 19) hx hb dX12_sayNumber_11 (by decide) (fun c_11 => ?_) (fun c_11 => ?_)
      · have t_11 : (vI).toInt ≥ 0 := toI_ge c_11 rfl (by decide)
        refine lv_iload_n hx hb dX12_sayNumber_19 rfl (lv_at hl 1 rfl) ?_
        refine lv_topi (fun y1 hy1 => ?_)
        obtain rfl : (nI ((vI).toInt.natAbs)) = y1 := (hy1.trans (natI_of (by omega))).symm
        have hl : lv_has _ _ ([(0, .ref h0)]) := lv_sub hl [0] rfl
        exact join2 _ _ _ _ ⟨((vI).toInt.natAbs), by omega, rfl, hP, hD, hS, hl⟩
      · have t_11 : ¬ (vI).toInt ≥ 0 := toI_nge c_11 rfl (by decide)
        refine lv_iload_n hx hb dX12_sayNumber_14 rfl (lv_at hl 1 rfl) ?_
        refine lv_ineg hx hb dX12_sayNumber_15 ?_
        refine lv_topi (fun y2 hy2 => ?_)
        obtain rfl : (nI ((vI).toInt.natAbs)) = y2 := (hy2.trans (natI_neg (by omega) (by omega))).symm
        refine lv_goto (tgt := 20) hx hb dX12_sayNumber_16 (by decide) ?_
        have hl : lv_has _ _ ([(0, .ref h0)]) := lv_sub hl [0] rfl
        exact join2 _ _ _ _ ⟨((vI).toInt.natAbs), by omega, rfl, hP, hD, hS, hl⟩
    · rintro H locs ls stk ⟨un, hun, rfl, hP, hD, hS, hl⟩
      refine lv_istore_n hx hb dX12_sayNumber_20 rfl hl (by decide) rfl (fun ls (hl : lv_has ls _ ([(2, .int (nI un)), (0, .ref h0)])) => ?_)
      refine lv_iconst (v := 1) hx hb dX12_sayNumber_21 (by decide) ?_
      refine lv_istore_n hx hb dX12_sayNumber_22 rfl hl (by decide) rfl (fun ls (hl : lv_has ls _ ([(3, .int 1), (2, .int (nI un)), (0, .ref h0)])) => ?_)
      have hl : lv_has _ _ ([(0, .ref h0), (2, .int (nI un)), (3, .int (nI 1))]) := lv_sub hl [2, 1, 0] rfl
      refine (fun (loop : ∀ (n9 : Nat) (hn : Nat) (H : Heap) (locs : List Loc) (ls : Array Slot), (1 ≤ hn ∧ (hn = 1 ∨ hn ≤ un)) →  (un + 2 < hn + n9) → va_P (dC, dI) vwCl (WR a k h0 (fT vi 125 (nI j1_i125)) vj (fT vF 75 j1_F75) vG) H → va_D A (WR a k h0 (fT vi 125 (nI j1_i125)) vj (fT vF 75 j1_F75) vG) → va_S A s.heap H locs → lv_has ls 4 [(0, .ref h0), (2, .int (nI un)), (3, .int (nI hn))] → W p l e _ s m _ below meth c H locs 0 0 _ (F0 m 23 ls [])) => loop (un + 2) 1 _ _ _ (by omega) (by omega) hP hD hS hl) ?_
      intro n9
      induction n9 with
      | zero => intro hn H locs ls hhn hf9; exact False.elim (by omega)
      | succ n9 ih23 =>
        intro hn H locs ls hhn hf23 hP hD hS hl
        have hdu : un / hn ≤ un := Nat.div_le_self _ _
        refine lv_iload_n hx hb dX12_sayNumber_23 rfl (lv_at hl 1 rfl) ?_
        refine lv_iload_n hx hb dX12_sayNumber_24 rfl (lv_at hl 2 rfl) ?_
        refine lv_idiv hx hb dX12_sayNumber_25 (by exact nI_ne0 (by omega) (by omega)) ?_
        refine lv_topi (fun y3 hy3 => ?_)
        obtain rfl : (nI (un / hn)) = y3 := (hy3.trans (pk_div (a := un) (d := hn) (by omega) (by omega) (by omega))).symm
        refine lv_bipush (v := 9) hx hb dX12_sayNumber_26 (by decide) ?_
        refine lv_icmp_le (tgt := 39) hx hb dX12_sayNumber_28 (by decide) (fun c_28 => ?_) (fun c_28 => ?_)
        · have t_28 : (((un / hn) : Nat) : Int) ≤ 9 := toI_le c_28 (nI_toInt (by omega)) (by decide)
          have hl : lv_has _ _ ([(0, .ref h0), (2, .int (nI un)), (3, .int (nI hn))]) := lv_sub hl [0, 1, 2] rfl
          refine (fun (loop : ∀ (n9 : Nat) (hd : Nat) (x3_i125 : Nat) (x3_F75 : Nat → Int32) (H : Heap) (locs : List Loc) (ls : Array Slot), (hd ≤ 1000000) → (x3_i125 ≤ 30000) →  (hd < n9) → va_P (dC, dI) vwCl (WR a k h0 (fT vi 125 (nI x3_i125)) vj (fT vF 75 x3_F75) vG) H → va_D A (WR a k h0 (fT vi 125 (nI x3_i125)) vj (fT vF 75 x3_F75) vG) → va_S A s.heap H locs → lv_has ls 4 [(0, .ref h0), (2, .int (nI un)), (3, .int (nI hd))] → W p l e _ s m _ below meth c H locs 0 0 _ (F0 m 39 ls [])) => loop (hn + 1) hn j1_i125 j1_F75 _ _ _ (by omega) (by first | with_reducible assumption | omega | assumption) (by omega) hP hD hS hl) ?_
          intro n9
          induction n9 with
          | zero => intro hd x3_i125 x3_F75 H locs ls hhd hx3_i125 hf9; exact False.elim (by omega)
          | succ n9 ih39_1 =>
            intro hd x3_i125 x3_F75 H locs ls hhd hx3_i125 hf39_1 hP hD hS hl
            refine lv_iload_n hx hb dX12_sayNumber_39 rfl (lv_at hl 2 rfl) ?_
            refine lv_if_le (tgt := 64) hx hb dX12_sayNumber_40 (by decide) (fun c_40 => ?_) (fun c_40 => ?_)
            · have t_40 : ((hd : Nat) : Int) ≤ 0 := toI_le c_40 (nI_toInt (by omega)) (by decide)
              refine W.widen (k := 0) (n := 0) (by decide +kernel) (by decide +kernel) ?_
              exact W.vret hx hb hr (fun t9_ ht hW => ⟨⟨(x3_i125, x3_F75), rfl, by (try dsimp only); first | assumption | omega, by rw [ht]; exact hP, hD⟩, hS.F ht⟩) hS.2.2 dX12_sayNumber_64
            · have t_40 : ¬ ((hd : Nat) : Int) ≤ 0 := toI_nle c_40 (nI_toInt (by omega)) (by decide)
              refine lv_aload_n hx hb dX12_sayNumber_43 rfl (lv_at hl 0 rfl) ?_
              refine lv_bipush (v := 48) hx hb dX12_sayNumber_44 (by decide) ?_
              have hud : un / hd ≤ un := Nat.div_le_self _ _
              refine lv_iload_n hx hb dX12_sayNumber_46 rfl (lv_at hl 1 rfl) ?_
              refine lv_iload_n hx hb dX12_sayNumber_47 rfl (lv_at hl 2 rfl) ?_
              refine lv_idiv hx hb dX12_sayNumber_48 (by exact nI_ne0 (by omega) (by omega)) ?_
              refine lv_topi (fun y4 hy4 => ?_)
              obtain rfl : (nI (un / hd)) = y4 := (hy4.trans (pk_div (a := un) (d := hd) (by omega) (by omega) (by omega))).symm
              refine lv_bipush (v := 10) hx hb dX12_sayNumber_49 (by decide) ?_
              refine lv_irem hx hb dX12_sayNumber_51 (by decide) ?_
              refine lv_topi (fun y5 hy5 => ?_)
              obtain rfl : (nI ((un / hd) % 10)) = y5 := (hy5.trans (pk_rem (a := (un / hd)) (d := 10) (by omega) (by omega) (by omega))).symm
              refine lv_iadd hx hb dX12_sayNumber_52 ?_
              refine lv_topi (fun y6 hy6 => ?_)
              obtain rfl : (nI (48 + ((un / hd) % 10))) = y6 := (hy6.trans (nI_add 48 ((un / hd) % 10))).symm
              have hFc := allFree hD hS hA
              refine va_callv (va_runV (As := [.int (nI (48 + ((un / hd) % 10)))]) (rest := []) ⟨hx, hb, hml, hown, hts⟩ (r_X12_say l dC dI a k h0 (fT vi 125 (nI x3_i125)) vj (fT vF 75 x3_F75) vG (nI (48 + ((un / hd) % 10))) x3_i125 rfl (by first | with_reducible assumption | decide | omega | rfl | assumption) H.size) (cwV 1 hts gwsRX12_sayNumber_0 rfl rfl rfl hd_yX12_say_RX12 (by decide +kernel)) (fz_pre (va_recv hK hP (ci := 12) (q0 := 0) rfl rfl) hP hK hD) rfl rfl hl.1 rfl (lv_room (Nat.le_of_ble_eq_true rfl)) dX12_sayNumber_53 (by decide +kernel)) hS (fun q _ h => hFc q h) hFc (fun u t9_ H locs ht hvm hw9 hB9 hz1 hk1 hS => ?_)
              revert u hw9 hB9
              refine fz_p2 ?_
              intro p253 f7553 hw9 hB9
              try dsimp only at hw9 hB9
              have e9i : fT vi 125 (nI p253) = fT (fT vi 125 (nI x3_i125)) 125 (nI p253) := (fT_sm _ _ _ _).symm
              have e9F : fT vF 75 f7553 = fT (fT vF 75 x3_F75) 75 f7553 := (fT_sm _ _ _ _).symm
              have hP := wr_PF e9F (wr_Pi e9i (fz_P ht hB9.1))
              have hD := wr_DF e9F (wr_Di e9i (hB9.2.weaken (fun _ q _ h => hFc q.1 h)))
              clear e9i e9F
              revert hw9
              refine fz_a3 ?_
              intro f53_0 f53_1 f53_2
              refine lv_iload_n hx hb dX12_sayNumber_56 rfl (lv_at hl 2 rfl) ?_
              refine lv_bipush (v := 10) hx hb dX12_sayNumber_57 (by decide) ?_
              refine lv_idiv hx hb dX12_sayNumber_59 (by decide) ?_
              refine lv_topi (fun y7 hy7 => ?_)
              obtain rfl : (nI (hd / 10)) = y7 := (hy7.trans (pk_div (a := hd) (d := 10) (by omega) (by omega) (by omega))).symm
              refine lv_istore_n hx hb dX12_sayNumber_60 rfl hl (by decide) rfl (fun ls (hl : lv_has ls _ ([(3, .int (nI (hd / 10))), (0, .ref h0), (2, .int (nI un))])) => ?_)
              refine lv_goto (tgt := 39) hx hb dX12_sayNumber_61 (by decide) ?_
              have hl : lv_has _ _ ([(0, .ref h0), (2, .int (nI un)), (3, .int (nI (hd / 10)))]) := lv_sub hl [1, 2, 0] rfl
              exact ih39_1 (hd / 10) p253 f7553 _ _ _ (by omega) (by first | with_reducible assumption | omega | assumption) (by omega) hP hD hS hl
        · have t_28 : ¬ (((un / hn) : Nat) : Int) ≤ 9 := toI_nle c_28 (nI_toInt (by omega)) (by decide)
          refine lv_iload_n hx hb dX12_sayNumber_31 rfl (lv_at hl 2 rfl) ?_
          refine lv_bipush (v := 10) hx hb dX12_sayNumber_32 (by decide) ?_
          refine lv_imul hx hb dX12_sayNumber_34 ?_
          refine lv_topi (fun y8 hy8 => ?_)
          obtain rfl : (nI (hn * 10)) = y8 := (hy8.trans (pk_mul hn 10)).symm
          refine lv_istore_n hx hb dX12_sayNumber_35 rfl hl (by decide) rfl (fun ls (hl : lv_has ls _ ([(3, .int (nI (hn * 10))), (0, .ref h0), (2, .int (nI un))])) => ?_)
          refine lv_goto (tgt := 23) hx hb dX12_sayNumber_36 (by decide) ?_
          have hl : lv_has _ _ ([(0, .ref h0), (2, .int (nI un)), (3, .int (nI (hn * 10)))]) := lv_sub hl [1, 2, 0] rfl
          exact ih23 (hn * 10) _ _ _ (by (have h9 := div9 (by omega) t_28); omega) (by omega) hP hD hS hl
theorem dX12_sayPart_0 : decode cX12_sayPart 0 = .ok (.aload_n 0, 1) := dk_42 (by decide +kernel)
theorem dX12_sayPart_1 : decode cX12_sayPart 1 = .ok (.iload_n 1, 1) := dk_27 (by decide +kernel)
theorem dX12_sayPart_2 : decode cX12_sayPart 2 = .ok (.invokevirtual 955, 3) := dk_182 (by decide +kernel)
theorem dX12_sayPart_5 : decode cX12_sayPart 5 = .ok (.iload_n 2, 1) := dk_28 (by decide +kernel)
theorem dX12_sayPart_6 : decode cX12_sayPart 6 = .ok (.iconst 1, 1) := dk_4 (by decide +kernel)
theorem dX12_sayPart_7 : decode cX12_sayPart 7 = .ok (.if_icmp .ne 4, 3) := dk_160 (by decide +kernel)
theorem dX12_sayPart_10 : decode cX12_sayPart 10 = .ok (.return_, 1) := dk_177 (by decide +kernel)
theorem dX12_sayPart_11 : decode cX12_sayPart 11 = .ok (.aload_n 0, 1) := dk_42 (by decide +kernel)
theorem dX12_sayPart_12 : decode cX12_sayPart 12 = .ok (.bipush 47, 2) := dk_16 (by decide +kernel)
theorem dX12_sayPart_14 : decode cX12_sayPart 14 = .ok (.invokevirtual 936, 3) := dk_182 (by decide +kernel)
theorem dX12_sayPart_17 : decode cX12_sayPart 17 = .ok (.aload_n 0, 1) := dk_42 (by decide +kernel)
theorem dX12_sayPart_18 : decode cX12_sayPart 18 = .ok (.iload_n 2, 1) := dk_28 (by decide +kernel)
theorem dX12_sayPart_19 : decode cX12_sayPart 19 = .ok (.invokevirtual 955, 3) := dk_182 (by decide +kernel)
theorem dX12_sayPart_22 : decode cX12_sayPart 22 = .ok (.return_, 1) := dk_177 (by decide +kernel)
def wsRX12_sayPart : List Cond := .code yX12_sayPart cX12_sayPart 3 none :: ([] ++ wsX120 ++ (wsV RX12 955 RX12 yX12_sayNumber wsRX12_sayNumber) ++ (wsV RX12 936 RX12 yX12_say wsRX12_say))
theorem iwsRX12_sayPart_in12 : ∀ w ∈ wsX120, w ∈ wsRX12_sayPart := fun _ h => List.mem_cons_of_mem _ (List.mem_append_left _ (List.mem_append_left _ (List.mem_append_right _ h)))
theorem gwsRX12_sayPart_0 : GoodIn wsRX12_sayPart (wsV RX12 955 RX12 yX12_sayNumber wsRX12_sayNumber) := goodIn_sub (fun _ h => List.mem_cons_of_mem _ (List.mem_append_left _ (List.mem_append_right _ h))) (gdV (by decide +kernel) gdwsRX12_sayNumber)
theorem gwsRX12_sayPart_1 : GoodIn wsRX12_sayPart (wsV RX12 936 RX12 yX12_say wsRX12_say) := goodIn_sub (fun _ h => List.mem_cons_of_mem _ (List.mem_append_right _ h)) (gdV (by decide +kernel) gdwsRX12_say)
theorem gdwsRX12_sayPart : wsRX12_sayPart.all goodWord = true := gdC rfl (gdA (gdA (gdA (by decide +kernel : ([] : List Cond).all goodWord = true) gdwsX120) (gdV (by decide +kernel) gdwsRX12_sayNumber)) (gdV (by decide +kernel) gdwsRX12_say))
set_option maxHeartbeats 4000000 in
set_option maxRecDepth 100000 in
/-- sayPart(a, u) -/
theorem r_X12_sayPart (l : Launch) (dC : Nat → ClassId) (dI : Nat → Nat → Nat) (a : Nat → Nat) (k : Nat → ClassId) (h0 : Nat) (vi : Nat → Int32) (vj : Nat → Int64) (vF : Nat → Nat → Int32) (vG : Nat → Nat → Int64) (aI : Int32) (uI : Int32) (pn : Nat) (hpn : vi 125 = nI pn) (hpn2 : pn ≤ 30000) (hbaI : (aI).toInt.natAbs ≤ 1000000) (hbuI : (uI).toInt.natAbs ≤ 1000000) (sz : Nat) : Met l yX12_sayPart wsRX12_sayPart ({ frames := 2, cells := 0, slots := 0, locals := 44 }) (va_Pc [.ref h0, .int aI, .int uI] (fun U => U.heap.size = sz ∧ va_P (dC, dI) vwCl (WR a k h0 vi vj vF vG) U.heap ∧ va_K (dC, dI) vwCl (tX12 k) U ∧ va_D (fun _ => True) (WR a k h0 vi vj vF vG))) (va_Qv (fun (u : (Nat) × (Nat → Int32)) => ((u.1) ≤ 30000)) (fun (u : (Nat) × (Nat → Int32)) t => va_P (dC, dI) vwCl (WR a k h0 (fT vi 125 (nI (u.1))) vj (fT vF 75 (u.2)) vG) t.heap ∧ va_D (va_A (WR a k h0 vi vj vF vG) sz) (WR a k h0 (fT vi 125 (nI (u.1))) vj (fT vF 75 (u.2)) vG)) (va_A (WR a k h0 vi vj vF vG) sz)) 0 0 (va_A (WR a k h0 vi vj vF vG) sz) := by
  refine Met.ofW (cc := cX12_sayPart) (maxL := 3) (ret := none) (by decide) rfl ?_
  intro p e s m args below meth c s₁ B hml hv
  obtain ⟨rfl, hsz, hP, hK, hD0⟩ := hv
  have hx := B.exec
  have hb := B.bytes
  have hr := B.returns
  have hts := atoms_spec (ws := wsRX12_sayPart) B.pre
  have hown : s.vm.findClass RX12 = some m.cls := findClass_of_methodNamed B.named
  have hlocks := B.notSynchronized
  subst hsz
  have hD := hD0.self (sz := s.heap.size)
  generalize hAe : va_A (WR a k h0 vi vj vF vG) s.heap.size = A at hD ⊢
  have hA : ∀ q : Nat, s.heap.size ≤ q → A q := fun q h => by rw [← hAe]; exact Or.inr h
  have hS : va_S A s.heap s.heap [] := va_S.rf
  have hl := lv_entry ([.ref h0, .int aI, .int uI]) (n := 3) (Nat.le_of_ble_eq_true rfl)
  rw [lg_entry_eq]
  generalize (lg_sl ([.ref h0, .int aI, .int uI]) ++ List.replicate (3 - (lg_sl ([.ref h0, .int aI, .int uI])).length) Slot.unset).toArray = ls at hl ⊢
  have hl : lv_has ls 3 [(0, .ref h0), (1, .int aI), (2, .int uI)] := hl
  refine lv_aload_n hx hb dX12_sayPart_0 rfl (lv_at hl 0 rfl) ?_
  refine lv_iload_n hx hb dX12_sayPart_1 rfl (lv_at hl 1 rfl) ?_
  have hFc := allFree hD hS hA
  refine va_callv (va_runV (As := [.int aI]) (rest := []) ⟨hx, hb, hml, hown, hts⟩ (r_X12_sayNumber l dC dI a k h0 vi vj vF vG aI pn hpn (by first | with_reducible assumption | decide | omega | rfl | assumption) (hbaI) s.heap.size) (cwV 1 hts gwsRX12_sayPart_0 rfl rfl rfl hd_yX12_sayNumber_RX12 (by decide +kernel)) (fz_pre (va_recv hK hP (ci := 12) (q0 := 0) rfl rfl) hP hK hD) rfl rfl hl.1 rfl (lv_room (Nat.le_of_ble_eq_true rfl)) dX12_sayPart_2 (by decide +kernel)) hS (fun q _ h => hFc q h) hFc (fun u t9_ H locs ht hvm hw9 hB9 hz1 hk1 hS => ?_)
  revert u hw9 hB9
  refine fz_p2 ?_
  intro p22 f752 hw9 hB9
  try dsimp only at hw9 hB9
  have hP : va_P (dC, dI) vwCl (WR a k h0 (fT vi 125 (nI p22)) vj (fT vF 75 f752) vG) H := fz_P ht hB9.1
  have hD := fz_sd hP (hB9.2.weaken (fun _ q _ h => hFc q.1 h)) rfl
  have f2_0 := hw9
  try dsimp only at f2_0
  refine lv_iload_n hx hb dX12_sayPart_5 rfl (lv_at hl 2 rfl) ?_
  refine lv_iconst (v := 1) hx hb dX12_sayPart_6 (by decide) ?_
  refine lv_icmp_ne (tgt := 11) hx hb dX12_sayPart_7 (by decide) (fun c_7 => ?_) (fun c_7 => ?_)
  · have t_7 : (uI).toInt ≠ 1 := toI_ne c_7 rfl (by decide)
    refine lv_aload_n hx hb dX12_sayPart_11 rfl (lv_at hl 0 rfl) ?_
    refine lv_bipush (v := 47) hx hb dX12_sayPart_12 (by decide) ?_
    have hFc := allFree hD hS hA
    refine va_callv (va_runV (As := [.int 47]) (rest := []) ⟨hx, hb, hml, hown, hts⟩ (r_X12_say l dC dI a k h0 (fT vi 125 (nI p22)) vj (fT vF 75 f752) vG 47 p22 rfl (by first | with_reducible assumption | decide | omega | rfl | assumption) H.size) (cwV 1 hts gwsRX12_sayPart_1 rfl rfl rfl hd_yX12_say_RX12 (by decide +kernel)) (fz_pre (va_recv hK hP (ci := 12) (q0 := 0) rfl rfl) hP hK hD) rfl rfl hl.1 rfl (lv_room (Nat.le_of_ble_eq_true rfl)) dX12_sayPart_14 (by decide +kernel)) hS (fun q _ h => hFc q h) hFc (fun u t9_ H locs ht hvm hw9 hB9 hz1 hk1 hS => ?_)
    revert u hw9 hB9
    refine fz_p2 ?_
    intro p214 f7514 hw9 hB9
    try dsimp only at hw9 hB9
    have e9i : fT vi 125 (nI p214) = fT (fT vi 125 (nI p22)) 125 (nI p214) := (fT_sm _ _ _ _).symm
    have e9F : fT vF 75 f7514 = fT (fT vF 75 f752) 75 f7514 := (fT_sm _ _ _ _).symm
    have hP := wr_PF e9F (wr_Pi e9i (fz_P ht hB9.1))
    have hD := wr_DF e9F (wr_Di e9i (hB9.2.weaken (fun _ q _ h => hFc q.1 h)))
    clear e9i e9F
    revert hw9
    refine fz_a3 ?_
    intro f14_0 f14_1 f14_2
    refine lv_aload_n hx hb dX12_sayPart_17 rfl (lv_at hl 0 rfl) ?_
    refine lv_iload_n hx hb dX12_sayPart_18 rfl (lv_at hl 2 rfl) ?_
    have hFc := allFree hD hS hA
    refine va_callv (va_runV (As := [.int uI]) (rest := []) ⟨hx, hb, hml, hown, hts⟩ (r_X12_sayNumber l dC dI a k h0 (fT vi 125 (nI p214)) vj (fT vF 75 f7514) vG uI p214 rfl (by first | with_reducible assumption | decide | omega | rfl | assumption) (hbuI) H.size) (cwV 1 hts gwsRX12_sayPart_0 rfl rfl rfl hd_yX12_sayNumber_RX12 (by decide +kernel)) (fz_pre (va_recv hK hP (ci := 12) (q0 := 0) rfl rfl) hP hK hD) rfl rfl hl.1 rfl (lv_room (Nat.le_of_ble_eq_true rfl)) dX12_sayPart_19 (by decide +kernel)) hS (fun q _ h => hFc q h) hFc (fun u t9_ H locs ht hvm hw9 hB9 hz1 hk1 hS => ?_)
    revert u hw9 hB9
    refine fz_p2 ?_
    intro p219 f7519 hw9 hB9
    try dsimp only at hw9 hB9
    have e9i : fT vi 125 (nI p219) = fT (fT vi 125 (nI p214)) 125 (nI p219) := (fT_sm _ _ _ _).symm
    have e9F : fT vF 75 f7519 = fT (fT vF 75 f7514) 75 f7519 := (fT_sm _ _ _ _).symm
    have hP := wr_PF e9F (wr_Pi e9i (fz_P ht hB9.1))
    have hD := wr_DF e9F (wr_Di e9i (hB9.2.weaken (fun _ q _ h => hFc q.1 h)))
    clear e9i e9F
    have f19_0 := hw9
    try dsimp only at f19_0
    refine W.widen (k := 0) (n := 0) (by decide +kernel) (by decide +kernel) ?_
    exact W.vret hx hb hr (fun t9_ ht hW => ⟨⟨(p219, f7519), rfl, by (try dsimp only); first | assumption | omega, by rw [ht]; exact hP, hD⟩, hS.F ht⟩) hS.2.2 dX12_sayPart_22
  · have t_7 : (uI).toInt = 1 := toI_nne c_7 rfl (by decide)
    refine W.widen (k := 0) (n := 0) (by decide +kernel) (by decide +kernel) ?_
    exact W.vret hx hb hr (fun t9_ ht hW => ⟨⟨(p22, f752), rfl, by (try dsimp only); first | assumption | omega, by rw [ht]; exact hP, hD⟩, hS.F ht⟩) hS.2.2 dX12_sayPart_10
theorem dX12_sayTerm_0 : decode cX12_sayTerm 0 = .ok (.iload 4, 2) := dk_21 (by decide +kernel)
theorem dX12_sayTerm_2 : decode cX12_sayTerm 2 = .ok (.ifCond .eq 33, 3) := dk_153 (by decide +kernel)
theorem dX12_sayTerm_5 : decode cX12_sayTerm 5 = .ok (.aload_n 0, 1) := dk_42 (by decide +kernel)
theorem dX12_sayTerm_6 : decode cX12_sayTerm 6 = .ok (.bipush 32, 2) := dk_16 (by decide +kernel)
theorem dX12_sayTerm_8 : decode cX12_sayTerm 8 = .ok (.invokevirtual 936, 3) := dk_182 (by decide +kernel)
theorem dX12_sayTerm_11 : decode cX12_sayTerm 11 = .ok (.aload_n 0, 1) := dk_42 (by decide +kernel)
theorem dX12_sayTerm_12 : decode cX12_sayTerm 12 = .ok (.iload_n 1, 1) := dk_27 (by decide +kernel)
theorem dX12_sayTerm_13 : decode cX12_sayTerm 13 = .ok (.ifCond .ge 8, 3) := dk_156 (by decide +kernel)
theorem dX12_sayTerm_16 : decode cX12_sayTerm 16 = .ok (.bipush 45, 2) := dk_16 (by decide +kernel)
theorem dX12_sayTerm_18 : decode cX12_sayTerm 18 = .ok (.goto 5, 3) := dk_167 (by decide +kernel)
theorem dX12_sayTerm_21 : decode cX12_sayTerm 21 = .ok (.bipush 43, 2) := dk_16 (by decide +kernel)
theorem dX12_sayTerm_23 : decode cX12_sayTerm 23 = .ok (.invokevirtual 936, 3) := dk_182 (by decide +kernel)
theorem dX12_sayTerm_26 : decode cX12_sayTerm 26 = .ok (.aload_n 0, 1) := dk_42 (by decide +kernel)
theorem dX12_sayTerm_27 : decode cX12_sayTerm 27 = .ok (.bipush 32, 2) := dk_16 (by decide +kernel)
theorem dX12_sayTerm_29 : decode cX12_sayTerm 29 = .ok (.invokevirtual 936, 3) := dk_182 (by decide +kernel)
theorem dX12_sayTerm_32 : decode cX12_sayTerm 32 = .ok (.goto 24, 3) := dk_167 (by decide +kernel)
theorem dX12_sayTerm_35 : decode cX12_sayTerm 35 = .ok (.iload_n 1, 1) := dk_27 (by decide +kernel)
theorem dX12_sayTerm_36 : decode cX12_sayTerm 36 = .ok (.ifCond .ge 20, 3) := dk_156 (by decide +kernel)
theorem dX12_sayTerm_39 : decode cX12_sayTerm 39 = .ok (.aload_n 0, 1) := dk_42 (by decide +kernel)
theorem dX12_sayTerm_40 : decode cX12_sayTerm 40 = .ok (.bipush 45, 2) := dk_16 (by decide +kernel)
theorem dX12_sayTerm_42 : decode cX12_sayTerm 42 = .ok (.invokevirtual 936, 3) := dk_182 (by decide +kernel)
theorem dX12_sayTerm_45 : decode cX12_sayTerm 45 = .ok (.iload_n 3, 1) := dk_29 (by decide +kernel)
theorem dX12_sayTerm_46 : decode cX12_sayTerm 46 = .ok (.iconst (-1), 1) := dk_2 (by decide +kernel)
theorem dX12_sayTerm_47 : decode cX12_sayTerm 47 = .ok (.if_icmp .eq 9, 3) := dk_159 (by decide +kernel)
theorem dX12_sayTerm_50 : decode cX12_sayTerm 50 = .ok (.aload_n 0, 1) := dk_42 (by decide +kernel)
theorem dX12_sayTerm_51 : decode cX12_sayTerm 51 = .ok (.bipush 32, 2) := dk_16 (by decide +kernel)
theorem dX12_sayTerm_53 : decode cX12_sayTerm 53 = .ok (.invokevirtual 936, 3) := dk_182 (by decide +kernel)
theorem dX12_sayTerm_56 : decode cX12_sayTerm 56 = .ok (.iload_n 1, 1) := dk_27 (by decide +kernel)
theorem dX12_sayTerm_57 : decode cX12_sayTerm 57 = .ok (.ifCond .ge 8, 3) := dk_156 (by decide +kernel)
theorem dX12_sayTerm_60 : decode cX12_sayTerm 60 = .ok (.iload_n 1, 1) := dk_27 (by decide +kernel)
theorem dX12_sayTerm_61 : decode cX12_sayTerm 61 = .ok (.ineg, 1) := dk_116 (by decide +kernel)
theorem dX12_sayTerm_62 : decode cX12_sayTerm 62 = .ok (.goto 4, 3) := dk_167 (by decide +kernel)
theorem dX12_sayTerm_65 : decode cX12_sayTerm 65 = .ok (.iload_n 1, 1) := dk_27 (by decide +kernel)
theorem dX12_sayTerm_66 : decode cX12_sayTerm 66 = .ok (.istore 5, 2) := dk_54 (by decide +kernel)
theorem dX12_sayTerm_68 : decode cX12_sayTerm 68 = .ok (.iload_n 3, 1) := dk_29 (by decide +kernel)
theorem dX12_sayTerm_69 : decode cX12_sayTerm 69 = .ok (.iconst (-1), 1) := dk_2 (by decide +kernel)
theorem dX12_sayTerm_70 : decode cX12_sayTerm 70 = .ok (.if_icmp .ne 11, 3) := dk_160 (by decide +kernel)
theorem dX12_sayTerm_73 : decode cX12_sayTerm 73 = .ok (.aload_n 0, 1) := dk_42 (by decide +kernel)
theorem dX12_sayTerm_74 : decode cX12_sayTerm 74 = .ok (.iload 5, 2) := dk_21 (by decide +kernel)
theorem dX12_sayTerm_76 : decode cX12_sayTerm 76 = .ok (.iload_n 2, 1) := dk_28 (by decide +kernel)
theorem dX12_sayTerm_77 : decode cX12_sayTerm 77 = .ok (.invokevirtual 958, 3) := dk_182 (by decide +kernel)
theorem dX12_sayTerm_80 : decode cX12_sayTerm 80 = .ok (.return_, 1) := dk_177 (by decide +kernel)
theorem dX12_sayTerm_81 : decode cX12_sayTerm 81 = .ok (.iload 5, 2) := dk_21 (by decide +kernel)
theorem dX12_sayTerm_83 : decode cX12_sayTerm 83 = .ok (.iconst 1, 1) := dk_4 (by decide +kernel)
theorem dX12_sayTerm_84 : decode cX12_sayTerm 84 = .ok (.if_icmp .ne 8, 3) := dk_160 (by decide +kernel)
theorem dX12_sayTerm_87 : decode cX12_sayTerm 87 = .ok (.iload_n 2, 1) := dk_28 (by decide +kernel)
theorem dX12_sayTerm_88 : decode cX12_sayTerm 88 = .ok (.iconst 1, 1) := dk_4 (by decide +kernel)
theorem dX12_sayTerm_89 : decode cX12_sayTerm 89 = .ok (.if_icmp .eq 28, 3) := dk_159 (by decide +kernel)
theorem dX12_sayTerm_92 : decode cX12_sayTerm 92 = .ok (.aload_n 0, 1) := dk_42 (by decide +kernel)
theorem dX12_sayTerm_93 : decode cX12_sayTerm 93 = .ok (.iload 5, 2) := dk_21 (by decide +kernel)
theorem dX12_sayTerm_95 : decode cX12_sayTerm 95 = .ok (.iload_n 2, 1) := dk_28 (by decide +kernel)
theorem dX12_sayTerm_96 : decode cX12_sayTerm 96 = .ok (.invokevirtual 958, 3) := dk_182 (by decide +kernel)
theorem dX12_sayTerm_99 : decode cX12_sayTerm 99 = .ok (.aload_n 0, 1) := dk_42 (by decide +kernel)
theorem dX12_sayTerm_100 : decode cX12_sayTerm 100 = .ok (.bipush 32, 2) := dk_16 (by decide +kernel)
theorem dX12_sayTerm_102 : decode cX12_sayTerm 102 = .ok (.invokevirtual 936, 3) := dk_182 (by decide +kernel)
theorem dX12_sayTerm_105 : decode cX12_sayTerm 105 = .ok (.aload_n 0, 1) := dk_42 (by decide +kernel)
theorem dX12_sayTerm_106 : decode cX12_sayTerm 106 = .ok (.bipush 42, 2) := dk_16 (by decide +kernel)
theorem dX12_sayTerm_108 : decode cX12_sayTerm 108 = .ok (.invokevirtual 936, 3) := dk_182 (by decide +kernel)
theorem dX12_sayTerm_111 : decode cX12_sayTerm 111 = .ok (.aload_n 0, 1) := dk_42 (by decide +kernel)
theorem dX12_sayTerm_112 : decode cX12_sayTerm 112 = .ok (.bipush 32, 2) := dk_16 (by decide +kernel)
theorem dX12_sayTerm_114 : decode cX12_sayTerm 114 = .ok (.invokevirtual 936, 3) := dk_182 (by decide +kernel)
theorem dX12_sayTerm_117 : decode cX12_sayTerm 117 = .ok (.aload_n 0, 1) := dk_42 (by decide +kernel)
theorem dX12_sayTerm_118 : decode cX12_sayTerm 118 = .ok (.bipush 120, 2) := dk_16 (by decide +kernel)
theorem dX12_sayTerm_120 : decode cX12_sayTerm 120 = .ok (.invokevirtual 936, 3) := dk_182 (by decide +kernel)
theorem dX12_sayTerm_123 : decode cX12_sayTerm 123 = .ok (.aload_n 0, 1) := dk_42 (by decide +kernel)
theorem dX12_sayTerm_124 : decode cX12_sayTerm 124 = .ok (.iload_n 3, 1) := dk_29 (by decide +kernel)
theorem dX12_sayTerm_125 : decode cX12_sayTerm 125 = .ok (.invokevirtual 955, 3) := dk_182 (by decide +kernel)
theorem dX12_sayTerm_128 : decode cX12_sayTerm 128 = .ok (.return_, 1) := dk_177 (by decide +kernel)
def wsRX12_sayTerm : List Cond := .code yX12_sayTerm cX12_sayTerm 6 none :: ([] ++ wsX120 ++ (wsV RX12 936 RX12 yX12_say wsRX12_say) ++ (wsV RX12 958 RX12 yX12_sayPart wsRX12_sayPart) ++ (wsV RX12 955 RX12 yX12_sayNumber wsRX12_sayNumber))
theorem iwsRX12_sayTerm_in12 : ∀ w ∈ wsX120, w ∈ wsRX12_sayTerm := fun _ h => List.mem_cons_of_mem _ (List.mem_append_left _ (List.mem_append_left _ (List.mem_append_left _ (List.mem_append_right _ h))))
theorem gwsRX12_sayTerm_0 : GoodIn wsRX12_sayTerm (wsV RX12 936 RX12 yX12_say wsRX12_say) := goodIn_sub (fun _ h => List.mem_cons_of_mem _ (List.mem_append_left _ (List.mem_append_left _ (List.mem_append_right _ h)))) (gdV (by decide +kernel) gdwsRX12_say)
theorem gwsRX12_sayTerm_1 : GoodIn wsRX12_sayTerm (wsV RX12 958 RX12 yX12_sayPart wsRX12_sayPart) := goodIn_sub (fun _ h => List.mem_cons_of_mem _ (List.mem_append_left _ (List.mem_append_right _ h))) (gdV (by decide +kernel) gdwsRX12_sayPart)
theorem gwsRX12_sayTerm_2 : GoodIn wsRX12_sayTerm (wsV RX12 955 RX12 yX12_sayNumber wsRX12_sayNumber) := goodIn_sub (fun _ h => List.mem_cons_of_mem _ (List.mem_append_right _ h)) (gdV (by decide +kernel) gdwsRX12_sayNumber)
theorem gdwsRX12_sayTerm : wsRX12_sayTerm.all goodWord = true := gdC rfl (gdA (gdA (gdA (gdA (by decide +kernel : ([] : List Cond).all goodWord = true) gdwsX120) (gdV (by decide +kernel) gdwsRX12_say)) (gdV (by decide +kernel) gdwsRX12_sayPart)) (gdV (by decide +kernel) gdwsRX12_sayNumber))
set_option maxHeartbeats 4000000 in
set_option maxRecDepth 100000 in
/-- sayTerm(v, u, x, some) -/
theorem r_X12_sayTerm (l : Launch) (dC : Nat → ClassId) (dI : Nat → Nat → Nat) (a : Nat → Nat) (k : Nat → ClassId) (h0 : Nat) (vi : Nat → Int32) (vj : Nat → Int64) (vF : Nat → Nat → Int32) (vG : Nat → Nat → Int64) (vI : Int32) (uI : Int32) (xI : Int32) (sI : Int32) (pn : Nat) (hpn : vi 125 = nI pn) (hpn2 : pn ≤ 30000) (hbvI : (vI).toInt.natAbs ≤ 1000000) (hbuI : (uI).toInt.natAbs ≤ 1000000) (hbxI : (xI).toInt.natAbs ≤ 1000000) (sz : Nat) : Met l yX12_sayTerm wsRX12_sayTerm ({ frames := 3, cells := 0, slots := 0, locals := 66 }) (va_Pc [.ref h0, .int vI, .int uI, .int xI, .int sI] (fun U => U.heap.size = sz ∧ va_P (dC, dI) vwCl (WR a k h0 vi vj vF vG) U.heap ∧ va_K (dC, dI) vwCl (tX12 k) U ∧ va_D (fun _ => True) (WR a k h0 vi vj vF vG))) (va_Qv (fun (u : (Nat) × (Nat → Int32)) => ((u.1) ≤ 30000)) (fun (u : (Nat) × (Nat → Int32)) t => va_P (dC, dI) vwCl (WR a k h0 (fT vi 125 (nI (u.1))) vj (fT vF 75 (u.2)) vG) t.heap ∧ va_D (va_A (WR a k h0 vi vj vF vG) sz) (WR a k h0 (fT vi 125 (nI (u.1))) vj (fT vF 75 (u.2)) vG)) (va_A (WR a k h0 vi vj vF vG) sz)) 0 0 (va_A (WR a k h0 vi vj vF vG) sz) := by
  refine Met.ofW (cc := cX12_sayTerm) (maxL := 6) (ret := none) (by decide) rfl ?_
  intro p e s m args below meth c s₁ B hml hv
  obtain ⟨rfl, hsz, hP, hK, hD0⟩ := hv
  have hx := B.exec
  have hb := B.bytes
  have hr := B.returns
  have hts := atoms_spec (ws := wsRX12_sayTerm) B.pre
  have hown : s.vm.findClass RX12 = some m.cls := findClass_of_methodNamed B.named
  have hlocks := B.notSynchronized
  subst hsz
  have hD := hD0.self (sz := s.heap.size)
  generalize hAe : va_A (WR a k h0 vi vj vF vG) s.heap.size = A at hD ⊢
  have hA : ∀ q : Nat, s.heap.size ≤ q → A q := fun q h => by rw [← hAe]; exact Or.inr h
  have hS : va_S A s.heap s.heap [] := va_S.rf
  have hl := lv_entry ([.ref h0, .int vI, .int uI, .int xI, .int sI]) (n := 6) (Nat.le_of_ble_eq_true rfl)
  rw [lg_entry_eq]
  generalize (lg_sl ([.ref h0, .int vI, .int uI, .int xI, .int sI]) ++ List.replicate (6 - (lg_sl ([.ref h0, .int vI, .int uI, .int xI, .int sI])).length) Slot.unset).toArray = ls at hl ⊢
  have hl : lv_has ls 6 [(0, .ref h0), (1, .int vI), (2, .int uI), (3, .int xI), (4, .int sI)] := hl
  refine lv_iload hx hb dX12_sayTerm_0 (lv_at hl 4 rfl) ?_
  refine W.cut (pc := 56) (fun H locs ls stk => ∃ (j1_i125 : Nat) (j1_F75 : Nat → Int32), (j1_i125 ≤ 30000) ∧  stk = [] ∧ va_P (dC, dI) vwCl (WR a k h0 (fT vi 125 (nI j1_i125)) vj (fT vF 75 j1_F75) vG) H ∧ va_D A (WR a k h0 (fT vi 125 (nI j1_i125)) vj (fT vF 75 j1_F75) vG) ∧ va_S A s.heap H locs ∧ lv_has ls 6 [(0, .ref h0), (1, .int vI), (2, .int uI), (3, .int xI), (4, .int sI)]) (fun join1 => ?_) ?_
  · refine lv_if_eq (tgt := 35) hx hb dX12_sayTerm_2 (by decide) (fun c_2 => ?_) (fun c_2 => ?_)
    · have t_2 : (sI).toInt = 0 := toI_eq c_2 rfl (by decide)
      refine lv_iload_n hx hb dX12_sayTerm_35 rfl (lv_at hl 1 rfl) ?_
      refine lv_if_ge (tgt := 56) hx hb dX12_sayTerm_36 (by decide) (fun c_36 => ?_) (fun c_36 => ?_)
      · have t_36 : (vI).toInt ≥ 0 := toI_ge c_36 rfl (by decide)
        have e9 : fT vi 125 (nI pn) = vi := by funext q9; by_cases h9_125 : q9 = 125; (subst h9_125; exact (fT_eq _ _ _).trans (Eq.trans (by first | with_reducible rfl | with_reducible assumption | (symm; with_reducible assumption) | rfl | assumption | (symm; assumption) | (subst_vars; rfl)) (Eq.refl _).symm)); exact (fT_ne _ _ h9_125).trans (Eq.refl _).symm
        have hP := wr_Pi e9 hP
        have hD := wr_Di e9 hD
        clear e9
        have e9 : fT vF 75 (vF 75) = vF := by funext q9; by_cases h9_75 : q9 = 75; (subst h9_75; exact (fT_eq _ _ _).trans (Eq.trans (by first | with_reducible rfl | with_reducible assumption | (symm; with_reducible assumption) | rfl | assumption | (symm; assumption) | (subst_vars; rfl)) (Eq.refl _).symm)); exact (fT_ne _ _ h9_75).trans (Eq.refl _).symm
        have hP := wr_PF e9 hP
        have hD := wr_DF e9 hD
        clear e9
        have hl : lv_has _ _ ([(0, .ref h0), (1, .int vI), (2, .int uI), (3, .int xI), (4, .int sI)]) := lv_sub hl [0, 1, 2, 3, 4] rfl
        exact join1 _ _ _ _ ⟨pn, (vF 75), by first | assumption | omega, rfl, hP, hD, hS, hl⟩
      · have t_36 : ¬ (vI).toInt ≥ 0 := toI_nge c_36 rfl (by decide)
        refine lv_aload_n hx hb dX12_sayTerm_39 rfl (lv_at hl 0 rfl) ?_
        refine lv_bipush (v := 45) hx hb dX12_sayTerm_40 (by decide) ?_
        have hFc := allFree hD hS hA
        refine va_callv (va_runV (As := [.int 45]) (rest := []) ⟨hx, hb, hml, hown, hts⟩ (r_X12_say l dC dI a k h0 vi vj vF vG 45 pn hpn (by first | with_reducible assumption | decide | omega | rfl | assumption) s.heap.size) (cwV 1 hts gwsRX12_sayTerm_0 rfl rfl rfl hd_yX12_say_RX12 (by decide +kernel)) (fz_pre (va_recv hK hP (ci := 12) (q0 := 0) rfl rfl) hP hK hD) rfl rfl hl.1 rfl (lv_room (Nat.le_of_ble_eq_true rfl)) dX12_sayTerm_42 (by decide +kernel)) hS (fun q _ h => hFc q h) hFc (fun u t9_ H locs ht hvm hw9 hB9 hz1 hk1 hS => ?_)
        revert u hw9 hB9
        refine fz_p2 ?_
        intro p242 f7542 hw9 hB9
        try dsimp only at hw9 hB9
        have hP : va_P (dC, dI) vwCl (WR a k h0 (fT vi 125 (nI p242)) vj (fT vF 75 f7542) vG) H := fz_P ht hB9.1
        have hD := fz_sd hP (hB9.2.weaken (fun _ q _ h => hFc q.1 h)) rfl
        revert hw9
        refine fz_a3 ?_
        intro f42_0 f42_1 f42_2
        refine lv_iload_n hx hb dX12_sayTerm_45 rfl (lv_at hl 3 rfl) ?_
        refine lv_iconst (v := (-1)) hx hb dX12_sayTerm_46 (by decide) ?_
        refine lv_icmp_eq (tgt := 56) hx hb dX12_sayTerm_47 (by decide) (fun c_47 => ?_) (fun c_47 => ?_)
        · have t_47 : (xI).toInt = -1 := toI_eq c_47 rfl (by decide)
          have hl : lv_has _ _ ([(0, .ref h0), (1, .int vI), (2, .int uI), (3, .int xI), (4, .int sI)]) := lv_sub hl [0, 1, 2, 3, 4] rfl
          exact join1 _ _ _ _ ⟨p242, f7542, by first | assumption | omega, rfl, hP, hD, hS, hl⟩
        · have t_47 : ¬ (xI).toInt = -1 := toI_neq c_47 rfl (by decide)
          refine lv_aload_n hx hb dX12_sayTerm_50 rfl (lv_at hl 0 rfl) ?_
          refine lv_bipush (v := 32) hx hb dX12_sayTerm_51 (by decide) ?_
          have hFc := allFree hD hS hA
          refine va_callv (va_runV (As := [.int 32]) (rest := []) ⟨hx, hb, hml, hown, hts⟩ (r_X12_say l dC dI a k h0 (fT vi 125 (nI p242)) vj (fT vF 75 f7542) vG 32 p242 rfl (by first | with_reducible assumption | decide | omega | rfl | assumption) H.size) (cwV 1 hts gwsRX12_sayTerm_0 rfl rfl rfl hd_yX12_say_RX12 (by decide +kernel)) (fz_pre (va_recv hK hP (ci := 12) (q0 := 0) rfl rfl) hP hK hD) rfl rfl hl.1 rfl (lv_room (Nat.le_of_ble_eq_true rfl)) dX12_sayTerm_53 (by decide +kernel)) hS (fun q _ h => hFc q h) hFc (fun u t9_ H locs ht hvm hw9 hB9 hz1 hk1 hS => ?_)
          revert u hw9 hB9
          refine fz_p2 ?_
          intro p253 f7553 hw9 hB9
          try dsimp only at hw9 hB9
          have e9i : fT vi 125 (nI p253) = fT (fT vi 125 (nI p242)) 125 (nI p253) := (fT_sm _ _ _ _).symm
          have e9F : fT vF 75 f7553 = fT (fT vF 75 f7542) 75 f7553 := (fT_sm _ _ _ _).symm
          have hP := wr_PF e9F (wr_Pi e9i (fz_P ht hB9.1))
          have hD := wr_DF e9F (wr_Di e9i (hB9.2.weaken (fun _ q _ h => hFc q.1 h)))
          clear e9i e9F
          revert hw9
          refine fz_a3 ?_
          intro f53_0 f53_1 f53_2
          have hl : lv_has _ _ ([(0, .ref h0), (1, .int vI), (2, .int uI), (3, .int xI), (4, .int sI)]) := lv_sub hl [0, 1, 2, 3, 4] rfl
          exact join1 _ _ _ _ ⟨p253, f7553, by first | assumption | omega, rfl, hP, hD, hS, hl⟩
    · have t_2 : ¬ (sI).toInt = 0 := toI_neq c_2 rfl (by decide)
      refine lv_aload_n hx hb dX12_sayTerm_5 rfl (lv_at hl 0 rfl) ?_
      refine lv_bipush (v := 32) hx hb dX12_sayTerm_6 (by decide) ?_
      have hFc := allFree hD hS hA
      refine va_callv (va_runV (As := [.int 32]) (rest := []) ⟨hx, hb, hml, hown, hts⟩ (r_X12_say l dC dI a k h0 vi vj vF vG 32 pn hpn (by first | with_reducible assumption | decide | omega | rfl | assumption) s.heap.size) (cwV 1 hts gwsRX12_sayTerm_0 rfl rfl rfl hd_yX12_say_RX12 (by decide +kernel)) (fz_pre (va_recv hK hP (ci := 12) (q0 := 0) rfl rfl) hP hK hD) rfl rfl hl.1 rfl (lv_room (Nat.le_of_ble_eq_true rfl)) dX12_sayTerm_8 (by decide +kernel)) hS (fun q _ h => hFc q h) hFc (fun u t9_ H locs ht hvm hw9 hB9 hz1 hk1 hS => ?_)
      revert u hw9 hB9
      refine fz_p2 ?_
      intro p28 f758 hw9 hB9
      try dsimp only at hw9 hB9
      have hP : va_P (dC, dI) vwCl (WR a k h0 (fT vi 125 (nI p28)) vj (fT vF 75 f758) vG) H := fz_P ht hB9.1
      have hD := fz_sd hP (hB9.2.weaken (fun _ q _ h => hFc q.1 h)) rfl
      revert hw9
      refine fz_a3 ?_
      intro f8_0 f8_1 f8_2
      refine lv_aload_n hx hb dX12_sayTerm_11 rfl (lv_at hl 0 rfl) ?_
      refine lv_iload_n hx hb dX12_sayTerm_12 rfl (lv_at hl 1 rfl) ?_
      refine W.cut (pc := 23) (fun H locs ls stk => ∃ (j3_s0 : Int32),  stk = [.int j3_s0, .ref h0] ∧ va_P (dC, dI) vwCl (WR a k h0 (fT vi 125 (nI p28)) vj (fT vF 75 f758) vG) H ∧ va_D A (WR a k h0 (fT vi 125 (nI p28)) vj (fT vF 75 f758) vG) ∧ va_S A s.heap H locs ∧ lv_has ls 6 [(0, .ref h0), (1, .int vI), (2, .int uI), (3, .int xI), (4, .int sI)]) (fun join2 => ?_) ?_
      · refine lv_if_ge (tgt := 21) hx hb dX12_sayTerm_13 (by decide) (fun c_13 => ?_) (fun c_13 => ?_)
        · have t_13 : (vI).toInt ≥ 0 := toI_ge c_13 rfl (by decide)
          refine lv_bipush (v := 43) hx hb dX12_sayTerm_21 (by decide) ?_
          have hl : lv_has _ _ ([(0, .ref h0), (1, .int vI), (2, .int uI), (3, .int xI), (4, .int sI)]) := lv_sub hl [0, 1, 2, 3, 4] rfl
          exact join2 _ _ _ _ ⟨43, rfl, hP, hD, hS, hl⟩
        · have t_13 : ¬ (vI).toInt ≥ 0 := toI_nge c_13 rfl (by decide)
          refine lv_bipush (v := 45) hx hb dX12_sayTerm_16 (by decide) ?_
          refine lv_goto (tgt := 23) hx hb dX12_sayTerm_18 (by decide) ?_
          have hl : lv_has _ _ ([(0, .ref h0), (1, .int vI), (2, .int uI), (3, .int xI), (4, .int sI)]) := lv_sub hl [0, 1, 2, 3, 4] rfl
          exact join2 _ _ _ _ ⟨45, rfl, hP, hD, hS, hl⟩
      · rintro H locs ls stk ⟨j3_s0, rfl, hP, hD, hS, hl⟩
        have hFc := allFree hD hS hA
        refine va_callv (va_runV (As := [.int j3_s0]) (rest := []) ⟨hx, hb, hml, hown, hts⟩ (r_X12_say l dC dI a k h0 (fT vi 125 (nI p28)) vj (fT vF 75 f758) vG j3_s0 p28 rfl (by first | with_reducible assumption | decide | omega | rfl | assumption) H.size) (cwV 1 hts gwsRX12_sayTerm_0 rfl rfl rfl hd_yX12_say_RX12 (by decide +kernel)) (fz_pre (va_recv hK hP (ci := 12) (q0 := 0) rfl rfl) hP hK hD) rfl rfl hl.1 rfl (lv_room (Nat.le_of_ble_eq_true rfl)) dX12_sayTerm_23 (by decide +kernel)) hS (fun q _ h => hFc q h) hFc (fun u t9_ H locs ht hvm hw9 hB9 hz1 hk1 hS => ?_)
        revert u hw9 hB9
        refine fz_p2 ?_
        intro p223 f7523 hw9 hB9
        try dsimp only at hw9 hB9
        have e9i : fT vi 125 (nI p223) = fT (fT vi 125 (nI p28)) 125 (nI p223) := (fT_sm _ _ _ _).symm
        have e9F : fT vF 75 f7523 = fT (fT vF 75 f758) 75 f7523 := (fT_sm _ _ _ _).symm
        have hP := wr_PF e9F (wr_Pi e9i (fz_P ht hB9.1))
        have hD := wr_DF e9F (wr_Di e9i (hB9.2.weaken (fun _ q _ h => hFc q.1 h)))
        clear e9i e9F
        revert hw9
        refine fz_a3 ?_
        intro f23_0 f23_1 f23_2
        refine lv_aload_n hx hb dX12_sayTerm_26 rfl (lv_at hl 0 rfl) ?_
        refine lv_bipush (v := 32) hx hb dX12_sayTerm_27 (by decide) ?_
        have hFc := allFree hD hS hA
        refine va_callv (va_runV (As := [.int 32]) (rest := []) ⟨hx, hb, hml, hown, hts⟩ (r_X12_say l dC dI a k h0 (fT vi 125 (nI p223)) vj (fT vF 75 f7523) vG 32 p223 rfl (by first | with_reducible assumption | decide | omega | rfl | assumption) H.size) (cwV 1 hts gwsRX12_sayTerm_0 rfl rfl rfl hd_yX12_say_RX12 (by decide +kernel)) (fz_pre (va_recv hK hP (ci := 12) (q0 := 0) rfl rfl) hP hK hD) rfl rfl hl.1 rfl (lv_room (Nat.le_of_ble_eq_true rfl)) dX12_sayTerm_29 (by decide +kernel)) hS (fun q _ h => hFc q h) hFc (fun u t9_ H locs ht hvm hw9 hB9 hz1 hk1 hS => ?_)
        revert u hw9 hB9
        refine fz_p2 ?_
        intro p229 f7529 hw9 hB9
        try dsimp only at hw9 hB9
        have e9i : fT vi 125 (nI p229) = fT (fT vi 125 (nI p223)) 125 (nI p229) := (fT_sm _ _ _ _).symm
        have e9F : fT vF 75 f7529 = fT (fT vF 75 f7523) 75 f7529 := (fT_sm _ _ _ _).symm
        have hP := wr_PF e9F (wr_Pi e9i (fz_P ht hB9.1))
        have hD := wr_DF e9F (wr_Di e9i (hB9.2.weaken (fun _ q _ h => hFc q.1 h)))
        clear e9i e9F
        revert hw9
        refine fz_a3 ?_
        intro f29_0 f29_1 f29_2
        refine lv_goto (tgt := 56) hx hb dX12_sayTerm_32 (by decide) ?_
        have hl : lv_has _ _ ([(0, .ref h0), (1, .int vI), (2, .int uI), (3, .int xI), (4, .int sI)]) := lv_sub hl [0, 1, 2, 3, 4] rfl
        exact join1 _ _ _ _ ⟨p229, f7529, by first | assumption | omega, rfl, hP, hD, hS, hl⟩
  · rintro H locs ls stk ⟨j1_i125, j1_F75, hj1_i125, rfl, hP, hD, hS, hl⟩
    refine lv_iload_n hx hb dX12_sayTerm_56 rfl (lv_at hl 1 rfl) ?_
    refine W.cut (pc := 66) (fun H locs ls stk => ∃ (aI : Int32), ((aI).toInt.natAbs ≤ 1000000) ∧  stk = [.int aI] ∧ va_P (dC, dI) vwCl (WR a k h0 (fT vi 125 (nI j1_i125)) vj (fT vF 75 j1_F75) vG) H ∧ va_D A (WR a k h0 (fT vi 125 (nI j1_i125)) vj (fT vF 75 j1_F75) vG) ∧ va_S A s.heap H locs ∧ lv_has ls 6 [(0, .ref h0), (1, .int vI), (2, .int uI), (3, .int xI), (4, .int sI)]) (fun join3 => ?_) ?_
    · refine lv_if_ge (tgt := 65) hx hb dX12_sayTerm_57 (by decide) (fun c_57 => ?_) (fun c_57 => ?_)
      · have t_57 : (vI).toInt ≥ 0 := toI_ge c_57 rfl (by decide)
        refine lv_iload_n hx hb dX12_sayTerm_65 rfl (lv_at hl 1 rfl) ?_
        have hl : lv_has _ _ ([(0, .ref h0), (1, .int vI), (2, .int uI), (3, .int xI), (4, .int sI)]) := lv_sub hl [0, 1, 2, 3, 4] rfl
        exact join3 _ _ _ _ ⟨vI, hbvI, rfl, hP, hD, hS, hl⟩
      · have t_57 : ¬ (vI).toInt ≥ 0 := toI_nge c_57 rfl (by decide)
        refine lv_iload_n hx hb dX12_sayTerm_60 rfl (lv_at hl 1 rfl) ?_
        refine lv_ineg hx hb dX12_sayTerm_61 ?_
        refine lv_goto (tgt := 66) hx hb dX12_sayTerm_62 (by decide) ?_
        have hl : lv_has _ _ ([(0, .ref h0), (1, .int vI), (2, .int uI), (3, .int xI), (4, .int sI)]) := lv_sub hl [0, 1, 2, 3, 4] rfl
        exact join3 _ _ _ _ ⟨(-vI), (neg32 (b := 1000000) hbvI (by decide)).1, rfl, hP, hD, hS, hl⟩
    · rintro H locs ls stk ⟨aI, hbaI, rfl, hP, hD, hS, hl⟩
      refine lv_istore hx hb dX12_sayTerm_66 hl (by decide) rfl (fun ls (hl : lv_has ls _ ([(5, .int aI), (0, .ref h0), (1, .int vI), (2, .int uI), (3, .int xI), (4, .int sI)])) => ?_)
      refine lv_iload_n hx hb dX12_sayTerm_68 rfl (lv_at hl 4 rfl) ?_
      refine lv_iconst (v := (-1)) hx hb dX12_sayTerm_69 (by decide) ?_
      refine lv_icmp_ne (tgt := 81) hx hb dX12_sayTerm_70 (by decide) (fun c_70 => ?_) (fun c_70 => ?_)
      · have t_70 : (xI).toInt ≠ -1 := toI_ne c_70 rfl (by decide)
        refine lv_iload hx hb dX12_sayTerm_81 (lv_at hl 0 rfl) ?_
        refine lv_iconst (v := 1) hx hb dX12_sayTerm_83 (by decide) ?_
        refine W.cut (pc := 117) (fun H locs ls stk => ∃ (j5_i125 : Nat) (j5_F75 : Nat → Int32), (j5_i125 ≤ 30000) ∧  stk = [] ∧ va_P (dC, dI) vwCl (WR a k h0 (fT vi 125 (nI j5_i125)) vj (fT vF 75 j5_F75) vG) H ∧ va_D A (WR a k h0 (fT vi 125 (nI j5_i125)) vj (fT vF 75 j5_F75) vG) ∧ va_S A s.heap H locs ∧ lv_has ls 6 [(5, .int aI), (0, .ref h0), (1, .int vI), (2, .int uI), (3, .int xI), (4, .int sI)]) (fun join4 => ?_) ?_
        · refine lv_icmp_ne (tgt := 92) hx hb dX12_sayTerm_84 (by decide) (fun c_84 => ?_) (fun c_84 => ?_)
          · have t_84 : (aI).toInt ≠ 1 := toI_ne c_84 rfl (by decide)
            refine lv_aload_n hx hb dX12_sayTerm_92 rfl (lv_at hl 1 rfl) ?_
            refine lv_iload hx hb dX12_sayTerm_93 (lv_at hl 0 rfl) ?_
            refine lv_iload_n hx hb dX12_sayTerm_95 rfl (lv_at hl 3 rfl) ?_
            have hFc := allFree hD hS hA
            refine va_callv (va_runV (As := [.int aI, .int uI]) (rest := []) ⟨hx, hb, hml, hown, hts⟩ (r_X12_sayPart l dC dI a k h0 (fT vi 125 (nI j1_i125)) vj (fT vF 75 j1_F75) vG aI uI j1_i125 rfl (by first | with_reducible assumption | decide | omega | rfl | assumption) (hbaI) (hbuI) H.size) (cwV 2 hts gwsRX12_sayTerm_1 rfl rfl rfl hd_yX12_sayPart_RX12 (by decide +kernel)) (fz_pre (va_recv hK hP (ci := 12) (q0 := 0) rfl rfl) hP hK hD) rfl rfl hl.1 rfl (lv_room (Nat.le_of_ble_eq_true rfl)) dX12_sayTerm_96 (by decide +kernel)) hS (fun q _ h => hFc q h) hFc (fun u t9_ H locs ht hvm hw9 hB9 hz1 hk1 hS => ?_)
            revert u hw9 hB9
            refine fz_p2 ?_
            intro p296 f7596 hw9 hB9
            try dsimp only at hw9 hB9
            have e9i : fT vi 125 (nI p296) = fT (fT vi 125 (nI j1_i125)) 125 (nI p296) := (fT_sm _ _ _ _).symm
            have e9F : fT vF 75 f7596 = fT (fT vF 75 j1_F75) 75 f7596 := (fT_sm _ _ _ _).symm
            have hP := wr_PF e9F (wr_Pi e9i (fz_P ht hB9.1))
            have hD := wr_DF e9F (wr_Di e9i (hB9.2.weaken (fun _ q _ h => hFc q.1 h)))
            clear e9i e9F
            have f96_0 := hw9
            try dsimp only at f96_0
            refine lv_aload_n hx hb dX12_sayTerm_99 rfl (lv_at hl 1 rfl) ?_
            refine lv_bipush (v := 32) hx hb dX12_sayTerm_100 (by decide) ?_
            have hFc := allFree hD hS hA
            refine va_callv (va_runV (As := [.int 32]) (rest := []) ⟨hx, hb, hml, hown, hts⟩ (r_X12_say l dC dI a k h0 (fT vi 125 (nI p296)) vj (fT vF 75 f7596) vG 32 p296 rfl (by first | with_reducible assumption | decide | omega | rfl | assumption) H.size) (cwV 1 hts gwsRX12_sayTerm_0 rfl rfl rfl hd_yX12_say_RX12 (by decide +kernel)) (fz_pre (va_recv hK hP (ci := 12) (q0 := 0) rfl rfl) hP hK hD) rfl rfl hl.1 rfl (lv_room (Nat.le_of_ble_eq_true rfl)) dX12_sayTerm_102 (by decide +kernel)) hS (fun q _ h => hFc q h) hFc (fun u t9_ H locs ht hvm hw9 hB9 hz1 hk1 hS => ?_)
            revert u hw9 hB9
            refine fz_p2 ?_
            intro p2102 f75102 hw9 hB9
            try dsimp only at hw9 hB9
            have e9i : fT vi 125 (nI p2102) = fT (fT vi 125 (nI p296)) 125 (nI p2102) := (fT_sm _ _ _ _).symm
            have e9F : fT vF 75 f75102 = fT (fT vF 75 f7596) 75 f75102 := (fT_sm _ _ _ _).symm
            have hP := wr_PF e9F (wr_Pi e9i (fz_P ht hB9.1))
            have hD := wr_DF e9F (wr_Di e9i (hB9.2.weaken (fun _ q _ h => hFc q.1 h)))
            clear e9i e9F
            revert hw9
            refine fz_a3 ?_
            intro f102_0 f102_1 f102_2
            refine lv_aload_n hx hb dX12_sayTerm_105 rfl (lv_at hl 1 rfl) ?_
            refine lv_bipush (v := 42) hx hb dX12_sayTerm_106 (by decide) ?_
            have hFc := allFree hD hS hA
            refine va_callv (va_runV (As := [.int 42]) (rest := []) ⟨hx, hb, hml, hown, hts⟩ (r_X12_say l dC dI a k h0 (fT vi 125 (nI p2102)) vj (fT vF 75 f75102) vG 42 p2102 rfl (by first | with_reducible assumption | decide | omega | rfl | assumption) H.size) (cwV 1 hts gwsRX12_sayTerm_0 rfl rfl rfl hd_yX12_say_RX12 (by decide +kernel)) (fz_pre (va_recv hK hP (ci := 12) (q0 := 0) rfl rfl) hP hK hD) rfl rfl hl.1 rfl (lv_room (Nat.le_of_ble_eq_true rfl)) dX12_sayTerm_108 (by decide +kernel)) hS (fun q _ h => hFc q h) hFc (fun u t9_ H locs ht hvm hw9 hB9 hz1 hk1 hS => ?_)
            revert u hw9 hB9
            refine fz_p2 ?_
            intro p2108 f75108 hw9 hB9
            try dsimp only at hw9 hB9
            have e9i : fT vi 125 (nI p2108) = fT (fT vi 125 (nI p2102)) 125 (nI p2108) := (fT_sm _ _ _ _).symm
            have e9F : fT vF 75 f75108 = fT (fT vF 75 f75102) 75 f75108 := (fT_sm _ _ _ _).symm
            have hP := wr_PF e9F (wr_Pi e9i (fz_P ht hB9.1))
            have hD := wr_DF e9F (wr_Di e9i (hB9.2.weaken (fun _ q _ h => hFc q.1 h)))
            clear e9i e9F
            revert hw9
            refine fz_a3 ?_
            intro f108_0 f108_1 f108_2
            refine lv_aload_n hx hb dX12_sayTerm_111 rfl (lv_at hl 1 rfl) ?_
            refine lv_bipush (v := 32) hx hb dX12_sayTerm_112 (by decide) ?_
            have hFc := allFree hD hS hA
            refine va_callv (va_runV (As := [.int 32]) (rest := []) ⟨hx, hb, hml, hown, hts⟩ (r_X12_say l dC dI a k h0 (fT vi 125 (nI p2108)) vj (fT vF 75 f75108) vG 32 p2108 rfl (by first | with_reducible assumption | decide | omega | rfl | assumption) H.size) (cwV 1 hts gwsRX12_sayTerm_0 rfl rfl rfl hd_yX12_say_RX12 (by decide +kernel)) (fz_pre (va_recv hK hP (ci := 12) (q0 := 0) rfl rfl) hP hK hD) rfl rfl hl.1 rfl (lv_room (Nat.le_of_ble_eq_true rfl)) dX12_sayTerm_114 (by decide +kernel)) hS (fun q _ h => hFc q h) hFc (fun u t9_ H locs ht hvm hw9 hB9 hz1 hk1 hS => ?_)
            revert u hw9 hB9
            refine fz_p2 ?_
            intro p2114 f75114 hw9 hB9
            try dsimp only at hw9 hB9
            have e9i : fT vi 125 (nI p2114) = fT (fT vi 125 (nI p2108)) 125 (nI p2114) := (fT_sm _ _ _ _).symm
            have e9F : fT vF 75 f75114 = fT (fT vF 75 f75108) 75 f75114 := (fT_sm _ _ _ _).symm
            have hP := wr_PF e9F (wr_Pi e9i (fz_P ht hB9.1))
            have hD := wr_DF e9F (wr_Di e9i (hB9.2.weaken (fun _ q _ h => hFc q.1 h)))
            clear e9i e9F
            revert hw9
            refine fz_a3 ?_
            intro f114_0 f114_1 f114_2
            have hl : lv_has _ _ ([(5, .int aI), (0, .ref h0), (1, .int vI), (2, .int uI), (3, .int xI), (4, .int sI)]) := lv_sub hl [0, 1, 2, 3, 4, 5] rfl
            exact join4 _ _ _ _ ⟨p2114, f75114, by first | assumption | omega, rfl, hP, hD, hS, hl⟩
          · have t_84 : (aI).toInt = 1 := toI_nne c_84 rfl (by decide)
            refine lv_iload_n hx hb dX12_sayTerm_87 rfl (lv_at hl 3 rfl) ?_
            refine lv_iconst (v := 1) hx hb dX12_sayTerm_88 (by decide) ?_
            refine lv_icmp_eq (tgt := 117) hx hb dX12_sayTerm_89 (by decide) (fun c_89 => ?_) (fun c_89 => ?_)
            · have t_89 : (uI).toInt = 1 := toI_eq c_89 rfl (by decide)
              have hl : lv_has _ _ ([(5, .int aI), (0, .ref h0), (1, .int vI), (2, .int uI), (3, .int xI), (4, .int sI)]) := lv_sub hl [0, 1, 2, 3, 4, 5] rfl
              exact join4 _ _ _ _ ⟨j1_i125, j1_F75, by first | assumption | omega, rfl, hP, hD, hS, hl⟩
            · have t_89 : ¬ (uI).toInt = 1 := toI_neq c_89 rfl (by decide)
              refine lv_aload_n hx hb dX12_sayTerm_92 rfl (lv_at hl 1 rfl) ?_
              refine lv_iload hx hb dX12_sayTerm_93 (lv_at hl 0 rfl) ?_
              refine lv_iload_n hx hb dX12_sayTerm_95 rfl (lv_at hl 3 rfl) ?_
              have hFc := allFree hD hS hA
              refine va_callv (va_runV (As := [.int aI, .int uI]) (rest := []) ⟨hx, hb, hml, hown, hts⟩ (r_X12_sayPart l dC dI a k h0 (fT vi 125 (nI j1_i125)) vj (fT vF 75 j1_F75) vG aI uI j1_i125 rfl (by first | with_reducible assumption | decide | omega | rfl | assumption) (hbaI) (hbuI) H.size) (cwV 2 hts gwsRX12_sayTerm_1 rfl rfl rfl hd_yX12_sayPart_RX12 (by decide +kernel)) (fz_pre (va_recv hK hP (ci := 12) (q0 := 0) rfl rfl) hP hK hD) rfl rfl hl.1 rfl (lv_room (Nat.le_of_ble_eq_true rfl)) dX12_sayTerm_96 (by decide +kernel)) hS (fun q _ h => hFc q h) hFc (fun u t9_ H locs ht hvm hw9 hB9 hz1 hk1 hS => ?_)
              revert u hw9 hB9
              refine fz_p2 ?_
              intro p296_1 f7596_1 hw9 hB9
              try dsimp only at hw9 hB9
              have e9i : fT vi 125 (nI p296_1) = fT (fT vi 125 (nI j1_i125)) 125 (nI p296_1) := (fT_sm _ _ _ _).symm
              have e9F : fT vF 75 f7596_1 = fT (fT vF 75 j1_F75) 75 f7596_1 := (fT_sm _ _ _ _).symm
              have hP := wr_PF e9F (wr_Pi e9i (fz_P ht hB9.1))
              have hD := wr_DF e9F (wr_Di e9i (hB9.2.weaken (fun _ q _ h => hFc q.1 h)))
              clear e9i e9F
              have f96_1_0 := hw9
              try dsimp only at f96_1_0
              refine lv_aload_n hx hb dX12_sayTerm_99 rfl (lv_at hl 1 rfl) ?_
              refine lv_bipush (v := 32) hx hb dX12_sayTerm_100 (by decide) ?_
              have hFc := allFree hD hS hA
              refine va_callv (va_runV (As := [.int 32]) (rest := []) ⟨hx, hb, hml, hown, hts⟩ (r_X12_say l dC dI a k h0 (fT vi 125 (nI p296_1)) vj (fT vF 75 f7596_1) vG 32 p296_1 rfl (by first | with_reducible assumption | decide | omega | rfl | assumption) H.size) (cwV 1 hts gwsRX12_sayTerm_0 rfl rfl rfl hd_yX12_say_RX12 (by decide +kernel)) (fz_pre (va_recv hK hP (ci := 12) (q0 := 0) rfl rfl) hP hK hD) rfl rfl hl.1 rfl (lv_room (Nat.le_of_ble_eq_true rfl)) dX12_sayTerm_102 (by decide +kernel)) hS (fun q _ h => hFc q h) hFc (fun u t9_ H locs ht hvm hw9 hB9 hz1 hk1 hS => ?_)
              revert u hw9 hB9
              refine fz_p2 ?_
              intro p2102_1 f75102_1 hw9 hB9
              try dsimp only at hw9 hB9
              have e9i : fT vi 125 (nI p2102_1) = fT (fT vi 125 (nI p296_1)) 125 (nI p2102_1) := (fT_sm _ _ _ _).symm
              have e9F : fT vF 75 f75102_1 = fT (fT vF 75 f7596_1) 75 f75102_1 := (fT_sm _ _ _ _).symm
              have hP := wr_PF e9F (wr_Pi e9i (fz_P ht hB9.1))
              have hD := wr_DF e9F (wr_Di e9i (hB9.2.weaken (fun _ q _ h => hFc q.1 h)))
              clear e9i e9F
              revert hw9
              refine fz_a3 ?_
              intro f102_1_0 f102_1_1 f102_1_2
              refine lv_aload_n hx hb dX12_sayTerm_105 rfl (lv_at hl 1 rfl) ?_
              refine lv_bipush (v := 42) hx hb dX12_sayTerm_106 (by decide) ?_
              have hFc := allFree hD hS hA
              refine va_callv (va_runV (As := [.int 42]) (rest := []) ⟨hx, hb, hml, hown, hts⟩ (r_X12_say l dC dI a k h0 (fT vi 125 (nI p2102_1)) vj (fT vF 75 f75102_1) vG 42 p2102_1 rfl (by first | with_reducible assumption | decide | omega | rfl | assumption) H.size) (cwV 1 hts gwsRX12_sayTerm_0 rfl rfl rfl hd_yX12_say_RX12 (by decide +kernel)) (fz_pre (va_recv hK hP (ci := 12) (q0 := 0) rfl rfl) hP hK hD) rfl rfl hl.1 rfl (lv_room (Nat.le_of_ble_eq_true rfl)) dX12_sayTerm_108 (by decide +kernel)) hS (fun q _ h => hFc q h) hFc (fun u t9_ H locs ht hvm hw9 hB9 hz1 hk1 hS => ?_)
              revert u hw9 hB9
              refine fz_p2 ?_
              intro p2108_1 f75108_1 hw9 hB9
              try dsimp only at hw9 hB9
              have e9i : fT vi 125 (nI p2108_1) = fT (fT vi 125 (nI p2102_1)) 125 (nI p2108_1) := (fT_sm _ _ _ _).symm
              have e9F : fT vF 75 f75108_1 = fT (fT vF 75 f75102_1) 75 f75108_1 := (fT_sm _ _ _ _).symm
              have hP := wr_PF e9F (wr_Pi e9i (fz_P ht hB9.1))
              have hD := wr_DF e9F (wr_Di e9i (hB9.2.weaken (fun _ q _ h => hFc q.1 h)))
              clear e9i e9F
              revert hw9
              refine fz_a3 ?_
              intro f108_1_0 f108_1_1 f108_1_2
              refine lv_aload_n hx hb dX12_sayTerm_111 rfl (lv_at hl 1 rfl) ?_
              refine lv_bipush (v := 32) hx hb dX12_sayTerm_112 (by decide) ?_
              have hFc := allFree hD hS hA
              refine va_callv (va_runV (As := [.int 32]) (rest := []) ⟨hx, hb, hml, hown, hts⟩ (r_X12_say l dC dI a k h0 (fT vi 125 (nI p2108_1)) vj (fT vF 75 f75108_1) vG 32 p2108_1 rfl (by first | with_reducible assumption | decide | omega | rfl | assumption) H.size) (cwV 1 hts gwsRX12_sayTerm_0 rfl rfl rfl hd_yX12_say_RX12 (by decide +kernel)) (fz_pre (va_recv hK hP (ci := 12) (q0 := 0) rfl rfl) hP hK hD) rfl rfl hl.1 rfl (lv_room (Nat.le_of_ble_eq_true rfl)) dX12_sayTerm_114 (by decide +kernel)) hS (fun q _ h => hFc q h) hFc (fun u t9_ H locs ht hvm hw9 hB9 hz1 hk1 hS => ?_)
              revert u hw9 hB9
              refine fz_p2 ?_
              intro p2114_1 f75114_1 hw9 hB9
              try dsimp only at hw9 hB9
              have e9i : fT vi 125 (nI p2114_1) = fT (fT vi 125 (nI p2108_1)) 125 (nI p2114_1) := (fT_sm _ _ _ _).symm
              have e9F : fT vF 75 f75114_1 = fT (fT vF 75 f75108_1) 75 f75114_1 := (fT_sm _ _ _ _).symm
              have hP := wr_PF e9F (wr_Pi e9i (fz_P ht hB9.1))
              have hD := wr_DF e9F (wr_Di e9i (hB9.2.weaken (fun _ q _ h => hFc q.1 h)))
              clear e9i e9F
              revert hw9
              refine fz_a3 ?_
              intro f114_1_0 f114_1_1 f114_1_2
              have hl : lv_has _ _ ([(5, .int aI), (0, .ref h0), (1, .int vI), (2, .int uI), (3, .int xI), (4, .int sI)]) := lv_sub hl [0, 1, 2, 3, 4, 5] rfl
              exact join4 _ _ _ _ ⟨p2114_1, f75114_1, by first | assumption | omega, rfl, hP, hD, hS, hl⟩
        · rintro H locs ls stk ⟨j5_i125, j5_F75, hj5_i125, rfl, hP, hD, hS, hl⟩
          refine lv_aload_n hx hb dX12_sayTerm_117 rfl (lv_at hl 1 rfl) ?_
          refine lv_bipush (v := 120) hx hb dX12_sayTerm_118 (by decide) ?_
          have hFc := allFree hD hS hA
          refine va_callv (va_runV (As := [.int 120]) (rest := []) ⟨hx, hb, hml, hown, hts⟩ (r_X12_say l dC dI a k h0 (fT vi 125 (nI j5_i125)) vj (fT vF 75 j5_F75) vG 120 j5_i125 rfl (by first | with_reducible assumption | decide | omega | rfl | assumption) H.size) (cwV 1 hts gwsRX12_sayTerm_0 rfl rfl rfl hd_yX12_say_RX12 (by decide +kernel)) (fz_pre (va_recv hK hP (ci := 12) (q0 := 0) rfl rfl) hP hK hD) rfl rfl hl.1 rfl (lv_room (Nat.le_of_ble_eq_true rfl)) dX12_sayTerm_120 (by decide +kernel)) hS (fun q _ h => hFc q h) hFc (fun u t9_ H locs ht hvm hw9 hB9 hz1 hk1 hS => ?_)
          revert u hw9 hB9
          refine fz_p2 ?_
          intro p2120 f75120 hw9 hB9
          try dsimp only at hw9 hB9
          have e9i : fT vi 125 (nI p2120) = fT (fT vi 125 (nI j5_i125)) 125 (nI p2120) := (fT_sm _ _ _ _).symm
          have e9F : fT vF 75 f75120 = fT (fT vF 75 j5_F75) 75 f75120 := (fT_sm _ _ _ _).symm
          have hP := wr_PF e9F (wr_Pi e9i (fz_P ht hB9.1))
          have hD := wr_DF e9F (wr_Di e9i (hB9.2.weaken (fun _ q _ h => hFc q.1 h)))
          clear e9i e9F
          revert hw9
          refine fz_a3 ?_
          intro f120_0 f120_1 f120_2
          refine lv_aload_n hx hb dX12_sayTerm_123 rfl (lv_at hl 1 rfl) ?_
          refine lv_iload_n hx hb dX12_sayTerm_124 rfl (lv_at hl 4 rfl) ?_
          have hFc := allFree hD hS hA
          refine va_callv (va_runV (As := [.int xI]) (rest := []) ⟨hx, hb, hml, hown, hts⟩ (r_X12_sayNumber l dC dI a k h0 (fT vi 125 (nI p2120)) vj (fT vF 75 f75120) vG xI p2120 rfl (by first | with_reducible assumption | decide | omega | rfl | assumption) (hbxI) H.size) (cwV 1 hts gwsRX12_sayTerm_2 rfl rfl rfl hd_yX12_sayNumber_RX12 (by decide +kernel)) (fz_pre (va_recv hK hP (ci := 12) (q0 := 0) rfl rfl) hP hK hD) rfl rfl hl.1 rfl (lv_room (Nat.le_of_ble_eq_true rfl)) dX12_sayTerm_125 (by decide +kernel)) hS (fun q _ h => hFc q h) hFc (fun u t9_ H locs ht hvm hw9 hB9 hz1 hk1 hS => ?_)
          revert u hw9 hB9
          refine fz_p2 ?_
          intro p2125 f75125 hw9 hB9
          try dsimp only at hw9 hB9
          have e9i : fT vi 125 (nI p2125) = fT (fT vi 125 (nI p2120)) 125 (nI p2125) := (fT_sm _ _ _ _).symm
          have e9F : fT vF 75 f75125 = fT (fT vF 75 f75120) 75 f75125 := (fT_sm _ _ _ _).symm
          have hP := wr_PF e9F (wr_Pi e9i (fz_P ht hB9.1))
          have hD := wr_DF e9F (wr_Di e9i (hB9.2.weaken (fun _ q _ h => hFc q.1 h)))
          clear e9i e9F
          have f125_0 := hw9
          try dsimp only at f125_0
          refine W.widen (k := 0) (n := 0) (by decide +kernel) (by decide +kernel) ?_
          exact W.vret hx hb hr (fun t9_ ht hW => ⟨⟨(p2125, f75125), rfl, by (try dsimp only); first | assumption | omega, by rw [ht]; exact hP, hD⟩, hS.F ht⟩) hS.2.2 dX12_sayTerm_128
      · have t_70 : (xI).toInt = -1 := toI_nne c_70 rfl (by decide)
        refine lv_aload_n hx hb dX12_sayTerm_73 rfl (lv_at hl 1 rfl) ?_
        refine lv_iload hx hb dX12_sayTerm_74 (lv_at hl 0 rfl) ?_
        refine lv_iload_n hx hb dX12_sayTerm_76 rfl (lv_at hl 3 rfl) ?_
        have hFc := allFree hD hS hA
        refine va_callv (va_runV (As := [.int aI, .int uI]) (rest := []) ⟨hx, hb, hml, hown, hts⟩ (r_X12_sayPart l dC dI a k h0 (fT vi 125 (nI j1_i125)) vj (fT vF 75 j1_F75) vG aI uI j1_i125 rfl (by first | with_reducible assumption | decide | omega | rfl | assumption) (hbaI) (hbuI) H.size) (cwV 2 hts gwsRX12_sayTerm_1 rfl rfl rfl hd_yX12_sayPart_RX12 (by decide +kernel)) (fz_pre (va_recv hK hP (ci := 12) (q0 := 0) rfl rfl) hP hK hD) rfl rfl hl.1 rfl (lv_room (Nat.le_of_ble_eq_true rfl)) dX12_sayTerm_77 (by decide +kernel)) hS (fun q _ h => hFc q h) hFc (fun u t9_ H locs ht hvm hw9 hB9 hz1 hk1 hS => ?_)
        revert u hw9 hB9
        refine fz_p2 ?_
        intro p277 f7577 hw9 hB9
        try dsimp only at hw9 hB9
        have e9i : fT vi 125 (nI p277) = fT (fT vi 125 (nI j1_i125)) 125 (nI p277) := (fT_sm _ _ _ _).symm
        have e9F : fT vF 75 f7577 = fT (fT vF 75 j1_F75) 75 f7577 := (fT_sm _ _ _ _).symm
        have hP := wr_PF e9F (wr_Pi e9i (fz_P ht hB9.1))
        have hD := wr_DF e9F (wr_Di e9i (hB9.2.weaken (fun _ q _ h => hFc q.1 h)))
        clear e9i e9F
        have f77_0 := hw9
        try dsimp only at f77_0
        refine W.widen (k := 0) (n := 0) (by decide +kernel) (by decide +kernel) ?_
        exact W.vret hx hb hr (fun t9_ ht hW => ⟨⟨(p277, f7577), rfl, by (try dsimp only); first | assumption | omega, by rw [ht]; exact hP, hD⟩, hS.F ht⟩) hS.2.2 dX12_sayTerm_80
theorem dX12_endLine_0 : decode cX12_endLine 0 = .ok (.aload_n 0, 1) := dk_42 (by decide +kernel)
theorem dX12_endLine_1 : decode cX12_endLine 1 = .ok (.bipush 32, 2) := dk_16 (by decide +kernel)
theorem dX12_endLine_3 : decode cX12_endLine 3 = .ok (.invokevirtual 936, 3) := dk_182 (by decide +kernel)
theorem dX12_endLine_6 : decode cX12_endLine 6 = .ok (.aload_n 0, 1) := dk_42 (by decide +kernel)
theorem dX12_endLine_7 : decode cX12_endLine 7 = .ok (.bipush 59, 2) := dk_16 (by decide +kernel)
theorem dX12_endLine_9 : decode cX12_endLine 9 = .ok (.invokevirtual 936, 3) := dk_182 (by decide +kernel)
theorem dX12_endLine_12 : decode cX12_endLine 12 = .ok (.aload_n 0, 1) := dk_42 (by decide +kernel)
theorem dX12_endLine_13 : decode cX12_endLine 13 = .ok (.bipush 10, 2) := dk_16 (by decide +kernel)
theorem dX12_endLine_15 : decode cX12_endLine 15 = .ok (.invokevirtual 936, 3) := dk_182 (by decide +kernel)
theorem dX12_endLine_18 : decode cX12_endLine 18 = .ok (.return_, 1) := dk_177 (by decide +kernel)
def wsRX12_endLine : List Cond := .code yX12_endLine cX12_endLine 1 none :: ([] ++ wsX120 ++ (wsV RX12 936 RX12 yX12_say wsRX12_say))
theorem iwsRX12_endLine_in12 : ∀ w ∈ wsX120, w ∈ wsRX12_endLine := fun _ h => List.mem_cons_of_mem _ (List.mem_append_left _ (List.mem_append_right _ h))
theorem gwsRX12_endLine_0 : GoodIn wsRX12_endLine (wsV RX12 936 RX12 yX12_say wsRX12_say) := goodIn_sub (fun _ h => List.mem_cons_of_mem _ (List.mem_append_right _ h)) (gdV (by decide +kernel) gdwsRX12_say)
theorem gdwsRX12_endLine : wsRX12_endLine.all goodWord = true := gdC rfl (gdA (gdA (by decide +kernel : ([] : List Cond).all goodWord = true) gdwsX120) (gdV (by decide +kernel) gdwsRX12_say))
set_option maxHeartbeats 4000000 in
set_option maxRecDepth 100000 in
/-- endLine() -/
theorem r_X12_endLine (l : Launch) (dC : Nat → ClassId) (dI : Nat → Nat → Nat) (a : Nat → Nat) (k : Nat → ClassId) (h0 : Nat) (vi : Nat → Int32) (vj : Nat → Int64) (vF : Nat → Nat → Int32) (vG : Nat → Nat → Int64) (pn : Nat) (hpn : vi 125 = nI pn) (hpn2 : pn ≤ 30000) (sz : Nat) : Met l yX12_endLine wsRX12_endLine ({ frames := 1, cells := 0, slots := 0, locals := 21 }) (va_Pc [.ref h0] (fun U => U.heap.size = sz ∧ va_P (dC, dI) vwCl (WR a k h0 vi vj vF vG) U.heap ∧ va_K (dC, dI) vwCl (tX12 k) U ∧ va_D (fun _ => True) (WR a k h0 vi vj vF vG))) (va_Qv (fun (u : (Nat) × (Nat → Int32)) => ((u.1) ≤ 30000)) (fun (u : (Nat) × (Nat → Int32)) t => va_P (dC, dI) vwCl (WR a k h0 (fT vi 125 (nI (u.1))) vj (fT vF 75 (u.2)) vG) t.heap ∧ va_D (va_A (WR a k h0 vi vj vF vG) sz) (WR a k h0 (fT vi 125 (nI (u.1))) vj (fT vF 75 (u.2)) vG)) (va_A (WR a k h0 vi vj vF vG) sz)) 0 0 (va_A (WR a k h0 vi vj vF vG) sz) := by
  refine Met.ofW (cc := cX12_endLine) (maxL := 1) (ret := none) (by decide) rfl ?_
  intro p e s m args below meth c s₁ B hml hv
  obtain ⟨rfl, hsz, hP, hK, hD0⟩ := hv
  have hx := B.exec
  have hb := B.bytes
  have hr := B.returns
  have hts := atoms_spec (ws := wsRX12_endLine) B.pre
  have hown : s.vm.findClass RX12 = some m.cls := findClass_of_methodNamed B.named
  have hlocks := B.notSynchronized
  subst hsz
  have hD := hD0.self (sz := s.heap.size)
  generalize hAe : va_A (WR a k h0 vi vj vF vG) s.heap.size = A at hD ⊢
  have hA : ∀ q : Nat, s.heap.size ≤ q → A q := fun q h => by rw [← hAe]; exact Or.inr h
  have hS : va_S A s.heap s.heap [] := va_S.rf
  have hl := lv_entry ([.ref h0]) (n := 1) (Nat.le_of_ble_eq_true rfl)
  rw [lg_entry_eq]
  generalize (lg_sl ([.ref h0]) ++ List.replicate (1 - (lg_sl ([.ref h0])).length) Slot.unset).toArray = ls at hl ⊢
  have hl : lv_has ls 1 [(0, .ref h0)] := hl
  refine lv_aload_n hx hb dX12_endLine_0 rfl (lv_at hl 0 rfl) ?_
  refine lv_bipush (v := 32) hx hb dX12_endLine_1 (by decide) ?_
  have hFc := allFree hD hS hA
  refine va_callv (va_runV (As := [.int 32]) (rest := []) ⟨hx, hb, hml, hown, hts⟩ (r_X12_say l dC dI a k h0 vi vj vF vG 32 pn hpn (by first | with_reducible assumption | decide | omega | rfl | assumption) s.heap.size) (cwV 1 hts gwsRX12_endLine_0 rfl rfl rfl hd_yX12_say_RX12 (by decide +kernel)) (fz_pre (va_recv hK hP (ci := 12) (q0 := 0) rfl rfl) hP hK hD) rfl rfl hl.1 rfl (lv_room (Nat.le_of_ble_eq_true rfl)) dX12_endLine_3 (by decide +kernel)) hS (fun q _ h => hFc q h) hFc (fun u t9_ H locs ht hvm hw9 hB9 hz1 hk1 hS => ?_)
  revert u hw9 hB9
  refine fz_p2 ?_
  intro p23 f753 hw9 hB9
  try dsimp only at hw9 hB9
  have hP : va_P (dC, dI) vwCl (WR a k h0 (fT vi 125 (nI p23)) vj (fT vF 75 f753) vG) H := fz_P ht hB9.1
  have hD := fz_sd hP (hB9.2.weaken (fun _ q _ h => hFc q.1 h)) rfl
  revert hw9
  refine fz_a3 ?_
  intro f3_0 f3_1 f3_2
  refine lv_aload_n hx hb dX12_endLine_6 rfl (lv_at hl 0 rfl) ?_
  refine lv_bipush (v := 59) hx hb dX12_endLine_7 (by decide) ?_
  have hFc := allFree hD hS hA
  refine va_callv (va_runV (As := [.int 59]) (rest := []) ⟨hx, hb, hml, hown, hts⟩ (r_X12_say l dC dI a k h0 (fT vi 125 (nI p23)) vj (fT vF 75 f753) vG 59 p23 rfl (by first | with_reducible assumption | decide | omega | rfl | assumption) H.size) (cwV 1 hts gwsRX12_endLine_0 rfl rfl rfl hd_yX12_say_RX12 (by decide +kernel)) (fz_pre (va_recv hK hP (ci := 12) (q0 := 0) rfl rfl) hP hK hD) rfl rfl hl.1 rfl (lv_room (Nat.le_of_ble_eq_true rfl)) dX12_endLine_9 (by decide +kernel)) hS (fun q _ h => hFc q h) hFc (fun u t9_ H locs ht hvm hw9 hB9 hz1 hk1 hS => ?_)
  revert u hw9 hB9
  refine fz_p2 ?_
  intro p29 f759 hw9 hB9
  try dsimp only at hw9 hB9
  have e9i : fT vi 125 (nI p29) = fT (fT vi 125 (nI p23)) 125 (nI p29) := (fT_sm _ _ _ _).symm
  have e9F : fT vF 75 f759 = fT (fT vF 75 f753) 75 f759 := (fT_sm _ _ _ _).symm
  have hP := wr_PF e9F (wr_Pi e9i (fz_P ht hB9.1))
  have hD := wr_DF e9F (wr_Di e9i (hB9.2.weaken (fun _ q _ h => hFc q.1 h)))
  clear e9i e9F
  revert hw9
  refine fz_a3 ?_
  intro f9_0 f9_1 f9_2
  refine lv_aload_n hx hb dX12_endLine_12 rfl (lv_at hl 0 rfl) ?_
  refine lv_bipush (v := 10) hx hb dX12_endLine_13 (by decide) ?_
  have hFc := allFree hD hS hA
  refine va_callv (va_runV (As := [.int 10]) (rest := []) ⟨hx, hb, hml, hown, hts⟩ (r_X12_say l dC dI a k h0 (fT vi 125 (nI p29)) vj (fT vF 75 f759) vG 10 p29 rfl (by first | with_reducible assumption | decide | omega | rfl | assumption) H.size) (cwV 1 hts gwsRX12_endLine_0 rfl rfl rfl hd_yX12_say_RX12 (by decide +kernel)) (fz_pre (va_recv hK hP (ci := 12) (q0 := 0) rfl rfl) hP hK hD) rfl rfl hl.1 rfl (lv_room (Nat.le_of_ble_eq_true rfl)) dX12_endLine_15 (by decide +kernel)) hS (fun q _ h => hFc q h) hFc (fun u t9_ H locs ht hvm hw9 hB9 hz1 hk1 hS => ?_)
  revert u hw9 hB9
  refine fz_p2 ?_
  intro p215 f7515 hw9 hB9
  try dsimp only at hw9 hB9
  have e9i : fT vi 125 (nI p215) = fT (fT vi 125 (nI p29)) 125 (nI p215) := (fT_sm _ _ _ _).symm
  have e9F : fT vF 75 f7515 = fT (fT vF 75 f759) 75 f7515 := (fT_sm _ _ _ _).symm
  have hP := wr_PF e9F (wr_Pi e9i (fz_P ht hB9.1))
  have hD := wr_DF e9F (wr_Di e9i (hB9.2.weaken (fun _ q _ h => hFc q.1 h)))
  clear e9i e9F
  revert hw9
  refine fz_a3 ?_
  intro f15_0 f15_1 f15_2
  refine W.widen (k := 0) (n := 0) (by decide +kernel) (by decide +kernel) ?_
  exact W.vret hx hb hr (fun t9_ ht hW => ⟨⟨(p215, f7515), rfl, by (try dsimp only); first | assumption | omega, by rw [ht]; exact hP, hD⟩, hS.F ht⟩) hS.2.2 dX12_endLine_18
theorem dX12_sayWay_0 : decode cX12_sayWay 0 = .ok (.iconst 0, 1) := dk_3 (by decide +kernel)
theorem dX12_sayWay_1 : decode cX12_sayWay 1 = .ok (.istore_n 2, 1) := dk_61 (by decide +kernel)
theorem dX12_sayWay_2 : decode cX12_sayWay 2 = .ok (.iconst 0, 1) := dk_3 (by decide +kernel)
theorem dX12_sayWay_3 : decode cX12_sayWay 3 = .ok (.istore_n 3, 1) := dk_62 (by decide +kernel)
theorem dX12_sayWay_4 : decode cX12_sayWay 4 = .ok (.iload_n 3, 1) := dk_29 (by decide +kernel)
theorem dX12_sayWay_5 : decode cX12_sayWay 5 = .ok (.aload_n 0, 1) := dk_42 (by decide +kernel)
theorem dX12_sayWay_6 : decode cX12_sayWay 6 = .ok (.getfield 774, 3) := dk_180 (by decide +kernel)
theorem dX12_sayWay_9 : decode cX12_sayWay 9 = .ok (.if_icmp .ge 43, 3) := dk_162 (by decide +kernel)
theorem dX12_sayWay_12 : decode cX12_sayWay 12 = .ok (.aload_n 0, 1) := dk_42 (by decide +kernel)
theorem dX12_sayWay_13 : decode cX12_sayWay 13 = .ok (.getfield 203, 3) := dk_180 (by decide +kernel)
theorem dX12_sayWay_16 : decode cX12_sayWay 16 = .ok (.bipush 9, 2) := dk_16 (by decide +kernel)
theorem dX12_sayWay_18 : decode cX12_sayWay 18 = .ok (.iload_n 1, 1) := dk_27 (by decide +kernel)
theorem dX12_sayWay_19 : decode cX12_sayWay 19 = .ok (.imul, 1) := dk_104 (by decide +kernel)
theorem dX12_sayWay_20 : decode cX12_sayWay 20 = .ok (.iconst 1, 1) := dk_4 (by decide +kernel)
theorem dX12_sayWay_21 : decode cX12_sayWay 21 = .ok (.iadd, 1) := dk_96 (by decide +kernel)
theorem dX12_sayWay_22 : decode cX12_sayWay 22 = .ok (.iload_n 3, 1) := dk_29 (by decide +kernel)
theorem dX12_sayWay_23 : decode cX12_sayWay 23 = .ok (.iadd, 1) := dk_96 (by decide +kernel)
theorem dX12_sayWay_24 : decode cX12_sayWay 24 = .ok (.iaload, 1) := dk_46 (by decide +kernel)
theorem dX12_sayWay_25 : decode cX12_sayWay 25 = .ok (.istore 4, 2) := dk_54 (by decide +kernel)
theorem dX12_sayWay_27 : decode cX12_sayWay 27 = .ok (.iload 4, 2) := dk_21 (by decide +kernel)
theorem dX12_sayWay_29 : decode cX12_sayWay 29 = .ok (.ifCond .ne 6, 3) := dk_154 (by decide +kernel)
theorem dX12_sayWay_32 : decode cX12_sayWay 32 = .ok (.goto 14, 3) := dk_167 (by decide +kernel)
theorem dX12_sayWay_35 : decode cX12_sayWay 35 = .ok (.aload_n 0, 1) := dk_42 (by decide +kernel)
theorem dX12_sayWay_36 : decode cX12_sayWay 36 = .ok (.iload 4, 2) := dk_21 (by decide +kernel)
theorem dX12_sayWay_38 : decode cX12_sayWay 38 = .ok (.iconst 1, 1) := dk_4 (by decide +kernel)
theorem dX12_sayWay_39 : decode cX12_sayWay 39 = .ok (.iload_n 3, 1) := dk_29 (by decide +kernel)
theorem dX12_sayWay_40 : decode cX12_sayWay 40 = .ok (.iload_n 2, 1) := dk_28 (by decide +kernel)
theorem dX12_sayWay_41 : decode cX12_sayWay 41 = .ok (.invokevirtual 961, 3) := dk_182 (by decide +kernel)
theorem dX12_sayWay_44 : decode cX12_sayWay 44 = .ok (.iconst 1, 1) := dk_4 (by decide +kernel)
theorem dX12_sayWay_45 : decode cX12_sayWay 45 = .ok (.istore_n 2, 1) := dk_61 (by decide +kernel)
theorem dX12_sayWay_46 : decode cX12_sayWay 46 = .ok (.iinc 3 1, 3) := dk_132 (by decide +kernel)
theorem dX12_sayWay_49 : decode cX12_sayWay 49 = .ok (.goto (-45), 3) := dk_167 (by decide +kernel)
theorem dX12_sayWay_52 : decode cX12_sayWay 52 = .ok (.iload_n 2, 1) := dk_28 (by decide +kernel)
theorem dX12_sayWay_53 : decode cX12_sayWay 53 = .ok (.ifCond .ne 9, 3) := dk_154 (by decide +kernel)
theorem dX12_sayWay_56 : decode cX12_sayWay 56 = .ok (.aload_n 0, 1) := dk_42 (by decide +kernel)
theorem dX12_sayWay_57 : decode cX12_sayWay 57 = .ok (.bipush 48, 2) := dk_16 (by decide +kernel)
theorem dX12_sayWay_59 : decode cX12_sayWay 59 = .ok (.invokevirtual 936, 3) := dk_182 (by decide +kernel)
theorem dX12_sayWay_62 : decode cX12_sayWay 62 = .ok (.aload_n 0, 1) := dk_42 (by decide +kernel)
theorem dX12_sayWay_63 : decode cX12_sayWay 63 = .ok (.bipush 32, 2) := dk_16 (by decide +kernel)
theorem dX12_sayWay_65 : decode cX12_sayWay 65 = .ok (.invokevirtual 936, 3) := dk_182 (by decide +kernel)
theorem dX12_sayWay_68 : decode cX12_sayWay 68 = .ok (.aload_n 0, 1) := dk_42 (by decide +kernel)
theorem dX12_sayWay_69 : decode cX12_sayWay 69 = .ok (.getfield 206, 3) := dk_180 (by decide +kernel)
theorem dX12_sayWay_72 : decode cX12_sayWay 72 = .ok (.iload_n 1, 1) := dk_27 (by decide +kernel)
theorem dX12_sayWay_73 : decode cX12_sayWay 73 = .ok (.iaload, 1) := dk_46 (by decide +kernel)
theorem dX12_sayWay_74 : decode cX12_sayWay 74 = .ok (.istore_n 3, 1) := dk_62 (by decide +kernel)
theorem dX12_sayWay_75 : decode cX12_sayWay 75 = .ok (.aload_n 0, 1) := dk_42 (by decide +kernel)
theorem dX12_sayWay_76 : decode cX12_sayWay 76 = .ok (.iload_n 3, 1) := dk_29 (by decide +kernel)
theorem dX12_sayWay_77 : decode cX12_sayWay 77 = .ok (.ifCond .ne 8, 3) := dk_154 (by decide +kernel)
theorem dX12_sayWay_80 : decode cX12_sayWay 80 = .ok (.bipush 60, 2) := dk_16 (by decide +kernel)
theorem dX12_sayWay_82 : decode cX12_sayWay 82 = .ok (.goto 15, 3) := dk_167 (by decide +kernel)
theorem dX12_sayWay_85 : decode cX12_sayWay 85 = .ok (.iload_n 3, 1) := dk_29 (by decide +kernel)
theorem dX12_sayWay_86 : decode cX12_sayWay 86 = .ok (.iconst 1, 1) := dk_4 (by decide +kernel)
theorem dX12_sayWay_87 : decode cX12_sayWay 87 = .ok (.if_icmp .ne 8, 3) := dk_160 (by decide +kernel)
theorem dX12_sayWay_90 : decode cX12_sayWay 90 = .ok (.bipush 62, 2) := dk_16 (by decide +kernel)
theorem dX12_sayWay_92 : decode cX12_sayWay 92 = .ok (.goto 5, 3) := dk_167 (by decide +kernel)
theorem dX12_sayWay_95 : decode cX12_sayWay 95 = .ok (.bipush 61, 2) := dk_16 (by decide +kernel)
theorem dX12_sayWay_97 : decode cX12_sayWay 97 = .ok (.invokevirtual 936, 3) := dk_182 (by decide +kernel)
theorem dX12_sayWay_100 : decode cX12_sayWay 100 = .ok (.iload_n 3, 1) := dk_29 (by decide +kernel)
theorem dX12_sayWay_101 : decode cX12_sayWay 101 = .ok (.iconst 2, 1) := dk_5 (by decide +kernel)
theorem dX12_sayWay_102 : decode cX12_sayWay 102 = .ok (.if_icmp .ge 9, 3) := dk_162 (by decide +kernel)
theorem dX12_sayWay_105 : decode cX12_sayWay 105 = .ok (.aload_n 0, 1) := dk_42 (by decide +kernel)
theorem dX12_sayWay_106 : decode cX12_sayWay 106 = .ok (.bipush 61, 2) := dk_16 (by decide +kernel)
theorem dX12_sayWay_108 : decode cX12_sayWay 108 = .ok (.invokevirtual 936, 3) := dk_182 (by decide +kernel)
theorem dX12_sayWay_111 : decode cX12_sayWay 111 = .ok (.aload_n 0, 1) := dk_42 (by decide +kernel)
theorem dX12_sayWay_112 : decode cX12_sayWay 112 = .ok (.bipush 32, 2) := dk_16 (by decide +kernel)
theorem dX12_sayWay_114 : decode cX12_sayWay 114 = .ok (.invokevirtual 936, 3) := dk_182 (by decide +kernel)
theorem dX12_sayWay_117 : decode cX12_sayWay 117 = .ok (.aload_n 0, 1) := dk_42 (by decide +kernel)
theorem dX12_sayWay_118 : decode cX12_sayWay 118 = .ok (.aload_n 0, 1) := dk_42 (by decide +kernel)
theorem dX12_sayWay_119 : decode cX12_sayWay 119 = .ok (.getfield 203, 3) := dk_180 (by decide +kernel)
theorem dX12_sayWay_122 : decode cX12_sayWay 122 = .ok (.bipush 9, 2) := dk_16 (by decide +kernel)
theorem dX12_sayWay_124 : decode cX12_sayWay 124 = .ok (.iload_n 1, 1) := dk_27 (by decide +kernel)
theorem dX12_sayWay_125 : decode cX12_sayWay 125 = .ok (.imul, 1) := dk_104 (by decide +kernel)
theorem dX12_sayWay_126 : decode cX12_sayWay 126 = .ok (.iaload, 1) := dk_46 (by decide +kernel)
theorem dX12_sayWay_127 : decode cX12_sayWay 127 = .ok (.invokevirtual 955, 3) := dk_182 (by decide +kernel)
theorem dX12_sayWay_130 : decode cX12_sayWay 130 = .ok (.return_, 1) := dk_177 (by decide +kernel)
def wsRX12_sayWay : List Cond := .code yX12_sayWay cX12_sayWay 5 none :: ([.fieldLink RX12 774 "OptimaWorksModel" "variables" "I", .fieldLink RX12 206 "OptimaWorksModel" "waySign" "[I", .fieldLink RX12 203 "OptimaWorksModel" "wayNumber" "[I"] ++ wsX120 ++ (wsV RX12 936 RX12 yX12_say wsRX12_say) ++ (wsV RX12 955 RX12 yX12_sayNumber wsRX12_sayNumber) ++ (wsV RX12 961 RX12 yX12_sayTerm wsRX12_sayTerm))
theorem iwsRX12_sayWay_in12 : ∀ w ∈ wsX120, w ∈ wsRX12_sayWay := fun _ h => List.mem_cons_of_mem _ (List.mem_append_left _ (List.mem_append_left _ (List.mem_append_left _ (List.mem_append_right _ h))))
theorem gwsRX12_sayWay_0 : GoodIn wsRX12_sayWay (wsV RX12 936 RX12 yX12_say wsRX12_say) := goodIn_sub (fun _ h => List.mem_cons_of_mem _ (List.mem_append_left _ (List.mem_append_left _ (List.mem_append_right _ h)))) (gdV (by decide +kernel) gdwsRX12_say)
theorem gwsRX12_sayWay_1 : GoodIn wsRX12_sayWay (wsV RX12 955 RX12 yX12_sayNumber wsRX12_sayNumber) := goodIn_sub (fun _ h => List.mem_cons_of_mem _ (List.mem_append_left _ (List.mem_append_right _ h))) (gdV (by decide +kernel) gdwsRX12_sayNumber)
theorem gwsRX12_sayWay_2 : GoodIn wsRX12_sayWay (wsV RX12 961 RX12 yX12_sayTerm wsRX12_sayTerm) := goodIn_sub (fun _ h => List.mem_cons_of_mem _ (List.mem_append_right _ h)) (gdV (by decide +kernel) gdwsRX12_sayTerm)
theorem gdwsRX12_sayWay : wsRX12_sayWay.all goodWord = true := gdC rfl (gdA (gdA (gdA (gdA (by decide +kernel : ([.fieldLink RX12 774 "OptimaWorksModel" "variables" "I", .fieldLink RX12 206 "OptimaWorksModel" "waySign" "[I", .fieldLink RX12 203 "OptimaWorksModel" "wayNumber" "[I"] : List Cond).all goodWord = true) gdwsX120) (gdV (by decide +kernel) gdwsRX12_say)) (gdV (by decide +kernel) gdwsRX12_sayNumber)) (gdV (by decide +kernel) gdwsRX12_sayTerm))
theorem hm_r_X12_sayWay_0 : (.fieldLink RX12 203 "OptimaWorksModel" "wayNumber" "[I" : Cond) ∈ wsRX12_sayWay := by decide +kernel
set_option maxHeartbeats 4000000 in
set_option maxRecDepth 100000 in
/-- sayWay(w) -/
theorem r_X12_sayWay (l : Launch) (dC : Nat → ClassId) (dI : Nat → Nat → Nat) (a : Nat → Nat) (k : Nat → ClassId) (h0 : Nat) (vi : Nat → Int32) (vj : Nat → Int64) (vF : Nat → Nat → Int32) (vG : Nat → Nat → Int64) (wn : Nat) (vn : Nat) (gq : Nat) (pn : Nat) (hpn : vi 125 = nI pn) (hpn2 : pn ≤ 30000) (hvn : vi 90 = nI vn) (hvn8 : vn ≤ 8) (hM : MdlB vF gq) (hwn : wn < 39) (sz : Nat) : Met l yX12_sayWay wsRX12_sayWay ({ frames := 4, cells := 0, slots := 0, locals := 91 }) (va_Pc [.ref h0, .int (nI wn)] (fun U => U.heap.size = sz ∧ va_P (dC, dI) vwCl (WR a k h0 vi vj vF vG) U.heap ∧ va_K (dC, dI) vwCl (tX12 k) U ∧ va_D (fun _ => True) (WR a k h0 vi vj vF vG))) (va_Qv (fun (u : (Nat) × (Nat → Int32)) => ((u.1) ≤ 30000)) (fun (u : (Nat) × (Nat → Int32)) t => va_P (dC, dI) vwCl (WR a k h0 (fT vi 125 (nI (u.1))) vj (fT vF 75 (u.2)) vG) t.heap ∧ va_D (va_A (WR a k h0 vi vj vF vG) sz) (WR a k h0 (fT vi 125 (nI (u.1))) vj (fT vF 75 (u.2)) vG)) (va_A (WR a k h0 vi vj vF vG) sz)) 0 0 (va_A (WR a k h0 vi vj vF vG) sz) := by
  refine Met.ofW (cc := cX12_sayWay) (maxL := 5) (ret := none) (by decide) rfl ?_
  intro p e s m args below meth c s₁ B hml hv
  obtain ⟨rfl, hsz, hP, hK, hD0⟩ := hv
  have hx := B.exec
  have hb := B.bytes
  have hr := B.returns
  have hts := atoms_spec (ws := wsRX12_sayWay) B.pre
  have hown : s.vm.findClass RX12 = some m.cls := findClass_of_methodNamed B.named
  have hlocks := B.notSynchronized
  subst hsz
  have hD := hD0.self (sz := s.heap.size)
  generalize hAe : va_A (WR a k h0 vi vj vF vG) s.heap.size = A at hD ⊢
  have hA : ∀ q : Nat, s.heap.size ≤ q → A q := fun q h => by rw [← hAe]; exact Or.inr h
  have hS : va_S A s.heap s.heap [] := va_S.rf
  have hl := lv_entry ([.ref h0, .int (nI wn)]) (n := 5) (Nat.le_of_ble_eq_true rfl)
  rw [lg_entry_eq]
  generalize (lg_sl ([.ref h0, .int (nI wn)]) ++ List.replicate (5 - (lg_sl ([.ref h0, .int (nI wn)])).length) Slot.unset).toArray = ls at hl ⊢
  have hl : lv_has ls 5 [(0, .ref h0), (1, .int (nI wn))] := hl
  refine lv_iconst (v := 0) hx hb dX12_sayWay_0 (by decide) ?_
  refine lv_istore_n hx hb dX12_sayWay_1 rfl hl (by decide) rfl (fun ls (hl : lv_has ls _ ([(2, .int 0), (0, .ref h0), (1, .int (nI wn))])) => ?_)
  refine lv_iconst (v := 0) hx hb dX12_sayWay_2 (by decide) ?_
  refine lv_istore_n hx hb dX12_sayWay_3 rfl hl (by decide) rfl (fun ls (hl : lv_has ls _ ([(3, .int 0), (2, .int 0), (0, .ref h0), (1, .int (nI wn))])) => ?_)
  have e9 : fT vi 125 (nI pn) = vi := by funext q9; by_cases h9_125 : q9 = 125; (subst h9_125; exact (fT_eq _ _ _).trans (Eq.trans (by first | with_reducible rfl | with_reducible assumption | (symm; with_reducible assumption) | rfl | assumption | (symm; assumption) | (subst_vars; rfl)) (Eq.refl _).symm)); exact (fT_ne _ _ h9_125).trans (Eq.refl _).symm
  have hP := wr_Pi e9 hP
  have hD := wr_Di e9 hD
  clear e9
  have e9 : fT vF 75 (vF 75) = vF := by funext q9; by_cases h9_75 : q9 = 75; (subst h9_75; exact (fT_eq _ _ _).trans (Eq.trans (by first | with_reducible rfl | with_reducible assumption | (symm; with_reducible assumption) | rfl | assumption | (symm; assumption) | (subst_vars; rfl)) (Eq.refl _).symm)); exact (fT_ne _ _ h9_75).trans (Eq.refl _).symm
  have hP := wr_PF e9 hP
  have hD := wr_DF e9 hD
  clear e9
  have hl : lv_has _ _ ([(0, .ref h0), (1, .int (nI wn)), (2, .int 0), (3, .int (nI 0))]) := lv_sub hl [2, 3, 1, 0] rfl
  refine (fun (loop : ∀ (n9 : Nat) (k5 : Nat) (so : Int32) (x4_i125 : Nat) (x4_F75 : Nat → Int32) (H : Heap) (locs : List Loc) (ls : Array Slot), (k5 ≤ vn) → (x4_i125 ≤ 30000) →  (vn < k5 + n9) → va_P (dC, dI) vwCl (WR a k h0 (fT vi 125 (nI x4_i125)) vj (fT vF 75 x4_F75) vG) H → va_D A (WR a k h0 (fT vi 125 (nI x4_i125)) vj (fT vF 75 x4_F75) vG) → va_S A s.heap H locs → lv_has ls 5 [(0, .ref h0), (1, .int (nI wn)), (2, .int so), (3, .int (nI k5))] → W p l e _ s m _ below meth c H locs 0 0 _ (F0 m 4 ls [])) => loop (vn + 1) 0 0 pn (vF 75) _ _ _ (by omega) (by first | with_reducible assumption | omega | assumption) (by omega) hP hD hS hl) ?_
  intro n9
  induction n9 with
  | zero => intro k5 so x4_i125 x4_F75 H locs ls hk5 hx4_i125 hf9; exact False.elim (by omega)
  | succ n9 ih4 =>
    intro k5 so x4_i125 x4_F75 H locs ls hk5 hx4_i125 hf4 hP hD hS hl
    refine lv_iload_n hx hb dX12_sayWay_4 rfl (lv_at hl 3 rfl) ?_
    refine lv_aload_n hx hb dX12_sayWay_5 rfl (lv_at hl 0 rfl) ?_
    refine va_get (D := (dC, dI)) (ci := 12) (v := .int (vi 90)) (C := RX12) (T := TX12) (N := 163) (fs := fM (vS a (fT vi 125 (nI x4_i125)) vj)) hx hb hts iwsRX12_sayWay_in12 hown hK hP 0 rfl rfl 90 (by decide) (hts (.fieldLink RX12 774 "OptimaWorksModel" "variables" "I") (by decide +kernel)) (fun _ h9 => h9) rfl dX12_sayWay_6 ?_
    refine lv_topi (fun y1 hy1 => ?_)
    obtain rfl : (nI vn) = y1 := (hy1.trans (hvn)).symm
    refine lv_icmp_ge (tgt := 52) hx hb dX12_sayWay_9 (by decide) (fun c_9 => ?_) (fun c_9 => ?_)
    · have t_9 : ((k5 : Nat) : Int) ≥ ((vn : Nat) : Int) := toI_ge c_9 (nI_toInt (by omega)) (nI_toInt (by omega))
      refine lv_iload_n hx hb dX12_sayWay_52 rfl (lv_at hl 2 rfl) ?_
      refine W.cut (pc := 62) (fun H locs ls stk => ∃ (j5_i125 : Nat) (j5_F75 : Nat → Int32), (j5_i125 ≤ 30000) ∧  stk = [] ∧ va_P (dC, dI) vwCl (WR a k h0 (fT vi 125 (nI j5_i125)) vj (fT vF 75 j5_F75) vG) H ∧ va_D A (WR a k h0 (fT vi 125 (nI j5_i125)) vj (fT vF 75 j5_F75) vG) ∧ va_S A s.heap H locs ∧ lv_has ls 5 [(0, .ref h0), (1, .int (nI wn)), (2, .int so), (3, .int (nI k5))]) (fun join1 => ?_) ?_
      · refine lv_if_ne (tgt := 62) hx hb dX12_sayWay_53 (by decide) (fun c_53 => ?_) (fun c_53 => ?_)
        · have t_53 : (so).toInt ≠ 0 := toI_ne c_53 rfl (by decide)
          have hl : lv_has _ _ ([(0, .ref h0), (1, .int (nI wn)), (2, .int so), (3, .int (nI k5))]) := lv_sub hl [0, 1, 2, 3] rfl
          exact join1 _ _ _ _ ⟨x4_i125, x4_F75, by first | assumption | omega, rfl, hP, hD, hS, hl⟩
        · have t_53 : (so).toInt = 0 := toI_nne c_53 rfl (by decide)
          refine lv_aload_n hx hb dX12_sayWay_56 rfl (lv_at hl 0 rfl) ?_
          refine lv_bipush (v := 48) hx hb dX12_sayWay_57 (by decide) ?_
          have hFc := allFree hD hS hA
          refine va_callv (va_runV (As := [.int 48]) (rest := []) ⟨hx, hb, hml, hown, hts⟩ (r_X12_say l dC dI a k h0 (fT vi 125 (nI x4_i125)) vj (fT vF 75 x4_F75) vG 48 x4_i125 rfl (by first | with_reducible assumption | decide | omega | rfl | assumption) H.size) (cwV 1 hts gwsRX12_sayWay_0 rfl rfl rfl hd_yX12_say_RX12 (by decide +kernel)) (fz_pre (va_recv hK hP (ci := 12) (q0 := 0) rfl rfl) hP hK hD) rfl rfl hl.1 rfl (lv_room (Nat.le_of_ble_eq_true rfl)) dX12_sayWay_59 (by decide +kernel)) hS (fun q _ h => hFc q h) hFc (fun u t9_ H locs ht hvm hw9 hB9 hz1 hk1 hS => ?_)
          revert u hw9 hB9
          refine fz_p2 ?_
          intro p259 f7559 hw9 hB9
          try dsimp only at hw9 hB9
          have e9i : fT vi 125 (nI p259) = fT (fT vi 125 (nI x4_i125)) 125 (nI p259) := (fT_sm _ _ _ _).symm
          have e9F : fT vF 75 f7559 = fT (fT vF 75 x4_F75) 75 f7559 := (fT_sm _ _ _ _).symm
          have hP := wr_PF e9F (wr_Pi e9i (fz_P ht hB9.1))
          have hD := wr_DF e9F (wr_Di e9i (hB9.2.weaken (fun _ q _ h => hFc q.1 h)))
          clear e9i e9F
          revert hw9
          refine fz_a3 ?_
          intro f59_0 f59_1 f59_2
          have hl : lv_has _ _ ([(0, .ref h0), (1, .int (nI wn)), (2, .int so), (3, .int (nI k5))]) := lv_sub hl [0, 1, 2, 3] rfl
          exact join1 _ _ _ _ ⟨p259, f7559, by first | assumption | omega, rfl, hP, hD, hS, hl⟩
      · rintro H locs ls stk ⟨j5_i125, j5_F75, hj5_i125, rfl, hP, hD, hS, hl⟩
        refine lv_aload_n hx hb dX12_sayWay_62 rfl (lv_at hl 0 rfl) ?_
        refine lv_bipush (v := 32) hx hb dX12_sayWay_63 (by decide) ?_
        have hFc := allFree hD hS hA
        refine va_callv (va_runV (As := [.int 32]) (rest := []) ⟨hx, hb, hml, hown, hts⟩ (r_X12_say l dC dI a k h0 (fT vi 125 (nI j5_i125)) vj (fT vF 75 j5_F75) vG 32 j5_i125 rfl (by first | with_reducible assumption | decide | omega | rfl | assumption) H.size) (cwV 1 hts gwsRX12_sayWay_0 rfl rfl rfl hd_yX12_say_RX12 (by decide +kernel)) (fz_pre (va_recv hK hP (ci := 12) (q0 := 0) rfl rfl) hP hK hD) rfl rfl hl.1 rfl (lv_room (Nat.le_of_ble_eq_true rfl)) dX12_sayWay_65 (by decide +kernel)) hS (fun q _ h => hFc q h) hFc (fun u t9_ H locs ht hvm hw9 hB9 hz1 hk1 hS => ?_)
        revert u hw9 hB9
        refine fz_p2 ?_
        intro p265 f7565 hw9 hB9
        try dsimp only at hw9 hB9
        have e9i : fT vi 125 (nI p265) = fT (fT vi 125 (nI j5_i125)) 125 (nI p265) := (fT_sm _ _ _ _).symm
        have e9F : fT vF 75 f7565 = fT (fT vF 75 j5_F75) 75 f7565 := (fT_sm _ _ _ _).symm
        have hP := wr_PF e9F (wr_Pi e9i (fz_P ht hB9.1))
        have hD := wr_DF e9F (wr_Di e9i (hB9.2.weaken (fun _ q _ h => hFc q.1 h)))
        clear e9i e9F
        revert hw9
        refine fz_a3 ?_
        intro f65_0 f65_1 f65_2
        refine lv_aload_n hx hb dX12_sayWay_68 rfl (lv_at hl 0 rfl) ?_
        refine va_get (D := (dC, dI)) (ci := 12) (v := .ref (a 61)) (C := RX12) (T := TX12) (N := 163) (fs := fM (vS a (fT vi 125 (nI p265)) vj)) hx hb hts iwsRX12_sayWay_in12 hown hK hP 0 rfl rfl 101 (by decide) (hts (.fieldLink RX12 206 "OptimaWorksModel" "waySign" "[I") (by decide +kernel)) (fun _ h9 => h9) rfl dX12_sayWay_69 ?_
        refine lv_iload_n hx hb dX12_sayWay_72 rfl (lv_at hl 1 rfl) ?_
        refine va_iald (cA := k 61) (n := 39) (f := (vF 61)) hx hb hK hP 62 61 (WR_get 61 (by decide)) (TR_get 61 (by decide)) (vp_in_nI (show wn < 39 by omega) (by omega)) dX12_sayWay_73 ?_
        refine lv_topi (fun y2 hy2 => ?_)
        obtain rfl : ((vF 61) wn) = y2 := (hy2.trans (by rw [nI_clamp (by omega)])).symm
        refine lv_istore_n hx hb dX12_sayWay_74 rfl hl (by decide) rfl (fun ls (hl : lv_has ls _ ([(3, .int ((vF 61) wn)), (0, .ref h0), (1, .int (nI wn)), (2, .int so)])) => ?_)
        refine lv_aload_n hx hb dX12_sayWay_75 rfl (lv_at hl 1 rfl) ?_
        refine lv_iload_n hx hb dX12_sayWay_76 rfl (lv_at hl 0 rfl) ?_
        refine W.cut (pc := 97) (fun H locs ls stk => ∃ (j6_s0 : Int32),  stk = [.int j6_s0, .ref h0] ∧ va_P (dC, dI) vwCl (WR a k h0 (fT vi 125 (nI p265)) vj (fT vF 75 f7565) vG) H ∧ va_D A (WR a k h0 (fT vi 125 (nI p265)) vj (fT vF 75 f7565) vG) ∧ va_S A s.heap H locs ∧ lv_has ls 5 [(3, .int ((vF 61) wn)), (0, .ref h0), (1, .int (nI wn)), (2, .int so)]) (fun join2 => ?_) ?_
        · refine lv_if_ne (tgt := 85) hx hb dX12_sayWay_77 (by decide) (fun c_77 => ?_) (fun c_77 => ?_)
          · have t_77 : (((vF 61) wn)).toInt ≠ 0 := toI_ne c_77 rfl (by decide)
            refine lv_iload_n hx hb dX12_sayWay_85 rfl (lv_at hl 0 rfl) ?_
            refine lv_iconst (v := 1) hx hb dX12_sayWay_86 (by decide) ?_
            refine lv_icmp_ne (tgt := 95) hx hb dX12_sayWay_87 (by decide) (fun c_87 => ?_) (fun c_87 => ?_)
            · have t_87 : (((vF 61) wn)).toInt ≠ 1 := toI_ne c_87 rfl (by decide)
              refine lv_bipush (v := 61) hx hb dX12_sayWay_95 (by decide) ?_
              have hl : lv_has _ _ ([(3, .int ((vF 61) wn)), (0, .ref h0), (1, .int (nI wn)), (2, .int so)]) := lv_sub hl [0, 1, 2, 3] rfl
              exact join2 _ _ _ _ ⟨61, rfl, hP, hD, hS, hl⟩
            · have t_87 : (((vF 61) wn)).toInt = 1 := toI_nne c_87 rfl (by decide)
              refine lv_bipush (v := 62) hx hb dX12_sayWay_90 (by decide) ?_
              refine lv_goto (tgt := 97) hx hb dX12_sayWay_92 (by decide) ?_
              have hl : lv_has _ _ ([(3, .int ((vF 61) wn)), (0, .ref h0), (1, .int (nI wn)), (2, .int so)]) := lv_sub hl [0, 1, 2, 3] rfl
              exact join2 _ _ _ _ ⟨62, rfl, hP, hD, hS, hl⟩
          · have t_77 : (((vF 61) wn)).toInt = 0 := toI_nne c_77 rfl (by decide)
            refine lv_bipush (v := 60) hx hb dX12_sayWay_80 (by decide) ?_
            refine lv_goto (tgt := 97) hx hb dX12_sayWay_82 (by decide) ?_
            have hl : lv_has _ _ ([(3, .int ((vF 61) wn)), (0, .ref h0), (1, .int (nI wn)), (2, .int so)]) := lv_sub hl [0, 1, 2, 3] rfl
            exact join2 _ _ _ _ ⟨60, rfl, hP, hD, hS, hl⟩
        · rintro H locs ls stk ⟨j6_s0, rfl, hP, hD, hS, hl⟩
          have hFc := allFree hD hS hA
          refine va_callv (va_runV (As := [.int j6_s0]) (rest := []) ⟨hx, hb, hml, hown, hts⟩ (r_X12_say l dC dI a k h0 (fT vi 125 (nI p265)) vj (fT vF 75 f7565) vG j6_s0 p265 rfl (by first | with_reducible assumption | decide | omega | rfl | assumption) H.size) (cwV 1 hts gwsRX12_sayWay_0 rfl rfl rfl hd_yX12_say_RX12 (by decide +kernel)) (fz_pre (va_recv hK hP (ci := 12) (q0 := 0) rfl rfl) hP hK hD) rfl rfl hl.1 rfl (lv_room (Nat.le_of_ble_eq_true rfl)) dX12_sayWay_97 (by decide +kernel)) hS (fun q _ h => hFc q h) hFc (fun u t9_ H locs ht hvm hw9 hB9 hz1 hk1 hS => ?_)
          revert u hw9 hB9
          refine fz_p2 ?_
          intro p297 f7597 hw9 hB9
          try dsimp only at hw9 hB9
          have e9i : fT vi 125 (nI p297) = fT (fT vi 125 (nI p265)) 125 (nI p297) := (fT_sm _ _ _ _).symm
          have e9F : fT vF 75 f7597 = fT (fT vF 75 f7565) 75 f7597 := (fT_sm _ _ _ _).symm
          have hP := wr_PF e9F (wr_Pi e9i (fz_P ht hB9.1))
          have hD := wr_DF e9F (wr_Di e9i (hB9.2.weaken (fun _ q _ h => hFc q.1 h)))
          clear e9i e9F
          revert hw9
          refine fz_a3 ?_
          intro f97_0 f97_1 f97_2
          refine lv_iload_n hx hb dX12_sayWay_100 rfl (lv_at hl 0 rfl) ?_
          refine lv_iconst (v := 2) hx hb dX12_sayWay_101 (by decide) ?_
          refine W.cut (pc := 111) (fun H locs ls stk => ∃ (j7_i125 : Nat) (j7_F75 : Nat → Int32), (j7_i125 ≤ 30000) ∧  stk = [] ∧ va_P (dC, dI) vwCl (WR a k h0 (fT vi 125 (nI j7_i125)) vj (fT vF 75 j7_F75) vG) H ∧ va_D A (WR a k h0 (fT vi 125 (nI j7_i125)) vj (fT vF 75 j7_F75) vG) ∧ va_S A s.heap H locs ∧ lv_has ls 5 [(3, .int ((vF 61) wn)), (0, .ref h0), (1, .int (nI wn)), (2, .int so)]) (fun join3 => ?_) ?_
          · refine lv_icmp_ge (tgt := 111) hx hb dX12_sayWay_102 (by decide) (fun c_102 => ?_) (fun c_102 => ?_)
            · have t_102 : (((vF 61) wn)).toInt ≥ 2 := toI_ge c_102 rfl (by decide)
              have hl : lv_has _ _ ([(3, .int ((vF 61) wn)), (0, .ref h0), (1, .int (nI wn)), (2, .int so)]) := lv_sub hl [0, 1, 2, 3] rfl
              exact join3 _ _ _ _ ⟨p297, f7597, by first | assumption | omega, rfl, hP, hD, hS, hl⟩
            · have t_102 : ¬ (((vF 61) wn)).toInt ≥ 2 := toI_nge c_102 rfl (by decide)
              refine lv_aload_n hx hb dX12_sayWay_105 rfl (lv_at hl 1 rfl) ?_
              refine lv_bipush (v := 61) hx hb dX12_sayWay_106 (by decide) ?_
              have hFc := allFree hD hS hA
              refine va_callv (va_runV (As := [.int 61]) (rest := []) ⟨hx, hb, hml, hown, hts⟩ (r_X12_say l dC dI a k h0 (fT vi 125 (nI p297)) vj (fT vF 75 f7597) vG 61 p297 rfl (by first | with_reducible assumption | decide | omega | rfl | assumption) H.size) (cwV 1 hts gwsRX12_sayWay_0 rfl rfl rfl hd_yX12_say_RX12 (by decide +kernel)) (fz_pre (va_recv hK hP (ci := 12) (q0 := 0) rfl rfl) hP hK hD) rfl rfl hl.1 rfl (lv_room (Nat.le_of_ble_eq_true rfl)) dX12_sayWay_108 (by decide +kernel)) hS (fun q _ h => hFc q h) hFc (fun u t9_ H locs ht hvm hw9 hB9 hz1 hk1 hS => ?_)
              revert u hw9 hB9
              refine fz_p2 ?_
              intro p2108 f75108 hw9 hB9
              try dsimp only at hw9 hB9
              have e9i : fT vi 125 (nI p2108) = fT (fT vi 125 (nI p297)) 125 (nI p2108) := (fT_sm _ _ _ _).symm
              have e9F : fT vF 75 f75108 = fT (fT vF 75 f7597) 75 f75108 := (fT_sm _ _ _ _).symm
              have hP := wr_PF e9F (wr_Pi e9i (fz_P ht hB9.1))
              have hD := wr_DF e9F (wr_Di e9i (hB9.2.weaken (fun _ q _ h => hFc q.1 h)))
              clear e9i e9F
              revert hw9
              refine fz_a3 ?_
              intro f108_0 f108_1 f108_2
              have hl : lv_has _ _ ([(3, .int ((vF 61) wn)), (0, .ref h0), (1, .int (nI wn)), (2, .int so)]) := lv_sub hl [0, 1, 2, 3] rfl
              exact join3 _ _ _ _ ⟨p2108, f75108, by first | assumption | omega, rfl, hP, hD, hS, hl⟩
          · rintro H locs ls stk ⟨j7_i125, j7_F75, hj7_i125, rfl, hP, hD, hS, hl⟩
            have bs := hM.2.2.1 wn hwn
            refine lv_aload_n hx hb dX12_sayWay_111 rfl (lv_at hl 1 rfl) ?_
            refine lv_bipush (v := 32) hx hb dX12_sayWay_112 (by decide) ?_
            have hFc := allFree hD hS hA
            refine va_callv (va_runV (As := [.int 32]) (rest := []) ⟨hx, hb, hml, hown, hts⟩ (r_X12_say l dC dI a k h0 (fT vi 125 (nI j7_i125)) vj (fT vF 75 j7_F75) vG 32 j7_i125 rfl (by first | with_reducible assumption | decide | omega | rfl | assumption) H.size) (cwV 1 hts gwsRX12_sayWay_0 rfl rfl rfl hd_yX12_say_RX12 (by decide +kernel)) (fz_pre (va_recv hK hP (ci := 12) (q0 := 0) rfl rfl) hP hK hD) rfl rfl hl.1 rfl (lv_room (Nat.le_of_ble_eq_true rfl)) dX12_sayWay_114 (by decide +kernel)) hS (fun q _ h => hFc q h) hFc (fun u t9_ H locs ht hvm hw9 hB9 hz1 hk1 hS => ?_)
            revert u hw9 hB9
            refine fz_p2 ?_
            intro p2114 f75114 hw9 hB9
            try dsimp only at hw9 hB9
            have e9i : fT vi 125 (nI p2114) = fT (fT vi 125 (nI j7_i125)) 125 (nI p2114) := (fT_sm _ _ _ _).symm
            have e9F : fT vF 75 f75114 = fT (fT vF 75 j7_F75) 75 f75114 := (fT_sm _ _ _ _).symm
            have hP := wr_PF e9F (wr_Pi e9i (fz_P ht hB9.1))
            have hD := wr_DF e9F (wr_Di e9i (hB9.2.weaken (fun _ q _ h => hFc q.1 h)))
            clear e9i e9F
            revert hw9
            refine fz_a3 ?_
            intro f114_0 f114_1 f114_2
            refine lv_aload_n hx hb dX12_sayWay_117 rfl (lv_at hl 1 rfl) ?_
            refine lv_aload_n hx hb dX12_sayWay_118 rfl (lv_at hl 1 rfl) ?_
            refine va_get (D := (dC, dI)) (ci := 12) (v := .ref (a 60)) (C := RX12) (T := TX12) (N := 163) (fs := fM (vS a (fT vi 125 (nI p2114)) vj)) hx hb hts iwsRX12_sayWay_in12 hown hK hP 0 rfl rfl 100 (by decide) (hts _ hm_r_X12_sayWay_0) (fun _ h9 => h9) rfl dX12_sayWay_119 ?_
            refine lv_bipush (v := 9) hx hb dX12_sayWay_122 (by decide) ?_
            refine lv_iload_n hx hb dX12_sayWay_124 rfl (lv_at hl 2 rfl) ?_
            refine lv_imul hx hb dX12_sayWay_125 ?_
            refine lv_topi (fun y3 hy3 => ?_)
            obtain rfl : (nI (9 * wn)) = y3 := (hy3.trans (pk_mul 9 wn)).symm
            refine va_iald (cA := k 60) (n := 351) (f := (vF 60)) hx hb hK hP 61 60 (WR_get 60 (by decide)) (TR_get 60 (by decide)) (vp_in_nI (show (9 * wn) < 351 by omega) (by omega)) dX12_sayWay_126 ?_
            refine lv_topi (fun y4 hy4 => ?_)
            obtain rfl : ((vF 60) (9 * wn)) = y4 := (hy4.trans (by rw [nI_clamp (by omega)])).symm
            have hFc := allFree hD hS hA
            refine va_callv (va_runV (As := [.int ((vF 60) (9 * wn))]) (rest := []) ⟨hx, hb, hml, hown, hts⟩ (r_X12_sayNumber l dC dI a k h0 (fT vi 125 (nI p2114)) vj (fT vF 75 f75114) vG ((vF 60) (9 * wn)) p2114 rfl (by first | with_reducible assumption | decide | omega | rfl | assumption) (by omega) H.size) (cwV 1 hts gwsRX12_sayWay_1 rfl rfl rfl hd_yX12_sayNumber_RX12 (by decide +kernel)) (fz_pre (va_recv hK hP (ci := 12) (q0 := 0) rfl rfl) hP hK hD) rfl rfl hl.1 rfl (lv_room (Nat.le_of_ble_eq_true rfl)) dX12_sayWay_127 (by decide +kernel)) hS (fun q _ h => hFc q h) hFc (fun u t9_ H locs ht hvm hw9 hB9 hz1 hk1 hS => ?_)
            revert u hw9 hB9
            refine fz_p2 ?_
            intro p2127 f75127 hw9 hB9
            try dsimp only at hw9 hB9
            have e9i : fT vi 125 (nI p2127) = fT (fT vi 125 (nI p2114)) 125 (nI p2127) := (fT_sm _ _ _ _).symm
            have e9F : fT vF 75 f75127 = fT (fT vF 75 f75114) 75 f75127 := (fT_sm _ _ _ _).symm
            have hP := wr_PF e9F (wr_Pi e9i (fz_P ht hB9.1))
            have hD := wr_DF e9F (wr_Di e9i (hB9.2.weaken (fun _ q _ h => hFc q.1 h)))
            clear e9i e9F
            have f127_0 := hw9
            try dsimp only at f127_0
            refine W.widen (k := 0) (n := 0) (by decide +kernel) (by decide +kernel) ?_
            exact W.vret hx hb hr (fun t9_ ht hW => ⟨⟨(p2127, f75127), rfl, by (try dsimp only); first | assumption | omega, by rw [ht]; exact hP, hD⟩, hS.F ht⟩) hS.2.2 dX12_sayWay_130
    · have t_9 : ¬ ((k5 : Nat) : Int) ≥ ((vn : Nat) : Int) := toI_nge c_9 (nI_toInt (by omega)) (nI_toInt (by omega))
      refine lv_aload_n hx hb dX12_sayWay_12 rfl (lv_at hl 0 rfl) ?_
      refine va_get (D := (dC, dI)) (ci := 12) (v := .ref (a 60)) (C := RX12) (T := TX12) (N := 163) (fs := fM (vS a (fT vi 125 (nI x4_i125)) vj)) hx hb hts iwsRX12_sayWay_in12 hown hK hP 0 rfl rfl 100 (by decide) (hts _ hm_r_X12_sayWay_0) (fun _ h9 => h9) rfl dX12_sayWay_13 ?_
      refine lv_bipush (v := 9) hx hb dX12_sayWay_16 (by decide) ?_
      refine lv_iload_n hx hb dX12_sayWay_18 rfl (lv_at hl 1 rfl) ?_
      refine lv_imul hx hb dX12_sayWay_19 ?_
      refine lv_topi (fun y5 hy5 => ?_)
      obtain rfl : (nI (9 * wn)) = y5 := (hy5.trans (pk_mul 9 wn)).symm
      refine lv_iconst (v := 1) hx hb dX12_sayWay_20 (by decide) ?_
      refine lv_iadd hx hb dX12_sayWay_21 ?_
      refine lv_topi (fun y6 hy6 => ?_)
      obtain rfl : (nI ((9 * wn) + 1)) = y6 := (hy6.trans (nI_add (9 * wn) 1)).symm
      refine lv_iload_n hx hb dX12_sayWay_22 rfl (lv_at hl 3 rfl) ?_
      refine lv_iadd hx hb dX12_sayWay_23 ?_
      refine lv_topi (fun y7 hy7 => ?_)
      obtain rfl : (nI (((9 * wn) + 1) + k5)) = y7 := (hy7.trans (nI_add ((9 * wn) + 1) k5)).symm
      refine va_iald (cA := k 60) (n := 351) (f := (vF 60)) hx hb hK hP 61 60 (WR_get 60 (by decide)) (TR_get 60 (by decide)) (vp_in_nI (show (((9 * wn) + 1) + k5) < 351 by omega) (by omega)) dX12_sayWay_24 ?_
      refine lv_topi (fun y8 hy8 => ?_)
      obtain rfl : ((vF 60) (((9 * wn) + 1) + k5)) = y8 := (hy8.trans (by rw [nI_clamp (by omega)])).symm
      refine lv_istore hx hb dX12_sayWay_25 hl (by decide) rfl (fun ls (hl : lv_has ls _ ([(4, .int ((vF 60) (((9 * wn) + 1) + k5))), (0, .ref h0), (1, .int (nI wn)), (2, .int so), (3, .int (nI k5))])) => ?_)
      refine lv_iload hx hb dX12_sayWay_27 (lv_at hl 0 rfl) ?_
      refine lv_if_ne (tgt := 35) hx hb dX12_sayWay_29 (by decide) (fun c_29 => ?_) (fun c_29 => ?_)
      · have t_29 : (((vF 60) (((9 * wn) + 1) + k5))).toInt ≠ 0 := toI_ne c_29 rfl (by decide)
        have ba := hM.2.2.2.1 wn k5 hwn (by omega)
        refine lv_aload_n hx hb dX12_sayWay_35 rfl (lv_at hl 1 rfl) ?_
        refine lv_iload hx hb dX12_sayWay_36 (lv_at hl 0 rfl) ?_
        refine lv_iconst (v := 1) hx hb dX12_sayWay_38 (by decide) ?_
        refine lv_iload_n hx hb dX12_sayWay_39 rfl (lv_at hl 4 rfl) ?_
        refine lv_iload_n hx hb dX12_sayWay_40 rfl (lv_at hl 3 rfl) ?_
        have hFc := allFree hD hS hA
        refine va_callv (va_runV (As := [.int ((vF 60) (((9 * wn) + 1) + k5)), .int 1, .int (nI k5), .int so]) (rest := []) ⟨hx, hb, hml, hown, hts⟩ (r_X12_sayTerm l dC dI a k h0 (fT vi 125 (nI x4_i125)) vj (fT vF 75 x4_F75) vG ((vF 60) (((9 * wn) + 1) + k5)) 1 (nI k5) so x4_i125 rfl (by first | with_reducible assumption | decide | omega | rfl | assumption) (by omega) (by decide) (by (have e9 := nI_toInt (n := k5) (by omega)); rw [e9]; omega) H.size) (cwV 4 hts gwsRX12_sayWay_2 rfl rfl rfl hd_yX12_sayTerm_RX12 (by decide +kernel)) (fz_pre (va_recv hK hP (ci := 12) (q0 := 0) rfl rfl) hP hK hD) rfl rfl hl.1 rfl (lv_room (Nat.le_of_ble_eq_true rfl)) dX12_sayWay_41 (by decide +kernel)) hS (fun q _ h => hFc q h) hFc (fun u t9_ H locs ht hvm hw9 hB9 hz1 hk1 hS => ?_)
        revert u hw9 hB9
        refine fz_p2 ?_
        intro p241 f7541 hw9 hB9
        try dsimp only at hw9 hB9
        have e9i : fT vi 125 (nI p241) = fT (fT vi 125 (nI x4_i125)) 125 (nI p241) := (fT_sm _ _ _ _).symm
        have e9F : fT vF 75 f7541 = fT (fT vF 75 x4_F75) 75 f7541 := (fT_sm _ _ _ _).symm
        have hP := wr_PF e9F (wr_Pi e9i (fz_P ht hB9.1))
        have hD := wr_DF e9F (wr_Di e9i (hB9.2.weaken (fun _ q _ h => hFc q.1 h)))
        clear e9i e9F
        have f41_0 := hw9
        try dsimp only at f41_0
        refine lv_iconst (v := 1) hx hb dX12_sayWay_44 (by decide) ?_
        refine lv_istore_n hx hb dX12_sayWay_45 rfl hl (by decide) rfl (fun ls (hl : lv_has ls _ ([(2, .int 1), (4, .int ((vF 60) (((9 * wn) + 1) + k5))), (0, .ref h0), (1, .int (nI wn)), (3, .int (nI k5))])) => ?_)
        refine lv_iinc (v := (nI (k5 + 1))) hx hb dX12_sayWay_46 hl (k := 4) rfl (nI_add k5 1) (by decide) rfl (fun ls (hl : lv_has ls _ ([(3, .int (nI (k5 + 1))), (2, .int 1), (4, .int ((vF 60) (((9 * wn) + 1) + k5))), (0, .ref h0), (1, .int (nI wn))])) => ?_)
        refine lv_goto (tgt := 4) hx hb dX12_sayWay_49 (by decide) ?_
        have hl : lv_has _ _ ([(0, .ref h0), (1, .int (nI wn)), (2, .int 1), (3, .int (nI (k5 + 1)))]) := lv_sub hl [3, 4, 1, 0] rfl
        exact ih4 (k5 + 1) 1 p241 f7541 _ _ _ (by omega) (by first | with_reducible assumption | omega | assumption) (by omega) hP hD hS hl
      · have t_29 : (((vF 60) (((9 * wn) + 1) + k5))).toInt = 0 := toI_nne c_29 rfl (by decide)
        refine lv_goto (tgt := 46) hx hb dX12_sayWay_32 (by decide) ?_
        refine lv_iinc (v := (nI (k5 + 1))) hx hb dX12_sayWay_46 hl (k := 4) rfl (nI_add k5 1) (by decide) rfl (fun ls (hl : lv_has ls _ ([(3, .int (nI (k5 + 1))), (4, .int ((vF 60) (((9 * wn) + 1) + k5))), (0, .ref h0), (1, .int (nI wn)), (2, .int so)])) => ?_)
        refine lv_goto (tgt := 4) hx hb dX12_sayWay_49 (by decide) ?_
        have hl : lv_has _ _ ([(0, .ref h0), (1, .int (nI wn)), (2, .int so), (3, .int (nI (k5 + 1)))]) := lv_sub hl [2, 3, 4, 0] rfl
        exact ih4 (k5 + 1) so x4_i125 x4_F75 _ _ _ (by omega) (by first | with_reducible assumption | omega | assumption) (by omega) hP hD hS hl
end
section
theorem Bg.lt {f : Nat → Int32} {m : Nat → Int} (h : Bg f m) {q : Nat} (hq : q < 1100) : (m q).natAbs < 2 ^ 616 := by
  obtain ⟨n, h1, h2, h3, h4, h5, h6⟩ := h q hq
  rw [h5]
  have h7 := lv28_lt h3
  exact Nat.lt_of_lt_of_le h7 (Nat.pow_le_pow_right (by decide) (show 28 * n ≤ 616 by omega))
theorem dig_le {n : Nat} {x : Nat} (hx : 1 ≤ x) (h : x * 8 ^ n < 2 ^ 616) : n < 206 := by
  rcases Nat.lt_or_ge n 206 with h1 | h1
  · exact h1
  · exfalso
    have h2 : 8 ^ 206 ≤ 8 ^ n := Nat.pow_le_pow_right (by decide) h1
    have h3 : 1 * 8 ^ n ≤ x * 8 ^ n := Nat.mul_le_mul_right _ hx
    have h4 : (2 : Nat) ^ 616 ≤ 8 ^ 206 := by decide +kernel
    omega
theorem dig_step {x : Int} {n : Nat} (h : x.natAbs * 8 ^ n < 2 ^ 616) : (x.tdiv 10).natAbs * 8 ^ (n + 1) < 2 ^ 616 := by
  refine Nat.lt_of_le_of_lt ?_ h
  have e : (x.tdiv 10).natAbs = x.natAbs / 10 := Int.natAbs_tdiv x 10
  have e2 : x.natAbs / 10 * (8 ^ n * 8) = x.natAbs / 10 * 8 * 8 ^ n := by rw [Nat.mul_comm (8 ^ n) 8, Nat.mul_assoc]
  rw [e, Nat.pow_succ, e2]
  exact Nat.mul_le_mul_right _ (by omega)
/-- what end does -/
def EndO (tp : Nat) (n : Int32) : Prop := 0 ≤ n.toInt ∧ n.toInt ≤ 20 ∧ (tp : Int) + n.toInt ≤ 4000
end
section
theorem hd_yX12_small_RX12 : yX12_small.cls = RX12 ∧ yX12_small.cls ≠ "java/lang/invoke/MethodHandle" ∧ yX12_small.cls ≠ "java/lang/invoke/VarHandle" ∧ (parseMethodDescriptor yX12_small.desc).map (fun d => d.parameters.length) = some 1 := by decide +kernel
theorem dX12_sayBig_0 : decode cX12_sayBig 0 = .ok (.aload_n 0, 1) := dk_42 (by decide +kernel)
theorem dX12_sayBig_1 : decode cX12_sayBig 1 = .ok (.bipush 10, 2) := dk_16 (by decide +kernel)
theorem dX12_sayBig_3 : decode cX12_sayBig 3 = .ok (.iload_n 1, 1) := dk_27 (by decide +kernel)
theorem dX12_sayBig_4 : decode cX12_sayBig 4 = .ok (.invokevirtual 365, 3) := dk_182 (by decide +kernel)
theorem dX12_sayBig_7 : decode cX12_sayBig 7 = .ok (.aload_n 0, 1) := dk_42 (by decide +kernel)
theorem dX12_sayBig_8 : decode cX12_sayBig 8 = .ok (.bipush 10, 2) := dk_16 (by decide +kernel)
theorem dX12_sayBig_10 : decode cX12_sayBig 10 = .ok (.invokevirtual 353, 3) := dk_182 (by decide +kernel)
theorem dX12_sayBig_13 : decode cX12_sayBig 13 = .ok (.ifCond .ge 9, 3) := dk_156 (by decide +kernel)
theorem dX12_sayBig_16 : decode cX12_sayBig 16 = .ok (.aload_n 0, 1) := dk_42 (by decide +kernel)
theorem dX12_sayBig_17 : decode cX12_sayBig 17 = .ok (.bipush 10, 2) := dk_16 (by decide +kernel)
theorem dX12_sayBig_19 : decode cX12_sayBig 19 = .ok (.invokevirtual 379, 3) := dk_182 (by decide +kernel)
theorem dX12_sayBig_22 : decode cX12_sayBig 22 = .ok (.iconst 0, 1) := dk_3 (by decide +kernel)
theorem dX12_sayBig_23 : decode cX12_sayBig 23 = .ok (.istore_n 2, 1) := dk_61 (by decide +kernel)
theorem dX12_sayBig_24 : decode cX12_sayBig 24 = .ok (.aload_n 0, 1) := dk_42 (by decide +kernel)
theorem dX12_sayBig_25 : decode cX12_sayBig 25 = .ok (.bipush 12, 2) := dk_16 (by decide +kernel)
theorem dX12_sayBig_27 : decode cX12_sayBig 27 = .ok (.ldc2_w 939, 3) := dk_20 (by decide +kernel)
theorem dX12_sayBig_30 : decode cX12_sayBig 30 = .ok (.invokevirtual 369, 3) := dk_182 (by decide +kernel)
theorem dX12_sayBig_33 : decode cX12_sayBig 33 = .ok (.aload_n 0, 1) := dk_42 (by decide +kernel)
theorem dX12_sayBig_34 : decode cX12_sayBig 34 = .ok (.bipush 10, 2) := dk_16 (by decide +kernel)
theorem dX12_sayBig_36 : decode cX12_sayBig 36 = .ok (.invokevirtual 353, 3) := dk_182 (by decide +kernel)
theorem dX12_sayBig_39 : decode cX12_sayBig 39 = .ok (.ifCond .gt 7, 3) := dk_157 (by decide +kernel)
theorem dX12_sayBig_42 : decode cX12_sayBig 42 = .ok (.iload_n 2, 1) := dk_28 (by decide +kernel)
theorem dX12_sayBig_43 : decode cX12_sayBig 43 = .ok (.ifCond .ne 41, 3) := dk_154 (by decide +kernel)
theorem dX12_sayBig_46 : decode cX12_sayBig 46 = .ok (.aload_n 0, 1) := dk_42 (by decide +kernel)
theorem dX12_sayBig_47 : decode cX12_sayBig 47 = .ok (.bipush 11, 2) := dk_16 (by decide +kernel)
theorem dX12_sayBig_49 : decode cX12_sayBig 49 = .ok (.bipush 13, 2) := dk_16 (by decide +kernel)
theorem dX12_sayBig_51 : decode cX12_sayBig 51 = .ok (.bipush 10, 2) := dk_16 (by decide +kernel)
theorem dX12_sayBig_53 : decode cX12_sayBig 53 = .ok (.bipush 12, 2) := dk_16 (by decide +kernel)
theorem dX12_sayBig_55 : decode cX12_sayBig 55 = .ok (.invokevirtual 383, 3) := dk_182 (by decide +kernel)
theorem dX12_sayBig_58 : decode cX12_sayBig 58 = .ok (.aload_n 0, 1) := dk_42 (by decide +kernel)
theorem dX12_sayBig_59 : decode cX12_sayBig 59 = .ok (.getfield 251, 3) := dk_180 (by decide +kernel)
theorem dX12_sayBig_62 : decode cX12_sayBig 62 = .ok (.iload_n 2, 1) := dk_28 (by decide +kernel)
theorem dX12_sayBig_63 : decode cX12_sayBig 63 = .ok (.aload_n 0, 1) := dk_42 (by decide +kernel)
theorem dX12_sayBig_64 : decode cX12_sayBig 64 = .ok (.bipush 13, 2) := dk_16 (by decide +kernel)
theorem dX12_sayBig_66 : decode cX12_sayBig 66 = .ok (.invokevirtual 799, 3) := dk_182 (by decide +kernel)
theorem dX12_sayBig_69 : decode cX12_sayBig 69 = .ok (.iastore, 1) := dk_79 (by decide +kernel)
theorem dX12_sayBig_70 : decode cX12_sayBig 70 = .ok (.iinc 2 1, 3) := dk_132 (by decide +kernel)
theorem dX12_sayBig_73 : decode cX12_sayBig 73 = .ok (.aload_n 0, 1) := dk_42 (by decide +kernel)
theorem dX12_sayBig_74 : decode cX12_sayBig 74 = .ok (.bipush 10, 2) := dk_16 (by decide +kernel)
theorem dX12_sayBig_76 : decode cX12_sayBig 76 = .ok (.bipush 11, 2) := dk_16 (by decide +kernel)
theorem dX12_sayBig_78 : decode cX12_sayBig 78 = .ok (.invokevirtual 365, 3) := dk_182 (by decide +kernel)
theorem dX12_sayBig_81 : decode cX12_sayBig 81 = .ok (.goto (-48), 3) := dk_167 (by decide +kernel)
theorem dX12_sayBig_84 : decode cX12_sayBig 84 = .ok (.iload_n 2, 1) := dk_28 (by decide +kernel)
theorem dX12_sayBig_85 : decode cX12_sayBig 85 = .ok (.iconst 1, 1) := dk_4 (by decide +kernel)
theorem dX12_sayBig_86 : decode cX12_sayBig 86 = .ok (.isub, 1) := dk_100 (by decide +kernel)
theorem dX12_sayBig_87 : decode cX12_sayBig 87 = .ok (.istore_n 3, 1) := dk_62 (by decide +kernel)
theorem dX12_sayBig_88 : decode cX12_sayBig 88 = .ok (.iload_n 3, 1) := dk_29 (by decide +kernel)
theorem dX12_sayBig_89 : decode cX12_sayBig 89 = .ok (.ifCond .lt 22, 3) := dk_155 (by decide +kernel)
theorem dX12_sayBig_92 : decode cX12_sayBig 92 = .ok (.aload_n 0, 1) := dk_42 (by decide +kernel)
theorem dX12_sayBig_93 : decode cX12_sayBig 93 = .ok (.bipush 48, 2) := dk_16 (by decide +kernel)
theorem dX12_sayBig_95 : decode cX12_sayBig 95 = .ok (.aload_n 0, 1) := dk_42 (by decide +kernel)
theorem dX12_sayBig_96 : decode cX12_sayBig 96 = .ok (.getfield 251, 3) := dk_180 (by decide +kernel)
theorem dX12_sayBig_99 : decode cX12_sayBig 99 = .ok (.iload_n 3, 1) := dk_29 (by decide +kernel)
theorem dX12_sayBig_100 : decode cX12_sayBig 100 = .ok (.iaload, 1) := dk_46 (by decide +kernel)
theorem dX12_sayBig_101 : decode cX12_sayBig 101 = .ok (.iadd, 1) := dk_96 (by decide +kernel)
theorem dX12_sayBig_102 : decode cX12_sayBig 102 = .ok (.invokevirtual 936, 3) := dk_182 (by decide +kernel)
theorem dX12_sayBig_105 : decode cX12_sayBig 105 = .ok (.iinc 3 (-1), 3) := dk_132 (by decide +kernel)
theorem dX12_sayBig_108 : decode cX12_sayBig 108 = .ok (.goto (-20), 3) := dk_167 (by decide +kernel)
theorem dX12_sayBig_111 : decode cX12_sayBig 111 = .ok (.return_, 1) := dk_177 (by decide +kernel)
def wsRX12_sayBig : List Cond := .code yX12_sayBig cX12_sayBig 4 none :: ([.constantLong RX12 939 10, .fieldLink RX12 251 "OptimaWorksModel" "digits" "[I"] ++ wsX120 ++ (wsV RX12 365 RX12 yX12_copy wsRX12_copy) ++ (wsV RX12 353 RX12 yX12_sign wsRX12_sign) ++ (wsV RX12 379 RX12 yX12_turn wsRX12_turn) ++ (wsV RX12 369 RX12 yX12_put wsRX12_put) ++ (wsV RX12 383 RX12 yX12_divide wsRX12_divide) ++ (wsV RX12 799 RX12 yX12_small wsRX12_small) ++ (wsV RX12 936 RX12 yX12_say wsRX12_say))
theorem iwsRX12_sayBig_in12 : ∀ w ∈ wsX120, w ∈ wsRX12_sayBig := fun _ h => List.mem_cons_of_mem _ (List.mem_append_left _ (List.mem_append_left _ (List.mem_append_left _ (List.mem_append_left _ (List.mem_append_left _ (List.mem_append_left _ (List.mem_append_left _ (List.mem_append_right _ h))))))))
theorem gwsRX12_sayBig_0 : GoodIn wsRX12_sayBig (wsV RX12 365 RX12 yX12_copy wsRX12_copy) := goodIn_sub (fun _ h => List.mem_cons_of_mem _ (List.mem_append_left _ (List.mem_append_left _ (List.mem_append_left _ (List.mem_append_left _ (List.mem_append_left _ (List.mem_append_left _ (List.mem_append_right _ h)))))))) (gdV (by decide +kernel) gdwsRX12_copy)
theorem gwsRX12_sayBig_1 : GoodIn wsRX12_sayBig (wsV RX12 353 RX12 yX12_sign wsRX12_sign) := goodIn_sub (fun _ h => List.mem_cons_of_mem _ (List.mem_append_left _ (List.mem_append_left _ (List.mem_append_left _ (List.mem_append_left _ (List.mem_append_left _ (List.mem_append_right _ h))))))) (gdV (by decide +kernel) gdwsRX12_sign)
theorem gwsRX12_sayBig_2 : GoodIn wsRX12_sayBig (wsV RX12 379 RX12 yX12_turn wsRX12_turn) := goodIn_sub (fun _ h => List.mem_cons_of_mem _ (List.mem_append_left _ (List.mem_append_left _ (List.mem_append_left _ (List.mem_append_left _ (List.mem_append_right _ h)))))) (gdV (by decide +kernel) gdwsRX12_turn)
theorem gwsRX12_sayBig_3 : GoodIn wsRX12_sayBig (wsV RX12 369 RX12 yX12_put wsRX12_put) := goodIn_sub (fun _ h => List.mem_cons_of_mem _ (List.mem_append_left _ (List.mem_append_left _ (List.mem_append_left _ (List.mem_append_right _ h))))) (gdV (by decide +kernel) gdwsRX12_put)
theorem gwsRX12_sayBig_4 : GoodIn wsRX12_sayBig (wsV RX12 383 RX12 yX12_divide wsRX12_divide) := goodIn_sub (fun _ h => List.mem_cons_of_mem _ (List.mem_append_left _ (List.mem_append_left _ (List.mem_append_right _ h)))) (gdV (by decide +kernel) gdwsRX12_divide)
theorem gwsRX12_sayBig_5 : GoodIn wsRX12_sayBig (wsV RX12 799 RX12 yX12_small wsRX12_small) := goodIn_sub (fun _ h => List.mem_cons_of_mem _ (List.mem_append_left _ (List.mem_append_right _ h))) (gdV (by decide +kernel) gdwsRX12_small)
theorem gwsRX12_sayBig_6 : GoodIn wsRX12_sayBig (wsV RX12 936 RX12 yX12_say wsRX12_say) := goodIn_sub (fun _ h => List.mem_cons_of_mem _ (List.mem_append_right _ h)) (gdV (by decide +kernel) gdwsRX12_say)
theorem gdwsRX12_sayBig : wsRX12_sayBig.all goodWord = true := gdC rfl (gdA (gdA (gdA (gdA (gdA (gdA (gdA (gdA (by decide +kernel : ([.constantLong RX12 939 10, .fieldLink RX12 251 "OptimaWorksModel" "digits" "[I"] : List Cond).all goodWord = true) gdwsX120) (gdV (by decide +kernel) gdwsRX12_copy)) (gdV (by decide +kernel) gdwsRX12_sign)) (gdV (by decide +kernel) gdwsRX12_turn)) (gdV (by decide +kernel) gdwsRX12_put)) (gdV (by decide +kernel) gdwsRX12_divide)) (gdV (by decide +kernel) gdwsRX12_small)) (gdV (by decide +kernel) gdwsRX12_say))
theorem hm_r_X12_sayBig_0 : (.fieldLink RX12 251 "OptimaWorksModel" "digits" "[I" : Cond) ∈ wsRX12_sayBig := by decide +kernel
set_option maxHeartbeats 4000000 in
set_option maxRecDepth 100000 in
/-- sayBig(s) -/
theorem r_X12_sayBig (l : Launch) (dC : Nat → ClassId) (dI : Nat → Nat → Nat) (a : Nat → Nat) (k : Nat → ClassId) (h0 : Nat) (vi : Nat → Int32) (vj : Nat → Int64) (vF : Nat → Nat → Int32) (vG : Nat → Nat → Int64) (sn : Nat) (pn : Nat) (mg : Nat → Int) (hBg : Bg (vF 0) mg) (hpn : vi 125 = nI pn) (hpn2 : pn ≤ 30000) (hsn : sn < 1100) (hs10 : sn < 10 ∨ 13 < sn) (sz : Nat) : Met l yX12_sayBig wsRX12_sayBig ({ frames := 2, cells := 0, slots := 0, locals := 62 }) (va_Pc [.ref h0, .int (nI sn)] (fun U => U.heap.size = sz ∧ va_P (dC, dI) vwCl (WR a k h0 vi vj vF vG) U.heap ∧ va_K (dC, dI) vwCl (tX12 k) U ∧ va_D (fun _ => True) (WR a k h0 vi vj vF vG))) (va_Qv (fun (u : (Nat → Int32) × (Nat → Int32) × (Nat → Int32) × (Nat → Int64) × (Nat → Int32) × (Nat) × (Nat → Int32) × (Nat → Int)) => (Bg (u.1) (u.2.2.2.2.2.2.2)) ∧ ((u.2.2.2.2.2.1) ≤ 30000) ∧ (∀ q, (q < 10 ∨ 13 < q) → (u.2.2.2.2.2.2.2) q = mg q)) (fun (u : (Nat → Int32) × (Nat → Int32) × (Nat → Int32) × (Nat → Int64) × (Nat → Int32) × (Nat) × (Nat → Int32) × (Nat → Int)) t => va_P (dC, dI) vwCl (WR a k h0 (fT vi 125 (nI (u.2.2.2.2.2.1))) vj (fT (fT (fT (fT (fT vF 0 (u.1)) 2 (u.2.1)) 3 (u.2.2.1)) 76 (u.2.2.2.2.1)) 75 (u.2.2.2.2.2.2.1)) (fT vG 1 (u.2.2.2.1))) t.heap ∧ va_D (va_A (WR a k h0 vi vj vF vG) sz) (WR a k h0 (fT vi 125 (nI (u.2.2.2.2.2.1))) vj (fT (fT (fT (fT (fT vF 0 (u.1)) 2 (u.2.1)) 3 (u.2.2.1)) 76 (u.2.2.2.2.1)) 75 (u.2.2.2.2.2.2.1)) (fT vG 1 (u.2.2.2.1)))) (va_A (WR a k h0 vi vj vF vG) sz)) 0 0 (va_A (WR a k h0 vi vj vF vG) sz) := by
  refine Met.ofW (cc := cX12_sayBig) (maxL := 4) (ret := none) (by decide) rfl ?_
  intro p e s m args below meth c s₁ B hml hv
  obtain ⟨rfl, hsz, hP, hK, hD0⟩ := hv
  have hx := B.exec
  have hb := B.bytes
  have hr := B.returns
  have hts := atoms_spec (ws := wsRX12_sayBig) B.pre
  have hown : s.vm.findClass RX12 = some m.cls := findClass_of_methodNamed B.named
  have hlocks := B.notSynchronized
  subst hsz
  have hD := hD0.self (sz := s.heap.size)
  generalize hAe : va_A (WR a k h0 vi vj vF vG) s.heap.size = A at hD ⊢
  have hA : ∀ q : Nat, s.heap.size ≤ q → A q := fun q h => by rw [← hAe]; exact Or.inr h
  have hS : va_S A s.heap s.heap [] := va_S.rf
  have hl := lv_entry ([.ref h0, .int (nI sn)]) (n := 4) (Nat.le_of_ble_eq_true rfl)
  rw [lg_entry_eq]
  generalize (lg_sl ([.ref h0, .int (nI sn)]) ++ List.replicate (4 - (lg_sl ([.ref h0, .int (nI sn)])).length) Slot.unset).toArray = ls at hl ⊢
  have hl : lv_has ls 4 [(0, .ref h0), (1, .int (nI sn))] := hl
  refine lv_aload_n hx hb dX12_sayBig_0 rfl (lv_at hl 0 rfl) ?_
  refine lv_bipush (v := 10) hx hb dX12_sayBig_1 (by decide) ?_
  refine lv_iload_n hx hb dX12_sayBig_3 rfl (lv_at hl 1 rfl) ?_
  have hFc := allFree hD hS hA
  refine va_callv (va_runV (As := [.int 10, .int (nI sn)]) (rest := []) ⟨hx, hb, hml, hown, hts⟩ (b_X12_copy l dC dI a k h0 vi vj vF vG 10 sn mg hBg (mg sn) rfl (by first | with_reducible assumption | decide | omega | rfl | assumption) (by first | with_reducible assumption | decide | omega | rfl | assumption) (by first | with_reducible assumption | decide | omega | rfl | assumption) s.heap.size) (cwV 2 hts gwsRX12_sayBig_0 rfl rfl rfl hd_yX12_copy_RX12 (by decide +kernel)) (fz_pre (va_recv hK hP (ci := 12) (q0 := 0) rfl rfl) hP hK hD) rfl rfl hl.1 rfl (lv_room (Nat.le_of_ble_eq_true rfl)) dX12_sayBig_4 (by decide +kernel)) hS (fun q _ h => hFc q h) hFc (fun g4 t9_ H locs ht hvm hw9 hB9 hz1 hk1 hS => ?_)
  have hP : va_P (dC, dI) vwCl (WR a k h0 vi vj (fT vF 0 g4) vG) H := fz_P ht hB9.1
  have hD := fz_sd hP (hB9.2.weaken (fun _ q _ h => hFc q.1 h)) rfl
  have f4_0 := hw9
  try dsimp only at f4_0
  refine lv_aload_n hx hb dX12_sayBig_7 rfl (lv_at hl 0 rfl) ?_
  refine lv_bipush (v := 10) hx hb dX12_sayBig_8 (by decide) ?_
  have hFc := allFree hD hS hA
  refine va_calli (va_runV (As := [.int 10]) (rest := []) ⟨hx, hb, hml, hown, hts⟩ (b_X12_sign l dC dI a k h0 vi vj (fT vF 0 g4) vG 10 (fT mg 10 (mg sn)) f4_0 (mg sn) (by rw [fT_eq]) (by first | with_reducible assumption | decide | omega | rfl | assumption) H.size) (cwV 1 hts gwsRX12_sayBig_1 rfl rfl rfl hd_yX12_sign_RX12 (by decide +kernel)) (fz_pre (va_recv hK hP (ci := 12) (q0 := 0) rfl rfl) hP hK hD) rfl rfl hl.1 rfl (lv_room (Nat.le_of_ble_eq_true rfl)) dX12_sayBig_10 (by decide +kernel)) hS (fun q _ h => hFc q h) hFc (fun r10 u t9_ H locs ht hvm hw9 hB9 hz1 hk1 hS => ?_)
  have hP : va_P (dC, dI) vwCl (WR a k h0 vi vj (fT vF 0 g4) vG) H := fz_P ht hB9.1
  have hD := fz_sd hP (hB9.2.weaken (fun _ q _ h => hFc q.1 h)) rfl
  have f10_0 := hw9
  try dsimp only at f10_0
  refine W.cut (pc := 22) (fun H locs ls stk => ∃ (j1_F0 : Nat → Int32) (j1_m : Nat → Int) (x10 : Int), (Bg j1_F0 j1_m) ∧ (j1_m 10 = x10) ∧ (0 ≤ x10) ∧ (x10.natAbs < 2 ^ 616) ∧ (∀ q, q ≠ 10 → j1_m q = mg q) ∧  stk = [] ∧ va_P (dC, dI) vwCl (WR a k h0 vi vj (fT vF 0 j1_F0) vG) H ∧ va_D A (WR a k h0 vi vj (fT vF 0 j1_F0) vG) ∧ va_S A s.heap H locs ∧ lv_has ls 4 [(0, .ref h0), (1, .int (nI sn))]) (fun join1 => ?_) ?_
  · refine lv_if_ge (tgt := 22) hx hb dX12_sayBig_13 (by decide) (fun c_13 => ?_) (fun c_13 => ?_)
    · have t_13 : (r10).toInt ≥ 0 := toI_ge c_13 rfl (by decide)
      have hl : lv_has _ _ ([(0, .ref h0), (1, .int (nI sn))]) := lv_sub hl [0, 1] rfl
      exact join1 _ _ _ _ ⟨g4, (fT mg 10 (mg sn)), (mg sn), f4_0, (by rw [fT_eq]), by omega, hBg.lt hsn, fun q hq => by (rw [fT_ne _ _ (by omega)]), rfl, hP, hD, hS, hl⟩
    · have t_13 : ¬ (r10).toInt ≥ 0 := toI_nge c_13 rfl (by decide)
      refine lv_aload_n hx hb dX12_sayBig_16 rfl (lv_at hl 0 rfl) ?_
      refine lv_bipush (v := 10) hx hb dX12_sayBig_17 (by decide) ?_
      have hFc := allFree hD hS hA
      refine va_callv (va_runV (As := [.int 10]) (rest := []) ⟨hx, hb, hml, hown, hts⟩ (b_X12_turn l dC dI a k h0 vi vj (fT vF 0 g4) vG 10 (fT mg 10 (mg sn)) f4_0 (mg sn) (by rw [fT_eq]) (by first | with_reducible assumption | decide | omega | rfl | assumption) H.size) (cwV 1 hts gwsRX12_sayBig_2 rfl rfl rfl hd_yX12_turn_RX12 (by decide +kernel)) (fz_pre (va_recv hK hP (ci := 12) (q0 := 0) rfl rfl) hP hK hD) rfl rfl hl.1 rfl (lv_room (Nat.le_of_ble_eq_true rfl)) dX12_sayBig_19 (by decide +kernel)) hS (fun q _ h => hFc q h) hFc (fun u t9_ H locs ht hvm hw9 hB9 hz1 hk1 hS => ?_)
      have e9F : fT vF 0 (upd g4 (nI (24 * 10)).toNatClampNeg (-(g4 (24 * 10)))) = fT (fT vF 0 g4) 0 (upd g4 (nI (24 * 10)).toNatClampNeg (-(g4 (24 * 10)))) := (fT_sm _ _ _ _).symm
      have hP := wr_PF e9F (fz_P ht hB9.1)
      have hD := wr_DF e9F (hB9.2.weaken (fun _ q _ h => hFc q.1 h))
      clear e9F
      have f19_0 := hw9
      try dsimp only at f19_0
      have f19_0 : Bg (upd g4 (nI (24 * 10)).toNatClampNeg (-(g4 (24 * 10)))) (fT (fT mg 10 (mg sn)) 10 (-(mg sn))) := f19_0
      have hl : lv_has _ _ ([(0, .ref h0), (1, .int (nI sn))]) := lv_sub hl [0, 1] rfl
      exact join1 _ _ _ _ ⟨(upd g4 (nI (24 * 10)).toNatClampNeg (-(g4 (24 * 10)))), (fT (fT mg 10 (mg sn)) 10 (-(mg sn))), (-(mg sn)), f19_0, (by rw [fT_eq]), by omega, by rw [Int.natAbs_neg]; exact hBg.lt hsn, fun q hq => by (rw [fT_ne _ _ (by omega), fT_ne _ _ (by omega)]), rfl, hP, hD, hS, hl⟩
  · rintro H locs ls stk ⟨j1_F0, j1_m, x10, hBj1, v_x10, hx0, hxb, ho, rfl, hP, hD, hS, hl⟩
    refine lv_iconst (v := 0) hx hb dX12_sayBig_22 (by decide) ?_
    refine lv_istore_n hx hb dX12_sayBig_23 rfl hl (by decide) rfl (fun ls (hl : lv_has ls _ ([(2, .int 0), (0, .ref h0), (1, .int (nI sn))])) => ?_)
    refine lv_aload_n hx hb dX12_sayBig_24 rfl (lv_at hl 1 rfl) ?_
    refine lv_bipush (v := 12) hx hb dX12_sayBig_25 (by decide) ?_
    refine lv_ldc2 (v := 10) hx hb hown (hts (.constantLong RX12 939 10) (by decide +kernel)) dX12_sayBig_27 ?_
    have hFc := allFree hD hS hA
    refine va_callv (va_runV (As := [.int 12, .long 10]) (rest := []) ⟨hx, hb, hml, hown, hts⟩ (b_X12_put l dC dI a k h0 vi vj (fT vF 0 j1_F0) vG 12 10 10 j1_m hBj1 (by first | with_reducible assumption | decide | omega | rfl | assumption) (by decide) (by first | with_reducible assumption | decide | omega | rfl | assumption) H.size) (cwV 2 hts gwsRX12_sayBig_3 rfl rfl rfl hd_yX12_put_RX12 (by decide +kernel)) (fz_pre (va_recv hK hP (ci := 12) (q0 := 0) rfl rfl) hP hK hD) rfl rfl hl.1 rfl (lv_room (Nat.le_of_ble_eq_true rfl)) dX12_sayBig_30 (by decide +kernel)) hS (fun q _ h => hFc q h) hFc (fun g30 t9_ H locs ht hvm hw9 hB9 hz1 hk1 hS => ?_)
    have e9F : fT vF 0 g30 = fT (fT vF 0 j1_F0) 0 g30 := (fT_sm _ _ _ _).symm
    have hP := wr_PF e9F (fz_P ht hB9.1)
    have hD := wr_DF e9F (hB9.2.weaken (fun _ q _ h => hFc q.1 h))
    clear e9F
    have f30_0 := hw9
    try dsimp only at f30_0
    have e9 : fT (fT (fT (fT vF 0 g30) 2 (vF 2)) 3 (vF 3)) 76 (vF 76) = fT vF 0 g30 := Eq.trans (mv_2 rfl) (Eq.trans (id_3 rfl) (Eq.trans (mv_1 rfl) (Eq.trans (id_2 rfl) (id_1 rfl))))
    have hP := wr_PF e9 hP
    have hD := wr_DF e9 hD
    clear e9
    have e9 : fT vG 1 (vG 1) = vG := by funext q9; by_cases h9_1 : q9 = 1; (subst h9_1; exact (fT_eq _ _ _).trans (Eq.trans (by first | with_reducible rfl | with_reducible assumption | (symm; with_reducible assumption) | rfl | assumption | (symm; assumption) | (subst_vars; rfl)) (Eq.refl _).symm)); exact (fT_ne _ _ h9_1).trans (Eq.refl _).symm
    have hP := wr_PG e9 hP
    have hD := wr_DG e9 hD
    clear e9
    have hl : lv_has _ _ ([(0, .ref h0), (2, .int (nI 0))]) := lv_sub hl [1, 0] rfl
    refine (fun (loop : ∀ (n9 : Nat) (n5 : Nat) (x3_F0 : Nat → Int32) (x3_F2 : Nat → Int32) (x3_F3 : Nat → Int32) (x3_F76 : Nat → Int32) (x3_G1 : Nat → Int64) (m4 : Nat → Int) (x10a : Int) (H : Heap) (locs : List Loc) (ls : Array Slot), (Bg x3_F0 m4) → (m4 12 = 10) → (m4 10 = x10a) → (n5 ≤ 206) → (0 ≤ x10a) → (x10a.natAbs * 8 ^ n5 < 2 ^ 616) → (∀ q, (q < 10 ∨ 13 < q) → m4 q = mg q) →  (206 < n5 + n9) → va_P (dC, dI) vwCl (WR a k h0 vi vj (fT (fT (fT (fT vF 0 x3_F0) 2 x3_F2) 3 x3_F3) 76 x3_F76) (fT vG 1 x3_G1)) H → va_D A (WR a k h0 vi vj (fT (fT (fT (fT vF 0 x3_F0) 2 x3_F2) 3 x3_F3) 76 x3_F76) (fT vG 1 x3_G1)) → va_S A s.heap H locs → lv_has ls 4 [(0, .ref h0), (2, .int (nI n5))] → W p l e _ s m _ below meth c H locs 0 0 _ (F0 m 33 ls [])) => loop (207) 0 g30 (vF 2) (vF 3) (vF 76) (vG 1) (fT j1_m 12 10) x10 _ _ _ (f30_0) ((by rw [fT_eq])) ((by rw [fT_ne _ _ (by omega), v_x10])) (by omega) (hx0) (by rw [Nat.pow_zero, Nat.mul_one]; exact hxb) (fun q hq => by (rw [fT_ne _ _ (by omega)]); exact ho q (by omega)) (by omega) hP hD hS hl) ?_
    intro n9
    induction n9 with
    | zero => intro n5 x3_F0 x3_F2 x3_F3 x3_F76 x3_G1 m4 x10a H locs ls hB4 h12 v_x10a hn5 hx1 hbd ho4 hf9; exact False.elim (by omega)
    | succ n9 ih33 =>
      intro n5 x3_F0 x3_F2 x3_F3 x3_F76 x3_G1 m4 x10a H locs ls hB4 h12 v_x10a hn5 hx1 hbd ho4 hf33 hP hD hS hl
      refine lv_aload_n hx hb dX12_sayBig_33 rfl (lv_at hl 0 rfl) ?_
      refine lv_bipush (v := 10) hx hb dX12_sayBig_34 (by decide) ?_
      have hFc := allFree hD hS hA
      refine va_calli (va_runV (As := [.int 10]) (rest := []) ⟨hx, hb, hml, hown, hts⟩ (b_X12_sign l dC dI a k h0 vi vj (fT (fT (fT (fT vF 0 x3_F0) 2 x3_F2) 3 x3_F3) 76 x3_F76) (fT vG 1 x3_G1) 10 m4 hB4 x10a (by rw [v_x10a]) (by first | with_reducible assumption | decide | omega | rfl | assumption) H.size) (cwV 1 hts gwsRX12_sayBig_1 rfl rfl rfl hd_yX12_sign_RX12 (by decide +kernel)) (fz_pre (va_recv hK hP (ci := 12) (q0 := 0) rfl rfl) hP hK hD) rfl rfl hl.1 rfl (lv_room (Nat.le_of_ble_eq_true rfl)) dX12_sayBig_36 (by decide +kernel)) hS (fun q _ h => hFc q h) hFc (fun r36 u t9_ H locs ht hvm hw9 hB9 hz1 hk1 hS => ?_)
      have hP : va_P (dC, dI) vwCl (WR a k h0 vi vj (fT (fT (fT (fT vF 0 x3_F0) 2 x3_F2) 3 x3_F3) 76 x3_F76) (fT vG 1 x3_G1)) H := fz_P ht hB9.1
      have hD := fz_sd hP (hB9.2.weaken (fun _ q _ h => hFc q.1 h)) rfl
      have f36_0 := hw9
      try dsimp only at f36_0
      refine lv_if_gt (tgt := 46) hx hb dX12_sayBig_39 (by decide) (fun c_39 => ?_) (fun c_39 => ?_)
      · have t_39 : (r36).toInt > 0 := toI_gt c_39 rfl (by decide)
        have hn6 : n5 < 206 := by exact dig_le (show 1 ≤ x10a.natAbs by omega) hbd
        refine lv_aload_n hx hb dX12_sayBig_46 rfl (lv_at hl 0 rfl) ?_
        refine lv_bipush (v := 11) hx hb dX12_sayBig_47 (by decide) ?_
        refine lv_bipush (v := 13) hx hb dX12_sayBig_49 (by decide) ?_
        refine lv_bipush (v := 10) hx hb dX12_sayBig_51 (by decide) ?_
        refine lv_bipush (v := 12) hx hb dX12_sayBig_53 (by decide) ?_
        have hFc := allFree hD hS hA
        refine va_callv (va_runV (As := [.int 11, .int 13, .int 10, .int 12]) (rest := []) ⟨hx, hb, hml, hown, hts⟩ (b_X12_divide l dC dI a k h0 vi vj (fT (fT (fT (fT vF 0 x3_F0) 2 x3_F2) 3 x3_F3) 76 x3_F76) (fT vG 1 x3_G1) 11 13 10 12 m4 hB4 x10a 10 (by rw [v_x10a]) (by rw [h12]) (by first | with_reducible assumption | decide | omega | rfl | assumption) (by first | with_reducible assumption | decide | omega | rfl | assumption) (by first | with_reducible assumption | decide | omega | rfl | assumption) (by first | with_reducible assumption | decide | omega | rfl | assumption) (by first | with_reducible assumption | decide | omega | rfl | assumption) (by first | with_reducible assumption | decide | omega | rfl | assumption) (by decide) H.size) (cwV 4 hts gwsRX12_sayBig_4 rfl rfl rfl hd_yX12_divide_RX12 (by decide +kernel)) (fz_pre (va_recv hK hP (ci := 12) (q0 := 0) rfl rfl) hP hK hD) rfl rfl hl.1 rfl (lv_room (Nat.le_of_ble_eq_true rfl)) dX12_sayBig_55 (by decide +kernel)) hS (fun q _ h => hFc q h) hFc (fun u t9_ H locs ht hvm hw9 hB9 hz1 hk1 hS => ?_)
        revert u hw9 hB9
        refine fz_p4 ?_
        intro g55 f2w55 f3w55 gs55 hw9 hB9
        try dsimp only at hw9 hB9
        have e9F : fT (fT (fT (fT vF 0 g55) 2 f2w55) 3 f3w55) 76 x3_F76 = fT (fT (fT (fT (fT (fT (fT vF 0 x3_F0) 2 x3_F2) 3 x3_F3) 76 x3_F76) 2 f2w55) 3 f3w55) 0 g55 := Eq.symm (Eq.trans (congrArg (fun g9 => fT g9 0 g55) (Eq.trans (congrArg (fun g9 => fT g9 3 f3w55) (up_2 rfl)) (up_1 rfl))) (up_3 rfl))
        have e9G : fT vG 1 gs55 = fT (fT vG 1 x3_G1) 1 gs55 := (fT_sm _ _ _ _).symm
        have hP := wr_PG e9G (wr_PF e9F (fz_P ht hB9.1))
        have hD := wr_DG e9G (wr_DF e9F (hB9.2.weaken (fun _ q _ h => hFc q.1 h)))
        clear e9F e9G
        have f55_0 := hw9
        try dsimp only at f55_0
        refine lv_aload_n hx hb dX12_sayBig_58 rfl (lv_at hl 0 rfl) ?_
        refine va_get (D := (dC, dI)) (ci := 12) (v := .ref (a 76)) (C := RX12) (T := TX12) (N := 163) (fs := fM (vS a vi vj)) hx hb hts iwsRX12_sayBig_in12 hown hK hP 0 rfl rfl 126 (by decide) (hts _ hm_r_X12_sayBig_0) (fun _ h9 => h9) rfl dX12_sayBig_59 ?_
        refine lv_iload_n hx hb dX12_sayBig_62 rfl (lv_at hl 1 rfl) ?_
        refine lv_aload_n hx hb dX12_sayBig_63 rfl (lv_at hl 0 rfl) ?_
        refine lv_bipush (v := 13) hx hb dX12_sayBig_64 (by decide) ?_
        have hFc := allFree hD hS hA
        refine va_calli (va_runV (As := [.int 13]) (rest := [.int (nI n5), .ref (a 76)]) ⟨hx, hb, hml, hown, hts⟩ (r_X12_small l dC dI a k h0 vi vj (fT (fT (fT (fT vF 0 g55) 2 f2w55) 3 f3w55) 76 x3_F76) (fT vG 1 gs55) 13 (fT (fT m4 11 ((x10a).tdiv 10)) 13 ((x10a).tmod 10)) f55_0 ((x10a).tmod 10) (by rw [fT_eq]) (by first | with_reducible assumption | decide | omega | rfl | assumption) H.size) (cwV 1 hts gwsRX12_sayBig_5 rfl rfl rfl hd_yX12_small_RX12 (by decide +kernel)) (fz_pre (va_recv hK hP (ci := 12) (q0 := 0) rfl rfl) hP hK hD) rfl rfl hl.1 rfl (lv_room (Nat.le_of_ble_eq_true rfl)) dX12_sayBig_66 (by decide +kernel)) hS (fun q _ h => hFc q h) hFc (fun r66 u t9_ H locs ht hvm hw9 hB9 hz1 hk1 hS => ?_)
        have hP : va_P (dC, dI) vwCl (WR a k h0 vi vj (fT (fT (fT (fT vF 0 g55) 2 f2w55) 3 f3w55) 76 x3_F76) (fT vG 1 gs55)) H := fz_P ht hB9.1
        have hD := fz_sd hP (hB9.2.weaken (fun _ q _ h => hFc q.1 h)) rfl
        revert hw9
        refine fz_a2 ?_
        intro f66_0 f66_1
        refine va_iast (cA := k 76) (n := 250) (f := x3_F76) hx hb hK hP hD hS 77 76 (WR_get 76 (by decide)) (TR_get 76 (by decide)) (vp_in_nI (show n5 < 250 by omega) (by omega)) dX12_sayBig_69 (fun H locs hP hD hS => ?_)
        have e9 : fT (fT (fT (fT vF 0 g55) 2 f2w55) 3 f3w55) 76 (upd x3_F76 ((nI n5)).toNatClampNeg r66) = fT (fT (fT (fT (fT vF 0 g55) 2 f2w55) 3 f3w55) 76 x3_F76) 76 (upd x3_F76 ((nI n5)).toNatClampNeg r66) := (fT_sm _ _ _ _).symm
        have hP := wr_PF e9 (fz_w (WR_F 76 (by decide) _ rfl) hP)
        have hD := wr_DF e9 (fz_wD (WR_F 76 (by decide) _ rfl) hD)
        clear e9
        refine lv_iinc (v := (nI (n5 + 1))) hx hb dX12_sayBig_70 hl (k := 1) rfl (nI_add n5 1) (by decide) rfl (fun ls (hl : lv_has ls _ ([(2, .int (nI (n5 + 1))), (0, .ref h0)])) => ?_)
        refine lv_aload_n hx hb dX12_sayBig_73 rfl (lv_at hl 1 rfl) ?_
        refine lv_bipush (v := 10) hx hb dX12_sayBig_74 (by decide) ?_
        refine lv_bipush (v := 11) hx hb dX12_sayBig_76 (by decide) ?_
        have hFc := allFree hD hS hA
        refine va_callv (va_runV (As := [.int 10, .int 11]) (rest := []) ⟨hx, hb, hml, hown, hts⟩ (b_X12_copy l dC dI a k h0 vi vj (fT (fT (fT (fT vF 0 g55) 2 f2w55) 3 f3w55) 76 (upd x3_F76 ((nI n5)).toNatClampNeg r66)) (fT vG 1 gs55) 10 11 (fT (fT m4 11 ((x10a).tdiv 10)) 13 ((x10a).tmod 10)) f55_0 ((x10a).tdiv 10) (by rw [fT_ne _ _ (by omega), fT_eq]) (by first | with_reducible assumption | decide | omega | rfl | assumption) (by first | with_reducible assumption | decide | omega | rfl | assumption) (by first | with_reducible assumption | decide | omega | rfl | assumption) H.size) (cwV 2 hts gwsRX12_sayBig_0 rfl rfl rfl hd_yX12_copy_RX12 (by decide +kernel)) (fz_pre (va_recv hK hP (ci := 12) (q0 := 0) rfl rfl) hP hK hD) rfl rfl hl.1 rfl (lv_room (Nat.le_of_ble_eq_true rfl)) dX12_sayBig_78 (by decide +kernel)) hS (fun q _ h => hFc q h) hFc (fun g78 t9_ H locs ht hvm hw9 hB9 hz1 hk1 hS => ?_)
        have e9F : fT (fT (fT (fT vF 0 g78) 2 f2w55) 3 f3w55) 76 (upd x3_F76 ((nI n5)).toNatClampNeg r66) = fT (fT (fT (fT (fT vF 0 g55) 2 f2w55) 3 f3w55) 76 (upd x3_F76 ((nI n5)).toNatClampNeg r66)) 0 g78 := ((fT_sw _ _ _ (Nat.ne_of_beq_eq_false rfl)).trans (congrArg (fun g9 => fT g9 76 (upd x3_F76 ((nI n5)).toNatClampNeg r66)) ((fT_sw _ _ _ (Nat.ne_of_beq_eq_false rfl)).trans (congrArg (fun g9 => fT g9 3 f3w55) ((fT_sw _ _ _ (Nat.ne_of_beq_eq_false rfl)).trans (congrArg (fun g9 => fT g9 2 f2w55) (fT_sm _ _ _ _))))))).symm
        have hP := wr_PF e9F (fz_P ht hB9.1)
        have hD := wr_DF e9F (hB9.2.weaken (fun _ q _ h => hFc q.1 h))
        clear e9F
        have f78_0 := hw9
        try dsimp only at f78_0
        refine lv_goto (tgt := 33) hx hb dX12_sayBig_81 (by decide) ?_
        have hl : lv_has _ _ ([(0, .ref h0), (2, .int (nI (n5 + 1)))]) := lv_sub hl [1, 0] rfl
        exact ih33 (n5 + 1) g78 f2w55 f3w55 (upd x3_F76 ((nI n5)).toNatClampNeg r66) gs55 (fT (fT (fT m4 11 ((x10a).tdiv 10)) 13 ((x10a).tmod 10)) 10 ((x10a).tdiv 10)) ((x10a).tdiv 10) _ _ _ (f78_0) ((by rw [fT_ne _ _ (by omega), fT_ne _ _ (by omega), fT_ne _ _ (by omega), h12])) ((by rw [fT_eq])) (by omega) (Int.tdiv_nonneg hx1 (by decide)) (dig_step hbd) (fun q hq => by (rw [fT_ne _ _ (by omega), fT_ne _ _ (by omega), fT_ne _ _ (by omega)]); exact ho4 q hq) (by omega) hP hD hS hl
      · have t_39 : ¬ (r36).toInt > 0 := toI_ngt c_39 rfl (by decide)
        refine lv_iload_n hx hb dX12_sayBig_42 rfl (lv_at hl 1 rfl) ?_
        refine lv_if_ne (tgt := 84) hx hb dX12_sayBig_43 (by decide) (fun c_43 => ?_) (fun c_43 => ?_)
        · have t_43 : ((n5 : Nat) : Int) ≠ 0 := toI_ne c_43 (nI_toInt (by omega)) (by decide)
          refine lv_iload_n hx hb dX12_sayBig_84 rfl (lv_at hl 1 rfl) ?_
          refine lv_iconst (v := 1) hx hb dX12_sayBig_85 (by decide) ?_
          refine lv_isub hx hb dX12_sayBig_86 ?_
          refine lv_istore_n hx hb dX12_sayBig_87 rfl hl (by decide) rfl (fun ls (hl : lv_has ls _ ([(3, .int ((nI n5) - 1)), (0, .ref h0), (2, .int (nI n5))])) => ?_)
          have e9 : fT vi 125 (nI pn) = vi := by funext q9; by_cases h9_125 : q9 = 125; (subst h9_125; exact (fT_eq _ _ _).trans (Eq.trans (by first | with_reducible rfl | with_reducible assumption | (symm; with_reducible assumption) | rfl | assumption | (symm; assumption) | (subst_vars; rfl)) (Eq.refl _).symm)); exact (fT_ne _ _ h9_125).trans (Eq.refl _).symm
          have hP := wr_Pi e9 hP
          have hD := wr_Di e9 hD
          clear e9
          have e9 : fT (fT (fT (fT (fT vF 0 x3_F0) 2 x3_F2) 3 x3_F3) 76 x3_F76) 75 (vF 75) = fT (fT (fT (fT vF 0 x3_F0) 2 x3_F2) 3 x3_F3) 76 x3_F76 := id_4 rfl
          have hP := wr_PF e9 hP
          have hD := wr_DF e9 hD
          clear e9
          have hl : lv_has _ _ ([(0, .ref h0), (3, .int ((nI n5) - 1))]) := lv_sub hl [1, 0] rfl
          refine (fun (loop : ∀ (n9 : Nat) (kq : Int32) (kk1 : Nat) (x4_i125 : Nat) (x4_F75 : Nat → Int32) (H : Heap) (locs : List Loc) (ls : Array Slot), ((kq).toInt = (kk1 : Int) - 1) → (kk1 ≤ n5) → (x4_i125 ≤ 30000) →  (kk1 < n9) → va_P (dC, dI) vwCl (WR a k h0 (fT vi 125 (nI x4_i125)) vj (fT (fT (fT (fT (fT vF 0 x3_F0) 2 x3_F2) 3 x3_F3) 76 x3_F76) 75 x4_F75) (fT vG 1 x3_G1)) H → va_D A (WR a k h0 (fT vi 125 (nI x4_i125)) vj (fT (fT (fT (fT (fT vF 0 x3_F0) 2 x3_F2) 3 x3_F3) 76 x3_F76) 75 x4_F75) (fT vG 1 x3_G1)) → va_S A s.heap H locs → lv_has ls 4 [(0, .ref h0), (3, .int kq)] → W p l e _ s m _ below meth c H locs 0 0 _ (F0 m 88 ls [])) => loop (n5 + 1) ((nI n5) - 1) n5 pn (vF 75) _ _ _ (by exact pk_sub_toInt (a := n5) (b := 1) (by omega) (by omega)) (by omega) (by first | with_reducible assumption | omega | assumption) (by omega) hP hD hS hl) ?_
          intro n9
          induction n9 with
          | zero => intro kq kk1 x4_i125 x4_F75 H locs ls hkq hkn hx4_i125 hf9; exact False.elim (by omega)
          | succ n9 ih88_1 =>
            intro kq kk1 x4_i125 x4_F75 H locs ls hkq hkn hx4_i125 hf88_1 hP hD hS hl
            refine lv_iload_n hx hb dX12_sayBig_88 rfl (lv_at hl 1 rfl) ?_
            refine lv_if_lt (tgt := 111) hx hb dX12_sayBig_89 (by decide) (fun c_89 => ?_) (fun c_89 => ?_)
            · have t_89 : (kq).toInt < 0 := toI_lt c_89 rfl (by decide)
              refine W.widen (k := 0) (n := 0) (by decide +kernel) (by decide +kernel) ?_
              exact W.vret hx hb hr (fun t9_ ht hW => ⟨⟨(x3_F0, x3_F2, x3_F3, x3_G1, x3_F76, x4_i125, x4_F75, m4), rfl, by (try dsimp only); exact ⟨hB4, by first | assumption | omega, ho4⟩, by rw [ht]; exact hP, hD⟩, hS.F ht⟩) hS.2.2 dX12_sayBig_111
            · have t_89 : ¬ (kq).toInt < 0 := toI_nlt c_89 rfl (by decide)
              obtain ⟨kk, h_kk, rfl⟩ := of_toInt (x := kq) (k := 250) (by omega) (by omega)
              have e_kk : (nI kk).toInt = (kk : Int) := nI_toInt (by omega)
              refine lv_aload_n hx hb dX12_sayBig_92 rfl (lv_at hl 0 rfl) ?_
              refine lv_bipush (v := 48) hx hb dX12_sayBig_93 (by decide) ?_
              refine lv_aload_n hx hb dX12_sayBig_95 rfl (lv_at hl 0 rfl) ?_
              refine va_get (D := (dC, dI)) (ci := 12) (v := .ref (a 76)) (C := RX12) (T := TX12) (N := 163) (fs := fM (vS a (fT vi 125 (nI x4_i125)) vj)) hx hb hts iwsRX12_sayBig_in12 hown hK hP 0 rfl rfl 126 (by decide) (hts _ hm_r_X12_sayBig_0) (fun _ h9 => h9) rfl dX12_sayBig_96 ?_
              refine lv_iload_n hx hb dX12_sayBig_99 rfl (lv_at hl 1 rfl) ?_
              refine va_iald (cA := k 76) (n := 250) (f := x3_F76) hx hb hK hP 77 76 (WR_get 76 (by decide)) (TR_get 76 (by decide)) (vp_in_nI (show kk < 250 by omega) (by omega)) dX12_sayBig_100 ?_
              refine lv_topi (fun y1 hy1 => ?_)
              obtain rfl : (x3_F76 kk) = y1 := (hy1.trans (by rw [nI_clamp (by omega)])).symm
              refine lv_iadd hx hb dX12_sayBig_101 ?_
              have hFc := allFree hD hS hA
              refine va_callv (va_runV (As := [.int (48 + (x3_F76 kk))]) (rest := []) ⟨hx, hb, hml, hown, hts⟩ (r_X12_say l dC dI a k h0 (fT vi 125 (nI x4_i125)) vj (fT (fT (fT (fT (fT vF 0 x3_F0) 2 x3_F2) 3 x3_F3) 76 x3_F76) 75 x4_F75) (fT vG 1 x3_G1) (48 + (x3_F76 kk)) x4_i125 rfl (by first | with_reducible assumption | decide | omega | rfl | assumption) H.size) (cwV 1 hts gwsRX12_sayBig_6 rfl rfl rfl hd_yX12_say_RX12 (by decide +kernel)) (fz_pre (va_recv hK hP (ci := 12) (q0 := 0) rfl rfl) hP hK hD) rfl rfl hl.1 rfl (lv_room (Nat.le_of_ble_eq_true rfl)) dX12_sayBig_102 (by decide +kernel)) hS (fun q _ h => hFc q h) hFc (fun u t9_ H locs ht hvm hw9 hB9 hz1 hk1 hS => ?_)
              revert u hw9 hB9
              refine fz_p2 ?_
              intro p2102 f75102 hw9 hB9
              try dsimp only at hw9 hB9
              have e9i : fT vi 125 (nI p2102) = fT (fT vi 125 (nI x4_i125)) 125 (nI p2102) := (fT_sm _ _ _ _).symm
              have e9F : fT (fT (fT (fT (fT vF 0 x3_F0) 2 x3_F2) 3 x3_F3) 76 x3_F76) 75 f75102 = fT (fT (fT (fT (fT (fT vF 0 x3_F0) 2 x3_F2) 3 x3_F3) 76 x3_F76) 75 x4_F75) 75 f75102 := (fT_sm _ _ _ _).symm
              have hP := wr_PF e9F (wr_Pi e9i (fz_P ht hB9.1))
              have hD := wr_DF e9F (wr_Di e9i (hB9.2.weaken (fun _ q _ h => hFc q.1 h)))
              clear e9i e9F
              revert hw9
              refine fz_a3 ?_
              intro f102_0 f102_1 f102_2
              refine lv_iinc (v := ((nI kk) + (-1))) hx hb dX12_sayBig_105 hl (k := 1) rfl rfl (by decide) rfl (fun ls (hl : lv_has ls _ ([(3, .int ((nI kk) + (-1))), (0, .ref h0)])) => ?_)
              refine lv_goto (tgt := 88) hx hb dX12_sayBig_108 (by decide) ?_
              have hl : lv_has _ _ ([(0, .ref h0), (3, .int ((nI kk) + (-1)))]) := lv_sub hl [1, 0] rfl
              exact ih88_1 ((nI kk) + (-1)) (kk1 - 1) p2102 f75102 _ _ _ (by rw [m1T (by omega)]; omega) (by omega) (by first | with_reducible assumption | omega | assumption) (by omega) hP hD hS hl
        · have t_43 : ((n5 : Nat) : Int) = 0 := toI_nne c_43 (nI_toInt (by omega)) (by decide)
          have hn6 : n5 < 206 := by omega
          refine lv_aload_n hx hb dX12_sayBig_46 rfl (lv_at hl 0 rfl) ?_
          refine lv_bipush (v := 11) hx hb dX12_sayBig_47 (by decide) ?_
          refine lv_bipush (v := 13) hx hb dX12_sayBig_49 (by decide) ?_
          refine lv_bipush (v := 10) hx hb dX12_sayBig_51 (by decide) ?_
          refine lv_bipush (v := 12) hx hb dX12_sayBig_53 (by decide) ?_
          have hFc := allFree hD hS hA
          refine va_callv (va_runV (As := [.int 11, .int 13, .int 10, .int 12]) (rest := []) ⟨hx, hb, hml, hown, hts⟩ (b_X12_divide l dC dI a k h0 vi vj (fT (fT (fT (fT vF 0 x3_F0) 2 x3_F2) 3 x3_F3) 76 x3_F76) (fT vG 1 x3_G1) 11 13 10 12 m4 hB4 x10a 10 (by rw [v_x10a]) (by rw [h12]) (by first | with_reducible assumption | decide | omega | rfl | assumption) (by first | with_reducible assumption | decide | omega | rfl | assumption) (by first | with_reducible assumption | decide | omega | rfl | assumption) (by first | with_reducible assumption | decide | omega | rfl | assumption) (by first | with_reducible assumption | decide | omega | rfl | assumption) (by first | with_reducible assumption | decide | omega | rfl | assumption) (by decide) H.size) (cwV 4 hts gwsRX12_sayBig_4 rfl rfl rfl hd_yX12_divide_RX12 (by decide +kernel)) (fz_pre (va_recv hK hP (ci := 12) (q0 := 0) rfl rfl) hP hK hD) rfl rfl hl.1 rfl (lv_room (Nat.le_of_ble_eq_true rfl)) dX12_sayBig_55 (by decide +kernel)) hS (fun q _ h => hFc q h) hFc (fun u t9_ H locs ht hvm hw9 hB9 hz1 hk1 hS => ?_)
          revert u hw9 hB9
          refine fz_p4 ?_
          intro g55_1 f2w55_1 f3w55_1 gs55_1 hw9 hB9
          try dsimp only at hw9 hB9
          have e9F : fT (fT (fT (fT vF 0 g55_1) 2 f2w55_1) 3 f3w55_1) 76 x3_F76 = fT (fT (fT (fT (fT (fT (fT vF 0 x3_F0) 2 x3_F2) 3 x3_F3) 76 x3_F76) 2 f2w55_1) 3 f3w55_1) 0 g55_1 := Eq.symm (Eq.trans (congrArg (fun g9 => fT g9 0 g55_1) (Eq.trans (congrArg (fun g9 => fT g9 3 f3w55_1) (up_2 rfl)) (up_1 rfl))) (up_3 rfl))
          have e9G : fT vG 1 gs55_1 = fT (fT vG 1 x3_G1) 1 gs55_1 := (fT_sm _ _ _ _).symm
          have hP := wr_PG e9G (wr_PF e9F (fz_P ht hB9.1))
          have hD := wr_DG e9G (wr_DF e9F (hB9.2.weaken (fun _ q _ h => hFc q.1 h)))
          clear e9F e9G
          have f55_1_0 := hw9
          try dsimp only at f55_1_0
          refine lv_aload_n hx hb dX12_sayBig_58 rfl (lv_at hl 0 rfl) ?_
          refine va_get (D := (dC, dI)) (ci := 12) (v := .ref (a 76)) (C := RX12) (T := TX12) (N := 163) (fs := fM (vS a vi vj)) hx hb hts iwsRX12_sayBig_in12 hown hK hP 0 rfl rfl 126 (by decide) (hts _ hm_r_X12_sayBig_0) (fun _ h9 => h9) rfl dX12_sayBig_59 ?_
          refine lv_iload_n hx hb dX12_sayBig_62 rfl (lv_at hl 1 rfl) ?_
          refine lv_aload_n hx hb dX12_sayBig_63 rfl (lv_at hl 0 rfl) ?_
          refine lv_bipush (v := 13) hx hb dX12_sayBig_64 (by decide) ?_
          have hFc := allFree hD hS hA
          refine va_calli (va_runV (As := [.int 13]) (rest := [.int (nI n5), .ref (a 76)]) ⟨hx, hb, hml, hown, hts⟩ (r_X12_small l dC dI a k h0 vi vj (fT (fT (fT (fT vF 0 g55_1) 2 f2w55_1) 3 f3w55_1) 76 x3_F76) (fT vG 1 gs55_1) 13 (fT (fT m4 11 ((x10a).tdiv 10)) 13 ((x10a).tmod 10)) f55_1_0 ((x10a).tmod 10) (by rw [fT_eq]) (by first | with_reducible assumption | decide | omega | rfl | assumption) H.size) (cwV 1 hts gwsRX12_sayBig_5 rfl rfl rfl hd_yX12_small_RX12 (by decide +kernel)) (fz_pre (va_recv hK hP (ci := 12) (q0 := 0) rfl rfl) hP hK hD) rfl rfl hl.1 rfl (lv_room (Nat.le_of_ble_eq_true rfl)) dX12_sayBig_66 (by decide +kernel)) hS (fun q _ h => hFc q h) hFc (fun r66_1 u t9_ H locs ht hvm hw9 hB9 hz1 hk1 hS => ?_)
          have hP : va_P (dC, dI) vwCl (WR a k h0 vi vj (fT (fT (fT (fT vF 0 g55_1) 2 f2w55_1) 3 f3w55_1) 76 x3_F76) (fT vG 1 gs55_1)) H := fz_P ht hB9.1
          have hD := fz_sd hP (hB9.2.weaken (fun _ q _ h => hFc q.1 h)) rfl
          revert hw9
          refine fz_a2 ?_
          intro f66_1_0 f66_1_1
          refine va_iast (cA := k 76) (n := 250) (f := x3_F76) hx hb hK hP hD hS 77 76 (WR_get 76 (by decide)) (TR_get 76 (by decide)) (vp_in_nI (show n5 < 250 by omega) (by omega)) dX12_sayBig_69 (fun H locs hP hD hS => ?_)
          have e9 : fT (fT (fT (fT vF 0 g55_1) 2 f2w55_1) 3 f3w55_1) 76 (upd x3_F76 ((nI n5)).toNatClampNeg r66_1) = fT (fT (fT (fT (fT vF 0 g55_1) 2 f2w55_1) 3 f3w55_1) 76 x3_F76) 76 (upd x3_F76 ((nI n5)).toNatClampNeg r66_1) := (fT_sm _ _ _ _).symm
          have hP := wr_PF e9 (fz_w (WR_F 76 (by decide) _ rfl) hP)
          have hD := wr_DF e9 (fz_wD (WR_F 76 (by decide) _ rfl) hD)
          clear e9
          refine lv_iinc (v := (nI (n5 + 1))) hx hb dX12_sayBig_70 hl (k := 1) rfl (nI_add n5 1) (by decide) rfl (fun ls (hl : lv_has ls _ ([(2, .int (nI (n5 + 1))), (0, .ref h0)])) => ?_)
          refine lv_aload_n hx hb dX12_sayBig_73 rfl (lv_at hl 1 rfl) ?_
          refine lv_bipush (v := 10) hx hb dX12_sayBig_74 (by decide) ?_
          refine lv_bipush (v := 11) hx hb dX12_sayBig_76 (by decide) ?_
          have hFc := allFree hD hS hA
          refine va_callv (va_runV (As := [.int 10, .int 11]) (rest := []) ⟨hx, hb, hml, hown, hts⟩ (b_X12_copy l dC dI a k h0 vi vj (fT (fT (fT (fT vF 0 g55_1) 2 f2w55_1) 3 f3w55_1) 76 (upd x3_F76 ((nI n5)).toNatClampNeg r66_1)) (fT vG 1 gs55_1) 10 11 (fT (fT m4 11 ((x10a).tdiv 10)) 13 ((x10a).tmod 10)) f55_1_0 ((x10a).tdiv 10) (by rw [fT_ne _ _ (by omega), fT_eq]) (by first | with_reducible assumption | decide | omega | rfl | assumption) (by first | with_reducible assumption | decide | omega | rfl | assumption) (by first | with_reducible assumption | decide | omega | rfl | assumption) H.size) (cwV 2 hts gwsRX12_sayBig_0 rfl rfl rfl hd_yX12_copy_RX12 (by decide +kernel)) (fz_pre (va_recv hK hP (ci := 12) (q0 := 0) rfl rfl) hP hK hD) rfl rfl hl.1 rfl (lv_room (Nat.le_of_ble_eq_true rfl)) dX12_sayBig_78 (by decide +kernel)) hS (fun q _ h => hFc q h) hFc (fun g78_1 t9_ H locs ht hvm hw9 hB9 hz1 hk1 hS => ?_)
          have e9F : fT (fT (fT (fT vF 0 g78_1) 2 f2w55_1) 3 f3w55_1) 76 (upd x3_F76 ((nI n5)).toNatClampNeg r66_1) = fT (fT (fT (fT (fT vF 0 g55_1) 2 f2w55_1) 3 f3w55_1) 76 (upd x3_F76 ((nI n5)).toNatClampNeg r66_1)) 0 g78_1 := ((fT_sw _ _ _ (Nat.ne_of_beq_eq_false rfl)).trans (congrArg (fun g9 => fT g9 76 (upd x3_F76 ((nI n5)).toNatClampNeg r66_1)) ((fT_sw _ _ _ (Nat.ne_of_beq_eq_false rfl)).trans (congrArg (fun g9 => fT g9 3 f3w55_1) ((fT_sw _ _ _ (Nat.ne_of_beq_eq_false rfl)).trans (congrArg (fun g9 => fT g9 2 f2w55_1) (fT_sm _ _ _ _))))))).symm
          have hP := wr_PF e9F (fz_P ht hB9.1)
          have hD := wr_DF e9F (hB9.2.weaken (fun _ q _ h => hFc q.1 h))
          clear e9F
          have f78_1_0 := hw9
          try dsimp only at f78_1_0
          refine lv_goto (tgt := 33) hx hb dX12_sayBig_81 (by decide) ?_
          have hl : lv_has _ _ ([(0, .ref h0), (2, .int (nI (n5 + 1)))]) := lv_sub hl [1, 0] rfl
          exact ih33 (n5 + 1) g78_1 f2w55_1 f3w55_1 (upd x3_F76 ((nI n5)).toNatClampNeg r66_1) gs55_1 (fT (fT (fT m4 11 ((x10a).tdiv 10)) 13 ((x10a).tmod 10)) 10 ((x10a).tdiv 10)) ((x10a).tdiv 10) _ _ _ (f78_1_0) ((by rw [fT_ne _ _ (by omega), fT_ne _ _ (by omega), fT_ne _ _ (by omega), h12])) ((by rw [fT_eq])) (by omega) (Int.tdiv_nonneg hx1 (by decide)) (dig_step hbd) (fun q hq => by (rw [fT_ne _ _ (by omega), fT_ne _ _ (by omega), fT_ne _ _ (by omega)]); exact ho4 q hq) (by omega) hP hD hS hl
end
section
theorem hd_yX12_sayBig_RX12 : yX12_sayBig.cls = RX12 ∧ yX12_sayBig.cls ≠ "java/lang/invoke/MethodHandle" ∧ yX12_sayBig.cls ≠ "java/lang/invoke/VarHandle" ∧ (parseMethodDescriptor yX12_sayBig.desc).map (fun d => d.parameters.length) = some 1 := by decide +kernel
theorem hd_yX12_canTell_RX12 : yX12_canTell.cls = RX12 ∧ yX12_canTell.cls ≠ "java/lang/invoke/MethodHandle" ∧ yX12_canTell.cls ≠ "java/lang/invoke/VarHandle" ∧ (parseMethodDescriptor yX12_canTell.desc).map (fun d => d.parameters.length) = some 2 := by decide +kernel
theorem hd_yX12_sayFraction_RX12 : yX12_sayFraction.cls = RX12 ∧ yX12_sayFraction.cls ≠ "java/lang/invoke/MethodHandle" ∧ yX12_sayFraction.cls ≠ "java/lang/invoke/VarHandle" ∧ (parseMethodDescriptor yX12_sayFraction.desc).map (fun d => d.parameters.length) = some 2 := by decide +kernel
theorem dX12_sayFraction_0 : decode cX12_sayFraction 0 = .ok (.aload_n 0, 1) := dk_42 (by decide +kernel)
theorem dX12_sayFraction_1 : decode cX12_sayFraction 1 = .ok (.bipush 15, 2) := dk_16 (by decide +kernel)
theorem dX12_sayFraction_3 : decode cX12_sayFraction 3 = .ok (.iload_n 1, 1) := dk_27 (by decide +kernel)
theorem dX12_sayFraction_4 : decode cX12_sayFraction 4 = .ok (.invokevirtual 365, 3) := dk_182 (by decide +kernel)
theorem dX12_sayFraction_7 : decode cX12_sayFraction 7 = .ok (.aload_n 0, 1) := dk_42 (by decide +kernel)
theorem dX12_sayFraction_8 : decode cX12_sayFraction 8 = .ok (.bipush 16, 2) := dk_16 (by decide +kernel)
theorem dX12_sayFraction_10 : decode cX12_sayFraction 10 = .ok (.iload_n 2, 1) := dk_28 (by decide +kernel)
theorem dX12_sayFraction_11 : decode cX12_sayFraction 11 = .ok (.invokevirtual 365, 3) := dk_182 (by decide +kernel)
theorem dX12_sayFraction_14 : decode cX12_sayFraction 14 = .ok (.aload_n 0, 1) := dk_42 (by decide +kernel)
theorem dX12_sayFraction_15 : decode cX12_sayFraction 15 = .ok (.bipush 15, 2) := dk_16 (by decide +kernel)
theorem dX12_sayFraction_17 : decode cX12_sayFraction 17 = .ok (.bipush 16, 2) := dk_16 (by decide +kernel)
theorem dX12_sayFraction_19 : decode cX12_sayFraction 19 = .ok (.invokevirtual 930, 3) := dk_182 (by decide +kernel)
theorem dX12_sayFraction_22 : decode cX12_sayFraction 22 = .ok (.aload_n 0, 1) := dk_42 (by decide +kernel)
theorem dX12_sayFraction_23 : decode cX12_sayFraction 23 = .ok (.bipush 15, 2) := dk_16 (by decide +kernel)
theorem dX12_sayFraction_25 : decode cX12_sayFraction 25 = .ok (.invokevirtual 353, 3) := dk_182 (by decide +kernel)
theorem dX12_sayFraction_28 : decode cX12_sayFraction 28 = .ok (.ifCond .ge 9, 3) := dk_156 (by decide +kernel)
theorem dX12_sayFraction_31 : decode cX12_sayFraction 31 = .ok (.aload_n 0, 1) := dk_42 (by decide +kernel)
theorem dX12_sayFraction_32 : decode cX12_sayFraction 32 = .ok (.bipush 45, 2) := dk_16 (by decide +kernel)
theorem dX12_sayFraction_34 : decode cX12_sayFraction 34 = .ok (.invokevirtual 936, 3) := dk_182 (by decide +kernel)
theorem dX12_sayFraction_37 : decode cX12_sayFraction 37 = .ok (.aload_n 0, 1) := dk_42 (by decide +kernel)
theorem dX12_sayFraction_38 : decode cX12_sayFraction 38 = .ok (.bipush 15, 2) := dk_16 (by decide +kernel)
theorem dX12_sayFraction_40 : decode cX12_sayFraction 40 = .ok (.invokevirtual 941, 3) := dk_182 (by decide +kernel)
theorem dX12_sayFraction_43 : decode cX12_sayFraction 43 = .ok (.aload_n 0, 1) := dk_42 (by decide +kernel)
theorem dX12_sayFraction_44 : decode cX12_sayFraction 44 = .ok (.bipush 17, 2) := dk_16 (by decide +kernel)
theorem dX12_sayFraction_46 : decode cX12_sayFraction 46 = .ok (.lconst 1, 1) := dk_10 (by decide +kernel)
theorem dX12_sayFraction_47 : decode cX12_sayFraction 47 = .ok (.invokevirtual 369, 3) := dk_182 (by decide +kernel)
theorem dX12_sayFraction_50 : decode cX12_sayFraction 50 = .ok (.aload_n 0, 1) := dk_42 (by decide +kernel)
theorem dX12_sayFraction_51 : decode cX12_sayFraction 51 = .ok (.bipush 16, 2) := dk_16 (by decide +kernel)
theorem dX12_sayFraction_53 : decode cX12_sayFraction 53 = .ok (.bipush 17, 2) := dk_16 (by decide +kernel)
theorem dX12_sayFraction_55 : decode cX12_sayFraction 55 = .ok (.invokevirtual 393, 3) := dk_182 (by decide +kernel)
theorem dX12_sayFraction_58 : decode cX12_sayFraction 58 = .ok (.ifCond .ne 4, 3) := dk_154 (by decide +kernel)
theorem dX12_sayFraction_61 : decode cX12_sayFraction 61 = .ok (.return_, 1) := dk_177 (by decide +kernel)
theorem dX12_sayFraction_62 : decode cX12_sayFraction 62 = .ok (.aload_n 0, 1) := dk_42 (by decide +kernel)
theorem dX12_sayFraction_63 : decode cX12_sayFraction 63 = .ok (.bipush 47, 2) := dk_16 (by decide +kernel)
theorem dX12_sayFraction_65 : decode cX12_sayFraction 65 = .ok (.invokevirtual 936, 3) := dk_182 (by decide +kernel)
theorem dX12_sayFraction_68 : decode cX12_sayFraction 68 = .ok (.aload_n 0, 1) := dk_42 (by decide +kernel)
theorem dX12_sayFraction_69 : decode cX12_sayFraction 69 = .ok (.bipush 16, 2) := dk_16 (by decide +kernel)
theorem dX12_sayFraction_71 : decode cX12_sayFraction 71 = .ok (.invokevirtual 941, 3) := dk_182 (by decide +kernel)
theorem dX12_sayFraction_74 : decode cX12_sayFraction 74 = .ok (.return_, 1) := dk_177 (by decide +kernel)
def wsRX12_sayFraction : List Cond := .code yX12_sayFraction cX12_sayFraction 3 none :: ([] ++ wsX120 ++ (wsV RX12 365 RX12 yX12_copy wsRX12_copy) ++ (wsV RX12 930 RX12 yX12_shorten wsRX12_shorten) ++ (wsV RX12 353 RX12 yX12_sign wsRX12_sign) ++ (wsV RX12 936 RX12 yX12_say wsRX12_say) ++ (wsV RX12 941 RX12 yX12_sayBig wsRX12_sayBig) ++ (wsV RX12 369 RX12 yX12_put wsRX12_put) ++ (wsV RX12 393 RX12 yX12_compare wsRX12_compare))
theorem iwsRX12_sayFraction_in12 : ∀ w ∈ wsX120, w ∈ wsRX12_sayFraction := fun _ h => List.mem_cons_of_mem _ (List.mem_append_left _ (List.mem_append_left _ (List.mem_append_left _ (List.mem_append_left _ (List.mem_append_left _ (List.mem_append_left _ (List.mem_append_left _ (List.mem_append_right _ h))))))))
theorem gwsRX12_sayFraction_0 : GoodIn wsRX12_sayFraction (wsV RX12 365 RX12 yX12_copy wsRX12_copy) := goodIn_sub (fun _ h => List.mem_cons_of_mem _ (List.mem_append_left _ (List.mem_append_left _ (List.mem_append_left _ (List.mem_append_left _ (List.mem_append_left _ (List.mem_append_left _ (List.mem_append_right _ h)))))))) (gdV (by decide +kernel) gdwsRX12_copy)
theorem gwsRX12_sayFraction_1 : GoodIn wsRX12_sayFraction (wsV RX12 930 RX12 yX12_shorten wsRX12_shorten) := goodIn_sub (fun _ h => List.mem_cons_of_mem _ (List.mem_append_left _ (List.mem_append_left _ (List.mem_append_left _ (List.mem_append_left _ (List.mem_append_left _ (List.mem_append_right _ h))))))) (gdV (by decide +kernel) gdwsRX12_shorten)
theorem gwsRX12_sayFraction_2 : GoodIn wsRX12_sayFraction (wsV RX12 353 RX12 yX12_sign wsRX12_sign) := goodIn_sub (fun _ h => List.mem_cons_of_mem _ (List.mem_append_left _ (List.mem_append_left _ (List.mem_append_left _ (List.mem_append_left _ (List.mem_append_right _ h)))))) (gdV (by decide +kernel) gdwsRX12_sign)
theorem gwsRX12_sayFraction_3 : GoodIn wsRX12_sayFraction (wsV RX12 936 RX12 yX12_say wsRX12_say) := goodIn_sub (fun _ h => List.mem_cons_of_mem _ (List.mem_append_left _ (List.mem_append_left _ (List.mem_append_left _ (List.mem_append_right _ h))))) (gdV (by decide +kernel) gdwsRX12_say)
theorem gwsRX12_sayFraction_4 : GoodIn wsRX12_sayFraction (wsV RX12 941 RX12 yX12_sayBig wsRX12_sayBig) := goodIn_sub (fun _ h => List.mem_cons_of_mem _ (List.mem_append_left _ (List.mem_append_left _ (List.mem_append_right _ h)))) (gdV (by decide +kernel) gdwsRX12_sayBig)
theorem gwsRX12_sayFraction_5 : GoodIn wsRX12_sayFraction (wsV RX12 369 RX12 yX12_put wsRX12_put) := goodIn_sub (fun _ h => List.mem_cons_of_mem _ (List.mem_append_left _ (List.mem_append_right _ h))) (gdV (by decide +kernel) gdwsRX12_put)
theorem gwsRX12_sayFraction_6 : GoodIn wsRX12_sayFraction (wsV RX12 393 RX12 yX12_compare wsRX12_compare) := goodIn_sub (fun _ h => List.mem_cons_of_mem _ (List.mem_append_right _ h)) (gdV (by decide +kernel) gdwsRX12_compare)
theorem gdwsRX12_sayFraction : wsRX12_sayFraction.all goodWord = true := gdC rfl (gdA (gdA (gdA (gdA (gdA (gdA (gdA (gdA (by decide +kernel : ([] : List Cond).all goodWord = true) gdwsX120) (gdV (by decide +kernel) gdwsRX12_copy)) (gdV (by decide +kernel) gdwsRX12_shorten)) (gdV (by decide +kernel) gdwsRX12_sign)) (gdV (by decide +kernel) gdwsRX12_say)) (gdV (by decide +kernel) gdwsRX12_sayBig)) (gdV (by decide +kernel) gdwsRX12_put)) (gdV (by decide +kernel) gdwsRX12_compare))
set_option maxHeartbeats 4000000 in
set_option maxRecDepth 100000 in
/-- sayFraction(n, d) -/
theorem r_X12_sayFraction (l : Launch) (dC : Nat → ClassId) (dI : Nat → Nat → Nat) (a : Nat → Nat) (k : Nat → ClassId) (h0 : Nat) (vi : Nat → Int32) (vj : Nat → Int64) (vF : Nat → Nat → Int32) (vG : Nat → Nat → Int64) (nn : Nat) (dn : Nat) (pn : Nat) (mg : Nat → Int) (hBg : Bg (vF 0) mg) (hpn : vi 125 = nI pn) (hpn2 : pn ≤ 30000) (hnn : 1000 ≤ nn ∧ nn < 1100) (hdn : 1000 ≤ dn ∧ dn < 1100) (hd0 : mg dn ≠ 0) (sz : Nat) : Met l yX12_sayFraction wsRX12_sayFraction ({ frames := 4, cells := 0, slots := 0, locals := 107 }) (va_Pc [.ref h0, .int (nI nn), .int (nI dn)] (fun U => U.heap.size = sz ∧ va_P (dC, dI) vwCl (WR a k h0 vi vj vF vG) U.heap ∧ va_K (dC, dI) vwCl (tX12 k) U ∧ va_D (fun _ => True) (WR a k h0 vi vj vF vG))) (va_Qv (fun (u : (Nat → Int32) × (Nat → Int32) × (Nat → Int32) × (Nat → Int64) × (Nat → Int32) × (Nat) × (Nat → Int32) × (Nat → Int)) => (Bg (u.1) (u.2.2.2.2.2.2.2)) ∧ ((u.2.2.2.2.2.1) ≤ 30000) ∧ (∀ q, 1000 ≤ q → (u.2.2.2.2.2.2.2) q = mg q)) (fun (u : (Nat → Int32) × (Nat → Int32) × (Nat → Int32) × (Nat → Int64) × (Nat → Int32) × (Nat) × (Nat → Int32) × (Nat → Int)) t => va_P (dC, dI) vwCl (WR a k h0 (fT vi 125 (nI (u.2.2.2.2.2.1))) vj (fT (fT (fT (fT (fT vF 0 (u.1)) 2 (u.2.1)) 3 (u.2.2.1)) 75 (u.2.2.2.2.2.2.1)) 76 (u.2.2.2.2.1)) (fT vG 1 (u.2.2.2.1))) t.heap ∧ va_D (va_A (WR a k h0 vi vj vF vG) sz) (WR a k h0 (fT vi 125 (nI (u.2.2.2.2.2.1))) vj (fT (fT (fT (fT (fT vF 0 (u.1)) 2 (u.2.1)) 3 (u.2.2.1)) 75 (u.2.2.2.2.2.2.1)) 76 (u.2.2.2.2.1)) (fT vG 1 (u.2.2.2.1)))) (va_A (WR a k h0 vi vj vF vG) sz)) 0 0 (va_A (WR a k h0 vi vj vF vG) sz) := by
  refine Met.ofW (cc := cX12_sayFraction) (maxL := 3) (ret := none) (by decide) rfl ?_
  intro p e s m args below meth c s₁ B hml hv
  obtain ⟨rfl, hsz, hP, hK, hD0⟩ := hv
  have hx := B.exec
  have hb := B.bytes
  have hr := B.returns
  have hts := atoms_spec (ws := wsRX12_sayFraction) B.pre
  have hown : s.vm.findClass RX12 = some m.cls := findClass_of_methodNamed B.named
  have hlocks := B.notSynchronized
  subst hsz
  have hD := hD0.self (sz := s.heap.size)
  generalize hAe : va_A (WR a k h0 vi vj vF vG) s.heap.size = A at hD ⊢
  have hA : ∀ q : Nat, s.heap.size ≤ q → A q := fun q h => by rw [← hAe]; exact Or.inr h
  have hS : va_S A s.heap s.heap [] := va_S.rf
  have hl := lv_entry ([.ref h0, .int (nI nn), .int (nI dn)]) (n := 3) (Nat.le_of_ble_eq_true rfl)
  rw [lg_entry_eq]
  generalize (lg_sl ([.ref h0, .int (nI nn), .int (nI dn)]) ++ List.replicate (3 - (lg_sl ([.ref h0, .int (nI nn), .int (nI dn)])).length) Slot.unset).toArray = ls at hl ⊢
  have hl : lv_has ls 3 [(0, .ref h0), (1, .int (nI nn)), (2, .int (nI dn))] := hl
  refine lv_aload_n hx hb dX12_sayFraction_0 rfl (lv_at hl 0 rfl) ?_
  refine lv_bipush (v := 15) hx hb dX12_sayFraction_1 (by decide) ?_
  refine lv_iload_n hx hb dX12_sayFraction_3 rfl (lv_at hl 1 rfl) ?_
  have hFc := allFree hD hS hA
  refine va_callv (va_runV (As := [.int 15, .int (nI nn)]) (rest := []) ⟨hx, hb, hml, hown, hts⟩ (b_X12_copy l dC dI a k h0 vi vj vF vG 15 nn mg hBg (mg nn) rfl (by first | with_reducible assumption | decide | omega | rfl | assumption) (by first | with_reducible assumption | decide | omega | rfl | assumption) (by first | with_reducible assumption | decide | omega | rfl | assumption) s.heap.size) (cwV 2 hts gwsRX12_sayFraction_0 rfl rfl rfl hd_yX12_copy_RX12 (by decide +kernel)) (fz_pre (va_recv hK hP (ci := 12) (q0 := 0) rfl rfl) hP hK hD) rfl rfl hl.1 rfl (lv_room (Nat.le_of_ble_eq_true rfl)) dX12_sayFraction_4 (by decide +kernel)) hS (fun q _ h => hFc q h) hFc (fun g4 t9_ H locs ht hvm hw9 hB9 hz1 hk1 hS => ?_)
  have hP : va_P (dC, dI) vwCl (WR a k h0 vi vj (fT vF 0 g4) vG) H := fz_P ht hB9.1
  have hD := fz_sd hP (hB9.2.weaken (fun _ q _ h => hFc q.1 h)) rfl
  have f4_0 := hw9
  try dsimp only at f4_0
  refine lv_aload_n hx hb dX12_sayFraction_7 rfl (lv_at hl 0 rfl) ?_
  refine lv_bipush (v := 16) hx hb dX12_sayFraction_8 (by decide) ?_
  refine lv_iload_n hx hb dX12_sayFraction_10 rfl (lv_at hl 2 rfl) ?_
  have hFc := allFree hD hS hA
  refine va_callv (va_runV (As := [.int 16, .int (nI dn)]) (rest := []) ⟨hx, hb, hml, hown, hts⟩ (b_X12_copy l dC dI a k h0 vi vj (fT vF 0 g4) vG 16 dn (fT mg 15 (mg nn)) f4_0 (mg dn) (by rw [fT_ne _ _ (by omega)]) (by first | with_reducible assumption | decide | omega | rfl | assumption) (by first | with_reducible assumption | decide | omega | rfl | assumption) (by first | with_reducible assumption | decide | omega | rfl | assumption) H.size) (cwV 2 hts gwsRX12_sayFraction_0 rfl rfl rfl hd_yX12_copy_RX12 (by decide +kernel)) (fz_pre (va_recv hK hP (ci := 12) (q0 := 0) rfl rfl) hP hK hD) rfl rfl hl.1 rfl (lv_room (Nat.le_of_ble_eq_true rfl)) dX12_sayFraction_11 (by decide +kernel)) hS (fun q _ h => hFc q h) hFc (fun g11 t9_ H locs ht hvm hw9 hB9 hz1 hk1 hS => ?_)
  have e9F : fT vF 0 g11 = fT (fT vF 0 g4) 0 g11 := (fT_sm _ _ _ _).symm
  have hP := wr_PF e9F (fz_P ht hB9.1)
  have hD := wr_DF e9F (hB9.2.weaken (fun _ q _ h => hFc q.1 h))
  clear e9F
  have f11_0 := hw9
  try dsimp only at f11_0
  refine lv_aload_n hx hb dX12_sayFraction_14 rfl (lv_at hl 0 rfl) ?_
  refine lv_bipush (v := 15) hx hb dX12_sayFraction_15 (by decide) ?_
  refine lv_bipush (v := 16) hx hb dX12_sayFraction_17 (by decide) ?_
  have hFc := allFree hD hS hA
  refine va_callv (va_runV (As := [.int 15, .int 16]) (rest := []) ⟨hx, hb, hml, hown, hts⟩ (r_X12_shorten l dC dI a k h0 vi vj (fT vF 0 g11) vG 15 16 (fT (fT mg 15 (mg nn)) 16 (mg dn)) f11_0 (mg nn) (mg dn) (by rw [fT_ne _ _ (by omega), fT_eq]) (by rw [fT_eq]) (by first | with_reducible assumption | decide | omega | rfl | assumption) (by first | with_reducible assumption | decide | omega | rfl | assumption) (by first | with_reducible assumption | decide | omega | rfl | assumption) (by first | with_reducible assumption | decide | omega | rfl | assumption) (by first | with_reducible assumption | decide | omega | rfl | assumption) (hd0) H.size) (cwV 2 hts gwsRX12_sayFraction_1 rfl rfl rfl hd_yX12_shorten_RX12 (by decide +kernel)) (fz_pre (va_recv hK hP (ci := 12) (q0 := 0) rfl rfl) hP hK hD) rfl rfl hl.1 rfl (lv_room (Nat.le_of_ble_eq_true rfl)) dX12_sayFraction_19 (by decide +kernel)) hS (fun q _ h => hFc q h) hFc (fun u t9_ H locs ht hvm hw9 hB9 hz1 hk1 hS => ?_)
  revert u hw9 hB9
  refine fz_p5 ?_
  intro g19 f2w19 f3w19 gs19 m219 hw9 hB9
  try dsimp only at hw9 hB9
  have e9F : fT (fT (fT vF 0 g19) 2 f2w19) 3 f3w19 = fT (fT (fT (fT vF 0 g11) 0 g19) 2 f2w19) 3 f3w19 := (congrArg (fun g9 => fT (fT g9 2 f2w19) 3 f3w19) (fT_sm _ _ _ _)).symm
  have hP := wr_PF e9F (fz_P ht hB9.1)
  have hD := wr_DF e9F (hB9.2.weaken (fun _ q _ h => hFc q.1 h))
  clear e9F
  revert hw9
  refine fz_a5 ?_
  intro f19_0 f19_1 f19_2 f19_3 f19_4
  refine lv_aload_n hx hb dX12_sayFraction_22 rfl (lv_at hl 0 rfl) ?_
  refine lv_bipush (v := 15) hx hb dX12_sayFraction_23 (by decide) ?_
  have hFc := allFree hD hS hA
  refine va_calli (va_runV (As := [.int 15]) (rest := []) ⟨hx, hb, hml, hown, hts⟩ (b_X12_sign l dC dI a k h0 vi vj (fT (fT (fT vF 0 g19) 2 f2w19) 3 f3w19) (fT vG 1 gs19) 15 m219 f19_0 (m219 15) rfl (by first | with_reducible assumption | decide | omega | rfl | assumption) H.size) (cwV 1 hts gwsRX12_sayFraction_2 rfl rfl rfl hd_yX12_sign_RX12 (by decide +kernel)) (fz_pre (va_recv hK hP (ci := 12) (q0 := 0) rfl rfl) hP hK hD) rfl rfl hl.1 rfl (lv_room (Nat.le_of_ble_eq_true rfl)) dX12_sayFraction_25 (by decide +kernel)) hS (fun q _ h => hFc q h) hFc (fun r25 u t9_ H locs ht hvm hw9 hB9 hz1 hk1 hS => ?_)
  have hP : va_P (dC, dI) vwCl (WR a k h0 vi vj (fT (fT (fT vF 0 g19) 2 f2w19) 3 f3w19) (fT vG 1 gs19)) H := fz_P ht hB9.1
  have hD := fz_sd hP (hB9.2.weaken (fun _ q _ h => hFc q.1 h)) rfl
  have f25_0 := hw9
  try dsimp only at f25_0
  refine W.cut (pc := 37) (fun H locs ls stk => ∃ (j1_i125 : Nat) (j1_F75 : Nat → Int32), (j1_i125 ≤ 30000) ∧  stk = [] ∧ va_P (dC, dI) vwCl (WR a k h0 (fT vi 125 (nI j1_i125)) vj (fT (fT (fT (fT vF 0 g19) 2 f2w19) 3 f3w19) 75 j1_F75) (fT vG 1 gs19)) H ∧ va_D A (WR a k h0 (fT vi 125 (nI j1_i125)) vj (fT (fT (fT (fT vF 0 g19) 2 f2w19) 3 f3w19) 75 j1_F75) (fT vG 1 gs19)) ∧ va_S A s.heap H locs ∧ lv_has ls 3 [(0, .ref h0), (1, .int (nI nn)), (2, .int (nI dn))]) (fun join1 => ?_) ?_
  · refine lv_if_ge (tgt := 37) hx hb dX12_sayFraction_28 (by decide) (fun c_28 => ?_) (fun c_28 => ?_)
    · have t_28 : (r25).toInt ≥ 0 := toI_ge c_28 rfl (by decide)
      have e9 : fT vi 125 (nI pn) = vi := by funext q9; by_cases h9_125 : q9 = 125; (subst h9_125; exact (fT_eq _ _ _).trans (Eq.trans (by first | with_reducible rfl | with_reducible assumption | (symm; with_reducible assumption) | rfl | assumption | (symm; assumption) | (subst_vars; rfl)) (Eq.refl _).symm)); exact (fT_ne _ _ h9_125).trans (Eq.refl _).symm
      have hP := wr_Pi e9 hP
      have hD := wr_Di e9 hD
      clear e9
      have e9 : fT (fT (fT (fT vF 0 g19) 2 f2w19) 3 f3w19) 75 (vF 75) = fT (fT (fT vF 0 g19) 2 f2w19) 3 f3w19 := id_3 rfl
      have hP := wr_PF e9 hP
      have hD := wr_DF e9 hD
      clear e9
      have hl : lv_has _ _ ([(0, .ref h0), (1, .int (nI nn)), (2, .int (nI dn))]) := lv_sub hl [0, 1, 2] rfl
      exact join1 _ _ _ _ ⟨pn, (vF 75), by first | assumption | omega, rfl, hP, hD, hS, hl⟩
    · have t_28 : ¬ (r25).toInt ≥ 0 := toI_nge c_28 rfl (by decide)
      refine lv_aload_n hx hb dX12_sayFraction_31 rfl (lv_at hl 0 rfl) ?_
      refine lv_bipush (v := 45) hx hb dX12_sayFraction_32 (by decide) ?_
      have hFc := allFree hD hS hA
      refine va_callv (va_runV (As := [.int 45]) (rest := []) ⟨hx, hb, hml, hown, hts⟩ (r_X12_say l dC dI a k h0 vi vj (fT (fT (fT vF 0 g19) 2 f2w19) 3 f3w19) (fT vG 1 gs19) 45 pn hpn (by first | with_reducible assumption | decide | omega | rfl | assumption) H.size) (cwV 1 hts gwsRX12_sayFraction_3 rfl rfl rfl hd_yX12_say_RX12 (by decide +kernel)) (fz_pre (va_recv hK hP (ci := 12) (q0 := 0) rfl rfl) hP hK hD) rfl rfl hl.1 rfl (lv_room (Nat.le_of_ble_eq_true rfl)) dX12_sayFraction_34 (by decide +kernel)) hS (fun q _ h => hFc q h) hFc (fun u t9_ H locs ht hvm hw9 hB9 hz1 hk1 hS => ?_)
      revert u hw9 hB9
      refine fz_p2 ?_
      intro p234 f7534 hw9 hB9
      try dsimp only at hw9 hB9
      have hP : va_P (dC, dI) vwCl (WR a k h0 (fT vi 125 (nI p234)) vj (fT (fT (fT (fT vF 0 g19) 2 f2w19) 3 f3w19) 75 f7534) (fT vG 1 gs19)) H := fz_P ht hB9.1
      have hD := fz_sd hP (hB9.2.weaken (fun _ q _ h => hFc q.1 h)) rfl
      revert hw9
      refine fz_a3 ?_
      intro f34_0 f34_1 f34_2
      have hl : lv_has _ _ ([(0, .ref h0), (1, .int (nI nn)), (2, .int (nI dn))]) := lv_sub hl [0, 1, 2] rfl
      exact join1 _ _ _ _ ⟨p234, f7534, by first | assumption | omega, rfl, hP, hD, hS, hl⟩
  · rintro H locs ls stk ⟨j1_i125, j1_F75, hj1_i125, rfl, hP, hD, hS, hl⟩
    refine lv_aload_n hx hb dX12_sayFraction_37 rfl (lv_at hl 0 rfl) ?_
    refine lv_bipush (v := 15) hx hb dX12_sayFraction_38 (by decide) ?_
    have hFc := allFree hD hS hA
    refine va_callv (va_runV (As := [.int 15]) (rest := []) ⟨hx, hb, hml, hown, hts⟩ (r_X12_sayBig l dC dI a k h0 (fT vi 125 (nI j1_i125)) vj (fT (fT (fT (fT vF 0 g19) 2 f2w19) 3 f3w19) 75 j1_F75) (fT vG 1 gs19) 15 j1_i125 m219 f19_0 rfl (by first | with_reducible assumption | decide | omega | rfl | assumption) (by first | with_reducible assumption | decide | omega | rfl | assumption) (by first | with_reducible assumption | decide | omega | rfl | assumption) H.size) (cwV 1 hts gwsRX12_sayFraction_4 rfl rfl rfl hd_yX12_sayBig_RX12 (by decide +kernel)) (fz_pre (va_recv hK hP (ci := 12) (q0 := 0) rfl rfl) hP hK hD) rfl rfl hl.1 rfl (lv_room (Nat.le_of_ble_eq_true rfl)) dX12_sayFraction_40 (by decide +kernel)) hS (fun q _ h => hFc q h) hFc (fun u t9_ H locs ht hvm hw9 hB9 hz1 hk1 hS => ?_)
    revert u hw9 hB9
    refine fz_p8 ?_
    intro g40 f2w40 f3w40 gs40 f7640 p240 f7540 m240 hw9 hB9
    try dsimp only at hw9 hB9
    have e9i : fT vi 125 (nI p240) = fT (fT vi 125 (nI j1_i125)) 125 (nI p240) := (fT_sm _ _ _ _).symm
    have e9F : fT (fT (fT (fT (fT vF 0 g40) 2 f2w40) 3 f3w40) 75 f7540) 76 f7640 = fT (fT (fT (fT (fT (fT (fT (fT (fT vF 0 g19) 2 f2w19) 3 f3w19) 75 j1_F75) 0 g40) 2 f2w40) 3 f3w40) 76 f7640) 75 f7540 := Eq.symm (Eq.trans (congrArg (fun g9 => fT (fT g9 76 f7640) 75 f7540) (Eq.trans (congrArg (fun g9 => fT g9 3 f3w40) (Eq.trans (congrArg (fun g9 => fT g9 2 f2w40) (up_3 rfl)) (up_2 rfl))) (up_1 rfl))) (up_1 rfl))
    have e9G : fT vG 1 gs40 = fT (fT vG 1 gs19) 1 gs40 := (fT_sm _ _ _ _).symm
    have hP := wr_PG e9G (wr_PF e9F (wr_Pi e9i (fz_P ht hB9.1)))
    have hD := wr_DG e9G (wr_DF e9F (wr_Di e9i (hB9.2.weaken (fun _ q _ h => hFc q.1 h))))
    clear e9i e9F e9G
    revert hw9
    refine fz_a3 ?_
    intro f40_0 f40_1 f40_2
    refine lv_aload_n hx hb dX12_sayFraction_43 rfl (lv_at hl 0 rfl) ?_
    refine lv_bipush (v := 17) hx hb dX12_sayFraction_44 (by decide) ?_
    refine lv_lconst (v := 1) hx hb dX12_sayFraction_46 (by decide) ?_
    have hFc := allFree hD hS hA
    refine va_callv (va_runV (As := [.int 17, .long 1]) (rest := []) ⟨hx, hb, hml, hown, hts⟩ (b_X12_put l dC dI a k h0 (fT vi 125 (nI p240)) vj (fT (fT (fT (fT (fT vF 0 g40) 2 f2w40) 3 f3w40) 75 f7540) 76 f7640) (fT vG 1 gs40) 17 1 1 m240 f40_0 (by first | with_reducible assumption | decide | omega | rfl | assumption) (by decide) (by first | with_reducible assumption | decide | omega | rfl | assumption) H.size) (cwV 2 hts gwsRX12_sayFraction_5 rfl rfl rfl hd_yX12_put_RX12 (by decide +kernel)) (fz_pre (va_recv hK hP (ci := 12) (q0 := 0) rfl rfl) hP hK hD) rfl rfl hl.1 rfl (lv_room (Nat.le_of_ble_eq_true rfl)) dX12_sayFraction_47 (by decide +kernel)) hS (fun q _ h => hFc q h) hFc (fun g47 t9_ H locs ht hvm hw9 hB9 hz1 hk1 hS => ?_)
    have e9F : fT (fT (fT (fT (fT vF 0 g47) 2 f2w40) 3 f3w40) 75 f7540) 76 f7640 = fT (fT (fT (fT (fT (fT vF 0 g40) 2 f2w40) 3 f3w40) 75 f7540) 76 f7640) 0 g47 := ((fT_sw _ _ _ (Nat.ne_of_beq_eq_false rfl)).trans (congrArg (fun g9 => fT g9 76 f7640) ((fT_sw _ _ _ (Nat.ne_of_beq_eq_false rfl)).trans (congrArg (fun g9 => fT g9 75 f7540) ((fT_sw _ _ _ (Nat.ne_of_beq_eq_false rfl)).trans (congrArg (fun g9 => fT g9 3 f3w40) ((fT_sw _ _ _ (Nat.ne_of_beq_eq_false rfl)).trans (congrArg (fun g9 => fT g9 2 f2w40) (fT_sm _ _ _ _))))))))).symm
    have hP := wr_PF e9F (fz_P ht hB9.1)
    have hD := wr_DF e9F (hB9.2.weaken (fun _ q _ h => hFc q.1 h))
    clear e9F
    have f47_0 := hw9
    try dsimp only at f47_0
    refine lv_aload_n hx hb dX12_sayFraction_50 rfl (lv_at hl 0 rfl) ?_
    refine lv_bipush (v := 16) hx hb dX12_sayFraction_51 (by decide) ?_
    refine lv_bipush (v := 17) hx hb dX12_sayFraction_53 (by decide) ?_
    have hFc := allFree hD hS hA
    refine va_calli (va_runV (As := [.int 16, .int 17]) (rest := []) ⟨hx, hb, hml, hown, hts⟩ (b_X12_compare l dC dI a k h0 (fT vi 125 (nI p240)) vj (fT (fT (fT (fT (fT vF 0 g47) 2 f2w40) 3 f3w40) 75 f7540) 76 f7640) (fT vG 1 gs40) 16 17 (fT m240 17 1) f47_0 (m219 16) 1 (by rw [fT_ne _ _ (by omega), f40_2 _ (by omega)]) (by rw [fT_eq]) (by first | with_reducible assumption | decide | omega | rfl | assumption) (by first | with_reducible assumption | decide | omega | rfl | assumption) H.size) (cwV 2 hts gwsRX12_sayFraction_6 rfl rfl rfl hd_yX12_compare_RX12 (by decide +kernel)) (fz_pre (va_recv hK hP (ci := 12) (q0 := 0) rfl rfl) hP hK hD) rfl rfl hl.1 rfl (lv_room (Nat.le_of_ble_eq_true rfl)) dX12_sayFraction_55 (by decide +kernel)) hS (fun q _ h => hFc q h) hFc (fun r55 u t9_ H locs ht hvm hw9 hB9 hz1 hk1 hS => ?_)
    have hP : va_P (dC, dI) vwCl (WR a k h0 (fT vi 125 (nI p240)) vj (fT (fT (fT (fT (fT vF 0 g47) 2 f2w40) 3 f3w40) 75 f7540) 76 f7640) (fT vG 1 gs40)) H := fz_P ht hB9.1
    have hD := fz_sd hP (hB9.2.weaken (fun _ q _ h => hFc q.1 h)) rfl
    have f55_0 := hw9
    try dsimp only at f55_0
    refine lv_if_ne (tgt := 62) hx hb dX12_sayFraction_58 (by decide) (fun c_58 => ?_) (fun c_58 => ?_)
    · have t_58 : (r55).toInt ≠ 0 := toI_ne c_58 rfl (by decide)
      refine lv_aload_n hx hb dX12_sayFraction_62 rfl (lv_at hl 0 rfl) ?_
      refine lv_bipush (v := 47) hx hb dX12_sayFraction_63 (by decide) ?_
      have hFc := allFree hD hS hA
      refine va_callv (va_runV (As := [.int 47]) (rest := []) ⟨hx, hb, hml, hown, hts⟩ (r_X12_say l dC dI a k h0 (fT vi 125 (nI p240)) vj (fT (fT (fT (fT (fT vF 0 g47) 2 f2w40) 3 f3w40) 75 f7540) 76 f7640) (fT vG 1 gs40) 47 p240 rfl (by first | with_reducible assumption | decide | omega | rfl | assumption) H.size) (cwV 1 hts gwsRX12_sayFraction_3 rfl rfl rfl hd_yX12_say_RX12 (by decide +kernel)) (fz_pre (va_recv hK hP (ci := 12) (q0 := 0) rfl rfl) hP hK hD) rfl rfl hl.1 rfl (lv_room (Nat.le_of_ble_eq_true rfl)) dX12_sayFraction_65 (by decide +kernel)) hS (fun q _ h => hFc q h) hFc (fun u t9_ H locs ht hvm hw9 hB9 hz1 hk1 hS => ?_)
      revert u hw9 hB9
      refine fz_p2 ?_
      intro p265 f7565 hw9 hB9
      try dsimp only at hw9 hB9
      have e9i : fT vi 125 (nI p265) = fT (fT vi 125 (nI p240)) 125 (nI p265) := (fT_sm _ _ _ _).symm
      have e9F : fT (fT (fT (fT (fT vF 0 g47) 2 f2w40) 3 f3w40) 75 f7565) 76 f7640 = fT (fT (fT (fT (fT (fT vF 0 g47) 2 f2w40) 3 f3w40) 75 f7540) 76 f7640) 75 f7565 := ((fT_sw _ _ _ (Nat.ne_of_beq_eq_false rfl)).trans (congrArg (fun g9 => fT g9 76 f7640) (fT_sm _ _ _ _))).symm
      have hP := wr_PF e9F (wr_Pi e9i (fz_P ht hB9.1))
      have hD := wr_DF e9F (wr_Di e9i (hB9.2.weaken (fun _ q _ h => hFc q.1 h)))
      clear e9i e9F
      revert hw9
      refine fz_a3 ?_
      intro f65_0 f65_1 f65_2
      refine lv_aload_n hx hb dX12_sayFraction_68 rfl (lv_at hl 0 rfl) ?_
      refine lv_bipush (v := 16) hx hb dX12_sayFraction_69 (by decide) ?_
      have hFc := allFree hD hS hA
      refine va_callv (va_runV (As := [.int 16]) (rest := []) ⟨hx, hb, hml, hown, hts⟩ (r_X12_sayBig l dC dI a k h0 (fT vi 125 (nI p265)) vj (fT (fT (fT (fT (fT vF 0 g47) 2 f2w40) 3 f3w40) 75 f7565) 76 f7640) (fT vG 1 gs40) 16 p265 (fT m240 17 1) f47_0 rfl (by first | with_reducible assumption | decide | omega | rfl | assumption) (by first | with_reducible assumption | decide | omega | rfl | assumption) (by first | with_reducible assumption | decide | omega | rfl | assumption) H.size) (cwV 1 hts gwsRX12_sayFraction_4 rfl rfl rfl hd_yX12_sayBig_RX12 (by decide +kernel)) (fz_pre (va_recv hK hP (ci := 12) (q0 := 0) rfl rfl) hP hK hD) rfl rfl hl.1 rfl (lv_room (Nat.le_of_ble_eq_true rfl)) dX12_sayFraction_71 (by decide +kernel)) hS (fun q _ h => hFc q h) hFc (fun u t9_ H locs ht hvm hw9 hB9 hz1 hk1 hS => ?_)
      revert u hw9 hB9
      refine fz_p8 ?_
      intro g71 f2w71 f3w71 gs71 f7671 p271 f7571 m271 hw9 hB9
      try dsimp only at hw9 hB9
      have e9i : fT vi 125 (nI p271) = fT (fT vi 125 (nI p265)) 125 (nI p271) := (fT_sm _ _ _ _).symm
      have e9F : fT (fT (fT (fT (fT vF 0 g71) 2 f2w71) 3 f3w71) 75 f7571) 76 f7671 = fT (fT (fT (fT (fT (fT (fT (fT (fT (fT vF 0 g47) 2 f2w40) 3 f3w40) 75 f7565) 76 f7640) 0 g71) 2 f2w71) 3 f3w71) 76 f7671) 75 f7571 := Eq.symm (Eq.trans (congrArg (fun g9 => fT g9 75 f7571) (Eq.trans (congrArg (fun g9 => fT g9 76 f7671) (Eq.trans (congrArg (fun g9 => fT g9 3 f3w71) (Eq.trans (congrArg (fun g9 => fT g9 2 f2w71) (up_4 rfl)) (up_3 rfl))) (up_2 rfl))) (up_0 rfl))) (up_1 rfl))
      have e9G : fT vG 1 gs71 = fT (fT vG 1 gs40) 1 gs71 := (fT_sm _ _ _ _).symm
      have hP := wr_PG e9G (wr_PF e9F (wr_Pi e9i (fz_P ht hB9.1)))
      have hD := wr_DG e9G (wr_DF e9F (wr_Di e9i (hB9.2.weaken (fun _ q _ h => hFc q.1 h))))
      clear e9i e9F e9G
      revert hw9
      refine fz_a3 ?_
      intro f71_0 f71_1 f71_2
      refine W.widen (k := 0) (n := 0) (by decide +kernel) (by decide +kernel) ?_
      exact W.vret hx hb hr (fun t9_ ht hW => ⟨⟨(g71, f2w71, f3w71, gs71, f7671, p271, f7571, m271), rfl, by (try dsimp only); exact ⟨f71_0, by first | assumption | omega, fun q hq => by (rw [f71_2 _ (by omega), fT_ne _ _ (by omega), f40_2 _ (by omega), f19_3 _ (by omega) (by omega) (by omega), fT_ne _ _ (by omega), fT_ne _ _ (by omega)])⟩, by rw [ht]; exact hP, hD⟩, hS.F ht⟩) hS.2.2 dX12_sayFraction_74
    · have t_58 : (r55).toInt = 0 := toI_nne c_58 rfl (by decide)
      refine W.widen (k := 0) (n := 0) (by decide +kernel) (by decide +kernel) ?_
      exact W.vret hx hb hr (fun t9_ ht hW => ⟨⟨(g47, f2w40, f3w40, gs40, f7640, p240, f7540, (fT m240 17 1)), rfl, by (try dsimp only); exact ⟨f47_0, by first | assumption | omega, fun q hq => by (rw [fT_ne _ _ (by omega), f40_2 _ (by omega), f19_3 _ (by omega) (by omega) (by omega), fT_ne _ _ (by omega), fT_ne _ _ (by omega)])⟩, by rw [ht]; exact hP, hD⟩, hS.F ht⟩) hS.2.2 dX12_sayFraction_61
theorem dX12_canTell_0 : decode cX12_canTell 0 = .ok (.aload_n 0, 1) := dk_42 (by decide +kernel)
theorem dX12_canTell_1 : decode cX12_canTell 1 = .ok (.aload_n 0, 1) := dk_42 (by decide +kernel)
theorem dX12_canTell_2 : decode cX12_canTell 2 = .ok (.getfield 808, 3) := dk_180 (by decide +kernel)
theorem dX12_canTell_5 : decode cX12_canTell 5 = .ok (.ifCond .eq 10, 3) := dk_153 (by decide +kernel)
theorem dX12_canTell_8 : decode cX12_canTell 8 = .ok (.aload_n 0, 1) := dk_42 (by decide +kernel)
theorem dX12_canTell_9 : decode cX12_canTell 9 = .ok (.getfield 811, 3) := dk_180 (by decide +kernel)
theorem dX12_canTell_12 : decode cX12_canTell 12 = .ok (.ifCond .ne 7, 3) := dk_154 (by decide +kernel)
theorem dX12_canTell_15 : decode cX12_canTell 15 = .ok (.iconst 1, 1) := dk_4 (by decide +kernel)
theorem dX12_canTell_16 : decode cX12_canTell 16 = .ok (.goto 17, 3) := dk_167 (by decide +kernel)
theorem dX12_canTell_19 : decode cX12_canTell 19 = .ok (.iload_n 1, 1) := dk_27 (by decide +kernel)
theorem dX12_canTell_20 : decode cX12_canTell 20 = .ok (.ifCond .lt 8, 3) := dk_155 (by decide +kernel)
theorem dX12_canTell_23 : decode cX12_canTell 23 = .ok (.iload_n 1, 1) := dk_27 (by decide +kernel)
theorem dX12_canTell_24 : decode cX12_canTell 24 = .ok (.iload_n 2, 1) := dk_28 (by decide +kernel)
theorem dX12_canTell_25 : decode cX12_canTell 25 = .ok (.if_icmp .lt 7, 3) := dk_161 (by decide +kernel)
theorem dX12_canTell_28 : decode cX12_canTell 28 = .ok (.iconst 2, 1) := dk_5 (by decide +kernel)
theorem dX12_canTell_29 : decode cX12_canTell 29 = .ok (.goto 4, 3) := dk_167 (by decide +kernel)
theorem dX12_canTell_32 : decode cX12_canTell 32 = .ok (.iconst 0, 1) := dk_3 (by decide +kernel)
theorem dX12_canTell_33 : decode cX12_canTell 33 = .ok (.putfield 348, 3) := dk_181 (by decide +kernel)
theorem dX12_canTell_36 : decode cX12_canTell 36 = .ok (.aload_n 0, 1) := dk_42 (by decide +kernel)
theorem dX12_canTell_37 : decode cX12_canTell 37 = .ok (.getfield 348, 3) := dk_180 (by decide +kernel)
theorem dX12_canTell_40 : decode cX12_canTell 40 = .ok (.ifCond .ne 7, 3) := dk_154 (by decide +kernel)
theorem dX12_canTell_43 : decode cX12_canTell 43 = .ok (.iconst 1, 1) := dk_4 (by decide +kernel)
theorem dX12_canTell_44 : decode cX12_canTell 44 = .ok (.goto 4, 3) := dk_167 (by decide +kernel)
theorem dX12_canTell_47 : decode cX12_canTell 47 = .ok (.iconst 0, 1) := dk_3 (by decide +kernel)
theorem dX12_canTell_48 : decode cX12_canTell 48 = .ok (.ireturn, 1) := dk_172 (by decide +kernel)
def wsRX12_canTell : List Cond := .code yX12_canTell cX12_canTell 3 (some .boolean) :: ([.fieldLink RX12 808 "OptimaWorksModel" "isModel" "Z", .fieldLink RX12 348 "OptimaWorksModel" "thrown" "I", .fieldLink RX12 811 "OptimaWorksModel" "hasAnswer" "Z"] ++ wsX120)
theorem iwsRX12_canTell_in12 : ∀ w ∈ wsX120, w ∈ wsRX12_canTell := fun _ h => List.mem_cons_of_mem _ (List.mem_append_right _ h)
theorem gdwsRX12_canTell : wsRX12_canTell.all goodWord = true := gdC rfl (gdA (by decide +kernel : ([.fieldLink RX12 808 "OptimaWorksModel" "isModel" "Z", .fieldLink RX12 348 "OptimaWorksModel" "thrown" "I", .fieldLink RX12 811 "OptimaWorksModel" "hasAnswer" "Z"] : List Cond).all goodWord = true) gdwsX120)
theorem hm_r_X12_canTell_0 : (.fieldLink RX12 348 "OptimaWorksModel" "thrown" "I" : Cond) ∈ wsRX12_canTell := by decide +kernel
set_option maxHeartbeats 4000000 in
set_option maxRecDepth 100000 in
/-- canTell(k, most) -/
theorem r_X12_canTell (l : Launch) (dC : Nat → ClassId) (dI : Nat → Nat → Nat) (a : Nat → Nat) (k : Nat → ClassId) (h0 : Nat) (vi : Nat → Int32) (vj : Nat → Int64) (vF : Nat → Nat → Int32) (vG : Nat → Nat → Int64) (kI : Int32) (mI : Int32) (sz : Nat) : Met l yX12_canTell wsRX12_canTell ({ frames := 0, cells := 0, slots := 0, locals := 0 }) (va_Pc [.ref h0, .int kI, .int mI] (fun U => U.heap.size = sz ∧ va_P (dC, dI) vwCl (WR a k h0 vi vj vF vG) U.heap ∧ va_K (dC, dI) vwCl (tX12 k) U ∧ va_D (fun _ => True) (WR a k h0 vi vj vF vG))) (va_Qi (fun (r : Int32) (u : Int32) => (r = 1 ∧ (vi 95 ≠ 0) ∧ (vi 113 ≠ 0) ∧ (0 ≤ (kI).toInt ∧ (kI).toInt < (mI).toInt) ∧ u = 0) ∨ (r = 0 ∧ (¬ u = 0))) (fun (u : Int32) t => va_P (dC, dI) vwCl (WR a k h0 (fT vi 0 u) vj vF vG) t.heap ∧ va_D (va_A (WR a k h0 vi vj vF vG) sz) (WR a k h0 (fT vi 0 u) vj vF vG)) (va_A (WR a k h0 vi vj vF vG) sz)) 0 0 (va_A (WR a k h0 vi vj vF vG) sz) := by
  refine Met.ofW (cc := cX12_canTell) (maxL := 3) (ret := (some .boolean)) (by decide) rfl ?_
  intro p e s m args below meth c s₁ B hml hv
  obtain ⟨rfl, hsz, hP, hK, hD0⟩ := hv
  have hx := B.exec
  have hb := B.bytes
  have hr := B.returns
  have hts := atoms_spec (ws := wsRX12_canTell) B.pre
  have hown : s.vm.findClass RX12 = some m.cls := findClass_of_methodNamed B.named
  have hlocks := B.notSynchronized
  subst hsz
  have hD := hD0.self (sz := s.heap.size)
  generalize hAe : va_A (WR a k h0 vi vj vF vG) s.heap.size = A at hD ⊢
  have hA : ∀ q : Nat, s.heap.size ≤ q → A q := fun q h => by rw [← hAe]; exact Or.inr h
  have hS : va_S A s.heap s.heap [] := va_S.rf
  have hl := lv_entry ([.ref h0, .int kI, .int mI]) (n := 3) (Nat.le_of_ble_eq_true rfl)
  rw [lg_entry_eq]
  generalize (lg_sl ([.ref h0, .int kI, .int mI]) ++ List.replicate (3 - (lg_sl ([.ref h0, .int kI, .int mI])).length) Slot.unset).toArray = ls at hl ⊢
  have hl : lv_has ls 3 [(0, .ref h0), (1, .int kI), (2, .int mI)] := hl
  refine lv_aload_n hx hb dX12_canTell_0 rfl (lv_at hl 0 rfl) ?_
  refine lv_aload_n hx hb dX12_canTell_1 rfl (lv_at hl 0 rfl) ?_
  refine va_get (D := (dC, dI)) (ci := 12) (v := .int (vi 95)) (C := RX12) (T := TX12) (N := 163) (fs := fM (vS a vi vj)) hx hb hts iwsRX12_canTell_in12 hown hK hP 0 rfl rfl 95 (by decide) (hts (.fieldLink RX12 808 "OptimaWorksModel" "isModel" "Z") (by decide +kernel)) (fun _ h9 => h9) rfl dX12_canTell_2 ?_
  refine lv_if_eq (tgt := 15) hx hb dX12_canTell_5 (by decide) (fun c_5 => ?_) (fun c_5 => ?_)
  · have t_5 : ((vi 95)).toInt = 0 := toI_eq c_5 rfl (by decide)
    refine lv_iconst (v := 1) hx hb dX12_canTell_15 (by decide) ?_
    refine lv_goto (tgt := 33) hx hb dX12_canTell_16 (by decide) ?_
    refine va_put (D := (dC, dI)) (ci := 12) (v := .int 1) (ty := .int) (C := RX12) (T := TX12) (N := 163) (fs := fM (vS a vi vj)) hx hb hts iwsRX12_canTell_in12 tyX12 tyX12_ok nmX12 hown hK hP hD hS 0 rfl rfl 0 (by decide) (hts _ hm_r_X12_canTell_0) (fun _ h9 => h9) rfl (by decide +kernel) rfl rfl (Nat.le_of_ble_eq_true rfl) dX12_canTell_33 (fun H locs hP hD hS => ?_)
    have hP : va_P (dC, dI) vwCl (WR a k h0 (fT vi 0 1) vj vF vG) H := fz_w (WR_i 0 _ rfl) hP
    have hD : va_D A (WR a k h0 (fT vi 0 1) vj vF vG) := fz_wD (WR_i 0 _ rfl) hD
    refine lv_aload_n hx hb dX12_canTell_36 rfl (lv_at hl 0 rfl) ?_
    refine va_get (D := (dC, dI)) (ci := 12) (v := .int 1) (C := RX12) (T := TX12) (N := 163) (fs := fM (vS a (fT vi 0 1) vj)) hx hb hts iwsRX12_canTell_in12 hown hK hP 0 rfl rfl 0 (by decide) (hts _ hm_r_X12_canTell_0) (fun _ h9 => h9) rfl dX12_canTell_37 ?_
    refine lv_if_ne (tgt := 47) hx hb dX12_canTell_40 (by decide) (fun _ => ?_) (fun c9 => absurd c9 (by decide))
    refine lv_iconst (v := 0) hx hb dX12_canTell_47 (by decide) ?_
    refine W.widen (k := 0) (n := 0) (by decide +kernel) (by decide +kernel) ?_
    exact W.zret (v := 0) hx hb hr rfl (fun t9_ ht hW => ⟨⟨0, 1, rfl, by (try dsimp only); exact Or.inr ⟨rfl, by decide⟩, by rw [ht]; exact hP, hD⟩, hS.F ht⟩) hS.2.2 dX12_canTell_48
  · have t_5 : ¬ ((vi 95)).toInt = 0 := toI_neq c_5 rfl (by decide)
    refine lv_aload_n hx hb dX12_canTell_8 rfl (lv_at hl 0 rfl) ?_
    refine va_get (D := (dC, dI)) (ci := 12) (v := .int (vi 113)) (C := RX12) (T := TX12) (N := 163) (fs := fM (vS a vi vj)) hx hb hts iwsRX12_canTell_in12 hown hK hP 0 rfl rfl 113 (by decide) (hts (.fieldLink RX12 811 "OptimaWorksModel" "hasAnswer" "Z") (by decide +kernel)) (fun _ h9 => h9) rfl dX12_canTell_9 ?_
    refine lv_if_ne (tgt := 19) hx hb dX12_canTell_12 (by decide) (fun c_12 => ?_) (fun c_12 => ?_)
    · have t_12 : ((vi 113)).toInt ≠ 0 := toI_ne c_12 rfl (by decide)
      refine lv_iload_n hx hb dX12_canTell_19 rfl (lv_at hl 1 rfl) ?_
      refine lv_if_lt (tgt := 28) hx hb dX12_canTell_20 (by decide) (fun c_20 => ?_) (fun c_20 => ?_)
      · have t_20 : (kI).toInt < 0 := toI_lt c_20 rfl (by decide)
        refine lv_iconst (v := 2) hx hb dX12_canTell_28 (by decide) ?_
        refine lv_goto (tgt := 33) hx hb dX12_canTell_29 (by decide) ?_
        refine va_put (D := (dC, dI)) (ci := 12) (v := .int 2) (ty := .int) (C := RX12) (T := TX12) (N := 163) (fs := fM (vS a vi vj)) hx hb hts iwsRX12_canTell_in12 tyX12 tyX12_ok nmX12 hown hK hP hD hS 0 rfl rfl 0 (by decide) (hts _ hm_r_X12_canTell_0) (fun _ h9 => h9) rfl (by decide +kernel) rfl rfl (Nat.le_of_ble_eq_true rfl) dX12_canTell_33 (fun H locs hP hD hS => ?_)
        have hP : va_P (dC, dI) vwCl (WR a k h0 (fT vi 0 2) vj vF vG) H := fz_w (WR_i 0 _ rfl) hP
        have hD : va_D A (WR a k h0 (fT vi 0 2) vj vF vG) := fz_wD (WR_i 0 _ rfl) hD
        refine lv_aload_n hx hb dX12_canTell_36 rfl (lv_at hl 0 rfl) ?_
        refine va_get (D := (dC, dI)) (ci := 12) (v := .int 2) (C := RX12) (T := TX12) (N := 163) (fs := fM (vS a (fT vi 0 2) vj)) hx hb hts iwsRX12_canTell_in12 hown hK hP 0 rfl rfl 0 (by decide) (hts _ hm_r_X12_canTell_0) (fun _ h9 => h9) rfl dX12_canTell_37 ?_
        refine lv_if_ne (tgt := 47) hx hb dX12_canTell_40 (by decide) (fun _ => ?_) (fun c9 => absurd c9 (by decide))
        refine lv_iconst (v := 0) hx hb dX12_canTell_47 (by decide) ?_
        refine W.widen (k := 0) (n := 0) (by decide +kernel) (by decide +kernel) ?_
        exact W.zret (v := 0) hx hb hr rfl (fun t9_ ht hW => ⟨⟨0, 2, rfl, by (try dsimp only); exact Or.inr ⟨rfl, by decide⟩, by rw [ht]; exact hP, hD⟩, hS.F ht⟩) hS.2.2 dX12_canTell_48
      · have t_20 : ¬ (kI).toInt < 0 := toI_nlt c_20 rfl (by decide)
        refine lv_iload_n hx hb dX12_canTell_23 rfl (lv_at hl 1 rfl) ?_
        refine lv_iload_n hx hb dX12_canTell_24 rfl (lv_at hl 2 rfl) ?_
        refine lv_icmp_lt (tgt := 32) hx hb dX12_canTell_25 (by decide) (fun c_25 => ?_) (fun c_25 => ?_)
        · have t_25 : (kI).toInt < (mI).toInt := toI_lt c_25 rfl rfl
          refine lv_iconst (v := 0) hx hb dX12_canTell_32 (by decide) ?_
          refine va_put (D := (dC, dI)) (ci := 12) (v := .int 0) (ty := .int) (C := RX12) (T := TX12) (N := 163) (fs := fM (vS a vi vj)) hx hb hts iwsRX12_canTell_in12 tyX12 tyX12_ok nmX12 hown hK hP hD hS 0 rfl rfl 0 (by decide) (hts _ hm_r_X12_canTell_0) (fun _ h9 => h9) rfl (by decide +kernel) rfl rfl (Nat.le_of_ble_eq_true rfl) dX12_canTell_33 (fun H locs hP hD hS => ?_)
          have hP : va_P (dC, dI) vwCl (WR a k h0 (fT vi 0 0) vj vF vG) H := fz_w (WR_i 0 _ rfl) hP
          have hD : va_D A (WR a k h0 (fT vi 0 0) vj vF vG) := fz_wD (WR_i 0 _ rfl) hD
          refine lv_aload_n hx hb dX12_canTell_36 rfl (lv_at hl 0 rfl) ?_
          refine va_get (D := (dC, dI)) (ci := 12) (v := .int 0) (C := RX12) (T := TX12) (N := 163) (fs := fM (vS a (fT vi 0 0) vj)) hx hb hts iwsRX12_canTell_in12 hown hK hP 0 rfl rfl 0 (by decide) (hts _ hm_r_X12_canTell_0) (fun _ h9 => h9) rfl dX12_canTell_37 ?_
          refine lv_if_ne (tgt := 47) hx hb dX12_canTell_40 (by decide) (fun c9 => absurd c9 (by decide)) (fun _ => ?_)
          refine lv_iconst (v := 1) hx hb dX12_canTell_43 (by decide) ?_
          refine lv_goto (tgt := 48) hx hb dX12_canTell_44 (by decide) ?_
          refine W.widen (k := 0) (n := 0) (by decide +kernel) (by decide +kernel) ?_
          exact W.zret (v := 1) hx hb hr rfl (fun t9_ ht hW => ⟨⟨1, 0, rfl, by (try dsimp only); exact Or.inl ⟨rfl, c_5, c_12, by omega, rfl⟩, by rw [ht]; exact hP, hD⟩, hS.F ht⟩) hS.2.2 dX12_canTell_48
        · have t_25 : ¬ (kI).toInt < (mI).toInt := toI_nlt c_25 rfl rfl
          refine lv_iconst (v := 2) hx hb dX12_canTell_28 (by decide) ?_
          refine lv_goto (tgt := 33) hx hb dX12_canTell_29 (by decide) ?_
          refine va_put (D := (dC, dI)) (ci := 12) (v := .int 2) (ty := .int) (C := RX12) (T := TX12) (N := 163) (fs := fM (vS a vi vj)) hx hb hts iwsRX12_canTell_in12 tyX12 tyX12_ok nmX12 hown hK hP hD hS 0 rfl rfl 0 (by decide) (hts _ hm_r_X12_canTell_0) (fun _ h9 => h9) rfl (by decide +kernel) rfl rfl (Nat.le_of_ble_eq_true rfl) dX12_canTell_33 (fun H locs hP hD hS => ?_)
          have hP : va_P (dC, dI) vwCl (WR a k h0 (fT vi 0 2) vj vF vG) H := fz_w (WR_i 0 _ rfl) hP
          have hD : va_D A (WR a k h0 (fT vi 0 2) vj vF vG) := fz_wD (WR_i 0 _ rfl) hD
          refine lv_aload_n hx hb dX12_canTell_36 rfl (lv_at hl 0 rfl) ?_
          refine va_get (D := (dC, dI)) (ci := 12) (v := .int 2) (C := RX12) (T := TX12) (N := 163) (fs := fM (vS a (fT vi 0 2) vj)) hx hb hts iwsRX12_canTell_in12 hown hK hP 0 rfl rfl 0 (by decide) (hts _ hm_r_X12_canTell_0) (fun _ h9 => h9) rfl dX12_canTell_37 ?_
          refine lv_if_ne (tgt := 47) hx hb dX12_canTell_40 (by decide) (fun _ => ?_) (fun c9 => absurd c9 (by decide))
          refine lv_iconst (v := 0) hx hb dX12_canTell_47 (by decide) ?_
          refine W.widen (k := 0) (n := 0) (by decide +kernel) (by decide +kernel) ?_
          exact W.zret (v := 0) hx hb hr rfl (fun t9_ ht hW => ⟨⟨0, 2, rfl, by (try dsimp only); exact Or.inr ⟨rfl, by decide⟩, by rw [ht]; exact hP, hD⟩, hS.F ht⟩) hS.2.2 dX12_canTell_48
    · have t_12 : ((vi 113)).toInt = 0 := toI_nne c_12 rfl (by decide)
      refine lv_iconst (v := 1) hx hb dX12_canTell_15 (by decide) ?_
      refine lv_goto (tgt := 33) hx hb dX12_canTell_16 (by decide) ?_
      refine va_put (D := (dC, dI)) (ci := 12) (v := .int 1) (ty := .int) (C := RX12) (T := TX12) (N := 163) (fs := fM (vS a vi vj)) hx hb hts iwsRX12_canTell_in12 tyX12 tyX12_ok nmX12 hown hK hP hD hS 0 rfl rfl 0 (by decide) (hts _ hm_r_X12_canTell_0) (fun _ h9 => h9) rfl (by decide +kernel) rfl rfl (Nat.le_of_ble_eq_true rfl) dX12_canTell_33 (fun H locs hP hD hS => ?_)
      have hP : va_P (dC, dI) vwCl (WR a k h0 (fT vi 0 1) vj vF vG) H := fz_w (WR_i 0 _ rfl) hP
      have hD : va_D A (WR a k h0 (fT vi 0 1) vj vF vG) := fz_wD (WR_i 0 _ rfl) hD
      refine lv_aload_n hx hb dX12_canTell_36 rfl (lv_at hl 0 rfl) ?_
      refine va_get (D := (dC, dI)) (ci := 12) (v := .int 1) (C := RX12) (T := TX12) (N := 163) (fs := fM (vS a (fT vi 0 1) vj)) hx hb hts iwsRX12_canTell_in12 hown hK hP 0 rfl rfl 0 (by decide) (hts _ hm_r_X12_canTell_0) (fun _ h9 => h9) rfl dX12_canTell_37 ?_
      refine lv_if_ne (tgt := 47) hx hb dX12_canTell_40 (by decide) (fun _ => ?_) (fun c9 => absurd c9 (by decide))
      refine lv_iconst (v := 0) hx hb dX12_canTell_47 (by decide) ?_
      refine W.widen (k := 0) (n := 0) (by decide +kernel) (by decide +kernel) ?_
      exact W.zret (v := 0) hx hb hr rfl (fun t9_ ht hW => ⟨⟨0, 1, rfl, by (try dsimp only); exact Or.inr ⟨rfl, by decide⟩, by rw [ht]; exact hP, hD⟩, hS.F ht⟩) hS.2.2 dX12_canTell_48
theorem dX12_value_0 : decode cX12_value 0 = .ok (.aload_n 0, 1) := dk_42 (by decide +kernel)
theorem dX12_value_1 : decode cX12_value 1 = .ok (.iload_n 1, 1) := dk_27 (by decide +kernel)
theorem dX12_value_2 : decode cX12_value 2 = .ok (.aload_n 0, 1) := dk_42 (by decide +kernel)
theorem dX12_value_3 : decode cX12_value 3 = .ok (.getfield 774, 3) := dk_180 (by decide +kernel)
theorem dX12_value_6 : decode cX12_value 6 = .ok (.invokevirtual 944, 3) := dk_182 (by decide +kernel)
theorem dX12_value_9 : decode cX12_value 9 = .ok (.ifCond .ne 5, 3) := dk_154 (by decide +kernel)
theorem dX12_value_12 : decode cX12_value 12 = .ok (.iconst 0, 1) := dk_3 (by decide +kernel)
theorem dX12_value_13 : decode cX12_value 13 = .ok (.ireturn, 1) := dk_172 (by decide +kernel)
theorem dX12_value_14 : decode cX12_value 14 = .ok (.aload_n 0, 1) := dk_42 (by decide +kernel)
theorem dX12_value_15 : decode cX12_value 15 = .ok (.iconst 0, 1) := dk_3 (by decide +kernel)
theorem dX12_value_16 : decode cX12_value 16 = .ok (.putfield 933, 3) := dk_181 (by decide +kernel)
theorem dX12_value_19 : decode cX12_value 19 = .ok (.aload_n 0, 1) := dk_42 (by decide +kernel)
theorem dX12_value_20 : decode cX12_value 20 = .ok (.sipush 1000, 3) := dk_17 (by decide +kernel)
theorem dX12_value_23 : decode cX12_value 23 = .ok (.iload_n 1, 1) := dk_27 (by decide +kernel)
theorem dX12_value_24 : decode cX12_value 24 = .ok (.iadd, 1) := dk_96 (by decide +kernel)
theorem dX12_value_25 : decode cX12_value 25 = .ok (.sipush 1008, 3) := dk_17 (by decide +kernel)
theorem dX12_value_28 : decode cX12_value 28 = .ok (.invokevirtual 947, 3) := dk_182 (by decide +kernel)
theorem dX12_value_31 : decode cX12_value 31 = .ok (.aload_n 0, 1) := dk_42 (by decide +kernel)
theorem dX12_value_32 : decode cX12_value 32 = .ok (.getfield 933, 3) := dk_180 (by decide +kernel)
theorem dX12_value_35 : decode cX12_value 35 = .ok (.ireturn, 1) := dk_172 (by decide +kernel)
def wsRX12_value : List Cond := .code yX12_value cX12_value 2 (some .int) :: ([.fieldLink RX12 774 "OptimaWorksModel" "variables" "I", .fieldLink RX12 933 "OptimaWorksModel" "printed" "I"] ++ wsX120 ++ (wsV RX12 944 RX12 yX12_canTell wsRX12_canTell) ++ (wsV RX12 947 RX12 yX12_sayFraction wsRX12_sayFraction))
theorem iwsRX12_value_in12 : ∀ w ∈ wsX120, w ∈ wsRX12_value := fun _ h => List.mem_cons_of_mem _ (List.mem_append_left _ (List.mem_append_left _ (List.mem_append_right _ h)))
theorem gwsRX12_value_0 : GoodIn wsRX12_value (wsV RX12 944 RX12 yX12_canTell wsRX12_canTell) := goodIn_sub (fun _ h => List.mem_cons_of_mem _ (List.mem_append_left _ (List.mem_append_right _ h))) (gdV (by decide +kernel) gdwsRX12_canTell)
theorem gwsRX12_value_1 : GoodIn wsRX12_value (wsV RX12 947 RX12 yX12_sayFraction wsRX12_sayFraction) := goodIn_sub (fun _ h => List.mem_cons_of_mem _ (List.mem_append_right _ h)) (gdV (by decide +kernel) gdwsRX12_sayFraction)
theorem gdwsRX12_value : wsRX12_value.all goodWord = true := gdC rfl (gdA (gdA (gdA (by decide +kernel : ([.fieldLink RX12 774 "OptimaWorksModel" "variables" "I", .fieldLink RX12 933 "OptimaWorksModel" "printed" "I"] : List Cond).all goodWord = true) gdwsX120) (gdV (by decide +kernel) gdwsRX12_canTell)) (gdV (by decide +kernel) gdwsRX12_sayFraction))
theorem hm_r_X12_value_0 : (.fieldLink RX12 933 "OptimaWorksModel" "printed" "I" : Cond) ∈ wsRX12_value := by decide +kernel
set_option maxHeartbeats 4000000 in
set_option maxRecDepth 100000 in
/-- value(k) -/
theorem r_X12_value (l : Launch) (dC : Nat → ClassId) (dI : Nat → Nat → Nat) (a : Nat → Nat) (k : Nat → ClassId) (h0 : Nat) (vi : Nat → Int32) (vj : Nat → Int64) (vF : Nat → Nat → Int32) (vG : Nat → Nat → Int64) (kI : Int32) (vn : Nat) (gq : Nat) (pn : Nat) (mg : Nat → Int) (hBg : Bg (vF 0) mg) (hpn : vi 125 = nI pn) (hpn2 : pn ≤ 30000) (hvn : vi 90 = nI vn) (hvn8 : vn ≤ 8) (hPp : vi 113 ≠ 0 → AnsP mg 1000 gq) (sz : Nat) : Met l yX12_value wsRX12_value ({ frames := 5, cells := 0, slots := 0, locals := 129 }) (va_Pc [.ref h0, .int kI] (fun U => U.heap.size = sz ∧ va_P (dC, dI) vwCl (WR a k h0 vi vj vF vG) U.heap ∧ va_K (dC, dI) vwCl (tX12 k) U ∧ va_D (fun _ => True) (WR a k h0 vi vj vF vG))) (va_Qi (fun (r : Int32) (u : (Int32) × (Nat → Int32) × (Nat → Int32) × (Nat → Int32) × (Nat → Int64) × (Nat → Int32) × (Nat) × (Nat → Int32) × (Nat → Int)) => (Bg (u.2.1) (u.2.2.2.2.2.2.2.2)) ∧ ((u.2.2.2.2.2.2.1) ≤ 30000) ∧ (∀ q, 1000 ≤ q → (u.2.2.2.2.2.2.2.2) q = mg q)) (fun (u : (Int32) × (Nat → Int32) × (Nat → Int32) × (Nat → Int32) × (Nat → Int64) × (Nat → Int32) × (Nat) × (Nat → Int32) × (Nat → Int)) t => va_P (dC, dI) vwCl (WR a k h0 (fT (fT vi 0 (u.1)) 125 (nI (u.2.2.2.2.2.2.1))) vj (fT (fT (fT (fT (fT vF 0 (u.2.1)) 2 (u.2.2.1)) 3 (u.2.2.2.1)) 75 (u.2.2.2.2.2.2.2.1)) 76 (u.2.2.2.2.2.1)) (fT vG 1 (u.2.2.2.2.1))) t.heap ∧ va_D (va_A (WR a k h0 vi vj vF vG) sz) (WR a k h0 (fT (fT vi 0 (u.1)) 125 (nI (u.2.2.2.2.2.2.1))) vj (fT (fT (fT (fT (fT vF 0 (u.2.1)) 2 (u.2.2.1)) 3 (u.2.2.2.1)) 75 (u.2.2.2.2.2.2.2.1)) 76 (u.2.2.2.2.2.1)) (fT vG 1 (u.2.2.2.2.1)))) (va_A (WR a k h0 vi vj vF vG) sz)) 0 0 (va_A (WR a k h0 vi vj vF vG) sz) := by
  refine Met.ofW (cc := cX12_value) (maxL := 2) (ret := (some .int)) (by decide) rfl ?_
  intro p e s m args below meth c s₁ B hml hv
  obtain ⟨rfl, hsz, hP, hK, hD0⟩ := hv
  have hx := B.exec
  have hb := B.bytes
  have hr := B.returns
  have hts := atoms_spec (ws := wsRX12_value) B.pre
  have hown : s.vm.findClass RX12 = some m.cls := findClass_of_methodNamed B.named
  have hlocks := B.notSynchronized
  subst hsz
  have hD := hD0.self (sz := s.heap.size)
  generalize hAe : va_A (WR a k h0 vi vj vF vG) s.heap.size = A at hD ⊢
  have hA : ∀ q : Nat, s.heap.size ≤ q → A q := fun q h => by rw [← hAe]; exact Or.inr h
  have hS : va_S A s.heap s.heap [] := va_S.rf
  have hl := lv_entry ([.ref h0, .int kI]) (n := 2) (Nat.le_of_ble_eq_true rfl)
  rw [lg_entry_eq]
  generalize (lg_sl ([.ref h0, .int kI]) ++ List.replicate (2 - (lg_sl ([.ref h0, .int kI])).length) Slot.unset).toArray = ls at hl ⊢
  have hl : lv_has ls 2 [(0, .ref h0), (1, .int kI)] := hl
  refine lv_aload_n hx hb dX12_value_0 rfl (lv_at hl 0 rfl) ?_
  refine lv_iload_n hx hb dX12_value_1 rfl (lv_at hl 1 rfl) ?_
  refine lv_aload_n hx hb dX12_value_2 rfl (lv_at hl 0 rfl) ?_
  refine va_get (D := (dC, dI)) (ci := 12) (v := .int (vi 90)) (C := RX12) (T := TX12) (N := 163) (fs := fM (vS a vi vj)) hx hb hts iwsRX12_value_in12 hown hK hP 0 rfl rfl 90 (by decide) (hts (.fieldLink RX12 774 "OptimaWorksModel" "variables" "I") (by decide +kernel)) (fun _ h9 => h9) rfl dX12_value_3 ?_
  refine lv_topi (fun y1 hy1 => ?_)
  obtain rfl : (nI vn) = y1 := (hy1.trans (hvn)).symm
  have hFc := allFree hD hS hA
  refine va_calli (va_runV (As := [.int kI, .int (nI vn)]) (rest := []) ⟨hx, hb, hml, hown, hts⟩ (r_X12_canTell l dC dI a k h0 vi vj vF vG kI (nI vn) s.heap.size) (cwV 2 hts gwsRX12_value_0 rfl rfl rfl hd_yX12_canTell_RX12 (by decide +kernel)) (fz_pre (va_recv hK hP (ci := 12) (q0 := 0) rfl rfl) hP hK hD) rfl rfl hl.1 rfl (lv_room (Nat.le_of_ble_eq_true rfl)) dX12_value_6 (by decide +kernel)) hS (fun q _ h => hFc q h) hFc (fun r6 th6 t9_ H locs ht hvm hw9 hB9 hz1 hk1 hS => ?_)
  have hP : va_P (dC, dI) vwCl (WR a k h0 (fT vi 0 th6) vj vF vG) H := fz_P ht hB9.1
  have hD := fz_sd hP (hB9.2.weaken (fun _ q _ h => hFc q.1 h)) rfl
  rcases hw9 with ⟨rfl, f6_0, f6_1, f6_2, rfl⟩ | ⟨rfl, f6_0⟩
  · have f6_0 : (vi 95) ≠ 0 := f6_0
    have f6_1 : (vi 113) ≠ 0 := f6_1
    refine lv_if_ne (tgt := 14) hx hb dX12_value_9 (by decide) (fun _ => ?_) (fun c9 => absurd c9 (by decide))
    have evn : (nI vn).toInt = (vn : Int) := nI_toInt (by omega)
    obtain ⟨kn, h_kn, rfl⟩ := of_toInt (x := kI) (k := 8) (by omega) (by omega)
    have e_kn : (nI kn).toInt = (kn : Int) := nI_toInt (by omega)
    refine lv_aload_n hx hb dX12_value_14 rfl (lv_at hl 0 rfl) ?_
    refine lv_iconst (v := 0) hx hb dX12_value_15 (by decide) ?_
    refine va_put (D := (dC, dI)) (ci := 12) (v := .int 0) (ty := .int) (C := RX12) (T := TX12) (N := 163) (fs := fM (vS a (fT vi 0 0) vj)) hx hb hts iwsRX12_value_in12 tyX12 tyX12_ok nmX12 hown hK hP hD hS 0 rfl rfl 125 (by decide) (hts _ hm_r_X12_value_0) (fun _ h9 => h9) rfl (by decide +kernel) rfl rfl (Nat.le_of_ble_eq_true rfl) dX12_value_16 (fun H locs hP hD hS => ?_)
    have hP : va_P (dC, dI) vwCl (WR a k h0 (fT (fT vi 0 0) 125 0) vj vF vG) H := fz_w (WR_i 125 _ rfl) hP
    have hD : va_D A (WR a k h0 (fT (fT vi 0 0) 125 0) vj vF vG) := fz_wD (WR_i 125 _ rfl) hD
    refine lv_aload_n hx hb dX12_value_19 rfl (lv_at hl 0 rfl) ?_
    refine lv_sipush (v := 1000) hx hb dX12_value_20 (by decide) ?_
    refine lv_iload_n hx hb dX12_value_23 rfl (lv_at hl 1 rfl) ?_
    refine lv_iadd hx hb dX12_value_24 ?_
    refine lv_topi (fun y2 hy2 => ?_)
    obtain rfl : (nI (1000 + kn)) = y2 := (hy2.trans (nI_add 1000 kn)).symm
    refine lv_sipush (v := 1008) hx hb dX12_value_25 (by decide) ?_
    have hFc := allFree hD hS hA
    refine va_callv (va_runV (As := [.int (nI (1000 + kn)), .int 1008]) (rest := []) ⟨hx, hb, hml, hown, hts⟩ (r_X12_sayFraction l dC dI a k h0 (fT (fT vi 0 0) 125 0) vj vF vG (1000 + kn) 1008 0 mg hBg (show (0 : Int32) = nI 0 from by decide) (by first | with_reducible assumption | decide | omega | rfl | assumption) (by first | with_reducible assumption | decide | omega | rfl | assumption) (by first | with_reducible assumption | decide | omega | rfl | assumption) (by (have h9 := (hPp f6_1).1); show mg 1008 ≠ 0; (have h8 : 0 < mg 1008 := h9); omega) H.size) (cwV 2 hts gwsRX12_value_1 rfl rfl rfl hd_yX12_sayFraction_RX12 (by decide +kernel)) (fz_pre (va_recv hK hP (ci := 12) (q0 := 0) rfl rfl) hP hK hD) rfl rfl hl.1 rfl (lv_room (Nat.le_of_ble_eq_true rfl)) dX12_value_28 (by decide +kernel)) hS (fun q _ h => hFc q h) hFc (fun u t9_ H locs ht hvm hw9 hB9 hz1 hk1 hS => ?_)
    revert u hw9 hB9
    refine fz_p8 ?_
    intro g28 f2w28 f3w28 gs28 f7628 p228 f7528 m228 hw9 hB9
    try dsimp only at hw9 hB9
    have e9i : fT (fT vi 0 0) 125 (nI p228) = fT (fT (fT vi 0 0) 125 0) 125 (nI p228) := (fT_sm _ _ _ _).symm
    have hP := wr_Pi e9i (fz_P ht hB9.1)
    have hD := wr_Di e9i (hB9.2.weaken (fun _ q _ h => hFc q.1 h))
    clear e9i
    revert hw9
    refine fz_a3 ?_
    intro f28_0 f28_1 f28_2
    refine lv_aload_n hx hb dX12_value_31 rfl (lv_at hl 0 rfl) ?_
    refine va_get (D := (dC, dI)) (ci := 12) (v := .int (nI p228)) (C := RX12) (T := TX12) (N := 163) (fs := fM (vS a (fT (fT vi 0 0) 125 (nI p228)) vj)) hx hb hts iwsRX12_value_in12 hown hK hP 0 rfl rfl 125 (by decide) (hts _ hm_r_X12_value_0) (fun _ h9 => h9) rfl dX12_value_32 ?_
    refine W.widen (k := 0) (n := 0) (by decide +kernel) (by decide +kernel) ?_
    exact W.iret (v := (nI p228)) hx hb hr (fun t9_ ht hW => ⟨⟨(nI p228), (0, g28, f2w28, f3w28, gs28, f7628, p228, f7528, m228), rfl, by (try dsimp only); exact ⟨f28_0, by first | assumption | omega, fun q hq => by (rw [f28_2 _ (by omega)])⟩, by rw [ht]; exact hP, hD⟩, hS.F ht⟩) hS.2.2 dX12_value_35
  · refine lv_if_ne (tgt := 14) hx hb dX12_value_9 (by decide) (fun c9 => absurd c9 (by decide)) (fun _ => ?_)
    refine lv_iconst (v := 0) hx hb dX12_value_12 (by decide) ?_
    refine W.widen (k := 0) (n := 0) (by decide +kernel) (by decide +kernel) ?_
    have e9 : fT (fT vi 0 th6) 125 (nI pn) = fT vi 0 th6 := Eq.trans (congrArg (fT _ 125) (show nI pn = vi 125 from (by first | with_reducible rfl | with_reducible assumption | (symm; with_reducible assumption) | rfl | assumption | (symm; assumption) | (subst_vars; rfl)))) (id_1 rfl)
    have hP := wr_Pi e9 hP
    have hD := wr_Di e9 hD
    clear e9
    have e9 : fT (fT (fT (fT (fT vF 0 (vF 0)) 2 (vF 2)) 3 (vF 3)) 75 (vF 75)) 76 (vF 76) = vF := Eq.trans (mv_4 rfl) (Eq.trans (id_4 rfl) (Eq.trans (mv_3 rfl) (Eq.trans (id_3 rfl) (Eq.trans (mv_2 rfl) (Eq.trans (id_2 rfl) (Eq.trans (mv_1 rfl) (Eq.trans (id_1 rfl) (id_0 rfl))))))))
    have hP := wr_PF e9 hP
    have hD := wr_DF e9 hD
    clear e9
    have e9 : fT vG 1 (vG 1) = vG := fT_id _ _ (rfl)
    have hP := wr_PG e9 hP
    have hD := wr_DG e9 hD
    clear e9
    exact W.iret (v := 0) hx hb hr (fun t9_ ht hW => ⟨⟨0, (th6, (vF 0), (vF 2), (vF 3), (vG 1), (vF 76), pn, (vF 75), mg), rfl, by (try dsimp only); exact ⟨hBg, by first | assumption | omega, fun q _ => rfl⟩, by rw [ht]; exact hP, hD⟩, hS.F ht⟩) hS.2.2 dX12_value_13
theorem dX12_best_0 : decode cX12_best 0 = .ok (.aload_n 0, 1) := dk_42 (by decide +kernel)
theorem dX12_best_1 : decode cX12_best 1 = .ok (.iload_n 1, 1) := dk_27 (by decide +kernel)
theorem dX12_best_2 : decode cX12_best 2 = .ok (.aload_n 0, 1) := dk_42 (by decide +kernel)
theorem dX12_best_3 : decode cX12_best 3 = .ok (.getfield 805, 3) := dk_180 (by decide +kernel)
theorem dX12_best_6 : decode cX12_best 6 = .ok (.invokevirtual 944, 3) := dk_182 (by decide +kernel)
theorem dX12_best_9 : decode cX12_best 9 = .ok (.ifCond .ne 5, 3) := dk_154 (by decide +kernel)
theorem dX12_best_12 : decode cX12_best 12 = .ok (.iconst 0, 1) := dk_3 (by decide +kernel)
theorem dX12_best_13 : decode cX12_best 13 = .ok (.ireturn, 1) := dk_172 (by decide +kernel)
theorem dX12_best_14 : decode cX12_best 14 = .ok (.aload_n 0, 1) := dk_42 (by decide +kernel)
theorem dX12_best_15 : decode cX12_best 15 = .ok (.iconst 0, 1) := dk_3 (by decide +kernel)
theorem dX12_best_16 : decode cX12_best 16 = .ok (.putfield 933, 3) := dk_181 (by decide +kernel)
theorem dX12_best_19 : decode cX12_best 19 = .ok (.aload_n 0, 1) := dk_42 (by decide +kernel)
theorem dX12_best_20 : decode cX12_best 20 = .ok (.sipush 1010, 3) := dk_17 (by decide +kernel)
theorem dX12_best_23 : decode cX12_best 23 = .ok (.iload_n 1, 1) := dk_27 (by decide +kernel)
theorem dX12_best_24 : decode cX12_best 24 = .ok (.iadd, 1) := dk_96 (by decide +kernel)
theorem dX12_best_25 : decode cX12_best 25 = .ok (.sipush 1013, 3) := dk_17 (by decide +kernel)
theorem dX12_best_28 : decode cX12_best 28 = .ok (.iload_n 1, 1) := dk_27 (by decide +kernel)
theorem dX12_best_29 : decode cX12_best 29 = .ok (.iadd, 1) := dk_96 (by decide +kernel)
theorem dX12_best_30 : decode cX12_best 30 = .ok (.invokevirtual 947, 3) := dk_182 (by decide +kernel)
theorem dX12_best_33 : decode cX12_best 33 = .ok (.aload_n 0, 1) := dk_42 (by decide +kernel)
theorem dX12_best_34 : decode cX12_best 34 = .ok (.getfield 933, 3) := dk_180 (by decide +kernel)
theorem dX12_best_37 : decode cX12_best 37 = .ok (.ireturn, 1) := dk_172 (by decide +kernel)
def wsRX12_best : List Cond := .code yX12_best cX12_best 2 (some .int) :: ([.fieldLink RX12 805 "OptimaWorksModel" "modelGoals" "I", .fieldLink RX12 933 "OptimaWorksModel" "printed" "I"] ++ wsX120 ++ (wsV RX12 944 RX12 yX12_canTell wsRX12_canTell) ++ (wsV RX12 947 RX12 yX12_sayFraction wsRX12_sayFraction))
theorem iwsRX12_best_in12 : ∀ w ∈ wsX120, w ∈ wsRX12_best := fun _ h => List.mem_cons_of_mem _ (List.mem_append_left _ (List.mem_append_left _ (List.mem_append_right _ h)))
theorem gwsRX12_best_0 : GoodIn wsRX12_best (wsV RX12 944 RX12 yX12_canTell wsRX12_canTell) := goodIn_sub (fun _ h => List.mem_cons_of_mem _ (List.mem_append_left _ (List.mem_append_right _ h))) (gdV (by decide +kernel) gdwsRX12_canTell)
theorem gwsRX12_best_1 : GoodIn wsRX12_best (wsV RX12 947 RX12 yX12_sayFraction wsRX12_sayFraction) := goodIn_sub (fun _ h => List.mem_cons_of_mem _ (List.mem_append_right _ h)) (gdV (by decide +kernel) gdwsRX12_sayFraction)
theorem gdwsRX12_best : wsRX12_best.all goodWord = true := gdC rfl (gdA (gdA (gdA (by decide +kernel : ([.fieldLink RX12 805 "OptimaWorksModel" "modelGoals" "I", .fieldLink RX12 933 "OptimaWorksModel" "printed" "I"] : List Cond).all goodWord = true) gdwsX120) (gdV (by decide +kernel) gdwsRX12_canTell)) (gdV (by decide +kernel) gdwsRX12_sayFraction))
theorem hm_r_X12_best_0 : (.fieldLink RX12 933 "OptimaWorksModel" "printed" "I" : Cond) ∈ wsRX12_best := by decide +kernel
set_option maxHeartbeats 4000000 in
set_option maxRecDepth 100000 in
/-- best(g) -/
theorem r_X12_best (l : Launch) (dC : Nat → ClassId) (dI : Nat → Nat → Nat) (a : Nat → Nat) (k : Nat → ClassId) (h0 : Nat) (vi : Nat → Int32) (vj : Nat → Int64) (vF : Nat → Nat → Int32) (vG : Nat → Nat → Int64) (kI : Int32) (gq : Nat) (pn : Nat) (mg : Nat → Int) (hBg : Bg (vF 0) mg) (hpn : vi 125 = nI pn) (hpn2 : pn ≤ 30000) (hmg : vi 93 = nI gq) (hgq : gq ≤ 3) (hPp : vi 113 ≠ 0 → AnsP mg 1000 gq) (sz : Nat) : Met l yX12_best wsRX12_best ({ frames := 5, cells := 0, slots := 0, locals := 129 }) (va_Pc [.ref h0, .int kI] (fun U => U.heap.size = sz ∧ va_P (dC, dI) vwCl (WR a k h0 vi vj vF vG) U.heap ∧ va_K (dC, dI) vwCl (tX12 k) U ∧ va_D (fun _ => True) (WR a k h0 vi vj vF vG))) (va_Qi (fun (r : Int32) (u : (Int32) × (Nat → Int32) × (Nat → Int32) × (Nat → Int32) × (Nat → Int64) × (Nat → Int32) × (Nat) × (Nat → Int32) × (Nat → Int)) => (Bg (u.2.1) (u.2.2.2.2.2.2.2.2)) ∧ ((u.2.2.2.2.2.2.1) ≤ 30000) ∧ (∀ q, 1000 ≤ q → (u.2.2.2.2.2.2.2.2) q = mg q)) (fun (u : (Int32) × (Nat → Int32) × (Nat → Int32) × (Nat → Int32) × (Nat → Int64) × (Nat → Int32) × (Nat) × (Nat → Int32) × (Nat → Int)) t => va_P (dC, dI) vwCl (WR a k h0 (fT (fT vi 0 (u.1)) 125 (nI (u.2.2.2.2.2.2.1))) vj (fT (fT (fT (fT (fT vF 0 (u.2.1)) 2 (u.2.2.1)) 3 (u.2.2.2.1)) 75 (u.2.2.2.2.2.2.2.1)) 76 (u.2.2.2.2.2.1)) (fT vG 1 (u.2.2.2.2.1))) t.heap ∧ va_D (va_A (WR a k h0 vi vj vF vG) sz) (WR a k h0 (fT (fT vi 0 (u.1)) 125 (nI (u.2.2.2.2.2.2.1))) vj (fT (fT (fT (fT (fT vF 0 (u.2.1)) 2 (u.2.2.1)) 3 (u.2.2.2.1)) 75 (u.2.2.2.2.2.2.2.1)) 76 (u.2.2.2.2.2.1)) (fT vG 1 (u.2.2.2.2.1)))) (va_A (WR a k h0 vi vj vF vG) sz)) 0 0 (va_A (WR a k h0 vi vj vF vG) sz) := by
  refine Met.ofW (cc := cX12_best) (maxL := 2) (ret := (some .int)) (by decide) rfl ?_
  intro p e s m args below meth c s₁ B hml hv
  obtain ⟨rfl, hsz, hP, hK, hD0⟩ := hv
  have hx := B.exec
  have hb := B.bytes
  have hr := B.returns
  have hts := atoms_spec (ws := wsRX12_best) B.pre
  have hown : s.vm.findClass RX12 = some m.cls := findClass_of_methodNamed B.named
  have hlocks := B.notSynchronized
  subst hsz
  have hD := hD0.self (sz := s.heap.size)
  generalize hAe : va_A (WR a k h0 vi vj vF vG) s.heap.size = A at hD ⊢
  have hA : ∀ q : Nat, s.heap.size ≤ q → A q := fun q h => by rw [← hAe]; exact Or.inr h
  have hS : va_S A s.heap s.heap [] := va_S.rf
  have hl := lv_entry ([.ref h0, .int kI]) (n := 2) (Nat.le_of_ble_eq_true rfl)
  rw [lg_entry_eq]
  generalize (lg_sl ([.ref h0, .int kI]) ++ List.replicate (2 - (lg_sl ([.ref h0, .int kI])).length) Slot.unset).toArray = ls at hl ⊢
  have hl : lv_has ls 2 [(0, .ref h0), (1, .int kI)] := hl
  refine lv_aload_n hx hb dX12_best_0 rfl (lv_at hl 0 rfl) ?_
  refine lv_iload_n hx hb dX12_best_1 rfl (lv_at hl 1 rfl) ?_
  refine lv_aload_n hx hb dX12_best_2 rfl (lv_at hl 0 rfl) ?_
  refine va_get (D := (dC, dI)) (ci := 12) (v := .int (vi 93)) (C := RX12) (T := TX12) (N := 163) (fs := fM (vS a vi vj)) hx hb hts iwsRX12_best_in12 hown hK hP 0 rfl rfl 93 (by decide) (hts (.fieldLink RX12 805 "OptimaWorksModel" "modelGoals" "I") (by decide +kernel)) (fun _ h9 => h9) rfl dX12_best_3 ?_
  refine lv_topi (fun y1 hy1 => ?_)
  obtain rfl : (nI gq) = y1 := (hy1.trans (hmg)).symm
  have hFc := allFree hD hS hA
  refine va_calli (va_runV (As := [.int kI, .int (nI gq)]) (rest := []) ⟨hx, hb, hml, hown, hts⟩ (r_X12_canTell l dC dI a k h0 vi vj vF vG kI (nI gq) s.heap.size) (cwV 2 hts gwsRX12_best_0 rfl rfl rfl hd_yX12_canTell_RX12 (by decide +kernel)) (fz_pre (va_recv hK hP (ci := 12) (q0 := 0) rfl rfl) hP hK hD) rfl rfl hl.1 rfl (lv_room (Nat.le_of_ble_eq_true rfl)) dX12_best_6 (by decide +kernel)) hS (fun q _ h => hFc q h) hFc (fun r6 th6 t9_ H locs ht hvm hw9 hB9 hz1 hk1 hS => ?_)
  have hP : va_P (dC, dI) vwCl (WR a k h0 (fT vi 0 th6) vj vF vG) H := fz_P ht hB9.1
  have hD := fz_sd hP (hB9.2.weaken (fun _ q _ h => hFc q.1 h)) rfl
  rcases hw9 with ⟨rfl, f6_0, f6_1, f6_2, rfl⟩ | ⟨rfl, f6_0⟩
  · have f6_0 : (vi 95) ≠ 0 := f6_0
    have f6_1 : (vi 113) ≠ 0 := f6_1
    refine lv_if_ne (tgt := 14) hx hb dX12_best_9 (by decide) (fun _ => ?_) (fun c9 => absurd c9 (by decide))
    have evn : (nI gq).toInt = (gq : Int) := nI_toInt (by omega)
    obtain ⟨kn, h_kn, rfl⟩ := of_toInt (x := kI) (k := 3) (by omega) (by omega)
    have e_kn : (nI kn).toInt = (kn : Int) := nI_toInt (by omega)
    refine lv_aload_n hx hb dX12_best_14 rfl (lv_at hl 0 rfl) ?_
    refine lv_iconst (v := 0) hx hb dX12_best_15 (by decide) ?_
    refine va_put (D := (dC, dI)) (ci := 12) (v := .int 0) (ty := .int) (C := RX12) (T := TX12) (N := 163) (fs := fM (vS a (fT vi 0 0) vj)) hx hb hts iwsRX12_best_in12 tyX12 tyX12_ok nmX12 hown hK hP hD hS 0 rfl rfl 125 (by decide) (hts _ hm_r_X12_best_0) (fun _ h9 => h9) rfl (by decide +kernel) rfl rfl (Nat.le_of_ble_eq_true rfl) dX12_best_16 (fun H locs hP hD hS => ?_)
    have hP : va_P (dC, dI) vwCl (WR a k h0 (fT (fT vi 0 0) 125 0) vj vF vG) H := fz_w (WR_i 125 _ rfl) hP
    have hD : va_D A (WR a k h0 (fT (fT vi 0 0) 125 0) vj vF vG) := fz_wD (WR_i 125 _ rfl) hD
    refine lv_aload_n hx hb dX12_best_19 rfl (lv_at hl 0 rfl) ?_
    refine lv_sipush (v := 1010) hx hb dX12_best_20 (by decide) ?_
    refine lv_iload_n hx hb dX12_best_23 rfl (lv_at hl 1 rfl) ?_
    refine lv_iadd hx hb dX12_best_24 ?_
    refine lv_topi (fun y2 hy2 => ?_)
    obtain rfl : (nI (1010 + kn)) = y2 := (hy2.trans (nI_add 1010 kn)).symm
    refine lv_sipush (v := 1013) hx hb dX12_best_25 (by decide) ?_
    refine lv_iload_n hx hb dX12_best_28 rfl (lv_at hl 1 rfl) ?_
    refine lv_iadd hx hb dX12_best_29 ?_
    refine lv_topi (fun y3 hy3 => ?_)
    obtain rfl : (nI (1013 + kn)) = y3 := (hy3.trans (nI_add 1013 kn)).symm
    have hFc := allFree hD hS hA
    refine va_callv (va_runV (As := [.int (nI (1010 + kn)), .int (nI (1013 + kn))]) (rest := []) ⟨hx, hb, hml, hown, hts⟩ (r_X12_sayFraction l dC dI a k h0 (fT (fT vi 0 0) 125 0) vj vF vG (1010 + kn) (1013 + kn) 0 mg hBg (show (0 : Int32) = nI 0 from by decide) (by first | with_reducible assumption | decide | omega | rfl | assumption) (by first | with_reducible assumption | decide | omega | rfl | assumption) (by first | with_reducible assumption | decide | omega | rfl | assumption) (by (have h9 := (hPp f6_1).2 kn (by omega)); (have h8 : 0 < mg (1013 + kn) := h9); omega) H.size) (cwV 2 hts gwsRX12_best_1 rfl rfl rfl hd_yX12_sayFraction_RX12 (by decide +kernel)) (fz_pre (va_recv hK hP (ci := 12) (q0 := 0) rfl rfl) hP hK hD) rfl rfl hl.1 rfl (lv_room (Nat.le_of_ble_eq_true rfl)) dX12_best_30 (by decide +kernel)) hS (fun q _ h => hFc q h) hFc (fun u t9_ H locs ht hvm hw9 hB9 hz1 hk1 hS => ?_)
    revert u hw9 hB9
    refine fz_p8 ?_
    intro g30 f2w30 f3w30 gs30 f7630 p230 f7530 m230 hw9 hB9
    try dsimp only at hw9 hB9
    have e9i : fT (fT vi 0 0) 125 (nI p230) = fT (fT (fT vi 0 0) 125 0) 125 (nI p230) := (fT_sm _ _ _ _).symm
    have hP := wr_Pi e9i (fz_P ht hB9.1)
    have hD := wr_Di e9i (hB9.2.weaken (fun _ q _ h => hFc q.1 h))
    clear e9i
    revert hw9
    refine fz_a3 ?_
    intro f30_0 f30_1 f30_2
    refine lv_aload_n hx hb dX12_best_33 rfl (lv_at hl 0 rfl) ?_
    refine va_get (D := (dC, dI)) (ci := 12) (v := .int (nI p230)) (C := RX12) (T := TX12) (N := 163) (fs := fM (vS a (fT (fT vi 0 0) 125 (nI p230)) vj)) hx hb hts iwsRX12_best_in12 hown hK hP 0 rfl rfl 125 (by decide) (hts _ hm_r_X12_best_0) (fun _ h9 => h9) rfl dX12_best_34 ?_
    refine W.widen (k := 0) (n := 0) (by decide +kernel) (by decide +kernel) ?_
    exact W.iret (v := (nI p230)) hx hb hr (fun t9_ ht hW => ⟨⟨(nI p230), (0, g30, f2w30, f3w30, gs30, f7630, p230, f7530, m230), rfl, by (try dsimp only); exact ⟨f30_0, by first | assumption | omega, fun q hq => by (rw [f30_2 _ (by omega)])⟩, by rw [ht]; exact hP, hD⟩, hS.F ht⟩) hS.2.2 dX12_best_37
  · refine lv_if_ne (tgt := 14) hx hb dX12_best_9 (by decide) (fun c9 => absurd c9 (by decide)) (fun _ => ?_)
    refine lv_iconst (v := 0) hx hb dX12_best_12 (by decide) ?_
    refine W.widen (k := 0) (n := 0) (by decide +kernel) (by decide +kernel) ?_
    have e9 : fT (fT vi 0 th6) 125 (nI pn) = fT vi 0 th6 := Eq.trans (congrArg (fT _ 125) (show nI pn = vi 125 from (by first | with_reducible rfl | with_reducible assumption | (symm; with_reducible assumption) | rfl | assumption | (symm; assumption) | (subst_vars; rfl)))) (id_1 rfl)
    have hP := wr_Pi e9 hP
    have hD := wr_Di e9 hD
    clear e9
    have e9 : fT (fT (fT (fT (fT vF 0 (vF 0)) 2 (vF 2)) 3 (vF 3)) 75 (vF 75)) 76 (vF 76) = vF := Eq.trans (mv_4 rfl) (Eq.trans (id_4 rfl) (Eq.trans (mv_3 rfl) (Eq.trans (id_3 rfl) (Eq.trans (mv_2 rfl) (Eq.trans (id_2 rfl) (Eq.trans (mv_1 rfl) (Eq.trans (id_1 rfl) (id_0 rfl))))))))
    have hP := wr_PF e9 hP
    have hD := wr_DF e9 hD
    clear e9
    have e9 : fT vG 1 (vG 1) = vG := fT_id _ _ (rfl)
    have hP := wr_PG e9 hP
    have hD := wr_DG e9 hD
    clear e9
    exact W.iret (v := 0) hx hb hr (fun t9_ ht hW => ⟨⟨0, (th6, (vF 0), (vF 2), (vF 3), (vG 1), (vF 76), pn, (vF 75), mg), rfl, by (try dsimp only); exact ⟨hBg, by first | assumption | omega, fun q _ => rfl⟩, by rw [ht]; exact hP, hD⟩, hS.F ht⟩) hS.2.2 dX12_best_13
theorem dX12_multiplier_0 : decode cX12_multiplier 0 = .ok (.aload_n 0, 1) := dk_42 (by decide +kernel)
theorem dX12_multiplier_1 : decode cX12_multiplier 1 = .ok (.aload_n 0, 1) := dk_42 (by decide +kernel)
theorem dX12_multiplier_2 : decode cX12_multiplier 2 = .ok (.getfield 814, 3) := dk_180 (by decide +kernel)
theorem dX12_multiplier_5 : decode cX12_multiplier 5 = .ok (.ifCond .ne 7, 3) := dk_154 (by decide +kernel)
theorem dX12_multiplier_8 : decode cX12_multiplier 8 = .ok (.iconst 1, 1) := dk_4 (by decide +kernel)
theorem dX12_multiplier_9 : decode cX12_multiplier 9 = .ok (.goto 25, 3) := dk_167 (by decide +kernel)
theorem dX12_multiplier_12 : decode cX12_multiplier 12 = .ok (.iload_n 1, 1) := dk_27 (by decide +kernel)
theorem dX12_multiplier_13 : decode cX12_multiplier 13 = .ok (.iconst (-1), 1) := dk_2 (by decide +kernel)
theorem dX12_multiplier_14 : decode cX12_multiplier 14 = .ok (.if_icmp .eq 19, 3) := dk_159 (by decide +kernel)
theorem dX12_multiplier_17 : decode cX12_multiplier 17 = .ok (.iload_n 1, 1) := dk_27 (by decide +kernel)
theorem dX12_multiplier_18 : decode cX12_multiplier 18 = .ok (.ifCond .lt 11, 3) := dk_155 (by decide +kernel)
theorem dX12_multiplier_21 : decode cX12_multiplier 21 = .ok (.iload_n 1, 1) := dk_27 (by decide +kernel)
theorem dX12_multiplier_22 : decode cX12_multiplier 22 = .ok (.aload_n 0, 1) := dk_42 (by decide +kernel)
theorem dX12_multiplier_23 : decode cX12_multiplier 23 = .ok (.getfield 894, 3) := dk_180 (by decide +kernel)
theorem dX12_multiplier_26 : decode cX12_multiplier 26 = .ok (.if_icmp .lt 7, 3) := dk_161 (by decide +kernel)
theorem dX12_multiplier_29 : decode cX12_multiplier 29 = .ok (.iconst 2, 1) := dk_5 (by decide +kernel)
theorem dX12_multiplier_30 : decode cX12_multiplier 30 = .ok (.goto 4, 3) := dk_167 (by decide +kernel)
theorem dX12_multiplier_33 : decode cX12_multiplier 33 = .ok (.iconst 0, 1) := dk_3 (by decide +kernel)
theorem dX12_multiplier_34 : decode cX12_multiplier 34 = .ok (.putfield 348, 3) := dk_181 (by decide +kernel)
theorem dX12_multiplier_37 : decode cX12_multiplier 37 = .ok (.aload_n 0, 1) := dk_42 (by decide +kernel)
theorem dX12_multiplier_38 : decode cX12_multiplier 38 = .ok (.getfield 348, 3) := dk_180 (by decide +kernel)
theorem dX12_multiplier_41 : decode cX12_multiplier 41 = .ok (.ifCond .le 5, 3) := dk_158 (by decide +kernel)
theorem dX12_multiplier_44 : decode cX12_multiplier 44 = .ok (.iconst 0, 1) := dk_3 (by decide +kernel)
theorem dX12_multiplier_45 : decode cX12_multiplier 45 = .ok (.ireturn, 1) := dk_172 (by decide +kernel)
theorem dX12_multiplier_46 : decode cX12_multiplier 46 = .ok (.aload_n 0, 1) := dk_42 (by decide +kernel)
theorem dX12_multiplier_47 : decode cX12_multiplier 47 = .ok (.iconst 0, 1) := dk_3 (by decide +kernel)
theorem dX12_multiplier_48 : decode cX12_multiplier 48 = .ok (.putfield 933, 3) := dk_181 (by decide +kernel)
theorem dX12_multiplier_51 : decode cX12_multiplier 51 = .ok (.iload_n 1, 1) := dk_27 (by decide +kernel)
theorem dX12_multiplier_52 : decode cX12_multiplier 52 = .ok (.iconst (-1), 1) := dk_2 (by decide +kernel)
theorem dX12_multiplier_53 : decode cX12_multiplier 53 = .ok (.if_icmp .ne 16, 3) := dk_160 (by decide +kernel)
theorem dX12_multiplier_56 : decode cX12_multiplier 56 = .ok (.aload_n 0, 1) := dk_42 (by decide +kernel)
theorem dX12_multiplier_57 : decode cX12_multiplier 57 = .ok (.sipush 1050, 3) := dk_17 (by decide +kernel)
theorem dX12_multiplier_60 : decode cX12_multiplier 60 = .ok (.sipush 1051, 3) := dk_17 (by decide +kernel)
theorem dX12_multiplier_63 : decode cX12_multiplier 63 = .ok (.invokevirtual 947, 3) := dk_182 (by decide +kernel)
theorem dX12_multiplier_66 : decode cX12_multiplier 66 = .ok (.goto 15, 3) := dk_167 (by decide +kernel)
theorem dX12_multiplier_69 : decode cX12_multiplier 69 = .ok (.aload_n 0, 1) := dk_42 (by decide +kernel)
theorem dX12_multiplier_70 : decode cX12_multiplier 70 = .ok (.sipush 1060, 3) := dk_17 (by decide +kernel)
theorem dX12_multiplier_73 : decode cX12_multiplier 73 = .ok (.iload_n 1, 1) := dk_27 (by decide +kernel)
theorem dX12_multiplier_74 : decode cX12_multiplier 74 = .ok (.iadd, 1) := dk_96 (by decide +kernel)
theorem dX12_multiplier_75 : decode cX12_multiplier 75 = .ok (.sipush 1052, 3) := dk_17 (by decide +kernel)
theorem dX12_multiplier_78 : decode cX12_multiplier 78 = .ok (.invokevirtual 947, 3) := dk_182 (by decide +kernel)
theorem dX12_multiplier_81 : decode cX12_multiplier 81 = .ok (.aload_n 0, 1) := dk_42 (by decide +kernel)
theorem dX12_multiplier_82 : decode cX12_multiplier 82 = .ok (.getfield 933, 3) := dk_180 (by decide +kernel)
theorem dX12_multiplier_85 : decode cX12_multiplier 85 = .ok (.ireturn, 1) := dk_172 (by decide +kernel)
def wsRX12_multiplier : List Cond := .code yX12_multiplier cX12_multiplier 2 (some .int) :: ([.fieldLink RX12 814 "OptimaWorksModel" "hasProof" "Z", .fieldLink RX12 348 "OptimaWorksModel" "thrown" "I", .fieldLink RX12 933 "OptimaWorksModel" "printed" "I", .fieldLink RX12 894 "OptimaWorksModel" "needs" "I"] ++ wsX120 ++ (wsV RX12 947 RX12 yX12_sayFraction wsRX12_sayFraction))
theorem iwsRX12_multiplier_in12 : ∀ w ∈ wsX120, w ∈ wsRX12_multiplier := fun _ h => List.mem_cons_of_mem _ (List.mem_append_left _ (List.mem_append_right _ h))
theorem gwsRX12_multiplier_0 : GoodIn wsRX12_multiplier (wsV RX12 947 RX12 yX12_sayFraction wsRX12_sayFraction) := goodIn_sub (fun _ h => List.mem_cons_of_mem _ (List.mem_append_right _ h)) (gdV (by decide +kernel) gdwsRX12_sayFraction)
theorem gdwsRX12_multiplier : wsRX12_multiplier.all goodWord = true := gdC rfl (gdA (gdA (by decide +kernel : ([.fieldLink RX12 814 "OptimaWorksModel" "hasProof" "Z", .fieldLink RX12 348 "OptimaWorksModel" "thrown" "I", .fieldLink RX12 933 "OptimaWorksModel" "printed" "I", .fieldLink RX12 894 "OptimaWorksModel" "needs" "I"] : List Cond).all goodWord = true) gdwsX120) (gdV (by decide +kernel) gdwsRX12_sayFraction))
theorem hm_r_X12_multiplier_0 : (.fieldLink RX12 348 "OptimaWorksModel" "thrown" "I" : Cond) ∈ wsRX12_multiplier := by decide +kernel
theorem hm_r_X12_multiplier_1 : (.fieldLink RX12 933 "OptimaWorksModel" "printed" "I" : Cond) ∈ wsRX12_multiplier := by decide +kernel
set_option maxHeartbeats 4000000 in
set_option maxRecDepth 100000 in
/-- multiplier(i) -/
theorem r_X12_multiplier (l : Launch) (dC : Nat → ClassId) (dI : Nat → Nat → Nat) (a : Nat → Nat) (k : Nat → ClassId) (h0 : Nat) (vi : Nat → Int32) (vj : Nat → Int64) (vF : Nat → Nat → Int32) (vG : Nat → Nat → Int64) (iI : Int32) (nd : Nat) (pn : Nat) (mg : Nat → Int) (hBg : Bg (vF 0) mg) (hpn : vi 125 = nI pn) (hpn2 : pn ≤ 30000) (hnd : vi 119 = nI nd) (hnd28 : nd ≤ 28) (hpv : vi 117 ≠ 0 → 0 < mg 1051 ∧ 0 < mg 1052) (sz : Nat) : Met l yX12_multiplier wsRX12_multiplier ({ frames := 5, cells := 0, slots := 0, locals := 129 }) (va_Pc [.ref h0, .int iI] (fun U => U.heap.size = sz ∧ va_P (dC, dI) vwCl (WR a k h0 vi vj vF vG) U.heap ∧ va_K (dC, dI) vwCl (tX12 k) U ∧ va_D (fun _ => True) (WR a k h0 vi vj vF vG))) (va_Qi (fun (r : Int32) (u : (Int32) × (Nat → Int32) × (Nat → Int32) × (Nat → Int32) × (Nat → Int64) × (Nat → Int32) × (Nat) × (Nat → Int32) × (Nat → Int)) => (Bg (u.2.1) (u.2.2.2.2.2.2.2.2)) ∧ ((u.2.2.2.2.2.2.1) ≤ 30000) ∧ (∀ q, 1000 ≤ q → (u.2.2.2.2.2.2.2.2) q = mg q)) (fun (u : (Int32) × (Nat → Int32) × (Nat → Int32) × (Nat → Int32) × (Nat → Int64) × (Nat → Int32) × (Nat) × (Nat → Int32) × (Nat → Int)) t => va_P (dC, dI) vwCl (WR a k h0 (fT (fT vi 0 (u.1)) 125 (nI (u.2.2.2.2.2.2.1))) vj (fT (fT (fT (fT (fT vF 0 (u.2.1)) 2 (u.2.2.1)) 3 (u.2.2.2.1)) 75 (u.2.2.2.2.2.2.2.1)) 76 (u.2.2.2.2.2.1)) (fT vG 1 (u.2.2.2.2.1))) t.heap ∧ va_D (va_A (WR a k h0 vi vj vF vG) sz) (WR a k h0 (fT (fT vi 0 (u.1)) 125 (nI (u.2.2.2.2.2.2.1))) vj (fT (fT (fT (fT (fT vF 0 (u.2.1)) 2 (u.2.2.1)) 3 (u.2.2.2.1)) 75 (u.2.2.2.2.2.2.2.1)) 76 (u.2.2.2.2.2.1)) (fT vG 1 (u.2.2.2.2.1)))) (va_A (WR a k h0 vi vj vF vG) sz)) 0 0 (va_A (WR a k h0 vi vj vF vG) sz) := by
  refine Met.ofW (cc := cX12_multiplier) (maxL := 2) (ret := (some .int)) (by decide) rfl ?_
  intro p e s m args below meth c s₁ B hml hv
  obtain ⟨rfl, hsz, hP, hK, hD0⟩ := hv
  have hx := B.exec
  have hb := B.bytes
  have hr := B.returns
  have hts := atoms_spec (ws := wsRX12_multiplier) B.pre
  have hown : s.vm.findClass RX12 = some m.cls := findClass_of_methodNamed B.named
  have hlocks := B.notSynchronized
  subst hsz
  have hD := hD0.self (sz := s.heap.size)
  generalize hAe : va_A (WR a k h0 vi vj vF vG) s.heap.size = A at hD ⊢
  have hA : ∀ q : Nat, s.heap.size ≤ q → A q := fun q h => by rw [← hAe]; exact Or.inr h
  have hS : va_S A s.heap s.heap [] := va_S.rf
  have hl := lv_entry ([.ref h0, .int iI]) (n := 2) (Nat.le_of_ble_eq_true rfl)
  rw [lg_entry_eq]
  generalize (lg_sl ([.ref h0, .int iI]) ++ List.replicate (2 - (lg_sl ([.ref h0, .int iI])).length) Slot.unset).toArray = ls at hl ⊢
  have hl : lv_has ls 2 [(0, .ref h0), (1, .int iI)] := hl
  refine lv_aload_n hx hb dX12_multiplier_0 rfl (lv_at hl 0 rfl) ?_
  refine lv_aload_n hx hb dX12_multiplier_1 rfl (lv_at hl 0 rfl) ?_
  refine va_get (D := (dC, dI)) (ci := 12) (v := .int (vi 117)) (C := RX12) (T := TX12) (N := 163) (fs := fM (vS a vi vj)) hx hb hts iwsRX12_multiplier_in12 hown hK hP 0 rfl rfl 117 (by decide) (hts (.fieldLink RX12 814 "OptimaWorksModel" "hasProof" "Z") (by decide +kernel)) (fun _ h9 => h9) rfl dX12_multiplier_2 ?_
  refine lv_if_ne (tgt := 12) hx hb dX12_multiplier_5 (by decide) (fun c_5 => ?_) (fun c_5 => ?_)
  · have t_5 : ((vi 117)).toInt ≠ 0 := toI_ne c_5 rfl (by decide)
    refine lv_iload_n hx hb dX12_multiplier_12 rfl (lv_at hl 1 rfl) ?_
    refine lv_iconst (v := (-1)) hx hb dX12_multiplier_13 (by decide) ?_
    refine lv_icmp_eq (tgt := 33) hx hb dX12_multiplier_14 (by decide) (fun c_14 => ?_) (fun c_14 => ?_)
    · have t_14 : (iI).toInt = -1 := toI_eq c_14 rfl (by decide)
      refine lv_iconst (v := 0) hx hb dX12_multiplier_33 (by decide) ?_
      refine va_put (D := (dC, dI)) (ci := 12) (v := .int 0) (ty := .int) (C := RX12) (T := TX12) (N := 163) (fs := fM (vS a vi vj)) hx hb hts iwsRX12_multiplier_in12 tyX12 tyX12_ok nmX12 hown hK hP hD hS 0 rfl rfl 0 (by decide) (hts _ hm_r_X12_multiplier_0) (fun _ h9 => h9) rfl (by decide +kernel) rfl rfl (Nat.le_of_ble_eq_true rfl) dX12_multiplier_34 (fun H locs hP hD hS => ?_)
      have hP : va_P (dC, dI) vwCl (WR a k h0 (fT vi 0 0) vj vF vG) H := fz_w (WR_i 0 _ rfl) hP
      have hD : va_D A (WR a k h0 (fT vi 0 0) vj vF vG) := fz_wD (WR_i 0 _ rfl) hD
      refine lv_aload_n hx hb dX12_multiplier_37 rfl (lv_at hl 0 rfl) ?_
      refine va_get (D := (dC, dI)) (ci := 12) (v := .int 0) (C := RX12) (T := TX12) (N := 163) (fs := fM (vS a (fT vi 0 0) vj)) hx hb hts iwsRX12_multiplier_in12 hown hK hP 0 rfl rfl 0 (by decide) (hts _ hm_r_X12_multiplier_0) (fun _ h9 => h9) rfl dX12_multiplier_38 ?_
      refine lv_if_le (tgt := 46) hx hb dX12_multiplier_41 (by decide) (fun _ => ?_) (fun c9 => absurd (by decide) c9)
      refine lv_aload_n hx hb dX12_multiplier_46 rfl (lv_at hl 0 rfl) ?_
      refine lv_iconst (v := 0) hx hb dX12_multiplier_47 (by decide) ?_
      refine va_put (D := (dC, dI)) (ci := 12) (v := .int 0) (ty := .int) (C := RX12) (T := TX12) (N := 163) (fs := fM (vS a (fT vi 0 0) vj)) hx hb hts iwsRX12_multiplier_in12 tyX12 tyX12_ok nmX12 hown hK hP hD hS 0 rfl rfl 125 (by decide) (hts _ hm_r_X12_multiplier_1) (fun _ h9 => h9) rfl (by decide +kernel) rfl rfl (Nat.le_of_ble_eq_true rfl) dX12_multiplier_48 (fun H locs hP hD hS => ?_)
      have hP : va_P (dC, dI) vwCl (WR a k h0 (fT (fT vi 0 0) 125 0) vj vF vG) H := fz_w (WR_i 125 _ rfl) hP
      have hD : va_D A (WR a k h0 (fT (fT vi 0 0) 125 0) vj vF vG) := fz_wD (WR_i 125 _ rfl) hD
      refine lv_iload_n hx hb dX12_multiplier_51 rfl (lv_at hl 1 rfl) ?_
      refine lv_iconst (v := (-1)) hx hb dX12_multiplier_52 (by decide) ?_
      refine lv_icmp_ne (tgt := 69) hx hb dX12_multiplier_53 (by decide) (fun c9 => False.elim (c9 c_14)) (fun c_53 => ?_)
      have t_53 : (iI).toInt = -1 := toI_nne c_53 rfl (by decide)
      refine lv_aload_n hx hb dX12_multiplier_56 rfl (lv_at hl 0 rfl) ?_
      refine lv_sipush (v := 1050) hx hb dX12_multiplier_57 (by decide) ?_
      refine lv_sipush (v := 1051) hx hb dX12_multiplier_60 (by decide) ?_
      have hFc := allFree hD hS hA
      refine va_callv (va_runV (As := [.int 1050, .int 1051]) (rest := []) ⟨hx, hb, hml, hown, hts⟩ (r_X12_sayFraction l dC dI a k h0 (fT (fT vi 0 0) 125 0) vj vF vG 1050 1051 0 mg hBg (show (0 : Int32) = nI 0 from by decide) (by first | with_reducible assumption | decide | omega | rfl | assumption) (by first | with_reducible assumption | decide | omega | rfl | assumption) (by first | with_reducible assumption | decide | omega | rfl | assumption) (by (have h9 := (hpv c_5).1); omega) H.size) (cwV 2 hts gwsRX12_multiplier_0 rfl rfl rfl hd_yX12_sayFraction_RX12 (by decide +kernel)) (fz_pre (va_recv hK hP (ci := 12) (q0 := 0) rfl rfl) hP hK hD) rfl rfl hl.1 rfl (lv_room (Nat.le_of_ble_eq_true rfl)) dX12_multiplier_63 (by decide +kernel)) hS (fun q _ h => hFc q h) hFc (fun u t9_ H locs ht hvm hw9 hB9 hz1 hk1 hS => ?_)
      revert u hw9 hB9
      refine fz_p8 ?_
      intro g63 f2w63 f3w63 gs63 f7663 p263 f7563 m263 hw9 hB9
      try dsimp only at hw9 hB9
      have e9i : fT (fT vi 0 0) 125 (nI p263) = fT (fT (fT vi 0 0) 125 0) 125 (nI p263) := (fT_sm _ _ _ _).symm
      have hP := wr_Pi e9i (fz_P ht hB9.1)
      have hD := wr_Di e9i (hB9.2.weaken (fun _ q _ h => hFc q.1 h))
      clear e9i
      revert hw9
      refine fz_a3 ?_
      intro f63_0 f63_1 f63_2
      refine lv_goto (tgt := 81) hx hb dX12_multiplier_66 (by decide) ?_
      refine lv_aload_n hx hb dX12_multiplier_81 rfl (lv_at hl 0 rfl) ?_
      refine va_get (D := (dC, dI)) (ci := 12) (v := .int (nI p263)) (C := RX12) (T := TX12) (N := 163) (fs := fM (vS a (fT (fT vi 0 0) 125 (nI p263)) vj)) hx hb hts iwsRX12_multiplier_in12 hown hK hP 0 rfl rfl 125 (by decide) (hts _ hm_r_X12_multiplier_1) (fun _ h9 => h9) rfl dX12_multiplier_82 ?_
      refine W.widen (k := 0) (n := 0) (by decide +kernel) (by decide +kernel) ?_
      exact W.iret (v := (nI p263)) hx hb hr (fun t9_ ht hW => ⟨⟨(nI p263), (0, g63, f2w63, f3w63, gs63, f7663, p263, f7563, m263), rfl, by (try dsimp only); exact ⟨f63_0, by first | assumption | omega, fun q hq => by (rw [f63_2 _ (by omega)])⟩, by rw [ht]; exact hP, hD⟩, hS.F ht⟩) hS.2.2 dX12_multiplier_85
    · have t_14 : ¬ (iI).toInt = -1 := toI_neq c_14 rfl (by decide)
      refine lv_iload_n hx hb dX12_multiplier_17 rfl (lv_at hl 1 rfl) ?_
      refine lv_if_lt (tgt := 29) hx hb dX12_multiplier_18 (by decide) (fun c_18 => ?_) (fun c_18 => ?_)
      · have t_18 : (iI).toInt < 0 := toI_lt c_18 rfl (by decide)
        refine lv_iconst (v := 2) hx hb dX12_multiplier_29 (by decide) ?_
        refine lv_goto (tgt := 34) hx hb dX12_multiplier_30 (by decide) ?_
        refine va_put (D := (dC, dI)) (ci := 12) (v := .int 2) (ty := .int) (C := RX12) (T := TX12) (N := 163) (fs := fM (vS a vi vj)) hx hb hts iwsRX12_multiplier_in12 tyX12 tyX12_ok nmX12 hown hK hP hD hS 0 rfl rfl 0 (by decide) (hts _ hm_r_X12_multiplier_0) (fun _ h9 => h9) rfl (by decide +kernel) rfl rfl (Nat.le_of_ble_eq_true rfl) dX12_multiplier_34 (fun H locs hP hD hS => ?_)
        have hP : va_P (dC, dI) vwCl (WR a k h0 (fT vi 0 2) vj vF vG) H := fz_w (WR_i 0 _ rfl) hP
        have hD : va_D A (WR a k h0 (fT vi 0 2) vj vF vG) := fz_wD (WR_i 0 _ rfl) hD
        refine lv_aload_n hx hb dX12_multiplier_37 rfl (lv_at hl 0 rfl) ?_
        refine va_get (D := (dC, dI)) (ci := 12) (v := .int 2) (C := RX12) (T := TX12) (N := 163) (fs := fM (vS a (fT vi 0 2) vj)) hx hb hts iwsRX12_multiplier_in12 hown hK hP 0 rfl rfl 0 (by decide) (hts _ hm_r_X12_multiplier_0) (fun _ h9 => h9) rfl dX12_multiplier_38 ?_
        refine lv_if_le (tgt := 46) hx hb dX12_multiplier_41 (by decide) (fun c9 => absurd c9 (by decide)) (fun _ => ?_)
        refine lv_iconst (v := 0) hx hb dX12_multiplier_44 (by decide) ?_
        refine W.widen (k := 0) (n := 0) (by decide +kernel) (by decide +kernel) ?_
        have e9 : fT (fT vi 0 2) 125 (nI pn) = fT vi 0 2 := Eq.trans (congrArg (fT _ 125) (show nI pn = vi 125 from (by first | with_reducible rfl | with_reducible assumption | (symm; with_reducible assumption) | rfl | assumption | (symm; assumption) | (subst_vars; rfl)))) (id_1 rfl)
        have hP := wr_Pi e9 hP
        have hD := wr_Di e9 hD
        clear e9
        have e9 : fT (fT (fT (fT (fT vF 0 (vF 0)) 2 (vF 2)) 3 (vF 3)) 75 (vF 75)) 76 (vF 76) = vF := Eq.trans (mv_4 rfl) (Eq.trans (id_4 rfl) (Eq.trans (mv_3 rfl) (Eq.trans (id_3 rfl) (Eq.trans (mv_2 rfl) (Eq.trans (id_2 rfl) (Eq.trans (mv_1 rfl) (Eq.trans (id_1 rfl) (id_0 rfl))))))))
        have hP := wr_PF e9 hP
        have hD := wr_DF e9 hD
        clear e9
        have e9 : fT vG 1 (vG 1) = vG := fT_id _ _ (rfl)
        have hP := wr_PG e9 hP
        have hD := wr_DG e9 hD
        clear e9
        exact W.iret (v := 0) hx hb hr (fun t9_ ht hW => ⟨⟨0, (2, (vF 0), (vF 2), (vF 3), (vG 1), (vF 76), pn, (vF 75), mg), rfl, by (try dsimp only); exact ⟨hBg, by first | assumption | omega, fun q _ => rfl⟩, by rw [ht]; exact hP, hD⟩, hS.F ht⟩) hS.2.2 dX12_multiplier_45
      · have t_18 : ¬ (iI).toInt < 0 := toI_nlt c_18 rfl (by decide)
        refine lv_iload_n hx hb dX12_multiplier_21 rfl (lv_at hl 1 rfl) ?_
        refine lv_aload_n hx hb dX12_multiplier_22 rfl (lv_at hl 0 rfl) ?_
        refine va_get (D := (dC, dI)) (ci := 12) (v := .int (vi 119)) (C := RX12) (T := TX12) (N := 163) (fs := fM (vS a vi vj)) hx hb hts iwsRX12_multiplier_in12 hown hK hP 0 rfl rfl 119 (by decide) (hts (.fieldLink RX12 894 "OptimaWorksModel" "needs" "I") (by decide +kernel)) (fun _ h9 => h9) rfl dX12_multiplier_23 ?_
        refine lv_topi (fun y1 hy1 => ?_)
        obtain rfl : (nI nd) = y1 := (hy1.trans (hnd)).symm
        refine lv_icmp_lt (tgt := 33) hx hb dX12_multiplier_26 (by decide) (fun c_26 => ?_) (fun c_26 => ?_)
        · have t_26 : (iI).toInt < ((nd : Nat) : Int) := toI_lt c_26 rfl (nI_toInt (by omega))
          refine lv_iconst (v := 0) hx hb dX12_multiplier_33 (by decide) ?_
          refine va_put (D := (dC, dI)) (ci := 12) (v := .int 0) (ty := .int) (C := RX12) (T := TX12) (N := 163) (fs := fM (vS a vi vj)) hx hb hts iwsRX12_multiplier_in12 tyX12 tyX12_ok nmX12 hown hK hP hD hS 0 rfl rfl 0 (by decide) (hts _ hm_r_X12_multiplier_0) (fun _ h9 => h9) rfl (by decide +kernel) rfl rfl (Nat.le_of_ble_eq_true rfl) dX12_multiplier_34 (fun H locs hP hD hS => ?_)
          have hP : va_P (dC, dI) vwCl (WR a k h0 (fT vi 0 0) vj vF vG) H := fz_w (WR_i 0 _ rfl) hP
          have hD : va_D A (WR a k h0 (fT vi 0 0) vj vF vG) := fz_wD (WR_i 0 _ rfl) hD
          refine lv_aload_n hx hb dX12_multiplier_37 rfl (lv_at hl 0 rfl) ?_
          refine va_get (D := (dC, dI)) (ci := 12) (v := .int 0) (C := RX12) (T := TX12) (N := 163) (fs := fM (vS a (fT vi 0 0) vj)) hx hb hts iwsRX12_multiplier_in12 hown hK hP 0 rfl rfl 0 (by decide) (hts _ hm_r_X12_multiplier_0) (fun _ h9 => h9) rfl dX12_multiplier_38 ?_
          refine lv_if_le (tgt := 46) hx hb dX12_multiplier_41 (by decide) (fun _ => ?_) (fun c9 => absurd (by decide) c9)
          refine lv_aload_n hx hb dX12_multiplier_46 rfl (lv_at hl 0 rfl) ?_
          refine lv_iconst (v := 0) hx hb dX12_multiplier_47 (by decide) ?_
          refine va_put (D := (dC, dI)) (ci := 12) (v := .int 0) (ty := .int) (C := RX12) (T := TX12) (N := 163) (fs := fM (vS a (fT vi 0 0) vj)) hx hb hts iwsRX12_multiplier_in12 tyX12 tyX12_ok nmX12 hown hK hP hD hS 0 rfl rfl 125 (by decide) (hts _ hm_r_X12_multiplier_1) (fun _ h9 => h9) rfl (by decide +kernel) rfl rfl (Nat.le_of_ble_eq_true rfl) dX12_multiplier_48 (fun H locs hP hD hS => ?_)
          have hP : va_P (dC, dI) vwCl (WR a k h0 (fT (fT vi 0 0) 125 0) vj vF vG) H := fz_w (WR_i 125 _ rfl) hP
          have hD : va_D A (WR a k h0 (fT (fT vi 0 0) 125 0) vj vF vG) := fz_wD (WR_i 125 _ rfl) hD
          refine lv_iload_n hx hb dX12_multiplier_51 rfl (lv_at hl 1 rfl) ?_
          refine lv_iconst (v := (-1)) hx hb dX12_multiplier_52 (by decide) ?_
          refine lv_icmp_ne (tgt := 69) hx hb dX12_multiplier_53 (by decide) (fun c_53 => ?_) (fun c9 => False.elim (c_14 c9))
          have t_53 : (iI).toInt ≠ -1 := toI_ne c_53 rfl (by decide)
          have evn : (nI nd).toInt = (nd : Int) := nI_toInt (by omega)
          obtain ⟨kn, h_kn, rfl⟩ := of_toInt (x := iI) (k := 28) (by omega) (by omega)
          have e_kn : (nI kn).toInt = (kn : Int) := nI_toInt (by omega)
          refine lv_aload_n hx hb dX12_multiplier_69 rfl (lv_at hl 0 rfl) ?_
          refine lv_sipush (v := 1060) hx hb dX12_multiplier_70 (by decide) ?_
          refine lv_iload_n hx hb dX12_multiplier_73 rfl (lv_at hl 1 rfl) ?_
          refine lv_iadd hx hb dX12_multiplier_74 ?_
          refine lv_topi (fun y2 hy2 => ?_)
          obtain rfl : (nI (1060 + kn)) = y2 := (hy2.trans (nI_add 1060 kn)).symm
          refine lv_sipush (v := 1052) hx hb dX12_multiplier_75 (by decide) ?_
          have hFc := allFree hD hS hA
          refine va_callv (va_runV (As := [.int (nI (1060 + kn)), .int 1052]) (rest := []) ⟨hx, hb, hml, hown, hts⟩ (r_X12_sayFraction l dC dI a k h0 (fT (fT vi 0 0) 125 0) vj vF vG (1060 + kn) 1052 0 mg hBg (show (0 : Int32) = nI 0 from by decide) (by first | with_reducible assumption | decide | omega | rfl | assumption) (by first | with_reducible assumption | decide | omega | rfl | assumption) (by first | with_reducible assumption | decide | omega | rfl | assumption) (by (have h9 := (hpv c_5).2); omega) H.size) (cwV 2 hts gwsRX12_multiplier_0 rfl rfl rfl hd_yX12_sayFraction_RX12 (by decide +kernel)) (fz_pre (va_recv hK hP (ci := 12) (q0 := 0) rfl rfl) hP hK hD) rfl rfl hl.1 rfl (lv_room (Nat.le_of_ble_eq_true rfl)) dX12_multiplier_78 (by decide +kernel)) hS (fun q _ h => hFc q h) hFc (fun u t9_ H locs ht hvm hw9 hB9 hz1 hk1 hS => ?_)
          revert u hw9 hB9
          refine fz_p8 ?_
          intro g78 f2w78 f3w78 gs78 f7678 p278 f7578 m278 hw9 hB9
          try dsimp only at hw9 hB9
          have e9i : fT (fT vi 0 0) 125 (nI p278) = fT (fT (fT vi 0 0) 125 0) 125 (nI p278) := (fT_sm _ _ _ _).symm
          have hP := wr_Pi e9i (fz_P ht hB9.1)
          have hD := wr_Di e9i (hB9.2.weaken (fun _ q _ h => hFc q.1 h))
          clear e9i
          revert hw9
          refine fz_a3 ?_
          intro f78_0 f78_1 f78_2
          refine lv_aload_n hx hb dX12_multiplier_81 rfl (lv_at hl 0 rfl) ?_
          refine va_get (D := (dC, dI)) (ci := 12) (v := .int (nI p278)) (C := RX12) (T := TX12) (N := 163) (fs := fM (vS a (fT (fT vi 0 0) 125 (nI p278)) vj)) hx hb hts iwsRX12_multiplier_in12 hown hK hP 0 rfl rfl 125 (by decide) (hts _ hm_r_X12_multiplier_1) (fun _ h9 => h9) rfl dX12_multiplier_82 ?_
          refine W.widen (k := 0) (n := 0) (by decide +kernel) (by decide +kernel) ?_
          exact W.iret (v := (nI p278)) hx hb hr (fun t9_ ht hW => ⟨⟨(nI p278), (0, g78, f2w78, f3w78, gs78, f7678, p278, f7578, m278), rfl, by (try dsimp only); exact ⟨f78_0, by first | assumption | omega, fun q hq => by (rw [f78_2 _ (by omega)])⟩, by rw [ht]; exact hP, hD⟩, hS.F ht⟩) hS.2.2 dX12_multiplier_85
        · have t_26 : ¬ (iI).toInt < ((nd : Nat) : Int) := toI_nlt c_26 rfl (nI_toInt (by omega))
          refine lv_iconst (v := 2) hx hb dX12_multiplier_29 (by decide) ?_
          refine lv_goto (tgt := 34) hx hb dX12_multiplier_30 (by decide) ?_
          refine va_put (D := (dC, dI)) (ci := 12) (v := .int 2) (ty := .int) (C := RX12) (T := TX12) (N := 163) (fs := fM (vS a vi vj)) hx hb hts iwsRX12_multiplier_in12 tyX12 tyX12_ok nmX12 hown hK hP hD hS 0 rfl rfl 0 (by decide) (hts _ hm_r_X12_multiplier_0) (fun _ h9 => h9) rfl (by decide +kernel) rfl rfl (Nat.le_of_ble_eq_true rfl) dX12_multiplier_34 (fun H locs hP hD hS => ?_)
          have hP : va_P (dC, dI) vwCl (WR a k h0 (fT vi 0 2) vj vF vG) H := fz_w (WR_i 0 _ rfl) hP
          have hD : va_D A (WR a k h0 (fT vi 0 2) vj vF vG) := fz_wD (WR_i 0 _ rfl) hD
          refine lv_aload_n hx hb dX12_multiplier_37 rfl (lv_at hl 0 rfl) ?_
          refine va_get (D := (dC, dI)) (ci := 12) (v := .int 2) (C := RX12) (T := TX12) (N := 163) (fs := fM (vS a (fT vi 0 2) vj)) hx hb hts iwsRX12_multiplier_in12 hown hK hP 0 rfl rfl 0 (by decide) (hts _ hm_r_X12_multiplier_0) (fun _ h9 => h9) rfl dX12_multiplier_38 ?_
          refine lv_if_le (tgt := 46) hx hb dX12_multiplier_41 (by decide) (fun c9 => absurd c9 (by decide)) (fun _ => ?_)
          refine lv_iconst (v := 0) hx hb dX12_multiplier_44 (by decide) ?_
          refine W.widen (k := 0) (n := 0) (by decide +kernel) (by decide +kernel) ?_
          have e9 : fT (fT vi 0 2) 125 (nI pn) = fT vi 0 2 := Eq.trans (congrArg (fT _ 125) (show nI pn = vi 125 from (by first | with_reducible rfl | with_reducible assumption | (symm; with_reducible assumption) | rfl | assumption | (symm; assumption) | (subst_vars; rfl)))) (id_1 rfl)
          have hP := wr_Pi e9 hP
          have hD := wr_Di e9 hD
          clear e9
          have e9 : fT (fT (fT (fT (fT vF 0 (vF 0)) 2 (vF 2)) 3 (vF 3)) 75 (vF 75)) 76 (vF 76) = vF := Eq.trans (mv_4 rfl) (Eq.trans (id_4 rfl) (Eq.trans (mv_3 rfl) (Eq.trans (id_3 rfl) (Eq.trans (mv_2 rfl) (Eq.trans (id_2 rfl) (Eq.trans (mv_1 rfl) (Eq.trans (id_1 rfl) (id_0 rfl))))))))
          have hP := wr_PF e9 hP
          have hD := wr_DF e9 hD
          clear e9
          have e9 : fT vG 1 (vG 1) = vG := fT_id _ _ (rfl)
          have hP := wr_PG e9 hP
          have hD := wr_DG e9 hD
          clear e9
          exact W.iret (v := 0) hx hb hr (fun t9_ ht hW => ⟨⟨0, (2, (vF 0), (vF 2), (vF 3), (vG 1), (vF 76), pn, (vF 75), mg), rfl, by (try dsimp only); exact ⟨hBg, by first | assumption | omega, fun q _ => rfl⟩, by rw [ht]; exact hP, hD⟩, hS.F ht⟩) hS.2.2 dX12_multiplier_45
  · have t_5 : ((vi 117)).toInt = 0 := toI_nne c_5 rfl (by decide)
    refine lv_iconst (v := 1) hx hb dX12_multiplier_8 (by decide) ?_
    refine lv_goto (tgt := 34) hx hb dX12_multiplier_9 (by decide) ?_
    refine va_put (D := (dC, dI)) (ci := 12) (v := .int 1) (ty := .int) (C := RX12) (T := TX12) (N := 163) (fs := fM (vS a vi vj)) hx hb hts iwsRX12_multiplier_in12 tyX12 tyX12_ok nmX12 hown hK hP hD hS 0 rfl rfl 0 (by decide) (hts _ hm_r_X12_multiplier_0) (fun _ h9 => h9) rfl (by decide +kernel) rfl rfl (Nat.le_of_ble_eq_true rfl) dX12_multiplier_34 (fun H locs hP hD hS => ?_)
    have hP : va_P (dC, dI) vwCl (WR a k h0 (fT vi 0 1) vj vF vG) H := fz_w (WR_i 0 _ rfl) hP
    have hD : va_D A (WR a k h0 (fT vi 0 1) vj vF vG) := fz_wD (WR_i 0 _ rfl) hD
    refine lv_aload_n hx hb dX12_multiplier_37 rfl (lv_at hl 0 rfl) ?_
    refine va_get (D := (dC, dI)) (ci := 12) (v := .int 1) (C := RX12) (T := TX12) (N := 163) (fs := fM (vS a (fT vi 0 1) vj)) hx hb hts iwsRX12_multiplier_in12 hown hK hP 0 rfl rfl 0 (by decide) (hts _ hm_r_X12_multiplier_0) (fun _ h9 => h9) rfl dX12_multiplier_38 ?_
    refine lv_if_le (tgt := 46) hx hb dX12_multiplier_41 (by decide) (fun c9 => absurd c9 (by decide)) (fun _ => ?_)
    refine lv_iconst (v := 0) hx hb dX12_multiplier_44 (by decide) ?_
    refine W.widen (k := 0) (n := 0) (by decide +kernel) (by decide +kernel) ?_
    have e9 : fT (fT vi 0 1) 125 (nI pn) = fT vi 0 1 := Eq.trans (congrArg (fT _ 125) (show nI pn = vi 125 from (by first | with_reducible rfl | with_reducible assumption | (symm; with_reducible assumption) | rfl | assumption | (symm; assumption) | (subst_vars; rfl)))) (id_1 rfl)
    have hP := wr_Pi e9 hP
    have hD := wr_Di e9 hD
    clear e9
    have e9 : fT (fT (fT (fT (fT vF 0 (vF 0)) 2 (vF 2)) 3 (vF 3)) 75 (vF 75)) 76 (vF 76) = vF := Eq.trans (mv_4 rfl) (Eq.trans (id_4 rfl) (Eq.trans (mv_3 rfl) (Eq.trans (id_3 rfl) (Eq.trans (mv_2 rfl) (Eq.trans (id_2 rfl) (Eq.trans (mv_1 rfl) (Eq.trans (id_1 rfl) (id_0 rfl))))))))
    have hP := wr_PF e9 hP
    have hD := wr_DF e9 hD
    clear e9
    have e9 : fT vG 1 (vG 1) = vG := fT_id _ _ (rfl)
    have hP := wr_PG e9 hP
    have hD := wr_DG e9 hD
    clear e9
    exact W.iret (v := 0) hx hb hr (fun t9_ ht hW => ⟨⟨0, (1, (vF 0), (vF 2), (vF 3), (vG 1), (vF 76), pn, (vF 75), mg), rfl, by (try dsimp only); exact ⟨hBg, by first | assumption | omega, fun q _ => rfl⟩, by rw [ht]; exact hP, hD⟩, hS.F ht⟩) hS.2.2 dX12_multiplier_45
theorem dX12_way_0 : decode cX12_way 0 = .ok (.aload_n 0, 1) := dk_42 (by decide +kernel)
theorem dX12_way_1 : decode cX12_way 1 = .ok (.iload_n 1, 1) := dk_27 (by decide +kernel)
theorem dX12_way_2 : decode cX12_way 2 = .ok (.aload_n 0, 1) := dk_42 (by decide +kernel)
theorem dX12_way_3 : decode cX12_way 3 = .ok (.getfield 786, 3) := dk_180 (by decide +kernel)
theorem dX12_way_6 : decode cX12_way 6 = .ok (.invokevirtual 944, 3) := dk_182 (by decide +kernel)
theorem dX12_way_9 : decode cX12_way 9 = .ok (.ifCond .ne 5, 3) := dk_154 (by decide +kernel)
theorem dX12_way_12 : decode cX12_way 12 = .ok (.iconst 0, 1) := dk_3 (by decide +kernel)
theorem dX12_way_13 : decode cX12_way 13 = .ok (.ireturn, 1) := dk_172 (by decide +kernel)
theorem dX12_way_14 : decode cX12_way 14 = .ok (.iconst 0, 1) := dk_3 (by decide +kernel)
theorem dX12_way_15 : decode cX12_way 15 = .ok (.istore_n 2, 1) := dk_61 (by decide +kernel)
theorem dX12_way_16 : decode cX12_way 16 = .ok (.iload_n 2, 1) := dk_28 (by decide +kernel)
theorem dX12_way_17 : decode cX12_way 17 = .ok (.aload_n 0, 1) := dk_42 (by decide +kernel)
theorem dX12_way_18 : decode cX12_way 18 = .ok (.getfield 200, 3) := dk_180 (by decide +kernel)
theorem dX12_way_21 : decode cX12_way 21 = .ok (.iload_n 1, 1) := dk_27 (by decide +kernel)
theorem dX12_way_22 : decode cX12_way 22 = .ok (.iaload, 1) := dk_46 (by decide +kernel)
theorem dX12_way_23 : decode cX12_way 23 = .ok (.if_icmp .ge 170, 3) := dk_162 (by decide +kernel)
theorem dX12_way_26 : decode cX12_way 26 = .ok (.bipush 9, 2) := dk_16 (by decide +kernel)
theorem dX12_way_28 : decode cX12_way 28 = .ok (.iconst 3, 1) := dk_6 (by decide +kernel)
theorem dX12_way_29 : decode cX12_way 29 = .ok (.iload_n 1, 1) := dk_27 (by decide +kernel)
theorem dX12_way_30 : decode cX12_way 30 = .ok (.imul, 1) := dk_104 (by decide +kernel)
theorem dX12_way_31 : decode cX12_way 31 = .ok (.iload_n 2, 1) := dk_28 (by decide +kernel)
theorem dX12_way_32 : decode cX12_way 32 = .ok (.iadd, 1) := dk_96 (by decide +kernel)
theorem dX12_way_33 : decode cX12_way 33 = .ok (.imul, 1) := dk_104 (by decide +kernel)
theorem dX12_way_34 : decode cX12_way 34 = .ok (.istore_n 3, 1) := dk_62 (by decide +kernel)
theorem dX12_way_35 : decode cX12_way 35 = .ok (.aload_n 0, 1) := dk_42 (by decide +kernel)
theorem dX12_way_36 : decode cX12_way 36 = .ok (.bipush 22, 2) := dk_16 (by decide +kernel)
theorem dX12_way_38 : decode cX12_way 38 = .ok (.aload_n 0, 1) := dk_42 (by decide +kernel)
theorem dX12_way_39 : decode cX12_way 39 = .ok (.getfield 203, 3) := dk_180 (by decide +kernel)
theorem dX12_way_42 : decode cX12_way 42 = .ok (.iload_n 3, 1) := dk_29 (by decide +kernel)
theorem dX12_way_43 : decode cX12_way 43 = .ok (.iaload, 1) := dk_46 (by decide +kernel)
theorem dX12_way_44 : decode cX12_way 44 = .ok (.ineg, 1) := dk_116 (by decide +kernel)
theorem dX12_way_45 : decode cX12_way 45 = .ok (.i2l, 1) := dk_133 (by decide +kernel)
theorem dX12_way_46 : decode cX12_way 46 = .ok (.invokevirtual 369, 3) := dk_182 (by decide +kernel)
theorem dX12_way_49 : decode cX12_way 49 = .ok (.aload_n 0, 1) := dk_42 (by decide +kernel)
theorem dX12_way_50 : decode cX12_way 50 = .ok (.bipush 24, 2) := dk_16 (by decide +kernel)
theorem dX12_way_52 : decode cX12_way 52 = .ok (.bipush 22, 2) := dk_16 (by decide +kernel)
theorem dX12_way_54 : decode cX12_way 54 = .ok (.sipush 1008, 3) := dk_17 (by decide +kernel)
theorem dX12_way_57 : decode cX12_way 57 = .ok (.invokevirtual 390, 3) := dk_182 (by decide +kernel)
theorem dX12_way_60 : decode cX12_way 60 = .ok (.iconst 0, 1) := dk_3 (by decide +kernel)
theorem dX12_way_61 : decode cX12_way 61 = .ok (.istore 4, 2) := dk_54 (by decide +kernel)
theorem dX12_way_63 : decode cX12_way 63 = .ok (.iload 4, 2) := dk_21 (by decide +kernel)
theorem dX12_way_65 : decode cX12_way 65 = .ok (.aload_n 0, 1) := dk_42 (by decide +kernel)
theorem dX12_way_66 : decode cX12_way 66 = .ok (.getfield 774, 3) := dk_180 (by decide +kernel)
theorem dX12_way_69 : decode cX12_way 69 = .ok (.if_icmp .ge 60, 3) := dk_162 (by decide +kernel)
theorem dX12_way_72 : decode cX12_way 72 = .ok (.aload_n 0, 1) := dk_42 (by decide +kernel)
theorem dX12_way_73 : decode cX12_way 73 = .ok (.bipush 22, 2) := dk_16 (by decide +kernel)
theorem dX12_way_75 : decode cX12_way 75 = .ok (.aload_n 0, 1) := dk_42 (by decide +kernel)
theorem dX12_way_76 : decode cX12_way 76 = .ok (.getfield 203, 3) := dk_180 (by decide +kernel)
theorem dX12_way_79 : decode cX12_way 79 = .ok (.iload_n 3, 1) := dk_29 (by decide +kernel)
theorem dX12_way_80 : decode cX12_way 80 = .ok (.iconst 1, 1) := dk_4 (by decide +kernel)
theorem dX12_way_81 : decode cX12_way 81 = .ok (.iadd, 1) := dk_96 (by decide +kernel)
theorem dX12_way_82 : decode cX12_way 82 = .ok (.iload 4, 2) := dk_21 (by decide +kernel)
theorem dX12_way_84 : decode cX12_way 84 = .ok (.iadd, 1) := dk_96 (by decide +kernel)
theorem dX12_way_85 : decode cX12_way 85 = .ok (.iaload, 1) := dk_46 (by decide +kernel)
theorem dX12_way_86 : decode cX12_way 86 = .ok (.i2l, 1) := dk_133 (by decide +kernel)
theorem dX12_way_87 : decode cX12_way 87 = .ok (.invokevirtual 369, 3) := dk_182 (by decide +kernel)
theorem dX12_way_90 : decode cX12_way 90 = .ok (.aload_n 0, 1) := dk_42 (by decide +kernel)
theorem dX12_way_91 : decode cX12_way 91 = .ok (.bipush 23, 2) := dk_16 (by decide +kernel)
theorem dX12_way_93 : decode cX12_way 93 = .ok (.bipush 22, 2) := dk_16 (by decide +kernel)
theorem dX12_way_95 : decode cX12_way 95 = .ok (.sipush 1000, 3) := dk_17 (by decide +kernel)
theorem dX12_way_98 : decode cX12_way 98 = .ok (.iload 4, 2) := dk_21 (by decide +kernel)
theorem dX12_way_100 : decode cX12_way 100 = .ok (.iadd, 1) := dk_96 (by decide +kernel)
theorem dX12_way_101 : decode cX12_way 101 = .ok (.invokevirtual 390, 3) := dk_182 (by decide +kernel)
theorem dX12_way_104 : decode cX12_way 104 = .ok (.aload_n 0, 1) := dk_42 (by decide +kernel)
theorem dX12_way_105 : decode cX12_way 105 = .ok (.bipush 25, 2) := dk_16 (by decide +kernel)
theorem dX12_way_107 : decode cX12_way 107 = .ok (.bipush 24, 2) := dk_16 (by decide +kernel)
theorem dX12_way_109 : decode cX12_way 109 = .ok (.bipush 23, 2) := dk_16 (by decide +kernel)
theorem dX12_way_111 : decode cX12_way 111 = .ok (.iconst 1, 1) := dk_4 (by decide +kernel)
theorem dX12_way_112 : decode cX12_way 112 = .ok (.invokevirtual 443, 3) := dk_182 (by decide +kernel)
theorem dX12_way_115 : decode cX12_way 115 = .ok (.aload_n 0, 1) := dk_42 (by decide +kernel)
theorem dX12_way_116 : decode cX12_way 116 = .ok (.bipush 24, 2) := dk_16 (by decide +kernel)
theorem dX12_way_118 : decode cX12_way 118 = .ok (.bipush 25, 2) := dk_16 (by decide +kernel)
theorem dX12_way_120 : decode cX12_way 120 = .ok (.invokevirtual 365, 3) := dk_182 (by decide +kernel)
theorem dX12_way_123 : decode cX12_way 123 = .ok (.iinc 4 1, 3) := dk_132 (by decide +kernel)
theorem dX12_way_126 : decode cX12_way 126 = .ok (.goto (-63), 3) := dk_167 (by decide +kernel)
theorem dX12_way_129 : decode cX12_way 129 = .ok (.aload_n 0, 1) := dk_42 (by decide +kernel)
theorem dX12_way_130 : decode cX12_way 130 = .ok (.getfield 206, 3) := dk_180 (by decide +kernel)
theorem dX12_way_133 : decode cX12_way 133 = .ok (.iconst 3, 1) := dk_6 (by decide +kernel)
theorem dX12_way_134 : decode cX12_way 134 = .ok (.iload_n 1, 1) := dk_27 (by decide +kernel)
theorem dX12_way_135 : decode cX12_way 135 = .ok (.imul, 1) := dk_104 (by decide +kernel)
theorem dX12_way_136 : decode cX12_way 136 = .ok (.iload_n 2, 1) := dk_28 (by decide +kernel)
theorem dX12_way_137 : decode cX12_way 137 = .ok (.iadd, 1) := dk_96 (by decide +kernel)
theorem dX12_way_138 : decode cX12_way 138 = .ok (.iaload, 1) := dk_46 (by decide +kernel)
theorem dX12_way_139 : decode cX12_way 139 = .ok (.istore 4, 2) := dk_54 (by decide +kernel)
theorem dX12_way_141 : decode cX12_way 141 = .ok (.iload 4, 2) := dk_21 (by decide +kernel)
theorem dX12_way_143 : decode cX12_way 143 = .ok (.ifCond .ne 15, 3) := dk_154 (by decide +kernel)
theorem dX12_way_146 : decode cX12_way 146 = .ok (.aload_n 0, 1) := dk_42 (by decide +kernel)
theorem dX12_way_147 : decode cX12_way 147 = .ok (.bipush 24, 2) := dk_16 (by decide +kernel)
theorem dX12_way_149 : decode cX12_way 149 = .ok (.invokevirtual 353, 3) := dk_182 (by decide +kernel)
theorem dX12_way_152 : decode cX12_way 152 = .ok (.ifCond .gt 35, 3) := dk_157 (by decide +kernel)
theorem dX12_way_155 : decode cX12_way 155 = .ok (.goto 30, 3) := dk_167 (by decide +kernel)
theorem dX12_way_158 : decode cX12_way 158 = .ok (.iload 4, 2) := dk_21 (by decide +kernel)
theorem dX12_way_160 : decode cX12_way 160 = .ok (.iconst 1, 1) := dk_4 (by decide +kernel)
theorem dX12_way_161 : decode cX12_way 161 = .ok (.if_icmp .ne 15, 3) := dk_160 (by decide +kernel)
theorem dX12_way_164 : decode cX12_way 164 = .ok (.aload_n 0, 1) := dk_42 (by decide +kernel)
theorem dX12_way_165 : decode cX12_way 165 = .ok (.bipush 24, 2) := dk_16 (by decide +kernel)
theorem dX12_way_167 : decode cX12_way 167 = .ok (.invokevirtual 353, 3) := dk_182 (by decide +kernel)
theorem dX12_way_170 : decode cX12_way 170 = .ok (.ifCond .lt 17, 3) := dk_155 (by decide +kernel)
theorem dX12_way_173 : decode cX12_way 173 = .ok (.goto 12, 3) := dk_167 (by decide +kernel)
theorem dX12_way_176 : decode cX12_way 176 = .ok (.aload_n 0, 1) := dk_42 (by decide +kernel)
theorem dX12_way_177 : decode cX12_way 177 = .ok (.bipush 24, 2) := dk_16 (by decide +kernel)
theorem dX12_way_179 : decode cX12_way 179 = .ok (.invokevirtual 353, 3) := dk_182 (by decide +kernel)
theorem dX12_way_182 : decode cX12_way 182 = .ok (.ifCond .ne 5, 3) := dk_154 (by decide +kernel)
theorem dX12_way_185 : decode cX12_way 185 = .ok (.iload_n 2, 1) := dk_28 (by decide +kernel)
theorem dX12_way_186 : decode cX12_way 186 = .ok (.ireturn, 1) := dk_172 (by decide +kernel)
theorem dX12_way_187 : decode cX12_way 187 = .ok (.iinc 2 1, 3) := dk_132 (by decide +kernel)
theorem dX12_way_190 : decode cX12_way 190 = .ok (.goto (-174), 3) := dk_167 (by decide +kernel)
theorem dX12_way_193 : decode cX12_way 193 = .ok (.iconst (-1), 1) := dk_2 (by decide +kernel)
theorem dX12_way_194 : decode cX12_way 194 = .ok (.ireturn, 1) := dk_172 (by decide +kernel)
def wsRX12_way : List Cond := .code yX12_way cX12_way 5 (some .int) :: ([.fieldLink RX12 786 "OptimaWorksModel" "modelRows" "I", .fieldLink RX12 200 "OptimaWorksModel" "wayMany" "[I", .fieldLink RX12 203 "OptimaWorksModel" "wayNumber" "[I", .fieldLink RX12 774 "OptimaWorksModel" "variables" "I", .fieldLink RX12 206 "OptimaWorksModel" "waySign" "[I"] ++ wsX120 ++ (wsV RX12 944 RX12 yX12_canTell wsRX12_canTell) ++ (wsV RX12 369 RX12 yX12_put wsRX12_put) ++ (wsV RX12 390 RX12 yX12_times wsRX12_times) ++ (wsV RX12 353 RX12 yX12_sign wsRX12_sign) ++ (wsV RX12 443 RX12 yX12_add wsRX12_add) ++ (wsV RX12 365 RX12 yX12_copy wsRX12_copy))
theorem iwsRX12_way_in12 : ∀ w ∈ wsX120, w ∈ wsRX12_way := fun _ h => List.mem_cons_of_mem _ (List.mem_append_left _ (List.mem_append_left _ (List.mem_append_left _ (List.mem_append_left _ (List.mem_append_left _ (List.mem_append_left _ (List.mem_append_right _ h)))))))
theorem gwsRX12_way_0 : GoodIn wsRX12_way (wsV RX12 944 RX12 yX12_canTell wsRX12_canTell) := goodIn_sub (fun _ h => List.mem_cons_of_mem _ (List.mem_append_left _ (List.mem_append_left _ (List.mem_append_left _ (List.mem_append_left _ (List.mem_append_left _ (List.mem_append_right _ h))))))) (gdV (by decide +kernel) gdwsRX12_canTell)
theorem gwsRX12_way_1 : GoodIn wsRX12_way (wsV RX12 369 RX12 yX12_put wsRX12_put) := goodIn_sub (fun _ h => List.mem_cons_of_mem _ (List.mem_append_left _ (List.mem_append_left _ (List.mem_append_left _ (List.mem_append_left _ (List.mem_append_right _ h)))))) (gdV (by decide +kernel) gdwsRX12_put)
theorem gwsRX12_way_2 : GoodIn wsRX12_way (wsV RX12 390 RX12 yX12_times wsRX12_times) := goodIn_sub (fun _ h => List.mem_cons_of_mem _ (List.mem_append_left _ (List.mem_append_left _ (List.mem_append_left _ (List.mem_append_right _ h))))) (gdV (by decide +kernel) gdwsRX12_times)
theorem gwsRX12_way_3 : GoodIn wsRX12_way (wsV RX12 353 RX12 yX12_sign wsRX12_sign) := goodIn_sub (fun _ h => List.mem_cons_of_mem _ (List.mem_append_left _ (List.mem_append_left _ (List.mem_append_right _ h)))) (gdV (by decide +kernel) gdwsRX12_sign)
theorem gwsRX12_way_4 : GoodIn wsRX12_way (wsV RX12 443 RX12 yX12_add wsRX12_add) := goodIn_sub (fun _ h => List.mem_cons_of_mem _ (List.mem_append_left _ (List.mem_append_right _ h))) (gdV (by decide +kernel) gdwsRX12_add)
theorem gwsRX12_way_5 : GoodIn wsRX12_way (wsV RX12 365 RX12 yX12_copy wsRX12_copy) := goodIn_sub (fun _ h => List.mem_cons_of_mem _ (List.mem_append_right _ h)) (gdV (by decide +kernel) gdwsRX12_copy)
theorem gdwsRX12_way : wsRX12_way.all goodWord = true := gdC rfl (gdA (gdA (gdA (gdA (gdA (gdA (gdA (by decide +kernel : ([.fieldLink RX12 786 "OptimaWorksModel" "modelRows" "I", .fieldLink RX12 200 "OptimaWorksModel" "wayMany" "[I", .fieldLink RX12 203 "OptimaWorksModel" "wayNumber" "[I", .fieldLink RX12 774 "OptimaWorksModel" "variables" "I", .fieldLink RX12 206 "OptimaWorksModel" "waySign" "[I"] : List Cond).all goodWord = true) gdwsX120) (gdV (by decide +kernel) gdwsRX12_canTell)) (gdV (by decide +kernel) gdwsRX12_put)) (gdV (by decide +kernel) gdwsRX12_times)) (gdV (by decide +kernel) gdwsRX12_sign)) (gdV (by decide +kernel) gdwsRX12_add)) (gdV (by decide +kernel) gdwsRX12_copy))
theorem hm_r_X12_way_0 : (.fieldLink RX12 203 "OptimaWorksModel" "wayNumber" "[I" : Cond) ∈ wsRX12_way := by decide +kernel
set_option maxHeartbeats 4000000 in
set_option maxRecDepth 100000 in
/-- way(r) -/
theorem r_X12_way (l : Launch) (dC : Nat → ClassId) (dI : Nat → Nat → Nat) (a : Nat → Nat) (k : Nat → ClassId) (h0 : Nat) (vi : Nat → Int32) (vj : Nat → Int64) (vF : Nat → Nat → Int32) (vG : Nat → Nat → Int64) (rI : Int32) (vn : Nat) (mr : Nat) (gq : Nat) (mg : Nat → Int) (hBg : Bg (vF 0) mg) (hvn : vi 90 = nI vn) (hvn8 : vn ≤ 8) (hmr : vi 91 = nI mr) (hmr12 : mr ≤ 12) (hM : MdlB vF gq) (hwm : WmO (vF 59) mr) (hA0 : AnsB mg 1000) (sz : Nat) : Met l yX12_way wsRX12_way ({ frames := 2, cells := 0, slots := 0, locals := 63 }) (va_Pc [.ref h0, .int rI] (fun U => U.heap.size = sz ∧ va_P (dC, dI) vwCl (WR a k h0 vi vj vF vG) U.heap ∧ va_K (dC, dI) vwCl (tX12 k) U ∧ va_D (fun _ => True) (WR a k h0 vi vj vF vG))) (va_Qi (fun (r : Int32) (u : (Int32) × (Nat → Int32) × (Nat → Int64) × (Nat → Int)) => (Bg (u.2.1) (u.2.2.2)) ∧ (∀ q, (q < 22 ∨ 25 < q) → (u.2.2.2) q = mg q)) (fun (u : (Int32) × (Nat → Int32) × (Nat → Int64) × (Nat → Int)) t => va_P (dC, dI) vwCl (WR a k h0 (fT vi 0 (u.1)) vj (fT vF 0 (u.2.1)) (fT vG 1 (u.2.2.1))) t.heap ∧ va_D (va_A (WR a k h0 vi vj vF vG) sz) (WR a k h0 (fT vi 0 (u.1)) vj (fT vF 0 (u.2.1)) (fT vG 1 (u.2.2.1)))) (va_A (WR a k h0 vi vj vF vG) sz)) 0 0 (va_A (WR a k h0 vi vj vF vG) sz) := by
  refine Met.ofW (cc := cX12_way) (maxL := 5) (ret := (some .int)) (by decide) rfl ?_
  intro p e s m args below meth c s₁ B hml hv
  obtain ⟨rfl, hsz, hP, hK, hD0⟩ := hv
  have hx := B.exec
  have hb := B.bytes
  have hr := B.returns
  have hts := atoms_spec (ws := wsRX12_way) B.pre
  have hown : s.vm.findClass RX12 = some m.cls := findClass_of_methodNamed B.named
  have hlocks := B.notSynchronized
  subst hsz
  have hD := hD0.self (sz := s.heap.size)
  generalize hAe : va_A (WR a k h0 vi vj vF vG) s.heap.size = A at hD ⊢
  have hA : ∀ q : Nat, s.heap.size ≤ q → A q := fun q h => by rw [← hAe]; exact Or.inr h
  have hS : va_S A s.heap s.heap [] := va_S.rf
  have hl := lv_entry ([.ref h0, .int rI]) (n := 5) (Nat.le_of_ble_eq_true rfl)
  rw [lg_entry_eq]
  generalize (lg_sl ([.ref h0, .int rI]) ++ List.replicate (5 - (lg_sl ([.ref h0, .int rI])).length) Slot.unset).toArray = ls at hl ⊢
  have hl : lv_has ls 5 [(0, .ref h0), (1, .int rI)] := hl
  refine lv_aload_n hx hb dX12_way_0 rfl (lv_at hl 0 rfl) ?_
  refine lv_iload_n hx hb dX12_way_1 rfl (lv_at hl 1 rfl) ?_
  refine lv_aload_n hx hb dX12_way_2 rfl (lv_at hl 0 rfl) ?_
  refine va_get (D := (dC, dI)) (ci := 12) (v := .int (vi 91)) (C := RX12) (T := TX12) (N := 163) (fs := fM (vS a vi vj)) hx hb hts iwsRX12_way_in12 hown hK hP 0 rfl rfl 91 (by decide) (hts (.fieldLink RX12 786 "OptimaWorksModel" "modelRows" "I") (by decide +kernel)) (fun _ h9 => h9) rfl dX12_way_3 ?_
  refine lv_topi (fun y1 hy1 => ?_)
  obtain rfl : (nI mr) = y1 := (hy1.trans (hmr)).symm
  have hFc := allFree hD hS hA
  refine va_calli (va_runV (As := [.int rI, .int (nI mr)]) (rest := []) ⟨hx, hb, hml, hown, hts⟩ (r_X12_canTell l dC dI a k h0 vi vj vF vG rI (nI mr) s.heap.size) (cwV 2 hts gwsRX12_way_0 rfl rfl rfl hd_yX12_canTell_RX12 (by decide +kernel)) (fz_pre (va_recv hK hP (ci := 12) (q0 := 0) rfl rfl) hP hK hD) rfl rfl hl.1 rfl (lv_room (Nat.le_of_ble_eq_true rfl)) dX12_way_6 (by decide +kernel)) hS (fun q _ h => hFc q h) hFc (fun r6 th6 t9_ H locs ht hvm hw9 hB9 hz1 hk1 hS => ?_)
  have hP : va_P (dC, dI) vwCl (WR a k h0 (fT vi 0 th6) vj vF vG) H := fz_P ht hB9.1
  have hD := fz_sd hP (hB9.2.weaken (fun _ q _ h => hFc q.1 h)) rfl
  rcases hw9 with ⟨rfl, f6_0, f6_1, f6_2, rfl⟩ | ⟨rfl, f6_0⟩
  · have f6_0 : (vi 95) ≠ 0 := f6_0
    have f6_1 : (vi 113) ≠ 0 := f6_1
    refine lv_if_ne (tgt := 14) hx hb dX12_way_9 (by decide) (fun _ => ?_) (fun c9 => absurd c9 (by decide))
    have emr : (nI mr).toInt = (mr : Int) := nI_toInt (by omega)
    obtain ⟨rn, h_rn, rfl⟩ := of_toInt (x := rI) (k := 12) (by omega) (by omega)
    have e_rn : (nI rn).toInt = (rn : Int) := nI_toInt (by omega)
    obtain ⟨wk, ewk, hwk1, hwk3⟩ := hwm rn (by omega)
    refine lv_iconst (v := 0) hx hb dX12_way_14 (by decide) ?_
    refine lv_istore_n hx hb dX12_way_15 rfl hl (by decide) rfl (fun ls (hl : lv_has ls _ ([(2, .int 0), (0, .ref h0), (1, .int (nI rn))])) => ?_)
    have e9 : fT vF 0 (vF 0) = vF := by funext q9; by_cases h9_0 : q9 = 0; (subst h9_0; exact (fT_eq _ _ _).trans (Eq.trans (by first | with_reducible rfl | with_reducible assumption | (symm; with_reducible assumption) | rfl | assumption | (symm; assumption) | (subst_vars; rfl)) (Eq.refl _).symm)); exact (fT_ne _ _ h9_0).trans (Eq.refl _).symm
    have hP := wr_PF e9 hP
    have hD := wr_DF e9 hD
    clear e9
    have e9 : fT vG 1 (vG 1) = vG := by funext q9; by_cases h9_1 : q9 = 1; (subst h9_1; exact (fT_eq _ _ _).trans (Eq.trans (by first | with_reducible rfl | with_reducible assumption | (symm; with_reducible assumption) | rfl | assumption | (symm; assumption) | (subst_vars; rfl)) (Eq.refl _).symm)); exact (fT_ne _ _ h9_1).trans (Eq.refl _).symm
    have hP := wr_PG e9 hP
    have hD := wr_DG e9 hD
    clear e9
    have hl : lv_has _ _ ([(0, .ref h0), (1, .int (nI rn)), (2, .int (nI 0))]) := lv_sub hl [1, 2, 0] rfl
    refine (fun (loop : ∀ (n9 : Nat) (w5 : Nat) (x2_F0 : Nat → Int32) (x2_G1 : Nat → Int64) (m1 : Nat → Int) (H : Heap) (locs : List Loc) (ls : Array Slot), (Bg x2_F0 m1) → (w5 ≤ wk) → (∀ q, (q < 22 ∨ 25 < q) → m1 q = mg q) →  (wk < w5 + n9) → va_P (dC, dI) vwCl (WR a k h0 (fT vi 0 0) vj (fT vF 0 x2_F0) (fT vG 1 x2_G1)) H → va_D A (WR a k h0 (fT vi 0 0) vj (fT vF 0 x2_F0) (fT vG 1 x2_G1)) → va_S A s.heap H locs → lv_has ls 5 [(0, .ref h0), (1, .int (nI rn)), (2, .int (nI w5))] → W p l e _ s m _ below meth c H locs 0 0 _ (F0 m 16 ls [])) => loop (wk + 1) 0 (vF 0) (vG 1) mg _ _ _ (hBg) (by omega) (fun q _ => rfl) (by omega) hP hD hS hl) ?_
    intro n9
    induction n9 with
    | zero => intro w5 x2_F0 x2_G1 m1 H locs ls hB1 hw5 ho hf9; exact False.elim (by omega)
    | succ n9 ih16 =>
      intro w5 x2_F0 x2_G1 m1 H locs ls hB1 hw5 ho hf16 hP hD hS hl
      refine lv_iload_n hx hb dX12_way_16 rfl (lv_at hl 2 rfl) ?_
      refine lv_aload_n hx hb dX12_way_17 rfl (lv_at hl 0 rfl) ?_
      refine va_get (D := (dC, dI)) (ci := 12) (v := .ref (a 59)) (C := RX12) (T := TX12) (N := 163) (fs := fM (vS a (fT vi 0 0) vj)) hx hb hts iwsRX12_way_in12 hown hK hP 0 rfl rfl 99 (by decide) (hts (.fieldLink RX12 200 "OptimaWorksModel" "wayMany" "[I") (by decide +kernel)) (fun _ h9 => h9) rfl dX12_way_18 ?_
      refine lv_iload_n hx hb dX12_way_21 rfl (lv_at hl 1 rfl) ?_
      refine va_iald (cA := k 59) (n := 13) (f := (vF 59)) hx hb hK hP 60 59 (WR_get 59 (by decide)) (TR_get 59 (by decide)) (vp_in_nI (show rn < 13 by omega) (by omega)) dX12_way_22 ?_
      refine lv_topi (fun y2 hy2 => ?_)
      obtain rfl : ((vF 59) rn) = y2 := (hy2.trans (by rw [nI_clamp (by omega)])).symm
      refine lv_topi (fun y3 hy3 => ?_)
      obtain rfl : (nI wk) = y3 := (hy3.trans (ewk)).symm
      refine lv_icmp_ge (tgt := 193) hx hb dX12_way_23 (by decide) (fun c_23 => ?_) (fun c_23 => ?_)
      · have t_23 : ((w5 : Nat) : Int) ≥ ((wk : Nat) : Int) := toI_ge c_23 (nI_toInt (by omega)) (nI_toInt (by omega))
        refine lv_iconst (v := (-1)) hx hb dX12_way_193 (by decide) ?_
        refine W.widen (k := 0) (n := 0) (by decide +kernel) (by decide +kernel) ?_
        exact W.iret (v := (-1)) hx hb hr (fun t9_ ht hW => ⟨⟨(-1), (0, x2_F0, x2_G1, m1), rfl, by (try dsimp only); exact ⟨hB1, ho⟩, by rw [ht]; exact hP, hD⟩, hS.F ht⟩) hS.2.2 dX12_way_194
      · have t_23 : ¬ ((w5 : Nat) : Int) ≥ ((wk : Nat) : Int) := toI_nge c_23 (nI_toInt (by omega)) (nI_toInt (by omega))
        refine lv_bipush (v := 9) hx hb dX12_way_26 (by decide) ?_
        refine lv_iconst (v := 3) hx hb dX12_way_28 (by decide) ?_
        refine lv_iload_n hx hb dX12_way_29 rfl (lv_at hl 1 rfl) ?_
        refine lv_imul hx hb dX12_way_30 ?_
        refine lv_topi (fun y4 hy4 => ?_)
        obtain rfl : (nI (3 * rn)) = y4 := (hy4.trans (pk_mul 3 rn)).symm
        refine lv_iload_n hx hb dX12_way_31 rfl (lv_at hl 2 rfl) ?_
        refine lv_iadd hx hb dX12_way_32 ?_
        refine lv_topi (fun y5 hy5 => ?_)
        obtain rfl : (nI ((3 * rn) + w5)) = y5 := (hy5.trans (nI_add (3 * rn) w5)).symm
        refine lv_imul hx hb dX12_way_33 ?_
        refine lv_topi (fun y6 hy6 => ?_)
        obtain rfl : (nI (9 * ((3 * rn) + w5))) = y6 := (hy6.trans (pk_mul 9 ((3 * rn) + w5))).symm
        refine lv_istore_n hx hb dX12_way_34 rfl hl (by decide) rfl (fun ls (hl : lv_has ls _ ([(3, .int (nI (9 * ((3 * rn) + w5)))), (0, .ref h0), (1, .int (nI rn)), (2, .int (nI w5))])) => ?_)
        have b0 := hM.2.2.1 (3 * rn + w5) (by omega)
        have bn := neg32 (x := (vF 60 (9 * (3 * rn + w5)))) (b := 99999) (by omega) (by decide)
        have s22 : Sz 17 (-(vF 60 (9 * (3 * rn + w5)))).toInt := by show _ < 2 ^ 17; exact Nat.lt_of_le_of_lt bn.1 (by decide)
        have s8 : Sz 131 (mg 1008) := hA0.1 8 (by omega)
        have s24 : Sz 148 ((-(vF 60 (9 * (3 * rn + w5)))).toInt * mg 1008) := mulp s22 s8 (by decide)
        refine lv_aload_n hx hb dX12_way_35 rfl (lv_at hl 1 rfl) ?_
        refine lv_bipush (v := 22) hx hb dX12_way_36 (by decide) ?_
        refine lv_aload_n hx hb dX12_way_38 rfl (lv_at hl 1 rfl) ?_
        refine va_get (D := (dC, dI)) (ci := 12) (v := .ref (a 60)) (C := RX12) (T := TX12) (N := 163) (fs := fM (vS a (fT vi 0 0) vj)) hx hb hts iwsRX12_way_in12 hown hK hP 0 rfl rfl 100 (by decide) (hts _ hm_r_X12_way_0) (fun _ h9 => h9) rfl dX12_way_39 ?_
        refine lv_iload_n hx hb dX12_way_42 rfl (lv_at hl 0 rfl) ?_
        refine va_iald (cA := k 60) (n := 351) (f := (vF 60)) hx hb hK hP 61 60 (WR_get 60 (by decide)) (TR_get 60 (by decide)) (vp_in_nI (show (9 * ((3 * rn) + w5)) < 351 by omega) (by omega)) dX12_way_43 ?_
        refine lv_topi (fun y7 hy7 => ?_)
        obtain rfl : ((vF 60) (9 * ((3 * rn) + w5))) = y7 := (hy7.trans (by rw [nI_clamp (by omega)])).symm
        refine lv_ineg hx hb dX12_way_44 ?_
        refine lv_i2l hx hb dX12_way_45 rfl ?_
        have hFc := allFree hD hS hA
        refine va_callv (va_runV (As := [.int 22, .long ((-((vF 60) (9 * ((3 * rn) + w5))))).toInt64]) (rest := []) ⟨hx, hb, hml, hown, hts⟩ (b_X12_put l dC dI a k h0 (fT vi 0 0) vj (fT vF 0 x2_F0) (fT vG 1 x2_G1) 22 (((-((vF 60) (9 * ((3 * rn) + w5))))).toInt64) ((-(vF 60 (9 * (3 * rn + w5)))).toInt) m1 hB1 (by first | with_reducible assumption | decide | omega | rfl | assumption) (i64T _) (by omega) H.size) (cwV 2 hts gwsRX12_way_1 rfl rfl rfl hd_yX12_put_RX12 (by decide +kernel)) (fz_pre (va_recv hK hP (ci := 12) (q0 := 0) rfl rfl) hP hK hD) rfl rfl hl.1 rfl (lv_room (Nat.le_of_ble_eq_true rfl)) dX12_way_46 (by decide +kernel)) hS (fun q _ h => hFc q h) hFc (fun g46 t9_ H locs ht hvm hw9 hB9 hz1 hk1 hS => ?_)
        have e9F : fT vF 0 g46 = fT (fT vF 0 x2_F0) 0 g46 := (fT_sm _ _ _ _).symm
        have hP := wr_PF e9F (fz_P ht hB9.1)
        have hD := wr_DF e9F (hB9.2.weaken (fun _ q _ h => hFc q.1 h))
        clear e9F
        have f46_0 := hw9
        try dsimp only at f46_0
        refine lv_aload_n hx hb dX12_way_49 rfl (lv_at hl 1 rfl) ?_
        refine lv_bipush (v := 24) hx hb dX12_way_50 (by decide) ?_
        refine lv_bipush (v := 22) hx hb dX12_way_52 (by decide) ?_
        refine lv_sipush (v := 1008) hx hb dX12_way_54 (by decide) ?_
        have hFc := allFree hD hS hA
        refine va_callv (va_runV (As := [.int 24, .int 22, .int 1008]) (rest := []) ⟨hx, hb, hml, hown, hts⟩ (b_X12_times l dC dI a k h0 (fT vi 0 0) vj (fT vF 0 g46) (fT vG 1 x2_G1) 24 22 1008 (fT m1 22 ((-(vF 60 (9 * (3 * rn + w5)))).toInt)) f46_0 ((-(vF 60 (9 * (3 * rn + w5)))).toInt) (m1 1008) (by rw [fT_eq]) (by rw [fT_ne _ _ (by omega)]) (by first | with_reducible assumption | decide | omega | rfl | assumption) (by first | with_reducible assumption | decide | omega | rfl | assumption) (by first | with_reducible assumption | decide | omega | rfl | assumption) (by rw [ho 1008 (by omega)]; exact mulpN (c := 588) s22 s8 (by decide)) H.size) (cwV 3 hts gwsRX12_way_2 rfl rfl rfl hd_yX12_times_RX12 (by decide +kernel)) (fz_pre (va_recv hK hP (ci := 12) (q0 := 0) rfl rfl) hP hK hD) rfl rfl hl.1 rfl (lv_room (Nat.le_of_ble_eq_true rfl)) dX12_way_57 (by decide +kernel)) hS (fun q _ h => hFc q h) hFc (fun u t9_ H locs ht hvm hw9 hB9 hz1 hk1 hS => ?_)
        revert u hw9 hB9
        refine fz_p2 ?_
        intro g57 gs57 hw9 hB9
        try dsimp only at hw9 hB9
        have e9F : fT vF 0 g57 = fT (fT vF 0 g46) 0 g57 := (fT_sm _ _ _ _).symm
        have e9G : fT vG 1 gs57 = fT (fT vG 1 x2_G1) 1 gs57 := (fT_sm _ _ _ _).symm
        have hP := wr_PG e9G (wr_PF e9F (fz_P ht hB9.1))
        have hD := wr_DG e9G (wr_DF e9F (hB9.2.weaken (fun _ q _ h => hFc q.1 h)))
        clear e9F e9G
        have f57_0 := hw9
        try dsimp only at f57_0
        refine lv_iconst (v := 0) hx hb dX12_way_60 (by decide) ?_
        refine lv_istore hx hb dX12_way_61 hl (by decide) rfl (fun ls (hl : lv_has ls _ ([(4, .int 0), (3, .int (nI (9 * ((3 * rn) + w5)))), (0, .ref h0), (1, .int (nI rn)), (2, .int (nI w5))])) => ?_)
        have hl : lv_has _ _ ([(0, .ref h0), (1, .int (nI rn)), (2, .int (nI w5)), (3, .int (nI (9 * ((3 * rn) + w5)))), (4, .int (nI 0))]) := lv_sub hl [2, 3, 4, 1, 0] rfl
        refine (fun (loop : ∀ (n9 : Nat) (k5 : Nat) (x3_F0 : Nat → Int32) (x3_G1 : Nat → Int64) (m3 : Nat → Int) (x24 : Int) (H : Heap) (locs : List Loc) (ls : Array Slot), (Bg x3_F0 m3) → (m3 24 = x24) → (k5 ≤ vn) → (x24.natAbs ≤ 2 ^ 148 + k5 * 2 ^ 138) → (∀ q, (q < 22 ∨ 25 < q) → m3 q = mg q) →  (vn < k5 + n9) → va_P (dC, dI) vwCl (WR a k h0 (fT vi 0 0) vj (fT vF 0 x3_F0) (fT vG 1 x3_G1)) H → va_D A (WR a k h0 (fT vi 0 0) vj (fT vF 0 x3_F0) (fT vG 1 x3_G1)) → va_S A s.heap H locs → lv_has ls 5 [(0, .ref h0), (1, .int (nI rn)), (2, .int (nI w5)), (3, .int (nI (9 * ((3 * rn) + w5)))), (4, .int (nI k5))] → W p l e _ s m _ below meth c H locs 0 0 _ (F0 m 63 ls [])) => loop (vn + 1) 0 g57 gs57 (fT (fT m1 22 ((-(vF 60 (9 * (3 * rn + w5)))).toInt)) 24 (((-(vF 60 (9 * (3 * rn + w5)))).toInt) * (m1 1008))) (((-(vF 60 (9 * (3 * rn + w5)))).toInt) * (m1 1008)) _ _ _ (f57_0) ((by rw [fT_eq])) (by omega) (by rw [ho 1008 (by omega)]; (have h9 : ((-(vF 60 (9 * (3 * rn + w5)))).toInt * mg 1008).natAbs < 2 ^ 148 := s24); omega) (fun q hq => by (rw [fT_ne _ _ (by omega), fT_ne _ _ (by omega)]); exact ho q hq) (by omega) hP hD hS hl) ?_
        intro n9
        induction n9 with
        | zero => intro k5 x3_F0 x3_G1 m3 x24 H locs ls hB3 v_x24 hk5 hx24 ho3 hf9; exact False.elim (by omega)
        | succ n9 ih63_1 =>
          intro k5 x3_F0 x3_G1 m3 x24 H locs ls hB3 v_x24 hk5 hx24 ho3 hf63_1 hP hD hS hl
          refine lv_iload hx hb dX12_way_63 (lv_at hl 4 rfl) ?_
          refine lv_aload_n hx hb dX12_way_65 rfl (lv_at hl 0 rfl) ?_
          refine va_get (D := (dC, dI)) (ci := 12) (v := .int (vi 90)) (C := RX12) (T := TX12) (N := 163) (fs := fM (vS a (fT vi 0 0) vj)) hx hb hts iwsRX12_way_in12 hown hK hP 0 rfl rfl 90 (by decide) (hts (.fieldLink RX12 774 "OptimaWorksModel" "variables" "I") (by decide +kernel)) (fun _ h9 => h9) rfl dX12_way_66 ?_
          refine lv_topi (fun y8 hy8 => ?_)
          obtain rfl : (nI vn) = y8 := (hy8.trans (hvn)).symm
          refine lv_icmp_ge (tgt := 129) hx hb dX12_way_69 (by decide) (fun c_69 => ?_) (fun c_69 => ?_)
          · have t_69 : ((k5 : Nat) : Int) ≥ ((vn : Nat) : Int) := toI_ge c_69 (nI_toInt (by omega)) (nI_toInt (by omega))
            refine lv_aload_n hx hb dX12_way_129 rfl (lv_at hl 0 rfl) ?_
            refine va_get (D := (dC, dI)) (ci := 12) (v := .ref (a 61)) (C := RX12) (T := TX12) (N := 163) (fs := fM (vS a (fT vi 0 0) vj)) hx hb hts iwsRX12_way_in12 hown hK hP 0 rfl rfl 101 (by decide) (hts (.fieldLink RX12 206 "OptimaWorksModel" "waySign" "[I") (by decide +kernel)) (fun _ h9 => h9) rfl dX12_way_130 ?_
            refine lv_iconst (v := 3) hx hb dX12_way_133 (by decide) ?_
            refine lv_iload_n hx hb dX12_way_134 rfl (lv_at hl 1 rfl) ?_
            refine lv_imul hx hb dX12_way_135 ?_
            refine lv_topi (fun y9 hy9 => ?_)
            obtain rfl : (nI (3 * rn)) = y9 := (hy9.trans (pk_mul 3 rn)).symm
            refine lv_iload_n hx hb dX12_way_136 rfl (lv_at hl 2 rfl) ?_
            refine lv_iadd hx hb dX12_way_137 ?_
            refine lv_topi (fun y10 hy10 => ?_)
            obtain rfl : (nI ((3 * rn) + w5)) = y10 := (hy10.trans (nI_add (3 * rn) w5)).symm
            refine va_iald (cA := k 61) (n := 39) (f := (vF 61)) hx hb hK hP 62 61 (WR_get 61 (by decide)) (TR_get 61 (by decide)) (vp_in_nI (show ((3 * rn) + w5) < 39 by omega) (by omega)) dX12_way_138 ?_
            refine lv_topi (fun y11 hy11 => ?_)
            obtain rfl : ((vF 61) ((3 * rn) + w5)) = y11 := (hy11.trans (by rw [nI_clamp (by omega)])).symm
            refine lv_istore hx hb dX12_way_139 hl (by decide) rfl (fun ls (hl : lv_has ls _ ([(4, .int ((vF 61) ((3 * rn) + w5))), (0, .ref h0), (1, .int (nI rn)), (2, .int (nI w5)), (3, .int (nI (9 * ((3 * rn) + w5))))])) => ?_)
            refine lv_iload hx hb dX12_way_141 (lv_at hl 0 rfl) ?_
            refine lv_if_ne (tgt := 158) hx hb dX12_way_143 (by decide) (fun c_143 => ?_) (fun c_143 => ?_)
            · have t_143 : (((vF 61) ((3 * rn) + w5))).toInt ≠ 0 := toI_ne c_143 rfl (by decide)
              refine lv_iload hx hb dX12_way_158 (lv_at hl 0 rfl) ?_
              refine lv_iconst (v := 1) hx hb dX12_way_160 (by decide) ?_
              refine lv_icmp_ne (tgt := 176) hx hb dX12_way_161 (by decide) (fun c_161 => ?_) (fun c_161 => ?_)
              · have t_161 : (((vF 61) ((3 * rn) + w5))).toInt ≠ 1 := toI_ne c_161 rfl (by decide)
                refine lv_aload_n hx hb dX12_way_176 rfl (lv_at hl 1 rfl) ?_
                refine lv_bipush (v := 24) hx hb dX12_way_177 (by decide) ?_
                have hFc := allFree hD hS hA
                refine va_calli (va_runV (As := [.int 24]) (rest := []) ⟨hx, hb, hml, hown, hts⟩ (b_X12_sign l dC dI a k h0 (fT vi 0 0) vj (fT vF 0 x3_F0) (fT vG 1 x3_G1) 24 m3 hB3 x24 (by rw [v_x24]) (by first | with_reducible assumption | decide | omega | rfl | assumption) H.size) (cwV 1 hts gwsRX12_way_3 rfl rfl rfl hd_yX12_sign_RX12 (by decide +kernel)) (fz_pre (va_recv hK hP (ci := 12) (q0 := 0) rfl rfl) hP hK hD) rfl rfl hl.1 rfl (lv_room (Nat.le_of_ble_eq_true rfl)) dX12_way_179 (by decide +kernel)) hS (fun q _ h => hFc q h) hFc (fun r179 u t9_ H locs ht hvm hw9 hB9 hz1 hk1 hS => ?_)
                have hP : va_P (dC, dI) vwCl (WR a k h0 (fT vi 0 0) vj (fT vF 0 x3_F0) (fT vG 1 x3_G1)) H := fz_P ht hB9.1
                have hD := fz_sd hP (hB9.2.weaken (fun _ q _ h => hFc q.1 h)) rfl
                have f179_0 := hw9
                try dsimp only at f179_0
                refine lv_if_ne (tgt := 187) hx hb dX12_way_182 (by decide) (fun c_182 => ?_) (fun c_182 => ?_)
                · have t_182 : (r179).toInt ≠ 0 := toI_ne c_182 rfl (by decide)
                  refine lv_iinc (v := (nI (w5 + 1))) hx hb dX12_way_187 hl (k := 3) rfl (nI_add w5 1) (by decide) rfl (fun ls (hl : lv_has ls _ ([(2, .int (nI (w5 + 1))), (4, .int ((vF 61) ((3 * rn) + w5))), (0, .ref h0), (1, .int (nI rn)), (3, .int (nI (9 * ((3 * rn) + w5))))])) => ?_)
                  refine lv_goto (tgt := 16) hx hb dX12_way_190 (by decide) ?_
                  have hl : lv_has _ _ ([(0, .ref h0), (1, .int (nI rn)), (2, .int (nI (w5 + 1)))]) := lv_sub hl [2, 3, 0] rfl
                  exact ih16 (w5 + 1) x3_F0 x3_G1 m3 _ _ _ (hB3) (by omega) (ho3) (by omega) hP hD hS hl
                · have t_182 : (r179).toInt = 0 := toI_nne c_182 rfl (by decide)
                  refine lv_iload_n hx hb dX12_way_185 rfl (lv_at hl 3 rfl) ?_
                  refine W.widen (k := 0) (n := 0) (by decide +kernel) (by decide +kernel) ?_
                  exact W.iret (v := (nI w5)) hx hb hr (fun t9_ ht hW => ⟨⟨(nI w5), (0, x3_F0, x3_G1, m3), rfl, by (try dsimp only); exact ⟨hB3, ho3⟩, by rw [ht]; exact hP, hD⟩, hS.F ht⟩) hS.2.2 dX12_way_186
              · have t_161 : (((vF 61) ((3 * rn) + w5))).toInt = 1 := toI_nne c_161 rfl (by decide)
                refine lv_aload_n hx hb dX12_way_164 rfl (lv_at hl 1 rfl) ?_
                refine lv_bipush (v := 24) hx hb dX12_way_165 (by decide) ?_
                have hFc := allFree hD hS hA
                refine va_calli (va_runV (As := [.int 24]) (rest := []) ⟨hx, hb, hml, hown, hts⟩ (b_X12_sign l dC dI a k h0 (fT vi 0 0) vj (fT vF 0 x3_F0) (fT vG 1 x3_G1) 24 m3 hB3 x24 (by rw [v_x24]) (by first | with_reducible assumption | decide | omega | rfl | assumption) H.size) (cwV 1 hts gwsRX12_way_3 rfl rfl rfl hd_yX12_sign_RX12 (by decide +kernel)) (fz_pre (va_recv hK hP (ci := 12) (q0 := 0) rfl rfl) hP hK hD) rfl rfl hl.1 rfl (lv_room (Nat.le_of_ble_eq_true rfl)) dX12_way_167 (by decide +kernel)) hS (fun q _ h => hFc q h) hFc (fun r167 u t9_ H locs ht hvm hw9 hB9 hz1 hk1 hS => ?_)
                have hP : va_P (dC, dI) vwCl (WR a k h0 (fT vi 0 0) vj (fT vF 0 x3_F0) (fT vG 1 x3_G1)) H := fz_P ht hB9.1
                have hD := fz_sd hP (hB9.2.weaken (fun _ q _ h => hFc q.1 h)) rfl
                have f167_0 := hw9
                try dsimp only at f167_0
                refine lv_if_lt (tgt := 187) hx hb dX12_way_170 (by decide) (fun c_170 => ?_) (fun c_170 => ?_)
                · have t_170 : (r167).toInt < 0 := toI_lt c_170 rfl (by decide)
                  refine lv_iinc (v := (nI (w5 + 1))) hx hb dX12_way_187 hl (k := 3) rfl (nI_add w5 1) (by decide) rfl (fun ls (hl : lv_has ls _ ([(2, .int (nI (w5 + 1))), (4, .int ((vF 61) ((3 * rn) + w5))), (0, .ref h0), (1, .int (nI rn)), (3, .int (nI (9 * ((3 * rn) + w5))))])) => ?_)
                  refine lv_goto (tgt := 16) hx hb dX12_way_190 (by decide) ?_
                  have hl : lv_has _ _ ([(0, .ref h0), (1, .int (nI rn)), (2, .int (nI (w5 + 1)))]) := lv_sub hl [2, 3, 0] rfl
                  exact ih16 (w5 + 1) x3_F0 x3_G1 m3 _ _ _ (hB3) (by omega) (ho3) (by omega) hP hD hS hl
                · have t_170 : ¬ (r167).toInt < 0 := toI_nlt c_170 rfl (by decide)
                  refine lv_goto (tgt := 185) hx hb dX12_way_173 (by decide) ?_
                  refine lv_iload_n hx hb dX12_way_185 rfl (lv_at hl 3 rfl) ?_
                  refine W.widen (k := 0) (n := 0) (by decide +kernel) (by decide +kernel) ?_
                  exact W.iret (v := (nI w5)) hx hb hr (fun t9_ ht hW => ⟨⟨(nI w5), (0, x3_F0, x3_G1, m3), rfl, by (try dsimp only); exact ⟨hB3, ho3⟩, by rw [ht]; exact hP, hD⟩, hS.F ht⟩) hS.2.2 dX12_way_186
            · have t_143 : (((vF 61) ((3 * rn) + w5))).toInt = 0 := toI_nne c_143 rfl (by decide)
              refine lv_aload_n hx hb dX12_way_146 rfl (lv_at hl 1 rfl) ?_
              refine lv_bipush (v := 24) hx hb dX12_way_147 (by decide) ?_
              have hFc := allFree hD hS hA
              refine va_calli (va_runV (As := [.int 24]) (rest := []) ⟨hx, hb, hml, hown, hts⟩ (b_X12_sign l dC dI a k h0 (fT vi 0 0) vj (fT vF 0 x3_F0) (fT vG 1 x3_G1) 24 m3 hB3 x24 (by rw [v_x24]) (by first | with_reducible assumption | decide | omega | rfl | assumption) H.size) (cwV 1 hts gwsRX12_way_3 rfl rfl rfl hd_yX12_sign_RX12 (by decide +kernel)) (fz_pre (va_recv hK hP (ci := 12) (q0 := 0) rfl rfl) hP hK hD) rfl rfl hl.1 rfl (lv_room (Nat.le_of_ble_eq_true rfl)) dX12_way_149 (by decide +kernel)) hS (fun q _ h => hFc q h) hFc (fun r149 u t9_ H locs ht hvm hw9 hB9 hz1 hk1 hS => ?_)
              have hP : va_P (dC, dI) vwCl (WR a k h0 (fT vi 0 0) vj (fT vF 0 x3_F0) (fT vG 1 x3_G1)) H := fz_P ht hB9.1
              have hD := fz_sd hP (hB9.2.weaken (fun _ q _ h => hFc q.1 h)) rfl
              have f149_0 := hw9
              try dsimp only at f149_0
              refine lv_if_gt (tgt := 187) hx hb dX12_way_152 (by decide) (fun c_152 => ?_) (fun c_152 => ?_)
              · have t_152 : (r149).toInt > 0 := toI_gt c_152 rfl (by decide)
                refine lv_iinc (v := (nI (w5 + 1))) hx hb dX12_way_187 hl (k := 3) rfl (nI_add w5 1) (by decide) rfl (fun ls (hl : lv_has ls _ ([(2, .int (nI (w5 + 1))), (4, .int ((vF 61) ((3 * rn) + w5))), (0, .ref h0), (1, .int (nI rn)), (3, .int (nI (9 * ((3 * rn) + w5))))])) => ?_)
                refine lv_goto (tgt := 16) hx hb dX12_way_190 (by decide) ?_
                have hl : lv_has _ _ ([(0, .ref h0), (1, .int (nI rn)), (2, .int (nI (w5 + 1)))]) := lv_sub hl [2, 3, 0] rfl
                exact ih16 (w5 + 1) x3_F0 x3_G1 m3 _ _ _ (hB3) (by omega) (ho3) (by omega) hP hD hS hl
              · have t_152 : ¬ (r149).toInt > 0 := toI_ngt c_152 rfl (by decide)
                refine lv_goto (tgt := 185) hx hb dX12_way_155 (by decide) ?_
                refine lv_iload_n hx hb dX12_way_185 rfl (lv_at hl 3 rfl) ?_
                refine W.widen (k := 0) (n := 0) (by decide +kernel) (by decide +kernel) ?_
                exact W.iret (v := (nI w5)) hx hb hr (fun t9_ ht hW => ⟨⟨(nI w5), (0, x3_F0, x3_G1, m3), rfl, by (try dsimp only); exact ⟨hB3, ho3⟩, by rw [ht]; exact hP, hD⟩, hS.F ht⟩) hS.2.2 dX12_way_186
          · have t_69 : ¬ ((k5 : Nat) : Int) ≥ ((vn : Nat) : Int) := toI_nge c_69 (nI_toInt (by omega)) (nI_toInt (by omega))
            have b1 := hM.2.2.2.1 (3 * rn + w5) k5 (by omega) (by omega)
            have s1 : Sz 7 (vF 60 (9 * (3 * rn + w5) + 1 + k5)).toInt := by show _ < 2 ^ 7; exact Nat.lt_of_le_of_lt (show _ ≤ 99 by omega) (by decide)
            have sk : Sz 131 (mg (1000 + k5)) := hA0.1 k5 (by omega)
            have s23 : Sz 138 ((vF 60 (9 * (3 * rn + w5) + 1 + k5)).toInt * mg (1000 + k5)) := mulp s1 sk (by decide)
            have s25 : (x24 + 1 * ((vF 60 (9 * (3 * rn + w5) + 1 + k5)).toInt * mg (1000 + k5))).natAbs ≤ 2 ^ 148 + (k5 + 1) * 2 ^ 138 := by (have h9 : ((vF 60 (9 * (3 * rn + w5) + 1 + k5)).toInt * mg (1000 + k5)).natAbs < 2 ^ 138 := s23); omega
            refine lv_aload_n hx hb dX12_way_72 rfl (lv_at hl 0 rfl) ?_
            refine lv_bipush (v := 22) hx hb dX12_way_73 (by decide) ?_
            refine lv_aload_n hx hb dX12_way_75 rfl (lv_at hl 0 rfl) ?_
            refine va_get (D := (dC, dI)) (ci := 12) (v := .ref (a 60)) (C := RX12) (T := TX12) (N := 163) (fs := fM (vS a (fT vi 0 0) vj)) hx hb hts iwsRX12_way_in12 hown hK hP 0 rfl rfl 100 (by decide) (hts _ hm_r_X12_way_0) (fun _ h9 => h9) rfl dX12_way_76 ?_
            refine lv_iload_n hx hb dX12_way_79 rfl (lv_at hl 3 rfl) ?_
            refine lv_iconst (v := 1) hx hb dX12_way_80 (by decide) ?_
            refine lv_iadd hx hb dX12_way_81 ?_
            refine lv_topi (fun y12 hy12 => ?_)
            obtain rfl : (nI ((9 * ((3 * rn) + w5)) + 1)) = y12 := (hy12.trans (nI_add (9 * ((3 * rn) + w5)) 1)).symm
            refine lv_iload hx hb dX12_way_82 (lv_at hl 4 rfl) ?_
            refine lv_iadd hx hb dX12_way_84 ?_
            refine lv_topi (fun y13 hy13 => ?_)
            obtain rfl : (nI (((9 * ((3 * rn) + w5)) + 1) + k5)) = y13 := (hy13.trans (nI_add ((9 * ((3 * rn) + w5)) + 1) k5)).symm
            refine va_iald (cA := k 60) (n := 351) (f := (vF 60)) hx hb hK hP 61 60 (WR_get 60 (by decide)) (TR_get 60 (by decide)) (vp_in_nI (show (((9 * ((3 * rn) + w5)) + 1) + k5) < 351 by omega) (by omega)) dX12_way_85 ?_
            refine lv_topi (fun y14 hy14 => ?_)
            obtain rfl : ((vF 60) (((9 * ((3 * rn) + w5)) + 1) + k5)) = y14 := (hy14.trans (by rw [nI_clamp (by omega)])).symm
            refine lv_i2l hx hb dX12_way_86 rfl ?_
            have hFc := allFree hD hS hA
            refine va_callv (va_runV (As := [.int 22, .long (((vF 60) (((9 * ((3 * rn) + w5)) + 1) + k5))).toInt64]) (rest := []) ⟨hx, hb, hml, hown, hts⟩ (b_X12_put l dC dI a k h0 (fT vi 0 0) vj (fT vF 0 x3_F0) (fT vG 1 x3_G1) 22 ((((vF 60) (((9 * ((3 * rn) + w5)) + 1) + k5))).toInt64) ((vF 60 (9 * (3 * rn + w5) + 1 + k5)).toInt) m3 hB3 (by first | with_reducible assumption | decide | omega | rfl | assumption) (i64T _) (by omega) H.size) (cwV 2 hts gwsRX12_way_1 rfl rfl rfl hd_yX12_put_RX12 (by decide +kernel)) (fz_pre (va_recv hK hP (ci := 12) (q0 := 0) rfl rfl) hP hK hD) rfl rfl hl.1 rfl (lv_room (Nat.le_of_ble_eq_true rfl)) dX12_way_87 (by decide +kernel)) hS (fun q _ h => hFc q h) hFc (fun g87 t9_ H locs ht hvm hw9 hB9 hz1 hk1 hS => ?_)
            have e9F : fT vF 0 g87 = fT (fT vF 0 x3_F0) 0 g87 := (fT_sm _ _ _ _).symm
            have hP := wr_PF e9F (fz_P ht hB9.1)
            have hD := wr_DF e9F (hB9.2.weaken (fun _ q _ h => hFc q.1 h))
            clear e9F
            have f87_0 := hw9
            try dsimp only at f87_0
            refine lv_aload_n hx hb dX12_way_90 rfl (lv_at hl 0 rfl) ?_
            refine lv_bipush (v := 23) hx hb dX12_way_91 (by decide) ?_
            refine lv_bipush (v := 22) hx hb dX12_way_93 (by decide) ?_
            refine lv_sipush (v := 1000) hx hb dX12_way_95 (by decide) ?_
            refine lv_iload hx hb dX12_way_98 (lv_at hl 4 rfl) ?_
            refine lv_iadd hx hb dX12_way_100 ?_
            refine lv_topi (fun y15 hy15 => ?_)
            obtain rfl : (nI (1000 + k5)) = y15 := (hy15.trans (nI_add 1000 k5)).symm
            have hFc := allFree hD hS hA
            refine va_callv (va_runV (As := [.int 23, .int 22, .int (nI (1000 + k5))]) (rest := []) ⟨hx, hb, hml, hown, hts⟩ (b_X12_times l dC dI a k h0 (fT vi 0 0) vj (fT vF 0 g87) (fT vG 1 x3_G1) 23 22 (1000 + k5) (fT m3 22 ((vF 60 (9 * (3 * rn + w5) + 1 + k5)).toInt)) f87_0 ((vF 60 (9 * (3 * rn + w5) + 1 + k5)).toInt) (mg (1000 + k5)) (by rw [fT_eq]) (by rw [fT_ne _ _ (by omega), ho3 (1000 + k5) (by omega)]) (by first | with_reducible assumption | decide | omega | rfl | assumption) (by first | with_reducible assumption | decide | omega | rfl | assumption) (by first | with_reducible assumption | decide | omega | rfl | assumption) (mulpN (c := 588) s1 sk (by decide)) H.size) (cwV 3 hts gwsRX12_way_2 rfl rfl rfl hd_yX12_times_RX12 (by decide +kernel)) (fz_pre (va_recv hK hP (ci := 12) (q0 := 0) rfl rfl) hP hK hD) rfl rfl hl.1 rfl (lv_room (Nat.le_of_ble_eq_true rfl)) dX12_way_101 (by decide +kernel)) hS (fun q _ h => hFc q h) hFc (fun u t9_ H locs ht hvm hw9 hB9 hz1 hk1 hS => ?_)
            revert u hw9 hB9
            refine fz_p2 ?_
            intro g101 gs101 hw9 hB9
            try dsimp only at hw9 hB9
            have e9F : fT vF 0 g101 = fT (fT vF 0 g87) 0 g101 := (fT_sm _ _ _ _).symm
            have e9G : fT vG 1 gs101 = fT (fT vG 1 x3_G1) 1 gs101 := (fT_sm _ _ _ _).symm
            have hP := wr_PG e9G (wr_PF e9F (fz_P ht hB9.1))
            have hD := wr_DG e9G (wr_DF e9F (hB9.2.weaken (fun _ q _ h => hFc q.1 h)))
            clear e9F e9G
            have f101_0 := hw9
            try dsimp only at f101_0
            refine lv_aload_n hx hb dX12_way_104 rfl (lv_at hl 0 rfl) ?_
            refine lv_bipush (v := 25) hx hb dX12_way_105 (by decide) ?_
            refine lv_bipush (v := 24) hx hb dX12_way_107 (by decide) ?_
            refine lv_bipush (v := 23) hx hb dX12_way_109 (by decide) ?_
            refine lv_iconst (v := 1) hx hb dX12_way_111 (by decide) ?_
            have hFc := allFree hD hS hA
            refine va_callv (va_runV (As := [.int 25, .int 24, .int 23, .int 1]) (rest := []) ⟨hx, hb, hml, hown, hts⟩ (b_X12_add l dC dI a k h0 (fT vi 0 0) vj (fT vF 0 g101) (fT vG 1 gs101) 25 1 1 24 23 (fT (fT m3 22 ((vF 60 (9 * (3 * rn + w5) + 1 + k5)).toInt)) 23 (((vF 60 (9 * (3 * rn + w5) + 1 + k5)).toInt) * (mg (1000 + k5)))) f101_0 x24 (((vF 60 (9 * (3 * rn + w5) + 1 + k5)).toInt) * (mg (1000 + k5))) (by rw [fT_ne _ _ (by omega), fT_ne _ _ (by omega), v_x24]) (by rw [fT_eq]) (by first | with_reducible assumption | decide | omega | rfl | assumption) (by first | with_reducible assumption | decide | omega | rfl | assumption) (by first | with_reducible assumption | decide | omega | rfl | assumption) (Or.inl ⟨rfl, rfl⟩) (by omega) H.size) (cwV 4 hts gwsRX12_way_4 rfl rfl rfl hd_yX12_add_RX12 (by decide +kernel)) (fz_pre (va_recv hK hP (ci := 12) (q0 := 0) rfl rfl) hP hK hD) rfl rfl hl.1 rfl (lv_room (Nat.le_of_ble_eq_true rfl)) dX12_way_112 (by decide +kernel)) hS (fun q _ h => hFc q h) hFc (fun u t9_ H locs ht hvm hw9 hB9 hz1 hk1 hS => ?_)
            revert u hw9 hB9
            refine fz_p2 ?_
            intro g112 gs112 hw9 hB9
            try dsimp only at hw9 hB9
            have e9F : fT vF 0 g112 = fT (fT vF 0 g101) 0 g112 := (fT_sm _ _ _ _).symm
            have e9G : fT vG 1 gs112 = fT (fT vG 1 gs101) 1 gs112 := (fT_sm _ _ _ _).symm
            have hP := wr_PG e9G (wr_PF e9F (fz_P ht hB9.1))
            have hD := wr_DG e9G (wr_DF e9F (hB9.2.weaken (fun _ q _ h => hFc q.1 h)))
            clear e9F e9G
            have f112_0 := hw9
            try dsimp only at f112_0
            refine lv_aload_n hx hb dX12_way_115 rfl (lv_at hl 0 rfl) ?_
            refine lv_bipush (v := 24) hx hb dX12_way_116 (by decide) ?_
            refine lv_bipush (v := 25) hx hb dX12_way_118 (by decide) ?_
            have hFc := allFree hD hS hA
            refine va_callv (va_runV (As := [.int 24, .int 25]) (rest := []) ⟨hx, hb, hml, hown, hts⟩ (b_X12_copy l dC dI a k h0 (fT vi 0 0) vj (fT vF 0 g112) (fT vG 1 gs112) 24 25 (fT (fT (fT m3 22 ((vF 60 (9 * (3 * rn + w5) + 1 + k5)).toInt)) 23 (((vF 60 (9 * (3 * rn + w5) + 1 + k5)).toInt) * (mg (1000 + k5)))) 25 (x24 + 1 * (((vF 60 (9 * (3 * rn + w5) + 1 + k5)).toInt) * (mg (1000 + k5))))) f112_0 (x24 + 1 * (((vF 60 (9 * (3 * rn + w5) + 1 + k5)).toInt) * (mg (1000 + k5)))) (by rw [fT_eq]) (by first | with_reducible assumption | decide | omega | rfl | assumption) (by first | with_reducible assumption | decide | omega | rfl | assumption) (by first | with_reducible assumption | decide | omega | rfl | assumption) H.size) (cwV 2 hts gwsRX12_way_5 rfl rfl rfl hd_yX12_copy_RX12 (by decide +kernel)) (fz_pre (va_recv hK hP (ci := 12) (q0 := 0) rfl rfl) hP hK hD) rfl rfl hl.1 rfl (lv_room (Nat.le_of_ble_eq_true rfl)) dX12_way_120 (by decide +kernel)) hS (fun q _ h => hFc q h) hFc (fun g120 t9_ H locs ht hvm hw9 hB9 hz1 hk1 hS => ?_)
            have e9F : fT vF 0 g120 = fT (fT vF 0 g112) 0 g120 := (fT_sm _ _ _ _).symm
            have hP := wr_PF e9F (fz_P ht hB9.1)
            have hD := wr_DF e9F (hB9.2.weaken (fun _ q _ h => hFc q.1 h))
            clear e9F
            have f120_0 := hw9
            try dsimp only at f120_0
            refine lv_iinc (v := (nI (k5 + 1))) hx hb dX12_way_123 hl (k := 4) rfl (nI_add k5 1) (by decide) rfl (fun ls (hl : lv_has ls _ ([(4, .int (nI (k5 + 1))), (0, .ref h0), (1, .int (nI rn)), (2, .int (nI w5)), (3, .int (nI (9 * ((3 * rn) + w5))))])) => ?_)
            refine lv_goto (tgt := 63) hx hb dX12_way_126 (by decide) ?_
            have hl : lv_has _ _ ([(0, .ref h0), (1, .int (nI rn)), (2, .int (nI w5)), (3, .int (nI (9 * ((3 * rn) + w5)))), (4, .int (nI (k5 + 1)))]) := lv_sub hl [1, 2, 3, 4, 0] rfl
            exact ih63_1 (k5 + 1) g120 gs112 (fT (fT (fT (fT m3 22 ((vF 60 (9 * (3 * rn + w5) + 1 + k5)).toInt)) 23 (((vF 60 (9 * (3 * rn + w5) + 1 + k5)).toInt) * (mg (1000 + k5)))) 25 (x24 + 1 * (((vF 60 (9 * (3 * rn + w5) + 1 + k5)).toInt) * (mg (1000 + k5))))) 24 (x24 + 1 * (((vF 60 (9 * (3 * rn + w5) + 1 + k5)).toInt) * (mg (1000 + k5))))) (x24 + 1 * (((vF 60 (9 * (3 * rn + w5) + 1 + k5)).toInt) * (mg (1000 + k5)))) _ _ _ (f120_0) ((by rw [fT_eq])) (by omega) (s25) (fun q hq => by (rw [fT_ne _ _ (by omega), fT_ne _ _ (by omega), fT_ne _ _ (by omega), fT_ne _ _ (by omega)]); exact ho3 q hq) (by omega) hP hD hS hl
  · refine lv_if_ne (tgt := 14) hx hb dX12_way_9 (by decide) (fun c9 => absurd c9 (by decide)) (fun _ => ?_)
    refine lv_iconst (v := 0) hx hb dX12_way_12 (by decide) ?_
    refine W.widen (k := 0) (n := 0) (by decide +kernel) (by decide +kernel) ?_
    have e9 : fT vF 0 (vF 0) = vF := fT_id _ _ (rfl)
    have hP := wr_PF e9 hP
    have hD := wr_DF e9 hD
    clear e9
    have e9 : fT vG 1 (vG 1) = vG := fT_id _ _ (rfl)
    have hP := wr_PG e9 hP
    have hD := wr_DG e9 hD
    clear e9
    exact W.iret (v := 0) hx hb hr (fun t9_ ht hW => ⟨⟨0, (th6, (vF 0), (vG 1), mg), rfl, by (try dsimp only); exact ⟨hBg, fun q _ => rfl⟩, by rw [ht]; exact hP, hD⟩, hS.F ht⟩) hS.2.2 dX12_way_13
end
section
theorem dX12_letter_0 : decode cX12_letter 0 = .ok (.aload_n 0, 1) := dk_42 (by decide +kernel)
theorem dX12_letter_1 : decode cX12_letter 1 = .ok (.iconst 0, 1) := dk_3 (by decide +kernel)
theorem dX12_letter_2 : decode cX12_letter 2 = .ok (.putfield 348, 3) := dk_181 (by decide +kernel)
theorem dX12_letter_5 : decode cX12_letter 5 = .ok (.iload_n 1, 1) := dk_27 (by decide +kernel)
theorem dX12_letter_6 : decode cX12_letter 6 = .ok (.ifCond .lt 11, 3) := dk_155 (by decide +kernel)
theorem dX12_letter_9 : decode cX12_letter 9 = .ok (.iload_n 1, 1) := dk_27 (by decide +kernel)
theorem dX12_letter_10 : decode cX12_letter 10 = .ok (.aload_n 0, 1) := dk_42 (by decide +kernel)
theorem dX12_letter_11 : decode cX12_letter 11 = .ok (.getfield 933, 3) := dk_180 (by decide +kernel)
theorem dX12_letter_14 : decode cX12_letter 14 = .ok (.if_icmp .lt 7, 3) := dk_161 (by decide +kernel)
theorem dX12_letter_17 : decode cX12_letter 17 = .ok (.iconst (-1), 1) := dk_2 (by decide +kernel)
theorem dX12_letter_18 : decode cX12_letter 18 = .ok (.goto 13, 3) := dk_167 (by decide +kernel)
theorem dX12_letter_21 : decode cX12_letter 21 = .ok (.aload_n 0, 1) := dk_42 (by decide +kernel)
theorem dX12_letter_22 : decode cX12_letter 22 = .ok (.getfield 248, 3) := dk_180 (by decide +kernel)
theorem dX12_letter_25 : decode cX12_letter 25 = .ok (.iload_n 1, 1) := dk_27 (by decide +kernel)
theorem dX12_letter_26 : decode cX12_letter 26 = .ok (.baload, 1) := dk_51 (by decide +kernel)
theorem dX12_letter_27 : decode cX12_letter 27 = .ok (.sipush 255, 3) := dk_17 (by decide +kernel)
theorem dX12_letter_30 : decode cX12_letter 30 = .ok (.iand, 1) := dk_126 (by decide +kernel)
theorem dX12_letter_31 : decode cX12_letter 31 = .ok (.ireturn, 1) := dk_172 (by decide +kernel)
def wsRX12_letter : List Cond := .code yX12_letter cX12_letter 2 (some .int) :: ([.fieldLink RX12 348 "OptimaWorksModel" "thrown" "I", .fieldLink RX12 933 "OptimaWorksModel" "printed" "I", .fieldLink RX12 248 "OptimaWorksModel" "out" "[B"] ++ wsX120)
theorem iwsRX12_letter_in12 : ∀ w ∈ wsX120, w ∈ wsRX12_letter := fun _ h => List.mem_cons_of_mem _ (List.mem_append_right _ h)
theorem gdwsRX12_letter : wsRX12_letter.all goodWord = true := gdC rfl (gdA (by decide +kernel : ([.fieldLink RX12 348 "OptimaWorksModel" "thrown" "I", .fieldLink RX12 933 "OptimaWorksModel" "printed" "I", .fieldLink RX12 248 "OptimaWorksModel" "out" "[B"] : List Cond).all goodWord = true) gdwsX120)
set_option maxHeartbeats 4000000 in
set_option maxRecDepth 100000 in
/-- letter(i) -/
theorem r_X12_letter (l : Launch) (dC : Nat → ClassId) (dI : Nat → Nat → Nat) (a : Nat → Nat) (k : Nat → ClassId) (h0 : Nat) (vi : Nat → Int32) (vj : Nat → Int64) (vF : Nat → Nat → Int32) (vG : Nat → Nat → Int64) (iI : Int32) (pn : Nat) (hpn : vi 125 = nI pn) (hpn2 : pn ≤ 30000) (sz : Nat) : Met l yX12_letter wsRX12_letter ({ frames := 0, cells := 0, slots := 0, locals := 0 }) (va_Pc [.ref h0, .int iI] (fun U => U.heap.size = sz ∧ va_P (dC, dI) vwCl (WR a k h0 vi vj vF vG) U.heap ∧ va_K (dC, dI) vwCl (tX12 k) U ∧ va_D (fun _ => True) (WR a k h0 vi vj vF vG))) (va_Qi (fun (r : Int32) (u : Unit) => True) (fun (u : Unit) t => va_P (dC, dI) vwCl (WR a k h0 (fT vi 0 0) vj vF vG) t.heap ∧ va_D (va_A (WR a k h0 vi vj vF vG) sz) (WR a k h0 (fT vi 0 0) vj vF vG)) (va_A (WR a k h0 vi vj vF vG) sz)) 0 0 (va_A (WR a k h0 vi vj vF vG) sz) := by
  refine Met.ofW (cc := cX12_letter) (maxL := 2) (ret := (some .int)) (by decide) rfl ?_
  intro p e s m args below meth c s₁ B hml hv
  obtain ⟨rfl, hsz, hP, hK, hD0⟩ := hv
  have hx := B.exec
  have hb := B.bytes
  have hr := B.returns
  have hts := atoms_spec (ws := wsRX12_letter) B.pre
  have hown : s.vm.findClass RX12 = some m.cls := findClass_of_methodNamed B.named
  have hlocks := B.notSynchronized
  subst hsz
  have hD := hD0.self (sz := s.heap.size)
  generalize hAe : va_A (WR a k h0 vi vj vF vG) s.heap.size = A at hD ⊢
  have hA : ∀ q : Nat, s.heap.size ≤ q → A q := fun q h => by rw [← hAe]; exact Or.inr h
  have hS : va_S A s.heap s.heap [] := va_S.rf
  have hl := lv_entry ([.ref h0, .int iI]) (n := 2) (Nat.le_of_ble_eq_true rfl)
  rw [lg_entry_eq]
  generalize (lg_sl ([.ref h0, .int iI]) ++ List.replicate (2 - (lg_sl ([.ref h0, .int iI])).length) Slot.unset).toArray = ls at hl ⊢
  have hl : lv_has ls 2 [(0, .ref h0), (1, .int iI)] := hl
  refine lv_aload_n hx hb dX12_letter_0 rfl (lv_at hl 0 rfl) ?_
  refine lv_iconst (v := 0) hx hb dX12_letter_1 (by decide) ?_
  refine va_put (D := (dC, dI)) (ci := 12) (v := .int 0) (ty := .int) (C := RX12) (T := TX12) (N := 163) (fs := fM (vS a vi vj)) hx hb hts iwsRX12_letter_in12 tyX12 tyX12_ok nmX12 hown hK hP hD hS 0 rfl rfl 0 (by decide) (hts (.fieldLink RX12 348 "OptimaWorksModel" "thrown" "I") (by decide +kernel)) (fun _ h9 => h9) rfl (by decide +kernel) rfl rfl (Nat.le_of_ble_eq_true rfl) dX12_letter_2 (fun H locs hP hD hS => ?_)
  have hP : va_P (dC, dI) vwCl (WR a k h0 (fT vi 0 0) vj vF vG) H := fz_w (WR_i 0 _ rfl) hP
  have hD : va_D A (WR a k h0 (fT vi 0 0) vj vF vG) := fz_wD (WR_i 0 _ rfl) hD
  refine lv_iload_n hx hb dX12_letter_5 rfl (lv_at hl 1 rfl) ?_
  refine lv_if_lt (tgt := 17) hx hb dX12_letter_6 (by decide) (fun c_6 => ?_) (fun c_6 => ?_)
  · have t_6 : (iI).toInt < 0 := toI_lt c_6 rfl (by decide)
    refine lv_iconst (v := (-1)) hx hb dX12_letter_17 (by decide) ?_
    refine lv_goto (tgt := 31) hx hb dX12_letter_18 (by decide) ?_
    refine W.widen (k := 0) (n := 0) (by decide +kernel) (by decide +kernel) ?_
    exact W.iret (v := (-1)) hx hb hr (fun t9_ ht hW => ⟨⟨(-1), (), rfl, trivial, by rw [ht]; exact hP, hD⟩, hS.F ht⟩) hS.2.2 dX12_letter_31
  · have t_6 : ¬ (iI).toInt < 0 := toI_nlt c_6 rfl (by decide)
    refine lv_iload_n hx hb dX12_letter_9 rfl (lv_at hl 1 rfl) ?_
    refine lv_aload_n hx hb dX12_letter_10 rfl (lv_at hl 0 rfl) ?_
    refine va_get (D := (dC, dI)) (ci := 12) (v := .int (vi 125)) (C := RX12) (T := TX12) (N := 163) (fs := fM (vS a (fT vi 0 0) vj)) hx hb hts iwsRX12_letter_in12 hown hK hP 0 rfl rfl 125 (by decide) (hts (.fieldLink RX12 933 "OptimaWorksModel" "printed" "I") (by decide +kernel)) (fun _ h9 => h9) rfl dX12_letter_11 ?_
    refine lv_topi (fun y1 hy1 => ?_)
    obtain rfl : (nI pn) = y1 := (hy1.trans (hpn)).symm
    refine lv_icmp_lt (tgt := 21) hx hb dX12_letter_14 (by decide) (fun c_14 => ?_) (fun c_14 => ?_)
    · have t_14 : (iI).toInt < ((pn : Nat) : Int) := toI_lt c_14 rfl (nI_toInt (by omega))
      refine lv_aload_n hx hb dX12_letter_21 rfl (lv_at hl 0 rfl) ?_
      refine va_get (D := (dC, dI)) (ci := 12) (v := .ref (a 75)) (C := RX12) (T := TX12) (N := 163) (fs := fM (vS a (fT vi 0 0) vj)) hx hb hts iwsRX12_letter_in12 hown hK hP 0 rfl rfl 124 (by decide) (hts (.fieldLink RX12 248 "OptimaWorksModel" "out" "[B") (by decide +kernel)) (fun _ h9 => h9) rfl dX12_letter_22 ?_
      refine lv_iload_n hx hb dX12_letter_25 rfl (lv_at hl 1 rfl) ?_
      refine va_bald (cA := k 75) (n := 30000) (f := (vF 75)) hx hb hK hP 76 75 (WR_get 75 (by decide)) (TR_get 75 (by decide)) (vp_in_iff.mpr (by omega)) dX12_letter_26 ?_
      refine lv_sipush (v := 255) hx hb dX12_letter_27 (by decide) ?_
      refine lv_iand hx hb dX12_letter_30 ?_
      refine W.widen (k := 0) (n := 0) (by decide +kernel) (by decide +kernel) ?_
      exact W.iret (v := (((vF 75) (iI).toNatClampNeg) &&& 255)) hx hb hr (fun t9_ ht hW => ⟨⟨(((vF 75) (iI).toNatClampNeg) &&& 255), (), rfl, trivial, by rw [ht]; exact hP, hD⟩, hS.F ht⟩) hS.2.2 dX12_letter_31
    · have t_14 : ¬ (iI).toInt < ((pn : Nat) : Int) := toI_nlt c_14 rfl (nI_toInt (by omega))
      refine lv_iconst (v := (-1)) hx hb dX12_letter_17 (by decide) ?_
      refine lv_goto (tgt := 31) hx hb dX12_letter_18 (by decide) ?_
      refine W.widen (k := 0) (n := 0) (by decide +kernel) (by decide +kernel) ?_
      exact W.iret (v := (-1)) hx hb hr (fun t9_ ht hW => ⟨⟨(-1), (), rfl, trivial, by rw [ht]; exact hP, hD⟩, hS.F ht⟩) hS.2.2 dX12_letter_31
theorem dX12_feed_0 : decode cX12_feed 0 = .ok (.aload_n 0, 1) := dk_42 (by decide +kernel)
theorem dX12_feed_1 : decode cX12_feed 1 = .ok (.iconst 0, 1) := dk_3 (by decide +kernel)
theorem dX12_feed_2 : decode cX12_feed 2 = .ok (.putfield 348, 3) := dk_181 (by decide +kernel)
theorem dX12_feed_5 : decode cX12_feed 5 = .ok (.iconst 0, 1) := dk_3 (by decide +kernel)
theorem dX12_feed_6 : decode cX12_feed 6 = .ok (.istore 6, 2) := dk_54 (by decide +kernel)
theorem dX12_feed_8 : decode cX12_feed 8 = .ok (.iload 6, 2) := dk_21 (by decide +kernel)
theorem dX12_feed_10 : decode cX12_feed 10 = .ok (.bipush 20, 2) := dk_16 (by decide +kernel)
theorem dX12_feed_12 : decode cX12_feed 12 = .ok (.if_icmp .ge 81, 3) := dk_162 (by decide +kernel)
theorem dX12_feed_15 : decode cX12_feed 15 = .ok (.iload 6, 2) := dk_21 (by decide +kernel)
theorem dX12_feed_17 : decode cX12_feed 17 = .ok (.iconst 4, 1) := dk_7 (by decide +kernel)
theorem dX12_feed_18 : decode cX12_feed 18 = .ok (.if_icmp .ge 7, 3) := dk_162 (by decide +kernel)
theorem dX12_feed_21 : decode cX12_feed 21 = .ok (.iload_n 1, 1) := dk_27 (by decide +kernel)
theorem dX12_feed_22 : decode cX12_feed 22 = .ok (.goto 39, 3) := dk_167 (by decide +kernel)
theorem dX12_feed_25 : decode cX12_feed 25 = .ok (.iload 6, 2) := dk_21 (by decide +kernel)
theorem dX12_feed_27 : decode cX12_feed 27 = .ok (.bipush 8, 2) := dk_16 (by decide +kernel)
theorem dX12_feed_29 : decode cX12_feed 29 = .ok (.if_icmp .ge 7, 3) := dk_162 (by decide +kernel)
theorem dX12_feed_32 : decode cX12_feed 32 = .ok (.iload_n 2, 1) := dk_28 (by decide +kernel)
theorem dX12_feed_33 : decode cX12_feed 33 = .ok (.goto 28, 3) := dk_167 (by decide +kernel)
theorem dX12_feed_36 : decode cX12_feed 36 = .ok (.iload 6, 2) := dk_21 (by decide +kernel)
theorem dX12_feed_38 : decode cX12_feed 38 = .ok (.bipush 12, 2) := dk_16 (by decide +kernel)
theorem dX12_feed_40 : decode cX12_feed 40 = .ok (.if_icmp .ge 7, 3) := dk_162 (by decide +kernel)
theorem dX12_feed_43 : decode cX12_feed 43 = .ok (.iload_n 3, 1) := dk_29 (by decide +kernel)
theorem dX12_feed_44 : decode cX12_feed 44 = .ok (.goto 17, 3) := dk_167 (by decide +kernel)
theorem dX12_feed_47 : decode cX12_feed 47 = .ok (.iload 6, 2) := dk_21 (by decide +kernel)
theorem dX12_feed_49 : decode cX12_feed 49 = .ok (.bipush 16, 2) := dk_16 (by decide +kernel)
theorem dX12_feed_51 : decode cX12_feed 51 = .ok (.if_icmp .ge 8, 3) := dk_162 (by decide +kernel)
theorem dX12_feed_54 : decode cX12_feed 54 = .ok (.iload 4, 2) := dk_21 (by decide +kernel)
theorem dX12_feed_56 : decode cX12_feed 56 = .ok (.goto 5, 3) := dk_167 (by decide +kernel)
theorem dX12_feed_59 : decode cX12_feed 59 = .ok (.iload 5, 2) := dk_21 (by decide +kernel)
theorem dX12_feed_61 : decode cX12_feed 61 = .ok (.istore 7, 2) := dk_54 (by decide +kernel)
theorem dX12_feed_63 : decode cX12_feed 63 = .ok (.aload_n 0, 1) := dk_42 (by decide +kernel)
theorem dX12_feed_64 : decode cX12_feed 64 = .ok (.getfield 254, 3) := dk_180 (by decide +kernel)
theorem dX12_feed_67 : decode cX12_feed 67 = .ok (.iload 6, 2) := dk_21 (by decide +kernel)
theorem dX12_feed_69 : decode cX12_feed 69 = .ok (.iload 7, 2) := dk_21 (by decide +kernel)
theorem dX12_feed_71 : decode cX12_feed 71 = .ok (.bipush 24, 2) := dk_16 (by decide +kernel)
theorem dX12_feed_73 : decode cX12_feed 73 = .ok (.bipush 8, 2) := dk_16 (by decide +kernel)
theorem dX12_feed_75 : decode cX12_feed 75 = .ok (.iload 6, 2) := dk_21 (by decide +kernel)
theorem dX12_feed_77 : decode cX12_feed 77 = .ok (.iconst 4, 1) := dk_7 (by decide +kernel)
theorem dX12_feed_78 : decode cX12_feed 78 = .ok (.irem, 1) := dk_112 (by decide +kernel)
theorem dX12_feed_79 : decode cX12_feed 79 = .ok (.imul, 1) := dk_104 (by decide +kernel)
theorem dX12_feed_80 : decode cX12_feed 80 = .ok (.isub, 1) := dk_100 (by decide +kernel)
theorem dX12_feed_81 : decode cX12_feed 81 = .ok (.ishr, 1) := dk_122 (by decide +kernel)
theorem dX12_feed_82 : decode cX12_feed 82 = .ok (.sipush 255, 3) := dk_17 (by decide +kernel)
theorem dX12_feed_85 : decode cX12_feed 85 = .ok (.iand, 1) := dk_126 (by decide +kernel)
theorem dX12_feed_86 : decode cX12_feed 86 = .ok (.iastore, 1) := dk_79 (by decide +kernel)
theorem dX12_feed_87 : decode cX12_feed 87 = .ok (.iinc 6 1, 3) := dk_132 (by decide +kernel)
theorem dX12_feed_90 : decode cX12_feed 90 = .ok (.goto (-82), 3) := dk_167 (by decide +kernel)
theorem dX12_feed_93 : decode cX12_feed 93 = .ok (.return_, 1) := dk_177 (by decide +kernel)
def wsRX12_feed : List Cond := .code yX12_feed cX12_feed 8 none :: ([.fieldLink RX12 348 "OptimaWorksModel" "thrown" "I", .fieldLink RX12 254 "OptimaWorksModel" "ready" "[I"] ++ wsX120)
theorem iwsRX12_feed_in12 : ∀ w ∈ wsX120, w ∈ wsRX12_feed := fun _ h => List.mem_cons_of_mem _ (List.mem_append_right _ h)
theorem gdwsRX12_feed : wsRX12_feed.all goodWord = true := gdC rfl (gdA (by decide +kernel : ([.fieldLink RX12 348 "OptimaWorksModel" "thrown" "I", .fieldLink RX12 254 "OptimaWorksModel" "ready" "[I"] : List Cond).all goodWord = true) gdwsX120)
set_option maxHeartbeats 4000000 in
set_option maxRecDepth 100000 in
/-- feed(a, b, c, d, e) -/
theorem r_X12_feed (l : Launch) (dC : Nat → ClassId) (dI : Nat → Nat → Nat) (a : Nat → Nat) (k : Nat → ClassId) (h0 : Nat) (vi : Nat → Int32) (vj : Nat → Int64) (vF : Nat → Nat → Int32) (vG : Nat → Nat → Int64) (x1 : Int32) (x2 : Int32) (x3 : Int32) (x4 : Int32) (x5 : Int32) (sz : Nat) : Met l yX12_feed wsRX12_feed ({ frames := 0, cells := 0, slots := 0, locals := 0 }) (va_Pc [.ref h0, .int x1, .int x2, .int x3, .int x4, .int x5] (fun U => U.heap.size = sz ∧ va_P (dC, dI) vwCl (WR a k h0 vi vj vF vG) U.heap ∧ va_K (dC, dI) vwCl (tX12 k) U ∧ va_D (fun _ => True) (WR a k h0 vi vj vF vG))) (va_Qv (fun (u : Nat → Int32) => True) (fun (u : Nat → Int32) t => va_P (dC, dI) vwCl (WR a k h0 (fT vi 0 0) vj (fT vF 77 u) vG) t.heap ∧ va_D (va_A (WR a k h0 vi vj vF vG) sz) (WR a k h0 (fT vi 0 0) vj (fT vF 77 u) vG)) (va_A (WR a k h0 vi vj vF vG) sz)) 0 0 (va_A (WR a k h0 vi vj vF vG) sz) := by
  refine Met.ofW (cc := cX12_feed) (maxL := 8) (ret := none) (by decide) rfl ?_
  intro p e s m args below meth c s₁ B hml hv
  obtain ⟨rfl, hsz, hP, hK, hD0⟩ := hv
  have hx := B.exec
  have hb := B.bytes
  have hr := B.returns
  have hts := atoms_spec (ws := wsRX12_feed) B.pre
  have hown : s.vm.findClass RX12 = some m.cls := findClass_of_methodNamed B.named
  have hlocks := B.notSynchronized
  subst hsz
  have hD := hD0.self (sz := s.heap.size)
  generalize hAe : va_A (WR a k h0 vi vj vF vG) s.heap.size = A at hD ⊢
  have hA : ∀ q : Nat, s.heap.size ≤ q → A q := fun q h => by rw [← hAe]; exact Or.inr h
  have hS : va_S A s.heap s.heap [] := va_S.rf
  have hl := lv_entry ([.ref h0, .int x1, .int x2, .int x3, .int x4, .int x5]) (n := 8) (Nat.le_of_ble_eq_true rfl)
  rw [lg_entry_eq]
  generalize (lg_sl ([.ref h0, .int x1, .int x2, .int x3, .int x4, .int x5]) ++ List.replicate (8 - (lg_sl ([.ref h0, .int x1, .int x2, .int x3, .int x4, .int x5])).length) Slot.unset).toArray = ls at hl ⊢
  have hl : lv_has ls 8 [(0, .ref h0), (1, .int x1), (2, .int x2), (3, .int x3), (4, .int x4), (5, .int x5)] := hl
  refine lv_aload_n hx hb dX12_feed_0 rfl (lv_at hl 0 rfl) ?_
  refine lv_iconst (v := 0) hx hb dX12_feed_1 (by decide) ?_
  refine va_put (D := (dC, dI)) (ci := 12) (v := .int 0) (ty := .int) (C := RX12) (T := TX12) (N := 163) (fs := fM (vS a vi vj)) hx hb hts iwsRX12_feed_in12 tyX12 tyX12_ok nmX12 hown hK hP hD hS 0 rfl rfl 0 (by decide) (hts (.fieldLink RX12 348 "OptimaWorksModel" "thrown" "I") (by decide +kernel)) (fun _ h9 => h9) rfl (by decide +kernel) rfl rfl (Nat.le_of_ble_eq_true rfl) dX12_feed_2 (fun H locs hP hD hS => ?_)
  have hP : va_P (dC, dI) vwCl (WR a k h0 (fT vi 0 0) vj vF vG) H := fz_w (WR_i 0 _ rfl) hP
  have hD : va_D A (WR a k h0 (fT vi 0 0) vj vF vG) := fz_wD (WR_i 0 _ rfl) hD
  refine lv_iconst (v := 0) hx hb dX12_feed_5 (by decide) ?_
  refine lv_istore hx hb dX12_feed_6 hl (by decide) rfl (fun ls (hl : lv_has ls _ ([(6, .int 0), (0, .ref h0), (1, .int x1), (2, .int x2), (3, .int x3), (4, .int x4), (5, .int x5)])) => ?_)
  have e9 : fT vF 77 (vF 77) = vF := by funext q9; by_cases h9_77 : q9 = 77; (subst h9_77; exact (fT_eq _ _ _).trans (Eq.trans (by first | with_reducible rfl | with_reducible assumption | (symm; with_reducible assumption) | rfl | assumption | (symm; assumption) | (subst_vars; rfl)) (Eq.refl _).symm)); exact (fT_ne _ _ h9_77).trans (Eq.refl _).symm
  have hP := wr_PF e9 hP
  have hD := wr_DF e9 hD
  clear e9
  have hl : lv_has _ _ ([(0, .ref h0), (1, .int x1), (2, .int x2), (3, .int x3), (4, .int x4), (5, .int x5), (6, .int (nI 0))]) := lv_sub hl [1, 2, 3, 4, 5, 6, 0] rfl
  refine (fun (loop : ∀ (n9 : Nat) (k5 : Nat) (x2_F77 : Nat → Int32) (H : Heap) (locs : List Loc) (ls : Array Slot), (k5 ≤ 20) →  (20 < k5 + n9) → va_P (dC, dI) vwCl (WR a k h0 (fT vi 0 0) vj (fT vF 77 x2_F77) vG) H → va_D A (WR a k h0 (fT vi 0 0) vj (fT vF 77 x2_F77) vG) → va_S A s.heap H locs → lv_has ls 8 [(0, .ref h0), (1, .int x1), (2, .int x2), (3, .int x3), (4, .int x4), (5, .int x5), (6, .int (nI k5))] → W p l e _ s m _ below meth c H locs 0 0 _ (F0 m 8 ls [])) => loop (21) 0 (vF 77) _ _ _ (by omega) (by omega) hP hD hS hl) ?_
  intro n9
  induction n9 with
  | zero => intro k5 x2_F77 H locs ls hk5 hf9; exact False.elim (by omega)
  | succ n9 ih8 =>
    intro k5 x2_F77 H locs ls hk5 hf8 hP hD hS hl
    refine lv_iload hx hb dX12_feed_8 (lv_at hl 6 rfl) ?_
    refine lv_bipush (v := 20) hx hb dX12_feed_10 (by decide) ?_
    refine lv_icmp_ge (tgt := 93) hx hb dX12_feed_12 (by decide) (fun c_12 => ?_) (fun c_12 => ?_)
    · have t_12 : ((k5 : Nat) : Int) ≥ 20 := toI_ge c_12 (nI_toInt (by omega)) (by decide)
      refine W.widen (k := 0) (n := 0) (by decide +kernel) (by decide +kernel) ?_
      exact W.vret hx hb hr (fun t9_ ht hW => ⟨⟨x2_F77, rfl, trivial, by rw [ht]; exact hP, hD⟩, hS.F ht⟩) hS.2.2 dX12_feed_93
    · have t_12 : ¬ ((k5 : Nat) : Int) ≥ 20 := toI_nge c_12 (nI_toInt (by omega)) (by decide)
      refine lv_iload hx hb dX12_feed_15 (lv_at hl 6 rfl) ?_
      refine lv_iconst (v := 4) hx hb dX12_feed_17 (by decide) ?_
      refine W.cut (pc := 61) (fun H locs ls stk => ∃ (j3_s0 : Int32),  stk = [.int j3_s0] ∧ va_P (dC, dI) vwCl (WR a k h0 (fT vi 0 0) vj (fT vF 77 x2_F77) vG) H ∧ va_D A (WR a k h0 (fT vi 0 0) vj (fT vF 77 x2_F77) vG) ∧ va_S A s.heap H locs ∧ lv_has ls 8 [(0, .ref h0), (1, .int x1), (2, .int x2), (3, .int x3), (4, .int x4), (5, .int x5), (6, .int (nI k5))]) (fun join1 => ?_) ?_
      · refine lv_icmp_ge (tgt := 25) hx hb dX12_feed_18 (by decide) (fun c_18 => ?_) (fun c_18 => ?_)
        · have t_18 : ((k5 : Nat) : Int) ≥ 4 := toI_ge c_18 (nI_toInt (by omega)) (by decide)
          refine lv_iload hx hb dX12_feed_25 (lv_at hl 6 rfl) ?_
          refine lv_bipush (v := 8) hx hb dX12_feed_27 (by decide) ?_
          refine lv_icmp_ge (tgt := 36) hx hb dX12_feed_29 (by decide) (fun c_29 => ?_) (fun c_29 => ?_)
          · have t_29 : ((k5 : Nat) : Int) ≥ 8 := toI_ge c_29 (nI_toInt (by omega)) (by decide)
            refine lv_iload hx hb dX12_feed_36 (lv_at hl 6 rfl) ?_
            refine lv_bipush (v := 12) hx hb dX12_feed_38 (by decide) ?_
            refine lv_icmp_ge (tgt := 47) hx hb dX12_feed_40 (by decide) (fun c_40 => ?_) (fun c_40 => ?_)
            · have t_40 : ((k5 : Nat) : Int) ≥ 12 := toI_ge c_40 (nI_toInt (by omega)) (by decide)
              refine lv_iload hx hb dX12_feed_47 (lv_at hl 6 rfl) ?_
              refine lv_bipush (v := 16) hx hb dX12_feed_49 (by decide) ?_
              refine lv_icmp_ge (tgt := 59) hx hb dX12_feed_51 (by decide) (fun c_51 => ?_) (fun c_51 => ?_)
              · have t_51 : ((k5 : Nat) : Int) ≥ 16 := toI_ge c_51 (nI_toInt (by omega)) (by decide)
                refine lv_iload hx hb dX12_feed_59 (lv_at hl 5 rfl) ?_
                have hl : lv_has _ _ ([(0, .ref h0), (1, .int x1), (2, .int x2), (3, .int x3), (4, .int x4), (5, .int x5), (6, .int (nI k5))]) := lv_sub hl [0, 1, 2, 3, 4, 5, 6] rfl
                exact join1 _ _ _ _ ⟨x5, rfl, hP, hD, hS, hl⟩
              · have t_51 : ¬ ((k5 : Nat) : Int) ≥ 16 := toI_nge c_51 (nI_toInt (by omega)) (by decide)
                refine lv_iload hx hb dX12_feed_54 (lv_at hl 4 rfl) ?_
                refine lv_goto (tgt := 61) hx hb dX12_feed_56 (by decide) ?_
                have hl : lv_has _ _ ([(0, .ref h0), (1, .int x1), (2, .int x2), (3, .int x3), (4, .int x4), (5, .int x5), (6, .int (nI k5))]) := lv_sub hl [0, 1, 2, 3, 4, 5, 6] rfl
                exact join1 _ _ _ _ ⟨x4, rfl, hP, hD, hS, hl⟩
            · have t_40 : ¬ ((k5 : Nat) : Int) ≥ 12 := toI_nge c_40 (nI_toInt (by omega)) (by decide)
              refine lv_iload_n hx hb dX12_feed_43 rfl (lv_at hl 3 rfl) ?_
              refine lv_goto (tgt := 61) hx hb dX12_feed_44 (by decide) ?_
              have hl : lv_has _ _ ([(0, .ref h0), (1, .int x1), (2, .int x2), (3, .int x3), (4, .int x4), (5, .int x5), (6, .int (nI k5))]) := lv_sub hl [0, 1, 2, 3, 4, 5, 6] rfl
              exact join1 _ _ _ _ ⟨x3, rfl, hP, hD, hS, hl⟩
          · have t_29 : ¬ ((k5 : Nat) : Int) ≥ 8 := toI_nge c_29 (nI_toInt (by omega)) (by decide)
            refine lv_iload_n hx hb dX12_feed_32 rfl (lv_at hl 2 rfl) ?_
            refine lv_goto (tgt := 61) hx hb dX12_feed_33 (by decide) ?_
            have hl : lv_has _ _ ([(0, .ref h0), (1, .int x1), (2, .int x2), (3, .int x3), (4, .int x4), (5, .int x5), (6, .int (nI k5))]) := lv_sub hl [0, 1, 2, 3, 4, 5, 6] rfl
            exact join1 _ _ _ _ ⟨x2, rfl, hP, hD, hS, hl⟩
        · have t_18 : ¬ ((k5 : Nat) : Int) ≥ 4 := toI_nge c_18 (nI_toInt (by omega)) (by decide)
          refine lv_iload_n hx hb dX12_feed_21 rfl (lv_at hl 1 rfl) ?_
          refine lv_goto (tgt := 61) hx hb dX12_feed_22 (by decide) ?_
          have hl : lv_has _ _ ([(0, .ref h0), (1, .int x1), (2, .int x2), (3, .int x3), (4, .int x4), (5, .int x5), (6, .int (nI k5))]) := lv_sub hl [0, 1, 2, 3, 4, 5, 6] rfl
          exact join1 _ _ _ _ ⟨x1, rfl, hP, hD, hS, hl⟩
      · rintro H locs ls stk ⟨j3_s0, rfl, hP, hD, hS, hl⟩
        refine lv_istore hx hb dX12_feed_61 hl (by decide) rfl (fun ls (hl : lv_has ls _ ([(7, .int j3_s0), (0, .ref h0), (1, .int x1), (2, .int x2), (3, .int x3), (4, .int x4), (5, .int x5), (6, .int (nI k5))])) => ?_)
        refine lv_aload_n hx hb dX12_feed_63 rfl (lv_at hl 1 rfl) ?_
        refine va_get (D := (dC, dI)) (ci := 12) (v := .ref (a 77)) (C := RX12) (T := TX12) (N := 163) (fs := fM (vS a (fT vi 0 0) vj)) hx hb hts iwsRX12_feed_in12 hown hK hP 0 rfl rfl 127 (by decide) (hts (.fieldLink RX12 254 "OptimaWorksModel" "ready" "[I") (by decide +kernel)) (fun _ h9 => h9) rfl dX12_feed_64 ?_
        refine lv_iload hx hb dX12_feed_67 (lv_at hl 7 rfl) ?_
        refine lv_iload hx hb dX12_feed_69 (lv_at hl 0 rfl) ?_
        refine lv_bipush (v := 24) hx hb dX12_feed_71 (by decide) ?_
        refine lv_bipush (v := 8) hx hb dX12_feed_73 (by decide) ?_
        refine lv_iload hx hb dX12_feed_75 (lv_at hl 7 rfl) ?_
        refine lv_iconst (v := 4) hx hb dX12_feed_77 (by decide) ?_
        refine lv_irem hx hb dX12_feed_78 (by decide) ?_
        refine lv_topi (fun y1 hy1 => ?_)
        obtain rfl : (nI (k5 % 4)) = y1 := (hy1.trans (pk_rem (a := k5) (d := 4) (by omega) (by omega) (by omega))).symm
        refine lv_imul hx hb dX12_feed_79 ?_
        refine lv_topi (fun y2 hy2 => ?_)
        obtain rfl : (nI (8 * (k5 % 4))) = y2 := (hy2.trans (pk_mul 8 (k5 % 4))).symm
        refine lv_isub hx hb dX12_feed_80 ?_
        refine lv_topi (fun y3 hy3 => ?_)
        obtain rfl : (nI (24 - (8 * (k5 % 4)))) = y3 := (hy3.trans (pk_sub (a := 24) (b := (8 * (k5 % 4))) (by omega))).symm
        refine lv_ishr hx hb dX12_feed_81 ?_
        refine lv_sipush (v := 255) hx hb dX12_feed_82 (by decide) ?_
        refine lv_iand hx hb dX12_feed_85 ?_
        refine va_iast (cA := k 77) (n := 20) (f := x2_F77) hx hb hK hP hD hS 78 77 (WR_get 77 (by decide)) (TR_get 77 (by decide)) (vp_in_nI (show k5 < 20 by omega) (by omega)) dX12_feed_86 (fun H locs hP hD hS => ?_)
        have e9 : fT vF 77 (upd x2_F77 ((nI k5)).toNatClampNeg ((j3_s0 >>> ((nI (24 - (8 * (k5 % 4)))) &&& 31)) &&& 255)) = fT (fT vF 77 x2_F77) 77 (upd x2_F77 ((nI k5)).toNatClampNeg ((j3_s0 >>> ((nI (24 - (8 * (k5 % 4)))) &&& 31)) &&& 255)) := (fT_sm _ _ _ _).symm
        have hP := wr_PF e9 (fz_w (WR_F 77 (by decide) _ rfl) hP)
        have hD := wr_DF e9 (fz_wD (WR_F 77 (by decide) _ rfl) hD)
        clear e9
        refine lv_iinc (v := (nI (k5 + 1))) hx hb dX12_feed_87 hl (k := 7) rfl (nI_add k5 1) (by decide) rfl (fun ls (hl : lv_has ls _ ([(6, .int (nI (k5 + 1))), (7, .int j3_s0), (0, .ref h0), (1, .int x1), (2, .int x2), (3, .int x3), (4, .int x4), (5, .int x5)])) => ?_)
        refine lv_goto (tgt := 8) hx hb dX12_feed_90 (by decide) ?_
        have hl : lv_has _ _ ([(0, .ref h0), (1, .int x1), (2, .int x2), (3, .int x3), (4, .int x4), (5, .int x5), (6, .int (nI (k5 + 1)))]) := lv_sub hl [2, 3, 4, 5, 6, 7, 0] rfl
        exact ih8 (k5 + 1) (upd x2_F77 ((nI k5)).toNatClampNeg ((j3_s0 >>> ((nI (24 - (8 * (k5 % 4)))) &&& 31)) &&& 255)) _ _ _ (by omega) (by omega) hP hD hS hl
theorem dX12_end_0 : decode cX12_end 0 = .ok (.aload_n 0, 1) := dk_42 (by decide +kernel)
theorem dX12_end_1 : decode cX12_end 1 = .ok (.iconst 0, 1) := dk_3 (by decide +kernel)
theorem dX12_end_2 : decode cX12_end 2 = .ok (.putfield 348, 3) := dk_181 (by decide +kernel)
theorem dX12_end_5 : decode cX12_end 5 = .ok (.iload_n 1, 1) := dk_27 (by decide +kernel)
theorem dX12_end_6 : decode cX12_end 6 = .ok (.ifCond .lt 21, 3) := dk_155 (by decide +kernel)
theorem dX12_end_9 : decode cX12_end 9 = .ok (.iload_n 1, 1) := dk_27 (by decide +kernel)
theorem dX12_end_10 : decode cX12_end 10 = .ok (.bipush 20, 2) := dk_16 (by decide +kernel)
theorem dX12_end_12 : decode cX12_end 12 = .ok (.if_icmp .gt 15, 3) := dk_163 (by decide +kernel)
theorem dX12_end_15 : decode cX12_end 15 = .ok (.aload_n 0, 1) := dk_42 (by decide +kernel)
theorem dX12_end_16 : decode cX12_end 16 = .ok (.getfield 468, 3) := dk_180 (by decide +kernel)
theorem dX12_end_19 : decode cX12_end 19 = .ok (.iload_n 1, 1) := dk_27 (by decide +kernel)
theorem dX12_end_20 : decode cX12_end 20 = .ok (.iadd, 1) := dk_96 (by decide +kernel)
theorem dX12_end_21 : decode cX12_end 21 = .ok (.sipush 4000, 3) := dk_17 (by decide +kernel)
theorem dX12_end_24 : decode cX12_end 24 = .ok (.if_icmp .le 5, 3) := dk_164 (by decide +kernel)
theorem dX12_end_27 : decode cX12_end 27 = .ok (.iconst (-1), 1) := dk_2 (by decide +kernel)
theorem dX12_end_28 : decode cX12_end 28 = .ok (.ireturn, 1) := dk_172 (by decide +kernel)
theorem dX12_end_29 : decode cX12_end 29 = .ok (.iconst 0, 1) := dk_3 (by decide +kernel)
theorem dX12_end_30 : decode cX12_end 30 = .ok (.istore_n 2, 1) := dk_61 (by decide +kernel)
theorem dX12_end_31 : decode cX12_end 31 = .ok (.iload_n 2, 1) := dk_28 (by decide +kernel)
theorem dX12_end_32 : decode cX12_end 32 = .ok (.iload_n 1, 1) := dk_27 (by decide +kernel)
theorem dX12_end_33 : decode cX12_end 33 = .ok (.if_icmp .ge 27, 3) := dk_162 (by decide +kernel)
theorem dX12_end_36 : decode cX12_end 36 = .ok (.aload_n 0, 1) := dk_42 (by decide +kernel)
theorem dX12_end_37 : decode cX12_end 37 = .ok (.getfield 39, 3) := dk_180 (by decide +kernel)
theorem dX12_end_40 : decode cX12_end 40 = .ok (.aload_n 0, 1) := dk_42 (by decide +kernel)
theorem dX12_end_41 : decode cX12_end 41 = .ok (.getfield 468, 3) := dk_180 (by decide +kernel)
theorem dX12_end_44 : decode cX12_end 44 = .ok (.iload_n 2, 1) := dk_28 (by decide +kernel)
theorem dX12_end_45 : decode cX12_end 45 = .ok (.iadd, 1) := dk_96 (by decide +kernel)
theorem dX12_end_46 : decode cX12_end 46 = .ok (.aload_n 0, 1) := dk_42 (by decide +kernel)
theorem dX12_end_47 : decode cX12_end 47 = .ok (.getfield 254, 3) := dk_180 (by decide +kernel)
theorem dX12_end_50 : decode cX12_end 50 = .ok (.iload_n 2, 1) := dk_28 (by decide +kernel)
theorem dX12_end_51 : decode cX12_end 51 = .ok (.iaload, 1) := dk_46 (by decide +kernel)
theorem dX12_end_52 : decode cX12_end 52 = .ok (.i2b, 1) := dk_145 (by decide +kernel)
theorem dX12_end_53 : decode cX12_end 53 = .ok (.bastore, 1) := dk_84 (by decide +kernel)
theorem dX12_end_54 : decode cX12_end 54 = .ok (.iinc 2 1, 3) := dk_132 (by decide +kernel)
theorem dX12_end_57 : decode cX12_end 57 = .ok (.goto (-26), 3) := dk_167 (by decide +kernel)
theorem dX12_end_60 : decode cX12_end 60 = .ok (.iconst 0, 1) := dk_3 (by decide +kernel)
theorem dX12_end_61 : decode cX12_end 61 = .ok (.istore_n 2, 1) := dk_61 (by decide +kernel)
theorem dX12_end_62 : decode cX12_end 62 = .ok (.iload_n 2, 1) := dk_28 (by decide +kernel)
theorem dX12_end_63 : decode cX12_end 63 = .ok (.bipush 20, 2) := dk_16 (by decide +kernel)
theorem dX12_end_65 : decode cX12_end 65 = .ok (.if_icmp .ge 16, 3) := dk_162 (by decide +kernel)
theorem dX12_end_68 : decode cX12_end 68 = .ok (.aload_n 0, 1) := dk_42 (by decide +kernel)
theorem dX12_end_69 : decode cX12_end 69 = .ok (.getfield 254, 3) := dk_180 (by decide +kernel)
theorem dX12_end_72 : decode cX12_end 72 = .ok (.iload_n 2, 1) := dk_28 (by decide +kernel)
theorem dX12_end_73 : decode cX12_end 73 = .ok (.iconst 0, 1) := dk_3 (by decide +kernel)
theorem dX12_end_74 : decode cX12_end 74 = .ok (.iastore, 1) := dk_79 (by decide +kernel)
theorem dX12_end_75 : decode cX12_end 75 = .ok (.iinc 2 1, 3) := dk_132 (by decide +kernel)
theorem dX12_end_78 : decode cX12_end 78 = .ok (.goto (-16), 3) := dk_167 (by decide +kernel)
theorem dX12_end_81 : decode cX12_end 81 = .ok (.aload_n 0, 1) := dk_42 (by decide +kernel)
theorem dX12_end_82 : decode cX12_end 82 = .ok (.dup, 1) := dk_89 (by decide +kernel)
theorem dX12_end_83 : decode cX12_end 83 = .ok (.getfield 468, 3) := dk_180 (by decide +kernel)
theorem dX12_end_86 : decode cX12_end 86 = .ok (.iload_n 1, 1) := dk_27 (by decide +kernel)
theorem dX12_end_87 : decode cX12_end 87 = .ok (.iadd, 1) := dk_96 (by decide +kernel)
theorem dX12_end_88 : decode cX12_end 88 = .ok (.putfield 468, 3) := dk_181 (by decide +kernel)
theorem dX12_end_91 : decode cX12_end 91 = .ok (.aload_n 0, 1) := dk_42 (by decide +kernel)
theorem dX12_end_92 : decode cX12_end 92 = .ok (.getfield 468, 3) := dk_180 (by decide +kernel)
theorem dX12_end_95 : decode cX12_end 95 = .ok (.ireturn, 1) := dk_172 (by decide +kernel)
def wsRX12_end : List Cond := .code yX12_end cX12_end 3 (some .int) :: ([.fieldLink RX12 348 "OptimaWorksModel" "thrown" "I", .fieldLink RX12 468 "OptimaWorksModel" "taped" "I", .fieldLink RX12 254 "OptimaWorksModel" "ready" "[I", .fieldLink RX12 39 "OptimaWorksModel" "tape" "[B"] ++ wsX120)
theorem iwsRX12_end_in12 : ∀ w ∈ wsX120, w ∈ wsRX12_end := fun _ h => List.mem_cons_of_mem _ (List.mem_append_right _ h)
theorem gdwsRX12_end : wsRX12_end.all goodWord = true := gdC rfl (gdA (by decide +kernel : ([.fieldLink RX12 348 "OptimaWorksModel" "thrown" "I", .fieldLink RX12 468 "OptimaWorksModel" "taped" "I", .fieldLink RX12 254 "OptimaWorksModel" "ready" "[I", .fieldLink RX12 39 "OptimaWorksModel" "tape" "[B"] : List Cond).all goodWord = true) gdwsX120)
theorem hm_r_X12_end_0 : (.fieldLink RX12 468 "OptimaWorksModel" "taped" "I" : Cond) ∈ wsRX12_end := by decide +kernel
theorem hm_r_X12_end_1 : (.fieldLink RX12 254 "OptimaWorksModel" "ready" "[I" : Cond) ∈ wsRX12_end := by decide +kernel
set_option maxHeartbeats 4000000 in
set_option maxRecDepth 100000 in
/-- end(n) -/
theorem r_X12_end (l : Launch) (dC : Nat → ClassId) (dI : Nat → Nat → Nat) (a : Nat → Nat) (k : Nat → ClassId) (h0 : Nat) (vi : Nat → Int32) (vj : Nat → Int64) (vF : Nat → Nat → Int32) (vG : Nat → Nat → Int64) (nv : Int32) (tp : Nat) (hTp : vi 16 = nI tp) (htp : tp ≤ 4000) (sz : Nat) : Met l yX12_end wsRX12_end ({ frames := 0, cells := 0, slots := 0, locals := 0 }) (va_Pc [.ref h0, .int nv] (fun U => U.heap.size = sz ∧ va_P (dC, dI) vwCl (WR a k h0 vi vj vF vG) U.heap ∧ va_K (dC, dI) vwCl (tX12 k) U ∧ va_D (fun _ => True) (WR a k h0 vi vj vF vG))) (va_Qi (fun (r : Int32) (u : (Nat) × (Nat → Int32) × (Nat → Int32)) => (r = (-1) ∧ (¬ EndO tp nv) ∧ (u.1) = tp) ∨ (r = (nI (u.1)) ∧ (EndO tp nv) ∧ ((u.1) = tp + (nv).toInt.natAbs))) (fun (u : (Nat) × (Nat → Int32) × (Nat → Int32)) t => va_P (dC, dI) vwCl (WR a k h0 (fT (fT vi 0 0) 16 (nI (u.1))) vj (fT (fT vF 9 (u.2.1)) 77 (u.2.2)) vG) t.heap ∧ va_D (va_A (WR a k h0 vi vj vF vG) sz) (WR a k h0 (fT (fT vi 0 0) 16 (nI (u.1))) vj (fT (fT vF 9 (u.2.1)) 77 (u.2.2)) vG)) (va_A (WR a k h0 vi vj vF vG) sz)) 0 0 (va_A (WR a k h0 vi vj vF vG) sz) := by
  refine Met.ofW (cc := cX12_end) (maxL := 3) (ret := (some .int)) (by decide) rfl ?_
  intro p e s m args below meth c s₁ B hml hv
  obtain ⟨rfl, hsz, hP, hK, hD0⟩ := hv
  have hx := B.exec
  have hb := B.bytes
  have hr := B.returns
  have hts := atoms_spec (ws := wsRX12_end) B.pre
  have hown : s.vm.findClass RX12 = some m.cls := findClass_of_methodNamed B.named
  have hlocks := B.notSynchronized
  subst hsz
  have hD := hD0.self (sz := s.heap.size)
  generalize hAe : va_A (WR a k h0 vi vj vF vG) s.heap.size = A at hD ⊢
  have hA : ∀ q : Nat, s.heap.size ≤ q → A q := fun q h => by rw [← hAe]; exact Or.inr h
  have hS : va_S A s.heap s.heap [] := va_S.rf
  have hl := lv_entry ([.ref h0, .int nv]) (n := 3) (Nat.le_of_ble_eq_true rfl)
  rw [lg_entry_eq]
  generalize (lg_sl ([.ref h0, .int nv]) ++ List.replicate (3 - (lg_sl ([.ref h0, .int nv])).length) Slot.unset).toArray = ls at hl ⊢
  have hl : lv_has ls 3 [(0, .ref h0), (1, .int nv)] := hl
  refine lv_aload_n hx hb dX12_end_0 rfl (lv_at hl 0 rfl) ?_
  refine lv_iconst (v := 0) hx hb dX12_end_1 (by decide) ?_
  refine va_put (D := (dC, dI)) (ci := 12) (v := .int 0) (ty := .int) (C := RX12) (T := TX12) (N := 163) (fs := fM (vS a vi vj)) hx hb hts iwsRX12_end_in12 tyX12 tyX12_ok nmX12 hown hK hP hD hS 0 rfl rfl 0 (by decide) (hts (.fieldLink RX12 348 "OptimaWorksModel" "thrown" "I") (by decide +kernel)) (fun _ h9 => h9) rfl (by decide +kernel) rfl rfl (Nat.le_of_ble_eq_true rfl) dX12_end_2 (fun H locs hP hD hS => ?_)
  have hP : va_P (dC, dI) vwCl (WR a k h0 (fT vi 0 0) vj vF vG) H := fz_w (WR_i 0 _ rfl) hP
  have hD : va_D A (WR a k h0 (fT vi 0 0) vj vF vG) := fz_wD (WR_i 0 _ rfl) hD
  refine lv_iload_n hx hb dX12_end_5 rfl (lv_at hl 1 rfl) ?_
  refine lv_if_lt (tgt := 27) hx hb dX12_end_6 (by decide) (fun c_6 => ?_) (fun c_6 => ?_)
  · have t_6 : (nv).toInt < 0 := toI_lt c_6 rfl (by decide)
    refine lv_iconst (v := (-1)) hx hb dX12_end_27 (by decide) ?_
    refine W.widen (k := 0) (n := 0) (by decide +kernel) (by decide +kernel) ?_
    have e9 : fT (fT vi 0 0) 16 (nI tp) = fT vi 0 0 := Eq.trans (congrArg (fT _ 16) (show nI tp = vi 16 from (by first | with_reducible rfl | with_reducible assumption | (symm; with_reducible assumption) | rfl | assumption | (symm; assumption) | (subst_vars; rfl)))) (id_1 rfl)
    have hP := wr_Pi e9 hP
    have hD := wr_Di e9 hD
    clear e9
    have e9 : fT (fT vF 9 (vF 9)) 77 (vF 77) = vF := (fT_id _ _ (fT_ne _ _ (Nat.ne_of_beq_eq_false rfl))).trans (fT_id _ _ (rfl))
    have hP := wr_PF e9 hP
    have hD := wr_DF e9 hD
    clear e9
    exact W.iret (v := (-1)) hx hb hr (fun t9_ ht hW => ⟨⟨(-1), (tp, (vF 9), (vF 77)), rfl, by (try dsimp only); exact Or.inl ⟨rfl, fun h9 => by unfold EndO at h9; omega, rfl⟩, by rw [ht]; exact hP, hD⟩, hS.F ht⟩) hS.2.2 dX12_end_28
  · have t_6 : ¬ (nv).toInt < 0 := toI_nlt c_6 rfl (by decide)
    refine lv_iload_n hx hb dX12_end_9 rfl (lv_at hl 1 rfl) ?_
    refine lv_bipush (v := 20) hx hb dX12_end_10 (by decide) ?_
    refine lv_icmp_gt (tgt := 27) hx hb dX12_end_12 (by decide) (fun c_12 => ?_) (fun c_12 => ?_)
    · have t_12 : (nv).toInt > 20 := toI_gt c_12 rfl (by decide)
      refine lv_iconst (v := (-1)) hx hb dX12_end_27 (by decide) ?_
      refine W.widen (k := 0) (n := 0) (by decide +kernel) (by decide +kernel) ?_
      have e9 : fT (fT vi 0 0) 16 (nI tp) = fT vi 0 0 := Eq.trans (congrArg (fT _ 16) (show nI tp = vi 16 from (by first | with_reducible rfl | with_reducible assumption | (symm; with_reducible assumption) | rfl | assumption | (symm; assumption) | (subst_vars; rfl)))) (id_1 rfl)
      have hP := wr_Pi e9 hP
      have hD := wr_Di e9 hD
      clear e9
      have e9 : fT (fT vF 9 (vF 9)) 77 (vF 77) = vF := (fT_id _ _ (fT_ne _ _ (Nat.ne_of_beq_eq_false rfl))).trans (fT_id _ _ (rfl))
      have hP := wr_PF e9 hP
      have hD := wr_DF e9 hD
      clear e9
      exact W.iret (v := (-1)) hx hb hr (fun t9_ ht hW => ⟨⟨(-1), (tp, (vF 9), (vF 77)), rfl, by (try dsimp only); exact Or.inl ⟨rfl, fun h9 => by unfold EndO at h9; omega, rfl⟩, by rw [ht]; exact hP, hD⟩, hS.F ht⟩) hS.2.2 dX12_end_28
    · have t_12 : ¬ (nv).toInt > 20 := toI_ngt c_12 rfl (by decide)
      have hnv : (nv).toInt = (nv).toInt := rfl
      obtain ⟨nn, hnn, enn⟩ := of_toInt (x := nv) (k := 21) (by omega) (by omega)
      subst enn
      have e_nn : (nI nn).toInt = (nn : Int) := nI_toInt (by omega)
      refine lv_aload_n hx hb dX12_end_15 rfl (lv_at hl 0 rfl) ?_
      refine va_get (D := (dC, dI)) (ci := 12) (v := .int (vi 16)) (C := RX12) (T := TX12) (N := 163) (fs := fM (vS a (fT vi 0 0) vj)) hx hb hts iwsRX12_end_in12 hown hK hP 0 rfl rfl 16 (by decide) (hts _ hm_r_X12_end_0) (fun _ h9 => h9) rfl dX12_end_16 ?_
      refine lv_topi (fun y1 hy1 => ?_)
      obtain rfl : (nI tp) = y1 := (hy1.trans (hTp)).symm
      refine lv_iload_n hx hb dX12_end_19 rfl (lv_at hl 1 rfl) ?_
      refine lv_iadd hx hb dX12_end_20 ?_
      refine lv_topi (fun y2 hy2 => ?_)
      obtain rfl : (nI (tp + nn)) = y2 := (hy2.trans (nI_add tp nn)).symm
      refine lv_sipush (v := 4000) hx hb dX12_end_21 (by decide) ?_
      refine lv_icmp_le (tgt := 29) hx hb dX12_end_24 (by decide) (fun c_24 => ?_) (fun c_24 => ?_)
      · have t_24 : (((tp + nn) : Nat) : Int) ≤ 4000 := toI_le c_24 (nI_toInt (by omega)) (by decide)
        refine lv_iconst (v := 0) hx hb dX12_end_29 (by decide) ?_
        refine lv_istore_n hx hb dX12_end_30 rfl hl (by decide) rfl (fun ls (hl : lv_has ls _ ([(2, .int 0), (0, .ref h0), (1, .int (nI nn))])) => ?_)
        have e9 : fT vF 9 (vF 9) = vF := by funext q9; by_cases h9_9 : q9 = 9; (subst h9_9; exact (fT_eq _ _ _).trans (Eq.trans (by first | with_reducible rfl | with_reducible assumption | (symm; with_reducible assumption) | rfl | assumption | (symm; assumption) | (subst_vars; rfl)) (Eq.refl _).symm)); exact (fT_ne _ _ h9_9).trans (Eq.refl _).symm
        have hP := wr_PF e9 hP
        have hD := wr_DF e9 hD
        clear e9
        have hl : lv_has _ _ ([(0, .ref h0), (1, .int (nI nn)), (2, .int (nI 0))]) := lv_sub hl [1, 2, 0] rfl
        refine (fun (loop : ∀ (n9 : Nat) (k5 : Nat) (x2_F9 : Nat → Int32) (H : Heap) (locs : List Loc) (ls : Array Slot), (k5 ≤ nn) →  (nn < k5 + n9) → va_P (dC, dI) vwCl (WR a k h0 (fT vi 0 0) vj (fT vF 9 x2_F9) vG) H → va_D A (WR a k h0 (fT vi 0 0) vj (fT vF 9 x2_F9) vG) → va_S A s.heap H locs → lv_has ls 3 [(0, .ref h0), (1, .int (nI nn)), (2, .int (nI k5))] → W p l e _ s m _ below meth c H locs 0 0 _ (F0 m 31 ls [])) => loop (nn + 1) 0 (vF 9) _ _ _ (by omega) (by omega) hP hD hS hl) ?_
        intro n9
        induction n9 with
        | zero => intro k5 x2_F9 H locs ls hk5 hf9; exact False.elim (by omega)
        | succ n9 ih31 =>
          intro k5 x2_F9 H locs ls hk5 hf31 hP hD hS hl
          refine lv_iload_n hx hb dX12_end_31 rfl (lv_at hl 2 rfl) ?_
          refine lv_iload_n hx hb dX12_end_32 rfl (lv_at hl 1 rfl) ?_
          refine lv_icmp_ge (tgt := 60) hx hb dX12_end_33 (by decide) (fun c_33 => ?_) (fun c_33 => ?_)
          · have t_33 : ((k5 : Nat) : Int) ≥ ((nn : Nat) : Int) := toI_ge c_33 (nI_toInt (by omega)) (nI_toInt (by omega))
            refine lv_iconst (v := 0) hx hb dX12_end_60 (by decide) ?_
            refine lv_istore_n hx hb dX12_end_61 rfl hl (by decide) rfl (fun ls (hl : lv_has ls _ ([(2, .int 0), (0, .ref h0), (1, .int (nI nn))])) => ?_)
            have e9 : fT (fT vF 9 x2_F9) 77 (vF 77) = fT vF 9 x2_F9 := id_1 rfl
            have hP := wr_PF e9 hP
            have hD := wr_DF e9 hD
            clear e9
            have hl : lv_has _ _ ([(0, .ref h0), (1, .int (nI nn)), (2, .int (nI 0))]) := lv_sub hl [1, 2, 0] rfl
            refine (fun (loop : ∀ (n9 : Nat) (k6 : Nat) (x3_F77 : Nat → Int32) (H : Heap) (locs : List Loc) (ls : Array Slot), (k6 ≤ 20) →  (20 < k6 + n9) → va_P (dC, dI) vwCl (WR a k h0 (fT vi 0 0) vj (fT (fT vF 9 x2_F9) 77 x3_F77) vG) H → va_D A (WR a k h0 (fT vi 0 0) vj (fT (fT vF 9 x2_F9) 77 x3_F77) vG) → va_S A s.heap H locs → lv_has ls 3 [(0, .ref h0), (1, .int (nI nn)), (2, .int (nI k6))] → W p l e _ s m _ below meth c H locs 0 0 _ (F0 m 62 ls [])) => loop (21) 0 (vF 77) _ _ _ (by omega) (by omega) hP hD hS hl) ?_
            intro n9
            induction n9 with
            | zero => intro k6 x3_F77 H locs ls hk6 hf9; exact False.elim (by omega)
            | succ n9 ih62_1 =>
              intro k6 x3_F77 H locs ls hk6 hf62_1 hP hD hS hl
              refine lv_iload_n hx hb dX12_end_62 rfl (lv_at hl 2 rfl) ?_
              refine lv_bipush (v := 20) hx hb dX12_end_63 (by decide) ?_
              refine lv_icmp_ge (tgt := 81) hx hb dX12_end_65 (by decide) (fun c_65 => ?_) (fun c_65 => ?_)
              · have t_65 : ((k6 : Nat) : Int) ≥ 20 := toI_ge c_65 (nI_toInt (by omega)) (by decide)
                refine lv_aload_n hx hb dX12_end_81 rfl (lv_at hl 0 rfl) ?_
                refine lv_dup hx hb dX12_end_82 rfl ?_
                refine va_get (D := (dC, dI)) (ci := 12) (v := .int (vi 16)) (C := RX12) (T := TX12) (N := 163) (fs := fM (vS a (fT vi 0 0) vj)) hx hb hts iwsRX12_end_in12 hown hK hP 0 rfl rfl 16 (by decide) (hts _ hm_r_X12_end_0) (fun _ h9 => h9) rfl dX12_end_83 ?_
                refine lv_topi (fun y3 hy3 => ?_)
                obtain rfl : (nI tp) = y3 := (hy3.trans (hTp)).symm
                refine lv_iload_n hx hb dX12_end_86 rfl (lv_at hl 1 rfl) ?_
                refine lv_iadd hx hb dX12_end_87 ?_
                refine lv_topi (fun y4 hy4 => ?_)
                obtain rfl : (nI (tp + nn)) = y4 := (hy4.trans (nI_add tp nn)).symm
                refine va_put (D := (dC, dI)) (ci := 12) (v := .int (nI (tp + nn))) (ty := .int) (C := RX12) (T := TX12) (N := 163) (fs := fM (vS a (fT vi 0 0) vj)) hx hb hts iwsRX12_end_in12 tyX12 tyX12_ok nmX12 hown hK hP hD hS 0 rfl rfl 16 (by decide) (hts _ hm_r_X12_end_0) (fun _ h9 => h9) rfl (by decide +kernel) rfl rfl (Nat.le_of_ble_eq_true rfl) dX12_end_88 (fun H locs hP hD hS => ?_)
                have hP : va_P (dC, dI) vwCl (WR a k h0 (fT (fT vi 0 0) 16 (nI (tp + nn))) vj (fT (fT vF 9 x2_F9) 77 x3_F77) vG) H := fz_w (WR_i 16 _ rfl) hP
                have hD : va_D A (WR a k h0 (fT (fT vi 0 0) 16 (nI (tp + nn))) vj (fT (fT vF 9 x2_F9) 77 x3_F77) vG) := fz_wD (WR_i 16 _ rfl) hD
                refine lv_aload_n hx hb dX12_end_91 rfl (lv_at hl 0 rfl) ?_
                refine va_get (D := (dC, dI)) (ci := 12) (v := .int (nI (tp + nn))) (C := RX12) (T := TX12) (N := 163) (fs := fM (vS a (fT (fT vi 0 0) 16 (nI (tp + nn))) vj)) hx hb hts iwsRX12_end_in12 hown hK hP 0 rfl rfl 16 (by decide) (hts _ hm_r_X12_end_0) (fun _ h9 => h9) rfl dX12_end_92 ?_
                refine W.widen (k := 0) (n := 0) (by decide +kernel) (by decide +kernel) ?_
                exact W.iret (v := (nI (tp + nn))) hx hb hr (fun t9_ ht hW => ⟨⟨(nI (tp + nn)), ((tp + nn), x2_F9, x3_F77), rfl, by (try dsimp only); exact Or.inr ⟨rfl, by unfold EndO; omega, by omega⟩, by rw [ht]; exact hP, hD⟩, hS.F ht⟩) hS.2.2 dX12_end_95
              · have t_65 : ¬ ((k6 : Nat) : Int) ≥ 20 := toI_nge c_65 (nI_toInt (by omega)) (by decide)
                refine lv_aload_n hx hb dX12_end_68 rfl (lv_at hl 0 rfl) ?_
                refine va_get (D := (dC, dI)) (ci := 12) (v := .ref (a 77)) (C := RX12) (T := TX12) (N := 163) (fs := fM (vS a (fT vi 0 0) vj)) hx hb hts iwsRX12_end_in12 hown hK hP 0 rfl rfl 127 (by decide) (hts _ hm_r_X12_end_1) (fun _ h9 => h9) rfl dX12_end_69 ?_
                refine lv_iload_n hx hb dX12_end_72 rfl (lv_at hl 2 rfl) ?_
                refine lv_iconst (v := 0) hx hb dX12_end_73 (by decide) ?_
                refine va_iast (cA := k 77) (n := 20) (f := x3_F77) hx hb hK hP hD hS 78 77 (WR_get 77 (by decide)) (TR_get 77 (by decide)) (vp_in_nI (show k6 < 20 by omega) (by omega)) dX12_end_74 (fun H locs hP hD hS => ?_)
                have e9 : fT (fT vF 9 x2_F9) 77 (upd x3_F77 ((nI k6)).toNatClampNeg 0) = fT (fT (fT vF 9 x2_F9) 77 x3_F77) 77 (upd x3_F77 ((nI k6)).toNatClampNeg 0) := (fT_sm _ _ _ _).symm
                have hP := wr_PF e9 (fz_w (WR_F 77 (by decide) _ rfl) hP)
                have hD := wr_DF e9 (fz_wD (WR_F 77 (by decide) _ rfl) hD)
                clear e9
                refine lv_iinc (v := (nI (k6 + 1))) hx hb dX12_end_75 hl (k := 2) rfl (nI_add k6 1) (by decide) rfl (fun ls (hl : lv_has ls _ ([(2, .int (nI (k6 + 1))), (0, .ref h0), (1, .int (nI nn))])) => ?_)
                refine lv_goto (tgt := 62) hx hb dX12_end_78 (by decide) ?_
                have hl : lv_has _ _ ([(0, .ref h0), (1, .int (nI nn)), (2, .int (nI (k6 + 1)))]) := lv_sub hl [1, 2, 0] rfl
                exact ih62_1 (k6 + 1) (upd x3_F77 ((nI k6)).toNatClampNeg 0) _ _ _ (by omega) (by omega) hP hD hS hl
          · have t_33 : ¬ ((k5 : Nat) : Int) ≥ ((nn : Nat) : Int) := toI_nge c_33 (nI_toInt (by omega)) (nI_toInt (by omega))
            refine lv_aload_n hx hb dX12_end_36 rfl (lv_at hl 0 rfl) ?_
            refine va_get (D := (dC, dI)) (ci := 12) (v := .ref (a 9)) (C := RX12) (T := TX12) (N := 163) (fs := fM (vS a (fT vi 0 0) vj)) hx hb hts iwsRX12_end_in12 hown hK hP 0 rfl rfl 15 (by decide) (hts (.fieldLink RX12 39 "OptimaWorksModel" "tape" "[B") (by decide +kernel)) (fun _ h9 => h9) rfl dX12_end_37 ?_
            refine lv_aload_n hx hb dX12_end_40 rfl (lv_at hl 0 rfl) ?_
            refine va_get (D := (dC, dI)) (ci := 12) (v := .int (vi 16)) (C := RX12) (T := TX12) (N := 163) (fs := fM (vS a (fT vi 0 0) vj)) hx hb hts iwsRX12_end_in12 hown hK hP 0 rfl rfl 16 (by decide) (hts _ hm_r_X12_end_0) (fun _ h9 => h9) rfl dX12_end_41 ?_
            refine lv_topi (fun y5 hy5 => ?_)
            obtain rfl : (nI tp) = y5 := (hy5.trans (hTp)).symm
            refine lv_iload_n hx hb dX12_end_44 rfl (lv_at hl 2 rfl) ?_
            refine lv_iadd hx hb dX12_end_45 ?_
            refine lv_topi (fun y6 hy6 => ?_)
            obtain rfl : (nI (tp + k5)) = y6 := (hy6.trans (nI_add tp k5)).symm
            refine lv_aload_n hx hb dX12_end_46 rfl (lv_at hl 0 rfl) ?_
            refine va_get (D := (dC, dI)) (ci := 12) (v := .ref (a 77)) (C := RX12) (T := TX12) (N := 163) (fs := fM (vS a (fT vi 0 0) vj)) hx hb hts iwsRX12_end_in12 hown hK hP 0 rfl rfl 127 (by decide) (hts _ hm_r_X12_end_1) (fun _ h9 => h9) rfl dX12_end_47 ?_
            refine lv_iload_n hx hb dX12_end_50 rfl (lv_at hl 2 rfl) ?_
            refine va_iald (cA := k 77) (n := 20) (f := (vF 77)) hx hb hK hP 78 77 (WR_get 77 (by decide)) (TR_get 77 (by decide)) (vp_in_nI (show k5 < 20 by omega) (by omega)) dX12_end_51 ?_
            refine lv_topi (fun y7 hy7 => ?_)
            obtain rfl : ((vF 77) k5) = y7 := (hy7.trans (by rw [nI_clamp (by omega)])).symm
            refine lv_i2b hx hb dX12_end_52 rfl ?_
            refine va_bast (cA := k 9) (n := 4000) (f := x2_F9) hx hb hK hP hD hS 10 9 (WR_get 9 (by decide)) (TR_get 9 (by decide)) (vp_in_nI (show (tp + k5) < 4000 by omega) (by omega)) dX12_end_53 (fun H locs hP hD hS => ?_)
            have e9 : fT vF 9 (upd x2_F9 ((nI (tp + k5))).toNatClampNeg (vp_nar FieldType.byte ((((vF 77) k5)).toInt8.toInt32))) = fT (fT vF 9 x2_F9) 9 (upd x2_F9 ((nI (tp + k5))).toNatClampNeg (vp_nar FieldType.byte ((((vF 77) k5)).toInt8.toInt32))) := (fT_sm _ _ _ _).symm
            have hP := wr_PF e9 (fz_w (WR_F 9 (by decide) _ rfl) hP)
            have hD := wr_DF e9 (fz_wD (WR_F 9 (by decide) _ rfl) hD)
            clear e9
            refine lv_iinc (v := (nI (k5 + 1))) hx hb dX12_end_54 hl (k := 2) rfl (nI_add k5 1) (by decide) rfl (fun ls (hl : lv_has ls _ ([(2, .int (nI (k5 + 1))), (0, .ref h0), (1, .int (nI nn))])) => ?_)
            refine lv_goto (tgt := 31) hx hb dX12_end_57 (by decide) ?_
            have hl : lv_has _ _ ([(0, .ref h0), (1, .int (nI nn)), (2, .int (nI (k5 + 1)))]) := lv_sub hl [1, 2, 0] rfl
            exact ih31 (k5 + 1) (upd x2_F9 ((nI (tp + k5))).toNatClampNeg (vp_nar FieldType.byte ((((vF 77) k5)).toInt8.toInt32))) _ _ _ (by omega) (by omega) hP hD hS hl
      · have t_24 : ¬ (((tp + nn) : Nat) : Int) ≤ 4000 := toI_nle c_24 (nI_toInt (by omega)) (by decide)
        refine lv_iconst (v := (-1)) hx hb dX12_end_27 (by decide) ?_
        refine W.widen (k := 0) (n := 0) (by decide +kernel) (by decide +kernel) ?_
        have e9 : fT (fT vi 0 0) 16 (nI tp) = fT vi 0 0 := Eq.trans (congrArg (fT _ 16) (show nI tp = vi 16 from (by first | with_reducible rfl | with_reducible assumption | (symm; with_reducible assumption) | rfl | assumption | (symm; assumption) | (subst_vars; rfl)))) (id_1 rfl)
        have hP := wr_Pi e9 hP
        have hD := wr_Di e9 hD
        clear e9
        have e9 : fT (fT vF 9 (vF 9)) 77 (vF 77) = vF := (fT_id _ _ (fT_ne _ _ (Nat.ne_of_beq_eq_false rfl))).trans (fT_id _ _ (rfl))
        have hP := wr_PF e9 hP
        have hD := wr_DF e9 hD
        clear e9
        exact W.iret (v := (-1)) hx hb hr (fun t9_ ht hW => ⟨⟨(-1), (tp, (vF 9), (vF 77)), rfl, by (try dsimp only); exact Or.inl ⟨rfl, fun h9 => by unfold EndO at h9; omega, rfl⟩, by rw [ht]; exact hP, hD⟩, hS.F ht⟩) hS.2.2 dX12_end_28
theorem dX12_wipe_0 : decode cX12_wipe 0 = .ok (.aload_n 0, 1) := dk_42 (by decide +kernel)
theorem dX12_wipe_1 : decode cX12_wipe 1 = .ok (.iconst 0, 1) := dk_3 (by decide +kernel)
theorem dX12_wipe_2 : decode cX12_wipe 2 = .ok (.putfield 348, 3) := dk_181 (by decide +kernel)
theorem dX12_wipe_5 : decode cX12_wipe 5 = .ok (.aload_n 0, 1) := dk_42 (by decide +kernel)
theorem dX12_wipe_6 : decode cX12_wipe 6 = .ok (.iconst 0, 1) := dk_3 (by decide +kernel)
theorem dX12_wipe_7 : decode cX12_wipe 7 = .ok (.putfield 468, 3) := dk_181 (by decide +kernel)
theorem dX12_wipe_10 : decode cX12_wipe 10 = .ok (.return_, 1) := dk_177 (by decide +kernel)
def wsRX12_wipe : List Cond := .code yX12_wipe cX12_wipe 1 none :: ([.fieldLink RX12 348 "OptimaWorksModel" "thrown" "I", .fieldLink RX12 468 "OptimaWorksModel" "taped" "I"] ++ wsX120)
theorem iwsRX12_wipe_in12 : ∀ w ∈ wsX120, w ∈ wsRX12_wipe := fun _ h => List.mem_cons_of_mem _ (List.mem_append_right _ h)
theorem gdwsRX12_wipe : wsRX12_wipe.all goodWord = true := gdC rfl (gdA (by decide +kernel : ([.fieldLink RX12 348 "OptimaWorksModel" "thrown" "I", .fieldLink RX12 468 "OptimaWorksModel" "taped" "I"] : List Cond).all goodWord = true) gdwsX120)
set_option maxHeartbeats 4000000 in
set_option maxRecDepth 100000 in
/-- wipe() -/
theorem r_X12_wipe (l : Launch) (dC : Nat → ClassId) (dI : Nat → Nat → Nat) (a : Nat → Nat) (k : Nat → ClassId) (h0 : Nat) (vi : Nat → Int32) (vj : Nat → Int64) (vF : Nat → Nat → Int32) (vG : Nat → Nat → Int64) (sz : Nat) : Met l yX12_wipe wsRX12_wipe ({ frames := 0, cells := 0, slots := 0, locals := 0 }) (va_Pc [.ref h0] (fun U => U.heap.size = sz ∧ va_P (dC, dI) vwCl (WR a k h0 vi vj vF vG) U.heap ∧ va_K (dC, dI) vwCl (tX12 k) U ∧ va_D (fun _ => True) (WR a k h0 vi vj vF vG))) (va_Qv (fun (u : Unit) => True) (fun (u : Unit) t => va_P (dC, dI) vwCl (WR a k h0 (fT (fT vi 0 0) 16 0) vj vF vG) t.heap ∧ va_D (va_A (WR a k h0 vi vj vF vG) sz) (WR a k h0 (fT (fT vi 0 0) 16 0) vj vF vG)) (va_A (WR a k h0 vi vj vF vG) sz)) 0 0 (va_A (WR a k h0 vi vj vF vG) sz) := by
  refine Met.ofW (cc := cX12_wipe) (maxL := 1) (ret := none) (by decide) rfl ?_
  intro p e s m args below meth c s₁ B hml hv
  obtain ⟨rfl, hsz, hP, hK, hD0⟩ := hv
  have hx := B.exec
  have hb := B.bytes
  have hr := B.returns
  have hts := atoms_spec (ws := wsRX12_wipe) B.pre
  have hown : s.vm.findClass RX12 = some m.cls := findClass_of_methodNamed B.named
  have hlocks := B.notSynchronized
  subst hsz
  have hD := hD0.self (sz := s.heap.size)
  generalize hAe : va_A (WR a k h0 vi vj vF vG) s.heap.size = A at hD ⊢
  have hA : ∀ q : Nat, s.heap.size ≤ q → A q := fun q h => by rw [← hAe]; exact Or.inr h
  have hS : va_S A s.heap s.heap [] := va_S.rf
  have hl := lv_entry ([.ref h0]) (n := 1) (Nat.le_of_ble_eq_true rfl)
  rw [lg_entry_eq]
  generalize (lg_sl ([.ref h0]) ++ List.replicate (1 - (lg_sl ([.ref h0])).length) Slot.unset).toArray = ls at hl ⊢
  have hl : lv_has ls 1 [(0, .ref h0)] := hl
  refine lv_aload_n hx hb dX12_wipe_0 rfl (lv_at hl 0 rfl) ?_
  refine lv_iconst (v := 0) hx hb dX12_wipe_1 (by decide) ?_
  refine va_put (D := (dC, dI)) (ci := 12) (v := .int 0) (ty := .int) (C := RX12) (T := TX12) (N := 163) (fs := fM (vS a vi vj)) hx hb hts iwsRX12_wipe_in12 tyX12 tyX12_ok nmX12 hown hK hP hD hS 0 rfl rfl 0 (by decide) (hts (.fieldLink RX12 348 "OptimaWorksModel" "thrown" "I") (by decide +kernel)) (fun _ h9 => h9) rfl (by decide +kernel) rfl rfl (Nat.le_of_ble_eq_true rfl) dX12_wipe_2 (fun H locs hP hD hS => ?_)
  have hP : va_P (dC, dI) vwCl (WR a k h0 (fT vi 0 0) vj vF vG) H := fz_w (WR_i 0 _ rfl) hP
  have hD : va_D A (WR a k h0 (fT vi 0 0) vj vF vG) := fz_wD (WR_i 0 _ rfl) hD
  refine lv_aload_n hx hb dX12_wipe_5 rfl (lv_at hl 0 rfl) ?_
  refine lv_iconst (v := 0) hx hb dX12_wipe_6 (by decide) ?_
  refine va_put (D := (dC, dI)) (ci := 12) (v := .int 0) (ty := .int) (C := RX12) (T := TX12) (N := 163) (fs := fM (vS a (fT vi 0 0) vj)) hx hb hts iwsRX12_wipe_in12 tyX12 tyX12_ok nmX12 hown hK hP hD hS 0 rfl rfl 16 (by decide) (hts (.fieldLink RX12 468 "OptimaWorksModel" "taped" "I") (by decide +kernel)) (fun _ h9 => h9) rfl (by decide +kernel) rfl rfl (Nat.le_of_ble_eq_true rfl) dX12_wipe_7 (fun H locs hP hD hS => ?_)
  have hP : va_P (dC, dI) vwCl (WR a k h0 (fT (fT vi 0 0) 16 0) vj vF vG) H := fz_w (WR_i 16 _ rfl) hP
  have hD : va_D A (WR a k h0 (fT (fT vi 0 0) 16 0) vj vF vG) := fz_wD (WR_i 16 _ rfl) hD
  refine W.widen (k := 0) (n := 0) (by decide +kernel) (by decide +kernel) ?_
  exact W.vret hx hb hr (fun t9_ ht hW => ⟨⟨(), rfl, trivial, by rw [ht]; exact hP, hD⟩, hS.F ht⟩) hS.2.2 dX12_wipe_10
theorem dX12_fault_0 : decode cX12_fault 0 = .ok (.aload_n 0, 1) := dk_42 (by decide +kernel)
theorem dX12_fault_1 : decode cX12_fault 1 = .ok (.iconst 0, 1) := dk_3 (by decide +kernel)
theorem dX12_fault_2 : decode cX12_fault 2 = .ok (.putfield 348, 3) := dk_181 (by decide +kernel)
theorem dX12_fault_5 : decode cX12_fault 5 = .ok (.iload_n 1, 1) := dk_27 (by decide +kernel)
theorem dX12_fault_6 : decode cX12_fault 6 = .ok (.ifCond .ne 10, 3) := dk_154 (by decide +kernel)
theorem dX12_fault_9 : decode cX12_fault 9 = .ok (.aload_n 0, 1) := dk_42 (by decide +kernel)
theorem dX12_fault_10 : decode cX12_fault 10 = .ok (.getfield 820, 3) := dk_180 (by decide +kernel)
theorem dX12_fault_13 : decode cX12_fault 13 = .ok (.goto 16, 3) := dk_167 (by decide +kernel)
theorem dX12_fault_16 : decode cX12_fault 16 = .ok (.iload_n 1, 1) := dk_27 (by decide +kernel)
theorem dX12_fault_17 : decode cX12_fault 17 = .ok (.iconst 1, 1) := dk_4 (by decide +kernel)
theorem dX12_fault_18 : decode cX12_fault 18 = .ok (.if_icmp .ne 10, 3) := dk_160 (by decide +kernel)
theorem dX12_fault_21 : decode cX12_fault 21 = .ok (.aload_n 0, 1) := dk_42 (by decide +kernel)
theorem dX12_fault_22 : decode cX12_fault 22 = .ok (.getfield 47, 3) := dk_180 (by decide +kernel)
theorem dX12_fault_25 : decode cX12_fault 25 = .ok (.goto 4, 3) := dk_167 (by decide +kernel)
theorem dX12_fault_28 : decode cX12_fault 28 = .ok (.iconst (-1), 1) := dk_2 (by decide +kernel)
theorem dX12_fault_29 : decode cX12_fault 29 = .ok (.ireturn, 1) := dk_172 (by decide +kernel)
def wsRX12_fault : List Cond := .code yX12_fault cX12_fault 2 (some .int) :: ([.fieldLink RX12 348 "OptimaWorksModel" "thrown" "I", .fieldLink RX12 47 "OptimaWorksModel" "latestPlace" "I", .fieldLink RX12 820 "OptimaWorksModel" "latest" "I"] ++ wsX120)
theorem iwsRX12_fault_in12 : ∀ w ∈ wsX120, w ∈ wsRX12_fault := fun _ h => List.mem_cons_of_mem _ (List.mem_append_right _ h)
theorem gdwsRX12_fault : wsRX12_fault.all goodWord = true := gdC rfl (gdA (by decide +kernel : ([.fieldLink RX12 348 "OptimaWorksModel" "thrown" "I", .fieldLink RX12 47 "OptimaWorksModel" "latestPlace" "I", .fieldLink RX12 820 "OptimaWorksModel" "latest" "I"] : List Cond).all goodWord = true) gdwsX120)
set_option maxHeartbeats 4000000 in
set_option maxRecDepth 100000 in
/-- fault(what) -/
theorem r_X12_fault (l : Launch) (dC : Nat → ClassId) (dI : Nat → Nat → Nat) (a : Nat → Nat) (k : Nat → ClassId) (h0 : Nat) (vi : Nat → Int32) (vj : Nat → Int64) (vF : Nat → Nat → Int32) (vG : Nat → Nat → Int64) (wI : Int32) (sz : Nat) : Met l yX12_fault wsRX12_fault ({ frames := 0, cells := 0, slots := 0, locals := 0 }) (va_Pc [.ref h0, .int wI] (fun U => U.heap.size = sz ∧ va_P (dC, dI) vwCl (WR a k h0 vi vj vF vG) U.heap ∧ va_K (dC, dI) vwCl (tX12 k) U ∧ va_D (fun _ => True) (WR a k h0 vi vj vF vG))) (va_Qi (fun (r : Int32) (u : Unit) => True) (fun (u : Unit) t => va_P (dC, dI) vwCl (WR a k h0 (fT vi 0 0) vj vF vG) t.heap ∧ va_D (va_A (WR a k h0 vi vj vF vG) sz) (WR a k h0 (fT vi 0 0) vj vF vG)) (va_A (WR a k h0 vi vj vF vG) sz)) 0 0 (va_A (WR a k h0 vi vj vF vG) sz) := by
  refine Met.ofW (cc := cX12_fault) (maxL := 2) (ret := (some .int)) (by decide) rfl ?_
  intro p e s m args below meth c s₁ B hml hv
  obtain ⟨rfl, hsz, hP, hK, hD0⟩ := hv
  have hx := B.exec
  have hb := B.bytes
  have hr := B.returns
  have hts := atoms_spec (ws := wsRX12_fault) B.pre
  have hown : s.vm.findClass RX12 = some m.cls := findClass_of_methodNamed B.named
  have hlocks := B.notSynchronized
  subst hsz
  have hD := hD0.self (sz := s.heap.size)
  generalize hAe : va_A (WR a k h0 vi vj vF vG) s.heap.size = A at hD ⊢
  have hA : ∀ q : Nat, s.heap.size ≤ q → A q := fun q h => by rw [← hAe]; exact Or.inr h
  have hS : va_S A s.heap s.heap [] := va_S.rf
  have hl := lv_entry ([.ref h0, .int wI]) (n := 2) (Nat.le_of_ble_eq_true rfl)
  rw [lg_entry_eq]
  generalize (lg_sl ([.ref h0, .int wI]) ++ List.replicate (2 - (lg_sl ([.ref h0, .int wI])).length) Slot.unset).toArray = ls at hl ⊢
  have hl : lv_has ls 2 [(0, .ref h0), (1, .int wI)] := hl
  refine lv_aload_n hx hb dX12_fault_0 rfl (lv_at hl 0 rfl) ?_
  refine lv_iconst (v := 0) hx hb dX12_fault_1 (by decide) ?_
  refine va_put (D := (dC, dI)) (ci := 12) (v := .int 0) (ty := .int) (C := RX12) (T := TX12) (N := 163) (fs := fM (vS a vi vj)) hx hb hts iwsRX12_fault_in12 tyX12 tyX12_ok nmX12 hown hK hP hD hS 0 rfl rfl 0 (by decide) (hts (.fieldLink RX12 348 "OptimaWorksModel" "thrown" "I") (by decide +kernel)) (fun _ h9 => h9) rfl (by decide +kernel) rfl rfl (Nat.le_of_ble_eq_true rfl) dX12_fault_2 (fun H locs hP hD hS => ?_)
  have hP : va_P (dC, dI) vwCl (WR a k h0 (fT vi 0 0) vj vF vG) H := fz_w (WR_i 0 _ rfl) hP
  have hD : va_D A (WR a k h0 (fT vi 0 0) vj vF vG) := fz_wD (WR_i 0 _ rfl) hD
  refine lv_iload_n hx hb dX12_fault_5 rfl (lv_at hl 1 rfl) ?_
  refine lv_if_ne (tgt := 16) hx hb dX12_fault_6 (by decide) (fun c_6 => ?_) (fun c_6 => ?_)
  · have t_6 : (wI).toInt ≠ 0 := toI_ne c_6 rfl (by decide)
    refine lv_iload_n hx hb dX12_fault_16 rfl (lv_at hl 1 rfl) ?_
    refine lv_iconst (v := 1) hx hb dX12_fault_17 (by decide) ?_
    refine lv_icmp_ne (tgt := 28) hx hb dX12_fault_18 (by decide) (fun c_18 => ?_) (fun c_18 => ?_)
    · have t_18 : (wI).toInt ≠ 1 := toI_ne c_18 rfl (by decide)
      refine lv_iconst (v := (-1)) hx hb dX12_fault_28 (by decide) ?_
      refine W.widen (k := 0) (n := 0) (by decide +kernel) (by decide +kernel) ?_
      exact W.iret (v := (-1)) hx hb hr (fun t9_ ht hW => ⟨⟨(-1), (), rfl, trivial, by rw [ht]; exact hP, hD⟩, hS.F ht⟩) hS.2.2 dX12_fault_29
    · have t_18 : (wI).toInt = 1 := toI_nne c_18 rfl (by decide)
      refine lv_aload_n hx hb dX12_fault_21 rfl (lv_at hl 0 rfl) ?_
      refine va_get (D := (dC, dI)) (ci := 12) (v := .int (vi 24)) (C := RX12) (T := TX12) (N := 163) (fs := fM (vS a (fT vi 0 0) vj)) hx hb hts iwsRX12_fault_in12 hown hK hP 0 rfl rfl 24 (by decide) (hts (.fieldLink RX12 47 "OptimaWorksModel" "latestPlace" "I") (by decide +kernel)) (fun _ h9 => h9) rfl dX12_fault_22 ?_
      refine lv_goto (tgt := 29) hx hb dX12_fault_25 (by decide) ?_
      refine W.widen (k := 0) (n := 0) (by decide +kernel) (by decide +kernel) ?_
      exact W.iret (v := (vi 24)) hx hb hr (fun t9_ ht hW => ⟨⟨(vi 24), (), rfl, trivial, by rw [ht]; exact hP, hD⟩, hS.F ht⟩) hS.2.2 dX12_fault_29
  · have t_6 : (wI).toInt = 0 := toI_nne c_6 rfl (by decide)
    refine lv_aload_n hx hb dX12_fault_9 rfl (lv_at hl 0 rfl) ?_
    refine va_get (D := (dC, dI)) (ci := 12) (v := .int (vi 23)) (C := RX12) (T := TX12) (N := 163) (fs := fM (vS a (fT vi 0 0) vj)) hx hb hts iwsRX12_fault_in12 hown hK hP 0 rfl rfl 23 (by decide) (hts (.fieldLink RX12 820 "OptimaWorksModel" "latest" "I") (by decide +kernel)) (fun _ h9 => h9) rfl dX12_fault_10 ?_
    refine lv_goto (tgt := 29) hx hb dX12_fault_13 (by decide) ?_
    refine W.widen (k := 0) (n := 0) (by decide +kernel) (by decide +kernel) ?_
    exact W.iret (v := (vi 23)) hx hb hr (fun t9_ ht hW => ⟨⟨(vi 23), (), rfl, trivial, by rw [ht]; exact hP, hD⟩, hS.F ht⟩) hS.2.2 dX12_fault_29
theorem dX12_variable_0 : decode cX12_variable 0 = .ok (.aload_n 0, 1) := dk_42 (by decide +kernel)
theorem dX12_variable_1 : decode cX12_variable 1 = .ok (.iload_n 1, 1) := dk_27 (by decide +kernel)
theorem dX12_variable_2 : decode cX12_variable 2 = .ok (.ifCond .lt 15, 3) := dk_155 (by decide +kernel)
theorem dX12_variable_5 : decode cX12_variable 5 = .ok (.iload_n 1, 1) := dk_27 (by decide +kernel)
theorem dX12_variable_6 : decode cX12_variable 6 = .ok (.aload_n 0, 1) := dk_42 (by decide +kernel)
theorem dX12_variable_7 : decode cX12_variable 7 = .ok (.getfield 774, 3) := dk_180 (by decide +kernel)
theorem dX12_variable_10 : decode cX12_variable 10 = .ok (.if_icmp .ge 7, 3) := dk_162 (by decide +kernel)
theorem dX12_variable_13 : decode cX12_variable 13 = .ok (.iconst 0, 1) := dk_3 (by decide +kernel)
theorem dX12_variable_14 : decode cX12_variable 14 = .ok (.goto 4, 3) := dk_167 (by decide +kernel)
theorem dX12_variable_17 : decode cX12_variable 17 = .ok (.iconst 1, 1) := dk_4 (by decide +kernel)
theorem dX12_variable_18 : decode cX12_variable 18 = .ok (.putfield 348, 3) := dk_181 (by decide +kernel)
theorem dX12_variable_21 : decode cX12_variable 21 = .ok (.aload_n 0, 1) := dk_42 (by decide +kernel)
theorem dX12_variable_22 : decode cX12_variable 22 = .ok (.getfield 348, 3) := dk_180 (by decide +kernel)
theorem dX12_variable_25 : decode cX12_variable 25 = .ok (.ifCond .le 5, 3) := dk_158 (by decide +kernel)
theorem dX12_variable_28 : decode cX12_variable 28 = .ok (.iconst 0, 1) := dk_3 (by decide +kernel)
theorem dX12_variable_29 : decode cX12_variable 29 = .ok (.ireturn, 1) := dk_172 (by decide +kernel)
theorem dX12_variable_30 : decode cX12_variable 30 = .ok (.iload_n 2, 1) := dk_28 (by decide +kernel)
theorem dX12_variable_31 : decode cX12_variable 31 = .ok (.ifCond .ne 12, 3) := dk_154 (by decide +kernel)
theorem dX12_variable_34 : decode cX12_variable 34 = .ok (.aload_n 0, 1) := dk_42 (by decide +kernel)
theorem dX12_variable_35 : decode cX12_variable 35 = .ok (.getfield 191, 3) := dk_180 (by decide +kernel)
theorem dX12_variable_38 : decode cX12_variable 38 = .ok (.iload_n 1, 1) := dk_27 (by decide +kernel)
theorem dX12_variable_39 : decode cX12_variable 39 = .ok (.iaload, 1) := dk_46 (by decide +kernel)
theorem dX12_variable_40 : decode cX12_variable 40 = .ok (.goto 32, 3) := dk_167 (by decide +kernel)
theorem dX12_variable_43 : decode cX12_variable 43 = .ok (.iload_n 2, 1) := dk_28 (by decide +kernel)
theorem dX12_variable_44 : decode cX12_variable 44 = .ok (.iconst 1, 1) := dk_4 (by decide +kernel)
theorem dX12_variable_45 : decode cX12_variable 45 = .ok (.if_icmp .ne 12, 3) := dk_160 (by decide +kernel)
theorem dX12_variable_48 : decode cX12_variable 48 = .ok (.aload_n 0, 1) := dk_42 (by decide +kernel)
theorem dX12_variable_49 : decode cX12_variable 49 = .ok (.getfield 194, 3) := dk_180 (by decide +kernel)
theorem dX12_variable_52 : decode cX12_variable 52 = .ok (.iload_n 1, 1) := dk_27 (by decide +kernel)
theorem dX12_variable_53 : decode cX12_variable 53 = .ok (.iaload, 1) := dk_46 (by decide +kernel)
theorem dX12_variable_54 : decode cX12_variable 54 = .ok (.goto 18, 3) := dk_167 (by decide +kernel)
theorem dX12_variable_57 : decode cX12_variable 57 = .ok (.iload_n 2, 1) := dk_28 (by decide +kernel)
theorem dX12_variable_58 : decode cX12_variable 58 = .ok (.iconst 2, 1) := dk_5 (by decide +kernel)
theorem dX12_variable_59 : decode cX12_variable 59 = .ok (.if_icmp .ne 12, 3) := dk_160 (by decide +kernel)
theorem dX12_variable_62 : decode cX12_variable 62 = .ok (.aload_n 0, 1) := dk_42 (by decide +kernel)
theorem dX12_variable_63 : decode cX12_variable 63 = .ok (.getfield 197, 3) := dk_180 (by decide +kernel)
theorem dX12_variable_66 : decode cX12_variable 66 = .ok (.iload_n 1, 1) := dk_27 (by decide +kernel)
theorem dX12_variable_67 : decode cX12_variable 67 = .ok (.iaload, 1) := dk_46 (by decide +kernel)
theorem dX12_variable_68 : decode cX12_variable 68 = .ok (.goto 4, 3) := dk_167 (by decide +kernel)
theorem dX12_variable_71 : decode cX12_variable 71 = .ok (.iconst (-1), 1) := dk_2 (by decide +kernel)
theorem dX12_variable_72 : decode cX12_variable 72 = .ok (.ireturn, 1) := dk_172 (by decide +kernel)
def wsRX12_variable : List Cond := .code yX12_variable cX12_variable 3 (some .int) :: ([.fieldLink RX12 348 "OptimaWorksModel" "thrown" "I", .fieldLink RX12 774 "OptimaWorksModel" "variables" "I", .fieldLink RX12 197 "OptimaWorksModel" "whole" "[I", .fieldLink RX12 194 "OptimaWorksModel" "high" "[I", .fieldLink RX12 191 "OptimaWorksModel" "low" "[I"] ++ wsX120)
theorem iwsRX12_variable_in12 : ∀ w ∈ wsX120, w ∈ wsRX12_variable := fun _ h => List.mem_cons_of_mem _ (List.mem_append_right _ h)
theorem gdwsRX12_variable : wsRX12_variable.all goodWord = true := gdC rfl (gdA (by decide +kernel : ([.fieldLink RX12 348 "OptimaWorksModel" "thrown" "I", .fieldLink RX12 774 "OptimaWorksModel" "variables" "I", .fieldLink RX12 197 "OptimaWorksModel" "whole" "[I", .fieldLink RX12 194 "OptimaWorksModel" "high" "[I", .fieldLink RX12 191 "OptimaWorksModel" "low" "[I"] : List Cond).all goodWord = true) gdwsX120)
theorem hm_r_X12_variable_0 : (.fieldLink RX12 348 "OptimaWorksModel" "thrown" "I" : Cond) ∈ wsRX12_variable := by decide +kernel
set_option maxHeartbeats 4000000 in
set_option maxRecDepth 100000 in
/-- variable(k, what) -/
theorem r_X12_variable (l : Launch) (dC : Nat → ClassId) (dI : Nat → Nat → Nat) (a : Nat → Nat) (k : Nat → ClassId) (h0 : Nat) (vi : Nat → Int32) (vj : Nat → Int64) (vF : Nat → Nat → Int32) (vG : Nat → Nat → Int64) (kI : Int32) (wI : Int32) (vn : Nat) (hvn : vi 90 = nI vn) (hvn8 : vn ≤ 8) (sz : Nat) : Met l yX12_variable wsRX12_variable ({ frames := 0, cells := 0, slots := 0, locals := 0 }) (va_Pc [.ref h0, .int kI, .int wI] (fun U => U.heap.size = sz ∧ va_P (dC, dI) vwCl (WR a k h0 vi vj vF vG) U.heap ∧ va_K (dC, dI) vwCl (tX12 k) U ∧ va_D (fun _ => True) (WR a k h0 vi vj vF vG))) (va_Qi (fun (r : Int32) (u : Int32) => True) (fun (u : Int32) t => va_P (dC, dI) vwCl (WR a k h0 (fT vi 0 u) vj vF vG) t.heap ∧ va_D (va_A (WR a k h0 vi vj vF vG) sz) (WR a k h0 (fT vi 0 u) vj vF vG)) (va_A (WR a k h0 vi vj vF vG) sz)) 0 0 (va_A (WR a k h0 vi vj vF vG) sz) := by
  refine Met.ofW (cc := cX12_variable) (maxL := 3) (ret := (some .int)) (by decide) rfl ?_
  intro p e s m args below meth c s₁ B hml hv
  obtain ⟨rfl, hsz, hP, hK, hD0⟩ := hv
  have hx := B.exec
  have hb := B.bytes
  have hr := B.returns
  have hts := atoms_spec (ws := wsRX12_variable) B.pre
  have hown : s.vm.findClass RX12 = some m.cls := findClass_of_methodNamed B.named
  have hlocks := B.notSynchronized
  subst hsz
  have hD := hD0.self (sz := s.heap.size)
  generalize hAe : va_A (WR a k h0 vi vj vF vG) s.heap.size = A at hD ⊢
  have hA : ∀ q : Nat, s.heap.size ≤ q → A q := fun q h => by rw [← hAe]; exact Or.inr h
  have hS : va_S A s.heap s.heap [] := va_S.rf
  have hl := lv_entry ([.ref h0, .int kI, .int wI]) (n := 3) (Nat.le_of_ble_eq_true rfl)
  rw [lg_entry_eq]
  generalize (lg_sl ([.ref h0, .int kI, .int wI]) ++ List.replicate (3 - (lg_sl ([.ref h0, .int kI, .int wI])).length) Slot.unset).toArray = ls at hl ⊢
  have hl : lv_has ls 3 [(0, .ref h0), (1, .int kI), (2, .int wI)] := hl
  refine lv_aload_n hx hb dX12_variable_0 rfl (lv_at hl 0 rfl) ?_
  refine lv_iload_n hx hb dX12_variable_1 rfl (lv_at hl 1 rfl) ?_
  refine lv_if_lt (tgt := 17) hx hb dX12_variable_2 (by decide) (fun c_2 => ?_) (fun c_2 => ?_)
  · have t_2 : (kI).toInt < 0 := toI_lt c_2 rfl (by decide)
    refine lv_iconst (v := 1) hx hb dX12_variable_17 (by decide) ?_
    refine va_put (D := (dC, dI)) (ci := 12) (v := .int 1) (ty := .int) (C := RX12) (T := TX12) (N := 163) (fs := fM (vS a vi vj)) hx hb hts iwsRX12_variable_in12 tyX12 tyX12_ok nmX12 hown hK hP hD hS 0 rfl rfl 0 (by decide) (hts _ hm_r_X12_variable_0) (fun _ h9 => h9) rfl (by decide +kernel) rfl rfl (Nat.le_of_ble_eq_true rfl) dX12_variable_18 (fun H locs hP hD hS => ?_)
    have hP : va_P (dC, dI) vwCl (WR a k h0 (fT vi 0 1) vj vF vG) H := fz_w (WR_i 0 _ rfl) hP
    have hD : va_D A (WR a k h0 (fT vi 0 1) vj vF vG) := fz_wD (WR_i 0 _ rfl) hD
    refine lv_aload_n hx hb dX12_variable_21 rfl (lv_at hl 0 rfl) ?_
    refine va_get (D := (dC, dI)) (ci := 12) (v := .int 1) (C := RX12) (T := TX12) (N := 163) (fs := fM (vS a (fT vi 0 1) vj)) hx hb hts iwsRX12_variable_in12 hown hK hP 0 rfl rfl 0 (by decide) (hts _ hm_r_X12_variable_0) (fun _ h9 => h9) rfl dX12_variable_22 ?_
    refine lv_if_le (tgt := 30) hx hb dX12_variable_25 (by decide) (fun c9 => absurd c9 (by decide)) (fun _ => ?_)
    refine lv_iconst (v := 0) hx hb dX12_variable_28 (by decide) ?_
    refine W.widen (k := 0) (n := 0) (by decide +kernel) (by decide +kernel) ?_
    exact W.iret (v := 0) hx hb hr (fun t9_ ht hW => ⟨⟨0, 1, rfl, trivial, by rw [ht]; exact hP, hD⟩, hS.F ht⟩) hS.2.2 dX12_variable_29
  · have t_2 : ¬ (kI).toInt < 0 := toI_nlt c_2 rfl (by decide)
    refine lv_iload_n hx hb dX12_variable_5 rfl (lv_at hl 1 rfl) ?_
    refine lv_aload_n hx hb dX12_variable_6 rfl (lv_at hl 0 rfl) ?_
    refine va_get (D := (dC, dI)) (ci := 12) (v := .int (vi 90)) (C := RX12) (T := TX12) (N := 163) (fs := fM (vS a vi vj)) hx hb hts iwsRX12_variable_in12 hown hK hP 0 rfl rfl 90 (by decide) (hts (.fieldLink RX12 774 "OptimaWorksModel" "variables" "I") (by decide +kernel)) (fun _ h9 => h9) rfl dX12_variable_7 ?_
    refine lv_topi (fun y1 hy1 => ?_)
    obtain rfl : (nI vn) = y1 := (hy1.trans (hvn)).symm
    refine lv_icmp_ge (tgt := 17) hx hb dX12_variable_10 (by decide) (fun c_10 => ?_) (fun c_10 => ?_)
    · have t_10 : (kI).toInt ≥ ((vn : Nat) : Int) := toI_ge c_10 rfl (nI_toInt (by omega))
      refine lv_iconst (v := 1) hx hb dX12_variable_17 (by decide) ?_
      refine va_put (D := (dC, dI)) (ci := 12) (v := .int 1) (ty := .int) (C := RX12) (T := TX12) (N := 163) (fs := fM (vS a vi vj)) hx hb hts iwsRX12_variable_in12 tyX12 tyX12_ok nmX12 hown hK hP hD hS 0 rfl rfl 0 (by decide) (hts _ hm_r_X12_variable_0) (fun _ h9 => h9) rfl (by decide +kernel) rfl rfl (Nat.le_of_ble_eq_true rfl) dX12_variable_18 (fun H locs hP hD hS => ?_)
      have hP : va_P (dC, dI) vwCl (WR a k h0 (fT vi 0 1) vj vF vG) H := fz_w (WR_i 0 _ rfl) hP
      have hD : va_D A (WR a k h0 (fT vi 0 1) vj vF vG) := fz_wD (WR_i 0 _ rfl) hD
      refine lv_aload_n hx hb dX12_variable_21 rfl (lv_at hl 0 rfl) ?_
      refine va_get (D := (dC, dI)) (ci := 12) (v := .int 1) (C := RX12) (T := TX12) (N := 163) (fs := fM (vS a (fT vi 0 1) vj)) hx hb hts iwsRX12_variable_in12 hown hK hP 0 rfl rfl 0 (by decide) (hts _ hm_r_X12_variable_0) (fun _ h9 => h9) rfl dX12_variable_22 ?_
      refine lv_if_le (tgt := 30) hx hb dX12_variable_25 (by decide) (fun c9 => absurd c9 (by decide)) (fun _ => ?_)
      refine lv_iconst (v := 0) hx hb dX12_variable_28 (by decide) ?_
      refine W.widen (k := 0) (n := 0) (by decide +kernel) (by decide +kernel) ?_
      exact W.iret (v := 0) hx hb hr (fun t9_ ht hW => ⟨⟨0, 1, rfl, trivial, by rw [ht]; exact hP, hD⟩, hS.F ht⟩) hS.2.2 dX12_variable_29
    · have t_10 : ¬ (kI).toInt ≥ ((vn : Nat) : Int) := toI_nge c_10 rfl (nI_toInt (by omega))
      refine lv_iconst (v := 0) hx hb dX12_variable_13 (by decide) ?_
      refine lv_goto (tgt := 18) hx hb dX12_variable_14 (by decide) ?_
      refine va_put (D := (dC, dI)) (ci := 12) (v := .int 0) (ty := .int) (C := RX12) (T := TX12) (N := 163) (fs := fM (vS a vi vj)) hx hb hts iwsRX12_variable_in12 tyX12 tyX12_ok nmX12 hown hK hP hD hS 0 rfl rfl 0 (by decide) (hts _ hm_r_X12_variable_0) (fun _ h9 => h9) rfl (by decide +kernel) rfl rfl (Nat.le_of_ble_eq_true rfl) dX12_variable_18 (fun H locs hP hD hS => ?_)
      have hP : va_P (dC, dI) vwCl (WR a k h0 (fT vi 0 0) vj vF vG) H := fz_w (WR_i 0 _ rfl) hP
      have hD : va_D A (WR a k h0 (fT vi 0 0) vj vF vG) := fz_wD (WR_i 0 _ rfl) hD
      refine lv_aload_n hx hb dX12_variable_21 rfl (lv_at hl 0 rfl) ?_
      refine va_get (D := (dC, dI)) (ci := 12) (v := .int 0) (C := RX12) (T := TX12) (N := 163) (fs := fM (vS a (fT vi 0 0) vj)) hx hb hts iwsRX12_variable_in12 hown hK hP 0 rfl rfl 0 (by decide) (hts _ hm_r_X12_variable_0) (fun _ h9 => h9) rfl dX12_variable_22 ?_
      refine lv_if_le (tgt := 30) hx hb dX12_variable_25 (by decide) (fun _ => ?_) (fun c9 => absurd (by decide) c9)
      refine lv_iload_n hx hb dX12_variable_30 rfl (lv_at hl 2 rfl) ?_
      refine lv_if_ne (tgt := 43) hx hb dX12_variable_31 (by decide) (fun c_31 => ?_) (fun c_31 => ?_)
      · have t_31 : (wI).toInt ≠ 0 := toI_ne c_31 rfl (by decide)
        refine lv_iload_n hx hb dX12_variable_43 rfl (lv_at hl 2 rfl) ?_
        refine lv_iconst (v := 1) hx hb dX12_variable_44 (by decide) ?_
        refine lv_icmp_ne (tgt := 57) hx hb dX12_variable_45 (by decide) (fun c_45 => ?_) (fun c_45 => ?_)
        · have t_45 : (wI).toInt ≠ 1 := toI_ne c_45 rfl (by decide)
          refine lv_iload_n hx hb dX12_variable_57 rfl (lv_at hl 2 rfl) ?_
          refine lv_iconst (v := 2) hx hb dX12_variable_58 (by decide) ?_
          refine lv_icmp_ne (tgt := 71) hx hb dX12_variable_59 (by decide) (fun c_59 => ?_) (fun c_59 => ?_)
          · have t_59 : (wI).toInt ≠ 2 := toI_ne c_59 rfl (by decide)
            refine lv_iconst (v := (-1)) hx hb dX12_variable_71 (by decide) ?_
            refine W.widen (k := 0) (n := 0) (by decide +kernel) (by decide +kernel) ?_
            exact W.iret (v := (-1)) hx hb hr (fun t9_ ht hW => ⟨⟨(-1), 0, rfl, trivial, by rw [ht]; exact hP, hD⟩, hS.F ht⟩) hS.2.2 dX12_variable_72
          · have t_59 : (wI).toInt = 2 := toI_nne c_59 rfl (by decide)
            refine lv_aload_n hx hb dX12_variable_62 rfl (lv_at hl 0 rfl) ?_
            refine va_get (D := (dC, dI)) (ci := 12) (v := .ref (a 58)) (C := RX12) (T := TX12) (N := 163) (fs := fM (vS a (fT vi 0 0) vj)) hx hb hts iwsRX12_variable_in12 hown hK hP 0 rfl rfl 98 (by decide) (hts (.fieldLink RX12 197 "OptimaWorksModel" "whole" "[I") (by decide +kernel)) (fun _ h9 => h9) rfl dX12_variable_63 ?_
            refine lv_iload_n hx hb dX12_variable_66 rfl (lv_at hl 1 rfl) ?_
            refine va_iald (cA := k 58) (n := 9) (f := (vF 58)) hx hb hK hP 59 58 (WR_get 58 (by decide)) (TR_get 58 (by decide)) (vp_in_iff.mpr (by omega)) dX12_variable_67 ?_
            refine lv_goto (tgt := 72) hx hb dX12_variable_68 (by decide) ?_
            refine W.widen (k := 0) (n := 0) (by decide +kernel) (by decide +kernel) ?_
            exact W.iret (v := ((vF 58) (kI).toNatClampNeg)) hx hb hr (fun t9_ ht hW => ⟨⟨((vF 58) (kI).toNatClampNeg), 0, rfl, trivial, by rw [ht]; exact hP, hD⟩, hS.F ht⟩) hS.2.2 dX12_variable_72
        · have t_45 : (wI).toInt = 1 := toI_nne c_45 rfl (by decide)
          refine lv_aload_n hx hb dX12_variable_48 rfl (lv_at hl 0 rfl) ?_
          refine va_get (D := (dC, dI)) (ci := 12) (v := .ref (a 57)) (C := RX12) (T := TX12) (N := 163) (fs := fM (vS a (fT vi 0 0) vj)) hx hb hts iwsRX12_variable_in12 hown hK hP 0 rfl rfl 97 (by decide) (hts (.fieldLink RX12 194 "OptimaWorksModel" "high" "[I") (by decide +kernel)) (fun _ h9 => h9) rfl dX12_variable_49 ?_
          refine lv_iload_n hx hb dX12_variable_52 rfl (lv_at hl 1 rfl) ?_
          refine va_iald (cA := k 57) (n := 9) (f := (vF 57)) hx hb hK hP 58 57 (WR_get 57 (by decide)) (TR_get 57 (by decide)) (vp_in_iff.mpr (by omega)) dX12_variable_53 ?_
          refine lv_goto (tgt := 72) hx hb dX12_variable_54 (by decide) ?_
          refine W.widen (k := 0) (n := 0) (by decide +kernel) (by decide +kernel) ?_
          exact W.iret (v := ((vF 57) (kI).toNatClampNeg)) hx hb hr (fun t9_ ht hW => ⟨⟨((vF 57) (kI).toNatClampNeg), 0, rfl, trivial, by rw [ht]; exact hP, hD⟩, hS.F ht⟩) hS.2.2 dX12_variable_72
      · have t_31 : (wI).toInt = 0 := toI_nne c_31 rfl (by decide)
        refine lv_aload_n hx hb dX12_variable_34 rfl (lv_at hl 0 rfl) ?_
        refine va_get (D := (dC, dI)) (ci := 12) (v := .ref (a 56)) (C := RX12) (T := TX12) (N := 163) (fs := fM (vS a (fT vi 0 0) vj)) hx hb hts iwsRX12_variable_in12 hown hK hP 0 rfl rfl 96 (by decide) (hts (.fieldLink RX12 191 "OptimaWorksModel" "low" "[I") (by decide +kernel)) (fun _ h9 => h9) rfl dX12_variable_35 ?_
        refine lv_iload_n hx hb dX12_variable_38 rfl (lv_at hl 1 rfl) ?_
        refine va_iald (cA := k 56) (n := 9) (f := (vF 56)) hx hb hK hP 57 56 (WR_get 56 (by decide)) (TR_get 56 (by decide)) (vp_in_iff.mpr (by omega)) dX12_variable_39 ?_
        refine lv_goto (tgt := 72) hx hb dX12_variable_40 (by decide) ?_
        refine W.widen (k := 0) (n := 0) (by decide +kernel) (by decide +kernel) ?_
        exact W.iret (v := ((vF 56) (kI).toNatClampNeg)) hx hb hr (fun t9_ ht hW => ⟨⟨((vF 56) (kI).toNatClampNeg), 0, rfl, trivial, by rw [ht]; exact hP, hD⟩, hS.F ht⟩) hS.2.2 dX12_variable_72
theorem dX12_row_0 : decode cX12_row 0 = .ok (.iload_n 1, 1) := dk_27 (by decide +kernel)
theorem dX12_row_1 : decode cX12_row 1 = .ok (.ifCond .lt 49, 3) := dk_155 (by decide +kernel)
theorem dX12_row_4 : decode cX12_row 4 = .ok (.iload_n 1, 1) := dk_27 (by decide +kernel)
theorem dX12_row_5 : decode cX12_row 5 = .ok (.aload_n 0, 1) := dk_42 (by decide +kernel)
theorem dX12_row_6 : decode cX12_row 6 = .ok (.getfield 786, 3) := dk_180 (by decide +kernel)
theorem dX12_row_9 : decode cX12_row 9 = .ok (.if_icmp .ge 41, 3) := dk_162 (by decide +kernel)
theorem dX12_row_12 : decode cX12_row 12 = .ok (.iload_n 3, 1) := dk_29 (by decide +kernel)
theorem dX12_row_13 : decode cX12_row 13 = .ok (.bipush (-3), 2) := dk_16 (by decide +kernel)
theorem dX12_row_15 : decode cX12_row 15 = .ok (.if_icmp .eq 31, 3) := dk_159 (by decide +kernel)
theorem dX12_row_18 : decode cX12_row 18 = .ok (.iload_n 2, 1) := dk_28 (by decide +kernel)
theorem dX12_row_19 : decode cX12_row 19 = .ok (.ifCond .lt 31, 3) := dk_155 (by decide +kernel)
theorem dX12_row_22 : decode cX12_row 22 = .ok (.iload_n 2, 1) := dk_28 (by decide +kernel)
theorem dX12_row_23 : decode cX12_row 23 = .ok (.aload_n 0, 1) := dk_42 (by decide +kernel)
theorem dX12_row_24 : decode cX12_row 24 = .ok (.getfield 200, 3) := dk_180 (by decide +kernel)
theorem dX12_row_27 : decode cX12_row 27 = .ok (.iload_n 1, 1) := dk_27 (by decide +kernel)
theorem dX12_row_28 : decode cX12_row 28 = .ok (.iaload, 1) := dk_46 (by decide +kernel)
theorem dX12_row_29 : decode cX12_row 29 = .ok (.if_icmp .ge 21, 3) := dk_162 (by decide +kernel)
theorem dX12_row_32 : decode cX12_row 32 = .ok (.iload_n 3, 1) := dk_29 (by decide +kernel)
theorem dX12_row_33 : decode cX12_row 33 = .ok (.bipush (-2), 2) := dk_16 (by decide +kernel)
theorem dX12_row_35 : decode cX12_row 35 = .ok (.if_icmp .lt 15, 3) := dk_161 (by decide +kernel)
theorem dX12_row_38 : decode cX12_row 38 = .ok (.iload_n 3, 1) := dk_29 (by decide +kernel)
theorem dX12_row_39 : decode cX12_row 39 = .ok (.aload_n 0, 1) := dk_42 (by decide +kernel)
theorem dX12_row_40 : decode cX12_row 40 = .ok (.getfield 774, 3) := dk_180 (by decide +kernel)
theorem dX12_row_43 : decode cX12_row 43 = .ok (.if_icmp .ge 7, 3) := dk_162 (by decide +kernel)
theorem dX12_row_46 : decode cX12_row 46 = .ok (.iconst 1, 1) := dk_4 (by decide +kernel)
theorem dX12_row_47 : decode cX12_row 47 = .ok (.goto 4, 3) := dk_167 (by decide +kernel)
theorem dX12_row_50 : decode cX12_row 50 = .ok (.iconst 0, 1) := dk_3 (by decide +kernel)
theorem dX12_row_51 : decode cX12_row 51 = .ok (.istore 4, 2) := dk_54 (by decide +kernel)
theorem dX12_row_53 : decode cX12_row 53 = .ok (.aload_n 0, 1) := dk_42 (by decide +kernel)
theorem dX12_row_54 : decode cX12_row 54 = .ok (.iload 4, 2) := dk_21 (by decide +kernel)
theorem dX12_row_56 : decode cX12_row 56 = .ok (.ifCond .eq 7, 3) := dk_153 (by decide +kernel)
theorem dX12_row_59 : decode cX12_row 59 = .ok (.iconst 0, 1) := dk_3 (by decide +kernel)
theorem dX12_row_60 : decode cX12_row 60 = .ok (.goto 4, 3) := dk_167 (by decide +kernel)
theorem dX12_row_63 : decode cX12_row 63 = .ok (.iconst 1, 1) := dk_4 (by decide +kernel)
theorem dX12_row_64 : decode cX12_row 64 = .ok (.putfield 348, 3) := dk_181 (by decide +kernel)
theorem dX12_row_67 : decode cX12_row 67 = .ok (.aload_n 0, 1) := dk_42 (by decide +kernel)
theorem dX12_row_68 : decode cX12_row 68 = .ok (.getfield 348, 3) := dk_180 (by decide +kernel)
theorem dX12_row_71 : decode cX12_row 71 = .ok (.ifCond .le 5, 3) := dk_158 (by decide +kernel)
theorem dX12_row_74 : decode cX12_row 74 = .ok (.iconst 0, 1) := dk_3 (by decide +kernel)
theorem dX12_row_75 : decode cX12_row 75 = .ok (.ireturn, 1) := dk_172 (by decide +kernel)
theorem dX12_row_76 : decode cX12_row 76 = .ok (.iload_n 3, 1) := dk_29 (by decide +kernel)
theorem dX12_row_77 : decode cX12_row 77 = .ok (.bipush (-3), 2) := dk_16 (by decide +kernel)
theorem dX12_row_79 : decode cX12_row 79 = .ok (.if_icmp .ne 12, 3) := dk_160 (by decide +kernel)
theorem dX12_row_82 : decode cX12_row 82 = .ok (.aload_n 0, 1) := dk_42 (by decide +kernel)
theorem dX12_row_83 : decode cX12_row 83 = .ok (.getfield 200, 3) := dk_180 (by decide +kernel)
theorem dX12_row_86 : decode cX12_row 86 = .ok (.iload_n 1, 1) := dk_27 (by decide +kernel)
theorem dX12_row_87 : decode cX12_row 87 = .ok (.iaload, 1) := dk_46 (by decide +kernel)
theorem dX12_row_88 : decode cX12_row 88 = .ok (.goto 39, 3) := dk_167 (by decide +kernel)
theorem dX12_row_91 : decode cX12_row 91 = .ok (.iload_n 3, 1) := dk_29 (by decide +kernel)
theorem dX12_row_92 : decode cX12_row 92 = .ok (.bipush (-2), 2) := dk_16 (by decide +kernel)
theorem dX12_row_94 : decode cX12_row 94 = .ok (.if_icmp .ne 16, 3) := dk_160 (by decide +kernel)
theorem dX12_row_97 : decode cX12_row 97 = .ok (.aload_n 0, 1) := dk_42 (by decide +kernel)
theorem dX12_row_98 : decode cX12_row 98 = .ok (.getfield 206, 3) := dk_180 (by decide +kernel)
theorem dX12_row_101 : decode cX12_row 101 = .ok (.iconst 3, 1) := dk_6 (by decide +kernel)
theorem dX12_row_102 : decode cX12_row 102 = .ok (.iload_n 1, 1) := dk_27 (by decide +kernel)
theorem dX12_row_103 : decode cX12_row 103 = .ok (.imul, 1) := dk_104 (by decide +kernel)
theorem dX12_row_104 : decode cX12_row 104 = .ok (.iload_n 2, 1) := dk_28 (by decide +kernel)
theorem dX12_row_105 : decode cX12_row 105 = .ok (.iadd, 1) := dk_96 (by decide +kernel)
theorem dX12_row_106 : decode cX12_row 106 = .ok (.iaload, 1) := dk_46 (by decide +kernel)
theorem dX12_row_107 : decode cX12_row 107 = .ok (.goto 20, 3) := dk_167 (by decide +kernel)
theorem dX12_row_110 : decode cX12_row 110 = .ok (.aload_n 0, 1) := dk_42 (by decide +kernel)
theorem dX12_row_111 : decode cX12_row 111 = .ok (.getfield 203, 3) := dk_180 (by decide +kernel)
theorem dX12_row_114 : decode cX12_row 114 = .ok (.bipush 9, 2) := dk_16 (by decide +kernel)
theorem dX12_row_116 : decode cX12_row 116 = .ok (.iconst 3, 1) := dk_6 (by decide +kernel)
theorem dX12_row_117 : decode cX12_row 117 = .ok (.iload_n 1, 1) := dk_27 (by decide +kernel)
theorem dX12_row_118 : decode cX12_row 118 = .ok (.imul, 1) := dk_104 (by decide +kernel)
theorem dX12_row_119 : decode cX12_row 119 = .ok (.iload_n 2, 1) := dk_28 (by decide +kernel)
theorem dX12_row_120 : decode cX12_row 120 = .ok (.iadd, 1) := dk_96 (by decide +kernel)
theorem dX12_row_121 : decode cX12_row 121 = .ok (.imul, 1) := dk_104 (by decide +kernel)
theorem dX12_row_122 : decode cX12_row 122 = .ok (.iconst 1, 1) := dk_4 (by decide +kernel)
theorem dX12_row_123 : decode cX12_row 123 = .ok (.iadd, 1) := dk_96 (by decide +kernel)
theorem dX12_row_124 : decode cX12_row 124 = .ok (.iload_n 3, 1) := dk_29 (by decide +kernel)
theorem dX12_row_125 : decode cX12_row 125 = .ok (.iadd, 1) := dk_96 (by decide +kernel)
theorem dX12_row_126 : decode cX12_row 126 = .ok (.iaload, 1) := dk_46 (by decide +kernel)
theorem dX12_row_127 : decode cX12_row 127 = .ok (.ireturn, 1) := dk_172 (by decide +kernel)
def wsRX12_row : List Cond := .code yX12_row cX12_row 5 (some .int) :: ([.fieldLink RX12 348 "OptimaWorksModel" "thrown" "I", .fieldLink RX12 786 "OptimaWorksModel" "modelRows" "I", .fieldLink RX12 200 "OptimaWorksModel" "wayMany" "[I", .fieldLink RX12 774 "OptimaWorksModel" "variables" "I", .fieldLink RX12 203 "OptimaWorksModel" "wayNumber" "[I", .fieldLink RX12 206 "OptimaWorksModel" "waySign" "[I"] ++ wsX120)
theorem iwsRX12_row_in12 : ∀ w ∈ wsX120, w ∈ wsRX12_row := fun _ h => List.mem_cons_of_mem _ (List.mem_append_right _ h)
theorem gdwsRX12_row : wsRX12_row.all goodWord = true := gdC rfl (gdA (by decide +kernel : ([.fieldLink RX12 348 "OptimaWorksModel" "thrown" "I", .fieldLink RX12 786 "OptimaWorksModel" "modelRows" "I", .fieldLink RX12 200 "OptimaWorksModel" "wayMany" "[I", .fieldLink RX12 774 "OptimaWorksModel" "variables" "I", .fieldLink RX12 203 "OptimaWorksModel" "wayNumber" "[I", .fieldLink RX12 206 "OptimaWorksModel" "waySign" "[I"] : List Cond).all goodWord = true) gdwsX120)
theorem hm_r_X12_row_0 : (.fieldLink RX12 348 "OptimaWorksModel" "thrown" "I" : Cond) ∈ wsRX12_row := by decide +kernel
theorem hm_r_X12_row_1 : (.fieldLink RX12 200 "OptimaWorksModel" "wayMany" "[I" : Cond) ∈ wsRX12_row := by decide +kernel
set_option maxHeartbeats 4000000 in
set_option maxRecDepth 100000 in
/-- row(r, w, k) -/
theorem r_X12_row (l : Launch) (dC : Nat → ClassId) (dI : Nat → Nat → Nat) (a : Nat → Nat) (k : Nat → ClassId) (h0 : Nat) (vi : Nat → Int32) (vj : Nat → Int64) (vF : Nat → Nat → Int32) (vG : Nat → Nat → Int64) (rI : Int32) (wI : Int32) (kI : Int32) (vn : Nat) (hvn : vi 90 = nI vn) (hvn8 : vn ≤ 8) (mr : Nat) (hmr : vi 91 = nI mr) (hmr12 : mr ≤ 12) (hwm : WmO (vF 59) mr) (sz : Nat) : Met l yX12_row wsRX12_row ({ frames := 0, cells := 0, slots := 0, locals := 0 }) (va_Pc [.ref h0, .int rI, .int wI, .int kI] (fun U => U.heap.size = sz ∧ va_P (dC, dI) vwCl (WR a k h0 vi vj vF vG) U.heap ∧ va_K (dC, dI) vwCl (tX12 k) U ∧ va_D (fun _ => True) (WR a k h0 vi vj vF vG))) (va_Qi (fun (r : Int32) (u : Int32) => True) (fun (u : Int32) t => va_P (dC, dI) vwCl (WR a k h0 (fT vi 0 u) vj vF vG) t.heap ∧ va_D (va_A (WR a k h0 vi vj vF vG) sz) (WR a k h0 (fT vi 0 u) vj vF vG)) (va_A (WR a k h0 vi vj vF vG) sz)) 0 0 (va_A (WR a k h0 vi vj vF vG) sz) := by
  refine Met.ofW (cc := cX12_row) (maxL := 5) (ret := (some .int)) (by decide) rfl ?_
  intro p e s m args below meth c s₁ B hml hv
  obtain ⟨rfl, hsz, hP, hK, hD0⟩ := hv
  have hx := B.exec
  have hb := B.bytes
  have hr := B.returns
  have hts := atoms_spec (ws := wsRX12_row) B.pre
  have hown : s.vm.findClass RX12 = some m.cls := findClass_of_methodNamed B.named
  have hlocks := B.notSynchronized
  subst hsz
  have hD := hD0.self (sz := s.heap.size)
  generalize hAe : va_A (WR a k h0 vi vj vF vG) s.heap.size = A at hD ⊢
  have hA : ∀ q : Nat, s.heap.size ≤ q → A q := fun q h => by rw [← hAe]; exact Or.inr h
  have hS : va_S A s.heap s.heap [] := va_S.rf
  have hl := lv_entry ([.ref h0, .int rI, .int wI, .int kI]) (n := 5) (Nat.le_of_ble_eq_true rfl)
  rw [lg_entry_eq]
  generalize (lg_sl ([.ref h0, .int rI, .int wI, .int kI]) ++ List.replicate (5 - (lg_sl ([.ref h0, .int rI, .int wI, .int kI])).length) Slot.unset).toArray = ls at hl ⊢
  have hl : lv_has ls 5 [(0, .ref h0), (1, .int rI), (2, .int wI), (3, .int kI)] := hl
  refine lv_iload_n hx hb dX12_row_0 rfl (lv_at hl 1 rfl) ?_
  refine lv_if_lt (tgt := 50) hx hb dX12_row_1 (by decide) (fun c_1 => ?_) (fun c_1 => ?_)
  · have t_1 : (rI).toInt < 0 := toI_lt c_1 rfl (by decide)
    refine lv_iconst (v := 0) hx hb dX12_row_50 (by decide) ?_
    refine lv_istore hx hb dX12_row_51 hl (by decide) rfl (fun ls (hl : lv_has ls _ ([(4, .int 0), (0, .ref h0), (1, .int rI), (2, .int wI), (3, .int kI)])) => ?_)
    refine lv_aload_n hx hb dX12_row_53 rfl (lv_at hl 1 rfl) ?_
    refine lv_iload hx hb dX12_row_54 (lv_at hl 0 rfl) ?_
    refine lv_if_eq (tgt := 63) hx hb dX12_row_56 (by decide) (fun _ => ?_) (fun c9 => absurd (by decide) c9)
    refine lv_iconst (v := 1) hx hb dX12_row_63 (by decide) ?_
    refine va_put (D := (dC, dI)) (ci := 12) (v := .int 1) (ty := .int) (C := RX12) (T := TX12) (N := 163) (fs := fM (vS a vi vj)) hx hb hts iwsRX12_row_in12 tyX12 tyX12_ok nmX12 hown hK hP hD hS 0 rfl rfl 0 (by decide) (hts _ hm_r_X12_row_0) (fun _ h9 => h9) rfl (by decide +kernel) rfl rfl (Nat.le_of_ble_eq_true rfl) dX12_row_64 (fun H locs hP hD hS => ?_)
    have hP : va_P (dC, dI) vwCl (WR a k h0 (fT vi 0 1) vj vF vG) H := fz_w (WR_i 0 _ rfl) hP
    have hD : va_D A (WR a k h0 (fT vi 0 1) vj vF vG) := fz_wD (WR_i 0 _ rfl) hD
    refine lv_aload_n hx hb dX12_row_67 rfl (lv_at hl 1 rfl) ?_
    refine va_get (D := (dC, dI)) (ci := 12) (v := .int 1) (C := RX12) (T := TX12) (N := 163) (fs := fM (vS a (fT vi 0 1) vj)) hx hb hts iwsRX12_row_in12 hown hK hP 0 rfl rfl 0 (by decide) (hts _ hm_r_X12_row_0) (fun _ h9 => h9) rfl dX12_row_68 ?_
    refine lv_if_le (tgt := 76) hx hb dX12_row_71 (by decide) (fun c9 => absurd c9 (by decide)) (fun _ => ?_)
    refine lv_iconst (v := 0) hx hb dX12_row_74 (by decide) ?_
    refine W.widen (k := 0) (n := 0) (by decide +kernel) (by decide +kernel) ?_
    exact W.iret (v := 0) hx hb hr (fun t9_ ht hW => ⟨⟨0, 1, rfl, trivial, by rw [ht]; exact hP, hD⟩, hS.F ht⟩) hS.2.2 dX12_row_75
  · have t_1 : ¬ (rI).toInt < 0 := toI_nlt c_1 rfl (by decide)
    refine lv_iload_n hx hb dX12_row_4 rfl (lv_at hl 1 rfl) ?_
    refine lv_aload_n hx hb dX12_row_5 rfl (lv_at hl 0 rfl) ?_
    refine va_get (D := (dC, dI)) (ci := 12) (v := .int (vi 91)) (C := RX12) (T := TX12) (N := 163) (fs := fM (vS a vi vj)) hx hb hts iwsRX12_row_in12 hown hK hP 0 rfl rfl 91 (by decide) (hts (.fieldLink RX12 786 "OptimaWorksModel" "modelRows" "I") (by decide +kernel)) (fun _ h9 => h9) rfl dX12_row_6 ?_
    refine lv_topi (fun y1 hy1 => ?_)
    obtain rfl : (nI mr) = y1 := (hy1.trans (hmr)).symm
    refine lv_icmp_ge (tgt := 50) hx hb dX12_row_9 (by decide) (fun c_9 => ?_) (fun c_9 => ?_)
    · have t_9 : (rI).toInt ≥ ((mr : Nat) : Int) := toI_ge c_9 rfl (nI_toInt (by omega))
      refine lv_iconst (v := 0) hx hb dX12_row_50 (by decide) ?_
      refine lv_istore hx hb dX12_row_51 hl (by decide) rfl (fun ls (hl : lv_has ls _ ([(4, .int 0), (0, .ref h0), (1, .int rI), (2, .int wI), (3, .int kI)])) => ?_)
      refine lv_aload_n hx hb dX12_row_53 rfl (lv_at hl 1 rfl) ?_
      refine lv_iload hx hb dX12_row_54 (lv_at hl 0 rfl) ?_
      refine lv_if_eq (tgt := 63) hx hb dX12_row_56 (by decide) (fun _ => ?_) (fun c9 => absurd (by decide) c9)
      refine lv_iconst (v := 1) hx hb dX12_row_63 (by decide) ?_
      refine va_put (D := (dC, dI)) (ci := 12) (v := .int 1) (ty := .int) (C := RX12) (T := TX12) (N := 163) (fs := fM (vS a vi vj)) hx hb hts iwsRX12_row_in12 tyX12 tyX12_ok nmX12 hown hK hP hD hS 0 rfl rfl 0 (by decide) (hts _ hm_r_X12_row_0) (fun _ h9 => h9) rfl (by decide +kernel) rfl rfl (Nat.le_of_ble_eq_true rfl) dX12_row_64 (fun H locs hP hD hS => ?_)
      have hP : va_P (dC, dI) vwCl (WR a k h0 (fT vi 0 1) vj vF vG) H := fz_w (WR_i 0 _ rfl) hP
      have hD : va_D A (WR a k h0 (fT vi 0 1) vj vF vG) := fz_wD (WR_i 0 _ rfl) hD
      refine lv_aload_n hx hb dX12_row_67 rfl (lv_at hl 1 rfl) ?_
      refine va_get (D := (dC, dI)) (ci := 12) (v := .int 1) (C := RX12) (T := TX12) (N := 163) (fs := fM (vS a (fT vi 0 1) vj)) hx hb hts iwsRX12_row_in12 hown hK hP 0 rfl rfl 0 (by decide) (hts _ hm_r_X12_row_0) (fun _ h9 => h9) rfl dX12_row_68 ?_
      refine lv_if_le (tgt := 76) hx hb dX12_row_71 (by decide) (fun c9 => absurd c9 (by decide)) (fun _ => ?_)
      refine lv_iconst (v := 0) hx hb dX12_row_74 (by decide) ?_
      refine W.widen (k := 0) (n := 0) (by decide +kernel) (by decide +kernel) ?_
      exact W.iret (v := 0) hx hb hr (fun t9_ ht hW => ⟨⟨0, 1, rfl, trivial, by rw [ht]; exact hP, hD⟩, hS.F ht⟩) hS.2.2 dX12_row_75
    · have t_9 : ¬ (rI).toInt ≥ ((mr : Nat) : Int) := toI_nge c_9 rfl (nI_toInt (by omega))
      have emr : (nI mr).toInt = (mr : Int) := nI_toInt (by omega)
      obtain ⟨rn, h_rn, rfl⟩ := of_toInt (x := rI) (k := 12) (by omega) (by omega)
      have e_rn : (nI rn).toInt = (rn : Int) := nI_toInt (by omega)
      obtain ⟨wk, ewk, hwk1, hwk3⟩ := hwm rn (by omega)
      refine lv_iload_n hx hb dX12_row_12 rfl (lv_at hl 3 rfl) ?_
      refine lv_bipush (v := (-3)) hx hb dX12_row_13 (by decide) ?_
      refine lv_icmp_eq (tgt := 46) hx hb dX12_row_15 (by decide) (fun c_15 => ?_) (fun c_15 => ?_)
      · have t_15 : (kI).toInt = -3 := toI_eq c_15 rfl (by decide)
        refine lv_iconst (v := 1) hx hb dX12_row_46 (by decide) ?_
        refine lv_goto (tgt := 51) hx hb dX12_row_47 (by decide) ?_
        refine lv_istore hx hb dX12_row_51 hl (by decide) rfl (fun ls (hl : lv_has ls _ ([(4, .int 1), (0, .ref h0), (1, .int (nI rn)), (2, .int wI), (3, .int kI)])) => ?_)
        refine lv_aload_n hx hb dX12_row_53 rfl (lv_at hl 1 rfl) ?_
        refine lv_iload hx hb dX12_row_54 (lv_at hl 0 rfl) ?_
        refine lv_if_eq (tgt := 63) hx hb dX12_row_56 (by decide) (fun c9 => absurd c9 (by decide)) (fun _ => ?_)
        refine lv_iconst (v := 0) hx hb dX12_row_59 (by decide) ?_
        refine lv_goto (tgt := 64) hx hb dX12_row_60 (by decide) ?_
        refine va_put (D := (dC, dI)) (ci := 12) (v := .int 0) (ty := .int) (C := RX12) (T := TX12) (N := 163) (fs := fM (vS a vi vj)) hx hb hts iwsRX12_row_in12 tyX12 tyX12_ok nmX12 hown hK hP hD hS 0 rfl rfl 0 (by decide) (hts _ hm_r_X12_row_0) (fun _ h9 => h9) rfl (by decide +kernel) rfl rfl (Nat.le_of_ble_eq_true rfl) dX12_row_64 (fun H locs hP hD hS => ?_)
        have hP : va_P (dC, dI) vwCl (WR a k h0 (fT vi 0 0) vj vF vG) H := fz_w (WR_i 0 _ rfl) hP
        have hD : va_D A (WR a k h0 (fT vi 0 0) vj vF vG) := fz_wD (WR_i 0 _ rfl) hD
        refine lv_aload_n hx hb dX12_row_67 rfl (lv_at hl 1 rfl) ?_
        refine va_get (D := (dC, dI)) (ci := 12) (v := .int 0) (C := RX12) (T := TX12) (N := 163) (fs := fM (vS a (fT vi 0 0) vj)) hx hb hts iwsRX12_row_in12 hown hK hP 0 rfl rfl 0 (by decide) (hts _ hm_r_X12_row_0) (fun _ h9 => h9) rfl dX12_row_68 ?_
        refine lv_if_le (tgt := 76) hx hb dX12_row_71 (by decide) (fun _ => ?_) (fun c9 => absurd (by decide) c9)
        refine lv_iload_n hx hb dX12_row_76 rfl (lv_at hl 4 rfl) ?_
        refine lv_bipush (v := (-3)) hx hb dX12_row_77 (by decide) ?_
        refine lv_icmp_ne (tgt := 91) hx hb dX12_row_79 (by decide) (fun c9 => False.elim (c9 c_15)) (fun c_79 => ?_)
        have t_79 : (kI).toInt = -3 := toI_nne c_79 rfl (by decide)
        refine lv_aload_n hx hb dX12_row_82 rfl (lv_at hl 1 rfl) ?_
        refine va_get (D := (dC, dI)) (ci := 12) (v := .ref (a 59)) (C := RX12) (T := TX12) (N := 163) (fs := fM (vS a (fT vi 0 0) vj)) hx hb hts iwsRX12_row_in12 hown hK hP 0 rfl rfl 99 (by decide) (hts _ hm_r_X12_row_1) (fun _ h9 => h9) rfl dX12_row_83 ?_
        refine lv_iload_n hx hb dX12_row_86 rfl (lv_at hl 2 rfl) ?_
        refine va_iald (cA := k 59) (n := 13) (f := (vF 59)) hx hb hK hP 60 59 (WR_get 59 (by decide)) (TR_get 59 (by decide)) (vp_in_nI (show rn < 13 by omega) (by omega)) dX12_row_87 ?_
        refine lv_topi (fun y2 hy2 => ?_)
        obtain rfl : ((vF 59) rn) = y2 := (hy2.trans (by rw [nI_clamp (by omega)])).symm
        refine lv_goto (tgt := 127) hx hb dX12_row_88 (by decide) ?_
        refine W.widen (k := 0) (n := 0) (by decide +kernel) (by decide +kernel) ?_
        exact W.iret (v := ((vF 59) rn)) hx hb hr (fun t9_ ht hW => ⟨⟨((vF 59) rn), 0, rfl, trivial, by rw [ht]; exact hP, hD⟩, hS.F ht⟩) hS.2.2 dX12_row_127
      · have t_15 : ¬ (kI).toInt = -3 := toI_neq c_15 rfl (by decide)
        refine lv_iload_n hx hb dX12_row_18 rfl (lv_at hl 2 rfl) ?_
        refine lv_if_lt (tgt := 50) hx hb dX12_row_19 (by decide) (fun c_19 => ?_) (fun c_19 => ?_)
        · have t_19 : (wI).toInt < 0 := toI_lt c_19 rfl (by decide)
          refine lv_iconst (v := 0) hx hb dX12_row_50 (by decide) ?_
          refine lv_istore hx hb dX12_row_51 hl (by decide) rfl (fun ls (hl : lv_has ls _ ([(4, .int 0), (0, .ref h0), (1, .int (nI rn)), (2, .int wI), (3, .int kI)])) => ?_)
          refine lv_aload_n hx hb dX12_row_53 rfl (lv_at hl 1 rfl) ?_
          refine lv_iload hx hb dX12_row_54 (lv_at hl 0 rfl) ?_
          refine lv_if_eq (tgt := 63) hx hb dX12_row_56 (by decide) (fun _ => ?_) (fun c9 => absurd (by decide) c9)
          refine lv_iconst (v := 1) hx hb dX12_row_63 (by decide) ?_
          refine va_put (D := (dC, dI)) (ci := 12) (v := .int 1) (ty := .int) (C := RX12) (T := TX12) (N := 163) (fs := fM (vS a vi vj)) hx hb hts iwsRX12_row_in12 tyX12 tyX12_ok nmX12 hown hK hP hD hS 0 rfl rfl 0 (by decide) (hts _ hm_r_X12_row_0) (fun _ h9 => h9) rfl (by decide +kernel) rfl rfl (Nat.le_of_ble_eq_true rfl) dX12_row_64 (fun H locs hP hD hS => ?_)
          have hP : va_P (dC, dI) vwCl (WR a k h0 (fT vi 0 1) vj vF vG) H := fz_w (WR_i 0 _ rfl) hP
          have hD : va_D A (WR a k h0 (fT vi 0 1) vj vF vG) := fz_wD (WR_i 0 _ rfl) hD
          refine lv_aload_n hx hb dX12_row_67 rfl (lv_at hl 1 rfl) ?_
          refine va_get (D := (dC, dI)) (ci := 12) (v := .int 1) (C := RX12) (T := TX12) (N := 163) (fs := fM (vS a (fT vi 0 1) vj)) hx hb hts iwsRX12_row_in12 hown hK hP 0 rfl rfl 0 (by decide) (hts _ hm_r_X12_row_0) (fun _ h9 => h9) rfl dX12_row_68 ?_
          refine lv_if_le (tgt := 76) hx hb dX12_row_71 (by decide) (fun c9 => absurd c9 (by decide)) (fun _ => ?_)
          refine lv_iconst (v := 0) hx hb dX12_row_74 (by decide) ?_
          refine W.widen (k := 0) (n := 0) (by decide +kernel) (by decide +kernel) ?_
          exact W.iret (v := 0) hx hb hr (fun t9_ ht hW => ⟨⟨0, 1, rfl, trivial, by rw [ht]; exact hP, hD⟩, hS.F ht⟩) hS.2.2 dX12_row_75
        · have t_19 : ¬ (wI).toInt < 0 := toI_nlt c_19 rfl (by decide)
          refine lv_iload_n hx hb dX12_row_22 rfl (lv_at hl 2 rfl) ?_
          refine lv_aload_n hx hb dX12_row_23 rfl (lv_at hl 0 rfl) ?_
          refine va_get (D := (dC, dI)) (ci := 12) (v := .ref (a 59)) (C := RX12) (T := TX12) (N := 163) (fs := fM (vS a vi vj)) hx hb hts iwsRX12_row_in12 hown hK hP 0 rfl rfl 99 (by decide) (hts _ hm_r_X12_row_1) (fun _ h9 => h9) rfl dX12_row_24 ?_
          refine lv_iload_n hx hb dX12_row_27 rfl (lv_at hl 1 rfl) ?_
          refine va_iald (cA := k 59) (n := 13) (f := (vF 59)) hx hb hK hP 60 59 (WR_get 59 (by decide)) (TR_get 59 (by decide)) (vp_in_nI (show rn < 13 by omega) (by omega)) dX12_row_28 ?_
          refine lv_topi (fun y3 hy3 => ?_)
          obtain rfl : ((vF 59) rn) = y3 := (hy3.trans (by rw [nI_clamp (by omega)])).symm
          refine lv_topi (fun y4 hy4 => ?_)
          obtain rfl : (nI wk) = y4 := (hy4.trans (ewk)).symm
          refine lv_icmp_ge (tgt := 50) hx hb dX12_row_29 (by decide) (fun c_29 => ?_) (fun c_29 => ?_)
          · have t_29 : (wI).toInt ≥ ((wk : Nat) : Int) := toI_ge c_29 rfl (nI_toInt (by omega))
            refine lv_iconst (v := 0) hx hb dX12_row_50 (by decide) ?_
            refine lv_istore hx hb dX12_row_51 hl (by decide) rfl (fun ls (hl : lv_has ls _ ([(4, .int 0), (0, .ref h0), (1, .int (nI rn)), (2, .int wI), (3, .int kI)])) => ?_)
            refine lv_aload_n hx hb dX12_row_53 rfl (lv_at hl 1 rfl) ?_
            refine lv_iload hx hb dX12_row_54 (lv_at hl 0 rfl) ?_
            refine lv_if_eq (tgt := 63) hx hb dX12_row_56 (by decide) (fun _ => ?_) (fun c9 => absurd (by decide) c9)
            refine lv_iconst (v := 1) hx hb dX12_row_63 (by decide) ?_
            refine va_put (D := (dC, dI)) (ci := 12) (v := .int 1) (ty := .int) (C := RX12) (T := TX12) (N := 163) (fs := fM (vS a vi vj)) hx hb hts iwsRX12_row_in12 tyX12 tyX12_ok nmX12 hown hK hP hD hS 0 rfl rfl 0 (by decide) (hts _ hm_r_X12_row_0) (fun _ h9 => h9) rfl (by decide +kernel) rfl rfl (Nat.le_of_ble_eq_true rfl) dX12_row_64 (fun H locs hP hD hS => ?_)
            have hP : va_P (dC, dI) vwCl (WR a k h0 (fT vi 0 1) vj vF vG) H := fz_w (WR_i 0 _ rfl) hP
            have hD : va_D A (WR a k h0 (fT vi 0 1) vj vF vG) := fz_wD (WR_i 0 _ rfl) hD
            refine lv_aload_n hx hb dX12_row_67 rfl (lv_at hl 1 rfl) ?_
            refine va_get (D := (dC, dI)) (ci := 12) (v := .int 1) (C := RX12) (T := TX12) (N := 163) (fs := fM (vS a (fT vi 0 1) vj)) hx hb hts iwsRX12_row_in12 hown hK hP 0 rfl rfl 0 (by decide) (hts _ hm_r_X12_row_0) (fun _ h9 => h9) rfl dX12_row_68 ?_
            refine lv_if_le (tgt := 76) hx hb dX12_row_71 (by decide) (fun c9 => absurd c9 (by decide)) (fun _ => ?_)
            refine lv_iconst (v := 0) hx hb dX12_row_74 (by decide) ?_
            refine W.widen (k := 0) (n := 0) (by decide +kernel) (by decide +kernel) ?_
            exact W.iret (v := 0) hx hb hr (fun t9_ ht hW => ⟨⟨0, 1, rfl, trivial, by rw [ht]; exact hP, hD⟩, hS.F ht⟩) hS.2.2 dX12_row_75
          · have t_29 : ¬ (wI).toInt ≥ ((wk : Nat) : Int) := toI_nge c_29 rfl (nI_toInt (by omega))
            have ewk2 : (nI wk).toInt = (wk : Int) := nI_toInt (by omega)
            obtain ⟨wn, h_wn, rfl⟩ := of_toInt (x := wI) (k := 3) (by omega) (by omega)
            have e_wn : (nI wn).toInt = (wn : Int) := nI_toInt (by omega)
            refine lv_iload_n hx hb dX12_row_32 rfl (lv_at hl 3 rfl) ?_
            refine lv_bipush (v := (-2)) hx hb dX12_row_33 (by decide) ?_
            refine lv_icmp_lt (tgt := 50) hx hb dX12_row_35 (by decide) (fun c_35 => ?_) (fun c_35 => ?_)
            · have t_35 : (kI).toInt < -2 := toI_lt c_35 rfl (by decide)
              refine lv_iconst (v := 0) hx hb dX12_row_50 (by decide) ?_
              refine lv_istore hx hb dX12_row_51 hl (by decide) rfl (fun ls (hl : lv_has ls _ ([(4, .int 0), (0, .ref h0), (1, .int (nI rn)), (2, .int (nI wn)), (3, .int kI)])) => ?_)
              refine lv_aload_n hx hb dX12_row_53 rfl (lv_at hl 1 rfl) ?_
              refine lv_iload hx hb dX12_row_54 (lv_at hl 0 rfl) ?_
              refine lv_if_eq (tgt := 63) hx hb dX12_row_56 (by decide) (fun _ => ?_) (fun c9 => absurd (by decide) c9)
              refine lv_iconst (v := 1) hx hb dX12_row_63 (by decide) ?_
              refine va_put (D := (dC, dI)) (ci := 12) (v := .int 1) (ty := .int) (C := RX12) (T := TX12) (N := 163) (fs := fM (vS a vi vj)) hx hb hts iwsRX12_row_in12 tyX12 tyX12_ok nmX12 hown hK hP hD hS 0 rfl rfl 0 (by decide) (hts _ hm_r_X12_row_0) (fun _ h9 => h9) rfl (by decide +kernel) rfl rfl (Nat.le_of_ble_eq_true rfl) dX12_row_64 (fun H locs hP hD hS => ?_)
              have hP : va_P (dC, dI) vwCl (WR a k h0 (fT vi 0 1) vj vF vG) H := fz_w (WR_i 0 _ rfl) hP
              have hD : va_D A (WR a k h0 (fT vi 0 1) vj vF vG) := fz_wD (WR_i 0 _ rfl) hD
              refine lv_aload_n hx hb dX12_row_67 rfl (lv_at hl 1 rfl) ?_
              refine va_get (D := (dC, dI)) (ci := 12) (v := .int 1) (C := RX12) (T := TX12) (N := 163) (fs := fM (vS a (fT vi 0 1) vj)) hx hb hts iwsRX12_row_in12 hown hK hP 0 rfl rfl 0 (by decide) (hts _ hm_r_X12_row_0) (fun _ h9 => h9) rfl dX12_row_68 ?_
              refine lv_if_le (tgt := 76) hx hb dX12_row_71 (by decide) (fun c9 => absurd c9 (by decide)) (fun _ => ?_)
              refine lv_iconst (v := 0) hx hb dX12_row_74 (by decide) ?_
              refine W.widen (k := 0) (n := 0) (by decide +kernel) (by decide +kernel) ?_
              exact W.iret (v := 0) hx hb hr (fun t9_ ht hW => ⟨⟨0, 1, rfl, trivial, by rw [ht]; exact hP, hD⟩, hS.F ht⟩) hS.2.2 dX12_row_75
            · have t_35 : ¬ (kI).toInt < -2 := toI_nlt c_35 rfl (by decide)
              refine lv_iload_n hx hb dX12_row_38 rfl (lv_at hl 3 rfl) ?_
              refine lv_aload_n hx hb dX12_row_39 rfl (lv_at hl 0 rfl) ?_
              refine va_get (D := (dC, dI)) (ci := 12) (v := .int (vi 90)) (C := RX12) (T := TX12) (N := 163) (fs := fM (vS a vi vj)) hx hb hts iwsRX12_row_in12 hown hK hP 0 rfl rfl 90 (by decide) (hts (.fieldLink RX12 774 "OptimaWorksModel" "variables" "I") (by decide +kernel)) (fun _ h9 => h9) rfl dX12_row_40 ?_
              refine lv_topi (fun y5 hy5 => ?_)
              obtain rfl : (nI vn) = y5 := (hy5.trans (hvn)).symm
              refine lv_icmp_ge (tgt := 50) hx hb dX12_row_43 (by decide) (fun c_43 => ?_) (fun c_43 => ?_)
              · have t_43 : (kI).toInt ≥ ((vn : Nat) : Int) := toI_ge c_43 rfl (nI_toInt (by omega))
                refine lv_iconst (v := 0) hx hb dX12_row_50 (by decide) ?_
                refine lv_istore hx hb dX12_row_51 hl (by decide) rfl (fun ls (hl : lv_has ls _ ([(4, .int 0), (0, .ref h0), (1, .int (nI rn)), (2, .int (nI wn)), (3, .int kI)])) => ?_)
                refine lv_aload_n hx hb dX12_row_53 rfl (lv_at hl 1 rfl) ?_
                refine lv_iload hx hb dX12_row_54 (lv_at hl 0 rfl) ?_
                refine lv_if_eq (tgt := 63) hx hb dX12_row_56 (by decide) (fun _ => ?_) (fun c9 => absurd (by decide) c9)
                refine lv_iconst (v := 1) hx hb dX12_row_63 (by decide) ?_
                refine va_put (D := (dC, dI)) (ci := 12) (v := .int 1) (ty := .int) (C := RX12) (T := TX12) (N := 163) (fs := fM (vS a vi vj)) hx hb hts iwsRX12_row_in12 tyX12 tyX12_ok nmX12 hown hK hP hD hS 0 rfl rfl 0 (by decide) (hts _ hm_r_X12_row_0) (fun _ h9 => h9) rfl (by decide +kernel) rfl rfl (Nat.le_of_ble_eq_true rfl) dX12_row_64 (fun H locs hP hD hS => ?_)
                have hP : va_P (dC, dI) vwCl (WR a k h0 (fT vi 0 1) vj vF vG) H := fz_w (WR_i 0 _ rfl) hP
                have hD : va_D A (WR a k h0 (fT vi 0 1) vj vF vG) := fz_wD (WR_i 0 _ rfl) hD
                refine lv_aload_n hx hb dX12_row_67 rfl (lv_at hl 1 rfl) ?_
                refine va_get (D := (dC, dI)) (ci := 12) (v := .int 1) (C := RX12) (T := TX12) (N := 163) (fs := fM (vS a (fT vi 0 1) vj)) hx hb hts iwsRX12_row_in12 hown hK hP 0 rfl rfl 0 (by decide) (hts _ hm_r_X12_row_0) (fun _ h9 => h9) rfl dX12_row_68 ?_
                refine lv_if_le (tgt := 76) hx hb dX12_row_71 (by decide) (fun c9 => absurd c9 (by decide)) (fun _ => ?_)
                refine lv_iconst (v := 0) hx hb dX12_row_74 (by decide) ?_
                refine W.widen (k := 0) (n := 0) (by decide +kernel) (by decide +kernel) ?_
                exact W.iret (v := 0) hx hb hr (fun t9_ ht hW => ⟨⟨0, 1, rfl, trivial, by rw [ht]; exact hP, hD⟩, hS.F ht⟩) hS.2.2 dX12_row_75
              · have t_43 : ¬ (kI).toInt ≥ ((vn : Nat) : Int) := toI_nge c_43 rfl (nI_toInt (by omega))
                refine lv_iconst (v := 1) hx hb dX12_row_46 (by decide) ?_
                refine lv_goto (tgt := 51) hx hb dX12_row_47 (by decide) ?_
                refine lv_istore hx hb dX12_row_51 hl (by decide) rfl (fun ls (hl : lv_has ls _ ([(4, .int 1), (0, .ref h0), (1, .int (nI rn)), (2, .int (nI wn)), (3, .int kI)])) => ?_)
                refine lv_aload_n hx hb dX12_row_53 rfl (lv_at hl 1 rfl) ?_
                refine lv_iload hx hb dX12_row_54 (lv_at hl 0 rfl) ?_
                refine lv_if_eq (tgt := 63) hx hb dX12_row_56 (by decide) (fun c9 => absurd c9 (by decide)) (fun _ => ?_)
                refine lv_iconst (v := 0) hx hb dX12_row_59 (by decide) ?_
                refine lv_goto (tgt := 64) hx hb dX12_row_60 (by decide) ?_
                refine va_put (D := (dC, dI)) (ci := 12) (v := .int 0) (ty := .int) (C := RX12) (T := TX12) (N := 163) (fs := fM (vS a vi vj)) hx hb hts iwsRX12_row_in12 tyX12 tyX12_ok nmX12 hown hK hP hD hS 0 rfl rfl 0 (by decide) (hts _ hm_r_X12_row_0) (fun _ h9 => h9) rfl (by decide +kernel) rfl rfl (Nat.le_of_ble_eq_true rfl) dX12_row_64 (fun H locs hP hD hS => ?_)
                have hP : va_P (dC, dI) vwCl (WR a k h0 (fT vi 0 0) vj vF vG) H := fz_w (WR_i 0 _ rfl) hP
                have hD : va_D A (WR a k h0 (fT vi 0 0) vj vF vG) := fz_wD (WR_i 0 _ rfl) hD
                refine lv_aload_n hx hb dX12_row_67 rfl (lv_at hl 1 rfl) ?_
                refine va_get (D := (dC, dI)) (ci := 12) (v := .int 0) (C := RX12) (T := TX12) (N := 163) (fs := fM (vS a (fT vi 0 0) vj)) hx hb hts iwsRX12_row_in12 hown hK hP 0 rfl rfl 0 (by decide) (hts _ hm_r_X12_row_0) (fun _ h9 => h9) rfl dX12_row_68 ?_
                refine lv_if_le (tgt := 76) hx hb dX12_row_71 (by decide) (fun _ => ?_) (fun c9 => absurd (by decide) c9)
                refine lv_iload_n hx hb dX12_row_76 rfl (lv_at hl 4 rfl) ?_
                refine lv_bipush (v := (-3)) hx hb dX12_row_77 (by decide) ?_
                refine lv_icmp_ne (tgt := 91) hx hb dX12_row_79 (by decide) (fun c_79 => ?_) (fun c9 => False.elim (c_15 c9))
                have t_79 : (kI).toInt ≠ -3 := toI_ne c_79 rfl (by decide)
                refine lv_iload_n hx hb dX12_row_91 rfl (lv_at hl 4 rfl) ?_
                refine lv_bipush (v := (-2)) hx hb dX12_row_92 (by decide) ?_
                refine lv_icmp_ne (tgt := 110) hx hb dX12_row_94 (by decide) (fun c_94 => ?_) (fun c_94 => ?_)
                · have t_94 : (kI).toInt ≠ -2 := toI_ne c_94 rfl (by decide)
                  refine lv_aload_n hx hb dX12_row_110 rfl (lv_at hl 1 rfl) ?_
                  refine va_get (D := (dC, dI)) (ci := 12) (v := .ref (a 60)) (C := RX12) (T := TX12) (N := 163) (fs := fM (vS a (fT vi 0 0) vj)) hx hb hts iwsRX12_row_in12 hown hK hP 0 rfl rfl 100 (by decide) (hts (.fieldLink RX12 203 "OptimaWorksModel" "wayNumber" "[I") (by decide +kernel)) (fun _ h9 => h9) rfl dX12_row_111 ?_
                  refine lv_bipush (v := 9) hx hb dX12_row_114 (by decide) ?_
                  refine lv_iconst (v := 3) hx hb dX12_row_116 (by decide) ?_
                  refine lv_iload_n hx hb dX12_row_117 rfl (lv_at hl 2 rfl) ?_
                  refine lv_imul hx hb dX12_row_118 ?_
                  refine lv_topi (fun y6 hy6 => ?_)
                  obtain rfl : (nI (3 * rn)) = y6 := (hy6.trans (pk_mul 3 rn)).symm
                  refine lv_iload_n hx hb dX12_row_119 rfl (lv_at hl 3 rfl) ?_
                  refine lv_iadd hx hb dX12_row_120 ?_
                  refine lv_topi (fun y7 hy7 => ?_)
                  obtain rfl : (nI ((3 * rn) + wn)) = y7 := (hy7.trans (nI_add (3 * rn) wn)).symm
                  refine lv_imul hx hb dX12_row_121 ?_
                  refine lv_topi (fun y8 hy8 => ?_)
                  obtain rfl : (nI (9 * ((3 * rn) + wn))) = y8 := (hy8.trans (pk_mul 9 ((3 * rn) + wn))).symm
                  refine lv_iconst (v := 1) hx hb dX12_row_122 (by decide) ?_
                  refine lv_iadd hx hb dX12_row_123 ?_
                  refine lv_topi (fun y9 hy9 => ?_)
                  obtain rfl : (nI ((9 * ((3 * rn) + wn)) + 1)) = y9 := (hy9.trans (nI_add (9 * ((3 * rn) + wn)) 1)).symm
                  refine lv_iload_n hx hb dX12_row_124 rfl (lv_at hl 4 rfl) ?_
                  refine lv_iadd hx hb dX12_row_125 ?_
                  have eix : (nI (9 * (3 * rn + wn) + 1) + kI).toInt = ((9 * (3 * rn + wn) + 1 : Nat) : Int) + (kI).toInt := by rw [addB (by rw [nI_toInt (by omega)]; omega) (by omega), nI_toInt (by omega)]
                  refine va_iald (cA := k 60) (n := 351) (f := (vF 60)) hx hb hK hP 61 60 (WR_get 60 (by decide)) (TR_get 60 (by decide)) (vp_in_iff.mpr (by omega)) dX12_row_126 ?_
                  refine W.widen (k := 0) (n := 0) (by decide +kernel) (by decide +kernel) ?_
                  exact W.iret (v := ((vF 60) (((nI ((9 * ((3 * rn) + wn)) + 1)) + kI)).toNatClampNeg)) hx hb hr (fun t9_ ht hW => ⟨⟨((vF 60) (((nI ((9 * ((3 * rn) + wn)) + 1)) + kI)).toNatClampNeg), 0, rfl, trivial, by rw [ht]; exact hP, hD⟩, hS.F ht⟩) hS.2.2 dX12_row_127
                · have t_94 : (kI).toInt = -2 := toI_nne c_94 rfl (by decide)
                  refine lv_aload_n hx hb dX12_row_97 rfl (lv_at hl 1 rfl) ?_
                  refine va_get (D := (dC, dI)) (ci := 12) (v := .ref (a 61)) (C := RX12) (T := TX12) (N := 163) (fs := fM (vS a (fT vi 0 0) vj)) hx hb hts iwsRX12_row_in12 hown hK hP 0 rfl rfl 101 (by decide) (hts (.fieldLink RX12 206 "OptimaWorksModel" "waySign" "[I") (by decide +kernel)) (fun _ h9 => h9) rfl dX12_row_98 ?_
                  refine lv_iconst (v := 3) hx hb dX12_row_101 (by decide) ?_
                  refine lv_iload_n hx hb dX12_row_102 rfl (lv_at hl 2 rfl) ?_
                  refine lv_imul hx hb dX12_row_103 ?_
                  refine lv_topi (fun y10 hy10 => ?_)
                  obtain rfl : (nI (3 * rn)) = y10 := (hy10.trans (pk_mul 3 rn)).symm
                  refine lv_iload_n hx hb dX12_row_104 rfl (lv_at hl 3 rfl) ?_
                  refine lv_iadd hx hb dX12_row_105 ?_
                  refine lv_topi (fun y11 hy11 => ?_)
                  obtain rfl : (nI ((3 * rn) + wn)) = y11 := (hy11.trans (nI_add (3 * rn) wn)).symm
                  refine va_iald (cA := k 61) (n := 39) (f := (vF 61)) hx hb hK hP 62 61 (WR_get 61 (by decide)) (TR_get 61 (by decide)) (vp_in_nI (show ((3 * rn) + wn) < 39 by omega) (by omega)) dX12_row_106 ?_
                  refine lv_topi (fun y12 hy12 => ?_)
                  obtain rfl : ((vF 61) ((3 * rn) + wn)) = y12 := (hy12.trans (by rw [nI_clamp (by omega)])).symm
                  refine lv_goto (tgt := 127) hx hb dX12_row_107 (by decide) ?_
                  refine W.widen (k := 0) (n := 0) (by decide +kernel) (by decide +kernel) ?_
                  exact W.iret (v := ((vF 61) ((3 * rn) + wn))) hx hb hr (fun t9_ ht hW => ⟨⟨((vF 61) ((3 * rn) + wn)), 0, rfl, trivial, by rw [ht]; exact hP, hD⟩, hS.F ht⟩) hS.2.2 dX12_row_127
theorem dX12_goal_0 : decode cX12_goal 0 = .ok (.aload_n 0, 1) := dk_42 (by decide +kernel)
theorem dX12_goal_1 : decode cX12_goal 1 = .ok (.iload_n 1, 1) := dk_27 (by decide +kernel)
theorem dX12_goal_2 : decode cX12_goal 2 = .ok (.ifCond .lt 29, 3) := dk_155 (by decide +kernel)
theorem dX12_goal_5 : decode cX12_goal 5 = .ok (.iload_n 1, 1) := dk_27 (by decide +kernel)
theorem dX12_goal_6 : decode cX12_goal 6 = .ok (.aload_n 0, 1) := dk_42 (by decide +kernel)
theorem dX12_goal_7 : decode cX12_goal 7 = .ok (.getfield 805, 3) := dk_180 (by decide +kernel)
theorem dX12_goal_10 : decode cX12_goal 10 = .ok (.if_icmp .ge 21, 3) := dk_162 (by decide +kernel)
theorem dX12_goal_13 : decode cX12_goal 13 = .ok (.iload_n 2, 1) := dk_28 (by decide +kernel)
theorem dX12_goal_14 : decode cX12_goal 14 = .ok (.bipush (-2), 2) := dk_16 (by decide +kernel)
theorem dX12_goal_16 : decode cX12_goal 16 = .ok (.if_icmp .lt 15, 3) := dk_161 (by decide +kernel)
theorem dX12_goal_19 : decode cX12_goal 19 = .ok (.iload_n 2, 1) := dk_28 (by decide +kernel)
theorem dX12_goal_20 : decode cX12_goal 20 = .ok (.aload_n 0, 1) := dk_42 (by decide +kernel)
theorem dX12_goal_21 : decode cX12_goal 21 = .ok (.getfield 774, 3) := dk_180 (by decide +kernel)
theorem dX12_goal_24 : decode cX12_goal 24 = .ok (.if_icmp .ge 7, 3) := dk_162 (by decide +kernel)
theorem dX12_goal_27 : decode cX12_goal 27 = .ok (.iconst 0, 1) := dk_3 (by decide +kernel)
theorem dX12_goal_28 : decode cX12_goal 28 = .ok (.goto 4, 3) := dk_167 (by decide +kernel)
theorem dX12_goal_31 : decode cX12_goal 31 = .ok (.iconst 1, 1) := dk_4 (by decide +kernel)
theorem dX12_goal_32 : decode cX12_goal 32 = .ok (.putfield 348, 3) := dk_181 (by decide +kernel)
theorem dX12_goal_35 : decode cX12_goal 35 = .ok (.aload_n 0, 1) := dk_42 (by decide +kernel)
theorem dX12_goal_36 : decode cX12_goal 36 = .ok (.getfield 348, 3) := dk_180 (by decide +kernel)
theorem dX12_goal_39 : decode cX12_goal 39 = .ok (.ifCond .le 5, 3) := dk_158 (by decide +kernel)
theorem dX12_goal_42 : decode cX12_goal 42 = .ok (.iconst 0, 1) := dk_3 (by decide +kernel)
theorem dX12_goal_43 : decode cX12_goal 43 = .ok (.ireturn, 1) := dk_172 (by decide +kernel)
theorem dX12_goal_44 : decode cX12_goal 44 = .ok (.iload_n 2, 1) := dk_28 (by decide +kernel)
theorem dX12_goal_45 : decode cX12_goal 45 = .ok (.bipush (-2), 2) := dk_16 (by decide +kernel)
theorem dX12_goal_47 : decode cX12_goal 47 = .ok (.if_icmp .ne 10, 3) := dk_160 (by decide +kernel)
theorem dX12_goal_50 : decode cX12_goal 50 = .ok (.aload_n 0, 1) := dk_42 (by decide +kernel)
theorem dX12_goal_51 : decode cX12_goal 51 = .ok (.getfield 218, 3) := dk_180 (by decide +kernel)
theorem dX12_goal_54 : decode cX12_goal 54 = .ok (.iload_n 1, 1) := dk_27 (by decide +kernel)
theorem dX12_goal_55 : decode cX12_goal 55 = .ok (.iaload, 1) := dk_46 (by decide +kernel)
theorem dX12_goal_56 : decode cX12_goal 56 = .ok (.ireturn, 1) := dk_172 (by decide +kernel)
theorem dX12_goal_57 : decode cX12_goal 57 = .ok (.iload_n 3, 1) := dk_29 (by decide +kernel)
theorem dX12_goal_58 : decode cX12_goal 58 = .ok (.ifCond .eq 19, 3) := dk_153 (by decide +kernel)
theorem dX12_goal_61 : decode cX12_goal 61 = .ok (.aload_n 0, 1) := dk_42 (by decide +kernel)
theorem dX12_goal_62 : decode cX12_goal 62 = .ok (.getfield 215, 3) := dk_180 (by decide +kernel)
theorem dX12_goal_65 : decode cX12_goal 65 = .ok (.bipush 9, 2) := dk_16 (by decide +kernel)
theorem dX12_goal_67 : decode cX12_goal 67 = .ok (.iload_n 1, 1) := dk_27 (by decide +kernel)
theorem dX12_goal_68 : decode cX12_goal 68 = .ok (.imul, 1) := dk_104 (by decide +kernel)
theorem dX12_goal_69 : decode cX12_goal 69 = .ok (.iconst 1, 1) := dk_4 (by decide +kernel)
theorem dX12_goal_70 : decode cX12_goal 70 = .ok (.iadd, 1) := dk_96 (by decide +kernel)
theorem dX12_goal_71 : decode cX12_goal 71 = .ok (.iload_n 2, 1) := dk_28 (by decide +kernel)
theorem dX12_goal_72 : decode cX12_goal 72 = .ok (.iadd, 1) := dk_96 (by decide +kernel)
theorem dX12_goal_73 : decode cX12_goal 73 = .ok (.iaload, 1) := dk_46 (by decide +kernel)
theorem dX12_goal_74 : decode cX12_goal 74 = .ok (.goto 16, 3) := dk_167 (by decide +kernel)
theorem dX12_goal_77 : decode cX12_goal 77 = .ok (.aload_n 0, 1) := dk_42 (by decide +kernel)
theorem dX12_goal_78 : decode cX12_goal 78 = .ok (.getfield 212, 3) := dk_180 (by decide +kernel)
theorem dX12_goal_81 : decode cX12_goal 81 = .ok (.bipush 9, 2) := dk_16 (by decide +kernel)
theorem dX12_goal_83 : decode cX12_goal 83 = .ok (.iload_n 1, 1) := dk_27 (by decide +kernel)
theorem dX12_goal_84 : decode cX12_goal 84 = .ok (.imul, 1) := dk_104 (by decide +kernel)
theorem dX12_goal_85 : decode cX12_goal 85 = .ok (.iconst 1, 1) := dk_4 (by decide +kernel)
theorem dX12_goal_86 : decode cX12_goal 86 = .ok (.iadd, 1) := dk_96 (by decide +kernel)
theorem dX12_goal_87 : decode cX12_goal 87 = .ok (.iload_n 2, 1) := dk_28 (by decide +kernel)
theorem dX12_goal_88 : decode cX12_goal 88 = .ok (.iadd, 1) := dk_96 (by decide +kernel)
theorem dX12_goal_89 : decode cX12_goal 89 = .ok (.iaload, 1) := dk_46 (by decide +kernel)
theorem dX12_goal_90 : decode cX12_goal 90 = .ok (.ireturn, 1) := dk_172 (by decide +kernel)
def wsRX12_goal : List Cond := .code yX12_goal cX12_goal 4 (some .int) :: ([.fieldLink RX12 348 "OptimaWorksModel" "thrown" "I", .fieldLink RX12 805 "OptimaWorksModel" "modelGoals" "I", .fieldLink RX12 774 "OptimaWorksModel" "variables" "I", .fieldLink RX12 212 "OptimaWorksModel" "goalTop" "[I", .fieldLink RX12 215 "OptimaWorksModel" "goalUnder" "[I", .fieldLink RX12 218 "OptimaWorksModel" "goalMax" "[I"] ++ wsX120)
theorem iwsRX12_goal_in12 : ∀ w ∈ wsX120, w ∈ wsRX12_goal := fun _ h => List.mem_cons_of_mem _ (List.mem_append_right _ h)
theorem gdwsRX12_goal : wsRX12_goal.all goodWord = true := gdC rfl (gdA (by decide +kernel : ([.fieldLink RX12 348 "OptimaWorksModel" "thrown" "I", .fieldLink RX12 805 "OptimaWorksModel" "modelGoals" "I", .fieldLink RX12 774 "OptimaWorksModel" "variables" "I", .fieldLink RX12 212 "OptimaWorksModel" "goalTop" "[I", .fieldLink RX12 215 "OptimaWorksModel" "goalUnder" "[I", .fieldLink RX12 218 "OptimaWorksModel" "goalMax" "[I"] : List Cond).all goodWord = true) gdwsX120)
theorem hm_r_X12_goal_0 : (.fieldLink RX12 348 "OptimaWorksModel" "thrown" "I" : Cond) ∈ wsRX12_goal := by decide +kernel
set_option maxHeartbeats 4000000 in
set_option maxRecDepth 100000 in
/-- goal(g, k, isUnder) -/
theorem r_X12_goal (l : Launch) (dC : Nat → ClassId) (dI : Nat → Nat → Nat) (a : Nat → Nat) (k : Nat → ClassId) (h0 : Nat) (vi : Nat → Int32) (vj : Nat → Int64) (vF : Nat → Nat → Int32) (vG : Nat → Nat → Int64) (gI : Int32) (kI : Int32) (uI : Int32) (vn : Nat) (hvn : vi 90 = nI vn) (hvn8 : vn ≤ 8) (gq : Nat) (hmg : vi 93 = nI gq) (hgq : gq ≤ 3) (sz : Nat) : Met l yX12_goal wsRX12_goal ({ frames := 0, cells := 0, slots := 0, locals := 0 }) (va_Pc [.ref h0, .int gI, .int kI, .int uI] (fun U => U.heap.size = sz ∧ va_P (dC, dI) vwCl (WR a k h0 vi vj vF vG) U.heap ∧ va_K (dC, dI) vwCl (tX12 k) U ∧ va_D (fun _ => True) (WR a k h0 vi vj vF vG))) (va_Qi (fun (r : Int32) (u : Int32) => True) (fun (u : Int32) t => va_P (dC, dI) vwCl (WR a k h0 (fT vi 0 u) vj vF vG) t.heap ∧ va_D (va_A (WR a k h0 vi vj vF vG) sz) (WR a k h0 (fT vi 0 u) vj vF vG)) (va_A (WR a k h0 vi vj vF vG) sz)) 0 0 (va_A (WR a k h0 vi vj vF vG) sz) := by
  refine Met.ofW (cc := cX12_goal) (maxL := 4) (ret := (some .int)) (by decide) rfl ?_
  intro p e s m args below meth c s₁ B hml hv
  obtain ⟨rfl, hsz, hP, hK, hD0⟩ := hv
  have hx := B.exec
  have hb := B.bytes
  have hr := B.returns
  have hts := atoms_spec (ws := wsRX12_goal) B.pre
  have hown : s.vm.findClass RX12 = some m.cls := findClass_of_methodNamed B.named
  have hlocks := B.notSynchronized
  subst hsz
  have hD := hD0.self (sz := s.heap.size)
  generalize hAe : va_A (WR a k h0 vi vj vF vG) s.heap.size = A at hD ⊢
  have hA : ∀ q : Nat, s.heap.size ≤ q → A q := fun q h => by rw [← hAe]; exact Or.inr h
  have hS : va_S A s.heap s.heap [] := va_S.rf
  have hl := lv_entry ([.ref h0, .int gI, .int kI, .int uI]) (n := 4) (Nat.le_of_ble_eq_true rfl)
  rw [lg_entry_eq]
  generalize (lg_sl ([.ref h0, .int gI, .int kI, .int uI]) ++ List.replicate (4 - (lg_sl ([.ref h0, .int gI, .int kI, .int uI])).length) Slot.unset).toArray = ls at hl ⊢
  have hl : lv_has ls 4 [(0, .ref h0), (1, .int gI), (2, .int kI), (3, .int uI)] := hl
  refine lv_aload_n hx hb dX12_goal_0 rfl (lv_at hl 0 rfl) ?_
  refine lv_iload_n hx hb dX12_goal_1 rfl (lv_at hl 1 rfl) ?_
  refine lv_if_lt (tgt := 31) hx hb dX12_goal_2 (by decide) (fun c_2 => ?_) (fun c_2 => ?_)
  · have t_2 : (gI).toInt < 0 := toI_lt c_2 rfl (by decide)
    refine lv_iconst (v := 1) hx hb dX12_goal_31 (by decide) ?_
    refine va_put (D := (dC, dI)) (ci := 12) (v := .int 1) (ty := .int) (C := RX12) (T := TX12) (N := 163) (fs := fM (vS a vi vj)) hx hb hts iwsRX12_goal_in12 tyX12 tyX12_ok nmX12 hown hK hP hD hS 0 rfl rfl 0 (by decide) (hts _ hm_r_X12_goal_0) (fun _ h9 => h9) rfl (by decide +kernel) rfl rfl (Nat.le_of_ble_eq_true rfl) dX12_goal_32 (fun H locs hP hD hS => ?_)
    have hP : va_P (dC, dI) vwCl (WR a k h0 (fT vi 0 1) vj vF vG) H := fz_w (WR_i 0 _ rfl) hP
    have hD : va_D A (WR a k h0 (fT vi 0 1) vj vF vG) := fz_wD (WR_i 0 _ rfl) hD
    refine lv_aload_n hx hb dX12_goal_35 rfl (lv_at hl 0 rfl) ?_
    refine va_get (D := (dC, dI)) (ci := 12) (v := .int 1) (C := RX12) (T := TX12) (N := 163) (fs := fM (vS a (fT vi 0 1) vj)) hx hb hts iwsRX12_goal_in12 hown hK hP 0 rfl rfl 0 (by decide) (hts _ hm_r_X12_goal_0) (fun _ h9 => h9) rfl dX12_goal_36 ?_
    refine lv_if_le (tgt := 44) hx hb dX12_goal_39 (by decide) (fun c9 => absurd c9 (by decide)) (fun _ => ?_)
    refine lv_iconst (v := 0) hx hb dX12_goal_42 (by decide) ?_
    refine W.widen (k := 0) (n := 0) (by decide +kernel) (by decide +kernel) ?_
    exact W.iret (v := 0) hx hb hr (fun t9_ ht hW => ⟨⟨0, 1, rfl, trivial, by rw [ht]; exact hP, hD⟩, hS.F ht⟩) hS.2.2 dX12_goal_43
  · have t_2 : ¬ (gI).toInt < 0 := toI_nlt c_2 rfl (by decide)
    refine lv_iload_n hx hb dX12_goal_5 rfl (lv_at hl 1 rfl) ?_
    refine lv_aload_n hx hb dX12_goal_6 rfl (lv_at hl 0 rfl) ?_
    refine va_get (D := (dC, dI)) (ci := 12) (v := .int (vi 93)) (C := RX12) (T := TX12) (N := 163) (fs := fM (vS a vi vj)) hx hb hts iwsRX12_goal_in12 hown hK hP 0 rfl rfl 93 (by decide) (hts (.fieldLink RX12 805 "OptimaWorksModel" "modelGoals" "I") (by decide +kernel)) (fun _ h9 => h9) rfl dX12_goal_7 ?_
    refine lv_topi (fun y1 hy1 => ?_)
    obtain rfl : (nI gq) = y1 := (hy1.trans (hmg)).symm
    refine lv_icmp_ge (tgt := 31) hx hb dX12_goal_10 (by decide) (fun c_10 => ?_) (fun c_10 => ?_)
    · have t_10 : (gI).toInt ≥ ((gq : Nat) : Int) := toI_ge c_10 rfl (nI_toInt (by omega))
      refine lv_iconst (v := 1) hx hb dX12_goal_31 (by decide) ?_
      refine va_put (D := (dC, dI)) (ci := 12) (v := .int 1) (ty := .int) (C := RX12) (T := TX12) (N := 163) (fs := fM (vS a vi vj)) hx hb hts iwsRX12_goal_in12 tyX12 tyX12_ok nmX12 hown hK hP hD hS 0 rfl rfl 0 (by decide) (hts _ hm_r_X12_goal_0) (fun _ h9 => h9) rfl (by decide +kernel) rfl rfl (Nat.le_of_ble_eq_true rfl) dX12_goal_32 (fun H locs hP hD hS => ?_)
      have hP : va_P (dC, dI) vwCl (WR a k h0 (fT vi 0 1) vj vF vG) H := fz_w (WR_i 0 _ rfl) hP
      have hD : va_D A (WR a k h0 (fT vi 0 1) vj vF vG) := fz_wD (WR_i 0 _ rfl) hD
      refine lv_aload_n hx hb dX12_goal_35 rfl (lv_at hl 0 rfl) ?_
      refine va_get (D := (dC, dI)) (ci := 12) (v := .int 1) (C := RX12) (T := TX12) (N := 163) (fs := fM (vS a (fT vi 0 1) vj)) hx hb hts iwsRX12_goal_in12 hown hK hP 0 rfl rfl 0 (by decide) (hts _ hm_r_X12_goal_0) (fun _ h9 => h9) rfl dX12_goal_36 ?_
      refine lv_if_le (tgt := 44) hx hb dX12_goal_39 (by decide) (fun c9 => absurd c9 (by decide)) (fun _ => ?_)
      refine lv_iconst (v := 0) hx hb dX12_goal_42 (by decide) ?_
      refine W.widen (k := 0) (n := 0) (by decide +kernel) (by decide +kernel) ?_
      exact W.iret (v := 0) hx hb hr (fun t9_ ht hW => ⟨⟨0, 1, rfl, trivial, by rw [ht]; exact hP, hD⟩, hS.F ht⟩) hS.2.2 dX12_goal_43
    · have t_10 : ¬ (gI).toInt ≥ ((gq : Nat) : Int) := toI_nge c_10 rfl (nI_toInt (by omega))
      have egq : (nI gq).toInt = (gq : Int) := nI_toInt (by omega)
      obtain ⟨gn, h_gn, rfl⟩ := of_toInt (x := gI) (k := 3) (by omega) (by omega)
      have e_gn : (nI gn).toInt = (gn : Int) := nI_toInt (by omega)
      refine lv_iload_n hx hb dX12_goal_13 rfl (lv_at hl 2 rfl) ?_
      refine lv_bipush (v := (-2)) hx hb dX12_goal_14 (by decide) ?_
      refine lv_icmp_lt (tgt := 31) hx hb dX12_goal_16 (by decide) (fun c_16 => ?_) (fun c_16 => ?_)
      · have t_16 : (kI).toInt < -2 := toI_lt c_16 rfl (by decide)
        refine lv_iconst (v := 1) hx hb dX12_goal_31 (by decide) ?_
        refine va_put (D := (dC, dI)) (ci := 12) (v := .int 1) (ty := .int) (C := RX12) (T := TX12) (N := 163) (fs := fM (vS a vi vj)) hx hb hts iwsRX12_goal_in12 tyX12 tyX12_ok nmX12 hown hK hP hD hS 0 rfl rfl 0 (by decide) (hts _ hm_r_X12_goal_0) (fun _ h9 => h9) rfl (by decide +kernel) rfl rfl (Nat.le_of_ble_eq_true rfl) dX12_goal_32 (fun H locs hP hD hS => ?_)
        have hP : va_P (dC, dI) vwCl (WR a k h0 (fT vi 0 1) vj vF vG) H := fz_w (WR_i 0 _ rfl) hP
        have hD : va_D A (WR a k h0 (fT vi 0 1) vj vF vG) := fz_wD (WR_i 0 _ rfl) hD
        refine lv_aload_n hx hb dX12_goal_35 rfl (lv_at hl 0 rfl) ?_
        refine va_get (D := (dC, dI)) (ci := 12) (v := .int 1) (C := RX12) (T := TX12) (N := 163) (fs := fM (vS a (fT vi 0 1) vj)) hx hb hts iwsRX12_goal_in12 hown hK hP 0 rfl rfl 0 (by decide) (hts _ hm_r_X12_goal_0) (fun _ h9 => h9) rfl dX12_goal_36 ?_
        refine lv_if_le (tgt := 44) hx hb dX12_goal_39 (by decide) (fun c9 => absurd c9 (by decide)) (fun _ => ?_)
        refine lv_iconst (v := 0) hx hb dX12_goal_42 (by decide) ?_
        refine W.widen (k := 0) (n := 0) (by decide +kernel) (by decide +kernel) ?_
        exact W.iret (v := 0) hx hb hr (fun t9_ ht hW => ⟨⟨0, 1, rfl, trivial, by rw [ht]; exact hP, hD⟩, hS.F ht⟩) hS.2.2 dX12_goal_43
      · have t_16 : ¬ (kI).toInt < -2 := toI_nlt c_16 rfl (by decide)
        refine lv_iload_n hx hb dX12_goal_19 rfl (lv_at hl 2 rfl) ?_
        refine lv_aload_n hx hb dX12_goal_20 rfl (lv_at hl 0 rfl) ?_
        refine va_get (D := (dC, dI)) (ci := 12) (v := .int (vi 90)) (C := RX12) (T := TX12) (N := 163) (fs := fM (vS a vi vj)) hx hb hts iwsRX12_goal_in12 hown hK hP 0 rfl rfl 90 (by decide) (hts (.fieldLink RX12 774 "OptimaWorksModel" "variables" "I") (by decide +kernel)) (fun _ h9 => h9) rfl dX12_goal_21 ?_
        refine lv_topi (fun y2 hy2 => ?_)
        obtain rfl : (nI vn) = y2 := (hy2.trans (hvn)).symm
        refine lv_icmp_ge (tgt := 31) hx hb dX12_goal_24 (by decide) (fun c_24 => ?_) (fun c_24 => ?_)
        · have t_24 : (kI).toInt ≥ ((vn : Nat) : Int) := toI_ge c_24 rfl (nI_toInt (by omega))
          refine lv_iconst (v := 1) hx hb dX12_goal_31 (by decide) ?_
          refine va_put (D := (dC, dI)) (ci := 12) (v := .int 1) (ty := .int) (C := RX12) (T := TX12) (N := 163) (fs := fM (vS a vi vj)) hx hb hts iwsRX12_goal_in12 tyX12 tyX12_ok nmX12 hown hK hP hD hS 0 rfl rfl 0 (by decide) (hts _ hm_r_X12_goal_0) (fun _ h9 => h9) rfl (by decide +kernel) rfl rfl (Nat.le_of_ble_eq_true rfl) dX12_goal_32 (fun H locs hP hD hS => ?_)
          have hP : va_P (dC, dI) vwCl (WR a k h0 (fT vi 0 1) vj vF vG) H := fz_w (WR_i 0 _ rfl) hP
          have hD : va_D A (WR a k h0 (fT vi 0 1) vj vF vG) := fz_wD (WR_i 0 _ rfl) hD
          refine lv_aload_n hx hb dX12_goal_35 rfl (lv_at hl 0 rfl) ?_
          refine va_get (D := (dC, dI)) (ci := 12) (v := .int 1) (C := RX12) (T := TX12) (N := 163) (fs := fM (vS a (fT vi 0 1) vj)) hx hb hts iwsRX12_goal_in12 hown hK hP 0 rfl rfl 0 (by decide) (hts _ hm_r_X12_goal_0) (fun _ h9 => h9) rfl dX12_goal_36 ?_
          refine lv_if_le (tgt := 44) hx hb dX12_goal_39 (by decide) (fun c9 => absurd c9 (by decide)) (fun _ => ?_)
          refine lv_iconst (v := 0) hx hb dX12_goal_42 (by decide) ?_
          refine W.widen (k := 0) (n := 0) (by decide +kernel) (by decide +kernel) ?_
          exact W.iret (v := 0) hx hb hr (fun t9_ ht hW => ⟨⟨0, 1, rfl, trivial, by rw [ht]; exact hP, hD⟩, hS.F ht⟩) hS.2.2 dX12_goal_43
        · have t_24 : ¬ (kI).toInt ≥ ((vn : Nat) : Int) := toI_nge c_24 rfl (nI_toInt (by omega))
          refine lv_iconst (v := 0) hx hb dX12_goal_27 (by decide) ?_
          refine lv_goto (tgt := 32) hx hb dX12_goal_28 (by decide) ?_
          refine va_put (D := (dC, dI)) (ci := 12) (v := .int 0) (ty := .int) (C := RX12) (T := TX12) (N := 163) (fs := fM (vS a vi vj)) hx hb hts iwsRX12_goal_in12 tyX12 tyX12_ok nmX12 hown hK hP hD hS 0 rfl rfl 0 (by decide) (hts _ hm_r_X12_goal_0) (fun _ h9 => h9) rfl (by decide +kernel) rfl rfl (Nat.le_of_ble_eq_true rfl) dX12_goal_32 (fun H locs hP hD hS => ?_)
          have hP : va_P (dC, dI) vwCl (WR a k h0 (fT vi 0 0) vj vF vG) H := fz_w (WR_i 0 _ rfl) hP
          have hD : va_D A (WR a k h0 (fT vi 0 0) vj vF vG) := fz_wD (WR_i 0 _ rfl) hD
          refine lv_aload_n hx hb dX12_goal_35 rfl (lv_at hl 0 rfl) ?_
          refine va_get (D := (dC, dI)) (ci := 12) (v := .int 0) (C := RX12) (T := TX12) (N := 163) (fs := fM (vS a (fT vi 0 0) vj)) hx hb hts iwsRX12_goal_in12 hown hK hP 0 rfl rfl 0 (by decide) (hts _ hm_r_X12_goal_0) (fun _ h9 => h9) rfl dX12_goal_36 ?_
          refine lv_if_le (tgt := 44) hx hb dX12_goal_39 (by decide) (fun _ => ?_) (fun c9 => absurd (by decide) c9)
          refine lv_iload_n hx hb dX12_goal_44 rfl (lv_at hl 2 rfl) ?_
          refine lv_bipush (v := (-2)) hx hb dX12_goal_45 (by decide) ?_
          refine lv_icmp_ne (tgt := 57) hx hb dX12_goal_47 (by decide) (fun c_47 => ?_) (fun c_47 => ?_)
          · have t_47 : (kI).toInt ≠ -2 := toI_ne c_47 rfl (by decide)
            refine lv_iload_n hx hb dX12_goal_57 rfl (lv_at hl 3 rfl) ?_
            refine lv_if_eq (tgt := 77) hx hb dX12_goal_58 (by decide) (fun c_58 => ?_) (fun c_58 => ?_)
            · have t_58 : (uI).toInt = 0 := toI_eq c_58 rfl (by decide)
              refine lv_aload_n hx hb dX12_goal_77 rfl (lv_at hl 0 rfl) ?_
              refine va_get (D := (dC, dI)) (ci := 12) (v := .ref (a 63)) (C := RX12) (T := TX12) (N := 163) (fs := fM (vS a (fT vi 0 0) vj)) hx hb hts iwsRX12_goal_in12 hown hK hP 0 rfl rfl 103 (by decide) (hts (.fieldLink RX12 212 "OptimaWorksModel" "goalTop" "[I") (by decide +kernel)) (fun _ h9 => h9) rfl dX12_goal_78 ?_
              refine lv_bipush (v := 9) hx hb dX12_goal_81 (by decide) ?_
              refine lv_iload_n hx hb dX12_goal_83 rfl (lv_at hl 1 rfl) ?_
              refine lv_imul hx hb dX12_goal_84 ?_
              refine lv_topi (fun y3 hy3 => ?_)
              obtain rfl : (nI (9 * gn)) = y3 := (hy3.trans (pk_mul 9 gn)).symm
              refine lv_iconst (v := 1) hx hb dX12_goal_85 (by decide) ?_
              refine lv_iadd hx hb dX12_goal_86 ?_
              refine lv_topi (fun y4 hy4 => ?_)
              obtain rfl : (nI ((9 * gn) + 1)) = y4 := (hy4.trans (nI_add (9 * gn) 1)).symm
              refine lv_iload_n hx hb dX12_goal_87 rfl (lv_at hl 2 rfl) ?_
              refine lv_iadd hx hb dX12_goal_88 ?_
              have eix : (nI (9 * gn + 1) + kI).toInt = ((9 * gn + 1 : Nat) : Int) + (kI).toInt := by rw [addB (by rw [nI_toInt (by omega)]; omega) (by omega), nI_toInt (by omega)]
              refine va_iald (cA := k 63) (n := 27) (f := (vF 63)) hx hb hK hP 64 63 (WR_get 63 (by decide)) (TR_get 63 (by decide)) (vp_in_iff.mpr (by omega)) dX12_goal_89 ?_
              refine W.widen (k := 0) (n := 0) (by decide +kernel) (by decide +kernel) ?_
              exact W.iret (v := ((vF 63) (((nI ((9 * gn) + 1)) + kI)).toNatClampNeg)) hx hb hr (fun t9_ ht hW => ⟨⟨((vF 63) (((nI ((9 * gn) + 1)) + kI)).toNatClampNeg), 0, rfl, trivial, by rw [ht]; exact hP, hD⟩, hS.F ht⟩) hS.2.2 dX12_goal_90
            · have t_58 : ¬ (uI).toInt = 0 := toI_neq c_58 rfl (by decide)
              refine lv_aload_n hx hb dX12_goal_61 rfl (lv_at hl 0 rfl) ?_
              refine va_get (D := (dC, dI)) (ci := 12) (v := .ref (a 64)) (C := RX12) (T := TX12) (N := 163) (fs := fM (vS a (fT vi 0 0) vj)) hx hb hts iwsRX12_goal_in12 hown hK hP 0 rfl rfl 104 (by decide) (hts (.fieldLink RX12 215 "OptimaWorksModel" "goalUnder" "[I") (by decide +kernel)) (fun _ h9 => h9) rfl dX12_goal_62 ?_
              refine lv_bipush (v := 9) hx hb dX12_goal_65 (by decide) ?_
              refine lv_iload_n hx hb dX12_goal_67 rfl (lv_at hl 1 rfl) ?_
              refine lv_imul hx hb dX12_goal_68 ?_
              refine lv_topi (fun y5 hy5 => ?_)
              obtain rfl : (nI (9 * gn)) = y5 := (hy5.trans (pk_mul 9 gn)).symm
              refine lv_iconst (v := 1) hx hb dX12_goal_69 (by decide) ?_
              refine lv_iadd hx hb dX12_goal_70 ?_
              refine lv_topi (fun y6 hy6 => ?_)
              obtain rfl : (nI ((9 * gn) + 1)) = y6 := (hy6.trans (nI_add (9 * gn) 1)).symm
              refine lv_iload_n hx hb dX12_goal_71 rfl (lv_at hl 2 rfl) ?_
              refine lv_iadd hx hb dX12_goal_72 ?_
              have eix : (nI (9 * gn + 1) + kI).toInt = ((9 * gn + 1 : Nat) : Int) + (kI).toInt := by rw [addB (by rw [nI_toInt (by omega)]; omega) (by omega), nI_toInt (by omega)]
              refine va_iald (cA := k 64) (n := 27) (f := (vF 64)) hx hb hK hP 65 64 (WR_get 64 (by decide)) (TR_get 64 (by decide)) (vp_in_iff.mpr (by omega)) dX12_goal_73 ?_
              refine lv_goto (tgt := 90) hx hb dX12_goal_74 (by decide) ?_
              refine W.widen (k := 0) (n := 0) (by decide +kernel) (by decide +kernel) ?_
              exact W.iret (v := ((vF 64) (((nI ((9 * gn) + 1)) + kI)).toNatClampNeg)) hx hb hr (fun t9_ ht hW => ⟨⟨((vF 64) (((nI ((9 * gn) + 1)) + kI)).toNatClampNeg), 0, rfl, trivial, by rw [ht]; exact hP, hD⟩, hS.F ht⟩) hS.2.2 dX12_goal_90
          · have t_47 : (kI).toInt = -2 := toI_nne c_47 rfl (by decide)
            refine lv_aload_n hx hb dX12_goal_50 rfl (lv_at hl 0 rfl) ?_
            refine va_get (D := (dC, dI)) (ci := 12) (v := .ref (a 65)) (C := RX12) (T := TX12) (N := 163) (fs := fM (vS a (fT vi 0 0) vj)) hx hb hts iwsRX12_goal_in12 hown hK hP 0 rfl rfl 105 (by decide) (hts (.fieldLink RX12 218 "OptimaWorksModel" "goalMax" "[I") (by decide +kernel)) (fun _ h9 => h9) rfl dX12_goal_51 ?_
            refine lv_iload_n hx hb dX12_goal_54 rfl (lv_at hl 1 rfl) ?_
            refine va_iald (cA := k 65) (n := 3) (f := (vF 65)) hx hb hK hP 66 65 (WR_get 65 (by decide)) (TR_get 65 (by decide)) (vp_in_nI (show gn < 3 by omega) (by omega)) dX12_goal_55 ?_
            refine lv_topi (fun y7 hy7 => ?_)
            obtain rfl : ((vF 65) gn) = y7 := (hy7.trans (by rw [nI_clamp (by omega)])).symm
            refine W.widen (k := 0) (n := 0) (by decide +kernel) (by decide +kernel) ?_
            exact W.iret (v := ((vF 65) gn)) hx hb hr (fun t9_ ht hW => ⟨⟨((vF 65) gn), 0, rfl, trivial, by rw [ht]; exact hP, hD⟩, hS.F ht⟩) hS.2.2 dX12_goal_56
theorem dX12_about_0 : decode cX12_about 0 = .ok (.aload_n 0, 1) := dk_42 (by decide +kernel)
theorem dX12_about_1 : decode cX12_about 1 = .ok (.iconst 0, 1) := dk_3 (by decide +kernel)
theorem dX12_about_2 : decode cX12_about 2 = .ok (.putfield 348, 3) := dk_181 (by decide +kernel)
theorem dX12_about_5 : decode cX12_about 5 = .ok (.iconst 2, 1) := dk_5 (by decide +kernel)
theorem dX12_about_6 : decode cX12_about 6 = .ok (.aload_n 0, 1) := dk_42 (by decide +kernel)
theorem dX12_about_7 : decode cX12_about 7 = .ok (.getfield 774, 3) := dk_180 (by decide +kernel)
theorem dX12_about_10 : decode cX12_about 10 = .ok (.imul, 1) := dk_104 (by decide +kernel)
theorem dX12_about_11 : decode cX12_about 11 = .ok (.istore_n 2, 1) := dk_61 (by decide +kernel)
theorem dX12_about_12 : decode cX12_about 12 = .ok (.iconst 0, 1) := dk_3 (by decide +kernel)
theorem dX12_about_13 : decode cX12_about 13 = .ok (.istore_n 3, 1) := dk_62 (by decide +kernel)
theorem dX12_about_14 : decode cX12_about 14 = .ok (.iload_n 3, 1) := dk_29 (by decide +kernel)
theorem dX12_about_15 : decode cX12_about 15 = .ok (.aload_n 0, 1) := dk_42 (by decide +kernel)
theorem dX12_about_16 : decode cX12_about 16 = .ok (.getfield 786, 3) := dk_180 (by decide +kernel)
theorem dX12_about_19 : decode cX12_about 19 = .ok (.if_icmp .ge 27, 3) := dk_162 (by decide +kernel)
theorem dX12_about_22 : decode cX12_about 22 = .ok (.iload_n 2, 1) := dk_28 (by decide +kernel)
theorem dX12_about_23 : decode cX12_about 23 = .ok (.aload_n 0, 1) := dk_42 (by decide +kernel)
theorem dX12_about_24 : decode cX12_about 24 = .ok (.getfield 200, 3) := dk_180 (by decide +kernel)
theorem dX12_about_27 : decode cX12_about 27 = .ok (.iload_n 3, 1) := dk_29 (by decide +kernel)
theorem dX12_about_28 : decode cX12_about 28 = .ok (.iaload, 1) := dk_46 (by decide +kernel)
theorem dX12_about_29 : decode cX12_about 29 = .ok (.iconst 1, 1) := dk_4 (by decide +kernel)
theorem dX12_about_30 : decode cX12_about 30 = .ok (.if_icmp .ne 7, 3) := dk_160 (by decide +kernel)
theorem dX12_about_33 : decode cX12_about 33 = .ok (.iconst 1, 1) := dk_4 (by decide +kernel)
theorem dX12_about_34 : decode cX12_about 34 = .ok (.goto 4, 3) := dk_167 (by decide +kernel)
theorem dX12_about_37 : decode cX12_about 37 = .ok (.iconst 0, 1) := dk_3 (by decide +kernel)
theorem dX12_about_38 : decode cX12_about 38 = .ok (.iadd, 1) := dk_96 (by decide +kernel)
theorem dX12_about_39 : decode cX12_about 39 = .ok (.istore_n 2, 1) := dk_61 (by decide +kernel)
theorem dX12_about_40 : decode cX12_about 40 = .ok (.iinc 3 1, 3) := dk_132 (by decide +kernel)
theorem dX12_about_43 : decode cX12_about 43 = .ok (.goto (-29), 3) := dk_167 (by decide +kernel)
theorem dX12_about_46 : decode cX12_about 46 = .ok (.iload_n 1, 1) := dk_27 (by decide +kernel)
theorem dX12_about_47 : decode cX12_about 47 = .ok (.tableswitch 104 0 7 #[45, 50, 55, 60, 65, 70, 75, 91], 45) := by decide +kernel
theorem dX12_about_92 : decode cX12_about 92 = .ok (.aload_n 0, 1) := dk_42 (by decide +kernel)
theorem dX12_about_93 : decode cX12_about 93 = .ok (.getfield 468, 3) := dk_180 (by decide +kernel)
theorem dX12_about_96 : decode cX12_about 96 = .ok (.ireturn, 1) := dk_172 (by decide +kernel)
theorem dX12_about_97 : decode cX12_about 97 = .ok (.aload_n 0, 1) := dk_42 (by decide +kernel)
theorem dX12_about_98 : decode cX12_about 98 = .ok (.getfield 933, 3) := dk_180 (by decide +kernel)
theorem dX12_about_101 : decode cX12_about 101 = .ok (.ireturn, 1) := dk_172 (by decide +kernel)
theorem dX12_about_102 : decode cX12_about 102 = .ok (.aload_n 0, 1) := dk_42 (by decide +kernel)
theorem dX12_about_103 : decode cX12_about 103 = .ok (.getfield 774, 3) := dk_180 (by decide +kernel)
theorem dX12_about_106 : decode cX12_about 106 = .ok (.ireturn, 1) := dk_172 (by decide +kernel)
theorem dX12_about_107 : decode cX12_about 107 = .ok (.aload_n 0, 1) := dk_42 (by decide +kernel)
theorem dX12_about_108 : decode cX12_about 108 = .ok (.getfield 786, 3) := dk_180 (by decide +kernel)
theorem dX12_about_111 : decode cX12_about 111 = .ok (.ireturn, 1) := dk_172 (by decide +kernel)
theorem dX12_about_112 : decode cX12_about 112 = .ok (.aload_n 0, 1) := dk_42 (by decide +kernel)
theorem dX12_about_113 : decode cX12_about 113 = .ok (.getfield 805, 3) := dk_180 (by decide +kernel)
theorem dX12_about_116 : decode cX12_about 116 = .ok (.ireturn, 1) := dk_172 (by decide +kernel)
theorem dX12_about_117 : decode cX12_about 117 = .ok (.aload_n 0, 1) := dk_42 (by decide +kernel)
theorem dX12_about_118 : decode cX12_about 118 = .ok (.getfield 802, 3) := dk_180 (by decide +kernel)
theorem dX12_about_121 : decode cX12_about 121 = .ok (.ireturn, 1) := dk_172 (by decide +kernel)
theorem dX12_about_122 : decode cX12_about 122 = .ok (.aload_n 0, 1) := dk_42 (by decide +kernel)
theorem dX12_about_123 : decode cX12_about 123 = .ok (.getfield 808, 3) := dk_180 (by decide +kernel)
theorem dX12_about_126 : decode cX12_about 126 = .ok (.ifCond .eq 10, 3) := dk_153 (by decide +kernel)
theorem dX12_about_129 : decode cX12_about 129 = .ok (.aload_n 0, 1) := dk_42 (by decide +kernel)
theorem dX12_about_130 : decode cX12_about 130 = .ok (.getfield 780, 3) := dk_180 (by decide +kernel)
theorem dX12_about_133 : decode cX12_about 133 = .ok (.goto 4, 3) := dk_167 (by decide +kernel)
theorem dX12_about_136 : decode cX12_about 136 = .ok (.iconst 0, 1) := dk_3 (by decide +kernel)
theorem dX12_about_137 : decode cX12_about 137 = .ok (.ireturn, 1) := dk_172 (by decide +kernel)
theorem dX12_about_138 : decode cX12_about 138 = .ok (.aload_n 0, 1) := dk_42 (by decide +kernel)
theorem dX12_about_139 : decode cX12_about 139 = .ok (.getfield 808, 3) := dk_180 (by decide +kernel)
theorem dX12_about_142 : decode cX12_about 142 = .ok (.ifCond .eq 7, 3) := dk_153 (by decide +kernel)
theorem dX12_about_145 : decode cX12_about 145 = .ok (.iload_n 2, 1) := dk_28 (by decide +kernel)
theorem dX12_about_146 : decode cX12_about 146 = .ok (.goto 4, 3) := dk_167 (by decide +kernel)
theorem dX12_about_149 : decode cX12_about 149 = .ok (.iconst 0, 1) := dk_3 (by decide +kernel)
theorem dX12_about_150 : decode cX12_about 150 = .ok (.ireturn, 1) := dk_172 (by decide +kernel)
theorem dX12_about_151 : decode cX12_about 151 = .ok (.iconst (-1), 1) := dk_2 (by decide +kernel)
theorem dX12_about_152 : decode cX12_about 152 = .ok (.ireturn, 1) := dk_172 (by decide +kernel)
def wsRX12_about : List Cond := .code yX12_about cX12_about 4 (some .int) :: ([.fieldLink RX12 348 "OptimaWorksModel" "thrown" "I", .fieldLink RX12 774 "OptimaWorksModel" "variables" "I", .fieldLink RX12 786 "OptimaWorksModel" "modelRows" "I", .fieldLink RX12 468 "OptimaWorksModel" "taped" "I", .fieldLink RX12 933 "OptimaWorksModel" "printed" "I", .fieldLink RX12 805 "OptimaWorksModel" "modelGoals" "I", .fieldLink RX12 802 "OptimaWorksModel" "differents" "I", .fieldLink RX12 808 "OptimaWorksModel" "isModel" "Z", .fieldLink RX12 780 "OptimaWorksModel" "cases" "I", .fieldLink RX12 200 "OptimaWorksModel" "wayMany" "[I"] ++ wsX120)
theorem iwsRX12_about_in12 : ∀ w ∈ wsX120, w ∈ wsRX12_about := fun _ h => List.mem_cons_of_mem _ (List.mem_append_right _ h)
theorem gdwsRX12_about : wsRX12_about.all goodWord = true := gdC rfl (gdA (by decide +kernel : ([.fieldLink RX12 348 "OptimaWorksModel" "thrown" "I", .fieldLink RX12 774 "OptimaWorksModel" "variables" "I", .fieldLink RX12 786 "OptimaWorksModel" "modelRows" "I", .fieldLink RX12 468 "OptimaWorksModel" "taped" "I", .fieldLink RX12 933 "OptimaWorksModel" "printed" "I", .fieldLink RX12 805 "OptimaWorksModel" "modelGoals" "I", .fieldLink RX12 802 "OptimaWorksModel" "differents" "I", .fieldLink RX12 808 "OptimaWorksModel" "isModel" "Z", .fieldLink RX12 780 "OptimaWorksModel" "cases" "I", .fieldLink RX12 200 "OptimaWorksModel" "wayMany" "[I"] : List Cond).all goodWord = true) gdwsX120)
theorem hm_r_X12_about_0 : (.fieldLink RX12 774 "OptimaWorksModel" "variables" "I" : Cond) ∈ wsRX12_about := by decide +kernel
theorem hm_r_X12_about_1 : (.fieldLink RX12 786 "OptimaWorksModel" "modelRows" "I" : Cond) ∈ wsRX12_about := by decide +kernel
theorem hm_r_X12_about_2 : (.fieldLink RX12 808 "OptimaWorksModel" "isModel" "Z" : Cond) ∈ wsRX12_about := by decide +kernel
set_option maxHeartbeats 4000000 in
set_option maxRecDepth 100000 in
/-- about(what) -/
theorem r_X12_about (l : Launch) (dC : Nat → ClassId) (dI : Nat → Nat → Nat) (a : Nat → Nat) (k : Nat → ClassId) (h0 : Nat) (vi : Nat → Int32) (vj : Nat → Int64) (vF : Nat → Nat → Int32) (vG : Nat → Nat → Int64) (wI : Int32) (vn : Nat) (hvn : vi 90 = nI vn) (hvn8 : vn ≤ 8) (mr : Nat) (hmr : vi 91 = nI mr) (hmr12 : mr ≤ 12) (sz : Nat) : Met l yX12_about wsRX12_about ({ frames := 0, cells := 0, slots := 0, locals := 0 }) (va_Pc [.ref h0, .int wI] (fun U => U.heap.size = sz ∧ va_P (dC, dI) vwCl (WR a k h0 vi vj vF vG) U.heap ∧ va_K (dC, dI) vwCl (tX12 k) U ∧ va_D (fun _ => True) (WR a k h0 vi vj vF vG))) (va_Qi (fun (r : Int32) (u : Unit) => True) (fun (u : Unit) t => va_P (dC, dI) vwCl (WR a k h0 (fT vi 0 0) vj vF vG) t.heap ∧ va_D (va_A (WR a k h0 vi vj vF vG) sz) (WR a k h0 (fT vi 0 0) vj vF vG)) (va_A (WR a k h0 vi vj vF vG) sz)) 0 0 (va_A (WR a k h0 vi vj vF vG) sz) := by
  refine Met.ofW (cc := cX12_about) (maxL := 4) (ret := (some .int)) (by decide) rfl ?_
  intro p e s m args below meth c s₁ B hml hv
  obtain ⟨rfl, hsz, hP, hK, hD0⟩ := hv
  have hx := B.exec
  have hb := B.bytes
  have hr := B.returns
  have hts := atoms_spec (ws := wsRX12_about) B.pre
  have hown : s.vm.findClass RX12 = some m.cls := findClass_of_methodNamed B.named
  have hlocks := B.notSynchronized
  subst hsz
  have hD := hD0.self (sz := s.heap.size)
  generalize hAe : va_A (WR a k h0 vi vj vF vG) s.heap.size = A at hD ⊢
  have hA : ∀ q : Nat, s.heap.size ≤ q → A q := fun q h => by rw [← hAe]; exact Or.inr h
  have hS : va_S A s.heap s.heap [] := va_S.rf
  have hl := lv_entry ([.ref h0, .int wI]) (n := 4) (Nat.le_of_ble_eq_true rfl)
  rw [lg_entry_eq]
  generalize (lg_sl ([.ref h0, .int wI]) ++ List.replicate (4 - (lg_sl ([.ref h0, .int wI])).length) Slot.unset).toArray = ls at hl ⊢
  have hl : lv_has ls 4 [(0, .ref h0), (1, .int wI)] := hl
  refine lv_aload_n hx hb dX12_about_0 rfl (lv_at hl 0 rfl) ?_
  refine lv_iconst (v := 0) hx hb dX12_about_1 (by decide) ?_
  refine va_put (D := (dC, dI)) (ci := 12) (v := .int 0) (ty := .int) (C := RX12) (T := TX12) (N := 163) (fs := fM (vS a vi vj)) hx hb hts iwsRX12_about_in12 tyX12 tyX12_ok nmX12 hown hK hP hD hS 0 rfl rfl 0 (by decide) (hts (.fieldLink RX12 348 "OptimaWorksModel" "thrown" "I") (by decide +kernel)) (fun _ h9 => h9) rfl (by decide +kernel) rfl rfl (Nat.le_of_ble_eq_true rfl) dX12_about_2 (fun H locs hP hD hS => ?_)
  have hP : va_P (dC, dI) vwCl (WR a k h0 (fT vi 0 0) vj vF vG) H := fz_w (WR_i 0 _ rfl) hP
  have hD : va_D A (WR a k h0 (fT vi 0 0) vj vF vG) := fz_wD (WR_i 0 _ rfl) hD
  refine lv_iconst (v := 2) hx hb dX12_about_5 (by decide) ?_
  refine lv_aload_n hx hb dX12_about_6 rfl (lv_at hl 0 rfl) ?_
  refine va_get (D := (dC, dI)) (ci := 12) (v := .int (vi 90)) (C := RX12) (T := TX12) (N := 163) (fs := fM (vS a (fT vi 0 0) vj)) hx hb hts iwsRX12_about_in12 hown hK hP 0 rfl rfl 90 (by decide) (hts _ hm_r_X12_about_0) (fun _ h9 => h9) rfl dX12_about_7 ?_
  refine lv_topi (fun y1 hy1 => ?_)
  obtain rfl : (nI vn) = y1 := (hy1.trans (hvn)).symm
  refine lv_imul hx hb dX12_about_10 ?_
  refine lv_topi (fun y2 hy2 => ?_)
  obtain rfl : (nI (2 * vn)) = y2 := (hy2.trans (pk_mul 2 vn)).symm
  refine lv_istore_n hx hb dX12_about_11 rfl hl (by decide) rfl (fun ls (hl : lv_has ls _ ([(2, .int (nI (2 * vn))), (0, .ref h0), (1, .int wI)])) => ?_)
  refine lv_iconst (v := 0) hx hb dX12_about_12 (by decide) ?_
  refine lv_istore_n hx hb dX12_about_13 rfl hl (by decide) rfl (fun ls (hl : lv_has ls _ ([(3, .int 0), (2, .int (nI (2 * vn))), (0, .ref h0), (1, .int wI)])) => ?_)
  have hl : lv_has _ _ ([(0, .ref h0), (1, .int wI), (2, .int (nI (2 * vn))), (3, .int (nI 0))]) := lv_sub hl [2, 3, 1, 0] rfl
  refine (fun (loop : ∀ (n9 : Nat) (k5 : Nat) (nq : Int32) (H : Heap) (locs : List Loc) (ls : Array Slot), (k5 ≤ mr) →  (mr < k5 + n9) → va_P (dC, dI) vwCl (WR a k h0 (fT vi 0 0) vj vF vG) H → va_D A (WR a k h0 (fT vi 0 0) vj vF vG) → va_S A s.heap H locs → lv_has ls 4 [(0, .ref h0), (1, .int wI), (2, .int nq), (3, .int (nI k5))] → W p l e _ s m _ below meth c H locs 0 0 _ (F0 m 14 ls [])) => loop (mr + 1) 0 (nI (2 * vn)) _ _ _ (by omega) (by omega) hP hD hS hl) ?_
  intro n9
  induction n9 with
  | zero => intro k5 nq H locs ls hk5 hf9; exact False.elim (by omega)
  | succ n9 ih14 =>
    intro k5 nq H locs ls hk5 hf14 hP hD hS hl
    refine lv_iload_n hx hb dX12_about_14 rfl (lv_at hl 3 rfl) ?_
    refine lv_aload_n hx hb dX12_about_15 rfl (lv_at hl 0 rfl) ?_
    refine va_get (D := (dC, dI)) (ci := 12) (v := .int (vi 91)) (C := RX12) (T := TX12) (N := 163) (fs := fM (vS a (fT vi 0 0) vj)) hx hb hts iwsRX12_about_in12 hown hK hP 0 rfl rfl 91 (by decide) (hts _ hm_r_X12_about_1) (fun _ h9 => h9) rfl dX12_about_16 ?_
    refine lv_topi (fun y3 hy3 => ?_)
    obtain rfl : (nI mr) = y3 := (hy3.trans (hmr)).symm
    refine lv_icmp_ge (tgt := 46) hx hb dX12_about_19 (by decide) (fun c_19 => ?_) (fun c_19 => ?_)
    · have t_19 : ((k5 : Nat) : Int) ≥ ((mr : Nat) : Int) := toI_ge c_19 (nI_toInt (by omega)) (nI_toInt (by omega))
      refine lv_iload_n hx hb dX12_about_46 rfl (lv_at hl 1 rfl) ?_
      by_cases s_47_0 : wI = 0
      · have ts_47_0 : (wI).toInt = 0 := toI_eq s_47_0 rfl (by decide)
        refine lv_tableIn (off := 45) (tgt := 92) hx hb dX12_about_47 (by rw [s_47_0]; decide) (by rw [s_47_0]; decide) (by rw [s_47_0]; decide) (by decide) ?_
        refine lv_aload_n hx hb dX12_about_92 rfl (lv_at hl 0 rfl) ?_
        refine va_get (D := (dC, dI)) (ci := 12) (v := .int (vi 16)) (C := RX12) (T := TX12) (N := 163) (fs := fM (vS a (fT vi 0 0) vj)) hx hb hts iwsRX12_about_in12 hown hK hP 0 rfl rfl 16 (by decide) (hts (.fieldLink RX12 468 "OptimaWorksModel" "taped" "I") (by decide +kernel)) (fun _ h9 => h9) rfl dX12_about_93 ?_
        refine W.widen (k := 0) (n := 0) (by decide +kernel) (by decide +kernel) ?_
        exact W.iret (v := (vi 16)) hx hb hr (fun t9_ ht hW => ⟨⟨(vi 16), (), rfl, trivial, by rw [ht]; exact hP, hD⟩, hS.F ht⟩) hS.2.2 dX12_about_96
      · have ts_47_0 : ¬ (wI).toInt = 0 := toI_neq s_47_0 rfl (by decide)
        by_cases s_47_1 : wI = 1
        · have ts_47_1 : (wI).toInt = 1 := toI_eq s_47_1 rfl (by decide)
          refine lv_tableIn (off := 50) (tgt := 97) hx hb dX12_about_47 (by rw [s_47_1]; decide) (by rw [s_47_1]; decide) (by rw [s_47_1]; decide) (by decide) ?_
          refine lv_aload_n hx hb dX12_about_97 rfl (lv_at hl 0 rfl) ?_
          refine va_get (D := (dC, dI)) (ci := 12) (v := .int (vi 125)) (C := RX12) (T := TX12) (N := 163) (fs := fM (vS a (fT vi 0 0) vj)) hx hb hts iwsRX12_about_in12 hown hK hP 0 rfl rfl 125 (by decide) (hts (.fieldLink RX12 933 "OptimaWorksModel" "printed" "I") (by decide +kernel)) (fun _ h9 => h9) rfl dX12_about_98 ?_
          refine W.widen (k := 0) (n := 0) (by decide +kernel) (by decide +kernel) ?_
          exact W.iret (v := (vi 125)) hx hb hr (fun t9_ ht hW => ⟨⟨(vi 125), (), rfl, trivial, by rw [ht]; exact hP, hD⟩, hS.F ht⟩) hS.2.2 dX12_about_101
        · have ts_47_1 : ¬ (wI).toInt = 1 := toI_neq s_47_1 rfl (by decide)
          by_cases s_47_2 : wI = 2
          · have ts_47_2 : (wI).toInt = 2 := toI_eq s_47_2 rfl (by decide)
            refine lv_tableIn (off := 55) (tgt := 102) hx hb dX12_about_47 (by rw [s_47_2]; decide) (by rw [s_47_2]; decide) (by rw [s_47_2]; decide) (by decide) ?_
            refine lv_aload_n hx hb dX12_about_102 rfl (lv_at hl 0 rfl) ?_
            refine va_get (D := (dC, dI)) (ci := 12) (v := .int (vi 90)) (C := RX12) (T := TX12) (N := 163) (fs := fM (vS a (fT vi 0 0) vj)) hx hb hts iwsRX12_about_in12 hown hK hP 0 rfl rfl 90 (by decide) (hts _ hm_r_X12_about_0) (fun _ h9 => h9) rfl dX12_about_103 ?_
            refine lv_topi (fun y4 hy4 => ?_)
            obtain rfl : (nI vn) = y4 := (hy4.trans (hvn)).symm
            refine W.widen (k := 0) (n := 0) (by decide +kernel) (by decide +kernel) ?_
            exact W.iret (v := (nI vn)) hx hb hr (fun t9_ ht hW => ⟨⟨(nI vn), (), rfl, trivial, by rw [ht]; exact hP, hD⟩, hS.F ht⟩) hS.2.2 dX12_about_106
          · have ts_47_2 : ¬ (wI).toInt = 2 := toI_neq s_47_2 rfl (by decide)
            by_cases s_47_3 : wI = 3
            · have ts_47_3 : (wI).toInt = 3 := toI_eq s_47_3 rfl (by decide)
              refine lv_tableIn (off := 60) (tgt := 107) hx hb dX12_about_47 (by rw [s_47_3]; decide) (by rw [s_47_3]; decide) (by rw [s_47_3]; decide) (by decide) ?_
              refine lv_aload_n hx hb dX12_about_107 rfl (lv_at hl 0 rfl) ?_
              refine va_get (D := (dC, dI)) (ci := 12) (v := .int (vi 91)) (C := RX12) (T := TX12) (N := 163) (fs := fM (vS a (fT vi 0 0) vj)) hx hb hts iwsRX12_about_in12 hown hK hP 0 rfl rfl 91 (by decide) (hts _ hm_r_X12_about_1) (fun _ h9 => h9) rfl dX12_about_108 ?_
              refine lv_topi (fun y5 hy5 => ?_)
              obtain rfl : (nI mr) = y5 := (hy5.trans (hmr)).symm
              refine W.widen (k := 0) (n := 0) (by decide +kernel) (by decide +kernel) ?_
              exact W.iret (v := (nI mr)) hx hb hr (fun t9_ ht hW => ⟨⟨(nI mr), (), rfl, trivial, by rw [ht]; exact hP, hD⟩, hS.F ht⟩) hS.2.2 dX12_about_111
            · have ts_47_3 : ¬ (wI).toInt = 3 := toI_neq s_47_3 rfl (by decide)
              by_cases s_47_4 : wI = 4
              · have ts_47_4 : (wI).toInt = 4 := toI_eq s_47_4 rfl (by decide)
                refine lv_tableIn (off := 65) (tgt := 112) hx hb dX12_about_47 (by rw [s_47_4]; decide) (by rw [s_47_4]; decide) (by rw [s_47_4]; decide) (by decide) ?_
                refine lv_aload_n hx hb dX12_about_112 rfl (lv_at hl 0 rfl) ?_
                refine va_get (D := (dC, dI)) (ci := 12) (v := .int (vi 93)) (C := RX12) (T := TX12) (N := 163) (fs := fM (vS a (fT vi 0 0) vj)) hx hb hts iwsRX12_about_in12 hown hK hP 0 rfl rfl 93 (by decide) (hts (.fieldLink RX12 805 "OptimaWorksModel" "modelGoals" "I") (by decide +kernel)) (fun _ h9 => h9) rfl dX12_about_113 ?_
                refine W.widen (k := 0) (n := 0) (by decide +kernel) (by decide +kernel) ?_
                exact W.iret (v := (vi 93)) hx hb hr (fun t9_ ht hW => ⟨⟨(vi 93), (), rfl, trivial, by rw [ht]; exact hP, hD⟩, hS.F ht⟩) hS.2.2 dX12_about_116
              · have ts_47_4 : ¬ (wI).toInt = 4 := toI_neq s_47_4 rfl (by decide)
                by_cases s_47_5 : wI = 5
                · have ts_47_5 : (wI).toInt = 5 := toI_eq s_47_5 rfl (by decide)
                  refine lv_tableIn (off := 70) (tgt := 117) hx hb dX12_about_47 (by rw [s_47_5]; decide) (by rw [s_47_5]; decide) (by rw [s_47_5]; decide) (by decide) ?_
                  refine lv_aload_n hx hb dX12_about_117 rfl (lv_at hl 0 rfl) ?_
                  refine va_get (D := (dC, dI)) (ci := 12) (v := .int (vi 92)) (C := RX12) (T := TX12) (N := 163) (fs := fM (vS a (fT vi 0 0) vj)) hx hb hts iwsRX12_about_in12 hown hK hP 0 rfl rfl 92 (by decide) (hts (.fieldLink RX12 802 "OptimaWorksModel" "differents" "I") (by decide +kernel)) (fun _ h9 => h9) rfl dX12_about_118 ?_
                  refine W.widen (k := 0) (n := 0) (by decide +kernel) (by decide +kernel) ?_
                  exact W.iret (v := (vi 92)) hx hb hr (fun t9_ ht hW => ⟨⟨(vi 92), (), rfl, trivial, by rw [ht]; exact hP, hD⟩, hS.F ht⟩) hS.2.2 dX12_about_121
                · have ts_47_5 : ¬ (wI).toInt = 5 := toI_neq s_47_5 rfl (by decide)
                  by_cases s_47_6 : wI = 6
                  · have ts_47_6 : (wI).toInt = 6 := toI_eq s_47_6 rfl (by decide)
                    refine lv_tableIn (off := 75) (tgt := 122) hx hb dX12_about_47 (by rw [s_47_6]; decide) (by rw [s_47_6]; decide) (by rw [s_47_6]; decide) (by decide) ?_
                    refine lv_aload_n hx hb dX12_about_122 rfl (lv_at hl 0 rfl) ?_
                    refine va_get (D := (dC, dI)) (ci := 12) (v := .int (vi 95)) (C := RX12) (T := TX12) (N := 163) (fs := fM (vS a (fT vi 0 0) vj)) hx hb hts iwsRX12_about_in12 hown hK hP 0 rfl rfl 95 (by decide) (hts _ hm_r_X12_about_2) (fun _ h9 => h9) rfl dX12_about_123 ?_
                    refine lv_if_eq (tgt := 136) hx hb dX12_about_126 (by decide) (fun c_126 => ?_) (fun c_126 => ?_)
                    · have t_126 : ((vi 95)).toInt = 0 := toI_eq c_126 rfl (by decide)
                      refine lv_iconst (v := 0) hx hb dX12_about_136 (by decide) ?_
                      refine W.widen (k := 0) (n := 0) (by decide +kernel) (by decide +kernel) ?_
                      exact W.iret (v := 0) hx hb hr (fun t9_ ht hW => ⟨⟨0, (), rfl, trivial, by rw [ht]; exact hP, hD⟩, hS.F ht⟩) hS.2.2 dX12_about_137
                    · have t_126 : ¬ ((vi 95)).toInt = 0 := toI_neq c_126 rfl (by decide)
                      refine lv_aload_n hx hb dX12_about_129 rfl (lv_at hl 0 rfl) ?_
                      refine va_get (D := (dC, dI)) (ci := 12) (v := .int (vi 94)) (C := RX12) (T := TX12) (N := 163) (fs := fM (vS a (fT vi 0 0) vj)) hx hb hts iwsRX12_about_in12 hown hK hP 0 rfl rfl 94 (by decide) (hts (.fieldLink RX12 780 "OptimaWorksModel" "cases" "I") (by decide +kernel)) (fun _ h9 => h9) rfl dX12_about_130 ?_
                      refine lv_goto (tgt := 137) hx hb dX12_about_133 (by decide) ?_
                      refine W.widen (k := 0) (n := 0) (by decide +kernel) (by decide +kernel) ?_
                      exact W.iret (v := (vi 94)) hx hb hr (fun t9_ ht hW => ⟨⟨(vi 94), (), rfl, trivial, by rw [ht]; exact hP, hD⟩, hS.F ht⟩) hS.2.2 dX12_about_137
                  · have ts_47_6 : ¬ (wI).toInt = 6 := toI_neq s_47_6 rfl (by decide)
                    by_cases s_47_7 : wI = 7
                    · have ts_47_7 : (wI).toInt = 7 := toI_eq s_47_7 rfl (by decide)
                      refine lv_tableIn (off := 91) (tgt := 138) hx hb dX12_about_47 (by rw [s_47_7]; decide) (by rw [s_47_7]; decide) (by rw [s_47_7]; decide) (by decide) ?_
                      refine lv_aload_n hx hb dX12_about_138 rfl (lv_at hl 0 rfl) ?_
                      refine va_get (D := (dC, dI)) (ci := 12) (v := .int (vi 95)) (C := RX12) (T := TX12) (N := 163) (fs := fM (vS a (fT vi 0 0) vj)) hx hb hts iwsRX12_about_in12 hown hK hP 0 rfl rfl 95 (by decide) (hts _ hm_r_X12_about_2) (fun _ h9 => h9) rfl dX12_about_139 ?_
                      refine lv_if_eq (tgt := 149) hx hb dX12_about_142 (by decide) (fun c_142 => ?_) (fun c_142 => ?_)
                      · have t_142 : ((vi 95)).toInt = 0 := toI_eq c_142 rfl (by decide)
                        refine lv_iconst (v := 0) hx hb dX12_about_149 (by decide) ?_
                        refine W.widen (k := 0) (n := 0) (by decide +kernel) (by decide +kernel) ?_
                        exact W.iret (v := 0) hx hb hr (fun t9_ ht hW => ⟨⟨0, (), rfl, trivial, by rw [ht]; exact hP, hD⟩, hS.F ht⟩) hS.2.2 dX12_about_150
                      · have t_142 : ¬ ((vi 95)).toInt = 0 := toI_neq c_142 rfl (by decide)
                        refine lv_iload_n hx hb dX12_about_145 rfl (lv_at hl 2 rfl) ?_
                        refine lv_goto (tgt := 150) hx hb dX12_about_146 (by decide) ?_
                        refine W.widen (k := 0) (n := 0) (by decide +kernel) (by decide +kernel) ?_
                        exact W.iret (v := nq) hx hb hr (fun t9_ ht hW => ⟨⟨nq, (), rfl, trivial, by rw [ht]; exact hP, hD⟩, hS.F ht⟩) hS.2.2 dX12_about_150
                    · have ts_47_7 : ¬ (wI).toInt = 7 := toI_neq s_47_7 rfl (by decide)
                      refine lv_tableOut (tgt := 151) hx hb dX12_about_47 (by have := lv_neT s_47_0 (show Int32.toInt 0 = 0 by decide); have := lv_neT s_47_1 (show Int32.toInt 1 = 1 by decide); have := lv_neT s_47_2 (show Int32.toInt 2 = 2 by decide); have := lv_neT s_47_3 (show Int32.toInt 3 = 3 by decide); have := lv_neT s_47_4 (show Int32.toInt 4 = 4 by decide); have := lv_neT s_47_5 (show Int32.toInt 5 = 5 by decide); have := lv_neT s_47_6 (show Int32.toInt 6 = 6 by decide); have := lv_neT s_47_7 (show Int32.toInt 7 = 7 by decide); omega) (by decide) ?_
                      refine lv_iconst (v := (-1)) hx hb dX12_about_151 (by decide) ?_
                      refine W.widen (k := 0) (n := 0) (by decide +kernel) (by decide +kernel) ?_
                      exact W.iret (v := (-1)) hx hb hr (fun t9_ ht hW => ⟨⟨(-1), (), rfl, trivial, by rw [ht]; exact hP, hD⟩, hS.F ht⟩) hS.2.2 dX12_about_152
    · have t_19 : ¬ ((k5 : Nat) : Int) ≥ ((mr : Nat) : Int) := toI_nge c_19 (nI_toInt (by omega)) (nI_toInt (by omega))
      refine lv_iload_n hx hb dX12_about_22 rfl (lv_at hl 2 rfl) ?_
      refine lv_aload_n hx hb dX12_about_23 rfl (lv_at hl 0 rfl) ?_
      refine va_get (D := (dC, dI)) (ci := 12) (v := .ref (a 59)) (C := RX12) (T := TX12) (N := 163) (fs := fM (vS a (fT vi 0 0) vj)) hx hb hts iwsRX12_about_in12 hown hK hP 0 rfl rfl 99 (by decide) (hts (.fieldLink RX12 200 "OptimaWorksModel" "wayMany" "[I") (by decide +kernel)) (fun _ h9 => h9) rfl dX12_about_24 ?_
      refine lv_iload_n hx hb dX12_about_27 rfl (lv_at hl 3 rfl) ?_
      refine va_iald (cA := k 59) (n := 13) (f := (vF 59)) hx hb hK hP 60 59 (WR_get 59 (by decide)) (TR_get 59 (by decide)) (vp_in_nI (show k5 < 13 by omega) (by omega)) dX12_about_28 ?_
      refine lv_topi (fun y6 hy6 => ?_)
      obtain rfl : ((vF 59) k5) = y6 := (hy6.trans (by rw [nI_clamp (by omega)])).symm
      refine lv_iconst (v := 1) hx hb dX12_about_29 (by decide) ?_
      refine W.cut (pc := 38) (fun H locs ls stk => ∃ (j3_s0 : Int32),  stk = [.int j3_s0, .int nq] ∧ va_P (dC, dI) vwCl (WR a k h0 (fT vi 0 0) vj vF vG) H ∧ va_D A (WR a k h0 (fT vi 0 0) vj vF vG) ∧ va_S A s.heap H locs ∧ lv_has ls 4 [(0, .ref h0), (1, .int wI), (2, .int nq), (3, .int (nI k5))]) (fun join1 => ?_) ?_
      · refine lv_icmp_ne (tgt := 37) hx hb dX12_about_30 (by decide) (fun c_30 => ?_) (fun c_30 => ?_)
        · have t_30 : (((vF 59) k5)).toInt ≠ 1 := toI_ne c_30 rfl (by decide)
          refine lv_iconst (v := 0) hx hb dX12_about_37 (by decide) ?_
          have hl : lv_has _ _ ([(0, .ref h0), (1, .int wI), (2, .int nq), (3, .int (nI k5))]) := lv_sub hl [0, 1, 2, 3] rfl
          exact join1 _ _ _ _ ⟨0, rfl, hP, hD, hS, hl⟩
        · have t_30 : (((vF 59) k5)).toInt = 1 := toI_nne c_30 rfl (by decide)
          refine lv_iconst (v := 1) hx hb dX12_about_33 (by decide) ?_
          refine lv_goto (tgt := 38) hx hb dX12_about_34 (by decide) ?_
          have hl : lv_has _ _ ([(0, .ref h0), (1, .int wI), (2, .int nq), (3, .int (nI k5))]) := lv_sub hl [0, 1, 2, 3] rfl
          exact join1 _ _ _ _ ⟨1, rfl, hP, hD, hS, hl⟩
      · rintro H locs ls stk ⟨j3_s0, rfl, hP, hD, hS, hl⟩
        refine lv_iadd hx hb dX12_about_38 ?_
        refine lv_istore_n hx hb dX12_about_39 rfl hl (by decide) rfl (fun ls (hl : lv_has ls _ ([(2, .int (nq + j3_s0)), (0, .ref h0), (1, .int wI), (3, .int (nI k5))])) => ?_)
        refine lv_iinc (v := (nI (k5 + 1))) hx hb dX12_about_40 hl (k := 3) rfl (nI_add k5 1) (by decide) rfl (fun ls (hl : lv_has ls _ ([(3, .int (nI (k5 + 1))), (2, .int (nq + j3_s0)), (0, .ref h0), (1, .int wI)])) => ?_)
        refine lv_goto (tgt := 14) hx hb dX12_about_43 (by decide) ?_
        have hl : lv_has _ _ ([(0, .ref h0), (1, .int wI), (2, .int (nq + j3_s0)), (3, .int (nI (k5 + 1)))]) := lv_sub hl [2, 3, 1, 0] rfl
        exact ih14 (k5 + 1) (nq + j3_s0) _ _ _ (by omega) (by omega) hP hD hS hl
end
section
theorem nI_of_bv (y : Int32) : ∃ c : Nat, c < 2 ^ 32 ∧ y = nI c ∧ c = y.toBitVec.toNat := ⟨y.toBitVec.toNat, y.toBitVec.isLt, Int32.toBitVec_inj.mp (by show _ = BitVec.ofNat 32 _; simp), rfl⟩
theorem or_nI (a b : Nat) : nI a ||| nI b = nI (a ||| b) := by
  refine Int32.toBitVec_inj.mp (BitVec.eq_of_getLsbD_eq ?_)
  intro i hi
  rw [Int32.toBitVec_or, BitVec.getLsbD_or]
  show ((BitVec.ofNat 32 a).getLsbD i || (BitVec.ofNat 32 b).getLsbD i) = (BitVec.ofNat 32 (a ||| b)).getLsbD i
  simp [BitVec.getLsbD_ofNat, Nat.testBit_or, hi]
theorem bitN {b v : Nat} (hb : b < 2 ^ 31) (hv : v < 32) : (nI b >>> (nI v &&& 31)) &&& 1 = nI (b / 2 ^ v % 2) := by
  rw [pk_shrN hb _ v (sl_i v hv), pk_andN (Nat.lt_of_le_of_lt (Nat.div_le_self _ _) (by omega)) 1 (by decide)]
theorem clr_bit : ∀ v, v < 16 → ((((1 : Int32) <<< (nI v &&& 31)) ^^^ (-1)).toBitVec.toNat).testBit v = false := by decide +kernel
/-- a bit is taken away -/
theorem clrB {b v : Nat} (hb : b < 65536) (hv : v < 16) (h : ¬ (nI b >>> (nI v &&& 31)) &&& 1 = 0) : ∃ b', b' < b ∧ nI b &&& (((1 : Int32) <<< (nI v &&& 31)) ^^^ (-1)) = nI b' := by
  obtain ⟨c, hc, e1, e2⟩ := nI_of_bv (((1 : Int32) <<< (nI v &&& 31)) ^^^ (-1))
  rw [bitN (by omega) (by omega)] at h
  have h1 : b / 2 ^ v % 2 = 1 := by
    rcases Nat.mod_two_eq_zero_or_one (b / 2 ^ v) with h9 | h9
    · rw [h9] at h; exact absurd nI_0 h
    · exact h9
  have h2 : b.testBit v = true := by rw [Nat.testBit_eq_decide_div_mod_eq, h1]; rfl
  refine ⟨b &&& c, ?_, by rw [e1, and_nI]⟩
  rcases Nat.lt_or_eq_of_le (Nat.and_le_left (n := b) (m := c)) with h3 | h3
  · exact h3
  · exfalso
    have h4 : (b &&& c).testBit v = true := by rw [h3]; exact h2
    rw [Nat.testBit_and, e2, clr_bit v hv, Bool.and_false] at h4
    exact absurd h4 (by decide)
theorem pow_bit : ∀ x, x < 16 → ((1 : Int32) <<< (nI x &&& 31)) = nI (2 ^ x) := by decide +kernel
/-- a bit is added -/
theorem setB {a x k : Nat} (ha : a < 2 ^ k) (hk : k ≤ 16) (hx : x < k) (h : (nI a >>> (nI x &&& 31)) &&& 1 = 0) : ∃ a', a < a' ∧ a' < 2 ^ k ∧ nI a ||| ((1 : Int32) <<< (nI x &&& 31)) = nI a' := by
  have hp : (2 : Nat) ^ k ≤ 2 ^ 16 := Nat.pow_le_pow_right (by decide) hk
  have hpx : (2 : Nat) ^ x < 2 ^ k := Nat.pow_lt_pow_right (by decide) hx
  rw [bitN (by omega) (by omega)] at h
  have h1 : a / 2 ^ x % 2 = 0 := by
    rcases Nat.mod_two_eq_zero_or_one (a / 2 ^ x) with h9 | h9
    · exact h9
    · rw [h9] at h; exact absurd h (by decide)
  have h2 : a.testBit x = false := by rw [Nat.testBit_eq_decide_div_mod_eq, h1]; rfl
  refine ⟨a ||| 2 ^ x, ?_, Nat.or_lt_two_pow ha hpx, by rw [pow_bit x (by omega), or_nI]⟩
  rcases Nat.lt_or_eq_of_le (Nat.left_le_or (n := a) (m := 2 ^ x)) with h3 | h3
  · exact h3
  · exfalso
    have h4 : (a ||| 2 ^ x).testBit x = false := by rw [← h3]; exact h2
    rw [Nat.testBit_or, Nat.testBit_two_pow_self, Bool.or_true] at h4
    exact absurd h4 (by decide)
/-- rules keep to the holders -/
def RulV (k a b c : Int32) (hn : Nat) : Prop := (k = 0 ∨ k = 2 ∨ k = 3) ∨ (k = 1 ∧ (∃ x, x < hn ∧ a = nI x) ∧ ∃ x, x < hn ∧ c = nI x) ∨ (k = 4 ∧ (∃ x, x < hn ∧ a = nI x) ∧ ∃ x, x < hn ∧ b = nI x)
def RuO (f80 f81 f82 f83 : Nat → Int32) (hn ru : Nat) : Prop := ∀ r, r < ru → RulV (f80 r) (f81 r) (f82 r) (f83 r) hn
theorem RulV.mono {k a b c : Int32} {hn h2 : Nat} (h : RulV k a b c hn) (hh : hn ≤ h2) : RulV k a b c h2 := by
  rcases h with h | ⟨h1, ⟨x, hx, ex⟩, y, hy, ey⟩ | ⟨h1, ⟨x, hx, ex⟩, y, hy, ey⟩
  · exact Or.inl h
  · exact Or.inr (Or.inl ⟨h1, ⟨x, by omega, ex⟩, y, by omega, ey⟩)
  · exact Or.inr (Or.inr ⟨h1, ⟨x, by omega, ex⟩, y, by omega, ey⟩)
theorem RuO.more {f80 f81 f82 f83 g80 g81 g82 g83 : Nat → Int32} {hn ru : Nat} (h : RuO f80 f81 f82 f83 hn ru) (e0 : ∀ r, r < ru → g80 r = f80 r ∧ g81 r = f81 r ∧ g82 r = f82 r ∧ g83 r = f83 r) (h1 : RulV (g80 ru) (g81 ru) (g82 ru) (g83 ru) hn) : RuO g80 g81 g82 g83 hn (ru + 1) := fun r hr => by
  by_cases e : r = ru
  · subst e; exact h1
  · obtain ⟨a, b, c, d⟩ := e0 r (by omega)
    rw [a, b, c, d]; exact h r (by omega)
def DoO (f78 : Nat → Int32) (hn : Nat) : Prop := ∀ h, h < hn → ∃ b, b < 65536 ∧ f78 h = nI b
def LmO (x : Int32) : Prop := x = -1 ∨ ∃ l, l ≤ 5000 ∧ x = nI l
end
section
/-- what stands on the desk of nets: how many arcs, from, to, room, cost -/
abbrev NtD := Int × (Nat → Int32) × (Nat → Int32) × (Nat → Int32) × (Nat → Int32)
/-- what stands on the desk of clauses: how many, wants, wants not, weight -/
abbrev ClD := Int × (Nat → Int32) × (Nat → Int32) × (Nat → Int32)
/-- what stands on the desk of values: how many holders, how many rules -/
abbrev VlD := Int × Int
def ntZ : NtD := (0, fun _ => 0, fun _ => 0, fun _ => 0, fun _ => 0)
def clZ : ClD := (0, fun _ => 0, fun _ => 0, fun _ => 0)
def vlZ : VlD := (0, 0)
def ntAdd (d : NtD) (a b r p : Int32) : NtD := (d.1 + 1, upd d.2.1 d.1.toNat a, upd d.2.2.1 d.1.toNat b, upd d.2.2.2.1 d.1.toNat r, upd d.2.2.2.2 d.1.toNat p)
def ntDrop (d : NtD) : NtD := (d.1 - 1, d.2)
def clAdd (d : ClD) (y n w : Int32) : ClD := (d.1 + 1, upd d.2.1 d.1.toNat y, upd d.2.2.1 d.1.toNat n, upd d.2.2.2 d.1.toNat w)
def clDrop (d : ClD) : ClD := (d.1 - 1, d.2)
theorem ntAdd_of {n x : Int} {i : Nat} {f1 f2 f3 f4 g1 g2 g3 g4 : Nat → Int32} {a b r p : Int32} (hx : x = n + 1) (hi : i = n.toNat) (h1 : g1 = upd f1 i a) (h2 : g2 = upd f2 i b) (h3 : g3 = upd f3 i r) (h4 : g4 = upd f4 i p) : (x, g1, g2, g3, g4) = ntAdd (n, f1, f2, f3, f4) a b r p := by
  subst hx hi h1 h2 h3 h4
  rfl
theorem ntDrop_of {n x : Int} {f1 f2 f3 f4 : Nat → Int32} (hx : x = n - 1) : (x, f1, f2, f3, f4) = ntDrop (n, f1, f2, f3, f4) := by
  subst hx
  rfl
theorem clAdd_of {n x : Int} {i : Nat} {f1 f2 f3 g1 g2 g3 : Nat → Int32} {y m w : Int32} (hx : x = n + 1) (hi : i = n.toNat) (h1 : g1 = upd f1 i y) (h2 : g2 = upd f2 i m) (h3 : g3 = upd f3 i w) : (x, g1, g2, g3) = clAdd (n, f1, f2, f3) y m w := by
  subst hx hi h1 h2 h3
  rfl
theorem clDrop_of {n x : Int} {f1 f2 f3 : Nat → Int32} (hx : x = n - 1) : (x, f1, f2, f3) = clDrop (n, f1, f2, f3) := by
  subst hx
  rfl
/-- a set of holders; a holder; a rule -/
def SetV (a h : Int32) : Prop := 0 < a.toInt ∧ a.toInt < ((1 : Int32) <<< (h &&& 31)).toInt
def HdV (i h : Int32) : Prop := 0 ≤ i.toInt ∧ i.toInt < h.toInt
def RulX (k a b c h : Int32) : Prop := (k.toInt = 0 ∧ SetV a h) ∨ (k.toInt = 1 ∧ HdV a h ∧ HdV c h ∧ -15 ≤ b.toInt ∧ b.toInt ≤ 15) ∨ (k.toInt = 2 ∧ SetV a h ∧ (-200 ≤ b.toInt ∧ b.toInt ≤ 200) ∧ -200 ≤ c.toInt ∧ c.toInt ≤ 200) ∨ (k.toInt = 3 ∧ SetV a h ∧ (-200 ≤ b.toInt ∧ b.toInt ≤ 200) ∧ 0 ≤ c.toInt ∧ c.toInt ≤ 15) ∨ (k.toInt = 4 ∧ HdV a h ∧ HdV b h ∧ a.toInt ≠ b.toInt)
theorem ntZ_x {x : Int} (h : x = 0) : ntZ = (x, (fun _ => 0), (fun _ => 0), (fun _ => 0), (fun _ => 0)) := by
  subst h
  rfl
theorem clZ_x {x : Int} (h : x = 0) : clZ = (x, (fun _ => 0), (fun _ => 0), (fun _ => 0)) := by
  subst h
  rfl
theorem vlZ_x {x y : Int} (h : x = 0) (h2 : y = 0) : vlZ = (x, y) := by
  subst h h2
  rfl
theorem vl_x {x y a b : Int} (h : x = a) (h2 : y = b) : ((a, b) : VlD) = (x, y) := by
  subst h h2
  rfl
theorem i32z0 : (0 : Int32).toInt = 0 := by decide
theorem ntAdd_0 {x : Int} {g1 g2 g3 g4 : Nat → Int32} {a b r p : Int32} (hx : x = (0 : Int32).toInt + 1) (h1 : g1 = upd (fun _ => 0) (0 : Int32).toInt.toNat a) (h2 : g2 = upd (fun _ => 0) (0 : Int32).toInt.toNat b) (h3 : g3 = upd (fun _ => 0) (0 : Int32).toInt.toNat r) (h4 : g4 = upd (fun _ => 0) (0 : Int32).toInt.toNat p) : ntAdd ntZ a b r p = (x, g1, g2, g3, g4) := by
  rw [i32z0] at hx h1 h2 h3 h4
  subst hx h1 h2 h3 h4
  rfl
theorem clAdd_0 {x : Int} {g1 g2 g3 : Nat → Int32} {y m w : Int32} (hx : x = (0 : Int32).toInt + 1) (h1 : g1 = upd (fun _ => 0) (0 : Int32).toInt.toNat y) (h2 : g2 = upd (fun _ => 0) (0 : Int32).toInt.toNat m) (h3 : g3 = upd (fun _ => 0) (0 : Int32).toInt.toNat w) : clAdd clZ y m w = (x, g1, g2, g3) := by
  rw [i32z0] at hx h1 h2 h3
  subst hx h1 h2 h3
  rfl
/-- how many below n -/
def cntB (f : Nat → Bool) : Nat → Nat
  | 0 => 0
  | n + 1 => cntB f n + (if f n = true then 1 else 0)
theorem cntB_le (f : Nat → Bool) (n : Nat) : cntB f n ≤ n := by
  induction n with
  | zero => exact Nat.le_refl 0
  | succ n ih => unfold cntB; split <;> omega
theorem cntB_all {f : Nat → Bool} {n : Nat} (h : cntB f n = n) : ∀ i, i < n → f i = true := by
  induction n with
  | zero => intro i hi; omega
  | succ n ih =>
    intro i hi
    unfold cntB at h
    have := cntB_le f n
    by_cases e : f n = true
    · rw [if_pos e] at h
      by_cases e2 : i = n
      · rw [e2]; exact e
      · exact ih (by omega) i (by omega)
    · rw [if_neg e] at h; omega
theorem cntB_some {f : Nat → Bool} {n : Nat} (h : cntB f n < n) : ∃ i, i < n ∧ f i = false := by
  induction n with
  | zero => omega
  | succ n ih =>
    unfold cntB at h
    by_cases e : f n = true
    · rw [if_pos e] at h
      obtain ⟨i, h1, h2⟩ := ih (by omega)
      exact ⟨i, by omega, h2⟩
    · exact ⟨n, by omega, by cases h9 : f n; rfl; exact absurd h9 e⟩
theorem cntB_congr {f g : Nat → Bool} {n : Nat} (h : ∀ i, i < n → f i = g i) : cntB f n = cntB g n := by
  induction n with
  | zero => rfl
  | succ n ih => unfold cntB; rw [ih (fun i hi => h i (by omega)), h n (by omega)]
theorem cntB_set {f g : Nat → Bool} {n a : Nat} (ha : a < n) (hf : f a = false) (hg : ∀ i, g i = true ↔ (f i = true ∨ i = a)) : cntB g n = cntB f n + 1 := by
  induction n with
  | zero => omega
  | succ n ih =>
    unfold cntB
    by_cases e : a = n
    · subst e
      have e1 : cntB g a = cntB f a := cntB_congr (fun i hi => by
        cases h1 : g i <;> cases h2 : f i
        · rfl
        · exact absurd ((hg i).mpr (Or.inl h2)) (by rw [h1]; decide)
        · rcases (hg i).mp h1 with h3 | h3
          · rw [h2] at h3; cases h3
          · omega
        · rfl)
      rw [e1, if_pos ((hg a).mpr (Or.inr rfl)), if_neg (by rw [hf]; decide)]
    · rw [ih (by omega)]
      have e1 : (g n = true) ↔ (f n = true) := ⟨fun h => ((hg n).mp h).elim id (fun h2 => absurd h2.symm e), fun h => (hg n).mpr (Or.inl h)⟩
      by_cases e2 : f n = true
      · rw [if_pos (e1.mpr e2), if_pos e2] <;> omega
      · rw [if_neg (fun h => e2 (e1.mp h)), if_neg e2]
theorem cntB_mono {p q : Nat → Bool} {n : Nat} (h : ∀ i, i < n → p i = true → q i = true) : cntB p n ≤ cntB q n := by
  induction n with
  | zero => exact Nat.le_refl 0
  | succ n ih =>
    have ih2 := ih (fun i hi => h i (by omega))
    unfold cntB
    by_cases e : p n = true
    · rw [if_pos e, if_pos (h n (by omega) e)]; omega
    · rw [if_neg e]
      split <;> omega
theorem cntB_lt {p q : Nat → Bool} {n i : Nat} (h : ∀ i, i < n → p i = true → q i = true) (hi : i < n) (hp : p i = false) (hq : q i = true) : cntB p n + 1 ≤ cntB q n := by
  induction n with
  | zero => omega
  | succ n ih =>
    unfold cntB
    by_cases e : i = n
    · subst e
      have := cntB_mono (p := p) (q := q) (n := i) (fun k hk => h k (by omega))
      rw [if_neg (by rw [hp]; decide), if_pos hq]; omega
    · have ih2 := ih (fun k hk => h k (by omega)) (by omega)
      by_cases e2 : p n = true
      · rw [if_pos e2, if_pos (h n (by omega) e2)]; omega
      · rw [if_neg e2]
        split <;> omega
theorem cntB_miss {p : Nat → Bool} {n i : Nat} (hi : i < n) (hp : p i = false) : cntB p n + 1 ≤ n := by
  have h1 := cntB_lt (p := p) (q := fun _ => true) (n := n) (i := i) (fun _ _ _ => rfl) hi hp rfl
  have h2 := cntB_le (fun _ => true) n
  omega
end
section
/-! clauses: what is kept -/
def bI (x : Int32) (j : Nat) : Bool := x.toBitVec.getLsbD j
theorem bI_and (x y : Int32) (j : Nat) : bI (x &&& y) j = (bI x j && bI y j) := by
  unfold bI; rw [Int32.toBitVec_and, BitVec.getLsbD_and]
theorem bI_or (x y : Int32) (j : Nat) : bI (x ||| y) j = (bI x j || bI y j) := by
  unfold bI; rw [Int32.toBitVec_or, BitVec.getLsbD_or]
theorem bI_xor (x y : Int32) (j : Nat) : bI (x ^^^ y) j = (bI x j ^^ bI y j) := by
  unfold bI; rw [Int32.toBitVec_xor, BitVec.getLsbD_xor]
theorem bI_big {x : Int32} {j : Nat} (h : 32 ≤ j) : bI x j = false := by
  unfold bI; exact BitVec.getLsbD_of_ge _ _ h
theorem bI_0 (j : Nat) : bI 0 j = false := by
  unfold bI; show (0#32).getLsbD j = false; exact BitVec.getLsbD_zero
theorem bI_m1 {j : Nat} (h : j < 32) : bI (-1) j = true := by
  unfold bI
  have e : (-1 : Int32).toBitVec = BitVec.allOnes 32 := by decide
  rw [e, BitVec.getLsbD_allOnes]
  exact decide_eq_true h
theorem bI_ext {x y : Int32} (h : ∀ j, j < 32 → bI x j = bI y j) : x = y := by
  apply Int32.toBitVec_inj.mp
  apply BitVec.eq_of_getLsbD_eq
  intro i hi
  exact h i hi
theorem bI_zero {x : Int32} : x = 0 ↔ ∀ j, bI x j = false := by
  constructor
  · intro h j; rw [h]; exact bI_0 j
  · intro h; exact bI_ext (fun j _ => by rw [h j, bI_0])
theorem bI_1all : ((List.range 25).all (fun i => (List.range 32).all (fun j => decide (bI ((1 : Int32) <<< (nI i &&& 31)) j = decide (j = i))))) = true := by decide +kernel
theorem bI_1 {i j : Nat} (hi : i < 25) : bI ((1 : Int32) <<< (nI i &&& 31)) j = decide (j = i) := by
  by_cases hj : j < 32
  · exact of_decide_eq_true (List.all_eq_true.mp (List.all_eq_true.mp bI_1all i (List.mem_range.mpr hi)) j (List.mem_range.mpr hj))
  · rw [bI_big (by omega)]
    exact (decide_eq_false (by omega)).symm
/-- all of n clauses -/
def cFull (n : Nat) : Int32 := ((1 : Int32) <<< (nI n &&& 31)) - 1
theorem cFull_all : ((List.range 25).all (fun n => (List.range 25).all (fun j => decide (j < n → bI (cFull n) j = true)))) = true := by decide +kernel
theorem cFull_bit {n j : Nat} (hn : n < 25) (hj : j < n) : bI (cFull n) j = true :=
  of_decide_eq_true (List.all_eq_true.mp (List.all_eq_true.mp cFull_all n (List.mem_range.mpr hn)) j (List.mem_range.mpr (by omega))) hj
/-- row k does not keep clause i -/
def kN (d : ClD) (i k : Nat) : Bool := decide ((d.2.1 i &&& nI k) = 0 ∧ (d.2.2.1 i &&& (nI k ^^^ (-1))) = 0)
theorem sub_iff (r b : Int32) : (r &&& b) = b ↔ (b &&& (r ^^^ (-1))) = 0 := by
  constructor
  · intro h
    apply bI_zero.mpr
    intro j
    by_cases hj : j < 32
    · have e : bI (r &&& b) j = bI b j := by rw [h]
      rw [bI_and] at e
      rw [bI_and, bI_xor, bI_m1 hj]
      cases h1 : bI r j <;> cases h2 : bI b j <;> rw [h1, h2] at e <;> first | rfl | cases e
    · rw [bI_and, bI_big (x := b) (by omega)]; rfl
  · intro h
    apply bI_ext
    intro j hj
    have e := bI_zero.mp h j
    rw [bI_and, bI_xor, bI_m1 hj] at e
    rw [bI_and]
    cases h1 : bI r j <;> cases h2 : bI b j <;> rw [h1, h2] at e <;> first | rfl | cases e
theorem kN_cls (d : ClD) (i k : Nat) : kN d i k = true ↔ ((nI k &&& d.2.1 i) = 0 ∧ (nI k &&& d.2.2.1 i) = d.2.2.1 i) := by
  unfold kN
  rw [decide_eq_true_iff, sub_iff, Int32.and_comm]
/-- what a row costs -/
def cSum (d : ClD) (k : Nat) : Nat → Int
  | 0 => 0
  | i + 1 => cSum d k i + (if kN d i k = true then (d.2.2.2 i).toInt else 0)
def cMust (d : ClD) (k m : Nat) : Prop := ∀ i, i < m → kN d i k = true → (d.2.2.2 i).toInt ≠ 0
def cVal (d : ClD) : Prop := 0 ≤ d.1 ∧ d.1 ≤ 24 ∧ ∀ i : Nat, (i : Int) < d.1 → 0 ≤ (d.2.2.2 i).toInt ∧ (d.2.2.2 i).toInt ≤ 1000
theorem cSum.bd {d : ClD} (hv : cVal d) (k : Nat) : ∀ m : Nat, (m : Int) ≤ d.1 → 0 ≤ cSum d k m ∧ cSum d k m ≤ 1000 * (m : Int) := by
  intro m
  induction m with
  | zero => intro _; exact ⟨Int.le_refl _, Int.le_refl _⟩
  | succ m ih =>
    intro h
    have h1 := ih (by omega)
    have h2 := hv.2.2 m (by omega)
    unfold cSum
    split <;> omega
/-- the least so far, and the first row with it -/
def cBest (d : ClD) (m : Nat) (b c : Int) : Prop := (c = -1 ∧ b = -1 ∧ ∀ k, k < m → ¬ cMust d k d.1.toNat) ∨ (0 ≤ c ∧ c < (m : Int) ∧ cMust d c.toNat d.1.toNat ∧ b = cSum d c.toNat d.1.toNat ∧ ∀ k, k < m → cMust d k d.1.toNat → b < cSum d k d.1.toNat ∨ (b = cSum d k d.1.toNat ∧ c ≤ (k : Int)))
theorem cBest.start {d : ClD} {b c : Int} (hb : b = -1) (hc : c = -1) : cBest d 0 b c := Or.inl ⟨hc, hb, fun k hk => absurd hk (Nat.not_lt_zero k)⟩
theorem cBest.no {d : ClD} {m : Nat} {b c : Int} (h : cBest d m b c) (hm : ¬ cMust d m d.1.toNat) : cBest d (m + 1) b c := by
  rcases h with ⟨h1, h2, h3⟩ | ⟨h1, h2, h3, h4, h5⟩
  · refine Or.inl ⟨h1, h2, fun k hk => ?_⟩
    by_cases e : k = m
    · rw [e]; exact hm
    · exact h3 k (by omega)
  · refine Or.inr ⟨h1, by omega, h3, h4, fun k hk hk2 => ?_⟩
    by_cases e : k = m
    · rw [e] at hk2; exact absurd hk2 hm
    · exact h5 k (by omega) hk2
theorem cBest.take {d : ClD} {m : Nat} {b c b2 c2 : Int} (h : cBest d m b c) (hm : cMust d m d.1.toNat) (hb : b2 = cSum d m d.1.toNat) (hc : c2 = (m : Int)) (hl : c = -1 ∨ b2 < b) : cBest d (m + 1) b2 c2 := by
  subst hc
  have e0 : ((m : Nat) : Int).toNat = m := by omega
  refine Or.inr ⟨by omega, by omega, by rw [e0]; exact hm, by rw [e0]; exact hb, fun k hk hk2 => ?_⟩
  by_cases e : k = m
  · rw [e]; exact Or.inr ⟨hb, Int.le_refl _⟩
  · rcases h with ⟨h1, h2, h3⟩ | ⟨h1, h2, h3, h4, h5⟩
    · exact absurd hk2 (h3 k (by omega))
    · have := h5 k (by omega) hk2
      left
      omega
theorem cBest.keep {d : ClD} {m : Nat} {b c : Int} (h : cBest d m b c) (hc : c ≠ -1) (hl : ¬ cSum d m d.1.toNat < b) : cBest d (m + 1) b c := by
  rcases h with ⟨h1, h2, h3⟩ | ⟨h1, h2, h3, h4, h5⟩
  · exact absurd h1 hc
  · refine Or.inr ⟨h1, by omega, h3, h4, fun k hk hk2 => ?_⟩
    by_cases e : k = m
    · rw [e]; omega
    · exact h5 k (by omega) hk2
theorem cBest.eq {d : ClD} {m : Nat} {b c b2 c2 : Int} (h : cBest d m b c) (h2 : cBest d m b2 c2) : b = b2 ∧ c = c2 := by
  rcases h with ⟨h1, g2, h3⟩ | ⟨h1, g2, h3, h4, h5⟩
  · rcases h2 with ⟨k1, k2, k3⟩ | ⟨k1, k2, k3, k4, k5⟩
    · omega
    · exact absurd k3 (h3 _ (by omega))
  · rcases h2 with ⟨k1, k2, k3⟩ | ⟨k1, k2, k3, k4, k5⟩
    · exact absurd h3 (k3 _ (by omega))
    · have a1 := h5 _ (by omega) k3
      have a2 := k5 _ (by omega) h3
      omega
/-- row k keeps the clauses of x -/
def cSat (d : ClD) (x : Int32) (k : Nat) : Nat → Bool
  | 0 => true
  | i + 1 => cSat d x k i && (!(bI x i) || !(kN d i k))
theorem cSat_iff {d : ClD} {x : Int32} {k : Nat} : ∀ m, cSat d x k m = true ↔ ∀ i, i < m → bI x i = true → kN d i k = false := by
  intro m
  induction m with
  | zero => exact ⟨fun _ i hi => absurd hi (Nat.not_lt_zero i), fun _ => rfl⟩
  | succ m ih =>
    unfold cSat
    rw [Bool.and_eq_true, ih]
    constructor
    · rintro ⟨h1, h2⟩ i hi hx
      by_cases e : i = m
      · subst e
        rw [hx] at h2
        cases h3 : kN d i k
        · rfl
        · rw [h3] at h2; cases h2
      · exact h1 i (by omega) hx
    · intro h
      refine ⟨fun i hi => h i (by omega), ?_⟩
      cases h3 : bI x m
      · rfl
      · rw [h m (by omega) h3]; rfl
def cMods (d : ClD) (x : Int32) : Nat := cntB (fun k => cSat d x k d.1.toNat) 4096
def cCan (d : ClD) (x : Int32) : Prop := ∃ k, k < 4096 ∧ cSat d x k d.1.toNat = true
theorem cMods_pos {d : ClD} {x : Int32} : 0 < cMods d x ↔ cCan d x := by
  unfold cMods cCan
  have key : ∀ n, 0 < cntB (fun k => cSat d x k d.1.toNat) n ↔ ∃ k, k < n ∧ cSat d x k d.1.toNat = true := by
    intro n
    induction n with
    | zero => exact ⟨fun h => absurd h (Nat.lt_irrefl 0), fun ⟨k, h, _⟩ => absurd h (Nat.not_lt_zero k)⟩
    | succ n ih =>
      unfold cntB
      by_cases e : cSat d x n d.1.toNat = true
      · rw [if_pos e]
        exact ⟨fun _ => ⟨n, by omega, e⟩, fun _ => by omega⟩
      · rw [if_neg e]
        constructor
        · intro h
          obtain ⟨k, h1, h2⟩ := ih.mp (by omega)
          exact ⟨k, by omega, h2⟩
        · rintro ⟨k, h1, h2⟩
          by_cases e2 : k = n
          · rw [e2] at h2; exact absurd h2 e
          · have := ih.mpr ⟨k, by omega, h2⟩; omega
  exact key 4096
/-- the core -/
def cLess (x : Int32) (c : Nat) : Int32 := x &&& (((1 : Int32) <<< (nI c &&& 31)) ^^^ (-1))
def cCore (d : ClD) : Nat → Int32 → Int32 → Prop
  | 0, x, r => r = x
  | c + 1, x, r => (cCan d (cLess x c) ∧ cCore d c x r) ∨ (¬ cCan d (cLess x c) ∧ cCore d c (cLess x c) r)
theorem cCore.eq {d : ClD} : ∀ {c : Nat} {x r q : Int32}, cCore d c x r → cCore d c x q → r = q := by
  intro c
  induction c with
  | zero => intro x r q h h2; exact Eq.trans h (Eq.symm h2)
  | succ c ih =>
    intro x r q h h2
    rcases h with ⟨h1, h3⟩ | ⟨h1, h3⟩
    · rcases h2 with ⟨k1, k3⟩ | ⟨k1, k3⟩
      · exact ih h3 k3
      · exact absurd h1 k1
    · rcases h2 with ⟨k1, k3⟩ | ⟨k1, k3⟩
      · exact absurd k1 h1
      · exact ih h3 k3
/-- the answer of truth -/
def cTru (d : ClD) (what : Int) (r : Int32) : Prop := (what = 0 ∧ ∃ c, cBest d 4096 r.toInt c) ∨ (what = 1 ∧ ∃ b, cBest d 4096 b r.toInt) ∨ (what = 2 ∧ r.toInt = (cMods d (cFull d.1.toNat) : Int)) ∨ (what = 3 ∧ ((cCan d (cFull d.1.toNat) ∧ r = 0) ∨ (¬ cCan d (cFull d.1.toNat) ∧ cCore d d.1.toNat (cFull d.1.toNat) r))) ∨ (what = 4 ∧ r.toInt = d.1) ∨ ((what < 0 ∨ 4 < what) ∧ r = -1)
theorem cTru.eq {d : ClD} {what : Int} {r q : Int32} (h : cTru d what r) (h2 : cTru d what q) : r = q := by
  apply Int32.toInt_inj.mp
  rcases h with ⟨e, c, h⟩ | ⟨e, b, h⟩ | ⟨e, h⟩ | ⟨e, h⟩ | ⟨e, h⟩ | ⟨e, h⟩
  · rcases h2 with ⟨f, c2, g⟩ | ⟨f, b2, g⟩ | ⟨f, g⟩ | ⟨f, g⟩ | ⟨f, g⟩ | ⟨f, g⟩
    · exact (h.eq g).1
    · omega
    · omega
    · omega
    · omega
    · omega
  · rcases h2 with ⟨f, c2, g⟩ | ⟨f, b2, g⟩ | ⟨f, g⟩ | ⟨f, g⟩ | ⟨f, g⟩ | ⟨f, g⟩
    · omega
    · exact (h.eq g).2
    · omega
    · omega
    · omega
    · omega
  · rcases h2 with ⟨f, c2, g⟩ | ⟨f, b2, g⟩ | ⟨f, g⟩ | ⟨f, g⟩ | ⟨f, g⟩ | ⟨f, g⟩ <;> omega
  · rcases h2 with ⟨f, c2, g⟩ | ⟨f, b2, g⟩ | ⟨f, g⟩ | ⟨f, g⟩ | ⟨f, g⟩ | ⟨f, g⟩
    · omega
    · omega
    · omega
    · rcases h with ⟨h1, h3⟩ | ⟨h1, h3⟩
      · rcases g with ⟨g1, g3⟩ | ⟨g1, g3⟩
        · rw [h3, g3]
        · exact absurd h1 g1
      · rcases g with ⟨g1, g3⟩ | ⟨g1, g3⟩
        · exact absurd g1 h1
        · rw [h3.eq g3]
    · omega
    · omega
  · rcases h2 with ⟨f, c2, g⟩ | ⟨f, b2, g⟩ | ⟨f, g⟩ | ⟨f, g⟩ | ⟨f, g⟩ | ⟨f, g⟩ <;> omega
  · rcases h2 with ⟨f, c2, g⟩ | ⟨f, b2, g⟩ | ⟨f, g⟩ | ⟨f, g⟩ | ⟨f, g⟩ | ⟨f, g⟩
    · omega
    · omega
    · omega
    · omega
    · omega
    · rw [h, g]
theorem cSum_no {d : ClD} {i k : Nat} (h : kN d i k = false) : cSum d k (i + 1) = cSum d k i := by
  show cSum d k i + (if kN d i k = true then (d.2.2.2 i).toInt else 0) = cSum d k i
  rw [if_neg (by rw [h]; decide)]; omega
theorem cSum_yes {d : ClD} {i k : Nat} (h : kN d i k = true) : cSum d k (i + 1) = cSum d k i + (d.2.2.2 i).toInt := by
  show cSum d k i + (if kN d i k = true then (d.2.2.2 i).toInt else 0) = cSum d k i + (d.2.2.2 i).toInt
  rw [if_pos h]
theorem cMust_no {d : ClD} {i k : Nat} (h : cMust d k i) (hn : kN d i k = false) : cMust d k (i + 1) := by
  intro j hj hk
  by_cases e : j = i
  · rw [e, hn] at hk; cases hk
  · exact h j (by omega) hk
theorem cMust_yes {d : ClD} {i k : Nat} (h : cMust d k i) (hw : (d.2.2.2 i).toInt ≠ 0) : cMust d k (i + 1) := by
  intro j hj hk
  by_cases e : j = i
  · rw [e]; exact hw
  · exact h j (by omega) hk
theorem cSat_bit0 {d : ClD} {x : Int32} {k i : Nat} (h : cSat d x k i = true) (hb : bI x i = false) : cSat d x k (i + 1) = true := by
  show (cSat d x k i && (!(bI x i) || !(kN d i k))) = true
  rw [h, hb]; rfl
theorem cSat_kept {d : ClD} {x : Int32} {k i : Nat} (h : cSat d x k i = true) (hb : kN d i k = false) : cSat d x k (i + 1) = true := by
  show (cSat d x k i && (!(bI x i) || !(kN d i k))) = true
  rw [h, hb]; cases bI x i <;> rfl
theorem cSat_fail {d : ClD} {x : Int32} {k i : Nat} (hb : bI x i = true) (hk : kN d i k = true) : cSat d x k (i + 1) = false := by
  show (cSat d x k i && (!(bI x i) || !(kN d i k))) = false
  rw [hb, hk]; cases cSat d x k i <;> rfl
theorem cSat_no {d : ClD} {x : Int32} {k i : Nat} (h : cSat d x k i = false) : ∀ m, i ≤ m → cSat d x k m = false := by
  intro m
  induction m with
  | zero => intro hm; rw [show i = 0 by omega] at h; exact h
  | succ m ih =>
    intro hm
    by_cases e : i = m + 1
    · rw [← e]; exact h
    · show (cSat d x k m && (!(bI x m) || !(kN d m k))) = false
      rw [ih (by omega)]; rfl
theorem sm32 : ∀ k, k < 32 → ((nI k) &&& 31).toBitVec.smod 32 = BitVec.ofNat 32 k := by decide
theorem bI_shr {x : Int32} {k : Nat} (hk : k < 32) : bI (x >>> (nI k &&& 31)) 0 = bI x k := by
  unfold bI
  have h3 : (BitVec.ofNat 32 k).toNat = k := Nat.mod_eq_of_lt (by omega)
  rw [Int32.toBitVec_shiftRight, BitVec.sshiftRight', sm32 k hk, h3, BitVec.getLsbD_sshiftRight]
  simp [hk]
theorem bI_and1 (y : Int32) : (y &&& 1) = 0 ↔ bI y 0 = false := by
  constructor
  · intro h
    have e := bI_zero.mp h 0
    rw [bI_and] at e
    have e1 : bI 1 0 = true := by decide
    rw [e1, Bool.and_true] at e
    exact e
  · intro h
    apply bI_zero.mpr
    intro j
    rw [bI_and]
    by_cases e : j = 0
    · rw [e, h]; rfl
    · have e1 : bI 1 j = false := by
        have e2 := bI_1 (i := 0) (j := j) (by decide)
        rw [show ((1 : Int32) <<< (nI 0 &&& 31)) = 1 from by decide] at e2
        rw [e2]; exact decide_eq_false e
      rw [e1, Bool.and_false]
theorem bI_test {x : Int32} {k : Nat} (hk : k < 32) : ((x >>> (nI k &&& 31)) &&& 1) = 0 ↔ bI x k = false := by
  rw [bI_and1, bI_shr hk]
theorem cVal.of {n : Int} {f g h x y z : Nat → Int32} (hv : cVal (n, f, g, h)) (e1 : x = f) (e2 : y = g) (e3 : z = h) : cVal (n, x, y, z) := by
  subst e1 e2 e3
  exact hv
theorem cVal.less {n m : Int} {f g h : Nat → Int32} (hv : cVal (n, f, g, h)) (h0 : 0 ≤ m) (h1 : m ≤ n) : cVal (m, f, g, h) :=
  ⟨h0, Int.le_trans h1 hv.2.1, fun i hi => hv.2.2 i (Int.lt_of_lt_of_le hi h1)⟩
theorem cVal.add {d : ClD} {y m w : Int32} (hv : cVal d) (hn : d.1 < 24) (hw : 0 ≤ w.toInt ∧ w.toInt ≤ 1000) : cVal (clAdd d y m w) := by
  have h0 := hv.1
  refine ⟨by show 0 ≤ d.1 + 1; omega, by show d.1 + 1 ≤ 24; omega, fun i hi => ?_⟩
  have hi : ((i : Nat) : Int) < d.1 + 1 := hi
  show 0 ≤ (upd d.2.2.2 d.1.toNat w i).toInt ∧ (upd d.2.2.2 d.1.toNat w i).toInt ≤ 1000
  unfold upd
  by_cases e : i = d.1.toNat
  · rw [if_pos e]; exact hw
  · rw [if_neg e]; exact hv.2.2 i (by omega)
theorem cVal.z : cVal clZ := ⟨Int.le_refl _, by decide, fun i hi => by
  have h9 : ((i : Nat) : Int) < 0 := hi
  omega⟩
theorem cBest.neg {d : ClD} {m : Nat} {b c : Int} (hv : cVal d) (h : cBest d m b c) : (b = -1 ∧ c = -1) ∨ (0 ≤ b ∧ 0 ≤ c) := by
  rcases h with ⟨h1, h2, _⟩ | ⟨h1, _, _, h4, _⟩
  · exact Or.inl ⟨h2, h1⟩
  · have h0 := hv.1
    have h9 := cSum.bd hv c.toNat d.1.toNat (by omega)
    exact Or.inr ⟨by omega, h1⟩
end

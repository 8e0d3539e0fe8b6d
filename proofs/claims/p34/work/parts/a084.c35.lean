theorem hd_yX12_say_RX12 : yX12_say.cls = RX12 ∧ yX12_say.cls ≠ "java/lang/invoke/MethodHandle" ∧ yX12_say.cls ≠ "java/lang/invoke/VarHandle" ∧ (parseMethodDescriptor yX12_say.desc).map (fun d => d.parameters.length) = some 1 := by decide +kernel
theorem hd_yX12_sayNumber_RX12 : yX12_sayNumber.cls = RX12 ∧ yX12_sayNumber.cls ≠ "java/lang/invoke/MethodHandle" ∧ yX12_sayNumber.cls ≠ "java/lang/invoke/VarHandle" ∧ (parseMethodDescriptor yX12_sayNumber.desc).map (fun d => d.parameters.length) = some 1 := by decide +kernel
theorem hd_yX12_sayPart_RX12 : yX12_sayPart.cls = RX12 ∧ yX12_sayPart.cls ≠ "java/lang/invoke/MethodHandle" ∧ yX12_sayPart.cls ≠ "java/lang/invoke/VarHandle" ∧ (parseMethodDescriptor yX12_sayPart.desc).map (fun d => d.parameters.length) = some 2 := by decide +kernel
theorem hd_yX12_sayTerm_RX12 : yX12_sayTerm.cls = RX12 ∧ yX12_sayTerm.cls ≠ "java/lang/invoke/MethodHandle" ∧ yX12_sayTerm.cls ≠ "java/lang/invoke/VarHandle" ∧ (parseMethodDescriptor yX12_sayTerm.desc).map (fun d => d.parameters.length) = some 4 := by decide +kernel
theorem dX12_sayNumber_0 : decode cX12_sayNumber 0 = .ok (.iload_n 1, 1) := dk_27 (by decide +kernel)
theorem dX12_sayNumber_1 : decode cX12_sayNumber 1 = .ok (.ifCond .ge 9, 3) := dk_156 (by decide +kernel)
theorem dX12_sayNumber_4 : decode cX12_sayNumber 4 = .ok (.aload_n 0, 1) := dk_42 (by decide +kernel)
theorem dX12_sayNumber_5 : decode cX12_sayNumber 5 = .ok (.bipush 45, 2) := dk_16 (by decide +kernel)
theorem dX12_sayNumber_7 : decode cX12_sayNumber 7 = .ok (.invokevirtual 936, 3) := dk_182 (by decide +kernel)
theorem dX12_sayNumber_10 : decode cX12_sayNumber 10 = .ok (.iload_n 1, 1) := dk_27 (by decide +kernel)
theorem dX12_sayNumber_11 : decode cX12_sayNumber 11 = .ok (.ifCond .ge 8, 3) := dk_156 (by decide +kernel)
theorem dX12_sayNumber_14 : decode cX12_sayNumber 14 = .ok (.iload_n 1, 1) := dk_27 (by decide +kernel)
theorem dX12_sayNumber_15 : decode cX12_sayNumber 15 = .ok (.ineg, 1) := dk_116 (by decide +kernel)
theorem dX12_sayNumber_16 : decode cX12_sayNumber 16 = .ok (.goto 4, 3) := dk_167 (by decide +kernel)
theorem dX12_sayNumber_19 : decode cX12_sayNumber 19 = .ok (.iload_n 1, 1) := dk_27 (by decide +kernel)
theorem dX12_sayNumber_20 : decode cX12_sayNumber 20 = .ok (.istore_n 2, 1) := dk_61 (by decide +kernel)
theorem dX12_sayNumber_21 : decode cX12_sayNumber 21 = .ok (.iconst 1, 1) := dk_4 (by decide +kernel)
theorem dX12_sayNumber_22 : decode cX12_sayNumber 22 = .ok (.istore_n 3, 1) := dk_62 (by decide +kernel)
theorem dX12_sayNumber_23 : decode cX12_sayNumber 23 = .ok (.iload_n 2, 1) := dk_28 (by decide +kernel)
theorem dX12_sayNumber_24 : decode cX12_sayNumber 24 = .ok (.iload_n 3, 1) := dk_29 (by decide +kernel)
theorem dX12_sayNumber_25 : decode cX12_sayNumber 25 = .ok (.idiv, 1) := dk_108 (by decide +kernel)
theorem dX12_sayNumber_26 : decode cX12_sayNumber 26 = .ok (.bipush 9, 2) := dk_16 (by decide +kernel)
theorem dX12_sayNumber_28 : decode cX12_sayNumber 28 = .ok (.if_icmp .le 11, 3) := dk_164 (by decide +kernel)
theorem dX12_sayNumber_31 : decode cX12_sayNumber 31 = .ok (.iload_n 3, 1) := dk_29 (by decide +kernel)
theorem dX12_sayNumber_32 : decode cX12_sayNumber 32 = .ok (.bipush 10, 2) := dk_16 (by decide +kernel)
theorem dX12_sayNumber_34 : decode cX12_sayNumber 34 = .ok (.imul, 1) := dk_104 (by decide +kernel)
theorem dX12_sayNumber_35 : decode cX12_sayNumber 35 = .ok (.istore_n 3, 1) := dk_62 (by decide +kernel)
theorem dX12_sayNumber_36 : decode cX12_sayNumber 36 = .ok (.goto (-13), 3) := dk_167 (by decide +kernel)
theorem dX12_sayNumber_39 : decode cX12_sayNumber 39 = .ok (.iload_n 3, 1) := dk_29 (by decide +kernel)
theorem dX12_sayNumber_40 : decode cX12_sayNumber 40 = .ok (.ifCond .le 24, 3) := dk_158 (by decide +kernel)
theorem dX12_sayNumber_43 : decode cX12_sayNumber 43 = .ok (.aload_n 0, 1) := dk_42 (by decide +kernel)
theorem dX12_sayNumber_44 : decode cX12_sayNumber 44 = .ok (.bipush 48, 2) := dk_16 (by decide +kernel)
theorem dX12_sayNumber_46 : decode cX12_sayNumber 46 = .ok (.iload_n 2, 1) := dk_28 (by decide +kernel)
theorem dX12_sayNumber_47 : decode cX12_sayNumber 47 = .ok (.iload_n 3, 1) := dk_29 (by decide +kernel)
theorem dX12_sayNumber_48 : decode cX12_sayNumber 48 = .ok (.idiv, 1) := dk_108 (by decide +kernel)
theorem dX12_sayNumber_49 : decode cX12_sayNumber 49 = .ok (.bipush 10, 2) := dk_16 (by decide +kernel)
theorem dX12_sayNumber_51 : decode cX12_sayNumber 51 = .ok (.irem, 1) := dk_112 (by decide +kernel)
theorem dX12_sayNumber_52 : decode cX12_sayNumber 52 = .ok (.iadd, 1) := dk_96 (by decide +kernel)
theorem dX12_sayNumber_53 : decode cX12_sayNumber 53 = .ok (.invokevirtual 936, 3) := dk_182 (by decide +kernel)
theorem dX12_sayNumber_56 : decode cX12_sayNumber 56 = .ok (.iload_n 3, 1) := dk_29 (by decide +kernel)
theorem dX12_sayNumber_57 : decode cX12_sayNumber 57 = .ok (.bipush 10, 2) := dk_16 (by decide +kernel)
theorem dX12_sayNumber_59 : decode cX12_sayNumber 59 = .ok (.idiv, 1) := dk_108 (by decide +kernel)
theorem dX12_sayNumber_60 : decode cX12_sayNumber 60 = .ok (.istore_n 3, 1) := dk_62 (by decide +kernel)
theorem dX12_sayNumber_61 : decode cX12_sayNumber 61 = .ok (.goto (-22), 3) := dk_167 (by decide +kernel)
theorem dX12_sayNumber_64 : decode cX12_sayNumber 64 = .ok (.return_, 1) := dk_177 (by decide +kernel)
def wsRX12_sayNumber : List Cond := .code yX12_sayNumber cX12_sayNumber 4 none :: ([] ++ wsX120 ++ (wsV RX12 936 RX12 yX12_say wsRX12_say))
theorem iwsRX12_sayNumber_in12 : ∀ w ∈ wsX120, w ∈ wsRX12_sayNumber := fun _ h => List.mem_cons_of_mem _ (List.mem_append_left _ (List.mem_append_right _ h))
theorem gwsRX12_sayNumber_0 : GoodIn wsRX12_sayNumber (wsV RX12 936 RX12 yX12_say wsRX12_say) := goodIn_sub (fun _ h => List.mem_cons_of_mem _ (List.mem_append_right _ h)) (gdV (by decide +kernel) gdwsRX12_say)
theorem gdwsRX12_sayNumber : wsRX12_sayNumber.all goodWord = true := gdC rfl (gdA (gdA (by decide +kernel : ([] : List Cond).all goodWord = true) gdwsX120) (gdV (by decide +kernel) gdwsRX12_say))
set_option maxHeartbeats 4000000 in
set_option maxRecDepth 100000 in
/-- sayNumber(v) -/
theorem r_X12_sayNumber (l : Launch) (dC : Nat → ClassId) (dI : Nat → Nat → Nat) (a : Nat → Nat) (k : Nat → ClassId) (h0 : Nat) (vi : Nat → Int32) (vj : Nat → Int64) (vF : Nat → Nat → Int32) (vG : Nat → Nat → Int64) (vI : Int32) (pn : Nat) (hpn : vi 125 = nI pn) (hpn2 : pn ≤ 30000) (hvI : (vI).toInt.natAbs ≤ 1000000) (sz : Nat) : Met l yX12_sayNumber wsRX12_sayNumber ({ frames := 1, cells := 0, slots := 0, locals := 21 }) (va_Pc [.ref h0, .int vI] (fun U => U.heap.size = sz ∧ va_P (dC, dI) vwCl (WR a k h0 vi vj vF vG) U.heap ∧ va_K (dC, dI) vwCl (tX12 k) U ∧ va_D (fun _ => True) (WR a k h0 vi vj vF vG))) (va_Qv (fun (u : (Nat) × (Nat → Int32)) => ((u.1) ≤ 30000)) (fun (u : (Nat) × (Nat → Int32)) t => va_P (dC, dI) vwCl (WR a k h0 (fT vi 125 (nI (u.1))) vj (fT vF 75 (u.2)) vG) t.heap ∧ va_D (va_A (WR a k h0 vi vj vF vG) sz) (WR a k h0 (fT vi 125 (nI (u.1))) vj (fT vF 75 (u.2)) vG)) (va_A (WR a k h0 vi vj vF vG) sz)) 0 0 (va_A (WR a k h0 vi vj vF vG) sz) := by
  refine Met.ofW (cc := cX12_sayNumber) (maxL := 4) (ret := none) (by decide) rfl ?_
  intro p e s m args below meth c s₁ B hml hv
  obtain ⟨rfl, hsz, hP, hK, hD0⟩ := hv
  have hx := B.exec
  have hb := B.bytes
  have hr := B.returns
  have hts := atoms_spec (ws := wsRX12_sayNumber) B.pre
  have hown : s.vm.findClass RX12 = some m.cls := findClass_of_methodNamed B.named
  have hlocks := B.notSynchronized
  subst hsz
  have hD := hD0.self (sz := s.heap.size)
  generalize hAe : va_A (WR a k h0 vi vj vF vG) s.heap.size = A at hD ⊢
  have hA : ∀ q : Nat, s.heap.size ≤ q → A q := fun q h => by rw [← hAe]; exact Or.inr h
  have hS : va_S A s.heap s.heap [] := va_S.rf
  have hl := lv_entry ([.ref h0, .int vI]) (n := 4) (Nat.le_of_ble_eq_true rfl)
  rw [lg_entry_eq]
  generalize (lg_sl ([.ref h0, .int vI]) ++ List.replicate (4 - (lg_sl ([.ref h0, .int vI])).length) Slot.unset).toArray = ls at hl ⊢
  have hl : lv_has ls 4 [(0, .ref h0), (1, .int vI)] := hl
  refine lv_iload_n hx hb dX12_sayNumber_0 rfl (lv_at hl 1 rfl) ?_
  refine W.cut (pc := 10) (fun H locs ls stk => ∃ (j1_i125 : Nat) (j1_F75 : Nat → Int32), (j1_i125 ≤ 30000) ∧  stk = [] ∧ va_P (dC, dI) vwCl (WR a k h0 (fT vi 125 (nI j1_i125)) vj (fT vF 75 j1_F75) vG) H ∧ va_D A (WR a k h0 (fT vi 125 (nI j1_i125)) vj (fT vF 75 j1_F75) vG) ∧ va_S A s.heap H locs ∧ lv_has ls 4 [(0, .ref h0), (1, .int vI)]) (fun join1 => ?_) ?_
  · refine lv_if_ge (tgt := 10) hx hb dX12_sayNumber_1 (by decide) (fun c_1 => ?_) (fun c_1 => ?_)
    · have t_1 : (vI).toInt ≥ 0 := toI_ge c_1 rfl (by decide)
      have e9 : fT vi 125 (nI pn) = vi := by funext q9; by_cases h9_125 : q9 = 125; (subst h9_125; exact (fT_eq _ _ _).trans (Eq.trans (by first | rfl | assumption | (symm; assumption) | (subst_vars; rfl)) (Eq.refl _).symm)); exact (fT_ne _ _ h9_125).trans (Eq.refl _).symm
      have hP : va_P (dC, dI) vwCl (WR a k h0 (fT vi 125 (nI pn)) vj vF vG) s.heap := by rw [e9]; exact hP
      have hD : va_D A (WR a k h0 (fT vi 125 (nI pn)) vj vF vG) := by rw [e9]; exact hD
      clear e9
      have e9 : fT vF 75 (vF 75) = vF := by funext q9; by_cases h9_75 : q9 = 75; (subst h9_75; exact (fT_eq _ _ _).trans (Eq.trans (by first | rfl | assumption | (symm; assumption) | (subst_vars; rfl)) (Eq.refl _).symm)); exact (fT_ne _ _ h9_75).trans (Eq.refl _).symm
      have hP : va_P (dC, dI) vwCl (WR a k h0 (fT vi 125 (nI pn)) vj (fT vF 75 (vF 75)) vG) s.heap := by rw [e9]; exact hP
      have hD : va_D A (WR a k h0 (fT vi 125 (nI pn)) vj (fT vF 75 (vF 75)) vG) := by rw [e9]; exact hD
      clear e9
      have hl : lv_has _ _ ([(0, .ref h0), (1, .int vI)]) := lv_sub hl [0, 1] rfl
      exact join1 _ _ _ _ ⟨pn, (vF 75), by first | assumption | omega, rfl, hP, hD, hS, hl⟩
    · have t_1 : ¬ (vI).toInt ≥ 0 := toI_nge c_1 rfl (by decide)
      refine lv_aload_n hx hb dX12_sayNumber_4 rfl (lv_at hl 0 rfl) ?_
      refine lv_bipush (v := 45) hx hb dX12_sayNumber_5 (by decide) ?_
      have hFc := allFree hD hS hA
      refine va_callv (va_runV (As := [.int 45]) (rest := []) ⟨hx, hb, hml, hown, hts⟩ (r_X12_say l dC dI a k h0 vi vj vF vG 45 pn hpn (by first | assumption | decide | omega | rfl) s.heap.size) (cwV 1 hts gwsRX12_sayNumber_0 rfl rfl rfl hd_yX12_say_RX12 (by decide +kernel)) (fz_pre (va_recv hK hP (ci := 12) (q0 := 0) rfl rfl) hP hK hD) rfl rfl hl.1 rfl (lv_room (Nat.le_of_ble_eq_true rfl)) dX12_sayNumber_7 (by decide +kernel)) hS (fun q _ h => hFc q h) hFc (fun u t9_ H locs ht hvm hw9 hB9 hz1 hk1 hS => ?_)
      obtain ⟨p27, f757⟩ := u
      try dsimp only at hw9 hB9
      have hP : va_P (dC, dI) vwCl (WR a k h0 (fT vi 125 (nI p27)) vj (fT vF 75 f757) vG) H := fz_P ht hB9.1
      have hD : va_D A (WR a k h0 (fT vi 125 (nI p27)) vj (fT vF 75 f757) vG) := hB9.2.weaken (fun _ q _ h => hFc q.1 h)
      obtain ⟨f7_0, f7_1, f7_2⟩ := hw9
      have hl : lv_has _ _ ([(0, .ref h0), (1, .int vI)]) := lv_sub hl [0, 1] rfl
      exact join1 _ _ _ _ ⟨p27, f757, by first | assumption | omega, rfl, hP, hD, hS, hl⟩
  · rintro H locs ls stk ⟨j1_i125, j1_F75, hj1_i125, rfl, hP, hD, hS, hl⟩
    refine lv_iload_n hx hb dX12_sayNumber_10 rfl (lv_at hl 1 rfl) ?_
    refine W.cut (pc := 20) (fun H locs ls stk => ∃ (un : Nat), (un ≤ 1000000) ∧  stk = [.int (nI un)] ∧ va_P (dC, dI) vwCl (WR a k h0 (fT vi 125 (nI j1_i125)) vj (fT vF 75 j1_F75) vG) H ∧ va_D A (WR a k h0 (fT vi 125 (nI j1_i125)) vj (fT vF 75 j1_F75) vG) ∧ va_S A s.heap H locs ∧ lv_has ls 4 [(0, .ref h0)]) (fun join2 => ?_) ?_
    · refine lv_if_ge (tgt := 19) hx hb dX12_sayNumber_11 (by decide) (fun c_11 => ?_) (fun c_11 => ?_)
      · have t_11 : (vI).toInt ≥ 0 := toI_ge c_11 rfl (by decide)
        refine lv_iload_n hx hb dX12_sayNumber_19 rfl (lv_at hl 1 rfl) ?_
        refine lv_topi (fun y1 hy1 => ?_)
        obtain rfl : (nI ((vI).toInt.natAbs)) = y1 := (hy1.trans (natI_of (by omega))).symm
        have hl : lv_has _ _ ([(0, .ref h0)]) := lv_sub hl [0] rfl
        exact join2 _ _ _ _ ⟨((vI).toInt.natAbs), by omega, rfl, hP, hD, hS, hl⟩
      · have t_11 : ¬ (vI).toInt ≥ 0 := toI_nge c_11 rfl (by decide)
        refine lv_iload_n hx hb dX12_sayNumber_14 rfl (lv_at hl 1 rfl) ?_
        refine lv_ineg hx hb dX12_sayNumber_15 ?_
        refine lv_topi (fun y2 hy2 => ?_)
        obtain rfl : (nI ((vI).toInt.natAbs)) = y2 := (hy2.trans (natI_neg (by omega) (by omega))).symm
        refine lv_goto (tgt := 20) hx hb dX12_sayNumber_16 (by decide) ?_
        have hl : lv_has _ _ ([(0, .ref h0)]) := lv_sub hl [0] rfl
        exact join2 _ _ _ _ ⟨((vI).toInt.natAbs), by omega, rfl, hP, hD, hS, hl⟩
    · rintro H locs ls stk ⟨un, hun, rfl, hP, hD, hS, hl⟩
      refine lv_istore_n hx hb dX12_sayNumber_20 rfl hl (by decide) rfl (fun ls (hl : lv_has ls _ ([(2, .int (nI un)), (0, .ref h0)])) => ?_)
      refine lv_iconst (v := 1) hx hb dX12_sayNumber_21 (by decide) ?_
      refine lv_istore_n hx hb dX12_sayNumber_22 rfl hl (by decide) rfl (fun ls (hl : lv_has ls _ ([(3, .int 1), (2, .int (nI un)), (0, .ref h0)])) => ?_)
      have hl : lv_has _ _ ([(0, .ref h0), (2, .int (nI un)), (3, .int (nI 1))]) := lv_sub hl [2, 1, 0] rfl
      refine (fun (loop : ∀ (n9 : Nat) (hn : Nat) (H : Heap) (locs : List Loc) (ls : Array Slot), (1 ≤ hn ∧ (hn = 1 ∨ hn ≤ un)) →  (un + 2 < hn + n9) → va_P (dC, dI) vwCl (WR a k h0 (fT vi 125 (nI j1_i125)) vj (fT vF 75 j1_F75) vG) H → va_D A (WR a k h0 (fT vi 125 (nI j1_i125)) vj (fT vF 75 j1_F75) vG) → va_S A s.heap H locs → lv_has ls 4 [(0, .ref h0), (2, .int (nI un)), (3, .int (nI hn))] → W p l e _ s m _ below meth c H locs 0 0 _ (F0 m 23 ls [])) => loop (un + 2) 1 _ _ _ (by omega) (by omega) hP hD hS hl) ?_
      intro n9
      induction n9 with
      | zero => intro hn H locs ls hhn hf9; exact False.elim (by omega)
      | succ n9 ih23 =>
        intro hn H locs ls hhn hf23 hP hD hS hl
        have hdu : un / hn ≤ un := Nat.div_le_self _ _
        refine lv_iload_n hx hb dX12_sayNumber_23 rfl (lv_at hl 1 rfl) ?_
        refine lv_iload_n hx hb dX12_sayNumber_24 rfl (lv_at hl 2 rfl) ?_
        refine lv_idiv hx hb dX12_sayNumber_25 (by exact nI_ne0 (by omega) (by omega)) ?_
        refine lv_topi (fun y3 hy3 => ?_)
        obtain rfl : (nI (un / hn)) = y3 := (hy3.trans (pk_div (a := un) (d := hn) (by omega) (by omega) (by omega))).symm
        refine lv_bipush (v := 9) hx hb dX12_sayNumber_26 (by decide) ?_
        refine lv_icmp_le (tgt := 39) hx hb dX12_sayNumber_28 (by decide) (fun c_28 => ?_) (fun c_28 => ?_)
        · have t_28 : (((un / hn) : Nat) : Int) ≤ 9 := toI_le c_28 (nI_toInt (by omega)) (by decide)
          have hl : lv_has _ _ ([(0, .ref h0), (2, .int (nI un)), (3, .int (nI hn))]) := lv_sub hl [0, 1, 2] rfl
          refine (fun (loop : ∀ (n9 : Nat) (hd : Nat) (x3_i125 : Nat) (x3_F75 : Nat → Int32) (H : Heap) (locs : List Loc) (ls : Array Slot), (hd ≤ 1000000) → (x3_i125 ≤ 30000) →  (hd < n9) → va_P (dC, dI) vwCl (WR a k h0 (fT vi 125 (nI x3_i125)) vj (fT vF 75 x3_F75) vG) H → va_D A (WR a k h0 (fT vi 125 (nI x3_i125)) vj (fT vF 75 x3_F75) vG) → va_S A s.heap H locs → lv_has ls 4 [(0, .ref h0), (2, .int (nI un)), (3, .int (nI hd))] → W p l e _ s m _ below meth c H locs 0 0 _ (F0 m 39 ls [])) => loop (hn + 1) hn j1_i125 j1_F75 _ _ _ (by omega) (by first | assumption | omega) (by omega) hP hD hS hl) ?_
          intro n9
          induction n9 with
          | zero => intro hd x3_i125 x3_F75 H locs ls hhd hx3_i125 hf9; exact False.elim (by omega)
          | succ n9 ih39_1 =>
            intro hd x3_i125 x3_F75 H locs ls hhd hx3_i125 hf39_1 hP hD hS hl
            refine lv_iload_n hx hb dX12_sayNumber_39 rfl (lv_at hl 2 rfl) ?_
            refine lv_if_le (tgt := 64) hx hb dX12_sayNumber_40 (by decide) (fun c_40 => ?_) (fun c_40 => ?_)
            · have t_40 : ((hd : Nat) : Int) ≤ 0 := toI_le c_40 (nI_toInt (by omega)) (by decide)
              refine W.widen (k := 0) (n := 0) (by decide +kernel) (by decide +kernel) ?_
              exact W.vret hx hb hr (fun t9_ ht hW => ⟨⟨(x3_i125, x3_F75), rfl, by (try dsimp only); first | assumption | omega, by rw [ht]; exact hP, hD⟩, hS.F ht⟩) hS.2.2 dX12_sayNumber_64
            · have t_40 : ¬ ((hd : Nat) : Int) ≤ 0 := toI_nle c_40 (nI_toInt (by omega)) (by decide)
              refine lv_aload_n hx hb dX12_sayNumber_43 rfl (lv_at hl 0 rfl) ?_
              refine lv_bipush (v := 48) hx hb dX12_sayNumber_44 (by decide) ?_
              have hud : un / hd ≤ un := Nat.div_le_self _ _
              refine lv_iload_n hx hb dX12_sayNumber_46 rfl (lv_at hl 1 rfl) ?_
              refine lv_iload_n hx hb dX12_sayNumber_47 rfl (lv_at hl 2 rfl) ?_
              refine lv_idiv hx hb dX12_sayNumber_48 (by exact nI_ne0 (by omega) (by omega)) ?_
              refine lv_topi (fun y4 hy4 => ?_)
              obtain rfl : (nI (un / hd)) = y4 := (hy4.trans (pk_div (a := un) (d := hd) (by omega) (by omega) (by omega))).symm
              refine lv_bipush (v := 10) hx hb dX12_sayNumber_49 (by decide) ?_
              refine lv_irem hx hb dX12_sayNumber_51 (by decide) ?_
              refine lv_topi (fun y5 hy5 => ?_)
              obtain rfl : (nI ((un / hd) % 10)) = y5 := (hy5.trans (pk_rem (a := (un / hd)) (d := 10) (by omega) (by omega) (by omega))).symm
              refine lv_iadd hx hb dX12_sayNumber_52 ?_
              refine lv_topi (fun y6 hy6 => ?_)
              obtain rfl : (nI (48 + ((un / hd) % 10))) = y6 := (hy6.trans (nI_add 48 ((un / hd) % 10))).symm
              have hFc := allFree hD hS hA
              refine va_callv (va_runV (As := [.int (nI (48 + ((un / hd) % 10)))]) (rest := []) ⟨hx, hb, hml, hown, hts⟩ (r_X12_say l dC dI a k h0 (fT vi 125 (nI x3_i125)) vj (fT vF 75 x3_F75) vG (nI (48 + ((un / hd) % 10))) x3_i125 rfl (by first | assumption | decide | omega | rfl) H.size) (cwV 1 hts gwsRX12_sayNumber_0 rfl rfl rfl hd_yX12_say_RX12 (by decide +kernel)) (fz_pre (va_recv hK hP (ci := 12) (q0 := 0) rfl rfl) hP hK hD) rfl rfl hl.1 rfl (lv_room (Nat.le_of_ble_eq_true rfl)) dX12_sayNumber_53 (by decide +kernel)) hS (fun q _ h => hFc q h) hFc (fun u t9_ H locs ht hvm hw9 hB9 hz1 hk1 hS => ?_)
              obtain ⟨p253, f7553⟩ := u
              try dsimp only at hw9 hB9
              have hP : va_P (dC, dI) vwCl (WR a k h0 (fT (fT vi 125 (nI x3_i125)) 125 (nI p253)) vj (fT (fT vF 75 x3_F75) 75 f7553) vG) H := fz_P ht hB9.1
              have hD : va_D A (WR a k h0 (fT (fT vi 125 (nI x3_i125)) 125 (nI p253)) vj (fT (fT vF 75 x3_F75) 75 f7553) vG) := hB9.2.weaken (fun _ q _ h => hFc q.1 h)
              have e9 : fT vi 125 (nI p253) = fT (fT vi 125 (nI x3_i125)) 125 (nI p253) := (fT_sm _ _ _ _).symm
              rw [← e9] at hP hD
              clear e9
              have e9 : fT vF 75 f7553 = fT (fT vF 75 x3_F75) 75 f7553 := (fT_sm _ _ _ _).symm
              rw [← e9] at hP hD
              clear e9
              have hP : va_P (dC, dI) vwCl (WR a k h0 (fT vi 125 (nI p253)) vj (fT vF 75 f7553) vG) H := hP
              have hD : va_D A (WR a k h0 (fT vi 125 (nI p253)) vj (fT vF 75 f7553) vG) := hD
              obtain ⟨f53_0, f53_1, f53_2⟩ := hw9
              refine lv_iload_n hx hb dX12_sayNumber_56 rfl (lv_at hl 2 rfl) ?_
              refine lv_bipush (v := 10) hx hb dX12_sayNumber_57 (by decide) ?_
              refine lv_idiv hx hb dX12_sayNumber_59 (by decide) ?_
              refine lv_topi (fun y7 hy7 => ?_)
              obtain rfl : (nI (hd / 10)) = y7 := (hy7.trans (pk_div (a := hd) (d := 10) (by omega) (by omega) (by omega))).symm
              refine lv_istore_n hx hb dX12_sayNumber_60 rfl hl (by decide) rfl (fun ls (hl : lv_has ls _ ([(3, .int (nI (hd / 10))), (0, .ref h0), (2, .int (nI un))])) => ?_)
              refine lv_goto (tgt := 39) hx hb dX12_sayNumber_61 (by decide) ?_
              have hl : lv_has _ _ ([(0, .ref h0), (2, .int (nI un)), (3, .int (nI (hd / 10)))]) := lv_sub hl [1, 2, 0] rfl
              exact ih39_1 (hd / 10) p253 f7553 _ _ _ (by omega) (by first | assumption | omega) (by omega) hP hD hS hl
        · have t_28 : ¬ (((un / hn) : Nat) : Int) ≤ 9 := toI_nle c_28 (nI_toInt (by omega)) (by decide)
          refine lv_iload_n hx hb dX12_sayNumber_31 rfl (lv_at hl 2 rfl) ?_
          refine lv_bipush (v := 10) hx hb dX12_sayNumber_32 (by decide) ?_
          refine lv_imul hx hb dX12_sayNumber_34 ?_
          refine lv_topi (fun y8 hy8 => ?_)
          obtain rfl : (nI (hn * 10)) = y8 := (hy8.trans (pk_mul hn 10)).symm
          refine lv_istore_n hx hb dX12_sayNumber_35 rfl hl (by decide) rfl (fun ls (hl : lv_has ls _ ([(3, .int (nI (hn * 10))), (0, .ref h0), (2, .int (nI un))])) => ?_)
          refine lv_goto (tgt := 23) hx hb dX12_sayNumber_36 (by decide) ?_
          have hl : lv_has _ _ ([(0, .ref h0), (2, .int (nI un)), (3, .int (nI (hn * 10)))]) := lv_sub hl [1, 2, 0] rfl
          exact ih23 (hn * 10) _ _ _ (by (have h9 := div9 (by omega) t_28); omega) (by omega) hP hD hS hl
theorem dX12_sayPart_0 : decode cX12_sayPart 0 = .ok (.aload_n 0, 1) := dk_42 (by decide +kernel)
theorem dX12_sayPart_1 : decode cX12_sayPart 1 = .ok (.iload_n 1, 1) := dk_27 (by decide +kernel)
theorem dX12_sayPart_2 : decode cX12_sayPart 2 = .ok (.invokevirtual 955, 3) := dk_182 (by decide +kernel)
theorem dX12_sayPart_5 : decode cX12_sayPart 5 = .ok (.iload_n 2, 1) := dk_28 (by decide +kernel)
theorem dX12_sayPart_6 : decode cX12_sayPart 6 = .ok (.iconst 1, 1) := dk_4 (by decide +kernel)
theorem dX12_sayPart_7 : decode cX12_sayPart 7 = .ok (.if_icmp .ne 4, 3) := dk_160 (by decide +kernel)
theorem dX12_sayPart_10 : decode cX12_sayPart 10 = .ok (.return_, 1) := dk_177 (by decide +kernel)
theorem dX12_sayPart_11 : decode cX12_sayPart 11 = .ok (.aload_n 0, 1) := dk_42 (by decide +kernel)
theorem dX12_sayPart_12 : decode cX12_sayPart 12 = .ok (.bipush 47, 2) := dk_16 (by decide +kernel)
theorem dX12_sayPart_14 : decode cX12_sayPart 14 = .ok (.invokevirtual 936, 3) := dk_182 (by decide +kernel)
theorem dX12_sayPart_17 : decode cX12_sayPart 17 = .ok (.aload_n 0, 1) := dk_42 (by decide +kernel)
theorem dX12_sayPart_18 : decode cX12_sayPart 18 = .ok (.iload_n 2, 1) := dk_28 (by decide +kernel)
theorem dX12_sayPart_19 : decode cX12_sayPart 19 = .ok (.invokevirtual 955, 3) := dk_182 (by decide +kernel)
theorem dX12_sayPart_22 : decode cX12_sayPart 22 = .ok (.return_, 1) := dk_177 (by decide +kernel)
def wsRX12_sayPart : List Cond := .code yX12_sayPart cX12_sayPart 3 none :: ([] ++ wsX120 ++ (wsV RX12 955 RX12 yX12_sayNumber wsRX12_sayNumber) ++ (wsV RX12 936 RX12 yX12_say wsRX12_say))
theorem iwsRX12_sayPart_in12 : ∀ w ∈ wsX120, w ∈ wsRX12_sayPart := fun _ h => List.mem_cons_of_mem _ (List.mem_append_left _ (List.mem_append_left _ (List.mem_append_right _ h)))
theorem gwsRX12_sayPart_0 : GoodIn wsRX12_sayPart (wsV RX12 955 RX12 yX12_sayNumber wsRX12_sayNumber) := goodIn_sub (fun _ h => List.mem_cons_of_mem _ (List.mem_append_left _ (List.mem_append_right _ h))) (gdV (by decide +kernel) gdwsRX12_sayNumber)
theorem gwsRX12_sayPart_1 : GoodIn wsRX12_sayPart (wsV RX12 936 RX12 yX12_say wsRX12_say) := goodIn_sub (fun _ h => List.mem_cons_of_mem _ (List.mem_append_right _ h)) (gdV (by decide +kernel) gdwsRX12_say)
theorem gdwsRX12_sayPart : wsRX12_sayPart.all goodWord = true := gdC rfl (gdA (gdA (gdA (by decide +kernel : ([] : List Cond).all goodWord = true) gdwsX120) (gdV (by decide +kernel) gdwsRX12_sayNumber)) (gdV (by decide +kernel) gdwsRX12_say))
set_option maxHeartbeats 4000000 in
set_option maxRecDepth 100000 in
/-- sayPart(a, u) -/
theorem r_X12_sayPart (l : Launch) (dC : Nat → ClassId) (dI : Nat → Nat → Nat) (a : Nat → Nat) (k : Nat → ClassId) (h0 : Nat) (vi : Nat → Int32) (vj : Nat → Int64) (vF : Nat → Nat → Int32) (vG : Nat → Nat → Int64) (aI : Int32) (uI : Int32) (pn : Nat) (hpn : vi 125 = nI pn) (hpn2 : pn ≤ 30000) (hbaI : (aI).toInt.natAbs ≤ 1000000) (hbuI : (uI).toInt.natAbs ≤ 1000000) (sz : Nat) : Met l yX12_sayPart wsRX12_sayPart ({ frames := 2, cells := 0, slots := 0, locals := 44 }) (va_Pc [.ref h0, .int aI, .int uI] (fun U => U.heap.size = sz ∧ va_P (dC, dI) vwCl (WR a k h0 vi vj vF vG) U.heap ∧ va_K (dC, dI) vwCl (tX12 k) U ∧ va_D (fun _ => True) (WR a k h0 vi vj vF vG))) (va_Qv (fun (u : (Nat) × (Nat → Int32)) => ((u.1) ≤ 30000)) (fun (u : (Nat) × (Nat → Int32)) t => va_P (dC, dI) vwCl (WR a k h0 (fT vi 125 (nI (u.1))) vj (fT vF 75 (u.2)) vG) t.heap ∧ va_D (va_A (WR a k h0 vi vj vF vG) sz) (WR a k h0 (fT vi 125 (nI (u.1))) vj (fT vF 75 (u.2)) vG)) (va_A (WR a k h0 vi vj vF vG) sz)) 0 0 (va_A (WR a k h0 vi vj vF vG) sz) := by
  refine Met.ofW (cc := cX12_sayPart) (maxL := 3) (ret := none) (by decide) rfl ?_
  intro p e s m args below meth c s₁ B hml hv
  obtain ⟨rfl, hsz, hP, hK, hD0⟩ := hv
  have hx := B.exec
  have hb := B.bytes
  have hr := B.returns
  have hts := atoms_spec (ws := wsRX12_sayPart) B.pre
  have hown : s.vm.findClass RX12 = some m.cls := findClass_of_methodNamed B.named
  have hlocks := B.notSynchronized
  subst hsz
  have hD := hD0.self (sz := s.heap.size)
  generalize hAe : va_A (WR a k h0 vi vj vF vG) s.heap.size = A at hD ⊢
  have hA : ∀ q : Nat, s.heap.size ≤ q → A q := fun q h => by rw [← hAe]; exact Or.inr h
  have hS : va_S A s.heap s.heap [] := va_S.rf
  have hl := lv_entry ([.ref h0, .int aI, .int uI]) (n := 3) (Nat.le_of_ble_eq_true rfl)
  rw [lg_entry_eq]
  generalize (lg_sl ([.ref h0, .int aI, .int uI]) ++ List.replicate (3 - (lg_sl ([.ref h0, .int aI, .int uI])).length) Slot.unset).toArray = ls at hl ⊢
  have hl : lv_has ls 3 [(0, .ref h0), (1, .int aI), (2, .int uI)] := hl
  refine lv_aload_n hx hb dX12_sayPart_0 rfl (lv_at hl 0 rfl) ?_
  refine lv_iload_n hx hb dX12_sayPart_1 rfl (lv_at hl 1 rfl) ?_
  have hFc := allFree hD hS hA
  refine va_callv (va_runV (As := [.int aI]) (rest := []) ⟨hx, hb, hml, hown, hts⟩ (r_X12_sayNumber l dC dI a k h0 vi vj vF vG aI pn hpn (by first | assumption | decide | omega | rfl) (hbaI) s.heap.size) (cwV 1 hts gwsRX12_sayPart_0 rfl rfl rfl hd_yX12_sayNumber_RX12 (by decide +kernel)) (fz_pre (va_recv hK hP (ci := 12) (q0 := 0) rfl rfl) hP hK hD) rfl rfl hl.1 rfl (lv_room (Nat.le_of_ble_eq_true rfl)) dX12_sayPart_2 (by decide +kernel)) hS (fun q _ h => hFc q h) hFc (fun u t9_ H locs ht hvm hw9 hB9 hz1 hk1 hS => ?_)
  obtain ⟨p22, f752⟩ := u
  try dsimp only at hw9 hB9
  have hP : va_P (dC, dI) vwCl (WR a k h0 (fT vi 125 (nI p22)) vj (fT vF 75 f752) vG) H := fz_P ht hB9.1
  have hD : va_D A (WR a k h0 (fT vi 125 (nI p22)) vj (fT vF 75 f752) vG) := hB9.2.weaken (fun _ q _ h => hFc q.1 h)
  have f2_0 := hw9
  try dsimp only at f2_0
  refine lv_iload_n hx hb dX12_sayPart_5 rfl (lv_at hl 2 rfl) ?_
  refine lv_iconst (v := 1) hx hb dX12_sayPart_6 (by decide) ?_
  refine lv_icmp_ne (tgt := 11) hx hb dX12_sayPart_7 (by decide) (fun c_7 => ?_) (fun c_7 => ?_)
  · have t_7 : (uI).toInt ≠ 1 := toI_ne c_7 rfl (by decide)
    refine lv_aload_n hx hb dX12_sayPart_11 rfl (lv_at hl 0 rfl) ?_
    refine lv_bipush (v := 47) hx hb dX12_sayPart_12 (by decide) ?_
    have hFc := allFree hD hS hA
    refine va_callv (va_runV (As := [.int 47]) (rest := []) ⟨hx, hb, hml, hown, hts⟩ (r_X12_say l dC dI a k h0 (fT vi 125 (nI p22)) vj (fT vF 75 f752) vG 47 p22 rfl (by first | assumption | decide | omega | rfl) H.size) (cwV 1 hts gwsRX12_sayPart_1 rfl rfl rfl hd_yX12_say_RX12 (by decide +kernel)) (fz_pre (va_recv hK hP (ci := 12) (q0 := 0) rfl rfl) hP hK hD) rfl rfl hl.1 rfl (lv_room (Nat.le_of_ble_eq_true rfl)) dX12_sayPart_14 (by decide +kernel)) hS (fun q _ h => hFc q h) hFc (fun u t9_ H locs ht hvm hw9 hB9 hz1 hk1 hS => ?_)
    obtain ⟨p214, f7514⟩ := u
    try dsimp only at hw9 hB9
    have hP : va_P (dC, dI) vwCl (WR a k h0 (fT (fT vi 125 (nI p22)) 125 (nI p214)) vj (fT (fT vF 75 f752) 75 f7514) vG) H := fz_P ht hB9.1
    have hD : va_D A (WR a k h0 (fT (fT vi 125 (nI p22)) 125 (nI p214)) vj (fT (fT vF 75 f752) 75 f7514) vG) := hB9.2.weaken (fun _ q _ h => hFc q.1 h)
    have e9 : fT vi 125 (nI p214) = fT (fT vi 125 (nI p22)) 125 (nI p214) := (fT_sm _ _ _ _).symm
    rw [← e9] at hP hD
    clear e9
    have e9 : fT vF 75 f7514 = fT (fT vF 75 f752) 75 f7514 := (fT_sm _ _ _ _).symm
    rw [← e9] at hP hD
    clear e9
    have hP : va_P (dC, dI) vwCl (WR a k h0 (fT vi 125 (nI p214)) vj (fT vF 75 f7514) vG) H := hP
    have hD : va_D A (WR a k h0 (fT vi 125 (nI p214)) vj (fT vF 75 f7514) vG) := hD
    obtain ⟨f14_0, f14_1, f14_2⟩ := hw9
    refine lv_aload_n hx hb dX12_sayPart_17 rfl (lv_at hl 0 rfl) ?_
    refine lv_iload_n hx hb dX12_sayPart_18 rfl (lv_at hl 2 rfl) ?_
    have hFc := allFree hD hS hA
    refine va_callv (va_runV (As := [.int uI]) (rest := []) ⟨hx, hb, hml, hown, hts⟩ (r_X12_sayNumber l dC dI a k h0 (fT vi 125 (nI p214)) vj (fT vF 75 f7514) vG uI p214 rfl (by first | assumption | decide | omega | rfl) (hbuI) H.size) (cwV 1 hts gwsRX12_sayPart_0 rfl rfl rfl hd_yX12_sayNumber_RX12 (by decide +kernel)) (fz_pre (va_recv hK hP (ci := 12) (q0 := 0) rfl rfl) hP hK hD) rfl rfl hl.1 rfl (lv_room (Nat.le_of_ble_eq_true rfl)) dX12_sayPart_19 (by decide +kernel)) hS (fun q _ h => hFc q h) hFc (fun u t9_ H locs ht hvm hw9 hB9 hz1 hk1 hS => ?_)
    obtain ⟨p219, f7519⟩ := u
    try dsimp only at hw9 hB9
    have hP : va_P (dC, dI) vwCl (WR a k h0 (fT (fT vi 125 (nI p214)) 125 (nI p219)) vj (fT (fT vF 75 f7514) 75 f7519) vG) H := fz_P ht hB9.1
    have hD : va_D A (WR a k h0 (fT (fT vi 125 (nI p214)) 125 (nI p219)) vj (fT (fT vF 75 f7514) 75 f7519) vG) := hB9.2.weaken (fun _ q _ h => hFc q.1 h)
    have e9 : fT vi 125 (nI p219) = fT (fT vi 125 (nI p214)) 125 (nI p219) := (fT_sm _ _ _ _).symm
    rw [← e9] at hP hD
    clear e9
    have e9 : fT vF 75 f7519 = fT (fT vF 75 f7514) 75 f7519 := (fT_sm _ _ _ _).symm
    rw [← e9] at hP hD
    clear e9
    have hP : va_P (dC, dI) vwCl (WR a k h0 (fT vi 125 (nI p219)) vj (fT vF 75 f7519) vG) H := hP
    have hD : va_D A (WR a k h0 (fT vi 125 (nI p219)) vj (fT vF 75 f7519) vG) := hD
    have f19_0 := hw9
    try dsimp only at f19_0
    refine W.widen (k := 0) (n := 0) (by decide +kernel) (by decide +kernel) ?_
    exact W.vret hx hb hr (fun t9_ ht hW => ⟨⟨(p219, f7519), rfl, by (try dsimp only); first | assumption | omega, by rw [ht]; exact hP, hD⟩, hS.F ht⟩) hS.2.2 dX12_sayPart_22
  · have t_7 : (uI).toInt = 1 := toI_nne c_7 rfl (by decide)
    refine W.widen (k := 0) (n := 0) (by decide +kernel) (by decide +kernel) ?_
    exact W.vret hx hb hr (fun t9_ ht hW => ⟨⟨(p22, f752), rfl, by (try dsimp only); first | assumption | omega, by rw [ht]; exact hP, hD⟩, hS.F ht⟩) hS.2.2 dX12_sayPart_10
theorem dX12_sayTerm_0 : decode cX12_sayTerm 0 = .ok (.iload 4, 2) := dk_21 (by decide +kernel)
theorem dX12_sayTerm_2 : decode cX12_sayTerm 2 = .ok (.ifCond .eq 33, 3) := dk_153 (by decide +kernel)
theorem dX12_sayTerm_5 : decode cX12_sayTerm 5 = .ok (.aload_n 0, 1) := dk_42 (by decide +kernel)
theorem dX12_sayTerm_6 : decode cX12_sayTerm 6 = .ok (.bipush 32, 2) := dk_16 (by decide +kernel)
theorem dX12_sayTerm_8 : decode cX12_sayTerm 8 = .ok (.invokevirtual 936, 3) := dk_182 (by decide +kernel)
theorem dX12_sayTerm_11 : decode cX12_sayTerm 11 = .ok (.aload_n 0, 1) := dk_42 (by decide +kernel)
theorem dX12_sayTerm_12 : decode cX12_sayTerm 12 = .ok (.iload_n 1, 1) := dk_27 (by decide +kernel)
theorem dX12_sayTerm_13 : decode cX12_sayTerm 13 = .ok (.ifCond .ge 8, 3) := dk_156 (by decide +kernel)
theorem dX12_sayTerm_16 : decode cX12_sayTerm 16 = .ok (.bipush 45, 2) := dk_16 (by decide +kernel)
theorem dX12_sayTerm_18 : decode cX12_sayTerm 18 = .ok (.goto 5, 3) := dk_167 (by decide +kernel)
theorem dX12_sayTerm_21 : decode cX12_sayTerm 21 = .ok (.bipush 43, 2) := dk_16 (by decide +kernel)
theorem dX12_sayTerm_23 : decode cX12_sayTerm 23 = .ok (.invokevirtual 936, 3) := dk_182 (by decide +kernel)
theorem dX12_sayTerm_26 : decode cX12_sayTerm 26 = .ok (.aload_n 0, 1) := dk_42 (by decide +kernel)
theorem dX12_sayTerm_27 : decode cX12_sayTerm 27 = .ok (.bipush 32, 2) := dk_16 (by decide +kernel)
theorem dX12_sayTerm_29 : decode cX12_sayTerm 29 = .ok (.invokevirtual 936, 3) := dk_182 (by decide +kernel)
theorem dX12_sayTerm_32 : decode cX12_sayTerm 32 = .ok (.goto 24, 3) := dk_167 (by decide +kernel)
theorem dX12_sayTerm_35 : decode cX12_sayTerm 35 = .ok (.iload_n 1, 1) := dk_27 (by decide +kernel)
theorem dX12_sayTerm_36 : decode cX12_sayTerm 36 = .ok (.ifCond .ge 20, 3) := dk_156 (by decide +kernel)
theorem dX12_sayTerm_39 : decode cX12_sayTerm 39 = .ok (.aload_n 0, 1) := dk_42 (by decide +kernel)
theorem dX12_sayTerm_40 : decode cX12_sayTerm 40 = .ok (.bipush 45, 2) := dk_16 (by decide +kernel)
theorem dX12_sayTerm_42 : decode cX12_sayTerm 42 = .ok (.invokevirtual 936, 3) := dk_182 (by decide +kernel)
theorem dX12_sayTerm_45 : decode cX12_sayTerm 45 = .ok (.iload_n 3, 1) := dk_29 (by decide +kernel)
theorem dX12_sayTerm_46 : decode cX12_sayTerm 46 = .ok (.iconst (-1), 1) := dk_2 (by decide +kernel)
theorem dX12_sayTerm_47 : decode cX12_sayTerm 47 = .ok (.if_icmp .eq 9, 3) := dk_159 (by decide +kernel)
theorem dX12_sayTerm_50 : decode cX12_sayTerm 50 = .ok (.aload_n 0, 1) := dk_42 (by decide +kernel)
theorem dX12_sayTerm_51 : decode cX12_sayTerm 51 = .ok (.bipush 32, 2) := dk_16 (by decide +kernel)
theorem dX12_sayTerm_53 : decode cX12_sayTerm 53 = .ok (.invokevirtual 936, 3) := dk_182 (by decide +kernel)
theorem dX12_sayTerm_56 : decode cX12_sayTerm 56 = .ok (.iload_n 1, 1) := dk_27 (by decide +kernel)
theorem dX12_sayTerm_57 : decode cX12_sayTerm 57 = .ok (.ifCond .ge 8, 3) := dk_156 (by decide +kernel)
theorem dX12_sayTerm_60 : decode cX12_sayTerm 60 = .ok (.iload_n 1, 1) := dk_27 (by decide +kernel)
theorem dX12_sayTerm_61 : decode cX12_sayTerm 61 = .ok (.ineg, 1) := dk_116 (by decide +kernel)
theorem dX12_sayTerm_62 : decode cX12_sayTerm 62 = .ok (.goto 4, 3) := dk_167 (by decide +kernel)
theorem dX12_sayTerm_65 : decode cX12_sayTerm 65 = .ok (.iload_n 1, 1) := dk_27 (by decide +kernel)
theorem dX12_sayTerm_66 : decode cX12_sayTerm 66 = .ok (.istore 5, 2) := dk_54 (by decide +kernel)
theorem dX12_sayTerm_68 : decode cX12_sayTerm 68 = .ok (.iload_n 3, 1) := dk_29 (by decide +kernel)
theorem dX12_sayTerm_69 : decode cX12_sayTerm 69 = .ok (.iconst (-1), 1) := dk_2 (by decide +kernel)
theorem dX12_sayTerm_70 : decode cX12_sayTerm 70 = .ok (.if_icmp .ne 11, 3) := dk_160 (by decide +kernel)
theorem dX12_sayTerm_73 : decode cX12_sayTerm 73 = .ok (.aload_n 0, 1) := dk_42 (by decide +kernel)
theorem dX12_sayTerm_74 : decode cX12_sayTerm 74 = .ok (.iload 5, 2) := dk_21 (by decide +kernel)
theorem dX12_sayTerm_76 : decode cX12_sayTerm 76 = .ok (.iload_n 2, 1) := dk_28 (by decide +kernel)
theorem dX12_sayTerm_77 : decode cX12_sayTerm 77 = .ok (.invokevirtual 958, 3) := dk_182 (by decide +kernel)
theorem dX12_sayTerm_80 : decode cX12_sayTerm 80 = .ok (.return_, 1) := dk_177 (by decide +kernel)
theorem dX12_sayTerm_81 : decode cX12_sayTerm 81 = .ok (.iload 5, 2) := dk_21 (by decide +kernel)
theorem dX12_sayTerm_83 : decode cX12_sayTerm 83 = .ok (.iconst 1, 1) := dk_4 (by decide +kernel)
theorem dX12_sayTerm_84 : decode cX12_sayTerm 84 = .ok (.if_icmp .ne 8, 3) := dk_160 (by decide +kernel)
theorem dX12_sayTerm_87 : decode cX12_sayTerm 87 = .ok (.iload_n 2, 1) := dk_28 (by decide +kernel)
theorem dX12_sayTerm_88 : decode cX12_sayTerm 88 = .ok (.iconst 1, 1) := dk_4 (by decide +kernel)
theorem dX12_sayTerm_89 : decode cX12_sayTerm 89 = .ok (.if_icmp .eq 28, 3) := dk_159 (by decide +kernel)
theorem dX12_sayTerm_92 : decode cX12_sayTerm 92 = .ok (.aload_n 0, 1) := dk_42 (by decide +kernel)
theorem dX12_sayTerm_93 : decode cX12_sayTerm 93 = .ok (.iload 5, 2) := dk_21 (by decide +kernel)
theorem dX12_sayTerm_95 : decode cX12_sayTerm 95 = .ok (.iload_n 2, 1) := dk_28 (by decide +kernel)
theorem dX12_sayTerm_96 : decode cX12_sayTerm 96 = .ok (.invokevirtual 958, 3) := dk_182 (by decide +kernel)
theorem dX12_sayTerm_99 : decode cX12_sayTerm 99 = .ok (.aload_n 0, 1) := dk_42 (by decide +kernel)
theorem dX12_sayTerm_100 : decode cX12_sayTerm 100 = .ok (.bipush 32, 2) := dk_16 (by decide +kernel)
theorem dX12_sayTerm_102 : decode cX12_sayTerm 102 = .ok (.invokevirtual 936, 3) := dk_182 (by decide +kernel)
theorem dX12_sayTerm_105 : decode cX12_sayTerm 105 = .ok (.aload_n 0, 1) := dk_42 (by decide +kernel)
theorem dX12_sayTerm_106 : decode cX12_sayTerm 106 = .ok (.bipush 42, 2) := dk_16 (by decide +kernel)
theorem dX12_sayTerm_108 : decode cX12_sayTerm 108 = .ok (.invokevirtual 936, 3) := dk_182 (by decide +kernel)
theorem dX12_sayTerm_111 : decode cX12_sayTerm 111 = .ok (.aload_n 0, 1) := dk_42 (by decide +kernel)
theorem dX12_sayTerm_112 : decode cX12_sayTerm 112 = .ok (.bipush 32, 2) := dk_16 (by decide +kernel)
theorem dX12_sayTerm_114 : decode cX12_sayTerm 114 = .ok (.invokevirtual 936, 3) := dk_182 (by decide +kernel)
theorem dX12_sayTerm_117 : decode cX12_sayTerm 117 = .ok (.aload_n 0, 1) := dk_42 (by decide +kernel)
theorem dX12_sayTerm_118 : decode cX12_sayTerm 118 = .ok (.bipush 120, 2) := dk_16 (by decide +kernel)
theorem dX12_sayTerm_120 : decode cX12_sayTerm 120 = .ok (.invokevirtual 936, 3) := dk_182 (by decide +kernel)
theorem dX12_sayTerm_123 : decode cX12_sayTerm 123 = .ok (.aload_n 0, 1) := dk_42 (by decide +kernel)
theorem dX12_sayTerm_124 : decode cX12_sayTerm 124 = .ok (.iload_n 3, 1) := dk_29 (by decide +kernel)
theorem dX12_sayTerm_125 : decode cX12_sayTerm 125 = .ok (.invokevirtual 955, 3) := dk_182 (by decide +kernel)
theorem dX12_sayTerm_128 : decode cX12_sayTerm 128 = .ok (.return_, 1) := dk_177 (by decide +kernel)
def wsRX12_sayTerm : List Cond := .code yX12_sayTerm cX12_sayTerm 6 none :: ([] ++ wsX120 ++ (wsV RX12 936 RX12 yX12_say wsRX12_say) ++ (wsV RX12 958 RX12 yX12_sayPart wsRX12_sayPart) ++ (wsV RX12 955 RX12 yX12_sayNumber wsRX12_sayNumber))
theorem iwsRX12_sayTerm_in12 : ∀ w ∈ wsX120, w ∈ wsRX12_sayTerm := fun _ h => List.mem_cons_of_mem _ (List.mem_append_left _ (List.mem_append_left _ (List.mem_append_left _ (List.mem_append_right _ h))))
theorem gwsRX12_sayTerm_0 : GoodIn wsRX12_sayTerm (wsV RX12 936 RX12 yX12_say wsRX12_say) := goodIn_sub (fun _ h => List.mem_cons_of_mem _ (List.mem_append_left _ (List.mem_append_left _ (List.mem_append_right _ h)))) (gdV (by decide +kernel) gdwsRX12_say)
theorem gwsRX12_sayTerm_1 : GoodIn wsRX12_sayTerm (wsV RX12 958 RX12 yX12_sayPart wsRX12_sayPart) := goodIn_sub (fun _ h => List.mem_cons_of_mem _ (List.mem_append_left _ (List.mem_append_right _ h))) (gdV (by decide +kernel) gdwsRX12_sayPart)
theorem gwsRX12_sayTerm_2 : GoodIn wsRX12_sayTerm (wsV RX12 955 RX12 yX12_sayNumber wsRX12_sayNumber) := goodIn_sub (fun _ h => List.mem_cons_of_mem _ (List.mem_append_right _ h)) (gdV (by decide +kernel) gdwsRX12_sayNumber)
theorem gdwsRX12_sayTerm : wsRX12_sayTerm.all goodWord = true := gdC rfl (gdA (gdA (gdA (gdA (by decide +kernel : ([] : List Cond).all goodWord = true) gdwsX120) (gdV (by decide +kernel) gdwsRX12_say)) (gdV (by decide +kernel) gdwsRX12_sayPart)) (gdV (by decide +kernel) gdwsRX12_sayNumber))
set_option maxHeartbeats 4000000 in
set_option maxRecDepth 100000 in
/-- sayTerm(v, u, x, some) -/
theorem r_X12_sayTerm (l : Launch) (dC : Nat → ClassId) (dI : Nat → Nat → Nat) (a : Nat → Nat) (k : Nat → ClassId) (h0 : Nat) (vi : Nat → Int32) (vj : Nat → Int64) (vF : Nat → Nat → Int32) (vG : Nat → Nat → Int64) (vI : Int32) (uI : Int32) (xI : Int32) (sI : Int32) (pn : Nat) (hpn : vi 125 = nI pn) (hpn2 : pn ≤ 30000) (hbvI : (vI).toInt.natAbs ≤ 1000000) (hbuI : (uI).toInt.natAbs ≤ 1000000) (hbxI : (xI).toInt.natAbs ≤ 1000000) (sz : Nat) : Met l yX12_sayTerm wsRX12_sayTerm ({ frames := 3, cells := 0, slots := 0, locals := 66 }) (va_Pc [.ref h0, .int vI, .int uI, .int xI, .int sI] (fun U => U.heap.size = sz ∧ va_P (dC, dI) vwCl (WR a k h0 vi vj vF vG) U.heap ∧ va_K (dC, dI) vwCl (tX12 k) U ∧ va_D (fun _ => True) (WR a k h0 vi vj vF vG))) (va_Qv (fun (u : (Nat) × (Nat → Int32)) => ((u.1) ≤ 30000)) (fun (u : (Nat) × (Nat → Int32)) t => va_P (dC, dI) vwCl (WR a k h0 (fT vi 125 (nI (u.1))) vj (fT vF 75 (u.2)) vG) t.heap ∧ va_D (va_A (WR a k h0 vi vj vF vG) sz) (WR a k h0 (fT vi 125 (nI (u.1))) vj (fT vF 75 (u.2)) vG)) (va_A (WR a k h0 vi vj vF vG) sz)) 0 0 (va_A (WR a k h0 vi vj vF vG) sz) := by
  refine Met.ofW (cc := cX12_sayTerm) (maxL := 6) (ret := none) (by decide) rfl ?_
  intro p e s m args below meth c s₁ B hml hv
  obtain ⟨rfl, hsz, hP, hK, hD0⟩ := hv
  have hx := B.exec
  have hb := B.bytes
  have hr := B.returns
  have hts := atoms_spec (ws := wsRX12_sayTerm) B.pre
  have hown : s.vm.findClass RX12 = some m.cls := findClass_of_methodNamed B.named
  have hlocks := B.notSynchronized
  subst hsz
  have hD := hD0.self (sz := s.heap.size)
  generalize hAe : va_A (WR a k h0 vi vj vF vG) s.heap.size = A at hD ⊢
  have hA : ∀ q : Nat, s.heap.size ≤ q → A q := fun q h => by rw [← hAe]; exact Or.inr h
  have hS : va_S A s.heap s.heap [] := va_S.rf
  have hl := lv_entry ([.ref h0, .int vI, .int uI, .int xI, .int sI]) (n := 6) (Nat.le_of_ble_eq_true rfl)
  rw [lg_entry_eq]
  generalize (lg_sl ([.ref h0, .int vI, .int uI, .int xI, .int sI]) ++ List.replicate (6 - (lg_sl ([.ref h0, .int vI, .int uI, .int xI, .int sI])).length) Slot.unset).toArray = ls at hl ⊢
  have hl : lv_has ls 6 [(0, .ref h0), (1, .int vI), (2, .int uI), (3, .int xI), (4, .int sI)] := hl
  refine lv_iload hx hb dX12_sayTerm_0 (lv_at hl 4 rfl) ?_
  refine W.cut (pc := 56) (fun H locs ls stk => ∃ (j1_i125 : Nat) (j1_F75 : Nat → Int32), (j1_i125 ≤ 30000) ∧  stk = [] ∧ va_P (dC, dI) vwCl (WR a k h0 (fT vi 125 (nI j1_i125)) vj (fT vF 75 j1_F75) vG) H ∧ va_D A (WR a k h0 (fT vi 125 (nI j1_i125)) vj (fT vF 75 j1_F75) vG) ∧ va_S A s.heap H locs ∧ lv_has ls 6 [(0, .ref h0), (1, .int vI), (2, .int uI), (3, .int xI), (4, .int sI)]) (fun join1 => ?_) ?_
  · refine lv_if_eq (tgt := 35) hx hb dX12_sayTerm_2 (by decide) (fun c_2 => ?_) (fun c_2 => ?_)
    · have t_2 : (sI).toInt = 0 := toI_eq c_2 rfl (by decide)
      refine lv_iload_n hx hb dX12_sayTerm_35 rfl (lv_at hl 1 rfl) ?_
      refine lv_if_ge (tgt := 56) hx hb dX12_sayTerm_36 (by decide) (fun c_36 => ?_) (fun c_36 => ?_)
      · have t_36 : (vI).toInt ≥ 0 := toI_ge c_36 rfl (by decide)
        have e9 : fT vi 125 (nI pn) = vi := by funext q9; by_cases h9_125 : q9 = 125; (subst h9_125; exact (fT_eq _ _ _).trans (Eq.trans (by first | rfl | assumption | (symm; assumption) | (subst_vars; rfl)) (Eq.refl _).symm)); exact (fT_ne _ _ h9_125).trans (Eq.refl _).symm
        have hP : va_P (dC, dI) vwCl (WR a k h0 (fT vi 125 (nI pn)) vj vF vG) s.heap := by rw [e9]; exact hP
        have hD : va_D A (WR a k h0 (fT vi 125 (nI pn)) vj vF vG) := by rw [e9]; exact hD
        clear e9
        have e9 : fT vF 75 (vF 75) = vF := by funext q9; by_cases h9_75 : q9 = 75; (subst h9_75; exact (fT_eq _ _ _).trans (Eq.trans (by first | rfl | assumption | (symm; assumption) | (subst_vars; rfl)) (Eq.refl _).symm)); exact (fT_ne _ _ h9_75).trans (Eq.refl _).symm
        have hP : va_P (dC, dI) vwCl (WR a k h0 (fT vi 125 (nI pn)) vj (fT vF 75 (vF 75)) vG) s.heap := by rw [e9]; exact hP
        have hD : va_D A (WR a k h0 (fT vi 125 (nI pn)) vj (fT vF 75 (vF 75)) vG) := by rw [e9]; exact hD
        clear e9
        have hl : lv_has _ _ ([(0, .ref h0), (1, .int vI), (2, .int uI), (3, .int xI), (4, .int sI)]) := lv_sub hl [0, 1, 2, 3, 4] rfl
        exact join1 _ _ _ _ ⟨pn, (vF 75), by first | assumption | omega, rfl, hP, hD, hS, hl⟩
      · have t_36 : ¬ (vI).toInt ≥ 0 := toI_nge c_36 rfl (by decide)
        refine lv_aload_n hx hb dX12_sayTerm_39 rfl (lv_at hl 0 rfl) ?_
        refine lv_bipush (v := 45) hx hb dX12_sayTerm_40 (by decide) ?_
        have hFc := allFree hD hS hA
        refine va_callv (va_runV (As := [.int 45]) (rest := []) ⟨hx, hb, hml, hown, hts⟩ (r_X12_say l dC dI a k h0 vi vj vF vG 45 pn hpn (by first | assumption | decide | omega | rfl) s.heap.size) (cwV 1 hts gwsRX12_sayTerm_0 rfl rfl rfl hd_yX12_say_RX12 (by decide +kernel)) (fz_pre (va_recv hK hP (ci := 12) (q0 := 0) rfl rfl) hP hK hD) rfl rfl hl.1 rfl (lv_room (Nat.le_of_ble_eq_true rfl)) dX12_sayTerm_42 (by decide +kernel)) hS (fun q _ h => hFc q h) hFc (fun u t9_ H locs ht hvm hw9 hB9 hz1 hk1 hS => ?_)
        obtain ⟨p242, f7542⟩ := u
        try dsimp only at hw9 hB9
        have hP : va_P (dC, dI) vwCl (WR a k h0 (fT vi 125 (nI p242)) vj (fT vF 75 f7542) vG) H := fz_P ht hB9.1
        have hD : va_D A (WR a k h0 (fT vi 125 (nI p242)) vj (fT vF 75 f7542) vG) := hB9.2.weaken (fun _ q _ h => hFc q.1 h)
        obtain ⟨f42_0, f42_1, f42_2⟩ := hw9
        refine lv_iload_n hx hb dX12_sayTerm_45 rfl (lv_at hl 3 rfl) ?_
        refine lv_iconst (v := (-1)) hx hb dX12_sayTerm_46 (by decide) ?_
        refine lv_icmp_eq (tgt := 56) hx hb dX12_sayTerm_47 (by decide) (fun c_47 => ?_) (fun c_47 => ?_)
        · have t_47 : (xI).toInt = -1 := toI_eq c_47 rfl (by decide)
          have hl : lv_has _ _ ([(0, .ref h0), (1, .int vI), (2, .int uI), (3, .int xI), (4, .int sI)]) := lv_sub hl [0, 1, 2, 3, 4] rfl
          exact join1 _ _ _ _ ⟨p242, f7542, by first | assumption | omega, rfl, hP, hD, hS, hl⟩
        · have t_47 : ¬ (xI).toInt = -1 := toI_neq c_47 rfl (by decide)
          refine lv_aload_n hx hb dX12_sayTerm_50 rfl (lv_at hl 0 rfl) ?_
          refine lv_bipush (v := 32) hx hb dX12_sayTerm_51 (by decide) ?_
          have hFc := allFree hD hS hA
          refine va_callv (va_runV (As := [.int 32]) (rest := []) ⟨hx, hb, hml, hown, hts⟩ (r_X12_say l dC dI a k h0 (fT vi 125 (nI p242)) vj (fT vF 75 f7542) vG 32 p242 rfl (by first | assumption | decide | omega | rfl) H.size) (cwV 1 hts gwsRX12_sayTerm_0 rfl rfl rfl hd_yX12_say_RX12 (by decide +kernel)) (fz_pre (va_recv hK hP (ci := 12) (q0 := 0) rfl rfl) hP hK hD) rfl rfl hl.1 rfl (lv_room (Nat.le_of_ble_eq_true rfl)) dX12_sayTerm_53 (by decide +kernel)) hS (fun q _ h => hFc q h) hFc (fun u t9_ H locs ht hvm hw9 hB9 hz1 hk1 hS => ?_)
          obtain ⟨p253, f7553⟩ := u
          try dsimp only at hw9 hB9
          have hP : va_P (dC, dI) vwCl (WR a k h0 (fT (fT vi 125 (nI p242)) 125 (nI p253)) vj (fT (fT vF 75 f7542) 75 f7553) vG) H := fz_P ht hB9.1
          have hD : va_D A (WR a k h0 (fT (fT vi 125 (nI p242)) 125 (nI p253)) vj (fT (fT vF 75 f7542) 75 f7553) vG) := hB9.2.weaken (fun _ q _ h => hFc q.1 h)
          have e9 : fT vi 125 (nI p253) = fT (fT vi 125 (nI p242)) 125 (nI p253) := (fT_sm _ _ _ _).symm
          rw [← e9] at hP hD
          clear e9
          have e9 : fT vF 75 f7553 = fT (fT vF 75 f7542) 75 f7553 := (fT_sm _ _ _ _).symm
          rw [← e9] at hP hD
          clear e9
          have hP : va_P (dC, dI) vwCl (WR a k h0 (fT vi 125 (nI p253)) vj (fT vF 75 f7553) vG) H := hP
          have hD : va_D A (WR a k h0 (fT vi 125 (nI p253)) vj (fT vF 75 f7553) vG) := hD
          obtain ⟨f53_0, f53_1, f53_2⟩ := hw9
          have hl : lv_has _ _ ([(0, .ref h0), (1, .int vI), (2, .int uI), (3, .int xI), (4, .int sI)]) := lv_sub hl [0, 1, 2, 3, 4] rfl
          exact join1 _ _ _ _ ⟨p253, f7553, by first | assumption | omega, rfl, hP, hD, hS, hl⟩
    · have t_2 : ¬ (sI).toInt = 0 := toI_neq c_2 rfl (by decide)
      refine lv_aload_n hx hb dX12_sayTerm_5 rfl (lv_at hl 0 rfl) ?_
      refine lv_bipush (v := 32) hx hb dX12_sayTerm_6 (by decide) ?_
      have hFc := allFree hD hS hA
      refine va_callv (va_runV (As := [.int 32]) (rest := []) ⟨hx, hb, hml, hown, hts⟩ (r_X12_say l dC dI a k h0 vi vj vF vG 32 pn hpn (by first | assumption | decide | omega | rfl) s.heap.size) (cwV 1 hts gwsRX12_sayTerm_0 rfl rfl rfl hd_yX12_say_RX12 (by decide +kernel)) (fz_pre (va_recv hK hP (ci := 12) (q0 := 0) rfl rfl) hP hK hD) rfl rfl hl.1 rfl (lv_room (Nat.le_of_ble_eq_true rfl)) dX12_sayTerm_8 (by decide +kernel)) hS (fun q _ h => hFc q h) hFc (fun u t9_ H locs ht hvm hw9 hB9 hz1 hk1 hS => ?_)
      obtain ⟨p28, f758⟩ := u
      try dsimp only at hw9 hB9
      have hP : va_P (dC, dI) vwCl (WR a k h0 (fT vi 125 (nI p28)) vj (fT vF 75 f758) vG) H := fz_P ht hB9.1
      have hD : va_D A (WR a k h0 (fT vi 125 (nI p28)) vj (fT vF 75 f758) vG) := hB9.2.weaken (fun _ q _ h => hFc q.1 h)
      obtain ⟨f8_0, f8_1, f8_2⟩ := hw9
      refine lv_aload_n hx hb dX12_sayTerm_11 rfl (lv_at hl 0 rfl) ?_
      refine lv_iload_n hx hb dX12_sayTerm_12 rfl (lv_at hl 1 rfl) ?_
      refine W.cut (pc := 23) (fun H locs ls stk => ∃ (j3_s0 : Int32),  stk = [.int j3_s0, .ref h0] ∧ va_P (dC, dI) vwCl (WR a k h0 (fT vi 125 (nI p28)) vj (fT vF 75 f758) vG) H ∧ va_D A (WR a k h0 (fT vi 125 (nI p28)) vj (fT vF 75 f758) vG) ∧ va_S A s.heap H locs ∧ lv_has ls 6 [(0, .ref h0), (1, .int vI), (2, .int uI), (3, .int xI), (4, .int sI)]) (fun join2 => ?_) ?_
      · refine lv_if_ge (tgt := 21) hx hb dX12_sayTerm_13 (by decide) (fun c_13 => ?_) (fun c_13 => ?_)
        · have t_13 : (vI).toInt ≥ 0 := toI_ge c_13 rfl (by decide)
          refine lv_bipush (v := 43) hx hb dX12_sayTerm_21 (by decide) ?_
          have hl : lv_has _ _ ([(0, .ref h0), (1, .int vI), (2, .int uI), (3, .int xI), (4, .int sI)]) := lv_sub hl [0, 1, 2, 3, 4] rfl
          exact join2 _ _ _ _ ⟨43, rfl, hP, hD, hS, hl⟩
        · have t_13 : ¬ (vI).toInt ≥ 0 := toI_nge c_13 rfl (by decide)
          refine lv_bipush (v := 45) hx hb dX12_sayTerm_16 (by decide) ?_
          refine lv_goto (tgt := 23) hx hb dX12_sayTerm_18 (by decide) ?_
          have hl : lv_has _ _ ([(0, .ref h0), (1, .int vI), (2, .int uI), (3, .int xI), (4, .int sI)]) := lv_sub hl [0, 1, 2, 3, 4] rfl
          exact join2 _ _ _ _ ⟨45, rfl, hP, hD, hS, hl⟩
      · rintro H locs ls stk ⟨j3_s0, rfl, hP, hD, hS, hl⟩
        have hFc := allFree hD hS hA
        refine va_callv (va_runV (As := [.int j3_s0]) (rest := []) ⟨hx, hb, hml, hown, hts⟩ (r_X12_say l dC dI a k h0 (fT vi 125 (nI p28)) vj (fT vF 75 f758) vG j3_s0 p28 rfl (by first | assumption | decide | omega | rfl) H.size) (cwV 1 hts gwsRX12_sayTerm_0 rfl rfl rfl hd_yX12_say_RX12 (by decide +kernel)) (fz_pre (va_recv hK hP (ci := 12) (q0 := 0) rfl rfl) hP hK hD) rfl rfl hl.1 rfl (lv_room (Nat.le_of_ble_eq_true rfl)) dX12_sayTerm_23 (by decide +kernel)) hS (fun q _ h => hFc q h) hFc (fun u t9_ H locs ht hvm hw9 hB9 hz1 hk1 hS => ?_)
        obtain ⟨p223, f7523⟩ := u
        try dsimp only at hw9 hB9
        have hP : va_P (dC, dI) vwCl (WR a k h0 (fT (fT vi 125 (nI p28)) 125 (nI p223)) vj (fT (fT vF 75 f758) 75 f7523) vG) H := fz_P ht hB9.1
        have hD : va_D A (WR a k h0 (fT (fT vi 125 (nI p28)) 125 (nI p223)) vj (fT (fT vF 75 f758) 75 f7523) vG) := hB9.2.weaken (fun _ q _ h => hFc q.1 h)
        have e9 : fT vi 125 (nI p223) = fT (fT vi 125 (nI p28)) 125 (nI p223) := (fT_sm _ _ _ _).symm
        rw [← e9] at hP hD
        clear e9
        have e9 : fT vF 75 f7523 = fT (fT vF 75 f758) 75 f7523 := (fT_sm _ _ _ _).symm
        rw [← e9] at hP hD
        clear e9
        have hP : va_P (dC, dI) vwCl (WR a k h0 (fT vi 125 (nI p223)) vj (fT vF 75 f7523) vG) H := hP
        have hD : va_D A (WR a k h0 (fT vi 125 (nI p223)) vj (fT vF 75 f7523) vG) := hD
        obtain ⟨f23_0, f23_1, f23_2⟩ := hw9
        refine lv_aload_n hx hb dX12_sayTerm_26 rfl (lv_at hl 0 rfl) ?_
        refine lv_bipush (v := 32) hx hb dX12_sayTerm_27 (by decide) ?_
        have hFc := allFree hD hS hA
        refine va_callv (va_runV (As := [.int 32]) (rest := []) ⟨hx, hb, hml, hown, hts⟩ (r_X12_say l dC dI a k h0 (fT vi 125 (nI p223)) vj (fT vF 75 f7523) vG 32 p223 rfl (by first | assumption | decide | omega | rfl) H.size) (cwV 1 hts gwsRX12_sayTerm_0 rfl rfl rfl hd_yX12_say_RX12 (by decide +kernel)) (fz_pre (va_recv hK hP (ci := 12) (q0 := 0) rfl rfl) hP hK hD) rfl rfl hl.1 rfl (lv_room (Nat.le_of_ble_eq_true rfl)) dX12_sayTerm_29 (by decide +kernel)) hS (fun q _ h => hFc q h) hFc (fun u t9_ H locs ht hvm hw9 hB9 hz1 hk1 hS => ?_)
        obtain ⟨p229, f7529⟩ := u
        try dsimp only at hw9 hB9
        have hP : va_P (dC, dI) vwCl (WR a k h0 (fT (fT vi 125 (nI p223)) 125 (nI p229)) vj (fT (fT vF 75 f7523) 75 f7529) vG) H := fz_P ht hB9.1
        have hD : va_D A (WR a k h0 (fT (fT vi 125 (nI p223)) 125 (nI p229)) vj (fT (fT vF 75 f7523) 75 f7529) vG) := hB9.2.weaken (fun _ q _ h => hFc q.1 h)
        have e9 : fT vi 125 (nI p229) = fT (fT vi 125 (nI p223)) 125 (nI p229) := (fT_sm _ _ _ _).symm
        rw [← e9] at hP hD
        clear e9
        have e9 : fT vF 75 f7529 = fT (fT vF 75 f7523) 75 f7529 := (fT_sm _ _ _ _).symm
        rw [← e9] at hP hD
        clear e9
        have hP : va_P (dC, dI) vwCl (WR a k h0 (fT vi 125 (nI p229)) vj (fT vF 75 f7529) vG) H := hP
        have hD : va_D A (WR a k h0 (fT vi 125 (nI p229)) vj (fT vF 75 f7529) vG) := hD
        obtain ⟨f29_0, f29_1, f29_2⟩ := hw9
        refine lv_goto (tgt := 56) hx hb dX12_sayTerm_32 (by decide) ?_
        have hl : lv_has _ _ ([(0, .ref h0), (1, .int vI), (2, .int uI), (3, .int xI), (4, .int sI)]) := lv_sub hl [0, 1, 2, 3, 4] rfl
        exact join1 _ _ _ _ ⟨p229, f7529, by first | assumption | omega, rfl, hP, hD, hS, hl⟩
  · rintro H locs ls stk ⟨j1_i125, j1_F75, hj1_i125, rfl, hP, hD, hS, hl⟩
    refine lv_iload_n hx hb dX12_sayTerm_56 rfl (lv_at hl 1 rfl) ?_
    refine W.cut (pc := 66) (fun H locs ls stk => ∃ (aI : Int32), ((aI).toInt.natAbs ≤ 1000000) ∧  stk = [.int aI] ∧ va_P (dC, dI) vwCl (WR a k h0 (fT vi 125 (nI j1_i125)) vj (fT vF 75 j1_F75) vG) H ∧ va_D A (WR a k h0 (fT vi 125 (nI j1_i125)) vj (fT vF 75 j1_F75) vG) ∧ va_S A s.heap H locs ∧ lv_has ls 6 [(0, .ref h0), (1, .int vI), (2, .int uI), (3, .int xI), (4, .int sI)]) (fun join3 => ?_) ?_
    · refine lv_if_ge (tgt := 65) hx hb dX12_sayTerm_57 (by decide) (fun c_57 => ?_) (fun c_57 => ?_)
      · have t_57 : (vI).toInt ≥ 0 := toI_ge c_57 rfl (by decide)
        refine lv_iload_n hx hb dX12_sayTerm_65 rfl (lv_at hl 1 rfl) ?_
        have hl : lv_has _ _ ([(0, .ref h0), (1, .int vI), (2, .int uI), (3, .int xI), (4, .int sI)]) := lv_sub hl [0, 1, 2, 3, 4] rfl
        exact join3 _ _ _ _ ⟨vI, hbvI, rfl, hP, hD, hS, hl⟩
      · have t_57 : ¬ (vI).toInt ≥ 0 := toI_nge c_57 rfl (by decide)
        refine lv_iload_n hx hb dX12_sayTerm_60 rfl (lv_at hl 1 rfl) ?_
        refine lv_ineg hx hb dX12_sayTerm_61 ?_
        refine lv_goto (tgt := 66) hx hb dX12_sayTerm_62 (by decide) ?_
        have hl : lv_has _ _ ([(0, .ref h0), (1, .int vI), (2, .int uI), (3, .int xI), (4, .int sI)]) := lv_sub hl [0, 1, 2, 3, 4] rfl
        exact join3 _ _ _ _ ⟨(-vI), (neg32 (b := 1000000) hbvI (by decide)).1, rfl, hP, hD, hS, hl⟩
    · rintro H locs ls stk ⟨aI, hbaI, rfl, hP, hD, hS, hl⟩
      refine lv_istore hx hb dX12_sayTerm_66 hl (by decide) rfl (fun ls (hl : lv_has ls _ ([(5, .int aI), (0, .ref h0), (1, .int vI), (2, .int uI), (3, .int xI), (4, .int sI)])) => ?_)
      refine lv_iload_n hx hb dX12_sayTerm_68 rfl (lv_at hl 4 rfl) ?_
      refine lv_iconst (v := (-1)) hx hb dX12_sayTerm_69 (by decide) ?_
      refine lv_icmp_ne (tgt := 81) hx hb dX12_sayTerm_70 (by decide) (fun c_70 => ?_) (fun c_70 => ?_)
      · have t_70 : (xI).toInt ≠ -1 := toI_ne c_70 rfl (by decide)
        refine lv_iload hx hb dX12_sayTerm_81 (lv_at hl 0 rfl) ?_
        refine lv_iconst (v := 1) hx hb dX12_sayTerm_83 (by decide) ?_
        refine W.cut (pc := 117) (fun H locs ls stk => ∃ (j5_i125 : Nat) (j5_F75 : Nat → Int32), (j5_i125 ≤ 30000) ∧  stk = [] ∧ va_P (dC, dI) vwCl (WR a k h0 (fT vi 125 (nI j5_i125)) vj (fT vF 75 j5_F75) vG) H ∧ va_D A (WR a k h0 (fT vi 125 (nI j5_i125)) vj (fT vF 75 j5_F75) vG) ∧ va_S A s.heap H locs ∧ lv_has ls 6 [(5, .int aI), (0, .ref h0), (1, .int vI), (2, .int uI), (3, .int xI), (4, .int sI)]) (fun join4 => ?_) ?_
        · refine lv_icmp_ne (tgt := 92) hx hb dX12_sayTerm_84 (by decide) (fun c_84 => ?_) (fun c_84 => ?_)
          · have t_84 : (aI).toInt ≠ 1 := toI_ne c_84 rfl (by decide)
            refine lv_aload_n hx hb dX12_sayTerm_92 rfl (lv_at hl 1 rfl) ?_
            refine lv_iload hx hb dX12_sayTerm_93 (lv_at hl 0 rfl) ?_
            refine lv_iload_n hx hb dX12_sayTerm_95 rfl (lv_at hl 3 rfl) ?_
            have hFc := allFree hD hS hA
            refine va_callv (va_runV (As := [.int aI, .int uI]) (rest := []) ⟨hx, hb, hml, hown, hts⟩ (r_X12_sayPart l dC dI a k h0 (fT vi 125 (nI j1_i125)) vj (fT vF 75 j1_F75) vG aI uI j1_i125 rfl (by first | assumption | decide | omega | rfl) (hbaI) (hbuI) H.size) (cwV 2 hts gwsRX12_sayTerm_1 rfl rfl rfl hd_yX12_sayPart_RX12 (by decide +kernel)) (fz_pre (va_recv hK hP (ci := 12) (q0 := 0) rfl rfl) hP hK hD) rfl rfl hl.1 rfl (lv_room (Nat.le_of_ble_eq_true rfl)) dX12_sayTerm_96 (by decide +kernel)) hS (fun q _ h => hFc q h) hFc (fun u t9_ H locs ht hvm hw9 hB9 hz1 hk1 hS => ?_)
            obtain ⟨p296, f7596⟩ := u
            try dsimp only at hw9 hB9
            have hP : va_P (dC, dI) vwCl (WR a k h0 (fT (fT vi 125 (nI j1_i125)) 125 (nI p296)) vj (fT (fT vF 75 j1_F75) 75 f7596) vG) H := fz_P ht hB9.1
            have hD : va_D A (WR a k h0 (fT (fT vi 125 (nI j1_i125)) 125 (nI p296)) vj (fT (fT vF 75 j1_F75) 75 f7596) vG) := hB9.2.weaken (fun _ q _ h => hFc q.1 h)
            have e9 : fT vi 125 (nI p296) = fT (fT vi 125 (nI j1_i125)) 125 (nI p296) := (fT_sm _ _ _ _).symm
            rw [← e9] at hP hD
            clear e9
            have e9 : fT vF 75 f7596 = fT (fT vF 75 j1_F75) 75 f7596 := (fT_sm _ _ _ _).symm
            rw [← e9] at hP hD
            clear e9
            have hP : va_P (dC, dI) vwCl (WR a k h0 (fT vi 125 (nI p296)) vj (fT vF 75 f7596) vG) H := hP
            have hD : va_D A (WR a k h0 (fT vi 125 (nI p296)) vj (fT vF 75 f7596) vG) := hD
            have f96_0 := hw9
            try dsimp only at f96_0
            refine lv_aload_n hx hb dX12_sayTerm_99 rfl (lv_at hl 1 rfl) ?_
            refine lv_bipush (v := 32) hx hb dX12_sayTerm_100 (by decide) ?_
            have hFc := allFree hD hS hA
            refine va_callv (va_runV (As := [.int 32]) (rest := []) ⟨hx, hb, hml, hown, hts⟩ (r_X12_say l dC dI a k h0 (fT vi 125 (nI p296)) vj (fT vF 75 f7596) vG 32 p296 rfl (by first | assumption | decide | omega | rfl) H.size) (cwV 1 hts gwsRX12_sayTerm_0 rfl rfl rfl hd_yX12_say_RX12 (by decide +kernel)) (fz_pre (va_recv hK hP (ci := 12) (q0 := 0) rfl rfl) hP hK hD) rfl rfl hl.1 rfl (lv_room (Nat.le_of_ble_eq_true rfl)) dX12_sayTerm_102 (by decide +kernel)) hS (fun q _ h => hFc q h) hFc (fun u t9_ H locs ht hvm hw9 hB9 hz1 hk1 hS => ?_)
            obtain ⟨p2102, f75102⟩ := u
            try dsimp only at hw9 hB9
            have hP : va_P (dC, dI) vwCl (WR a k h0 (fT (fT vi 125 (nI p296)) 125 (nI p2102)) vj (fT (fT vF 75 f7596) 75 f75102) vG) H := fz_P ht hB9.1
            have hD : va_D A (WR a k h0 (fT (fT vi 125 (nI p296)) 125 (nI p2102)) vj (fT (fT vF 75 f7596) 75 f75102) vG) := hB9.2.weaken (fun _ q _ h => hFc q.1 h)
            have e9 : fT vi 125 (nI p2102) = fT (fT vi 125 (nI p296)) 125 (nI p2102) := (fT_sm _ _ _ _).symm
            rw [← e9] at hP hD
            clear e9
            have e9 : fT vF 75 f75102 = fT (fT vF 75 f7596) 75 f75102 := (fT_sm _ _ _ _).symm
            rw [← e9] at hP hD
            clear e9
            have hP : va_P (dC, dI) vwCl (WR a k h0 (fT vi 125 (nI p2102)) vj (fT vF 75 f75102) vG) H := hP
            have hD : va_D A (WR a k h0 (fT vi 125 (nI p2102)) vj (fT vF 75 f75102) vG) := hD
            obtain ⟨f102_0, f102_1, f102_2⟩ := hw9
            refine lv_aload_n hx hb dX12_sayTerm_105 rfl (lv_at hl 1 rfl) ?_
            refine lv_bipush (v := 42) hx hb dX12_sayTerm_106 (by decide) ?_
            have hFc := allFree hD hS hA
            refine va_callv (va_runV (As := [.int 42]) (rest := []) ⟨hx, hb, hml, hown, hts⟩ (r_X12_say l dC dI a k h0 (fT vi 125 (nI p2102)) vj (fT vF 75 f75102) vG 42 p2102 rfl (by first | assumption | decide | omega | rfl) H.size) (cwV 1 hts gwsRX12_sayTerm_0 rfl rfl rfl hd_yX12_say_RX12 (by decide +kernel)) (fz_pre (va_recv hK hP (ci := 12) (q0 := 0) rfl rfl) hP hK hD) rfl rfl hl.1 rfl (lv_room (Nat.le_of_ble_eq_true rfl)) dX12_sayTerm_108 (by decide +kernel)) hS (fun q _ h => hFc q h) hFc (fun u t9_ H locs ht hvm hw9 hB9 hz1 hk1 hS => ?_)
            obtain ⟨p2108, f75108⟩ := u
            try dsimp only at hw9 hB9
            have hP : va_P (dC, dI) vwCl (WR a k h0 (fT (fT vi 125 (nI p2102)) 125 (nI p2108)) vj (fT (fT vF 75 f75102) 75 f75108) vG) H := fz_P ht hB9.1
            have hD : va_D A (WR a k h0 (fT (fT vi 125 (nI p2102)) 125 (nI p2108)) vj (fT (fT vF 75 f75102) 75 f75108) vG) := hB9.2.weaken (fun _ q _ h => hFc q.1 h)
            have e9 : fT vi 125 (nI p2108) = fT (fT vi 125 (nI p2102)) 125 (nI p2108) := (fT_sm _ _ _ _).symm
            rw [← e9] at hP hD
            clear e9
            have e9 : fT vF 75 f75108 = fT (fT vF 75 f75102) 75 f75108 := (fT_sm _ _ _ _).symm
            rw [← e9] at hP hD
            clear e9
            have hP : va_P (dC, dI) vwCl (WR a k h0 (fT vi 125 (nI p2108)) vj (fT vF 75 f75108) vG) H := hP
            have hD : va_D A (WR a k h0 (fT vi 125 (nI p2108)) vj (fT vF 75 f75108) vG) := hD
            obtain ⟨f108_0, f108_1, f108_2⟩ := hw9
            refine lv_aload_n hx hb dX12_sayTerm_111 rfl (lv_at hl 1 rfl) ?_
            refine lv_bipush (v := 32) hx hb dX12_sayTerm_112 (by decide) ?_
            have hFc := allFree hD hS hA
            refine va_callv (va_runV (As := [.int 32]) (rest := []) ⟨hx, hb, hml, hown, hts⟩ (r_X12_say l dC dI a k h0 (fT vi 125 (nI p2108)) vj (fT vF 75 f75108) vG 32 p2108 rfl (by first | assumption | decide | omega | rfl) H.size) (cwV 1 hts gwsRX12_sayTerm_0 rfl rfl rfl hd_yX12_say_RX12 (by decide +kernel)) (fz_pre (va_recv hK hP (ci := 12) (q0 := 0) rfl rfl) hP hK hD) rfl rfl hl.1 rfl (lv_room (Nat.le_of_ble_eq_true rfl)) dX12_sayTerm_114 (by decide +kernel)) hS (fun q _ h => hFc q h) hFc (fun u t9_ H locs ht hvm hw9 hB9 hz1 hk1 hS => ?_)
            obtain ⟨p2114, f75114⟩ := u
            try dsimp only at hw9 hB9
            have hP : va_P (dC, dI) vwCl (WR a k h0 (fT (fT vi 125 (nI p2108)) 125 (nI p2114)) vj (fT (fT vF 75 f75108) 75 f75114) vG) H := fz_P ht hB9.1
            have hD : va_D A (WR a k h0 (fT (fT vi 125 (nI p2108)) 125 (nI p2114)) vj (fT (fT vF 75 f75108) 75 f75114) vG) := hB9.2.weaken (fun _ q _ h => hFc q.1 h)
            have e9 : fT vi 125 (nI p2114) = fT (fT vi 125 (nI p2108)) 125 (nI p2114) := (fT_sm _ _ _ _).symm
            rw [← e9] at hP hD
            clear e9
            have e9 : fT vF 75 f75114 = fT (fT vF 75 f75108) 75 f75114 := (fT_sm _ _ _ _).symm
            rw [← e9] at hP hD
            clear e9
            have hP : va_P (dC, dI) vwCl (WR a k h0 (fT vi 125 (nI p2114)) vj (fT vF 75 f75114) vG) H := hP
            have hD : va_D A (WR a k h0 (fT vi 125 (nI p2114)) vj (fT vF 75 f75114) vG) := hD
            obtain ⟨f114_0, f114_1, f114_2⟩ := hw9
            have hl : lv_has _ _ ([(5, .int aI), (0, .ref h0), (1, .int vI), (2, .int uI), (3, .int xI), (4, .int sI)]) := lv_sub hl [0, 1, 2, 3, 4, 5] rfl
            exact join4 _ _ _ _ ⟨p2114, f75114, by first | assumption | omega, rfl, hP, hD, hS, hl⟩
          · have t_84 : (aI).toInt = 1 := toI_nne c_84 rfl (by decide)
            refine lv_iload_n hx hb dX12_sayTerm_87 rfl (lv_at hl 3 rfl) ?_
            refine lv_iconst (v := 1) hx hb dX12_sayTerm_88 (by decide) ?_
            refine lv_icmp_eq (tgt := 117) hx hb dX12_sayTerm_89 (by decide) (fun c_89 => ?_) (fun c_89 => ?_)
            · have t_89 : (uI).toInt = 1 := toI_eq c_89 rfl (by decide)
              have hl : lv_has _ _ ([(5, .int aI), (0, .ref h0), (1, .int vI), (2, .int uI), (3, .int xI), (4, .int sI)]) := lv_sub hl [0, 1, 2, 3, 4, 5] rfl
              exact join4 _ _ _ _ ⟨j1_i125, j1_F75, by first | assumption | omega, rfl, hP, hD, hS, hl⟩
            · have t_89 : ¬ (uI).toInt = 1 := toI_neq c_89 rfl (by decide)
              refine lv_aload_n hx hb dX12_sayTerm_92 rfl (lv_at hl 1 rfl) ?_
              refine lv_iload hx hb dX12_sayTerm_93 (lv_at hl 0 rfl) ?_
              refine lv_iload_n hx hb dX12_sayTerm_95 rfl (lv_at hl 3 rfl) ?_
              have hFc := allFree hD hS hA
              refine va_callv (va_runV (As := [.int aI, .int uI]) (rest := []) ⟨hx, hb, hml, hown, hts⟩ (r_X12_sayPart l dC dI a k h0 (fT vi 125 (nI j1_i125)) vj (fT vF 75 j1_F75) vG aI uI j1_i125 rfl (by first | assumption | decide | omega | rfl) (hbaI) (hbuI) H.size) (cwV 2 hts gwsRX12_sayTerm_1 rfl rfl rfl hd_yX12_sayPart_RX12 (by decide +kernel)) (fz_pre (va_recv hK hP (ci := 12) (q0 := 0) rfl rfl) hP hK hD) rfl rfl hl.1 rfl (lv_room (Nat.le_of_ble_eq_true rfl)) dX12_sayTerm_96 (by decide +kernel)) hS (fun q _ h => hFc q h) hFc (fun u t9_ H locs ht hvm hw9 hB9 hz1 hk1 hS => ?_)
              obtain ⟨p296_1, f7596_1⟩ := u
              try dsimp only at hw9 hB9
              have hP : va_P (dC, dI) vwCl (WR a k h0 (fT (fT vi 125 (nI j1_i125)) 125 (nI p296_1)) vj (fT (fT vF 75 j1_F75) 75 f7596_1) vG) H := fz_P ht hB9.1
              have hD : va_D A (WR a k h0 (fT (fT vi 125 (nI j1_i125)) 125 (nI p296_1)) vj (fT (fT vF 75 j1_F75) 75 f7596_1) vG) := hB9.2.weaken (fun _ q _ h => hFc q.1 h)
              have e9 : fT vi 125 (nI p296_1) = fT (fT vi 125 (nI j1_i125)) 125 (nI p296_1) := (fT_sm _ _ _ _).symm
              rw [← e9] at hP hD
              clear e9
              have e9 : fT vF 75 f7596_1 = fT (fT vF 75 j1_F75) 75 f7596_1 := (fT_sm _ _ _ _).symm
              rw [← e9] at hP hD
              clear e9
              have hP : va_P (dC, dI) vwCl (WR a k h0 (fT vi 125 (nI p296_1)) vj (fT vF 75 f7596_1) vG) H := hP
              have hD : va_D A (WR a k h0 (fT vi 125 (nI p296_1)) vj (fT vF 75 f7596_1) vG) := hD
              have f96_1_0 := hw9
              try dsimp only at f96_1_0
              refine lv_aload_n hx hb dX12_sayTerm_99 rfl (lv_at hl 1 rfl) ?_
              refine lv_bipush (v := 32) hx hb dX12_sayTerm_100 (by decide) ?_
              have hFc := allFree hD hS hA
              refine va_callv (va_runV (As := [.int 32]) (rest := []) ⟨hx, hb, hml, hown, hts⟩ (r_X12_say l dC dI a k h0 (fT vi 125 (nI p296_1)) vj (fT vF 75 f7596_1) vG 32 p296_1 rfl (by first | assumption | decide | omega | rfl) H.size) (cwV 1 hts gwsRX12_sayTerm_0 rfl rfl rfl hd_yX12_say_RX12 (by decide +kernel)) (fz_pre (va_recv hK hP (ci := 12) (q0 := 0) rfl rfl) hP hK hD) rfl rfl hl.1 rfl (lv_room (Nat.le_of_ble_eq_true rfl)) dX12_sayTerm_102 (by decide +kernel)) hS (fun q _ h => hFc q h) hFc (fun u t9_ H locs ht hvm hw9 hB9 hz1 hk1 hS => ?_)
              obtain ⟨p2102_1, f75102_1⟩ := u
              try dsimp only at hw9 hB9
              have hP : va_P (dC, dI) vwCl (WR a k h0 (fT (fT vi 125 (nI p296_1)) 125 (nI p2102_1)) vj (fT (fT vF 75 f7596_1) 75 f75102_1) vG) H := fz_P ht hB9.1
              have hD : va_D A (WR a k h0 (fT (fT vi 125 (nI p296_1)) 125 (nI p2102_1)) vj (fT (fT vF 75 f7596_1) 75 f75102_1) vG) := hB9.2.weaken (fun _ q _ h => hFc q.1 h)
              have e9 : fT vi 125 (nI p2102_1) = fT (fT vi 125 (nI p296_1)) 125 (nI p2102_1) := (fT_sm _ _ _ _).symm
              rw [← e9] at hP hD
              clear e9
              have e9 : fT vF 75 f75102_1 = fT (fT vF 75 f7596_1) 75 f75102_1 := (fT_sm _ _ _ _).symm
              rw [← e9] at hP hD
              clear e9
              have hP : va_P (dC, dI) vwCl (WR a k h0 (fT vi 125 (nI p2102_1)) vj (fT vF 75 f75102_1) vG) H := hP
              have hD : va_D A (WR a k h0 (fT vi 125 (nI p2102_1)) vj (fT vF 75 f75102_1) vG) := hD
              obtain ⟨f102_1_0, f102_1_1, f102_1_2⟩ := hw9
              refine lv_aload_n hx hb dX12_sayTerm_105 rfl (lv_at hl 1 rfl) ?_
              refine lv_bipush (v := 42) hx hb dX12_sayTerm_106 (by decide) ?_
              have hFc := allFree hD hS hA
              refine va_callv (va_runV (As := [.int 42]) (rest := []) ⟨hx, hb, hml, hown, hts⟩ (r_X12_say l dC dI a k h0 (fT vi 125 (nI p2102_1)) vj (fT vF 75 f75102_1) vG 42 p2102_1 rfl (by first | assumption | decide | omega | rfl) H.size) (cwV 1 hts gwsRX12_sayTerm_0 rfl rfl rfl hd_yX12_say_RX12 (by decide +kernel)) (fz_pre (va_recv hK hP (ci := 12) (q0 := 0) rfl rfl) hP hK hD) rfl rfl hl.1 rfl (lv_room (Nat.le_of_ble_eq_true rfl)) dX12_sayTerm_108 (by decide +kernel)) hS (fun q _ h => hFc q h) hFc (fun u t9_ H locs ht hvm hw9 hB9 hz1 hk1 hS => ?_)
              obtain ⟨p2108_1, f75108_1⟩ := u
              try dsimp only at hw9 hB9
              have hP : va_P (dC, dI) vwCl (WR a k h0 (fT (fT vi 125 (nI p2102_1)) 125 (nI p2108_1)) vj (fT (fT vF 75 f75102_1) 75 f75108_1) vG) H := fz_P ht hB9.1
              have hD : va_D A (WR a k h0 (fT (fT vi 125 (nI p2102_1)) 125 (nI p2108_1)) vj (fT (fT vF 75 f75102_1) 75 f75108_1) vG) := hB9.2.weaken (fun _ q _ h => hFc q.1 h)
              have e9 : fT vi 125 (nI p2108_1) = fT (fT vi 125 (nI p2102_1)) 125 (nI p2108_1) := (fT_sm _ _ _ _).symm
              rw [← e9] at hP hD
              clear e9
              have e9 : fT vF 75 f75108_1 = fT (fT vF 75 f75102_1) 75 f75108_1 := (fT_sm _ _ _ _).symm
              rw [← e9] at hP hD
              clear e9
              have hP : va_P (dC, dI) vwCl (WR a k h0 (fT vi 125 (nI p2108_1)) vj (fT vF 75 f75108_1) vG) H := hP
              have hD : va_D A (WR a k h0 (fT vi 125 (nI p2108_1)) vj (fT vF 75 f75108_1) vG) := hD
              obtain ⟨f108_1_0, f108_1_1, f108_1_2⟩ := hw9
              refine lv_aload_n hx hb dX12_sayTerm_111 rfl (lv_at hl 1 rfl) ?_
              refine lv_bipush (v := 32) hx hb dX12_sayTerm_112 (by decide) ?_
              have hFc := allFree hD hS hA
              refine va_callv (va_runV (As := [.int 32]) (rest := []) ⟨hx, hb, hml, hown, hts⟩ (r_X12_say l dC dI a k h0 (fT vi 125 (nI p2108_1)) vj (fT vF 75 f75108_1) vG 32 p2108_1 rfl (by first | assumption | decide | omega | rfl) H.size) (cwV 1 hts gwsRX12_sayTerm_0 rfl rfl rfl hd_yX12_say_RX12 (by decide +kernel)) (fz_pre (va_recv hK hP (ci := 12) (q0 := 0) rfl rfl) hP hK hD) rfl rfl hl.1 rfl (lv_room (Nat.le_of_ble_eq_true rfl)) dX12_sayTerm_114 (by decide +kernel)) hS (fun q _ h => hFc q h) hFc (fun u t9_ H locs ht hvm hw9 hB9 hz1 hk1 hS => ?_)
              obtain ⟨p2114_1, f75114_1⟩ := u
              try dsimp only at hw9 hB9
              have hP : va_P (dC, dI) vwCl (WR a k h0 (fT (fT vi 125 (nI p2108_1)) 125 (nI p2114_1)) vj (fT (fT vF 75 f75108_1) 75 f75114_1) vG) H := fz_P ht hB9.1
              have hD : va_D A (WR a k h0 (fT (fT vi 125 (nI p2108_1)) 125 (nI p2114_1)) vj (fT (fT vF 75 f75108_1) 75 f75114_1) vG) := hB9.2.weaken (fun _ q _ h => hFc q.1 h)
              have e9 : fT vi 125 (nI p2114_1) = fT (fT vi 125 (nI p2108_1)) 125 (nI p2114_1) := (fT_sm _ _ _ _).symm
              rw [← e9] at hP hD
              clear e9
              have e9 : fT vF 75 f75114_1 = fT (fT vF 75 f75108_1) 75 f75114_1 := (fT_sm _ _ _ _).symm
              rw [← e9] at hP hD
              clear e9
              have hP : va_P (dC, dI) vwCl (WR a k h0 (fT vi 125 (nI p2114_1)) vj (fT vF 75 f75114_1) vG) H := hP
              have hD : va_D A (WR a k h0 (fT vi 125 (nI p2114_1)) vj (fT vF 75 f75114_1) vG) := hD
              obtain ⟨f114_1_0, f114_1_1, f114_1_2⟩ := hw9
              have hl : lv_has _ _ ([(5, .int aI), (0, .ref h0), (1, .int vI), (2, .int uI), (3, .int xI), (4, .int sI)]) := lv_sub hl [0, 1, 2, 3, 4, 5] rfl
              exact join4 _ _ _ _ ⟨p2114_1, f75114_1, by first | assumption | omega, rfl, hP, hD, hS, hl⟩
        · rintro H locs ls stk ⟨j5_i125, j5_F75, hj5_i125, rfl, hP, hD, hS, hl⟩
          refine lv_aload_n hx hb dX12_sayTerm_117 rfl (lv_at hl 1 rfl) ?_
          refine lv_bipush (v := 120) hx hb dX12_sayTerm_118 (by decide) ?_
          have hFc := allFree hD hS hA
          refine va_callv (va_runV (As := [.int 120]) (rest := []) ⟨hx, hb, hml, hown, hts⟩ (r_X12_say l dC dI a k h0 (fT vi 125 (nI j5_i125)) vj (fT vF 75 j5_F75) vG 120 j5_i125 rfl (by first | assumption | decide | omega | rfl) H.size) (cwV 1 hts gwsRX12_sayTerm_0 rfl rfl rfl hd_yX12_say_RX12 (by decide +kernel)) (fz_pre (va_recv hK hP (ci := 12) (q0 := 0) rfl rfl) hP hK hD) rfl rfl hl.1 rfl (lv_room (Nat.le_of_ble_eq_true rfl)) dX12_sayTerm_120 (by decide +kernel)) hS (fun q _ h => hFc q h) hFc (fun u t9_ H locs ht hvm hw9 hB9 hz1 hk1 hS => ?_)
          obtain ⟨p2120, f75120⟩ := u
          try dsimp only at hw9 hB9
          have hP : va_P (dC, dI) vwCl (WR a k h0 (fT (fT vi 125 (nI j5_i125)) 125 (nI p2120)) vj (fT (fT vF 75 j5_F75) 75 f75120) vG) H := fz_P ht hB9.1
          have hD : va_D A (WR a k h0 (fT (fT vi 125 (nI j5_i125)) 125 (nI p2120)) vj (fT (fT vF 75 j5_F75) 75 f75120) vG) := hB9.2.weaken (fun _ q _ h => hFc q.1 h)
          have e9 : fT vi 125 (nI p2120) = fT (fT vi 125 (nI j5_i125)) 125 (nI p2120) := (fT_sm _ _ _ _).symm
          rw [← e9] at hP hD
          clear e9
          have e9 : fT vF 75 f75120 = fT (fT vF 75 j5_F75) 75 f75120 := (fT_sm _ _ _ _).symm
          rw [← e9] at hP hD
          clear e9
          have hP : va_P (dC, dI) vwCl (WR a k h0 (fT vi 125 (nI p2120)) vj (fT vF 75 f75120) vG) H := hP
          have hD : va_D A (WR a k h0 (fT vi 125 (nI p2120)) vj (fT vF 75 f75120) vG) := hD
          obtain ⟨f120_0, f120_1, f120_2⟩ := hw9
          refine lv_aload_n hx hb dX12_sayTerm_123 rfl (lv_at hl 1 rfl) ?_
          refine lv_iload_n hx hb dX12_sayTerm_124 rfl (lv_at hl 4 rfl) ?_
          have hFc := allFree hD hS hA
          refine va_callv (va_runV (As := [.int xI]) (rest := []) ⟨hx, hb, hml, hown, hts⟩ (r_X12_sayNumber l dC dI a k h0 (fT vi 125 (nI p2120)) vj (fT vF 75 f75120) vG xI p2120 rfl (by first | assumption | decide | omega | rfl) (hbxI) H.size) (cwV 1 hts gwsRX12_sayTerm_2 rfl rfl rfl hd_yX12_sayNumber_RX12 (by decide +kernel)) (fz_pre (va_recv hK hP (ci := 12) (q0 := 0) rfl rfl) hP hK hD) rfl rfl hl.1 rfl (lv_room (Nat.le_of_ble_eq_true rfl)) dX12_sayTerm_125 (by decide +kernel)) hS (fun q _ h => hFc q h) hFc (fun u t9_ H locs ht hvm hw9 hB9 hz1 hk1 hS => ?_)
          obtain ⟨p2125, f75125⟩ := u
          try dsimp only at hw9 hB9
          have hP : va_P (dC, dI) vwCl (WR a k h0 (fT (fT vi 125 (nI p2120)) 125 (nI p2125)) vj (fT (fT vF 75 f75120) 75 f75125) vG) H := fz_P ht hB9.1
          have hD : va_D A (WR a k h0 (fT (fT vi 125 (nI p2120)) 125 (nI p2125)) vj (fT (fT vF 75 f75120) 75 f75125) vG) := hB9.2.weaken (fun _ q _ h => hFc q.1 h)
          have e9 : fT vi 125 (nI p2125) = fT (fT vi 125 (nI p2120)) 125 (nI p2125) := (fT_sm _ _ _ _).symm
          rw [← e9] at hP hD
          clear e9
          have e9 : fT vF 75 f75125 = fT (fT vF 75 f75120) 75 f75125 := (fT_sm _ _ _ _).symm
          rw [← e9] at hP hD
          clear e9
          have hP : va_P (dC, dI) vwCl (WR a k h0 (fT vi 125 (nI p2125)) vj (fT vF 75 f75125) vG) H := hP
          have hD : va_D A (WR a k h0 (fT vi 125 (nI p2125)) vj (fT vF 75 f75125) vG) := hD
          have f125_0 := hw9
          try dsimp only at f125_0
          refine W.widen (k := 0) (n := 0) (by decide +kernel) (by decide +kernel) ?_
          exact W.vret hx hb hr (fun t9_ ht hW => ⟨⟨(p2125, f75125), rfl, by (try dsimp only); first | assumption | omega, by rw [ht]; exact hP, hD⟩, hS.F ht⟩) hS.2.2 dX12_sayTerm_128
      · have t_70 : (xI).toInt = -1 := toI_nne c_70 rfl (by decide)
        refine lv_aload_n hx hb dX12_sayTerm_73 rfl (lv_at hl 1 rfl) ?_
        refine lv_iload hx hb dX12_sayTerm_74 (lv_at hl 0 rfl) ?_
        refine lv_iload_n hx hb dX12_sayTerm_76 rfl (lv_at hl 3 rfl) ?_
        have hFc := allFree hD hS hA
        refine va_callv (va_runV (As := [.int aI, .int uI]) (rest := []) ⟨hx, hb, hml, hown, hts⟩ (r_X12_sayPart l dC dI a k h0 (fT vi 125 (nI j1_i125)) vj (fT vF 75 j1_F75) vG aI uI j1_i125 rfl (by first | assumption | decide | omega | rfl) (hbaI) (hbuI) H.size) (cwV 2 hts gwsRX12_sayTerm_1 rfl rfl rfl hd_yX12_sayPart_RX12 (by decide +kernel)) (fz_pre (va_recv hK hP (ci := 12) (q0 := 0) rfl rfl) hP hK hD) rfl rfl hl.1 rfl (lv_room (Nat.le_of_ble_eq_true rfl)) dX12_sayTerm_77 (by decide +kernel)) hS (fun q _ h => hFc q h) hFc (fun u t9_ H locs ht hvm hw9 hB9 hz1 hk1 hS => ?_)
        obtain ⟨p277, f7577⟩ := u
        try dsimp only at hw9 hB9
        have hP : va_P (dC, dI) vwCl (WR a k h0 (fT (fT vi 125 (nI j1_i125)) 125 (nI p277)) vj (fT (fT vF 75 j1_F75) 75 f7577) vG) H := fz_P ht hB9.1
        have hD : va_D A (WR a k h0 (fT (fT vi 125 (nI j1_i125)) 125 (nI p277)) vj (fT (fT vF 75 j1_F75) 75 f7577) vG) := hB9.2.weaken (fun _ q _ h => hFc q.1 h)
        have e9 : fT vi 125 (nI p277) = fT (fT vi 125 (nI j1_i125)) 125 (nI p277) := (fT_sm _ _ _ _).symm
        rw [← e9] at hP hD
        clear e9
        have e9 : fT vF 75 f7577 = fT (fT vF 75 j1_F75) 75 f7577 := (fT_sm _ _ _ _).symm
        rw [← e9] at hP hD
        clear e9
        have hP : va_P (dC, dI) vwCl (WR a k h0 (fT vi 125 (nI p277)) vj (fT vF 75 f7577) vG) H := hP
        have hD : va_D A (WR a k h0 (fT vi 125 (nI p277)) vj (fT vF 75 f7577) vG) := hD
        have f77_0 := hw9
        try dsimp only at f77_0
        refine W.widen (k := 0) (n := 0) (by decide +kernel) (by decide +kernel) ?_
        exact W.vret hx hb hr (fun t9_ ht hW => ⟨⟨(p277, f7577), rfl, by (try dsimp only); first | assumption | omega, by rw [ht]; exact hP, hD⟩, hS.F ht⟩) hS.2.2 dX12_sayTerm_80
theorem dX12_endLine_0 : decode cX12_endLine 0 = .ok (.aload_n 0, 1) := dk_42 (by decide +kernel)
theorem dX12_endLine_1 : decode cX12_endLine 1 = .ok (.bipush 32, 2) := dk_16 (by decide +kernel)
theorem dX12_endLine_3 : decode cX12_endLine 3 = .ok (.invokevirtual 936, 3) := dk_182 (by decide +kernel)
theorem dX12_endLine_6 : decode cX12_endLine 6 = .ok (.aload_n 0, 1) := dk_42 (by decide +kernel)
theorem dX12_endLine_7 : decode cX12_endLine 7 = .ok (.bipush 59, 2) := dk_16 (by decide +kernel)
theorem dX12_endLine_9 : decode cX12_endLine 9 = .ok (.invokevirtual 936, 3) := dk_182 (by decide +kernel)
theorem dX12_endLine_12 : decode cX12_endLine 12 = .ok (.aload_n 0, 1) := dk_42 (by decide +kernel)
theorem dX12_endLine_13 : decode cX12_endLine 13 = .ok (.bipush 10, 2) := dk_16 (by decide +kernel)
theorem dX12_endLine_15 : decode cX12_endLine 15 = .ok (.invokevirtual 936, 3) := dk_182 (by decide +kernel)
theorem dX12_endLine_18 : decode cX12_endLine 18 = .ok (.return_, 1) := dk_177 (by decide +kernel)
def wsRX12_endLine : List Cond := .code yX12_endLine cX12_endLine 1 none :: ([] ++ wsX120 ++ (wsV RX12 936 RX12 yX12_say wsRX12_say))
theorem iwsRX12_endLine_in12 : ∀ w ∈ wsX120, w ∈ wsRX12_endLine := fun _ h => List.mem_cons_of_mem _ (List.mem_append_left _ (List.mem_append_right _ h))
theorem gwsRX12_endLine_0 : GoodIn wsRX12_endLine (wsV RX12 936 RX12 yX12_say wsRX12_say) := goodIn_sub (fun _ h => List.mem_cons_of_mem _ (List.mem_append_right _ h)) (gdV (by decide +kernel) gdwsRX12_say)
theorem gdwsRX12_endLine : wsRX12_endLine.all goodWord = true := gdC rfl (gdA (gdA (by decide +kernel : ([] : List Cond).all goodWord = true) gdwsX120) (gdV (by decide +kernel) gdwsRX12_say))
set_option maxHeartbeats 4000000 in
set_option maxRecDepth 100000 in
/-- endLine() -/
theorem r_X12_endLine (l : Launch) (dC : Nat → ClassId) (dI : Nat → Nat → Nat) (a : Nat → Nat) (k : Nat → ClassId) (h0 : Nat) (vi : Nat → Int32) (vj : Nat → Int64) (vF : Nat → Nat → Int32) (vG : Nat → Nat → Int64) (pn : Nat) (hpn : vi 125 = nI pn) (hpn2 : pn ≤ 30000) (sz : Nat) : Met l yX12_endLine wsRX12_endLine ({ frames := 1, cells := 0, slots := 0, locals := 21 }) (va_Pc [.ref h0] (fun U => U.heap.size = sz ∧ va_P (dC, dI) vwCl (WR a k h0 vi vj vF vG) U.heap ∧ va_K (dC, dI) vwCl (tX12 k) U ∧ va_D (fun _ => True) (WR a k h0 vi vj vF vG))) (va_Qv (fun (u : (Nat) × (Nat → Int32)) => ((u.1) ≤ 30000)) (fun (u : (Nat) × (Nat → Int32)) t => va_P (dC, dI) vwCl (WR a k h0 (fT vi 125 (nI (u.1))) vj (fT vF 75 (u.2)) vG) t.heap ∧ va_D (va_A (WR a k h0 vi vj vF vG) sz) (WR a k h0 (fT vi 125 (nI (u.1))) vj (fT vF 75 (u.2)) vG)) (va_A (WR a k h0 vi vj vF vG) sz)) 0 0 (va_A (WR a k h0 vi vj vF vG) sz) := by
  refine Met.ofW (cc := cX12_endLine) (maxL := 1) (ret := none) (by decide) rfl ?_
  intro p e s m args below meth c s₁ B hml hv
  obtain ⟨rfl, hsz, hP, hK, hD0⟩ := hv
  have hx := B.exec
  have hb := B.bytes
  have hr := B.returns
  have hts := atoms_spec (ws := wsRX12_endLine) B.pre
  have hown : s.vm.findClass RX12 = some m.cls := findClass_of_methodNamed B.named
  have hlocks := B.notSynchronized
  subst hsz
  have hD := hD0.self (sz := s.heap.size)
  generalize hAe : va_A (WR a k h0 vi vj vF vG) s.heap.size = A at hD ⊢
  have hA : ∀ q : Nat, s.heap.size ≤ q → A q := fun q h => by rw [← hAe]; exact Or.inr h
  have hS : va_S A s.heap s.heap [] := va_S.rf
  have hl := lv_entry ([.ref h0]) (n := 1) (Nat.le_of_ble_eq_true rfl)
  rw [lg_entry_eq]
  generalize (lg_sl ([.ref h0]) ++ List.replicate (1 - (lg_sl ([.ref h0])).length) Slot.unset).toArray = ls at hl ⊢
  have hl : lv_has ls 1 [(0, .ref h0)] := hl
  refine lv_aload_n hx hb dX12_endLine_0 rfl (lv_at hl 0 rfl) ?_
  refine lv_bipush (v := 32) hx hb dX12_endLine_1 (by decide) ?_
  have hFc := allFree hD hS hA
  refine va_callv (va_runV (As := [.int 32]) (rest := []) ⟨hx, hb, hml, hown, hts⟩ (r_X12_say l dC dI a k h0 vi vj vF vG 32 pn hpn (by first | assumption | decide | omega | rfl) s.heap.size) (cwV 1 hts gwsRX12_endLine_0 rfl rfl rfl hd_yX12_say_RX12 (by decide +kernel)) (fz_pre (va_recv hK hP (ci := 12) (q0 := 0) rfl rfl) hP hK hD) rfl rfl hl.1 rfl (lv_room (Nat.le_of_ble_eq_true rfl)) dX12_endLine_3 (by decide +kernel)) hS (fun q _ h => hFc q h) hFc (fun u t9_ H locs ht hvm hw9 hB9 hz1 hk1 hS => ?_)
  obtain ⟨p23, f753⟩ := u
  try dsimp only at hw9 hB9
  have hP : va_P (dC, dI) vwCl (WR a k h0 (fT vi 125 (nI p23)) vj (fT vF 75 f753) vG) H := fz_P ht hB9.1
  have hD : va_D A (WR a k h0 (fT vi 125 (nI p23)) vj (fT vF 75 f753) vG) := hB9.2.weaken (fun _ q _ h => hFc q.1 h)
  obtain ⟨f3_0, f3_1, f3_2⟩ := hw9
  refine lv_aload_n hx hb dX12_endLine_6 rfl (lv_at hl 0 rfl) ?_
  refine lv_bipush (v := 59) hx hb dX12_endLine_7 (by decide) ?_
  have hFc := allFree hD hS hA
  refine va_callv (va_runV (As := [.int 59]) (rest := []) ⟨hx, hb, hml, hown, hts⟩ (r_X12_say l dC dI a k h0 (fT vi 125 (nI p23)) vj (fT vF 75 f753) vG 59 p23 rfl (by first | assumption | decide | omega | rfl) H.size) (cwV 1 hts gwsRX12_endLine_0 rfl rfl rfl hd_yX12_say_RX12 (by decide +kernel)) (fz_pre (va_recv hK hP (ci := 12) (q0 := 0) rfl rfl) hP hK hD) rfl rfl hl.1 rfl (lv_room (Nat.le_of_ble_eq_true rfl)) dX12_endLine_9 (by decide +kernel)) hS (fun q _ h => hFc q h) hFc (fun u t9_ H locs ht hvm hw9 hB9 hz1 hk1 hS => ?_)
  obtain ⟨p29, f759⟩ := u
  try dsimp only at hw9 hB9
  have hP : va_P (dC, dI) vwCl (WR a k h0 (fT (fT vi 125 (nI p23)) 125 (nI p29)) vj (fT (fT vF 75 f753) 75 f759) vG) H := fz_P ht hB9.1
  have hD : va_D A (WR a k h0 (fT (fT vi 125 (nI p23)) 125 (nI p29)) vj (fT (fT vF 75 f753) 75 f759) vG) := hB9.2.weaken (fun _ q _ h => hFc q.1 h)
  have e9 : fT vi 125 (nI p29) = fT (fT vi 125 (nI p23)) 125 (nI p29) := (fT_sm _ _ _ _).symm
  rw [← e9] at hP hD
  clear e9
  have e9 : fT vF 75 f759 = fT (fT vF 75 f753) 75 f759 := (fT_sm _ _ _ _).symm
  rw [← e9] at hP hD
  clear e9
  have hP : va_P (dC, dI) vwCl (WR a k h0 (fT vi 125 (nI p29)) vj (fT vF 75 f759) vG) H := hP
  have hD : va_D A (WR a k h0 (fT vi 125 (nI p29)) vj (fT vF 75 f759) vG) := hD
  obtain ⟨f9_0, f9_1, f9_2⟩ := hw9
  refine lv_aload_n hx hb dX12_endLine_12 rfl (lv_at hl 0 rfl) ?_
  refine lv_bipush (v := 10) hx hb dX12_endLine_13 (by decide) ?_
  have hFc := allFree hD hS hA
  refine va_callv (va_runV (As := [.int 10]) (rest := []) ⟨hx, hb, hml, hown, hts⟩ (r_X12_say l dC dI a k h0 (fT vi 125 (nI p29)) vj (fT vF 75 f759) vG 10 p29 rfl (by first | assumption | decide | omega | rfl) H.size) (cwV 1 hts gwsRX12_endLine_0 rfl rfl rfl hd_yX12_say_RX12 (by decide +kernel)) (fz_pre (va_recv hK hP (ci := 12) (q0 := 0) rfl rfl) hP hK hD) rfl rfl hl.1 rfl (lv_room (Nat.le_of_ble_eq_true rfl)) dX12_endLine_15 (by decide +kernel)) hS (fun q _ h => hFc q h) hFc (fun u t9_ H locs ht hvm hw9 hB9 hz1 hk1 hS => ?_)
  obtain ⟨p215, f7515⟩ := u
  try dsimp only at hw9 hB9
  have hP : va_P (dC, dI) vwCl (WR a k h0 (fT (fT vi 125 (nI p29)) 125 (nI p215)) vj (fT (fT vF 75 f759) 75 f7515) vG) H := fz_P ht hB9.1
  have hD : va_D A (WR a k h0 (fT (fT vi 125 (nI p29)) 125 (nI p215)) vj (fT (fT vF 75 f759) 75 f7515) vG) := hB9.2.weaken (fun _ q _ h => hFc q.1 h)
  have e9 : fT vi 125 (nI p215) = fT (fT vi 125 (nI p29)) 125 (nI p215) := (fT_sm _ _ _ _).symm
  rw [← e9] at hP hD
  clear e9
  have e9 : fT vF 75 f7515 = fT (fT vF 75 f759) 75 f7515 := (fT_sm _ _ _ _).symm
  rw [← e9] at hP hD
  clear e9
  have hP : va_P (dC, dI) vwCl (WR a k h0 (fT vi 125 (nI p215)) vj (fT vF 75 f7515) vG) H := hP
  have hD : va_D A (WR a k h0 (fT vi 125 (nI p215)) vj (fT vF 75 f7515) vG) := hD
  obtain ⟨f15_0, f15_1, f15_2⟩ := hw9
  refine W.widen (k := 0) (n := 0) (by decide +kernel) (by decide +kernel) ?_
  exact W.vret hx hb hr (fun t9_ ht hW => ⟨⟨(p215, f7515), rfl, by (try dsimp only); first | assumption | omega, by rw [ht]; exact hP, hD⟩, hS.F ht⟩) hS.2.2 dX12_endLine_18
theorem dX12_sayWay_0 : decode cX12_sayWay 0 = .ok (.iconst 0, 1) := dk_3 (by decide +kernel)
theorem dX12_sayWay_1 : decode cX12_sayWay 1 = .ok (.istore_n 2, 1) := dk_61 (by decide +kernel)
theorem dX12_sayWay_2 : decode cX12_sayWay 2 = .ok (.iconst 0, 1) := dk_3 (by decide +kernel)
theorem dX12_sayWay_3 : decode cX12_sayWay 3 = .ok (.istore_n 3, 1) := dk_62 (by decide +kernel)
theorem dX12_sayWay_4 : decode cX12_sayWay 4 = .ok (.iload_n 3, 1) := dk_29 (by decide +kernel)
theorem dX12_sayWay_5 : decode cX12_sayWay 5 = .ok (.aload_n 0, 1) := dk_42 (by decide +kernel)
theorem dX12_sayWay_6 : decode cX12_sayWay 6 = .ok (.getfield 774, 3) := dk_180 (by decide +kernel)
theorem dX12_sayWay_9 : decode cX12_sayWay 9 = .ok (.if_icmp .ge 43, 3) := dk_162 (by decide +kernel)
theorem dX12_sayWay_12 : decode cX12_sayWay 12 = .ok (.aload_n 0, 1) := dk_42 (by decide +kernel)
theorem dX12_sayWay_13 : decode cX12_sayWay 13 = .ok (.getfield 203, 3) := dk_180 (by decide +kernel)
theorem dX12_sayWay_16 : decode cX12_sayWay 16 = .ok (.bipush 9, 2) := dk_16 (by decide +kernel)
theorem dX12_sayWay_18 : decode cX12_sayWay 18 = .ok (.iload_n 1, 1) := dk_27 (by decide +kernel)
theorem dX12_sayWay_19 : decode cX12_sayWay 19 = .ok (.imul, 1) := dk_104 (by decide +kernel)
theorem dX12_sayWay_20 : decode cX12_sayWay 20 = .ok (.iconst 1, 1) := dk_4 (by decide +kernel)
theorem dX12_sayWay_21 : decode cX12_sayWay 21 = .ok (.iadd, 1) := dk_96 (by decide +kernel)
theorem dX12_sayWay_22 : decode cX12_sayWay 22 = .ok (.iload_n 3, 1) := dk_29 (by decide +kernel)
theorem dX12_sayWay_23 : decode cX12_sayWay 23 = .ok (.iadd, 1) := dk_96 (by decide +kernel)
theorem dX12_sayWay_24 : decode cX12_sayWay 24 = .ok (.iaload, 1) := dk_46 (by decide +kernel)
theorem dX12_sayWay_25 : decode cX12_sayWay 25 = .ok (.istore 4, 2) := dk_54 (by decide +kernel)
theorem dX12_sayWay_27 : decode cX12_sayWay 27 = .ok (.iload 4, 2) := dk_21 (by decide +kernel)
theorem dX12_sayWay_29 : decode cX12_sayWay 29 = .ok (.ifCond .ne 6, 3) := dk_154 (by decide +kernel)
theorem dX12_sayWay_32 : decode cX12_sayWay 32 = .ok (.goto 14, 3) := dk_167 (by decide +kernel)
theorem dX12_sayWay_35 : decode cX12_sayWay 35 = .ok (.aload_n 0, 1) := dk_42 (by decide +kernel)
theorem dX12_sayWay_36 : decode cX12_sayWay 36 = .ok (.iload 4, 2) := dk_21 (by decide +kernel)
theorem dX12_sayWay_38 : decode cX12_sayWay 38 = .ok (.iconst 1, 1) := dk_4 (by decide +kernel)
theorem dX12_sayWay_39 : decode cX12_sayWay 39 = .ok (.iload_n 3, 1) := dk_29 (by decide +kernel)
theorem dX12_sayWay_40 : decode cX12_sayWay 40 = .ok (.iload_n 2, 1) := dk_28 (by decide +kernel)
theorem dX12_sayWay_41 : decode cX12_sayWay 41 = .ok (.invokevirtual 961, 3) := dk_182 (by decide +kernel)
theorem dX12_sayWay_44 : decode cX12_sayWay 44 = .ok (.iconst 1, 1) := dk_4 (by decide +kernel)
theorem dX12_sayWay_45 : decode cX12_sayWay 45 = .ok (.istore_n 2, 1) := dk_61 (by decide +kernel)
theorem dX12_sayWay_46 : decode cX12_sayWay 46 = .ok (.iinc 3 1, 3) := dk_132 (by decide +kernel)
theorem dX12_sayWay_49 : decode cX12_sayWay 49 = .ok (.goto (-45), 3) := dk_167 (by decide +kernel)
theorem dX12_sayWay_52 : decode cX12_sayWay 52 = .ok (.iload_n 2, 1) := dk_28 (by decide +kernel)
theorem dX12_sayWay_53 : decode cX12_sayWay 53 = .ok (.ifCond .ne 9, 3) := dk_154 (by decide +kernel)
theorem dX12_sayWay_56 : decode cX12_sayWay 56 = .ok (.aload_n 0, 1) := dk_42 (by decide +kernel)
theorem dX12_sayWay_57 : decode cX12_sayWay 57 = .ok (.bipush 48, 2) := dk_16 (by decide +kernel)
theorem dX12_sayWay_59 : decode cX12_sayWay 59 = .ok (.invokevirtual 936, 3) := dk_182 (by decide +kernel)
theorem dX12_sayWay_62 : decode cX12_sayWay 62 = .ok (.aload_n 0, 1) := dk_42 (by decide +kernel)
theorem dX12_sayWay_63 : decode cX12_sayWay 63 = .ok (.bipush 32, 2) := dk_16 (by decide +kernel)
theorem dX12_sayWay_65 : decode cX12_sayWay 65 = .ok (.invokevirtual 936, 3) := dk_182 (by decide +kernel)
theorem dX12_sayWay_68 : decode cX12_sayWay 68 = .ok (.aload_n 0, 1) := dk_42 (by decide +kernel)
theorem dX12_sayWay_69 : decode cX12_sayWay 69 = .ok (.getfield 206, 3) := dk_180 (by decide +kernel)
theorem dX12_sayWay_72 : decode cX12_sayWay 72 = .ok (.iload_n 1, 1) := dk_27 (by decide +kernel)
theorem dX12_sayWay_73 : decode cX12_sayWay 73 = .ok (.iaload, 1) := dk_46 (by decide +kernel)
theorem dX12_sayWay_74 : decode cX12_sayWay 74 = .ok (.istore_n 3, 1) := dk_62 (by decide +kernel)
theorem dX12_sayWay_75 : decode cX12_sayWay 75 = .ok (.aload_n 0, 1) := dk_42 (by decide +kernel)
theorem dX12_sayWay_76 : decode cX12_sayWay 76 = .ok (.iload_n 3, 1) := dk_29 (by decide +kernel)
theorem dX12_sayWay_77 : decode cX12_sayWay 77 = .ok (.ifCond .ne 8, 3) := dk_154 (by decide +kernel)
theorem dX12_sayWay_80 : decode cX12_sayWay 80 = .ok (.bipush 60, 2) := dk_16 (by decide +kernel)
theorem dX12_sayWay_82 : decode cX12_sayWay 82 = .ok (.goto 15, 3) := dk_167 (by decide +kernel)
theorem dX12_sayWay_85 : decode cX12_sayWay 85 = .ok (.iload_n 3, 1) := dk_29 (by decide +kernel)
theorem dX12_sayWay_86 : decode cX12_sayWay 86 = .ok (.iconst 1, 1) := dk_4 (by decide +kernel)
theorem dX12_sayWay_87 : decode cX12_sayWay 87 = .ok (.if_icmp .ne 8, 3) := dk_160 (by decide +kernel)
theorem dX12_sayWay_90 : decode cX12_sayWay 90 = .ok (.bipush 62, 2) := dk_16 (by decide +kernel)
theorem dX12_sayWay_92 : decode cX12_sayWay 92 = .ok (.goto 5, 3) := dk_167 (by decide +kernel)
theorem dX12_sayWay_95 : decode cX12_sayWay 95 = .ok (.bipush 61, 2) := dk_16 (by decide +kernel)
theorem dX12_sayWay_97 : decode cX12_sayWay 97 = .ok (.invokevirtual 936, 3) := dk_182 (by decide +kernel)
theorem dX12_sayWay_100 : decode cX12_sayWay 100 = .ok (.iload_n 3, 1) := dk_29 (by decide +kernel)
theorem dX12_sayWay_101 : decode cX12_sayWay 101 = .ok (.iconst 2, 1) := dk_5 (by decide +kernel)
theorem dX12_sayWay_102 : decode cX12_sayWay 102 = .ok (.if_icmp .ge 9, 3) := dk_162 (by decide +kernel)
theorem dX12_sayWay_105 : decode cX12_sayWay 105 = .ok (.aload_n 0, 1) := dk_42 (by decide +kernel)
theorem dX12_sayWay_106 : decode cX12_sayWay 106 = .ok (.bipush 61, 2) := dk_16 (by decide +kernel)
theorem dX12_sayWay_108 : decode cX12_sayWay 108 = .ok (.invokevirtual 936, 3) := dk_182 (by decide +kernel)
theorem dX12_sayWay_111 : decode cX12_sayWay 111 = .ok (.aload_n 0, 1) := dk_42 (by decide +kernel)
theorem dX12_sayWay_112 : decode cX12_sayWay 112 = .ok (.bipush 32, 2) := dk_16 (by decide +kernel)
theorem dX12_sayWay_114 : decode cX12_sayWay 114 = .ok (.invokevirtual 936, 3) := dk_182 (by decide +kernel)
theorem dX12_sayWay_117 : decode cX12_sayWay 117 = .ok (.aload_n 0, 1) := dk_42 (by decide +kernel)
theorem dX12_sayWay_118 : decode cX12_sayWay 118 = .ok (.aload_n 0, 1) := dk_42 (by decide +kernel)
theorem dX12_sayWay_119 : decode cX12_sayWay 119 = .ok (.getfield 203, 3) := dk_180 (by decide +kernel)
theorem dX12_sayWay_122 : decode cX12_sayWay 122 = .ok (.bipush 9, 2) := dk_16 (by decide +kernel)
theorem dX12_sayWay_124 : decode cX12_sayWay 124 = .ok (.iload_n 1, 1) := dk_27 (by decide +kernel)
theorem dX12_sayWay_125 : decode cX12_sayWay 125 = .ok (.imul, 1) := dk_104 (by decide +kernel)
theorem dX12_sayWay_126 : decode cX12_sayWay 126 = .ok (.iaload, 1) := dk_46 (by decide +kernel)
theorem dX12_sayWay_127 : decode cX12_sayWay 127 = .ok (.invokevirtual 955, 3) := dk_182 (by decide +kernel)
theorem dX12_sayWay_130 : decode cX12_sayWay 130 = .ok (.return_, 1) := dk_177 (by decide +kernel)
def wsRX12_sayWay : List Cond := .code yX12_sayWay cX12_sayWay 5 none :: ([.fieldLink RX12 774 "OptimaWorksModel" "variables" "I", .fieldLink RX12 206 "OptimaWorksModel" "waySign" "[I", .fieldLink RX12 203 "OptimaWorksModel" "wayNumber" "[I"] ++ wsX120 ++ (wsV RX12 936 RX12 yX12_say wsRX12_say) ++ (wsV RX12 955 RX12 yX12_sayNumber wsRX12_sayNumber) ++ (wsV RX12 961 RX12 yX12_sayTerm wsRX12_sayTerm))
theorem iwsRX12_sayWay_in12 : ∀ w ∈ wsX120, w ∈ wsRX12_sayWay := fun _ h => List.mem_cons_of_mem _ (List.mem_append_left _ (List.mem_append_left _ (List.mem_append_left _ (List.mem_append_right _ h))))
theorem gwsRX12_sayWay_0 : GoodIn wsRX12_sayWay (wsV RX12 936 RX12 yX12_say wsRX12_say) := goodIn_sub (fun _ h => List.mem_cons_of_mem _ (List.mem_append_left _ (List.mem_append_left _ (List.mem_append_right _ h)))) (gdV (by decide +kernel) gdwsRX12_say)
theorem gwsRX12_sayWay_1 : GoodIn wsRX12_sayWay (wsV RX12 955 RX12 yX12_sayNumber wsRX12_sayNumber) := goodIn_sub (fun _ h => List.mem_cons_of_mem _ (List.mem_append_left _ (List.mem_append_right _ h))) (gdV (by decide +kernel) gdwsRX12_sayNumber)
theorem gwsRX12_sayWay_2 : GoodIn wsRX12_sayWay (wsV RX12 961 RX12 yX12_sayTerm wsRX12_sayTerm) := goodIn_sub (fun _ h => List.mem_cons_of_mem _ (List.mem_append_right _ h)) (gdV (by decide +kernel) gdwsRX12_sayTerm)
theorem gdwsRX12_sayWay : wsRX12_sayWay.all goodWord = true := gdC rfl (gdA (gdA (gdA (gdA (by decide +kernel : ([.fieldLink RX12 774 "OptimaWorksModel" "variables" "I", .fieldLink RX12 206 "OptimaWorksModel" "waySign" "[I", .fieldLink RX12 203 "OptimaWorksModel" "wayNumber" "[I"] : List Cond).all goodWord = true) gdwsX120) (gdV (by decide +kernel) gdwsRX12_say)) (gdV (by decide +kernel) gdwsRX12_sayNumber)) (gdV (by decide +kernel) gdwsRX12_sayTerm))
set_option maxHeartbeats 4000000 in
set_option maxRecDepth 100000 in
/-- sayWay(w) -/
theorem r_X12_sayWay (l : Launch) (dC : Nat → ClassId) (dI : Nat → Nat → Nat) (a : Nat → Nat) (k : Nat → ClassId) (h0 : Nat) (vi : Nat → Int32) (vj : Nat → Int64) (vF : Nat → Nat → Int32) (vG : Nat → Nat → Int64) (wn : Nat) (vn : Nat) (gq : Nat) (pn : Nat) (hpn : vi 125 = nI pn) (hpn2 : pn ≤ 30000) (hvn : vi 90 = nI vn) (hvn8 : vn ≤ 8) (hM : MdlB vF gq) (hwn : wn < 39) (sz : Nat) : Met l yX12_sayWay wsRX12_sayWay ({ frames := 4, cells := 0, slots := 0, locals := 91 }) (va_Pc [.ref h0, .int (nI wn)] (fun U => U.heap.size = sz ∧ va_P (dC, dI) vwCl (WR a k h0 vi vj vF vG) U.heap ∧ va_K (dC, dI) vwCl (tX12 k) U ∧ va_D (fun _ => True) (WR a k h0 vi vj vF vG))) (va_Qv (fun (u : (Nat) × (Nat → Int32)) => ((u.1) ≤ 30000)) (fun (u : (Nat) × (Nat → Int32)) t => va_P (dC, dI) vwCl (WR a k h0 (fT vi 125 (nI (u.1))) vj (fT vF 75 (u.2)) vG) t.heap ∧ va_D (va_A (WR a k h0 vi vj vF vG) sz) (WR a k h0 (fT vi 125 (nI (u.1))) vj (fT vF 75 (u.2)) vG)) (va_A (WR a k h0 vi vj vF vG) sz)) 0 0 (va_A (WR a k h0 vi vj vF vG) sz) := by
  refine Met.ofW (cc := cX12_sayWay) (maxL := 5) (ret := none) (by decide) rfl ?_
  intro p e s m args below meth c s₁ B hml hv
  obtain ⟨rfl, hsz, hP, hK, hD0⟩ := hv
  have hx := B.exec
  have hb := B.bytes
  have hr := B.returns
  have hts := atoms_spec (ws := wsRX12_sayWay) B.pre
  have hown : s.vm.findClass RX12 = some m.cls := findClass_of_methodNamed B.named
  have hlocks := B.notSynchronized
  subst hsz
  have hD := hD0.self (sz := s.heap.size)
  generalize hAe : va_A (WR a k h0 vi vj vF vG) s.heap.size = A at hD ⊢
  have hA : ∀ q : Nat, s.heap.size ≤ q → A q := fun q h => by rw [← hAe]; exact Or.inr h
  have hS : va_S A s.heap s.heap [] := va_S.rf
  have hl := lv_entry ([.ref h0, .int (nI wn)]) (n := 5) (Nat.le_of_ble_eq_true rfl)
  rw [lg_entry_eq]
  generalize (lg_sl ([.ref h0, .int (nI wn)]) ++ List.replicate (5 - (lg_sl ([.ref h0, .int (nI wn)])).length) Slot.unset).toArray = ls at hl ⊢
  have hl : lv_has ls 5 [(0, .ref h0), (1, .int (nI wn))] := hl
  refine lv_iconst (v := 0) hx hb dX12_sayWay_0 (by decide) ?_
  refine lv_istore_n hx hb dX12_sayWay_1 rfl hl (by decide) rfl (fun ls (hl : lv_has ls _ ([(2, .int 0), (0, .ref h0), (1, .int (nI wn))])) => ?_)
  refine lv_iconst (v := 0) hx hb dX12_sayWay_2 (by decide) ?_
  refine lv_istore_n hx hb dX12_sayWay_3 rfl hl (by decide) rfl (fun ls (hl : lv_has ls _ ([(3, .int 0), (2, .int 0), (0, .ref h0), (1, .int (nI wn))])) => ?_)
  have e9 : fT vi 125 (nI pn) = vi := by funext q9; by_cases h9_125 : q9 = 125; (subst h9_125; exact (fT_eq _ _ _).trans (Eq.trans (by first | rfl | assumption | (symm; assumption) | (subst_vars; rfl)) (Eq.refl _).symm)); exact (fT_ne _ _ h9_125).trans (Eq.refl _).symm
  have hP : va_P (dC, dI) vwCl (WR a k h0 (fT vi 125 (nI pn)) vj vF vG) s.heap := by rw [e9]; exact hP
  have hD : va_D A (WR a k h0 (fT vi 125 (nI pn)) vj vF vG) := by rw [e9]; exact hD
  clear e9
  have e9 : fT vF 75 (vF 75) = vF := by funext q9; by_cases h9_75 : q9 = 75; (subst h9_75; exact (fT_eq _ _ _).trans (Eq.trans (by first | rfl | assumption | (symm; assumption) | (subst_vars; rfl)) (Eq.refl _).symm)); exact (fT_ne _ _ h9_75).trans (Eq.refl _).symm
  have hP : va_P (dC, dI) vwCl (WR a k h0 (fT vi 125 (nI pn)) vj (fT vF 75 (vF 75)) vG) s.heap := by rw [e9]; exact hP
  have hD : va_D A (WR a k h0 (fT vi 125 (nI pn)) vj (fT vF 75 (vF 75)) vG) := by rw [e9]; exact hD
  clear e9
  have hl : lv_has _ _ ([(0, .ref h0), (1, .int (nI wn)), (2, .int 0), (3, .int (nI 0))]) := lv_sub hl [2, 3, 1, 0] rfl
  refine (fun (loop : ∀ (n9 : Nat) (k5 : Nat) (so : Int32) (x4_i125 : Nat) (x4_F75 : Nat → Int32) (H : Heap) (locs : List Loc) (ls : Array Slot), (k5 ≤ vn) → (x4_i125 ≤ 30000) →  (vn < k5 + n9) → va_P (dC, dI) vwCl (WR a k h0 (fT vi 125 (nI x4_i125)) vj (fT vF 75 x4_F75) vG) H → va_D A (WR a k h0 (fT vi 125 (nI x4_i125)) vj (fT vF 75 x4_F75) vG) → va_S A s.heap H locs → lv_has ls 5 [(0, .ref h0), (1, .int (nI wn)), (2, .int so), (3, .int (nI k5))] → W p l e _ s m _ below meth c H locs 0 0 _ (F0 m 4 ls [])) => loop (vn + 1) 0 0 pn (vF 75) _ _ _ (by omega) (by first | assumption | omega) (by omega) hP hD hS hl) ?_
  intro n9
  induction n9 with
  | zero => intro k5 so x4_i125 x4_F75 H locs ls hk5 hx4_i125 hf9; exact False.elim (by omega)
  | succ n9 ih4 =>
    intro k5 so x4_i125 x4_F75 H locs ls hk5 hx4_i125 hf4 hP hD hS hl
    refine lv_iload_n hx hb dX12_sayWay_4 rfl (lv_at hl 3 rfl) ?_
    refine lv_aload_n hx hb dX12_sayWay_5 rfl (lv_at hl 0 rfl) ?_
    refine va_get (D := (dC, dI)) (ci := 12) (v := .int (vi 90)) (C := RX12) (T := TX12) (N := 163) (fs := fM (vS a (fT vi 125 (nI x4_i125)) vj)) hx hb hts iwsRX12_sayWay_in12 hown hK hP 0 rfl rfl 90 (by decide) (hts (.fieldLink RX12 774 "OptimaWorksModel" "variables" "I") (by decide +kernel)) (fun _ h9 => h9) rfl dX12_sayWay_6 ?_
    refine lv_topi (fun y1 hy1 => ?_)
    obtain rfl : (nI vn) = y1 := (hy1.trans (hvn)).symm
    refine lv_icmp_ge (tgt := 52) hx hb dX12_sayWay_9 (by decide) (fun c_9 => ?_) (fun c_9 => ?_)
    · have t_9 : ((k5 : Nat) : Int) ≥ ((vn : Nat) : Int) := toI_ge c_9 (nI_toInt (by omega)) (nI_toInt (by omega))
      refine lv_iload_n hx hb dX12_sayWay_52 rfl (lv_at hl 2 rfl) ?_
      refine W.cut (pc := 62) (fun H locs ls stk => ∃ (j5_i125 : Nat) (j5_F75 : Nat → Int32), (j5_i125 ≤ 30000) ∧  stk = [] ∧ va_P (dC, dI) vwCl (WR a k h0 (fT vi 125 (nI j5_i125)) vj (fT vF 75 j5_F75) vG) H ∧ va_D A (WR a k h0 (fT vi 125 (nI j5_i125)) vj (fT vF 75 j5_F75) vG) ∧ va_S A s.heap H locs ∧ lv_has ls 5 [(0, .ref h0), (1, .int (nI wn)), (2, .int so), (3, .int (nI k5))]) (fun join1 => ?_) ?_
      · refine lv_if_ne (tgt := 62) hx hb dX12_sayWay_53 (by decide) (fun c_53 => ?_) (fun c_53 => ?_)
        · have t_53 : (so).toInt ≠ 0 := toI_ne c_53 rfl (by decide)
          have hl : lv_has _ _ ([(0, .ref h0), (1, .int (nI wn)), (2, .int so), (3, .int (nI k5))]) := lv_sub hl [0, 1, 2, 3] rfl
          exact join1 _ _ _ _ ⟨x4_i125, x4_F75, by first | assumption | omega, rfl, hP, hD, hS, hl⟩
        · have t_53 : (so).toInt = 0 := toI_nne c_53 rfl (by decide)
          refine lv_aload_n hx hb dX12_sayWay_56 rfl (lv_at hl 0 rfl) ?_
          refine lv_bipush (v := 48) hx hb dX12_sayWay_57 (by decide) ?_
          have hFc := allFree hD hS hA
          refine va_callv (va_runV (As := [.int 48]) (rest := []) ⟨hx, hb, hml, hown, hts⟩ (r_X12_say l dC dI a k h0 (fT vi 125 (nI x4_i125)) vj (fT vF 75 x4_F75) vG 48 x4_i125 rfl (by first | assumption | decide | omega | rfl) H.size) (cwV 1 hts gwsRX12_sayWay_0 rfl rfl rfl hd_yX12_say_RX12 (by decide +kernel)) (fz_pre (va_recv hK hP (ci := 12) (q0 := 0) rfl rfl) hP hK hD) rfl rfl hl.1 rfl (lv_room (Nat.le_of_ble_eq_true rfl)) dX12_sayWay_59 (by decide +kernel)) hS (fun q _ h => hFc q h) hFc (fun u t9_ H locs ht hvm hw9 hB9 hz1 hk1 hS => ?_)
          obtain ⟨p259, f7559⟩ := u
          try dsimp only at hw9 hB9
          have hP : va_P (dC, dI) vwCl (WR a k h0 (fT (fT vi 125 (nI x4_i125)) 125 (nI p259)) vj (fT (fT vF 75 x4_F75) 75 f7559) vG) H := fz_P ht hB9.1
          have hD : va_D A (WR a k h0 (fT (fT vi 125 (nI x4_i125)) 125 (nI p259)) vj (fT (fT vF 75 x4_F75) 75 f7559) vG) := hB9.2.weaken (fun _ q _ h => hFc q.1 h)
          have e9 : fT vi 125 (nI p259) = fT (fT vi 125 (nI x4_i125)) 125 (nI p259) := (fT_sm _ _ _ _).symm
          rw [← e9] at hP hD
          clear e9
          have e9 : fT vF 75 f7559 = fT (fT vF 75 x4_F75) 75 f7559 := (fT_sm _ _ _ _).symm
          rw [← e9] at hP hD
          clear e9
          have hP : va_P (dC, dI) vwCl (WR a k h0 (fT vi 125 (nI p259)) vj (fT vF 75 f7559) vG) H := hP
          have hD : va_D A (WR a k h0 (fT vi 125 (nI p259)) vj (fT vF 75 f7559) vG) := hD
          obtain ⟨f59_0, f59_1, f59_2⟩ := hw9
          have hl : lv_has _ _ ([(0, .ref h0), (1, .int (nI wn)), (2, .int so), (3, .int (nI k5))]) := lv_sub hl [0, 1, 2, 3] rfl
          exact join1 _ _ _ _ ⟨p259, f7559, by first | assumption | omega, rfl, hP, hD, hS, hl⟩
      · rintro H locs ls stk ⟨j5_i125, j5_F75, hj5_i125, rfl, hP, hD, hS, hl⟩
        refine lv_aload_n hx hb dX12_sayWay_62 rfl (lv_at hl 0 rfl) ?_
        refine lv_bipush (v := 32) hx hb dX12_sayWay_63 (by decide) ?_
        have hFc := allFree hD hS hA
        refine va_callv (va_runV (As := [.int 32]) (rest := []) ⟨hx, hb, hml, hown, hts⟩ (r_X12_say l dC dI a k h0 (fT vi 125 (nI j5_i125)) vj (fT vF 75 j5_F75) vG 32 j5_i125 rfl (by first | assumption | decide | omega | rfl) H.size) (cwV 1 hts gwsRX12_sayWay_0 rfl rfl rfl hd_yX12_say_RX12 (by decide +kernel)) (fz_pre (va_recv hK hP (ci := 12) (q0 := 0) rfl rfl) hP hK hD) rfl rfl hl.1 rfl (lv_room (Nat.le_of_ble_eq_true rfl)) dX12_sayWay_65 (by decide +kernel)) hS (fun q _ h => hFc q h) hFc (fun u t9_ H locs ht hvm hw9 hB9 hz1 hk1 hS => ?_)
        obtain ⟨p265, f7565⟩ := u
        try dsimp only at hw9 hB9
        have hP : va_P (dC, dI) vwCl (WR a k h0 (fT (fT vi 125 (nI j5_i125)) 125 (nI p265)) vj (fT (fT vF 75 j5_F75) 75 f7565) vG) H := fz_P ht hB9.1
        have hD : va_D A (WR a k h0 (fT (fT vi 125 (nI j5_i125)) 125 (nI p265)) vj (fT (fT vF 75 j5_F75) 75 f7565) vG) := hB9.2.weaken (fun _ q _ h => hFc q.1 h)
        have e9 : fT vi 125 (nI p265) = fT (fT vi 125 (nI j5_i125)) 125 (nI p265) := (fT_sm _ _ _ _).symm
        rw [← e9] at hP hD
        clear e9
        have e9 : fT vF 75 f7565 = fT (fT vF 75 j5_F75) 75 f7565 := (fT_sm _ _ _ _).symm
        rw [← e9] at hP hD
        clear e9
        have hP : va_P (dC, dI) vwCl (WR a k h0 (fT vi 125 (nI p265)) vj (fT vF 75 f7565) vG) H := hP
        have hD : va_D A (WR a k h0 (fT vi 125 (nI p265)) vj (fT vF 75 f7565) vG) := hD
        obtain ⟨f65_0, f65_1, f65_2⟩ := hw9
        refine lv_aload_n hx hb dX12_sayWay_68 rfl (lv_at hl 0 rfl) ?_
        refine va_get (D := (dC, dI)) (ci := 12) (v := .ref (a 61)) (C := RX12) (T := TX12) (N := 163) (fs := fM (vS a (fT vi 125 (nI p265)) vj)) hx hb hts iwsRX12_sayWay_in12 hown hK hP 0 rfl rfl 101 (by decide) (hts (.fieldLink RX12 206 "OptimaWorksModel" "waySign" "[I") (by decide +kernel)) (fun _ h9 => h9) rfl dX12_sayWay_69 ?_
        refine lv_iload_n hx hb dX12_sayWay_72 rfl (lv_at hl 1 rfl) ?_
        refine va_iald (cA := k 61) (n := 39) (f := (vF 61)) hx hb hK hP 62 61 (WR_get 61 (by decide)) (TR_get 61 (by decide)) (vp_in_nI (show wn < 39 by omega) (by omega)) dX12_sayWay_73 ?_
        refine lv_topi (fun y2 hy2 => ?_)
        obtain rfl : ((vF 61) wn) = y2 := (hy2.trans (by rw [nI_clamp (by omega)])).symm
        refine lv_istore_n hx hb dX12_sayWay_74 rfl hl (by decide) rfl (fun ls (hl : lv_has ls _ ([(3, .int ((vF 61) wn)), (0, .ref h0), (1, .int (nI wn)), (2, .int so)])) => ?_)
        refine lv_aload_n hx hb dX12_sayWay_75 rfl (lv_at hl 1 rfl) ?_
        refine lv_iload_n hx hb dX12_sayWay_76 rfl (lv_at hl 0 rfl) ?_
        refine W.cut (pc := 97) (fun H locs ls stk => ∃ (j6_s0 : Int32),  stk = [.int j6_s0, .ref h0] ∧ va_P (dC, dI) vwCl (WR a k h0 (fT vi 125 (nI p265)) vj (fT vF 75 f7565) vG) H ∧ va_D A (WR a k h0 (fT vi 125 (nI p265)) vj (fT vF 75 f7565) vG) ∧ va_S A s.heap H locs ∧ lv_has ls 5 [(3, .int ((vF 61) wn)), (0, .ref h0), (1, .int (nI wn)), (2, .int so)]) (fun join2 => ?_) ?_
        · refine lv_if_ne (tgt := 85) hx hb dX12_sayWay_77 (by decide) (fun c_77 => ?_) (fun c_77 => ?_)
          · have t_77 : (((vF 61) wn)).toInt ≠ 0 := toI_ne c_77 rfl (by decide)
            refine lv_iload_n hx hb dX12_sayWay_85 rfl (lv_at hl 0 rfl) ?_
            refine lv_iconst (v := 1) hx hb dX12_sayWay_86 (by decide) ?_
            refine lv_icmp_ne (tgt := 95) hx hb dX12_sayWay_87 (by decide) (fun c_87 => ?_) (fun c_87 => ?_)
            · have t_87 : (((vF 61) wn)).toInt ≠ 1 := toI_ne c_87 rfl (by decide)
              refine lv_bipush (v := 61) hx hb dX12_sayWay_95 (by decide) ?_
              have hl : lv_has _ _ ([(3, .int ((vF 61) wn)), (0, .ref h0), (1, .int (nI wn)), (2, .int so)]) := lv_sub hl [0, 1, 2, 3] rfl
              exact join2 _ _ _ _ ⟨61, rfl, hP, hD, hS, hl⟩
            · have t_87 : (((vF 61) wn)).toInt = 1 := toI_nne c_87 rfl (by decide)
              refine lv_bipush (v := 62) hx hb dX12_sayWay_90 (by decide) ?_
              refine lv_goto (tgt := 97) hx hb dX12_sayWay_92 (by decide) ?_
              have hl : lv_has _ _ ([(3, .int ((vF 61) wn)), (0, .ref h0), (1, .int (nI wn)), (2, .int so)]) := lv_sub hl [0, 1, 2, 3] rfl
              exact join2 _ _ _ _ ⟨62, rfl, hP, hD, hS, hl⟩
          · have t_77 : (((vF 61) wn)).toInt = 0 := toI_nne c_77 rfl (by decide)
            refine lv_bipush (v := 60) hx hb dX12_sayWay_80 (by decide) ?_
            refine lv_goto (tgt := 97) hx hb dX12_sayWay_82 (by decide) ?_
            have hl : lv_has _ _ ([(3, .int ((vF 61) wn)), (0, .ref h0), (1, .int (nI wn)), (2, .int so)]) := lv_sub hl [0, 1, 2, 3] rfl
            exact join2 _ _ _ _ ⟨60, rfl, hP, hD, hS, hl⟩
        · rintro H locs ls stk ⟨j6_s0, rfl, hP, hD, hS, hl⟩
          have hFc := allFree hD hS hA
          refine va_callv (va_runV (As := [.int j6_s0]) (rest := []) ⟨hx, hb, hml, hown, hts⟩ (r_X12_say l dC dI a k h0 (fT vi 125 (nI p265)) vj (fT vF 75 f7565) vG j6_s0 p265 rfl (by first | assumption | decide | omega | rfl) H.size) (cwV 1 hts gwsRX12_sayWay_0 rfl rfl rfl hd_yX12_say_RX12 (by decide +kernel)) (fz_pre (va_recv hK hP (ci := 12) (q0 := 0) rfl rfl) hP hK hD) rfl rfl hl.1 rfl (lv_room (Nat.le_of_ble_eq_true rfl)) dX12_sayWay_97 (by decide +kernel)) hS (fun q _ h => hFc q h) hFc (fun u t9_ H locs ht hvm hw9 hB9 hz1 hk1 hS => ?_)
          obtain ⟨p297, f7597⟩ := u
          try dsimp only at hw9 hB9
          have hP : va_P (dC, dI) vwCl (WR a k h0 (fT (fT vi 125 (nI p265)) 125 (nI p297)) vj (fT (fT vF 75 f7565) 75 f7597) vG) H := fz_P ht hB9.1
          have hD : va_D A (WR a k h0 (fT (fT vi 125 (nI p265)) 125 (nI p297)) vj (fT (fT vF 75 f7565) 75 f7597) vG) := hB9.2.weaken (fun _ q _ h => hFc q.1 h)
          have e9 : fT vi 125 (nI p297) = fT (fT vi 125 (nI p265)) 125 (nI p297) := (fT_sm _ _ _ _).symm
          rw [← e9] at hP hD
          clear e9
          have e9 : fT vF 75 f7597 = fT (fT vF 75 f7565) 75 f7597 := (fT_sm _ _ _ _).symm
          rw [← e9] at hP hD
          clear e9
          have hP : va_P (dC, dI) vwCl (WR a k h0 (fT vi 125 (nI p297)) vj (fT vF 75 f7597) vG) H := hP
          have hD : va_D A (WR a k h0 (fT vi 125 (nI p297)) vj (fT vF 75 f7597) vG) := hD
          obtain ⟨f97_0, f97_1, f97_2⟩ := hw9
          refine lv_iload_n hx hb dX12_sayWay_100 rfl (lv_at hl 0 rfl) ?_
          refine lv_iconst (v := 2) hx hb dX12_sayWay_101 (by decide) ?_
          refine W.cut (pc := 111) (fun H locs ls stk => ∃ (j7_i125 : Nat) (j7_F75 : Nat → Int32), (j7_i125 ≤ 30000) ∧  stk = [] ∧ va_P (dC, dI) vwCl (WR a k h0 (fT vi 125 (nI j7_i125)) vj (fT vF 75 j7_F75) vG) H ∧ va_D A (WR a k h0 (fT vi 125 (nI j7_i125)) vj (fT vF 75 j7_F75) vG) ∧ va_S A s.heap H locs ∧ lv_has ls 5 [(3, .int ((vF 61) wn)), (0, .ref h0), (1, .int (nI wn)), (2, .int so)]) (fun join3 => ?_) ?_
          · refine lv_icmp_ge (tgt := 111) hx hb dX12_sayWay_102 (by decide) (fun c_102 => ?_) (fun c_102 => ?_)
            · have t_102 : (((vF 61) wn)).toInt ≥ 2 := toI_ge c_102 rfl (by decide)
              have hl : lv_has _ _ ([(3, .int ((vF 61) wn)), (0, .ref h0), (1, .int (nI wn)), (2, .int so)]) := lv_sub hl [0, 1, 2, 3] rfl
              exact join3 _ _ _ _ ⟨p297, f7597, by first | assumption | omega, rfl, hP, hD, hS, hl⟩
            · have t_102 : ¬ (((vF 61) wn)).toInt ≥ 2 := toI_nge c_102 rfl (by decide)
              refine lv_aload_n hx hb dX12_sayWay_105 rfl (lv_at hl 1 rfl) ?_
              refine lv_bipush (v := 61) hx hb dX12_sayWay_106 (by decide) ?_
              have hFc := allFree hD hS hA
              refine va_callv (va_runV (As := [.int 61]) (rest := []) ⟨hx, hb, hml, hown, hts⟩ (r_X12_say l dC dI a k h0 (fT vi 125 (nI p297)) vj (fT vF 75 f7597) vG 61 p297 rfl (by first | assumption | decide | omega | rfl) H.size) (cwV 1 hts gwsRX12_sayWay_0 rfl rfl rfl hd_yX12_say_RX12 (by decide +kernel)) (fz_pre (va_recv hK hP (ci := 12) (q0 := 0) rfl rfl) hP hK hD) rfl rfl hl.1 rfl (lv_room (Nat.le_of_ble_eq_true rfl)) dX12_sayWay_108 (by decide +kernel)) hS (fun q _ h => hFc q h) hFc (fun u t9_ H locs ht hvm hw9 hB9 hz1 hk1 hS => ?_)
              obtain ⟨p2108, f75108⟩ := u
              try dsimp only at hw9 hB9
              have hP : va_P (dC, dI) vwCl (WR a k h0 (fT (fT vi 125 (nI p297)) 125 (nI p2108)) vj (fT (fT vF 75 f7597) 75 f75108) vG) H := fz_P ht hB9.1
              have hD : va_D A (WR a k h0 (fT (fT vi 125 (nI p297)) 125 (nI p2108)) vj (fT (fT vF 75 f7597) 75 f75108) vG) := hB9.2.weaken (fun _ q _ h => hFc q.1 h)
              have e9 : fT vi 125 (nI p2108) = fT (fT vi 125 (nI p297)) 125 (nI p2108) := (fT_sm _ _ _ _).symm
              rw [← e9] at hP hD
              clear e9
              have e9 : fT vF 75 f75108 = fT (fT vF 75 f7597) 75 f75108 := (fT_sm _ _ _ _).symm
              rw [← e9] at hP hD
              clear e9
              have hP : va_P (dC, dI) vwCl (WR a k h0 (fT vi 125 (nI p2108)) vj (fT vF 75 f75108) vG) H := hP
              have hD : va_D A (WR a k h0 (fT vi 125 (nI p2108)) vj (fT vF 75 f75108) vG) := hD
              obtain ⟨f108_0, f108_1, f108_2⟩ := hw9
              have hl : lv_has _ _ ([(3, .int ((vF 61) wn)), (0, .ref h0), (1, .int (nI wn)), (2, .int so)]) := lv_sub hl [0, 1, 2, 3] rfl
              exact join3 _ _ _ _ ⟨p2108, f75108, by first | assumption | omega, rfl, hP, hD, hS, hl⟩
          · rintro H locs ls stk ⟨j7_i125, j7_F75, hj7_i125, rfl, hP, hD, hS, hl⟩
            have bs := hM.2.2.1 wn hwn
            refine lv_aload_n hx hb dX12_sayWay_111 rfl (lv_at hl 1 rfl) ?_
            refine lv_bipush (v := 32) hx hb dX12_sayWay_112 (by decide) ?_
            have hFc := allFree hD hS hA
            refine va_callv (va_runV (As := [.int 32]) (rest := []) ⟨hx, hb, hml, hown, hts⟩ (r_X12_say l dC dI a k h0 (fT vi 125 (nI j7_i125)) vj (fT vF 75 j7_F75) vG 32 j7_i125 rfl (by first | assumption | decide | omega | rfl) H.size) (cwV 1 hts gwsRX12_sayWay_0 rfl rfl rfl hd_yX12_say_RX12 (by decide +kernel)) (fz_pre (va_recv hK hP (ci := 12) (q0 := 0) rfl rfl) hP hK hD) rfl rfl hl.1 rfl (lv_room (Nat.le_of_ble_eq_true rfl)) dX12_sayWay_114 (by decide +kernel)) hS (fun q _ h => hFc q h) hFc (fun u t9_ H locs ht hvm hw9 hB9 hz1 hk1 hS => ?_)
            obtain ⟨p2114, f75114⟩ := u
            try dsimp only at hw9 hB9
            have hP : va_P (dC, dI) vwCl (WR a k h0 (fT (fT vi 125 (nI j7_i125)) 125 (nI p2114)) vj (fT (fT vF 75 j7_F75) 75 f75114) vG) H := fz_P ht hB9.1
            have hD : va_D A (WR a k h0 (fT (fT vi 125 (nI j7_i125)) 125 (nI p2114)) vj (fT (fT vF 75 j7_F75) 75 f75114) vG) := hB9.2.weaken (fun _ q _ h => hFc q.1 h)
            have e9 : fT vi 125 (nI p2114) = fT (fT vi 125 (nI j7_i125)) 125 (nI p2114) := (fT_sm _ _ _ _).symm
            rw [← e9] at hP hD
            clear e9
            have e9 : fT vF 75 f75114 = fT (fT vF 75 j7_F75) 75 f75114 := (fT_sm _ _ _ _).symm
            rw [← e9] at hP hD
            clear e9
            have hP : va_P (dC, dI) vwCl (WR a k h0 (fT vi 125 (nI p2114)) vj (fT vF 75 f75114) vG) H := hP
            have hD : va_D A (WR a k h0 (fT vi 125 (nI p2114)) vj (fT vF 75 f75114) vG) := hD
            obtain ⟨f114_0, f114_1, f114_2⟩ := hw9
            refine lv_aload_n hx hb dX12_sayWay_117 rfl (lv_at hl 1 rfl) ?_
            refine lv_aload_n hx hb dX12_sayWay_118 rfl (lv_at hl 1 rfl) ?_
            refine va_get (D := (dC, dI)) (ci := 12) (v := .ref (a 60)) (C := RX12) (T := TX12) (N := 163) (fs := fM (vS a (fT vi 125 (nI p2114)) vj)) hx hb hts iwsRX12_sayWay_in12 hown hK hP 0 rfl rfl 100 (by decide) (hts (.fieldLink RX12 203 "OptimaWorksModel" "wayNumber" "[I") (by decide +kernel)) (fun _ h9 => h9) rfl dX12_sayWay_119 ?_
            refine lv_bipush (v := 9) hx hb dX12_sayWay_122 (by decide) ?_
            refine lv_iload_n hx hb dX12_sayWay_124 rfl (lv_at hl 2 rfl) ?_
            refine lv_imul hx hb dX12_sayWay_125 ?_
            refine lv_topi (fun y3 hy3 => ?_)
            obtain rfl : (nI (9 * wn)) = y3 := (hy3.trans (pk_mul 9 wn)).symm
            refine va_iald (cA := k 60) (n := 351) (f := (vF 60)) hx hb hK hP 61 60 (WR_get 60 (by decide)) (TR_get 60 (by decide)) (vp_in_nI (show (9 * wn) < 351 by omega) (by omega)) dX12_sayWay_126 ?_
            refine lv_topi (fun y4 hy4 => ?_)
            obtain rfl : ((vF 60) (9 * wn)) = y4 := (hy4.trans (by rw [nI_clamp (by omega)])).symm
            have hFc := allFree hD hS hA
            refine va_callv (va_runV (As := [.int ((vF 60) (9 * wn))]) (rest := []) ⟨hx, hb, hml, hown, hts⟩ (r_X12_sayNumber l dC dI a k h0 (fT vi 125 (nI p2114)) vj (fT vF 75 f75114) vG ((vF 60) (9 * wn)) p2114 rfl (by first | assumption | decide | omega | rfl) (by omega) H.size) (cwV 1 hts gwsRX12_sayWay_1 rfl rfl rfl hd_yX12_sayNumber_RX12 (by decide +kernel)) (fz_pre (va_recv hK hP (ci := 12) (q0 := 0) rfl rfl) hP hK hD) rfl rfl hl.1 rfl (lv_room (Nat.le_of_ble_eq_true rfl)) dX12_sayWay_127 (by decide +kernel)) hS (fun q _ h => hFc q h) hFc (fun u t9_ H locs ht hvm hw9 hB9 hz1 hk1 hS => ?_)
            obtain ⟨p2127, f75127⟩ := u
            try dsimp only at hw9 hB9
            have hP : va_P (dC, dI) vwCl (WR a k h0 (fT (fT vi 125 (nI p2114)) 125 (nI p2127)) vj (fT (fT vF 75 f75114) 75 f75127) vG) H := fz_P ht hB9.1
            have hD : va_D A (WR a k h0 (fT (fT vi 125 (nI p2114)) 125 (nI p2127)) vj (fT (fT vF 75 f75114) 75 f75127) vG) := hB9.2.weaken (fun _ q _ h => hFc q.1 h)
            have e9 : fT vi 125 (nI p2127) = fT (fT vi 125 (nI p2114)) 125 (nI p2127) := (fT_sm _ _ _ _).symm
            rw [← e9] at hP hD
            clear e9
            have e9 : fT vF 75 f75127 = fT (fT vF 75 f75114) 75 f75127 := (fT_sm _ _ _ _).symm
            rw [← e9] at hP hD
            clear e9
            have hP : va_P (dC, dI) vwCl (WR a k h0 (fT vi 125 (nI p2127)) vj (fT vF 75 f75127) vG) H := hP
            have hD : va_D A (WR a k h0 (fT vi 125 (nI p2127)) vj (fT vF 75 f75127) vG) := hD
            have f127_0 := hw9
            try dsimp only at f127_0
            refine W.widen (k := 0) (n := 0) (by decide +kernel) (by decide +kernel) ?_
            exact W.vret hx hb hr (fun t9_ ht hW => ⟨⟨(p2127, f75127), rfl, by (try dsimp only); first | assumption | omega, by rw [ht]; exact hP, hD⟩, hS.F ht⟩) hS.2.2 dX12_sayWay_130
    · have t_9 : ¬ ((k5 : Nat) : Int) ≥ ((vn : Nat) : Int) := toI_nge c_9 (nI_toInt (by omega)) (nI_toInt (by omega))
      refine lv_aload_n hx hb dX12_sayWay_12 rfl (lv_at hl 0 rfl) ?_
      refine va_get (D := (dC, dI)) (ci := 12) (v := .ref (a 60)) (C := RX12) (T := TX12) (N := 163) (fs := fM (vS a (fT vi 125 (nI x4_i125)) vj)) hx hb hts iwsRX12_sayWay_in12 hown hK hP 0 rfl rfl 100 (by decide) (hts (.fieldLink RX12 203 "OptimaWorksModel" "wayNumber" "[I") (by decide +kernel)) (fun _ h9 => h9) rfl dX12_sayWay_13 ?_
      refine lv_bipush (v := 9) hx hb dX12_sayWay_16 (by decide) ?_
      refine lv_iload_n hx hb dX12_sayWay_18 rfl (lv_at hl 1 rfl) ?_
      refine lv_imul hx hb dX12_sayWay_19 ?_
      refine lv_topi (fun y5 hy5 => ?_)
      obtain rfl : (nI (9 * wn)) = y5 := (hy5.trans (pk_mul 9 wn)).symm
      refine lv_iconst (v := 1) hx hb dX12_sayWay_20 (by decide) ?_
      refine lv_iadd hx hb dX12_sayWay_21 ?_
      refine lv_topi (fun y6 hy6 => ?_)
      obtain rfl : (nI ((9 * wn) + 1)) = y6 := (hy6.trans (nI_add (9 * wn) 1)).symm
      refine lv_iload_n hx hb dX12_sayWay_22 rfl (lv_at hl 3 rfl) ?_
      refine lv_iadd hx hb dX12_sayWay_23 ?_
      refine lv_topi (fun y7 hy7 => ?_)
      obtain rfl : (nI (((9 * wn) + 1) + k5)) = y7 := (hy7.trans (nI_add ((9 * wn) + 1) k5)).symm
      refine va_iald (cA := k 60) (n := 351) (f := (vF 60)) hx hb hK hP 61 60 (WR_get 60 (by decide)) (TR_get 60 (by decide)) (vp_in_nI (show (((9 * wn) + 1) + k5) < 351 by omega) (by omega)) dX12_sayWay_24 ?_
      refine lv_topi (fun y8 hy8 => ?_)
      obtain rfl : ((vF 60) (((9 * wn) + 1) + k5)) = y8 := (hy8.trans (by rw [nI_clamp (by omega)])).symm
      refine lv_istore hx hb dX12_sayWay_25 hl (by decide) rfl (fun ls (hl : lv_has ls _ ([(4, .int ((vF 60) (((9 * wn) + 1) + k5))), (0, .ref h0), (1, .int (nI wn)), (2, .int so), (3, .int (nI k5))])) => ?_)
      refine lv_iload hx hb dX12_sayWay_27 (lv_at hl 0 rfl) ?_
      refine lv_if_ne (tgt := 35) hx hb dX12_sayWay_29 (by decide) (fun c_29 => ?_) (fun c_29 => ?_)
      · have t_29 : (((vF 60) (((9 * wn) + 1) + k5))).toInt ≠ 0 := toI_ne c_29 rfl (by decide)
        have ba := hM.2.2.2.1 wn k5 hwn (by omega)
        refine lv_aload_n hx hb dX12_sayWay_35 rfl (lv_at hl 1 rfl) ?_
        refine lv_iload hx hb dX12_sayWay_36 (lv_at hl 0 rfl) ?_
        refine lv_iconst (v := 1) hx hb dX12_sayWay_38 (by decide) ?_
        refine lv_iload_n hx hb dX12_sayWay_39 rfl (lv_at hl 4 rfl) ?_
        refine lv_iload_n hx hb dX12_sayWay_40 rfl (lv_at hl 3 rfl) ?_
        have hFc := allFree hD hS hA
        refine va_callv (va_runV (As := [.int ((vF 60) (((9 * wn) + 1) + k5)), .int 1, .int (nI k5), .int so]) (rest := []) ⟨hx, hb, hml, hown, hts⟩ (r_X12_sayTerm l dC dI a k h0 (fT vi 125 (nI x4_i125)) vj (fT vF 75 x4_F75) vG ((vF 60) (((9 * wn) + 1) + k5)) 1 (nI k5) so x4_i125 rfl (by first | assumption | decide | omega | rfl) (by omega) (by decide) (by (have e9 := nI_toInt (n := k5) (by omega)); rw [e9]; omega) H.size) (cwV 4 hts gwsRX12_sayWay_2 rfl rfl rfl hd_yX12_sayTerm_RX12 (by decide +kernel)) (fz_pre (va_recv hK hP (ci := 12) (q0 := 0) rfl rfl) hP hK hD) rfl rfl hl.1 rfl (lv_room (Nat.le_of_ble_eq_true rfl)) dX12_sayWay_41 (by decide +kernel)) hS (fun q _ h => hFc q h) hFc (fun u t9_ H locs ht hvm hw9 hB9 hz1 hk1 hS => ?_)
        obtain ⟨p241, f7541⟩ := u
        try dsimp only at hw9 hB9
        have hP : va_P (dC, dI) vwCl (WR a k h0 (fT (fT vi 125 (nI x4_i125)) 125 (nI p241)) vj (fT (fT vF 75 x4_F75) 75 f7541) vG) H := fz_P ht hB9.1
        have hD : va_D A (WR a k h0 (fT (fT vi 125 (nI x4_i125)) 125 (nI p241)) vj (fT (fT vF 75 x4_F75) 75 f7541) vG) := hB9.2.weaken (fun _ q _ h => hFc q.1 h)
        have e9 : fT vi 125 (nI p241) = fT (fT vi 125 (nI x4_i125)) 125 (nI p241) := (fT_sm _ _ _ _).symm
        rw [← e9] at hP hD
        clear e9
        have e9 : fT vF 75 f7541 = fT (fT vF 75 x4_F75) 75 f7541 := (fT_sm _ _ _ _).symm
        rw [← e9] at hP hD
        clear e9
        have hP : va_P (dC, dI) vwCl (WR a k h0 (fT vi 125 (nI p241)) vj (fT vF 75 f7541) vG) H := hP
        have hD : va_D A (WR a k h0 (fT vi 125 (nI p241)) vj (fT vF 75 f7541) vG) := hD
        have f41_0 := hw9
        try dsimp only at f41_0
        refine lv_iconst (v := 1) hx hb dX12_sayWay_44 (by decide) ?_
        refine lv_istore_n hx hb dX12_sayWay_45 rfl hl (by decide) rfl (fun ls (hl : lv_has ls _ ([(2, .int 1), (4, .int ((vF 60) (((9 * wn) + 1) + k5))), (0, .ref h0), (1, .int (nI wn)), (3, .int (nI k5))])) => ?_)
        refine lv_iinc (v := (nI (k5 + 1))) hx hb dX12_sayWay_46 hl (k := 4) rfl (nI_add k5 1) (by decide) rfl (fun ls (hl : lv_has ls _ ([(3, .int (nI (k5 + 1))), (2, .int 1), (4, .int ((vF 60) (((9 * wn) + 1) + k5))), (0, .ref h0), (1, .int (nI wn))])) => ?_)
        refine lv_goto (tgt := 4) hx hb dX12_sayWay_49 (by decide) ?_
        have hl : lv_has _ _ ([(0, .ref h0), (1, .int (nI wn)), (2, .int 1), (3, .int (nI (k5 + 1)))]) := lv_sub hl [3, 4, 1, 0] rfl
        exact ih4 (k5 + 1) 1 p241 f7541 _ _ _ (by omega) (by first | assumption | omega) (by omega) hP hD hS hl
      · have t_29 : (((vF 60) (((9 * wn) + 1) + k5))).toInt = 0 := toI_nne c_29 rfl (by decide)
        refine lv_goto (tgt := 46) hx hb dX12_sayWay_32 (by decide) ?_
        refine lv_iinc (v := (nI (k5 + 1))) hx hb dX12_sayWay_46 hl (k := 4) rfl (nI_add k5 1) (by decide) rfl (fun ls (hl : lv_has ls _ ([(3, .int (nI (k5 + 1))), (4, .int ((vF 60) (((9 * wn) + 1) + k5))), (0, .ref h0), (1, .int (nI wn)), (2, .int so)])) => ?_)
        refine lv_goto (tgt := 4) hx hb dX12_sayWay_49 (by decide) ?_
        have hl : lv_has _ _ ([(0, .ref h0), (1, .int (nI wn)), (2, .int so), (3, .int (nI (k5 + 1)))]) := lv_sub hl [2, 3, 4, 0] rfl
        exact ih4 (k5 + 1) so x4_i125 x4_F75 _ _ _ (by omega) (by first | assumption | omega) (by omega) hP hD hS hl

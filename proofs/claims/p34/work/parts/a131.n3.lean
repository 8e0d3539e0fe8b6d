theorem hd_yX2_costOver_RX2 : yX2_costOver.cls = RX2 ∧ yX2_costOver.cls ≠ "java/lang/invoke/MethodHandle" ∧ yX2_costOver.cls ≠ "java/lang/invoke/VarHandle" ∧ (parseMethodDescriptor yX2_costOver.desc).map (fun d => d.parameters.length) = some 3 := by decide +kernel
theorem hd_yX2_takeStops_RX2 : yX2_takeStops.cls = RX2 ∧ yX2_takeStops.cls ≠ "java/lang/invoke/MethodHandle" ∧ yX2_takeStops.cls ≠ "java/lang/invoke/VarHandle" ∧ (parseMethodDescriptor yX2_takeStops.desc).map (fun d => d.parameters.length) = some 1 := by decide +kernel
theorem hd_yX2_takePrices_RX2 : yX2_takePrices.cls = RX2 ∧ yX2_takePrices.cls ≠ "java/lang/invoke/MethodHandle" ∧ yX2_takePrices.cls ≠ "java/lang/invoke/VarHandle" ∧ (parseMethodDescriptor yX2_takePrices.desc).map (fun d => d.parameters.length) = some 0 := by decide +kernel
theorem hd_yX2_nextStop_RX2 : yX2_nextStop.cls = RX2 ∧ yX2_nextStop.cls ≠ "java/lang/invoke/MethodHandle" ∧ yX2_nextStop.cls ≠ "java/lang/invoke/VarHandle" ∧ (parseMethodDescriptor yX2_nextStop.desc).map (fun d => d.parameters.length) = some 2 := by decide +kernel
theorem hd_yX2_restFrom_RX2 : yX2_restFrom.cls = RX2 ∧ yX2_restFrom.cls ≠ "java/lang/invoke/MethodHandle" ∧ yX2_restFrom.cls ≠ "java/lang/invoke/VarHandle" ∧ (parseMethodDescriptor yX2_restFrom.desc).map (fun d => d.parameters.length) = some 2 := by decide +kernel
theorem dX2_takeStops_0 : decode cX2_takeStops 0 = .ok (.aload_n 0, 1) := dk_42 (by decide +kernel)
theorem dX2_takeStops_1 : decode cX2_takeStops 1 = .ok (.iconst 0, 1) := dk_3 (by decide +kernel)
theorem dX2_takeStops_2 : decode cX2_takeStops 2 = .ok (.putfield 98, 3) := dk_181 (by decide +kernel)
theorem dX2_takeStops_5 : decode cX2_takeStops 5 = .ok (.iconst 0, 1) := dk_3 (by decide +kernel)
theorem dX2_takeStops_6 : decode cX2_takeStops 6 = .ok (.istore_n 2, 1) := dk_61 (by decide +kernel)
theorem dX2_takeStops_7 : decode cX2_takeStops 7 = .ok (.iload_n 2, 1) := dk_28 (by decide +kernel)
theorem dX2_takeStops_8 : decode cX2_takeStops 8 = .ok (.bipush 12, 2) := dk_16 (by decide +kernel)
theorem dX2_takeStops_10 : decode cX2_takeStops 10 = .ok (.if_icmp .ge 46, 3) := dk_162 (by decide +kernel)
theorem dX2_takeStops_13 : decode cX2_takeStops 13 = .ok (.aload_n 0, 1) := dk_42 (by decide +kernel)
theorem dX2_takeStops_14 : decode cX2_takeStops 14 = .ok (.getfield 98, 3) := dk_180 (by decide +kernel)
theorem dX2_takeStops_17 : decode cX2_takeStops 17 = .ok (.bipush 8, 2) := dk_16 (by decide +kernel)
theorem dX2_takeStops_19 : decode cX2_takeStops 19 = .ok (.if_icmp .ge 37, 3) := dk_162 (by decide +kernel)
theorem dX2_takeStops_22 : decode cX2_takeStops 22 = .ok (.iload_n 1, 1) := dk_27 (by decide +kernel)
theorem dX2_takeStops_23 : decode cX2_takeStops 23 = .ok (.iload_n 2, 1) := dk_28 (by decide +kernel)
theorem dX2_takeStops_24 : decode cX2_takeStops 24 = .ok (.ishr, 1) := dk_122 (by decide +kernel)
theorem dX2_takeStops_25 : decode cX2_takeStops 25 = .ok (.iconst 1, 1) := dk_4 (by decide +kernel)
theorem dX2_takeStops_26 : decode cX2_takeStops 26 = .ok (.iand, 1) := dk_126 (by decide +kernel)
theorem dX2_takeStops_27 : decode cX2_takeStops 27 = .ok (.ifCond .eq 23, 3) := dk_153 (by decide +kernel)
theorem dX2_takeStops_30 : decode cX2_takeStops 30 = .ok (.aload_n 0, 1) := dk_42 (by decide +kernel)
theorem dX2_takeStops_31 : decode cX2_takeStops 31 = .ok (.getfield 36, 3) := dk_180 (by decide +kernel)
theorem dX2_takeStops_34 : decode cX2_takeStops 34 = .ok (.aload_n 0, 1) := dk_42 (by decide +kernel)
theorem dX2_takeStops_35 : decode cX2_takeStops 35 = .ok (.getfield 98, 3) := dk_180 (by decide +kernel)
theorem dX2_takeStops_38 : decode cX2_takeStops 38 = .ok (.iload_n 2, 1) := dk_28 (by decide +kernel)
theorem dX2_takeStops_39 : decode cX2_takeStops 39 = .ok (.iastore, 1) := dk_79 (by decide +kernel)
theorem dX2_takeStops_40 : decode cX2_takeStops 40 = .ok (.aload_n 0, 1) := dk_42 (by decide +kernel)
theorem dX2_takeStops_41 : decode cX2_takeStops 41 = .ok (.dup, 1) := dk_89 (by decide +kernel)
theorem dX2_takeStops_42 : decode cX2_takeStops 42 = .ok (.getfield 98, 3) := dk_180 (by decide +kernel)
theorem dX2_takeStops_45 : decode cX2_takeStops 45 = .ok (.iconst 1, 1) := dk_4 (by decide +kernel)
theorem dX2_takeStops_46 : decode cX2_takeStops 46 = .ok (.iadd, 1) := dk_96 (by decide +kernel)
theorem dX2_takeStops_47 : decode cX2_takeStops 47 = .ok (.putfield 98, 3) := dk_181 (by decide +kernel)
theorem dX2_takeStops_50 : decode cX2_takeStops 50 = .ok (.iinc 2 1, 3) := dk_132 (by decide +kernel)
theorem dX2_takeStops_53 : decode cX2_takeStops 53 = .ok (.goto (-46), 3) := dk_167 (by decide +kernel)
theorem dX2_takeStops_56 : decode cX2_takeStops 56 = .ok (.return_, 1) := dk_177 (by decide +kernel)
def wsMX2_takeStops : List Cond := .code yX2_takeStops cX2_takeStops 3 none :: ([.fieldLink RX2 98 "OptimaWorks$NetDesk" "stops" "I", .fieldLink RX2 36 "OptimaWorks$NetDesk" "stop" "[I"] ++ wsX20)
theorem iwsMX2_takeStops_in2 : ∀ w ∈ wsX20, w ∈ wsMX2_takeStops := fun _ h => List.mem_cons_of_mem _ (List.mem_append_right _ h)
theorem gdwsMX2_takeStops : wsMX2_takeStops.all goodWord = true := gdC rfl (gdA (by decide +kernel : ([.fieldLink RX2 98 "OptimaWorks$NetDesk" "stops" "I", .fieldLink RX2 36 "OptimaWorks$NetDesk" "stop" "[I"] : List Cond).all goodWord = true) gdwsX20)
set_option maxHeartbeats 4000000 in
set_option maxRecDepth 100000 in
/-- the stops of a tour -/
theorem m_X2_takeStops (l : Launch) (dC : Nat → ClassId) (dI : Nat → Nat → Nat) (hN : Nat → Nat) (aN : Nat → Nat) (kN : Nat → ClassId) (iN_arcs : Int32) (fN_from : Nat → Int32) (fN_to : Nat → Int32) (fN_room : Nat → Int32) (fN_cost : Nat → Int32) (iN_reached : Int32) (fN_free : Nat → Int32) (fN_before : Nat → Int32) (fN_flow : Nat → Int32) (fN_length : Nat → Int32) (fN_stop : Nat → Int32) (iN_stops : Int32) (fN_price : Nat → Int32) (fN_rest : Nat → Int32) (p1 : Int32) (b_iN_arcs : 0 ≤ iN_arcs.toInt ∧ iN_arcs.toInt ≤ 40) (b_fN_from : ∀ q : Nat, 0 ≤ (fN_from q).toInt ∧ (fN_from q).toInt ≤ 11) (b_fN_to : ∀ q : Nat, 0 ≤ (fN_to q).toInt ∧ (fN_to q).toInt ≤ 11) (b_fN_before : ∀ q : Nat, 0 ≤ (fN_before q).toInt ∧ (fN_before q).toInt ≤ 79) (b_fN_stop : ∀ q : Nat, 0 ≤ (fN_stop q).toInt ∧ (fN_stop q).toInt ≤ 11) (b_iN_stops : 0 ≤ iN_stops.toInt ∧ iN_stops.toInt ≤ 8) (b_p1 : 1 ≤ p1.toInt ∧ p1.toInt ≤ 4095) (h8 : cntB (bI p1) 12 ≤ 8) (sz : Nat) : Met l yX2_takeStops wsMX2_takeStops ({ frames := 0, cells := 0, slots := 0, locals := 0 }) (va_Pc [.ref (hN 0), .int p1] (fun U => U.heap.size = sz ∧ va_P (dC, dI) vwCl (WN hN aN kN iN_arcs fN_from fN_to fN_room fN_cost iN_reached fN_free fN_before fN_flow fN_length fN_stop iN_stops fN_price fN_rest) U.heap ∧ va_K (dC, dI) vwCl (tN kN) U ∧ va_D (fun _ => True) (WN hN aN kN iN_arcs fN_from fN_to fN_room fN_cost iN_reached fN_free fN_before fN_flow fN_length fN_stop iN_stops fN_price fN_rest))) (va_Qv (fun (u : (Nat → Int32) × (Int32)) => (∀ q : Nat, 0 ≤ ((u.1) q).toInt ∧ ((u.1) q).toInt ≤ 11) ∧ (0 ≤ (u.2).toInt ∧ (u.2).toInt ≤ 8) ∧ (1 ≤ (u.2).toInt) ∧ ((u.2).toInt = (cntB (bI p1) 12 : Int) ∧ ∀ j : Nat, j < cntB (bI p1) 12 → ((u.1) j).toInt = (tuK (bI p1) j : Int))) (fun (u : (Nat → Int32) × (Int32)) t => va_P (dC, dI) vwCl (WN hN aN kN iN_arcs fN_from fN_to fN_room fN_cost iN_reached fN_free fN_before fN_flow fN_length (u.1) (u.2) fN_price fN_rest) t.heap ∧ va_D (va_A (WN hN aN kN iN_arcs fN_from fN_to fN_room fN_cost iN_reached fN_free fN_before fN_flow fN_length fN_stop iN_stops fN_price fN_rest) sz) (WN hN aN kN iN_arcs fN_from fN_to fN_room fN_cost iN_reached fN_free fN_before fN_flow fN_length (u.1) (u.2) fN_price fN_rest)) (va_A (WN hN aN kN iN_arcs fN_from fN_to fN_room fN_cost iN_reached fN_free fN_before fN_flow fN_length fN_stop iN_stops fN_price fN_rest) sz)) 0 0 (va_A (WN hN aN kN iN_arcs fN_from fN_to fN_room fN_cost iN_reached fN_free fN_before fN_flow fN_length fN_stop iN_stops fN_price fN_rest) sz) := by
  refine Met.ofW (cc := cX2_takeStops) (maxL := 3) (ret := none) (by decide) rfl ?_
  intro p e s m args below meth c s₁ B hml hv
  obtain ⟨rfl, hsz, hP, hK, hD0⟩ := hv
  have hx := B.exec
  have hb := B.bytes
  have hr := B.returns
  have hts := atoms_spec (ws := wsMX2_takeStops) B.pre
  have hown : s.vm.findClass RX2 = some m.cls := findClass_of_methodNamed B.named
  have hlocks := B.notSynchronized
  subst hsz
  have hD := hD0.self (sz := s.heap.size)
  generalize hAe : va_A (WN hN aN kN iN_arcs fN_from fN_to fN_room fN_cost iN_reached fN_free fN_before fN_flow fN_length fN_stop iN_stops fN_price fN_rest) s.heap.size = A at hD ⊢
  have hA : ∀ q : Nat, s.heap.size ≤ q → A q := fun q h => by rw [← hAe]; exact Or.inr h
  have hS : va_S A s.heap s.heap [] := va_S.rf
  have hl := lv_entry ([.ref (hN 0), .int p1]) (n := 3) (Nat.le_of_ble_eq_true rfl)
  rw [lg_entry_eq]
  generalize (lg_sl ([.ref (hN 0), .int p1]) ++ List.replicate (3 - (lg_sl ([.ref (hN 0), .int p1])).length) Slot.unset).toArray = ls at hl ⊢
  have hl : lv_has ls 3 [(0, .ref (hN 0)), (1, .int p1)] := hl
  refine lv_aload_n hx hb dX2_takeStops_0 rfl (lv_at hl 0 rfl) ?_
  refine lv_iconst (v := 0) hx hb dX2_takeStops_1 (by decide) ?_
  refine va_put (D := (dC, dI)) (ci := 2) (v := .int 0) (ty := .int) (C := RX2) (T := TX2) (N := 14) hx hb hts iwsMX2_takeStops_in2 tyX2 tyX2_ok nmX2 hown hK hP hD hS 0 rfl rfl 11 (by decide) (hts (.fieldLink RX2 98 "OptimaWorks$NetDesk" "stops" "I") (by decide +kernel)) (fun _ h9 => h9) rfl (by decide +kernel) rfl rfl (Nat.le_of_ble_eq_true rfl) dX2_takeStops_2 (fun H locs hP hD hS => ?_)
  have hP : va_P (dC, dI) vwCl (WN hN aN kN iN_arcs fN_from fN_to fN_room fN_cost iN_reached fN_free fN_before fN_flow fN_length fN_stop 0 fN_price fN_rest) H := hP
  have hD : va_D A (WN hN aN kN iN_arcs fN_from fN_to fN_room fN_cost iN_reached fN_free fN_before fN_flow fN_length fN_stop 0 fN_price fN_rest) := hD
  refine lv_iconst (v := 0) hx hb dX2_takeStops_5 (by decide) ?_
  refine lv_istore_n hx hb dX2_takeStops_6 rfl hl (by decide) rfl (fun ls (hl : lv_has ls _ ([(2, .int 0), (0, .ref (hN 0)), (1, .int p1)])) => ?_)
  have hl : lv_has _ _ ([(2, .int 0), (0, .ref (hN 0)), (1, .int p1)]) := lv_sub hl [0, 1, 2] rfl
  refine (fun (loop : ∀ (n9 : Nat) (fN_stop_x7 : Nat → Int32) (iN_stops_x7 : Int32) (l2_x7 : Int32) (H : Heap) (locs : List Loc) (ls : Array Slot), (∀ q : Nat, 0 ≤ (fN_stop_x7 q).toInt ∧ (fN_stop_x7 q).toInt ≤ 11) → (0 ≤ iN_stops_x7.toInt ∧ iN_stops_x7.toInt ≤ 8) → (0 ≤ l2_x7.toInt ∧ l2_x7.toInt ≤ 12) → (1 ≤ iN_stops_x7.toInt ∨ ∀ j : Nat, (j : Int) < l2_x7.toInt → bt p1 j = false) → (tuStI (bI p1) l2_x7.toInt iN_stops_x7.toInt fN_stop_x7) → (12 - l2_x7.toInt < ((n9 : Nat) : Int)) → va_P (dC, dI) vwCl (WN hN aN kN iN_arcs fN_from fN_to fN_room fN_cost iN_reached fN_free fN_before fN_flow fN_length fN_stop_x7 iN_stops_x7 fN_price fN_rest) H → va_D A (WN hN aN kN iN_arcs fN_from fN_to fN_room fN_cost iN_reached fN_free fN_before fN_flow fN_length fN_stop_x7 iN_stops_x7 fN_price fN_rest) → va_S A s.heap H locs → lv_has ls 3 [(2, .int l2_x7), (0, .ref (hN 0)), (1, .int p1)] → W p l e _ s m _ below meth c H locs 0 0 _ (F0 m 7 ls [])) => loop (13) fN_stop 0 0 _ _ _ b_fN_stop (show 0 ≤ (0 : Int32).toInt ∧ (0 : Int32).toInt ≤ 8 from by decide) (show 0 ≤ (0 : Int32).toInt ∧ (0 : Int32).toInt ≤ 12 from by decide) (show 1 ≤ (0 : Int32).toInt ∨ ∀ j : Nat, (j : Int) < (0 : Int32).toInt → bt p1 j = false from Or.inr (fun j hj => absurd hj (by have : (0 : Int32).toInt = 0 := (by decide); omega))) (show tuStI (bI p1) (0 : Int32).toInt (0 : Int32).toInt fN_stop from tuStI.start (by decide) (by decide)) ((by have e9 : (0 : Int32).toInt = 0 := (by decide : (0 : Int32).toInt = 0); omega)) hP hD hS hl) ?_
  intro n9
  induction n9 with
  | zero => intro fN_stop_x7 iN_stops_x7 l2_x7 H locs ls b_fN_stop_x7 b_iN_stops_x7 b_l2_x7 hst1 hSt hf9; exact False.elim (by omega)
  | succ n9 ihx7 =>
    intro fN_stop_x7 iN_stops_x7 l2_x7 H locs ls b_fN_stop_x7 b_iN_stops_x7 b_l2_x7 hst1 hSt hfx7 hP hD hS hl
    refine lv_iload_n hx hb dX2_takeStops_7 rfl (lv_at hl 0 rfl) ?_
    refine lv_bipush (v := 12) hx hb dX2_takeStops_8 (by decide) ?_
    refine W.cut (pc := 56) (fun H locs ls stk => (12 ≤ l2_x7.toInt ∨ 1 ≤ iN_stops_x7.toInt) ∧ (12 ≤ l2_x7.toInt ∨ 8 ≤ iN_stops_x7.toInt) ∧  stk = [] ∧ va_P (dC, dI) vwCl (WN hN aN kN iN_arcs fN_from fN_to fN_room fN_cost iN_reached fN_free fN_before fN_flow fN_length fN_stop_x7 iN_stops_x7 fN_price fN_rest) H ∧ va_D A (WN hN aN kN iN_arcs fN_from fN_to fN_room fN_cost iN_reached fN_free fN_before fN_flow fN_length fN_stop_x7 iN_stops_x7 fN_price fN_rest) ∧ va_S A s.heap H locs ∧ lv_has ls 3 [(2, .int l2_x7), (0, .ref (hN 0)), (1, .int p1)]) (fun join4 => ?_) ?_
    · refine lv_icmp_ge (tgt := 56) hx hb dX2_takeStops_10 (by decide) (fun c_10 => ?_) (fun c_10 => ?_)
      · have t_10 : l2_x7.toInt ≥ 12 := toI_ge c_10 rfl (by decide : (12 : Int32).toInt = 12)
        have hl : lv_has _ _ ([(2, .int l2_x7), (0, .ref (hN 0)), (1, .int p1)]) := lv_sub hl [0, 1, 2] rfl
        exact join4 _ _ _ _ ⟨(show 12 ≤ l2_x7.toInt ∨ 1 ≤ iN_stops_x7.toInt from by first | assumption | omega), (show 12 ≤ l2_x7.toInt ∨ 8 ≤ iN_stops_x7.toInt from by first | assumption | omega), rfl, hP, hD, hS, hl⟩
      · have t_10 : ¬ l2_x7.toInt ≥ 12 := toI_nge c_10 rfl (by decide : (12 : Int32).toInt = 12)
        refine lv_aload_n hx hb dX2_takeStops_13 rfl (lv_at hl 1 rfl) ?_
        refine va_get (D := (dC, dI)) (ci := 2) (v := .int iN_stops_x7) (C := RX2) (T := TX2) (N := 14) hx hb hts iwsMX2_takeStops_in2 hown hK hP 0 rfl rfl 11 (by decide) (hts (.fieldLink RX2 98 "OptimaWorks$NetDesk" "stops" "I") (by decide +kernel)) (fun _ h9 => h9) rfl dX2_takeStops_14 ?_
        refine lv_bipush (v := 8) hx hb dX2_takeStops_17 (by decide) ?_
        refine lv_icmp_ge (tgt := 56) hx hb dX2_takeStops_19 (by decide) (fun c_19 => ?_) (fun c_19 => ?_)
        · have t_19 : iN_stops_x7.toInt ≥ 8 := toI_ge c_19 rfl (by decide : (8 : Int32).toInt = 8)
          have hl : lv_has _ _ ([(2, .int l2_x7), (0, .ref (hN 0)), (1, .int p1)]) := lv_sub hl [0, 1, 2] rfl
          exact join4 _ _ _ _ ⟨(show 12 ≤ l2_x7.toInt ∨ 1 ≤ iN_stops_x7.toInt from by first | assumption | omega), (show 12 ≤ l2_x7.toInt ∨ 8 ≤ iN_stops_x7.toInt from by first | assumption | omega), rfl, hP, hD, hS, hl⟩
        · have t_19 : ¬ iN_stops_x7.toInt ≥ 8 := toI_nge c_19 rfl (by decide : (8 : Int32).toInt = 8)
          refine lv_iload_n hx hb dX2_takeStops_22 rfl (lv_at hl 2 rfl) ?_
          refine lv_iload_n hx hb dX2_takeStops_23 rfl (lv_at hl 0 rfl) ?_
          refine lv_ishr hx hb dX2_takeStops_24 ?_
          refine lv_topi (fun v17 hv17 => ?_)
          have b_v17 : v17 = p1 >>> (l2_x7 &&& 31) := hv17
          clear hv17
          refine lv_iconst (v := 1) hx hb dX2_takeStops_25 (by decide) ?_
          refine lv_iand hx hb dX2_takeStops_26 ?_
          refine lv_topi (fun v18 hv18 => ?_)
          have b_v18 : (bt p1 l2_x7.toInt.toNat = true ∧ v18.toInt = 1) ∨ (bt p1 l2_x7.toInt.toNat = false ∧ v18.toInt = 0) := by rw [hv18]; exact sh_and1 b_v17 rfl (by omega) (by omega)
          clear hv18
          refine lv_if_eq (tgt := 50) hx hb dX2_takeStops_27 (by decide) (fun c_27 => ?_) (fun c_27 => ?_)
          · have t_27 : v18.toInt = 0 := toI_eq c_27 rfl (by decide : (0 : Int32).toInt = 0)
            refine lv_iinc (v := (iI (l2_x7.toInt + 1))) hx hb dX2_takeStops_50 hl (k := 0) rfl (iI_add2 (iI_of _) (by decide : (1 : Int32) = iI 1)) (by decide) rfl (fun ls (hl : lv_has ls _ ([(2, .int (iI (l2_x7.toInt + 1))), (0, .ref (hN 0)), (1, .int p1)])) => ?_)
            refine lv_goto (tgt := 7) hx hb dX2_takeStops_53 (by decide) ?_
            have hl : lv_has _ _ ([(2, .int (iI (l2_x7.toInt + 1))), (0, .ref (hN 0)), (1, .int p1)]) := lv_sub hl [0, 1, 2] rfl
            exact ihx7 fN_stop_x7 iN_stops_x7 (iI (l2_x7.toInt + 1)) _ _ _ b_fN_stop_x7 (b_iN_stops_x7) (iI_rng (Int.le_trans (by decide) (Int.add_le_add (b_l2_x7.1) (Int.le_refl _))) (by omega) (by decide) (by decide)) (show 1 ≤ iN_stops_x7.toInt ∨ ∀ j : Nat, (j : Int) < (iI (l2_x7.toInt + 1)).toInt → bt p1 j = false from by first | exact tk_0 hst1 (by omega) (iI_t (by omega) (by omega)) t_27 (by assumption) | exact Or.inl (by rw [iI_t (by omega) (by omega)]; omega)) (show tuStI (bI p1) (iI (l2_x7.toInt + 1)).toInt iN_stops_x7.toInt fN_stop_x7 from tuStI.skip hSt (by omega) (iI_t (by omega) (by omega)) (bt_no b_v18 t_27)) (by have e9 : ((iI (l2_x7.toInt + 1))).toInt = (l2_x7.toInt + 1) := (iI_t (Int.le_trans (by decide) (Int.add_le_add (b_l2_x7.1) (Int.le_refl _))) (Int.le_trans (Int.add_le_add (b_l2_x7.2) (Int.le_refl _)) (by decide))); omega) hP hD hS hl
          · have t_27 : ¬ v18.toInt = 0 := toI_neq c_27 rfl (by decide : (0 : Int32).toInt = 0)
            refine lv_aload_n hx hb dX2_takeStops_30 rfl (lv_at hl 1 rfl) ?_
            refine va_get (D := (dC, dI)) (ci := 2) (v := .ref (aN 8)) (C := RX2) (T := TX2) (N := 14) hx hb hts iwsMX2_takeStops_in2 hown hK hP 0 rfl rfl 10 (by decide) (hts (.fieldLink RX2 36 "OptimaWorks$NetDesk" "stop" "[I") (by decide +kernel)) (fun _ h9 => h9) rfl dX2_takeStops_31 ?_
            refine lv_aload_n hx hb dX2_takeStops_34 rfl (lv_at hl 1 rfl) ?_
            refine va_get (D := (dC, dI)) (ci := 2) (v := .int iN_stops_x7) (C := RX2) (T := TX2) (N := 14) hx hb hts iwsMX2_takeStops_in2 hown hK hP 0 rfl rfl 11 (by decide) (hts (.fieldLink RX2 98 "OptimaWorks$NetDesk" "stops" "I") (by decide +kernel)) (fun _ h9 => h9) rfl dX2_takeStops_35 ?_
            refine lv_iload_n hx hb dX2_takeStops_38 rfl (lv_at hl 0 rfl) ?_
            refine va_iast (cA := kN 8) (n := 8) (f := fN_stop_x7) hx hb hK hP hD hS 9 8 rfl rfl (vp_in_iff.mpr ⟨b_iN_stops_x7.1, (Int.lt_of_lt_of_le (Int.not_le.mp t_19) (by decide))⟩) dX2_takeStops_39 (fun H locs hP hD hS => ?_)
            obtain ⟨u19, hu19⟩ : ∃ f9, f9 = upd fN_stop_x7 (iN_stops_x7).toNatClampNeg l2_x7 := ⟨_, rfl⟩
            have hP : va_P (dC, dI) vwCl (WN hN aN kN iN_arcs fN_from fN_to fN_room fN_cost iN_reached fN_free fN_before fN_flow fN_length u19 iN_stops_x7 fN_price fN_rest) H := by rw [hu19]; exact hP
            have hD : va_D A (WN hN aN kN iN_arcs fN_from fN_to fN_room fN_cost iN_reached fN_free fN_before fN_flow fN_length u19 iN_stops_x7 fN_price fN_rest) := by rw [hu19]; exact hD
            have b_u19 : ∀ q : Nat, 0 ≤ (u19 q).toInt ∧ (u19 q).toInt ≤ 11 := by rw [hu19]; exact upd_r b_fN_stop_x7 (by first | exact b_l2_x7 | assumption | exact ⟨by omega, by omega⟩)
            have b1_u19 : u19 = upd fN_stop_x7 (iN_stops_x7).toNatClampNeg l2_x7 := hu19
            clear hu19
            refine lv_aload_n hx hb dX2_takeStops_40 rfl (lv_at hl 1 rfl) ?_
            refine lv_dup hx hb dX2_takeStops_41 rfl ?_
            refine va_get (D := (dC, dI)) (ci := 2) (v := .int iN_stops_x7) (C := RX2) (T := TX2) (N := 14) hx hb hts iwsMX2_takeStops_in2 hown hK hP 0 rfl rfl 11 (by decide) (hts (.fieldLink RX2 98 "OptimaWorks$NetDesk" "stops" "I") (by decide +kernel)) (fun _ h9 => h9) rfl dX2_takeStops_42 ?_
            refine lv_iconst (v := 1) hx hb dX2_takeStops_45 (by decide) ?_
            refine lv_iadd hx hb dX2_takeStops_46 ?_
            refine lv_topi (fun y20 hy20 => ?_)
            obtain rfl : (iI (iN_stops_x7.toInt + 1)) = y20 := (hy20.trans (iI_add2 (iI_of _) (by decide : (1 : Int32) = iI 1))).symm
            refine va_put (D := (dC, dI)) (ci := 2) (v := .int (iI (iN_stops_x7.toInt + 1))) (ty := .int) (C := RX2) (T := TX2) (N := 14) hx hb hts iwsMX2_takeStops_in2 tyX2 tyX2_ok nmX2 hown hK hP hD hS 0 rfl rfl 11 (by decide) (hts (.fieldLink RX2 98 "OptimaWorks$NetDesk" "stops" "I") (by decide +kernel)) (fun _ h9 => h9) rfl (by decide +kernel) rfl rfl (Nat.le_of_ble_eq_true rfl) dX2_takeStops_47 (fun H locs hP hD hS => ?_)
            have hP : va_P (dC, dI) vwCl (WN hN aN kN iN_arcs fN_from fN_to fN_room fN_cost iN_reached fN_free fN_before fN_flow fN_length u19 (iI (iN_stops_x7.toInt + 1)) fN_price fN_rest) H := hP
            have hD : va_D A (WN hN aN kN iN_arcs fN_from fN_to fN_room fN_cost iN_reached fN_free fN_before fN_flow fN_length u19 (iI (iN_stops_x7.toInt + 1)) fN_price fN_rest) := hD
            refine lv_iinc (v := (iI (l2_x7.toInt + 1))) hx hb dX2_takeStops_50 hl (k := 0) rfl (iI_add2 (iI_of _) (by decide : (1 : Int32) = iI 1)) (by decide) rfl (fun ls (hl : lv_has ls _ ([(2, .int (iI (l2_x7.toInt + 1))), (0, .ref (hN 0)), (1, .int p1)])) => ?_)
            refine lv_goto (tgt := 7) hx hb dX2_takeStops_53 (by decide) ?_
            have hl : lv_has _ _ ([(2, .int (iI (l2_x7.toInt + 1))), (0, .ref (hN 0)), (1, .int p1)]) := lv_sub hl [0, 1, 2] rfl
            exact ihx7 u19 (iI (iN_stops_x7.toInt + 1)) (iI (l2_x7.toInt + 1)) _ _ _ b_u19 (iI_rng (Int.le_trans (by decide) (Int.add_le_add (b_iN_stops_x7.1) (Int.le_refl _))) (by omega) (by decide) (by decide)) (iI_rng (Int.le_trans (by decide) (Int.add_le_add (b_l2_x7.1) (Int.le_refl _))) (by omega) (by decide) (by decide)) (show 1 ≤ (iI (iN_stops_x7.toInt + 1)).toInt ∨ ∀ j : Nat, (j : Int) < (iI (l2_x7.toInt + 1)).toInt → bt p1 j = false from by first | exact tk_0 hst1 (by omega) (iI_t (by omega) (by omega)) t_27 (by assumption) | exact Or.inl (by rw [iI_t (by omega) (by omega)]; omega)) (show tuStI (bI p1) (iI (l2_x7.toInt + 1)).toInt (iI (iN_stops_x7.toInt + 1)).toInt u19 from tuStI.take hSt (by omega) (by omega) (iI_t (by omega) (by omega)) (iI_t (by omega) (by omega)) (bt_yes b_v18 t_27) b1_u19 rfl) (by have e9 : ((iI (l2_x7.toInt + 1))).toInt = (l2_x7.toInt + 1) := (iI_t (Int.le_trans (by decide) (Int.add_le_add (b_l2_x7.1) (Int.le_refl _))) (Int.le_trans (Int.add_le_add (b_l2_x7.2) (Int.le_refl _)) (by decide))); omega) hP hD hS hl
    · rintro H locs ls stk ⟨hjn, hje, rfl, hP, hD, hS, hl⟩
      refine W.widen (k := 0) (n := 0) (by decide +kernel) (by decide +kernel) ?_
      exact W.vret hx hb hr (fun t9_ ht hW => ⟨⟨(fN_stop_x7, iN_stops_x7), rfl, ⟨b_fN_stop_x7, (by (try dsimp only); exact (b_iN_stops_x7)), (by (try dsimp only); exact (tk_end hst1 hjn (by omega) (by omega))), (by (try dsimp only); exact (tuStI.done hSt h8 (by omega) (by omega) hje))⟩, by rw [ht]; exact hP, hD⟩, hS.F ht⟩) hS.2.2 dX2_takeStops_56
theorem dX2_takePrices_0 : decode cX2_takePrices 0 = .ok (.aload_n 0, 1) := dk_42 (by decide +kernel)
theorem dX2_takePrices_1 : decode cX2_takePrices 1 = .ok (.getfield 39, 3) := dk_180 (by decide +kernel)
theorem dX2_takePrices_4 : decode cX2_takePrices 4 = .ok (.ldc 60, 2) := dk_18 (by decide +kernel)
theorem dX2_takePrices_6 : decode cX2_takePrices 6 = .ok (.invokestatic 49, 3) := dk_184 (by decide +kernel)
theorem dX2_takePrices_9 : decode cX2_takePrices 9 = .ok (.iconst 0, 1) := dk_3 (by decide +kernel)
theorem dX2_takePrices_10 : decode cX2_takePrices 10 = .ok (.istore_n 1, 1) := dk_60 (by decide +kernel)
theorem dX2_takePrices_11 : decode cX2_takePrices 11 = .ok (.iload_n 1, 1) := dk_27 (by decide +kernel)
theorem dX2_takePrices_12 : decode cX2_takePrices 12 = .ok (.aload_n 0, 1) := dk_42 (by decide +kernel)
theorem dX2_takePrices_13 : decode cX2_takePrices 13 = .ok (.getfield 98, 3) := dk_180 (by decide +kernel)
theorem dX2_takePrices_16 : decode cX2_takePrices 16 = .ok (.if_icmp .ge 102, 3) := dk_162 (by decide +kernel)
theorem dX2_takePrices_19 : decode cX2_takePrices 19 = .ok (.iconst 0, 1) := dk_3 (by decide +kernel)
theorem dX2_takePrices_20 : decode cX2_takePrices 20 = .ok (.istore_n 2, 1) := dk_61 (by decide +kernel)
theorem dX2_takePrices_21 : decode cX2_takePrices 21 = .ok (.iload_n 2, 1) := dk_28 (by decide +kernel)
theorem dX2_takePrices_22 : decode cX2_takePrices 22 = .ok (.aload_n 0, 1) := dk_42 (by decide +kernel)
theorem dX2_takePrices_23 : decode cX2_takePrices 23 = .ok (.getfield 98, 3) := dk_180 (by decide +kernel)
theorem dX2_takePrices_26 : decode cX2_takePrices 26 = .ok (.if_icmp .ge 86, 3) := dk_162 (by decide +kernel)
theorem dX2_takePrices_29 : decode cX2_takePrices 29 = .ok (.iconst 0, 1) := dk_3 (by decide +kernel)
theorem dX2_takePrices_30 : decode cX2_takePrices 30 = .ok (.istore_n 3, 1) := dk_62 (by decide +kernel)
theorem dX2_takePrices_31 : decode cX2_takePrices 31 = .ok (.iload_n 3, 1) := dk_29 (by decide +kernel)
theorem dX2_takePrices_32 : decode cX2_takePrices 32 = .ok (.aload_n 0, 1) := dk_42 (by decide +kernel)
theorem dX2_takePrices_33 : decode cX2_takePrices 33 = .ok (.getfield 45, 3) := dk_180 (by decide +kernel)
theorem dX2_takePrices_36 : decode cX2_takePrices 36 = .ok (.if_icmp .ge 70, 3) := dk_162 (by decide +kernel)
theorem dX2_takePrices_39 : decode cX2_takePrices 39 = .ok (.aload_n 0, 1) := dk_42 (by decide +kernel)
theorem dX2_takePrices_40 : decode cX2_takePrices 40 = .ok (.getfield 11, 3) := dk_180 (by decide +kernel)
theorem dX2_takePrices_43 : decode cX2_takePrices 43 = .ok (.iload_n 3, 1) := dk_29 (by decide +kernel)
theorem dX2_takePrices_44 : decode cX2_takePrices 44 = .ok (.iaload, 1) := dk_46 (by decide +kernel)
theorem dX2_takePrices_45 : decode cX2_takePrices 45 = .ok (.aload_n 0, 1) := dk_42 (by decide +kernel)
theorem dX2_takePrices_46 : decode cX2_takePrices 46 = .ok (.getfield 36, 3) := dk_180 (by decide +kernel)
theorem dX2_takePrices_49 : decode cX2_takePrices 49 = .ok (.iload_n 1, 1) := dk_27 (by decide +kernel)
theorem dX2_takePrices_50 : decode cX2_takePrices 50 = .ok (.iaload, 1) := dk_46 (by decide +kernel)
theorem dX2_takePrices_51 : decode cX2_takePrices 51 = .ok (.if_icmp .ne 49, 3) := dk_160 (by decide +kernel)
theorem dX2_takePrices_54 : decode cX2_takePrices 54 = .ok (.aload_n 0, 1) := dk_42 (by decide +kernel)
theorem dX2_takePrices_55 : decode cX2_takePrices 55 = .ok (.getfield 15, 3) := dk_180 (by decide +kernel)
theorem dX2_takePrices_58 : decode cX2_takePrices 58 = .ok (.iload_n 3, 1) := dk_29 (by decide +kernel)
theorem dX2_takePrices_59 : decode cX2_takePrices 59 = .ok (.iaload, 1) := dk_46 (by decide +kernel)
theorem dX2_takePrices_60 : decode cX2_takePrices 60 = .ok (.aload_n 0, 1) := dk_42 (by decide +kernel)
theorem dX2_takePrices_61 : decode cX2_takePrices 61 = .ok (.getfield 36, 3) := dk_180 (by decide +kernel)
theorem dX2_takePrices_64 : decode cX2_takePrices 64 = .ok (.iload_n 2, 1) := dk_28 (by decide +kernel)
theorem dX2_takePrices_65 : decode cX2_takePrices 65 = .ok (.iaload, 1) := dk_46 (by decide +kernel)
theorem dX2_takePrices_66 : decode cX2_takePrices 66 = .ok (.if_icmp .ne 34, 3) := dk_160 (by decide +kernel)
theorem dX2_takePrices_69 : decode cX2_takePrices 69 = .ok (.aload_n 0, 1) := dk_42 (by decide +kernel)
theorem dX2_takePrices_70 : decode cX2_takePrices 70 = .ok (.getfield 39, 3) := dk_180 (by decide +kernel)
theorem dX2_takePrices_73 : decode cX2_takePrices 73 = .ok (.iload_n 1, 1) := dk_27 (by decide +kernel)
theorem dX2_takePrices_74 : decode cX2_takePrices 74 = .ok (.bipush 8, 2) := dk_16 (by decide +kernel)
theorem dX2_takePrices_76 : decode cX2_takePrices 76 = .ok (.imul, 1) := dk_104 (by decide +kernel)
theorem dX2_takePrices_77 : decode cX2_takePrices 77 = .ok (.iload_n 2, 1) := dk_28 (by decide +kernel)
theorem dX2_takePrices_78 : decode cX2_takePrices 78 = .ok (.iadd, 1) := dk_96 (by decide +kernel)
theorem dX2_takePrices_79 : decode cX2_takePrices 79 = .ok (.aload_n 0, 1) := dk_42 (by decide +kernel)
theorem dX2_takePrices_80 : decode cX2_takePrices 80 = .ok (.getfield 39, 3) := dk_180 (by decide +kernel)
theorem dX2_takePrices_83 : decode cX2_takePrices 83 = .ok (.iload_n 1, 1) := dk_27 (by decide +kernel)
theorem dX2_takePrices_84 : decode cX2_takePrices 84 = .ok (.bipush 8, 2) := dk_16 (by decide +kernel)
theorem dX2_takePrices_86 : decode cX2_takePrices 86 = .ok (.imul, 1) := dk_104 (by decide +kernel)
theorem dX2_takePrices_87 : decode cX2_takePrices 87 = .ok (.iload_n 2, 1) := dk_28 (by decide +kernel)
theorem dX2_takePrices_88 : decode cX2_takePrices 88 = .ok (.iadd, 1) := dk_96 (by decide +kernel)
theorem dX2_takePrices_89 : decode cX2_takePrices 89 = .ok (.iaload, 1) := dk_46 (by decide +kernel)
theorem dX2_takePrices_90 : decode cX2_takePrices 90 = .ok (.aload_n 0, 1) := dk_42 (by decide +kernel)
theorem dX2_takePrices_91 : decode cX2_takePrices 91 = .ok (.getfield 21, 3) := dk_180 (by decide +kernel)
theorem dX2_takePrices_94 : decode cX2_takePrices 94 = .ok (.iload_n 3, 1) := dk_29 (by decide +kernel)
theorem dX2_takePrices_95 : decode cX2_takePrices 95 = .ok (.iaload, 1) := dk_46 (by decide +kernel)
theorem dX2_takePrices_96 : decode cX2_takePrices 96 = .ok (.invokestatic 61, 3) := dk_184 (by decide +kernel)
theorem dX2_takePrices_99 : decode cX2_takePrices 99 = .ok (.iastore, 1) := dk_79 (by decide +kernel)
theorem dX2_takePrices_100 : decode cX2_takePrices 100 = .ok (.iinc 3 1, 3) := dk_132 (by decide +kernel)
theorem dX2_takePrices_103 : decode cX2_takePrices 103 = .ok (.goto (-72), 3) := dk_167 (by decide +kernel)
theorem dX2_takePrices_106 : decode cX2_takePrices 106 = .ok (.iinc 2 1, 3) := dk_132 (by decide +kernel)
theorem dX2_takePrices_109 : decode cX2_takePrices 109 = .ok (.goto (-88), 3) := dk_167 (by decide +kernel)
theorem dX2_takePrices_112 : decode cX2_takePrices 112 = .ok (.iinc 1 1, 3) := dk_132 (by decide +kernel)
theorem dX2_takePrices_115 : decode cX2_takePrices 115 = .ok (.goto (-104), 3) := dk_167 (by decide +kernel)
theorem dX2_takePrices_118 : decode cX2_takePrices 118 = .ok (.return_, 1) := dk_177 (by decide +kernel)
def wsMX2_takePrices : List Cond := .code yX2_takePrices cX2_takePrices 4 none :: ([.fieldLink RX2 39 "OptimaWorks$NetDesk" "price" "[I", .constant RX2 60 536870912, .fieldLink RX2 98 "OptimaWorks$NetDesk" "stops" "I", .fieldLink RX2 45 "OptimaWorks$NetDesk" "arcs" "I", .fieldLink RX2 11 "OptimaWorks$NetDesk" "from" "[I", .fieldLink RX2 36 "OptimaWorks$NetDesk" "stop" "[I", .fieldLink RX2 15 "OptimaWorks$NetDesk" "to" "[I", .fieldLink RX2 21 "OptimaWorks$NetDesk" "cost" "[I", .methodLink RX2 61 Lib.Math.min.name, .static Lib.Math.min.name, .initialized "java/lang/Math", .code Lib.Math.min.name Lib.Math.min.code 2 (some .int)] ++ wsX20 ++ (va_wsS RX2 49 yJ7_fill_53178 wsMJ7_fill_53178))
theorem iwsMX2_takePrices_in2 : ∀ w ∈ wsX20, w ∈ wsMX2_takePrices := fun _ h => List.mem_cons_of_mem _ (List.mem_append_left _ (List.mem_append_right _ h))
theorem gwsMX2_takePrices_0 : GoodIn wsMX2_takePrices (va_wsS RX2 49 yJ7_fill_53178 wsMJ7_fill_53178) := goodIn_sub (fun _ h => List.mem_cons_of_mem _ (List.mem_append_right _ h)) (gdS (by decide +kernel) gdwsMJ7_fill_53178)
theorem gdwsMX2_takePrices : wsMX2_takePrices.all goodWord = true := gdC rfl (gdA (gdA (by decide +kernel : ([.fieldLink RX2 39 "OptimaWorks$NetDesk" "price" "[I", .constant RX2 60 536870912, .fieldLink RX2 98 "OptimaWorks$NetDesk" "stops" "I", .fieldLink RX2 45 "OptimaWorks$NetDesk" "arcs" "I", .fieldLink RX2 11 "OptimaWorks$NetDesk" "from" "[I", .fieldLink RX2 36 "OptimaWorks$NetDesk" "stop" "[I", .fieldLink RX2 15 "OptimaWorks$NetDesk" "to" "[I", .fieldLink RX2 21 "OptimaWorks$NetDesk" "cost" "[I", .methodLink RX2 61 Lib.Math.min.name, .static Lib.Math.min.name, .initialized "java/lang/Math", .code Lib.Math.min.name Lib.Math.min.code 2 (some .int)] : List Cond).all goodWord = true) gdwsX20) (gdS (by decide +kernel) gdwsMJ7_fill_53178))
set_option maxHeartbeats 4000000 in
set_option maxRecDepth 100000 in
/-- prices between the stops -/
theorem m_X2_takePrices (l : Launch) (dC : Nat → ClassId) (dI : Nat → Nat → Nat) (hN : Nat → Nat) (aN : Nat → Nat) (kN : Nat → ClassId) (iN_arcs : Int32) (fN_from : Nat → Int32) (fN_to : Nat → Int32) (fN_room : Nat → Int32) (fN_cost : Nat → Int32) (iN_reached : Int32) (fN_free : Nat → Int32) (fN_before : Nat → Int32) (fN_flow : Nat → Int32) (fN_length : Nat → Int32) (fN_stop : Nat → Int32) (iN_stops : Int32) (fN_price : Nat → Int32) (fN_rest : Nat → Int32) (b_iN_arcs : 0 ≤ iN_arcs.toInt ∧ iN_arcs.toInt ≤ 40) (b_fN_from : ∀ q : Nat, 0 ≤ (fN_from q).toInt ∧ (fN_from q).toInt ≤ 11) (b_fN_to : ∀ q : Nat, 0 ≤ (fN_to q).toInt ∧ (fN_to q).toInt ≤ 11) (b_fN_before : ∀ q : Nat, 0 ≤ (fN_before q).toInt ∧ (fN_before q).toInt ≤ 79) (b_fN_stop : ∀ q : Nat, 0 ≤ (fN_stop q).toInt ∧ (fN_stop q).toInt ≤ 11) (b_iN_stops : 0 ≤ iN_stops.toInt ∧ iN_stops.toInt ≤ 8) (sz : Nat) : Met l yX2_takePrices wsMX2_takePrices ({ frames := 1, cells := 0, slots := 0, locals := 23 }) (va_Pc [.ref (hN 0)] (fun U => U.heap.size = sz ∧ va_P (dC, dI) vwCl (WN hN aN kN iN_arcs fN_from fN_to fN_room fN_cost iN_reached fN_free fN_before fN_flow fN_length fN_stop iN_stops fN_price fN_rest) U.heap ∧ va_K (dC, dI) vwCl (tN kN) U ∧ va_D (fun _ => True) (WN hN aN kN iN_arcs fN_from fN_to fN_room fN_cost iN_reached fN_free fN_before fN_flow fN_length fN_stop iN_stops fN_price fN_rest))) (va_Qv (fun (u : Nat → Int32) => (∀ x y, x < iN_stops.toInt.toNat → y < iN_stops.toInt.toNat → (u (8 * x + y)).toInt = tuL (iN_arcs.toInt, fN_from, fN_to, fN_room, fN_cost) (fN_stop x).toInt.toNat (fN_stop y).toInt.toNat iN_arcs.toInt.toNat)) (fun (u : Nat → Int32) t => va_P (dC, dI) vwCl (WN hN aN kN iN_arcs fN_from fN_to fN_room fN_cost iN_reached fN_free fN_before fN_flow fN_length fN_stop iN_stops u fN_rest) t.heap ∧ va_D (va_A (WN hN aN kN iN_arcs fN_from fN_to fN_room fN_cost iN_reached fN_free fN_before fN_flow fN_length fN_stop iN_stops fN_price fN_rest) sz) (WN hN aN kN iN_arcs fN_from fN_to fN_room fN_cost iN_reached fN_free fN_before fN_flow fN_length fN_stop iN_stops u fN_rest)) (va_A (WN hN aN kN iN_arcs fN_from fN_to fN_room fN_cost iN_reached fN_free fN_before fN_flow fN_length fN_stop iN_stops fN_price fN_rest) sz)) 0 0 (va_A (WN hN aN kN iN_arcs fN_from fN_to fN_room fN_cost iN_reached fN_free fN_before fN_flow fN_length fN_stop iN_stops fN_price fN_rest) sz) := by
  refine Met.ofW (cc := cX2_takePrices) (maxL := 4) (ret := none) (by decide) rfl ?_
  intro p e s m args below meth c s₁ B hml hv
  obtain ⟨rfl, hsz, hP, hK, hD0⟩ := hv
  have hx := B.exec
  have hb := B.bytes
  have hr := B.returns
  have hts := atoms_spec (ws := wsMX2_takePrices) B.pre
  have hown : s.vm.findClass RX2 = some m.cls := findClass_of_methodNamed B.named
  have hlocks := B.notSynchronized
  subst hsz
  have hD := hD0.self (sz := s.heap.size)
  generalize hAe : va_A (WN hN aN kN iN_arcs fN_from fN_to fN_room fN_cost iN_reached fN_free fN_before fN_flow fN_length fN_stop iN_stops fN_price fN_rest) s.heap.size = A at hD ⊢
  have hA : ∀ q : Nat, s.heap.size ≤ q → A q := fun q h => by rw [← hAe]; exact Or.inr h
  have hS : va_S A s.heap s.heap [] := va_S.rf
  have hl := lv_entry ([.ref (hN 0)]) (n := 4) (Nat.le_of_ble_eq_true rfl)
  rw [lg_entry_eq]
  generalize (lg_sl ([.ref (hN 0)]) ++ List.replicate (4 - (lg_sl ([.ref (hN 0)])).length) Slot.unset).toArray = ls at hl ⊢
  have hl : lv_has ls 4 [(0, .ref (hN 0))] := hl
  refine lv_aload_n hx hb dX2_takePrices_0 rfl (lv_at hl 0 rfl) ?_
  refine va_get (D := (dC, dI)) (ci := 2) (v := .ref (aN 9)) (C := RX2) (T := TX2) (N := 14) hx hb hts iwsMX2_takePrices_in2 hown hK hP 0 rfl rfl 12 (by decide) (hts (.fieldLink RX2 39 "OptimaWorks$NetDesk" "price" "[I") (by decide +kernel)) (fun _ h9 => h9) rfl dX2_takePrices_1 ?_
  refine lv_ldc (v := 536870912) hx hb hown (hts (.constant RX2 60 536870912) (by decide +kernel)) dX2_takePrices_4 ?_
  have hPc : va_P (dC, dI) vwCl (WY (fun _ => 0) (fun _ => aN 9) (fun _ => kN 9) 64 fN_price) _ := hP.sub [10] rfl
  have hDc : va_D _ (WY (fun _ => 0) (fun _ => aN 9) (fun _ => kN 9) 64 fN_price) := hD.sub [10] (by decide) rfl
  have hKc : va_K (dC, dI) vwCl (tY (fun _ => kN 9)) _ := hK.sub [9] rfl
  have hFc := va_free (wc := WY (fun _ => 0) (fun _ => aN 9) (fun _ => kN 9) 64 fN_price) hD hS hA [10] rfl
  refine va_callv (va_runS (As := [.ref (aN 9), .int 536870912]) (rest := []) ⟨hx, hb, hml, hown, hts⟩ (m_J7_fill_53178 l dC dI (fun _ => 0) (fun _ => aN 9) (fun _ => kN 9) 64 fN_price 536870912 (by first | assumption | exact ⟨by omega, by omega⟩) s.heap.size) (va_cwS 2 hts gwsMX2_takePrices_0 rfl rfl rfl (by decide +kernel) ⟨by decide +kernel, by decide +kernel⟩) ⟨fun a U g mk q => by obtain ⟨q0, q1, qP, qK, qD⟩ := q; exact ⟨q0, q1, qP, va_K.moved (u := U) (U := U.calling g mk a) (Vm.Alike.refl U.vm) qK, qD⟩, fun U hU9 hW => ⟨rfl, by rw [hU9], by rw [hU9]; exact hPc, va_K.moved hW.alike hKc, hDc.weaken (fun _ _ _ _ => trivial)⟩⟩ rfl rfl hl.1 rfl (lv_room (Nat.le_of_ble_eq_true rfl)) dX2_takePrices_6 (by decide +kernel)) hS (fun q _ h => hFc q h) hFc (fun u t9_ H locs ht hvm hw9 hB9 hz1 hk1 hS => ?_)
  obtain ⟨fY_1, hwit1⟩ : ∃ w9, w9 = u := ⟨u, rfl⟩
  subst hwit1
  have f1_0 := hw9
  try dsimp only at f1_0
  obtain ⟨hP, hD⟩ := va_join (wr := [(hN 0, .inr (2, [.int iN_arcs, .ref (aN 0), .ref (aN 1), .ref (aN 2), .ref (aN 3), .int iN_reached, .ref (aN 4), .ref (aN 5), .ref (aN 6), .ref (aN 7), .ref (aN 8), .int iN_stops, .ref (aN 9), .ref (aN 10)])), (aN 0, .inl (kN 0, 40, .inl fN_from)), (aN 1, .inl (kN 1, 40, .inl fN_to)), (aN 2, .inl (kN 2, 40, .inl fN_room)), (aN 3, .inl (kN 3, 40, .inl fN_cost)), (aN 4, .inl (kN 4, 144, .inl fN_free)), (aN 5, .inl (kN 5, 12, .inl fN_before)), (aN 6, .inl (kN 6, 40, .inl fN_flow)), (aN 7, .inl (kN 7, 12, .inl fN_length)), (aN 8, .inl (kN 8, 8, .inl fN_stop)), (aN 10, .inl (kN 10, 1024, .inl fN_rest))]) (w1 := WY (fun _ => 0) (fun _ => aN 9) (fun _ => kN 9) 64 fY_1) hP hD [10] [0, 1, 2, 3, 4, 5, 6, 7, 8, 9, 11] rfl rfl (by decide) (by decide) hk1 hFc (fz_P ht hB9.1) hB9.2
  have hP : va_P (dC, dI) vwCl (WN hN aN kN iN_arcs fN_from fN_to fN_room fN_cost iN_reached fN_free fN_before fN_flow fN_length fN_stop iN_stops fY_1 fN_rest) H := hP.sub [0, 1, 2, 3, 4, 5, 6, 7, 8, 9, 11, 10] rfl
  have hD : va_D A (WN hN aN kN iN_arcs fN_from fN_to fN_room fN_cost iN_reached fN_free fN_before fN_flow fN_length fN_stop iN_stops fY_1 fN_rest) := hD.sub [0, 1, 2, 3, 4, 5, 6, 7, 8, 9, 11, 10] (by decide) rfl
  have hfil := f1_0
  refine lv_iconst (v := 0) hx hb dX2_takePrices_9 (by decide) ?_
  refine lv_istore_n hx hb dX2_takePrices_10 rfl hl (by decide) rfl (fun ls (hl : lv_has ls _ ([(1, .int 0), (0, .ref (hN 0))])) => ?_)
  have hl : lv_has _ _ ([(1, .int 0), (0, .ref (hN 0))]) := lv_sub hl [0, 1] rfl
  refine (fun (loop : ∀ (n9 : Nat) (fN_price_x11 : Nat → Int32) (l1_x11 : Int32) (H : Heap) (locs : List Loc) (ls : Array Slot), (0 ≤ l1_x11.toInt ∧ l1_x11.toInt ≤ 8) → (tuPrI (iN_arcs.toInt, fN_from, fN_to, fN_room, fN_cost) (fun x => (fN_stop x).toInt.toNat) iN_stops.toInt.toNat l1_x11.toInt.toNat 0 0 fN_price_x11) → (8 - l1_x11.toInt < ((n9 : Nat) : Int)) → va_P (dC, dI) vwCl (WN hN aN kN iN_arcs fN_from fN_to fN_room fN_cost iN_reached fN_free fN_before fN_flow fN_length fN_stop iN_stops fN_price_x11 fN_rest) H → va_D A (WN hN aN kN iN_arcs fN_from fN_to fN_room fN_cost iN_reached fN_free fN_before fN_flow fN_length fN_stop iN_stops fN_price_x11 fN_rest) → va_S A s.heap H locs → lv_has ls 4 [(1, .int l1_x11), (0, .ref (hN 0))] → W p l e _ s m _ below meth c H locs 0 0 _ (F0 m 11 ls [])) => loop (9) fY_1 0 _ _ _ (show 0 ≤ (0 : Int32).toInt ∧ (0 : Int32).toInt ≤ 8 from by decide) (show tuPrI (iN_arcs.toInt, fN_from, fN_to, fN_room, fN_cost) (fun x => (fN_stop x).toInt.toNat) iN_stops.toInt.toNat (0 : Int32).toInt.toNat 0 0 fY_1 from tuPrI.start (by omega) (fun q hq => by rw [hfil q hq]; rfl) rfl rfl rfl) ((by have e9 : (0 : Int32).toInt = 0 := (by decide : (0 : Int32).toInt = 0); omega)) hP hD hS hl) ?_
  intro n9
  induction n9 with
  | zero => intro fN_price_x11 l1_x11 H locs ls b_l1_x11 hPa hf9; exact False.elim (by omega)
  | succ n9 ihx11 =>
    intro fN_price_x11 l1_x11 H locs ls b_l1_x11 hPa hfx11 hP hD hS hl
    refine lv_iload_n hx hb dX2_takePrices_11 rfl (lv_at hl 0 rfl) ?_
    refine lv_aload_n hx hb dX2_takePrices_12 rfl (lv_at hl 1 rfl) ?_
    refine va_get (D := (dC, dI)) (ci := 2) (v := .int iN_stops) (C := RX2) (T := TX2) (N := 14) hx hb hts iwsMX2_takePrices_in2 hown hK hP 0 rfl rfl 11 (by decide) (hts (.fieldLink RX2 98 "OptimaWorks$NetDesk" "stops" "I") (by decide +kernel)) (fun _ h9 => h9) rfl dX2_takePrices_13 ?_
    refine lv_icmp_ge (tgt := 118) hx hb dX2_takePrices_16 (by decide) (fun c_16 => ?_) (fun c_16 => ?_)
    · have t_16 : l1_x11.toInt ≥ iN_stops.toInt := toI_ge c_16 rfl rfl
      refine W.widen (k := 0) (n := 0) (by decide +kernel) (by decide +kernel) ?_
      exact W.vret hx hb hr (fun t9_ ht hW => ⟨⟨fN_price_x11, rfl, (by (try dsimp only); exact (tuPrI.done hPa (by omega))), by rw [ht]; exact hP, hD⟩, hS.F ht⟩) hS.2.2 dX2_takePrices_118
    · have t_16 : ¬ l1_x11.toInt ≥ iN_stops.toInt := toI_nge c_16 rfl rfl
      refine lv_iconst (v := 0) hx hb dX2_takePrices_19 (by decide) ?_
      refine lv_istore_n hx hb dX2_takePrices_20 rfl hl (by decide) rfl (fun ls (hl : lv_has ls _ ([(2, .int 0), (1, .int l1_x11), (0, .ref (hN 0))])) => ?_)
      have hl : lv_has _ _ ([(2, .int 0), (1, .int l1_x11), (0, .ref (hN 0))]) := lv_sub hl [0, 1, 2] rfl
      refine (fun (loop : ∀ (n9 : Nat) (fN_price_x21 : Nat → Int32) (l2_x21 : Int32) (H : Heap) (locs : List Loc) (ls : Array Slot), (0 ≤ l2_x21.toInt ∧ l2_x21.toInt ≤ 8) → (tuPrI (iN_arcs.toInt, fN_from, fN_to, fN_room, fN_cost) (fun x => (fN_stop x).toInt.toNat) iN_stops.toInt.toNat l1_x11.toInt.toNat l2_x21.toInt.toNat 0 fN_price_x21) → (8 - l2_x21.toInt < ((n9 : Nat) : Int)) → va_P (dC, dI) vwCl (WN hN aN kN iN_arcs fN_from fN_to fN_room fN_cost iN_reached fN_free fN_before fN_flow fN_length fN_stop iN_stops fN_price_x21 fN_rest) H → va_D A (WN hN aN kN iN_arcs fN_from fN_to fN_room fN_cost iN_reached fN_free fN_before fN_flow fN_length fN_stop iN_stops fN_price_x21 fN_rest) → va_S A s.heap H locs → lv_has ls 4 [(2, .int l2_x21), (1, .int l1_x11), (0, .ref (hN 0))] → W p l e _ s m _ below meth c H locs 0 0 _ (F0 m 21 ls [])) => loop (9) fN_price_x11 0 _ _ _ (show 0 ≤ (0 : Int32).toInt ∧ (0 : Int32).toInt ≤ 8 from by decide) (show tuPrI (iN_arcs.toInt, fN_from, fN_to, fN_room, fN_cost) (fun x => (fN_stop x).toInt.toNat) iN_stops.toInt.toNat l1_x11.toInt.toNat (0 : Int32).toInt.toNat 0 fN_price_x11 from by rw [show (0 : Int32).toInt.toNat = 0 from by decide]; exact hPa) ((by have e9 : (0 : Int32).toInt = 0 := (by decide : (0 : Int32).toInt = 0); omega)) hP hD hS hl) ?_
      intro n9
      induction n9 with
      | zero => intro fN_price_x21 l2_x21 H locs ls b_l2_x21 hPb hf9; exact False.elim (by omega)
      | succ n9 ihx21 =>
        intro fN_price_x21 l2_x21 H locs ls b_l2_x21 hPb hfx21 hP hD hS hl
        refine lv_iload_n hx hb dX2_takePrices_21 rfl (lv_at hl 0 rfl) ?_
        refine lv_aload_n hx hb dX2_takePrices_22 rfl (lv_at hl 2 rfl) ?_
        refine va_get (D := (dC, dI)) (ci := 2) (v := .int iN_stops) (C := RX2) (T := TX2) (N := 14) hx hb hts iwsMX2_takePrices_in2 hown hK hP 0 rfl rfl 11 (by decide) (hts (.fieldLink RX2 98 "OptimaWorks$NetDesk" "stops" "I") (by decide +kernel)) (fun _ h9 => h9) rfl dX2_takePrices_23 ?_
        refine lv_icmp_ge (tgt := 112) hx hb dX2_takePrices_26 (by decide) (fun c_26 => ?_) (fun c_26 => ?_)
        · have t_26 : l2_x21.toInt ≥ iN_stops.toInt := toI_ge c_26 rfl rfl
          refine lv_iinc (v := (iI (l1_x11.toInt + 1))) hx hb dX2_takePrices_112 hl (k := 1) rfl (iI_add2 (iI_of _) (by decide : (1 : Int32) = iI 1)) (by decide) rfl (fun ls (hl : lv_has ls _ ([(1, .int (iI (l1_x11.toInt + 1))), (2, .int l2_x21), (0, .ref (hN 0))])) => ?_)
          refine lv_goto (tgt := 11) hx hb dX2_takePrices_115 (by decide) ?_
          have hl : lv_has _ _ ([(1, .int (iI (l1_x11.toInt + 1))), (0, .ref (hN 0))]) := lv_sub hl [0, 2] rfl
          exact ihx11 fN_price_x21 (iI (l1_x11.toInt + 1)) _ _ _ (iI_rng (Int.le_trans (by decide) (Int.add_le_add (b_l1_x11.1) (Int.le_refl _))) (by omega) (by decide) (by decide)) (show tuPrI (iN_arcs.toInt, fN_from, fN_to, fN_room, fN_cost) (fun x => (fN_stop x).toInt.toNat) iN_stops.toInt.toNat (iI (l1_x11.toInt + 1)).toInt.toNat 0 0 fN_price_x21 from by rw [show (iI (l1_x11.toInt + 1)).toInt.toNat = l1_x11.toInt.toNat + 1 from by rw [iI_t (by omega) (by omega)]; omega]; exact tuPrI.nexta hPb (by omega) rfl rfl) (by have e9 : ((iI (l1_x11.toInt + 1))).toInt = (l1_x11.toInt + 1) := (iI_t (Int.le_trans (by decide) (Int.add_le_add (b_l1_x11.1) (Int.le_refl _))) (Int.le_trans (Int.add_le_add (b_l1_x11.2) (Int.le_refl _)) (by decide))); omega) hP hD hS hl
        · have t_26 : ¬ l2_x21.toInt ≥ iN_stops.toInt := toI_nge c_26 rfl rfl
          refine lv_iconst (v := 0) hx hb dX2_takePrices_29 (by decide) ?_
          refine lv_istore_n hx hb dX2_takePrices_30 rfl hl (by decide) rfl (fun ls (hl : lv_has ls _ ([(3, .int 0), (2, .int l2_x21), (1, .int l1_x11), (0, .ref (hN 0))])) => ?_)
          have hl : lv_has _ _ ([(3, .int 0), (2, .int l2_x21), (1, .int l1_x11), (0, .ref (hN 0))]) := lv_sub hl [0, 1, 2, 3] rfl
          refine (fun (loop : ∀ (n9 : Nat) (fN_price_x31 : Nat → Int32) (l3_x31 : Int32) (H : Heap) (locs : List Loc) (ls : Array Slot), (0 ≤ l3_x31.toInt ∧ l3_x31.toInt ≤ 40) → (tuPrI (iN_arcs.toInt, fN_from, fN_to, fN_room, fN_cost) (fun x => (fN_stop x).toInt.toNat) iN_stops.toInt.toNat l1_x11.toInt.toNat l2_x21.toInt.toNat l3_x31.toInt.toNat fN_price_x31) → (l3_x31.toInt ≤ iN_arcs.toInt) → (40 - l3_x31.toInt < ((n9 : Nat) : Int)) → va_P (dC, dI) vwCl (WN hN aN kN iN_arcs fN_from fN_to fN_room fN_cost iN_reached fN_free fN_before fN_flow fN_length fN_stop iN_stops fN_price_x31 fN_rest) H → va_D A (WN hN aN kN iN_arcs fN_from fN_to fN_room fN_cost iN_reached fN_free fN_before fN_flow fN_length fN_stop iN_stops fN_price_x31 fN_rest) → va_S A s.heap H locs → lv_has ls 4 [(3, .int l3_x31), (2, .int l2_x21), (1, .int l1_x11), (0, .ref (hN 0))] → W p l e _ s m _ below meth c H locs 0 0 _ (F0 m 31 ls [])) => loop (41) fN_price_x21 0 _ _ _ (show 0 ≤ (0 : Int32).toInt ∧ (0 : Int32).toInt ≤ 40 from by decide) (show tuPrI (iN_arcs.toInt, fN_from, fN_to, fN_room, fN_cost) (fun x => (fN_stop x).toInt.toNat) iN_stops.toInt.toNat l1_x11.toInt.toNat l2_x21.toInt.toNat (0 : Int32).toInt.toNat fN_price_x21 from by rw [show (0 : Int32).toInt.toNat = 0 from by decide]; exact hPb) (show (0 : Int32).toInt ≤ iN_arcs.toInt from by have h7 : (0 : Int32).toInt = 0 := (by decide); omega) ((by have e9 : (0 : Int32).toInt = 0 := (by decide : (0 : Int32).toInt = 0); omega)) hP hD hS hl) ?_
          intro n9
          induction n9 with
          | zero => intro fN_price_x31 l3_x31 H locs ls b_l3_x31 hPi hla hf9; exact False.elim (by omega)
          | succ n9 ihx31 =>
            intro fN_price_x31 l3_x31 H locs ls b_l3_x31 hPi hla hfx31 hP hD hS hl
            refine lv_iload_n hx hb dX2_takePrices_31 rfl (lv_at hl 0 rfl) ?_
            refine lv_aload_n hx hb dX2_takePrices_32 rfl (lv_at hl 3 rfl) ?_
            refine va_get (D := (dC, dI)) (ci := 2) (v := .int iN_arcs) (C := RX2) (T := TX2) (N := 14) hx hb hts iwsMX2_takePrices_in2 hown hK hP 0 rfl rfl 0 (by decide) (hts (.fieldLink RX2 45 "OptimaWorks$NetDesk" "arcs" "I") (by decide +kernel)) (fun _ h9 => h9) rfl dX2_takePrices_33 ?_
            refine lv_icmp_ge (tgt := 106) hx hb dX2_takePrices_36 (by decide) (fun c_36 => ?_) (fun c_36 => ?_)
            · have t_36 : l3_x31.toInt ≥ iN_arcs.toInt := toI_ge c_36 rfl rfl
              refine lv_iinc (v := (iI (l2_x21.toInt + 1))) hx hb dX2_takePrices_106 hl (k := 1) rfl (iI_add2 (iI_of _) (by decide : (1 : Int32) = iI 1)) (by decide) rfl (fun ls (hl : lv_has ls _ ([(2, .int (iI (l2_x21.toInt + 1))), (3, .int l3_x31), (1, .int l1_x11), (0, .ref (hN 0))])) => ?_)
              refine lv_goto (tgt := 21) hx hb dX2_takePrices_109 (by decide) ?_
              have hl : lv_has _ _ ([(2, .int (iI (l2_x21.toInt + 1))), (1, .int l1_x11), (0, .ref (hN 0))]) := lv_sub hl [0, 2, 3] rfl
              exact ihx21 fN_price_x31 (iI (l2_x21.toInt + 1)) _ _ _ (iI_rng (Int.le_trans (by decide) (Int.add_le_add (b_l2_x21.1) (Int.le_refl _))) (by omega) (by decide) (by decide)) (show tuPrI (iN_arcs.toInt, fN_from, fN_to, fN_room, fN_cost) (fun x => (fN_stop x).toInt.toNat) iN_stops.toInt.toNat l1_x11.toInt.toNat (iI (l2_x21.toInt + 1)).toInt.toNat 0 fN_price_x31 from by rw [show (iI (l2_x21.toInt + 1)).toInt.toNat = l2_x21.toInt.toNat + 1 from by rw [iI_t (by omega) (by omega)]; omega]; exact tuPrI.nextb hPi (by dsimp only; omega) rfl) (by have e9 : ((iI (l2_x21.toInt + 1))).toInt = (l2_x21.toInt + 1) := (iI_t (Int.le_trans (by decide) (Int.add_le_add (b_l2_x21.1) (Int.le_refl _))) (Int.le_trans (Int.add_le_add (b_l2_x21.2) (Int.le_refl _)) (by decide))); omega) hP hD hS hl
            · have t_36 : ¬ l3_x31.toInt ≥ iN_arcs.toInt := toI_nge c_36 rfl rfl
              refine lv_aload_n hx hb dX2_takePrices_39 rfl (lv_at hl 3 rfl) ?_
              refine va_get (D := (dC, dI)) (ci := 2) (v := .ref (aN 0)) (C := RX2) (T := TX2) (N := 14) hx hb hts iwsMX2_takePrices_in2 hown hK hP 0 rfl rfl 1 (by decide) (hts (.fieldLink RX2 11 "OptimaWorks$NetDesk" "from" "[I") (by decide +kernel)) (fun _ h9 => h9) rfl dX2_takePrices_40 ?_
              refine lv_iload_n hx hb dX2_takePrices_43 rfl (lv_at hl 0 rfl) ?_
              refine va_iald (cA := kN 0) (n := 40) (f := fN_from) hx hb hK hP 1 0 rfl rfl (vp_in_iff.mpr ⟨b_l3_x31.1, (Int.lt_of_lt_of_le (Int.not_le.mp t_36) (Int.le_trans b_iN_arcs.2 (by decide)))⟩) dX2_takePrices_44 ?_
              refine lv_topi (fun v4732 hv4732 => ?_)
              have b_v4732 : 0 ≤ v4732.toInt ∧ v4732.toInt ≤ 11 := by rw [hv4732]; exact b_fN_from _
              have b1_v4732 : v4732 = fN_from (l3_x31).toNatClampNeg := hv4732
              clear hv4732
              refine lv_aload_n hx hb dX2_takePrices_45 rfl (lv_at hl 3 rfl) ?_
              refine va_get (D := (dC, dI)) (ci := 2) (v := .ref (aN 8)) (C := RX2) (T := TX2) (N := 14) hx hb hts iwsMX2_takePrices_in2 hown hK hP 0 rfl rfl 10 (by decide) (hts (.fieldLink RX2 36 "OptimaWorks$NetDesk" "stop" "[I") (by decide +kernel)) (fun _ h9 => h9) rfl dX2_takePrices_46 ?_
              refine lv_iload_n hx hb dX2_takePrices_49 rfl (lv_at hl 2 rfl) ?_
              refine va_iald (cA := kN 8) (n := 8) (f := fN_stop) hx hb hK hP 9 8 rfl rfl (vp_in_iff.mpr ⟨b_l1_x11.1, (by omega)⟩) dX2_takePrices_50 ?_
              refine lv_topi (fun v4733 hv4733 => ?_)
              have b_v4733 : 0 ≤ v4733.toInt ∧ v4733.toInt ≤ 11 := by rw [hv4733]; exact b_fN_stop _
              have b1_v4733 : v4733 = fN_stop (l1_x11).toNatClampNeg := hv4733
              clear hv4733
              refine W.cut (pc := 100) (fun H locs ls stk => ∃ (fN_price_j432 : Nat → Int32), (tuPrI (iN_arcs.toInt, fN_from, fN_to, fN_room, fN_cost) (fun x => (fN_stop x).toInt.toNat) iN_stops.toInt.toNat l1_x11.toInt.toNat l2_x21.toInt.toNat (l3_x31.toInt.toNat + 1) fN_price_j432) ∧  stk = [] ∧ va_P (dC, dI) vwCl (WN hN aN kN iN_arcs fN_from fN_to fN_room fN_cost iN_reached fN_free fN_before fN_flow fN_length fN_stop iN_stops fN_price_j432 fN_rest) H ∧ va_D A (WN hN aN kN iN_arcs fN_from fN_to fN_room fN_cost iN_reached fN_free fN_before fN_flow fN_length fN_stop iN_stops fN_price_j432 fN_rest) ∧ va_S A s.heap H locs ∧ lv_has ls 4 [(3, .int l3_x31), (2, .int l2_x21), (1, .int l1_x11), (0, .ref (hN 0))]) (fun join432 => ?_) ?_
              · refine lv_icmp_ne (tgt := 100) hx hb dX2_takePrices_51 (by decide) (fun c_51 => ?_) (fun c_51 => ?_)
                · have t_51 : v4732.toInt ≠ v4733.toInt := toI_ne c_51 rfl rfl
                  have hl : lv_has _ _ ([(3, .int l3_x31), (2, .int l2_x21), (1, .int l1_x11), (0, .ref (hN 0))]) := lv_sub hl [0, 1, 2, 3] rfl
                  exact join432 _ _ _ _ ⟨fN_price_x31, (show tuPrI (iN_arcs.toInt, fN_from, fN_to, fN_room, fN_cost) (fun x => (fN_stop x).toInt.toNat) iN_stops.toInt.toNat l1_x11.toInt.toNat l2_x21.toInt.toNat (l3_x31.toInt.toNat + 1) fN_price_x31 from by first | exact tuPrI.skip hPi (fun h9 => by have h8 : v4732.toInt.toNat = v4733.toInt.toNat := (by rw [b1_v4732, b1_v4733]; exact h9.1); omega) | exact tuPrI.skip hPi (fun h9 => by have h8 : v4734.toInt.toNat = v4735.toInt.toNat := (by rw [b1_v4734, b1_v4735]; exact h9.2); omega)), rfl, hP, hD, hS, hl⟩
                · have t_51 : v4732.toInt = v4733.toInt := toI_nne c_51 rfl rfl
                  refine lv_aload_n hx hb dX2_takePrices_54 rfl (lv_at hl 3 rfl) ?_
                  refine va_get (D := (dC, dI)) (ci := 2) (v := .ref (aN 1)) (C := RX2) (T := TX2) (N := 14) hx hb hts iwsMX2_takePrices_in2 hown hK hP 0 rfl rfl 2 (by decide) (hts (.fieldLink RX2 15 "OptimaWorks$NetDesk" "to" "[I") (by decide +kernel)) (fun _ h9 => h9) rfl dX2_takePrices_55 ?_
                  refine lv_iload_n hx hb dX2_takePrices_58 rfl (lv_at hl 0 rfl) ?_
                  refine va_iald (cA := kN 1) (n := 40) (f := fN_to) hx hb hK hP 2 1 rfl rfl (vp_in_iff.mpr ⟨b_l3_x31.1, (by omega)⟩) dX2_takePrices_59 ?_
                  refine lv_topi (fun v4744 hv4744 => ?_)
                  have b_v4744 : 0 ≤ v4744.toInt ∧ v4744.toInt ≤ 11 := by rw [hv4744]; exact b_fN_to _
                  have b1_v4744 : v4744 = fN_to (l3_x31).toNatClampNeg := hv4744
                  clear hv4744
                  refine lv_aload_n hx hb dX2_takePrices_60 rfl (lv_at hl 3 rfl) ?_
                  refine va_get (D := (dC, dI)) (ci := 2) (v := .ref (aN 8)) (C := RX2) (T := TX2) (N := 14) hx hb hts iwsMX2_takePrices_in2 hown hK hP 0 rfl rfl 10 (by decide) (hts (.fieldLink RX2 36 "OptimaWorks$NetDesk" "stop" "[I") (by decide +kernel)) (fun _ h9 => h9) rfl dX2_takePrices_61 ?_
                  refine lv_iload_n hx hb dX2_takePrices_64 rfl (lv_at hl 1 rfl) ?_
                  refine va_iald (cA := kN 8) (n := 8) (f := fN_stop) hx hb hK hP 9 8 rfl rfl (vp_in_iff.mpr ⟨b_l2_x21.1, (by omega)⟩) dX2_takePrices_65 ?_
                  refine lv_topi (fun v4745 hv4745 => ?_)
                  have b_v4745 : 0 ≤ v4745.toInt ∧ v4745.toInt ≤ 11 := by rw [hv4745]; exact b_fN_stop _
                  have b1_v4745 : v4745 = fN_stop (l2_x21).toNatClampNeg := hv4745
                  clear hv4745
                  refine lv_icmp_ne (tgt := 100) hx hb dX2_takePrices_66 (by decide) (fun c_66 => ?_) (fun c_66 => ?_)
                  · have t_66 : v4744.toInt ≠ v4745.toInt := toI_ne c_66 rfl rfl
                    have hl : lv_has _ _ ([(3, .int l3_x31), (2, .int l2_x21), (1, .int l1_x11), (0, .ref (hN 0))]) := lv_sub hl [0, 1, 2, 3] rfl
                    exact join432 _ _ _ _ ⟨fN_price_x31, (show tuPrI (iN_arcs.toInt, fN_from, fN_to, fN_room, fN_cost) (fun x => (fN_stop x).toInt.toNat) iN_stops.toInt.toNat l1_x11.toInt.toNat l2_x21.toInt.toNat (l3_x31.toInt.toNat + 1) fN_price_x31 from by first | exact tuPrI.skip hPi (fun h9 => by have h8 : v4732.toInt.toNat = v4733.toInt.toNat := (by rw [b1_v4732, b1_v4733]; exact h9.1); omega) | exact tuPrI.skip hPi (fun h9 => by have h8 : v4744.toInt.toNat = v4745.toInt.toNat := (by rw [b1_v4744, b1_v4745]; exact h9.2); omega)), rfl, hP, hD, hS, hl⟩
                  · have t_66 : v4744.toInt = v4745.toInt := toI_nne c_66 rfl rfl
                    refine lv_aload_n hx hb dX2_takePrices_69 rfl (lv_at hl 3 rfl) ?_
                    refine va_get (D := (dC, dI)) (ci := 2) (v := .ref (aN 9)) (C := RX2) (T := TX2) (N := 14) hx hb hts iwsMX2_takePrices_in2 hown hK hP 0 rfl rfl 12 (by decide) (hts (.fieldLink RX2 39 "OptimaWorks$NetDesk" "price" "[I") (by decide +kernel)) (fun _ h9 => h9) rfl dX2_takePrices_70 ?_
                    refine lv_iload_n hx hb dX2_takePrices_73 rfl (lv_at hl 2 rfl) ?_
                    refine lv_bipush (v := 8) hx hb dX2_takePrices_74 (by decide) ?_
                    refine lv_imul hx hb dX2_takePrices_76 ?_
                    refine lv_topi (fun y4746 hy4746 => ?_)
                    obtain rfl : (iI (l1_x11.toInt * 8)) = y4746 := (hy4746.trans (iI_mul2 (iI_of _) (by decide : (8 : Int32) = iI 8))).symm
                    refine lv_iload_n hx hb dX2_takePrices_77 rfl (lv_at hl 1 rfl) ?_
                    refine lv_iadd hx hb dX2_takePrices_78 ?_
                    refine lv_topi (fun y4747 hy4747 => ?_)
                    obtain rfl : (iI ((l1_x11.toInt * 8) + l2_x21.toInt)) = y4747 := (hy4747.trans (iI_add2 rfl (iI_of _))).symm
                    refine lv_aload_n hx hb dX2_takePrices_79 rfl (lv_at hl 3 rfl) ?_
                    refine va_get (D := (dC, dI)) (ci := 2) (v := .ref (aN 9)) (C := RX2) (T := TX2) (N := 14) hx hb hts iwsMX2_takePrices_in2 hown hK hP 0 rfl rfl 12 (by decide) (hts (.fieldLink RX2 39 "OptimaWorks$NetDesk" "price" "[I") (by decide +kernel)) (fun _ h9 => h9) rfl dX2_takePrices_80 ?_
                    refine lv_iload_n hx hb dX2_takePrices_83 rfl (lv_at hl 2 rfl) ?_
                    refine lv_bipush (v := 8) hx hb dX2_takePrices_84 (by decide) ?_
                    refine lv_imul hx hb dX2_takePrices_86 ?_
                    refine lv_topi (fun y4748 hy4748 => ?_)
                    obtain rfl : (iI (l1_x11.toInt * 8)) = y4748 := (hy4748.trans (iI_mul2 (iI_of _) (by decide : (8 : Int32) = iI 8))).symm
                    refine lv_iload_n hx hb dX2_takePrices_87 rfl (lv_at hl 1 rfl) ?_
                    refine lv_iadd hx hb dX2_takePrices_88 ?_
                    refine lv_topi (fun y4749 hy4749 => ?_)
                    obtain rfl : (iI ((l1_x11.toInt * 8) + l2_x21.toInt)) = y4749 := (hy4749.trans (iI_add2 rfl (iI_of _))).symm
                    refine va_iald (cA := kN 9) (n := 64) (f := fN_price_x31) hx hb hK hP 10 9 rfl rfl (vp_iI (Int.le_trans (by decide) (Int.add_le_add (Int.mul_le_mul_of_nonneg_right (b_l1_x11.1) (by decide)) (b_l2_x21.1))) (by omega) (by decide)) dX2_takePrices_89 ?_
                    refine lv_topi (fun v4750 hv4750 => ?_)
                    have b_v4750 : v4750.toInt ≤ v4750.toInt := by rw [hv4750]; exact Int.le_refl _
                    have b1_v4750 : v4750 = fN_price_x31 ((iI ((l1_x11.toInt * 8) + l2_x21.toInt))).toNatClampNeg := hv4750
                    clear hv4750
                    refine lv_aload_n hx hb dX2_takePrices_90 rfl (lv_at hl 3 rfl) ?_
                    refine va_get (D := (dC, dI)) (ci := 2) (v := .ref (aN 3)) (C := RX2) (T := TX2) (N := 14) hx hb hts iwsMX2_takePrices_in2 hown hK hP 0 rfl rfl 4 (by decide) (hts (.fieldLink RX2 21 "OptimaWorks$NetDesk" "cost" "[I") (by decide +kernel)) (fun _ h9 => h9) rfl dX2_takePrices_91 ?_
                    refine lv_iload_n hx hb dX2_takePrices_94 rfl (lv_at hl 0 rfl) ?_
                    refine va_iald (cA := kN 3) (n := 40) (f := fN_cost) hx hb hK hP 4 3 rfl rfl (vp_in_iff.mpr ⟨b_l3_x31.1, (by omega)⟩) dX2_takePrices_95 ?_
                    refine lv_topi (fun v4751 hv4751 => ?_)
                    have b_v4751 : v4751.toInt ≤ v4751.toInt := by rw [hv4751]; exact Int.le_refl _
                    have b1_v4751 : v4751 = fN_cost (l3_x31).toNatClampNeg := hv4751
                    clear hv4751
                    refine va_mmin hx hb (by rw [hml]; exact hl.1.symm) hown (hts (.methodLink RX2 61 Lib.Math.min.name) (by decide +kernel)) (hts (.static Lib.Math.min.name) (by decide +kernel)) (hts (.initialized "java/lang/Math") (by decide +kernel)) (hts (.code Lib.Math.min.name Lib.Math.min.code 2 (some .int)) (by decide +kernel)) (by decide +kernel) (Nat.le_of_ble_eq_true rfl) (by decide +kernel) (by decide +kernel) dX2_takePrices_96 ?_
                    refine lv_topi (fun v4752 hv4752 => ?_)
                    have b_v4752 : (v4752.toInt ≤ v4750.toInt ∧ v4752.toInt ≤ v4751.toInt) ∧ (v4752.toInt = v4750.toInt ∨ v4752.toInt = v4751.toInt) := by rw [hv4752]; exact min_t rfl rfl
                    clear hv4752
                    refine va_iast (cA := kN 9) (n := 64) (f := fN_price_x31) hx hb hK hP hD hS 10 9 rfl rfl (vp_iI (Int.le_trans (by decide) (Int.add_le_add (Int.mul_le_mul_of_nonneg_right (b_l1_x11.1) (by decide)) (b_l2_x21.1))) (by omega) (by decide)) dX2_takePrices_99 (fun H locs hP hD hS => ?_)
                    obtain ⟨u4753, hu4753⟩ : ∃ f9, f9 = upd fN_price_x31 ((iI ((l1_x11.toInt * 8) + l2_x21.toInt))).toNatClampNeg v4752 := ⟨_, rfl⟩
                    have hP : va_P (dC, dI) vwCl (WN hN aN kN iN_arcs fN_from fN_to fN_room fN_cost iN_reached fN_free fN_before fN_flow fN_length fN_stop iN_stops u4753 fN_rest) H := by rw [hu4753]; exact hP
                    have hD : va_D A (WN hN aN kN iN_arcs fN_from fN_to fN_room fN_cost iN_reached fN_free fN_before fN_flow fN_length fN_stop iN_stops u4753 fN_rest) := by rw [hu4753]; exact hD
                    have b_u4753 : u4753 = upd fN_price_x31 ((iI ((l1_x11.toInt * 8) + l2_x21.toInt))).toNatClampNeg v4752 := hu4753
                    clear hu4753
                    have hl : lv_has _ _ ([(3, .int l3_x31), (2, .int l2_x21), (1, .int l1_x11), (0, .ref (hN 0))]) := lv_sub hl [0, 1, 2, 3] rfl
                    exact join432 _ _ _ _ ⟨u4753, (show tuPrI (iN_arcs.toInt, fN_from, fN_to, fN_room, fN_cost) (fun x => (fN_stop x).toInt.toNat) iN_stops.toInt.toNat l1_x11.toInt.toNat l2_x21.toInt.toNat (l3_x31.toInt.toNat + 1) u4753 from tuPrI.put hPi (by omega) (by omega) (by omega) (by have h8 : v4732.toInt.toNat = v4733.toInt.toNat := (by rw [t_51]); rw [b1_v4732, b1_v4733] at h8; exact h8) (by have h8 : v4744.toInt.toNat = v4745.toInt.toNat := (by rw [t_66]); rw [b1_v4744, b1_v4745] at h8; exact h8) (by show (iI ((l1_x11.toInt * 8) + l2_x21.toInt)).toInt.toNat = _; rw [iI_t (by omega) (by omega)]; omega) b_u4753 (by rw [show tCo (iN_arcs.toInt, fN_from, fN_to, fN_room, fN_cost) l3_x31.toInt.toNat = v4751.toInt from (by rw [b1_v4751]; rfl), show (fN_price_x31 (((iI ((l1_x11.toInt * 8) + l2_x21.toInt)))).toNatClampNeg).toInt = v4750.toInt from (by rw [b1_v4750])]; split <;> omega)), rfl, hP, hD, hS, hl⟩
              · rintro H locs ls stk ⟨fN_price_j432, hPj, rfl, hP, hD, hS, hl⟩
                refine lv_iinc (v := (iI (l3_x31.toInt + 1))) hx hb dX2_takePrices_100 hl (k := 0) rfl (iI_add2 (iI_of _) (by decide : (1 : Int32) = iI 1)) (by decide) rfl (fun ls (hl : lv_has ls _ ([(3, .int (iI (l3_x31.toInt + 1))), (2, .int l2_x21), (1, .int l1_x11), (0, .ref (hN 0))])) => ?_)
                refine lv_goto (tgt := 31) hx hb dX2_takePrices_103 (by decide) ?_
                have hl : lv_has _ _ ([(3, .int (iI (l3_x31.toInt + 1))), (2, .int l2_x21), (1, .int l1_x11), (0, .ref (hN 0))]) := lv_sub hl [0, 1, 2, 3] rfl
                exact ihx31 fN_price_j432 (iI (l3_x31.toInt + 1)) _ _ _ (iI_rng (Int.le_trans (by decide) (Int.add_le_add (b_l3_x31.1) (Int.le_refl _))) (by omega) (by decide) (by decide)) (show tuPrI (iN_arcs.toInt, fN_from, fN_to, fN_room, fN_cost) (fun x => (fN_stop x).toInt.toNat) iN_stops.toInt.toNat l1_x11.toInt.toNat l2_x21.toInt.toNat (iI (l3_x31.toInt + 1)).toInt.toNat fN_price_j432 from by rw [show (iI (l3_x31.toInt + 1)).toInt.toNat = l3_x31.toInt.toNat + 1 from by rw [iI_t (by omega) (by omega)]; omega]; exact hPj) (show (iI (l3_x31.toInt + 1)).toInt ≤ iN_arcs.toInt from by rw [iI_t (by omega) (by omega)]; omega) (by have e9 : ((iI (l3_x31.toInt + 1))).toInt = (l3_x31.toInt + 1) := (iI_t (Int.le_trans (by decide) (Int.add_le_add (b_l3_x31.1) (Int.le_refl _))) (Int.le_trans (Int.add_le_add (b_l3_x31.2) (Int.le_refl _)) (by decide))); omega) hP hD hS hl
theorem dX2_costOver_0 : decode cX2_costOver 0 = .ok (.ldc 60, 2) := dk_18 (by decide +kernel)
theorem dX2_costOver_2 : decode cX2_costOver 2 = .ok (.aload_n 0, 1) := dk_42 (by decide +kernel)
theorem dX2_costOver_3 : decode cX2_costOver 3 = .ok (.getfield 39, 3) := dk_180 (by decide +kernel)
theorem dX2_costOver_6 : decode cX2_costOver 6 = .ok (.iload_n 2, 1) := dk_28 (by decide +kernel)
theorem dX2_costOver_7 : decode cX2_costOver 7 = .ok (.bipush 8, 2) := dk_16 (by decide +kernel)
theorem dX2_costOver_9 : decode cX2_costOver 9 = .ok (.imul, 1) := dk_104 (by decide +kernel)
theorem dX2_costOver_10 : decode cX2_costOver 10 = .ok (.iload_n 3, 1) := dk_29 (by decide +kernel)
theorem dX2_costOver_11 : decode cX2_costOver 11 = .ok (.iadd, 1) := dk_96 (by decide +kernel)
theorem dX2_costOver_12 : decode cX2_costOver 12 = .ok (.iaload, 1) := dk_46 (by decide +kernel)
theorem dX2_costOver_13 : decode cX2_costOver 13 = .ok (.aload_n 0, 1) := dk_42 (by decide +kernel)
theorem dX2_costOver_14 : decode cX2_costOver 14 = .ok (.getfield 42, 3) := dk_180 (by decide +kernel)
theorem dX2_costOver_17 : decode cX2_costOver 17 = .ok (.iload_n 1, 1) := dk_27 (by decide +kernel)
theorem dX2_costOver_18 : decode cX2_costOver 18 = .ok (.iconst 1, 1) := dk_4 (by decide +kernel)
theorem dX2_costOver_19 : decode cX2_costOver 19 = .ok (.iload_n 3, 1) := dk_29 (by decide +kernel)
theorem dX2_costOver_20 : decode cX2_costOver 20 = .ok (.iconst 1, 1) := dk_4 (by decide +kernel)
theorem dX2_costOver_21 : decode cX2_costOver 21 = .ok (.isub, 1) := dk_100 (by decide +kernel)
theorem dX2_costOver_22 : decode cX2_costOver 22 = .ok (.ishl, 1) := dk_120 (by decide +kernel)
theorem dX2_costOver_23 : decode cX2_costOver 23 = .ok (.iconst (-1), 1) := dk_2 (by decide +kernel)
theorem dX2_costOver_24 : decode cX2_costOver 24 = .ok (.ixor, 1) := dk_130 (by decide +kernel)
theorem dX2_costOver_25 : decode cX2_costOver 25 = .ok (.iand, 1) := dk_126 (by decide +kernel)
theorem dX2_costOver_26 : decode cX2_costOver 26 = .ok (.bipush 8, 2) := dk_16 (by decide +kernel)
theorem dX2_costOver_28 : decode cX2_costOver 28 = .ok (.imul, 1) := dk_104 (by decide +kernel)
theorem dX2_costOver_29 : decode cX2_costOver 29 = .ok (.iload_n 3, 1) := dk_29 (by decide +kernel)
theorem dX2_costOver_30 : decode cX2_costOver 30 = .ok (.iadd, 1) := dk_96 (by decide +kernel)
theorem dX2_costOver_31 : decode cX2_costOver 31 = .ok (.iaload, 1) := dk_46 (by decide +kernel)
theorem dX2_costOver_32 : decode cX2_costOver 32 = .ok (.iadd, 1) := dk_96 (by decide +kernel)
theorem dX2_costOver_33 : decode cX2_costOver 33 = .ok (.invokestatic 61, 3) := dk_184 (by decide +kernel)
theorem dX2_costOver_36 : decode cX2_costOver 36 = .ok (.ireturn, 1) := dk_172 (by decide +kernel)
def wsMX2_costOver : List Cond := .code yX2_costOver cX2_costOver 4 (some .int) :: ([.constant RX2 60 536870912, .fieldLink RX2 39 "OptimaWorks$NetDesk" "price" "[I", .fieldLink RX2 42 "OptimaWorks$NetDesk" "rest" "[I", .methodLink RX2 61 Lib.Math.min.name, .static Lib.Math.min.name, .initialized "java/lang/Math", .code Lib.Math.min.name Lib.Math.min.code 2 (some .int)] ++ wsX20)
theorem iwsMX2_costOver_in2 : ∀ w ∈ wsX20, w ∈ wsMX2_costOver := fun _ h => List.mem_cons_of_mem _ (List.mem_append_right _ h)
theorem gdwsMX2_costOver : wsMX2_costOver.all goodWord = true := gdC rfl (gdA (by decide +kernel : ([.constant RX2 60 536870912, .fieldLink RX2 39 "OptimaWorks$NetDesk" "price" "[I", .fieldLink RX2 42 "OptimaWorks$NetDesk" "rest" "[I", .methodLink RX2 61 Lib.Math.min.name, .static Lib.Math.min.name, .initialized "java/lang/Math", .code Lib.Math.min.name Lib.Math.min.code 2 (some .int)] : List Cond).all goodWord = true) gdwsX20)
set_option maxHeartbeats 4000000 in
set_option maxRecDepth 100000 in
/-- the cost over a stop -/
theorem m_X2_costOver (l : Launch) (dC : Nat → ClassId) (dI : Nat → Nat → Nat) (hN : Nat → Nat) (aN : Nat → Nat) (kN : Nat → ClassId) (iN_arcs : Int32) (fN_from : Nat → Int32) (fN_to : Nat → Int32) (fN_room : Nat → Int32) (fN_cost : Nat → Int32) (iN_reached : Int32) (fN_free : Nat → Int32) (fN_before : Nat → Int32) (fN_flow : Nat → Int32) (fN_length : Nat → Int32) (fN_stop : Nat → Int32) (iN_stops : Int32) (fN_price : Nat → Int32) (fN_rest : Nat → Int32) (p1 : Int32) (p2 : Int32) (p3 : Int32) (b_iN_arcs : 0 ≤ iN_arcs.toInt ∧ iN_arcs.toInt ≤ 40) (b_fN_from : ∀ q : Nat, 0 ≤ (fN_from q).toInt ∧ (fN_from q).toInt ≤ 11) (b_fN_to : ∀ q : Nat, 0 ≤ (fN_to q).toInt ∧ (fN_to q).toInt ≤ 11) (b_fN_before : ∀ q : Nat, 0 ≤ (fN_before q).toInt ∧ (fN_before q).toInt ≤ 79) (b_fN_stop : ∀ q : Nat, 0 ≤ (fN_stop q).toInt ∧ (fN_stop q).toInt ≤ 11) (b_iN_stops : 0 ≤ iN_stops.toInt ∧ iN_stops.toInt ≤ 8) (b_p1 : 0 ≤ p1.toInt ∧ p1.toInt ≤ 127) (b_p2 : 0 ≤ p2.toInt ∧ p2.toInt ≤ 7) (b_p3 : 1 ≤ p3.toInt ∧ p3.toInt ≤ 7) (hb1 : p1.toInt.toNat.testBit (p3.toInt.toNat - 1) = true) (hpb : 0 ≤ tuTab fN_price p2.toInt.toNat p3.toInt.toNat ∧ tuTab fN_price p2.toInt.toNat p3.toInt.toNat ≤ 536870912) (hrb : 0 ≤ tuTab fN_rest (p1.toInt.toNat - 2 ^ (p3.toInt.toNat - 1)) p3.toInt.toNat ∧ tuTab fN_rest (p1.toInt.toNat - 2 ^ (p3.toInt.toNat - 1)) p3.toInt.toNat ≤ 536870912) (sz : Nat) : Met l yX2_costOver wsMX2_costOver ({ frames := 1, cells := 0, slots := 0, locals := 13 }) (va_Pc [.ref (hN 0), .int p1, .int p2, .int p3] (fun U => U.heap.size = sz ∧ va_P (dC, dI) vwCl (WN hN aN kN iN_arcs fN_from fN_to fN_room fN_cost iN_reached fN_free fN_before fN_flow fN_length fN_stop iN_stops fN_price fN_rest) U.heap ∧ va_K (dC, dI) vwCl (tN kN) U ∧ va_D (fun _ => True) (WN hN aN kN iN_arcs fN_from fN_to fN_room fN_cost iN_reached fN_free fN_before fN_flow fN_length fN_stop iN_stops fN_price fN_rest))) (va_Qi (fun (r : Int32) (u : Unit) => (r.toInt = tuG (tuTab fN_price) (tuTab fN_rest) p1.toInt.toNat p2.toInt.toNat p3.toInt.toNat)) (fun (u : Unit) t => va_P (dC, dI) vwCl (WN hN aN kN iN_arcs fN_from fN_to fN_room fN_cost iN_reached fN_free fN_before fN_flow fN_length fN_stop iN_stops fN_price fN_rest) t.heap ∧ va_D (va_A (WN hN aN kN iN_arcs fN_from fN_to fN_room fN_cost iN_reached fN_free fN_before fN_flow fN_length fN_stop iN_stops fN_price fN_rest) sz) (WN hN aN kN iN_arcs fN_from fN_to fN_room fN_cost iN_reached fN_free fN_before fN_flow fN_length fN_stop iN_stops fN_price fN_rest)) (va_A (WN hN aN kN iN_arcs fN_from fN_to fN_room fN_cost iN_reached fN_free fN_before fN_flow fN_length fN_stop iN_stops fN_price fN_rest) sz)) 0 0 (va_A (WN hN aN kN iN_arcs fN_from fN_to fN_room fN_cost iN_reached fN_free fN_before fN_flow fN_length fN_stop iN_stops fN_price fN_rest) sz) := by
  refine Met.ofW (cc := cX2_costOver) (maxL := 4) (ret := (some .int)) (by decide) rfl ?_
  intro p e s m args below meth c s₁ B hml hv
  obtain ⟨rfl, hsz, hP, hK, hD0⟩ := hv
  have hx := B.exec
  have hb := B.bytes
  have hr := B.returns
  have hts := atoms_spec (ws := wsMX2_costOver) B.pre
  have hown : s.vm.findClass RX2 = some m.cls := findClass_of_methodNamed B.named
  have hlocks := B.notSynchronized
  subst hsz
  have hD := hD0.self (sz := s.heap.size)
  generalize hAe : va_A (WN hN aN kN iN_arcs fN_from fN_to fN_room fN_cost iN_reached fN_free fN_before fN_flow fN_length fN_stop iN_stops fN_price fN_rest) s.heap.size = A at hD ⊢
  have hA : ∀ q : Nat, s.heap.size ≤ q → A q := fun q h => by rw [← hAe]; exact Or.inr h
  have hS : va_S A s.heap s.heap [] := va_S.rf
  have hl := lv_entry ([.ref (hN 0), .int p1, .int p2, .int p3]) (n := 4) (Nat.le_of_ble_eq_true rfl)
  rw [lg_entry_eq]
  generalize (lg_sl ([.ref (hN 0), .int p1, .int p2, .int p3]) ++ List.replicate (4 - (lg_sl ([.ref (hN 0), .int p1, .int p2, .int p3])).length) Slot.unset).toArray = ls at hl ⊢
  have hl : lv_has ls 4 [(0, .ref (hN 0)), (1, .int p1), (2, .int p2), (3, .int p3)] := hl
  refine lv_ldc (v := 536870912) hx hb hown (hts (.constant RX2 60 536870912) (by decide +kernel)) dX2_costOver_0 ?_
  refine lv_aload_n hx hb dX2_costOver_2 rfl (lv_at hl 0 rfl) ?_
  refine va_get (D := (dC, dI)) (ci := 2) (v := .ref (aN 9)) (C := RX2) (T := TX2) (N := 14) hx hb hts iwsMX2_costOver_in2 hown hK hP 0 rfl rfl 12 (by decide) (hts (.fieldLink RX2 39 "OptimaWorks$NetDesk" "price" "[I") (by decide +kernel)) (fun _ h9 => h9) rfl dX2_costOver_3 ?_
  refine lv_iload_n hx hb dX2_costOver_6 rfl (lv_at hl 2 rfl) ?_
  refine lv_bipush (v := 8) hx hb dX2_costOver_7 (by decide) ?_
  refine lv_imul hx hb dX2_costOver_9 ?_
  refine lv_topi (fun y1 hy1 => ?_)
  obtain rfl : (iI (p2.toInt * 8)) = y1 := (hy1.trans (iI_mul2 (iI_of _) (by decide : (8 : Int32) = iI 8))).symm
  refine lv_iload_n hx hb dX2_costOver_10 rfl (lv_at hl 3 rfl) ?_
  refine lv_iadd hx hb dX2_costOver_11 ?_
  refine lv_topi (fun y2 hy2 => ?_)
  obtain rfl : (iI ((p2.toInt * 8) + p3.toInt)) = y2 := (hy2.trans (iI_add2 rfl (iI_of _))).symm
  refine va_iald (cA := kN 9) (n := 64) (f := fN_price) hx hb hK hP 10 9 rfl rfl (vp_iI (Int.le_trans (by decide) (Int.add_le_add (Int.mul_le_mul_of_nonneg_right (b_p2.1) (by decide)) (b_p3.1))) (Int.lt_of_le_of_lt (Int.add_le_add (Int.mul_le_mul_of_nonneg_right (b_p2.2) (by decide)) (b_p3.2)) (by decide)) (by decide)) dX2_costOver_12 ?_
  refine lv_topi (fun v3 hv3 => ?_)
  have b_v3 : v3.toInt ≤ v3.toInt := by rw [hv3]; exact Int.le_refl _
  have b1_v3 : v3 = fN_price ((iI ((p2.toInt * 8) + p3.toInt))).toNatClampNeg := hv3
  clear hv3
  have eP9 : v3.toInt = tuTab fN_price p2.toInt.toNat p3.toInt.toNat := (by rw [b1_v3]; show (fN_price (iI (p2.toInt * 8 + p3.toInt)).toInt.toNat).toInt = (fN_price _).toInt; rw [iI_t (by omega) (by omega), show 8 * p2.toInt.toNat + p3.toInt.toNat = (p2.toInt * 8 + p3.toInt).toNat from by omega])
  refine lv_aload_n hx hb dX2_costOver_13 rfl (lv_at hl 0 rfl) ?_
  refine va_get (D := (dC, dI)) (ci := 2) (v := .ref (aN 10)) (C := RX2) (T := TX2) (N := 14) hx hb hts iwsMX2_costOver_in2 hown hK hP 0 rfl rfl 13 (by decide) (hts (.fieldLink RX2 42 "OptimaWorks$NetDesk" "rest" "[I") (by decide +kernel)) (fun _ h9 => h9) rfl dX2_costOver_14 ?_
  refine lv_iload_n hx hb dX2_costOver_17 rfl (lv_at hl 1 rfl) ?_
  refine lv_iconst (v := 1) hx hb dX2_costOver_18 (by decide) ?_
  refine lv_iload_n hx hb dX2_costOver_19 rfl (lv_at hl 3 rfl) ?_
  refine lv_iconst (v := 1) hx hb dX2_costOver_20 (by decide) ?_
  refine lv_isub hx hb dX2_costOver_21 ?_
  refine lv_topi (fun y4 hy4 => ?_)
  obtain rfl : (iI (p3.toInt - 1)) = y4 := (hy4.trans (iI_sub2 (iI_of _) (by decide : (1 : Int32) = iI 1))).symm
  refine lv_ishl hx hb dX2_costOver_22 ?_
  refine lv_topi (fun v5 hv5 => ?_)
  have b_v5 : v5 = (1 : Int32) <<< ((iI (p3.toInt - 1)) &&& 31) := hv5
  clear hv5
  refine lv_iconst (v := (-1)) hx hb dX2_costOver_23 (by decide) ?_
  refine lv_ixor hx hb dX2_costOver_24 ?_
  refine lv_topi (fun v6 hv6 => ?_)
  have b_v6 : v6 = v5 ^^^ (-1) := hv6
  clear hv6
  refine lv_iand hx hb dX2_costOver_25 ?_
  refine lv_topi (fun v7 hv7 => ?_)
  have b_v7 : 0 ≤ v7.toInt ∧ v7.toInt ≤ p1.toInt := by rw [hv7]; exact and_posL rfl (by omega)
  have b1_v7 : v7.toInt = ((p1.toInt.toNat - 2 ^ (p3.toInt.toNat - 1) : Nat) : Int) := by rw [hv7]; exact tuAndT b_v5 b_v6 (by omega) (by omega) (by rw [iI_t (by omega) (by omega)]; omega) (by omega) (hb1)
  clear hv7
  refine lv_bipush (v := 8) hx hb dX2_costOver_26 (by decide) ?_
  refine lv_imul hx hb dX2_costOver_28 ?_
  refine lv_topi (fun y8 hy8 => ?_)
  obtain rfl : (iI (v7.toInt * 8)) = y8 := (hy8.trans (iI_mul2 (iI_of _) (by decide : (8 : Int32) = iI 8))).symm
  refine lv_iload_n hx hb dX2_costOver_29 rfl (lv_at hl 3 rfl) ?_
  refine lv_iadd hx hb dX2_costOver_30 ?_
  refine lv_topi (fun y9 hy9 => ?_)
  obtain rfl : (iI ((v7.toInt * 8) + p3.toInt)) = y9 := (hy9.trans (iI_add2 rfl (iI_of _))).symm
  refine va_iald (cA := kN 10) (n := 1024) (f := fN_rest) hx hb hK hP 11 10 rfl rfl (vp_iI (by omega) (by omega) (by decide)) dX2_costOver_31 ?_
  refine lv_topi (fun v10 hv10 => ?_)
  have b_v10 : v10.toInt ≤ v10.toInt := by rw [hv10]; exact Int.le_refl _
  have b1_v10 : v10 = fN_rest ((iI ((v7.toInt * 8) + p3.toInt))).toNatClampNeg := hv10
  clear hv10
  have eR9 : v10.toInt = tuTab fN_rest (p1.toInt.toNat - 2 ^ (p3.toInt.toNat - 1)) p3.toInt.toNat := (by rw [b1_v10]; show (fN_rest (iI (v7.toInt * 8 + p3.toInt)).toInt.toNat).toInt = (fN_rest _).toInt; rw [iI_t (by omega) (by omega), show 8 * (p1.toInt.toNat - 2 ^ (p3.toInt.toNat - 1)) + p3.toInt.toNat = (v7.toInt * 8 + p3.toInt).toNat from by omega])
  rw [← eP9] at hpb
  rw [← eR9] at hrb
  refine lv_iadd hx hb dX2_costOver_32 ?_
  refine lv_topi (fun y11 hy11 => ?_)
  obtain rfl : (iI (v3.toInt + v10.toInt)) = y11 := (hy11.trans (iI_add2 (iI_of _) (iI_of _))).symm
  refine va_mmin hx hb (by rw [hml]; exact hl.1.symm) hown (hts (.methodLink RX2 61 Lib.Math.min.name) (by decide +kernel)) (hts (.static Lib.Math.min.name) (by decide +kernel)) (hts (.initialized "java/lang/Math") (by decide +kernel)) (hts (.code Lib.Math.min.name Lib.Math.min.code 2 (some .int)) (by decide +kernel)) (by decide +kernel) (Nat.le_of_ble_eq_true rfl) (by decide +kernel) (by decide +kernel) dX2_costOver_33 ?_
  refine lv_topi (fun v12 hv12 => ?_)
  first | (have b_v12 : (v12.toInt ≤ 536870912 ∧ v12.toInt ≤ (v3.toInt + v10.toInt)) ∧ (v12.toInt = 536870912 ∨ v12.toInt = (v3.toInt + v10.toInt)) := by rw [hv12]; exact min_t (by decide : (536870912 : Int32).toInt = 536870912) (iI_t (by omega) (by omega))) | skip
  clear hv12
  refine W.widen (k := 0) (n := 0) (by decide +kernel) (by decide +kernel) ?_
  exact W.iret (v := v12) hx hb hr (fun t9_ ht hW => ⟨⟨v12, (), rfl, (by (try dsimp only); show _ = tuMin 536870912 (tuTab fN_price p2.toInt.toNat p3.toInt.toNat + tuTab fN_rest (p1.toInt.toNat - 2 ^ (p3.toInt.toNat - 1)) p3.toInt.toNat); rw [← eP9, ← eR9]; unfold tuMin; have h9 := b_v12; split <;> omega), by rw [ht]; exact hP, hD⟩, hS.F ht⟩) hS.2.2 dX2_costOver_36
theorem dX2_restFrom_0 : decode cX2_restFrom 0 = .ok (.iload_n 1, 1) := dk_27 (by decide +kernel)
theorem dX2_restFrom_1 : decode cX2_restFrom 1 = .ok (.ifCond .ne 13, 3) := dk_154 (by decide +kernel)
theorem dX2_restFrom_4 : decode cX2_restFrom 4 = .ok (.aload_n 0, 1) := dk_42 (by decide +kernel)
theorem dX2_restFrom_5 : decode cX2_restFrom 5 = .ok (.getfield 39, 3) := dk_180 (by decide +kernel)
theorem dX2_restFrom_8 : decode cX2_restFrom 8 = .ok (.iload_n 2, 1) := dk_28 (by decide +kernel)
theorem dX2_restFrom_9 : decode cX2_restFrom 9 = .ok (.bipush 8, 2) := dk_16 (by decide +kernel)
theorem dX2_restFrom_11 : decode cX2_restFrom 11 = .ok (.imul, 1) := dk_104 (by decide +kernel)
theorem dX2_restFrom_12 : decode cX2_restFrom 12 = .ok (.iaload, 1) := dk_46 (by decide +kernel)
theorem dX2_restFrom_13 : decode cX2_restFrom 13 = .ok (.ireturn, 1) := dk_172 (by decide +kernel)
theorem dX2_restFrom_14 : decode cX2_restFrom 14 = .ok (.ldc 60, 2) := dk_18 (by decide +kernel)
theorem dX2_restFrom_16 : decode cX2_restFrom 16 = .ok (.istore_n 3, 1) := dk_62 (by decide +kernel)
theorem dX2_restFrom_17 : decode cX2_restFrom 17 = .ok (.iconst 1, 1) := dk_4 (by decide +kernel)
theorem dX2_restFrom_18 : decode cX2_restFrom 18 = .ok (.istore 4, 2) := dk_54 (by decide +kernel)
theorem dX2_restFrom_20 : decode cX2_restFrom 20 = .ok (.iload 4, 2) := dk_21 (by decide +kernel)
theorem dX2_restFrom_22 : decode cX2_restFrom 22 = .ok (.aload_n 0, 1) := dk_42 (by decide +kernel)
theorem dX2_restFrom_23 : decode cX2_restFrom 23 = .ok (.getfield 98, 3) := dk_180 (by decide +kernel)
theorem dX2_restFrom_26 : decode cX2_restFrom 26 = .ok (.if_icmp .ge 33, 3) := dk_162 (by decide +kernel)
theorem dX2_restFrom_29 : decode cX2_restFrom 29 = .ok (.iload_n 1, 1) := dk_27 (by decide +kernel)
theorem dX2_restFrom_30 : decode cX2_restFrom 30 = .ok (.iload 4, 2) := dk_21 (by decide +kernel)
theorem dX2_restFrom_32 : decode cX2_restFrom 32 = .ok (.iconst 1, 1) := dk_4 (by decide +kernel)
theorem dX2_restFrom_33 : decode cX2_restFrom 33 = .ok (.isub, 1) := dk_100 (by decide +kernel)
theorem dX2_restFrom_34 : decode cX2_restFrom 34 = .ok (.ishr, 1) := dk_122 (by decide +kernel)
theorem dX2_restFrom_35 : decode cX2_restFrom 35 = .ok (.iconst 1, 1) := dk_4 (by decide +kernel)
theorem dX2_restFrom_36 : decode cX2_restFrom 36 = .ok (.iand, 1) := dk_126 (by decide +kernel)
theorem dX2_restFrom_37 : decode cX2_restFrom 37 = .ok (.ifCond .eq 16, 3) := dk_153 (by decide +kernel)
theorem dX2_restFrom_40 : decode cX2_restFrom 40 = .ok (.iload_n 3, 1) := dk_29 (by decide +kernel)
theorem dX2_restFrom_41 : decode cX2_restFrom 41 = .ok (.aload_n 0, 1) := dk_42 (by decide +kernel)
theorem dX2_restFrom_42 : decode cX2_restFrom 42 = .ok (.iload_n 1, 1) := dk_27 (by decide +kernel)
theorem dX2_restFrom_43 : decode cX2_restFrom 43 = .ok (.iload_n 2, 1) := dk_28 (by decide +kernel)
theorem dX2_restFrom_44 : decode cX2_restFrom 44 = .ok (.iload 4, 2) := dk_21 (by decide +kernel)
theorem dX2_restFrom_46 : decode cX2_restFrom 46 = .ok (.invokevirtual 107, 3) := dk_182 (by decide +kernel)
theorem dX2_restFrom_49 : decode cX2_restFrom 49 = .ok (.invokestatic 61, 3) := dk_184 (by decide +kernel)
theorem dX2_restFrom_52 : decode cX2_restFrom 52 = .ok (.istore_n 3, 1) := dk_62 (by decide +kernel)
theorem dX2_restFrom_53 : decode cX2_restFrom 53 = .ok (.iinc 4 1, 3) := dk_132 (by decide +kernel)
theorem dX2_restFrom_56 : decode cX2_restFrom 56 = .ok (.goto (-36), 3) := dk_167 (by decide +kernel)
theorem dX2_restFrom_59 : decode cX2_restFrom 59 = .ok (.iload_n 3, 1) := dk_29 (by decide +kernel)
theorem dX2_restFrom_60 : decode cX2_restFrom 60 = .ok (.ireturn, 1) := dk_172 (by decide +kernel)
def wsMX2_restFrom : List Cond := .code yX2_restFrom cX2_restFrom 5 (some .int) :: ([.constant RX2 60 536870912, .fieldLink RX2 98 "OptimaWorks$NetDesk" "stops" "I", .methodLink RX2 61 Lib.Math.min.name, .static Lib.Math.min.name, .initialized "java/lang/Math", .code Lib.Math.min.name Lib.Math.min.code 2 (some .int), .fieldLink RX2 39 "OptimaWorks$NetDesk" "price" "[I"] ++ wsX20 ++ (wsV RX2 107 RX2 yX2_costOver wsMX2_costOver))
theorem iwsMX2_restFrom_in2 : ∀ w ∈ wsX20, w ∈ wsMX2_restFrom := fun _ h => List.mem_cons_of_mem _ (List.mem_append_left _ (List.mem_append_right _ h))
theorem gwsMX2_restFrom_0 : GoodIn wsMX2_restFrom (wsV RX2 107 RX2 yX2_costOver wsMX2_costOver) := goodIn_sub (fun _ h => List.mem_cons_of_mem _ (List.mem_append_right _ h)) (gdV (by decide +kernel) gdwsMX2_costOver)
theorem gdwsMX2_restFrom : wsMX2_restFrom.all goodWord = true := gdC rfl (gdA (gdA (by decide +kernel : ([.constant RX2 60 536870912, .fieldLink RX2 98 "OptimaWorks$NetDesk" "stops" "I", .methodLink RX2 61 Lib.Math.min.name, .static Lib.Math.min.name, .initialized "java/lang/Math", .code Lib.Math.min.name Lib.Math.min.code 2 (some .int), .fieldLink RX2 39 "OptimaWorks$NetDesk" "price" "[I"] : List Cond).all goodWord = true) gdwsX20) (gdV (by decide +kernel) gdwsMX2_costOver))
set_option maxHeartbeats 4000000 in
set_option maxRecDepth 100000 in
/-- the least cost of the rest -/
theorem m_X2_restFrom (l : Launch) (dC : Nat → ClassId) (dI : Nat → Nat → Nat) (hN : Nat → Nat) (aN : Nat → Nat) (kN : Nat → ClassId) (iN_arcs : Int32) (fN_from : Nat → Int32) (fN_to : Nat → Int32) (fN_room : Nat → Int32) (fN_cost : Nat → Int32) (iN_reached : Int32) (fN_free : Nat → Int32) (fN_before : Nat → Int32) (fN_flow : Nat → Int32) (fN_length : Nat → Int32) (fN_stop : Nat → Int32) (iN_stops : Int32) (fN_price : Nat → Int32) (fN_rest : Nat → Int32) (p1 : Int32) (p2 : Int32) (b_iN_arcs : 0 ≤ iN_arcs.toInt ∧ iN_arcs.toInt ≤ 40) (b_fN_from : ∀ q : Nat, 0 ≤ (fN_from q).toInt ∧ (fN_from q).toInt ≤ 11) (b_fN_to : ∀ q : Nat, 0 ≤ (fN_to q).toInt ∧ (fN_to q).toInt ≤ 11) (b_fN_before : ∀ q : Nat, 0 ≤ (fN_before q).toInt ∧ (fN_before q).toInt ≤ 79) (b_fN_stop : ∀ q : Nat, 0 ≤ (fN_stop q).toInt ∧ (fN_stop q).toInt ≤ 11) (b_iN_stops : 0 ≤ iN_stops.toInt ∧ iN_stops.toInt ≤ 8) (b_p1 : 0 ≤ p1.toInt ∧ p1.toInt ≤ 127) (b_p2 : 0 ≤ p2.toInt ∧ p2.toInt ≤ 7) (hs1 : 1 ≤ iN_stops.toInt) (hat : p2.toInt < iN_stops.toInt) (hPb : ∀ x y, x < iN_stops.toInt.toNat → y < iN_stops.toInt.toNat → 0 ≤ tuTab fN_price x y ∧ tuTab fN_price x y ≤ 536870912) (hRb : ∀ y b, y < p1.toInt.toNat → b < iN_stops.toInt.toNat → 0 ≤ tuTab fN_rest y b ∧ tuTab fN_rest y b ≤ 536870912) (sz : Nat) : Met l yX2_restFrom wsMX2_restFrom ({ frames := 2, cells := 0, slots := 0, locals := 36 }) (va_Pc [.ref (hN 0), .int p1, .int p2] (fun U => U.heap.size = sz ∧ va_P (dC, dI) vwCl (WN hN aN kN iN_arcs fN_from fN_to fN_room fN_cost iN_reached fN_free fN_before fN_flow fN_length fN_stop iN_stops fN_price fN_rest) U.heap ∧ va_K (dC, dI) vwCl (tN kN) U ∧ va_D (fun _ => True) (WN hN aN kN iN_arcs fN_from fN_to fN_room fN_cost iN_reached fN_free fN_before fN_flow fN_length fN_stop iN_stops fN_price fN_rest))) (va_Qi (fun (r : Int32) (u : Unit) => (tuV1 (tuTab fN_price) iN_stops.toInt.toNat (tuTab fN_rest) p1.toInt.toNat p2.toInt.toNat r.toInt ∧ 0 ≤ r.toInt ∧ r.toInt ≤ 536870912)) (fun (u : Unit) t => va_P (dC, dI) vwCl (WN hN aN kN iN_arcs fN_from fN_to fN_room fN_cost iN_reached fN_free fN_before fN_flow fN_length fN_stop iN_stops fN_price fN_rest) t.heap ∧ va_D (va_A (WN hN aN kN iN_arcs fN_from fN_to fN_room fN_cost iN_reached fN_free fN_before fN_flow fN_length fN_stop iN_stops fN_price fN_rest) sz) (WN hN aN kN iN_arcs fN_from fN_to fN_room fN_cost iN_reached fN_free fN_before fN_flow fN_length fN_stop iN_stops fN_price fN_rest)) (va_A (WN hN aN kN iN_arcs fN_from fN_to fN_room fN_cost iN_reached fN_free fN_before fN_flow fN_length fN_stop iN_stops fN_price fN_rest) sz)) 0 0 (va_A (WN hN aN kN iN_arcs fN_from fN_to fN_room fN_cost iN_reached fN_free fN_before fN_flow fN_length fN_stop iN_stops fN_price fN_rest) sz) := by
  refine Met.ofW (cc := cX2_restFrom) (maxL := 5) (ret := (some .int)) (by decide) rfl ?_
  intro p e s m args below meth c s₁ B hml hv
  obtain ⟨rfl, hsz, hP, hK, hD0⟩ := hv
  have hx := B.exec
  have hb := B.bytes
  have hr := B.returns
  have hts := atoms_spec (ws := wsMX2_restFrom) B.pre
  have hown : s.vm.findClass RX2 = some m.cls := findClass_of_methodNamed B.named
  have hlocks := B.notSynchronized
  subst hsz
  have hD := hD0.self (sz := s.heap.size)
  generalize hAe : va_A (WN hN aN kN iN_arcs fN_from fN_to fN_room fN_cost iN_reached fN_free fN_before fN_flow fN_length fN_stop iN_stops fN_price fN_rest) s.heap.size = A at hD ⊢
  have hA : ∀ q : Nat, s.heap.size ≤ q → A q := fun q h => by rw [← hAe]; exact Or.inr h
  have hS : va_S A s.heap s.heap [] := va_S.rf
  have hl := lv_entry ([.ref (hN 0), .int p1, .int p2]) (n := 5) (Nat.le_of_ble_eq_true rfl)
  rw [lg_entry_eq]
  generalize (lg_sl ([.ref (hN 0), .int p1, .int p2]) ++ List.replicate (5 - (lg_sl ([.ref (hN 0), .int p1, .int p2])).length) Slot.unset).toArray = ls at hl ⊢
  have hl : lv_has ls 5 [(0, .ref (hN 0)), (1, .int p1), (2, .int p2)] := hl
  refine lv_iload_n hx hb dX2_restFrom_0 rfl (lv_at hl 1 rfl) ?_
  refine lv_if_ne (tgt := 14) hx hb dX2_restFrom_1 (by decide) (fun c_1 => ?_) (fun c_1 => ?_)
  · have t_1 : p1.toInt ≠ 0 := toI_ne c_1 rfl (by decide : (0 : Int32).toInt = 0)
    refine lv_ldc (v := 536870912) hx hb hown (hts (.constant RX2 60 536870912) (by decide +kernel)) dX2_restFrom_14 ?_
    refine lv_istore_n hx hb dX2_restFrom_16 rfl hl (by decide) rfl (fun ls (hl : lv_has ls _ ([(3, .int 536870912), (0, .ref (hN 0)), (1, .int p1), (2, .int p2)])) => ?_)
    refine lv_iconst (v := 1) hx hb dX2_restFrom_17 (by decide) ?_
    refine lv_istore hx hb dX2_restFrom_18 hl (by decide) rfl (fun ls (hl : lv_has ls _ ([(4, .int 1), (3, .int 536870912), (0, .ref (hN 0)), (1, .int p1), (2, .int p2)])) => ?_)
    have hl : lv_has _ _ ([(4, .int 1), (3, .int 536870912), (0, .ref (hN 0)), (1, .int p1), (2, .int p2)]) := lv_sub hl [0, 1, 2, 3, 4] rfl
    refine (fun (loop : ∀ (n9 : Nat) (l4_x20 : Int32) (l3_x20 : Int32) (H : Heap) (locs : List Loc) (ls : Array Slot), (1 ≤ l4_x20.toInt ∧ l4_x20.toInt ≤ 8) → (tuRs (tuTab fN_price) (tuTab fN_rest) p1.toInt.toNat p2.toInt.toNat l4_x20.toInt.toNat l3_x20.toInt) → (l4_x20.toInt ≤ iN_stops.toInt) → (8 - l4_x20.toInt < ((n9 : Nat) : Int)) → va_P (dC, dI) vwCl (WN hN aN kN iN_arcs fN_from fN_to fN_room fN_cost iN_reached fN_free fN_before fN_flow fN_length fN_stop iN_stops fN_price fN_rest) H → va_D A (WN hN aN kN iN_arcs fN_from fN_to fN_room fN_cost iN_reached fN_free fN_before fN_flow fN_length fN_stop iN_stops fN_price fN_rest) → va_S A s.heap H locs → lv_has ls 5 [(4, .int l4_x20), (3, .int l3_x20), (0, .ref (hN 0)), (1, .int p1), (2, .int p2)] → W p l e _ s m _ below meth c H locs 0 0 _ (F0 m 20 ls [])) => loop (8) 1 536870912 _ _ _ (show 1 ≤ (1 : Int32).toInt ∧ (1 : Int32).toInt ≤ 8 from by decide) (show tuRs (tuTab fN_price) (tuTab fN_rest) p1.toInt.toNat p2.toInt.toNat (1 : Int32).toInt.toNat (536870912 : Int32).toInt from tuRs.start (by decide) (by decide)) (show (1 : Int32).toInt ≤ iN_stops.toInt from by have h7 : (1 : Int32).toInt = 1 := (by decide); omega) ((by have e9 : (1 : Int32).toInt = 1 := (by decide : (1 : Int32).toInt = 1); omega)) hP hD hS hl) ?_
    intro n9
    induction n9 with
    | zero => intro l4_x20 l3_x20 H locs ls b_l4_x20 hRs hlb hf9; exact False.elim (by omega)
    | succ n9 ihx20 =>
      intro l4_x20 l3_x20 H locs ls b_l4_x20 hRs hlb hfx20 hP hD hS hl
      refine lv_iload hx hb dX2_restFrom_20 (lv_at hl 0 rfl) ?_
      refine lv_aload_n hx hb dX2_restFrom_22 rfl (lv_at hl 2 rfl) ?_
      refine va_get (D := (dC, dI)) (ci := 2) (v := .int iN_stops) (C := RX2) (T := TX2) (N := 14) hx hb hts iwsMX2_restFrom_in2 hown hK hP 0 rfl rfl 11 (by decide) (hts (.fieldLink RX2 98 "OptimaWorks$NetDesk" "stops" "I") (by decide +kernel)) (fun _ h9 => h9) rfl dX2_restFrom_23 ?_
      refine lv_icmp_ge (tgt := 59) hx hb dX2_restFrom_26 (by decide) (fun c_26 => ?_) (fun c_26 => ?_)
      · have t_26 : l4_x20.toInt ≥ iN_stops.toInt := toI_ge c_26 rfl rfl
        refine lv_iload_n hx hb dX2_restFrom_59 rfl (lv_at hl 1 rfl) ?_
        refine W.widen (k := 0) (n := 0) (by decide +kernel) (by decide +kernel) ?_
        exact W.iret (v := l3_x20) hx hb hr (fun t9_ ht hW => ⟨⟨l3_x20, (), rfl, (by (try dsimp only); exact (⟨tuRs.done hRs (by omega) (by omega) (by omega), hRs.1⟩)), by rw [ht]; exact hP, hD⟩, hS.F ht⟩) hS.2.2 dX2_restFrom_60
      · have t_26 : ¬ l4_x20.toInt ≥ iN_stops.toInt := toI_nge c_26 rfl rfl
        refine lv_iload_n hx hb dX2_restFrom_29 rfl (lv_at hl 3 rfl) ?_
        refine lv_iload hx hb dX2_restFrom_30 (lv_at hl 0 rfl) ?_
        refine lv_iconst (v := 1) hx hb dX2_restFrom_32 (by decide) ?_
        refine lv_isub hx hb dX2_restFrom_33 ?_
        refine lv_topi (fun y36 hy36 => ?_)
        obtain rfl : (iI (l4_x20.toInt - 1)) = y36 := (hy36.trans (iI_sub2 (iI_of _) (by decide : (1 : Int32) = iI 1))).symm
        refine lv_ishr hx hb dX2_restFrom_34 ?_
        refine lv_topi (fun v37 hv37 => ?_)
        have b_v37 : v37 = p1 >>> ((iI (l4_x20.toInt - 1)) &&& 31) := hv37
        clear hv37
        refine lv_iconst (v := 1) hx hb dX2_restFrom_35 (by decide) ?_
        refine lv_iand hx hb dX2_restFrom_36 ?_
        refine lv_topi (fun v38 hv38 => ?_)
        have b_v38 : (bt p1 (l4_x20.toInt - 1).toNat = true ∧ v38.toInt = 1) ∨ (bt p1 (l4_x20.toInt - 1).toNat = false ∧ v38.toInt = 0) := by rw [hv38]; exact sh_and1 b_v37 (iI_t (Int.le_trans (by decide) (Int.sub_le_sub (b_l4_x20.1) (Int.le_refl _))) (Int.le_trans (Int.sub_le_sub (b_l4_x20.2) (Int.le_refl _)) (by decide))) (by omega) (by omega)
        clear hv38
        refine W.cut (pc := 53) (fun H locs ls stk => ∃ (l3_j12 : Int32), (tuRs (tuTab fN_price) (tuTab fN_rest) p1.toInt.toNat p2.toInt.toNat (l4_x20.toInt.toNat + 1) l3_j12.toInt) ∧  stk = [] ∧ va_P (dC, dI) vwCl (WN hN aN kN iN_arcs fN_from fN_to fN_room fN_cost iN_reached fN_free fN_before fN_flow fN_length fN_stop iN_stops fN_price fN_rest) H ∧ va_D A (WN hN aN kN iN_arcs fN_from fN_to fN_room fN_cost iN_reached fN_free fN_before fN_flow fN_length fN_stop iN_stops fN_price fN_rest) ∧ va_S A s.heap H locs ∧ lv_has ls 5 [(4, .int l4_x20), (3, .int l3_j12), (0, .ref (hN 0)), (1, .int p1), (2, .int p2)]) (fun join12 => ?_) ?_
        · refine lv_if_eq (tgt := 53) hx hb dX2_restFrom_37 (by decide) (fun c_37 => ?_) (fun c_37 => ?_)
          · have t_37 : v38.toInt = 0 := toI_eq c_37 rfl (by decide : (0 : Int32).toInt = 0)
            have hl : lv_has _ _ ([(4, .int l4_x20), (3, .int l3_x20), (0, .ref (hN 0)), (1, .int p1), (2, .int p2)]) := lv_sub hl [0, 1, 2, 3, 4] rfl
            exact join12 _ _ _ _ ⟨l3_x20, (show tuRs (tuTab fN_price) (tuTab fN_rest) p1.toInt.toNat p2.toInt.toNat (l4_x20.toInt.toNat + 1) l3_x20.toInt from tuRs.skip hRs (by rw [show l4_x20.toInt.toNat - 1 = (l4_x20.toInt - 1).toNat from by omega, ← bt_tb (by omega) (by omega)]; exact bt_no b_v38 t_37)), rfl, hP, hD, hS, hl⟩
          · have t_37 : ¬ v38.toInt = 0 := toI_neq c_37 rfl (by decide : (0 : Int32).toInt = 0)
            refine lv_iload_n hx hb dX2_restFrom_40 rfl (lv_at hl 1 rfl) ?_
            refine lv_aload_n hx hb dX2_restFrom_41 rfl (lv_at hl 2 rfl) ?_
            refine lv_iload_n hx hb dX2_restFrom_42 rfl (lv_at hl 3 rfl) ?_
            refine lv_iload_n hx hb dX2_restFrom_43 rfl (lv_at hl 4 rfl) ?_
            refine lv_iload hx hb dX2_restFrom_44 (lv_at hl 0 rfl) ?_
            have hFc := allFree hD hS hA
            refine va_calli (va_runV (As := [.int p1, .int p2, .int l4_x20]) (rest := [.int l3_x20]) ⟨hx, hb, hml, hown, hts⟩ (m_X2_costOver l dC dI hN aN kN iN_arcs fN_from fN_to fN_room fN_cost iN_reached fN_free fN_before fN_flow fN_length fN_stop iN_stops fN_price fN_rest p1 p2 l4_x20 (b_iN_arcs) b_fN_from b_fN_to b_fN_before b_fN_stop (b_iN_stops) (b_p1) (b_p2) (by first | exact b_l4_x20 | assumption | exact ⟨by omega, by omega⟩) ((by rw [show l4_x20.toInt.toNat - 1 = (l4_x20.toInt - 1).toNat from by omega, ← bt_tb (by omega) (by omega)]; exact bt_yes b_v38 t_37)) (hPb _ _ (by omega) (by omega)) (hRb _ _ (tuOff_lt (tuBitNz (j := l4_x20.toInt.toNat - 1) (by rw [show l4_x20.toInt.toNat - 1 = (l4_x20.toInt - 1).toNat from by omega, ← bt_tb (by omega) (by omega)]; exact bt_yes b_v38 t_37))) (by omega)) H.size) (cwV 3 hts gwsMX2_restFrom_0 rfl rfl rfl hd_yX2_costOver_RX2 (by decide +kernel)) (fz_pre (va_recv hK hP (ci := 2) (q0 := 0) rfl rfl) hP hK hD) rfl rfl hl.1 rfl (lv_room (Nat.le_of_ble_eq_true rfl)) dX2_restFrom_46 (by decide +kernel)) hS (fun q _ h => hFc q h) hFc (fun r41 u t9_ H locs ht hvm hw9 hB9 hz1 hk1 hS => ?_)
            have f41_0 := hw9
            try dsimp only at f41_0
            have hP : va_P (dC, dI) vwCl (WN hN aN kN iN_arcs fN_from fN_to fN_room fN_cost iN_reached fN_free fN_before fN_flow fN_length fN_stop iN_stops fN_price fN_rest) H := fz_P ht hB9.1
            have hD : va_D A (WN hN aN kN iN_arcs fN_from fN_to fN_room fN_cost iN_reached fN_free fN_before fN_flow fN_length fN_stop iN_stops fN_price fN_rest) := hB9.2.weaken (fun _ q _ h => hFc q.1 h)
            refine va_mmin hx hb (by rw [hml]; exact hl.1.symm) hown (hts (.methodLink RX2 61 Lib.Math.min.name) (by decide +kernel)) (hts (.static Lib.Math.min.name) (by decide +kernel)) (hts (.initialized "java/lang/Math") (by decide +kernel)) (hts (.code Lib.Math.min.name Lib.Math.min.code 2 (some .int)) (by decide +kernel)) (by decide +kernel) (Nat.le_of_ble_eq_true rfl) (by decide +kernel) (by decide +kernel) dX2_restFrom_49 ?_
            refine lv_topi (fun v42 hv42 => ?_)
            have b_v42 : (v42.toInt ≤ l3_x20.toInt ∧ v42.toInt ≤ r41.toInt) ∧ (v42.toInt = l3_x20.toInt ∨ v42.toInt = r41.toInt) := by rw [hv42]; exact min_t rfl rfl
            clear hv42
            refine lv_istore_n hx hb dX2_restFrom_52 rfl hl (by decide) rfl (fun ls (hl : lv_has ls _ ([(3, .int v42), (4, .int l4_x20), (0, .ref (hN 0)), (1, .int p1), (2, .int p2)])) => ?_)
            have hl : lv_has _ _ ([(4, .int l4_x20), (3, .int v42), (0, .ref (hN 0)), (1, .int p1), (2, .int p2)]) := lv_sub hl [1, 0, 2, 3, 4] rfl
            exact join12 _ _ _ _ ⟨v42, (show tuRs (tuTab fN_price) (tuTab fN_rest) p1.toInt.toNat p2.toInt.toNat (l4_x20.toInt.toNat + 1) v42.toInt from tuRs.take hRs (by omega) (by rw [show l4_x20.toInt.toNat - 1 = (l4_x20.toInt - 1).toNat from by omega, ← bt_tb (by omega) (by omega)]; exact bt_yes b_v38 t_37) f41_0 (by (have h9 := hs1); rw [f41_0]; exact tuG_0 (hPb _ _ (by omega) (by omega)).1 (hRb _ _ (tuOff_lt (by omega)) (by omega)).1) b_v42), rfl, hP, hD, hS, hl⟩
        · rintro H locs ls stk ⟨l3_j12, hRj, rfl, hP, hD, hS, hl⟩
          refine lv_iinc (v := (iI (l4_x20.toInt + 1))) hx hb dX2_restFrom_53 hl (k := 0) rfl (iI_add2 (iI_of _) (by decide : (1 : Int32) = iI 1)) (by decide) rfl (fun ls (hl : lv_has ls _ ([(4, .int (iI (l4_x20.toInt + 1))), (3, .int l3_j12), (0, .ref (hN 0)), (1, .int p1), (2, .int p2)])) => ?_)
          refine lv_goto (tgt := 20) hx hb dX2_restFrom_56 (by decide) ?_
          have hl : lv_has _ _ ([(4, .int (iI (l4_x20.toInt + 1))), (3, .int l3_j12), (0, .ref (hN 0)), (1, .int p1), (2, .int p2)]) := lv_sub hl [0, 1, 2, 3, 4] rfl
          exact ihx20 (iI (l4_x20.toInt + 1)) l3_j12 _ _ _ (iI_rng (Int.le_trans (by decide) (Int.add_le_add (b_l4_x20.1) (Int.le_refl _))) (by omega) (by decide) (by decide)) (show tuRs (tuTab fN_price) (tuTab fN_rest) p1.toInt.toNat p2.toInt.toNat (iI (l4_x20.toInt + 1)).toInt.toNat l3_j12.toInt from by rw [show (iI (l4_x20.toInt + 1)).toInt.toNat = l4_x20.toInt.toNat + 1 from by rw [iI_t (by omega) (by omega)]; omega]; exact hRj) (show (iI (l4_x20.toInt + 1)).toInt ≤ iN_stops.toInt from by rw [iI_t (by omega) (by omega)]; omega) (by have e9 : ((iI (l4_x20.toInt + 1))).toInt = (l4_x20.toInt + 1) := (iI_t (Int.le_trans (by decide) (Int.add_le_add (b_l4_x20.1) (Int.le_refl _))) (Int.le_trans (Int.add_le_add (b_l4_x20.2) (Int.le_refl _)) (by decide))); omega) hP hD hS hl
  · have t_1 : p1.toInt = 0 := toI_nne c_1 rfl (by decide : (0 : Int32).toInt = 0)
    refine lv_aload_n hx hb dX2_restFrom_4 rfl (lv_at hl 0 rfl) ?_
    refine va_get (D := (dC, dI)) (ci := 2) (v := .ref (aN 9)) (C := RX2) (T := TX2) (N := 14) hx hb hts iwsMX2_restFrom_in2 hown hK hP 0 rfl rfl 12 (by decide) (hts (.fieldLink RX2 39 "OptimaWorks$NetDesk" "price" "[I") (by decide +kernel)) (fun _ h9 => h9) rfl dX2_restFrom_5 ?_
    refine lv_iload_n hx hb dX2_restFrom_8 rfl (lv_at hl 2 rfl) ?_
    refine lv_bipush (v := 8) hx hb dX2_restFrom_9 (by decide) ?_
    refine lv_imul hx hb dX2_restFrom_11 ?_
    refine lv_topi (fun y43 hy43 => ?_)
    obtain rfl : (iI (p2.toInt * 8)) = y43 := (hy43.trans (iI_mul2 (iI_of _) (by decide : (8 : Int32) = iI 8))).symm
    refine va_iald (cA := kN 9) (n := 64) (f := fN_price) hx hb hK hP 10 9 rfl rfl (vp_iI (Int.le_trans (by decide) (Int.mul_le_mul_of_nonneg_right (b_p2.1) (by decide))) (Int.lt_of_le_of_lt (Int.mul_le_mul_of_nonneg_right (b_p2.2) (by decide)) (by decide)) (by decide)) dX2_restFrom_12 ?_
    refine lv_topi (fun v44 hv44 => ?_)
    have b_v44 : v44.toInt ≤ v44.toInt := by rw [hv44]; exact Int.le_refl _
    have b1_v44 : v44 = fN_price ((iI (p2.toInt * 8))).toNatClampNeg := hv44
    clear hv44
    refine W.widen (k := 0) (n := 0) (by decide +kernel) (by decide +kernel) ?_
    exact W.iret (v := v44) hx hb hr (fun t9_ ht hW => ⟨⟨v44, (), rfl, (by (try dsimp only); exact (⟨⟨fun _ => by rw [b1_v44]; show (fN_price (iI (p2.toInt * 8)).toInt.toNat).toInt = (fN_price (8 * p2.toInt.toNat + 0)).toInt; rw [iI_t (by omega) (by omega), show (p2.toInt * 8).toNat = 8 * p2.toInt.toNat + 0 from by omega], fun h9 => absurd (by omega) h9⟩, by rw [show v44.toInt = tuTab fN_price p2.toInt.toNat 0 from by rw [b1_v44]; show (fN_price (iI (p2.toInt * 8)).toInt.toNat).toInt = (fN_price (8 * p2.toInt.toNat + 0)).toInt; rw [iI_t (by omega) (by omega), show (p2.toInt * 8).toNat = 8 * p2.toInt.toNat + 0 from by omega]]; exact hPb _ _ (by omega) (by omega)⟩)), by rw [ht]; exact hP, hD⟩, hS.F ht⟩) hS.2.2 dX2_restFrom_13
theorem dX2_nextStop_0 : decode cX2_nextStop 0 = .ok (.iconst 1, 1) := dk_4 (by decide +kernel)
theorem dX2_nextStop_1 : decode cX2_nextStop 1 = .ok (.istore_n 3, 1) := dk_62 (by decide +kernel)
theorem dX2_nextStop_2 : decode cX2_nextStop 2 = .ok (.iload_n 3, 1) := dk_29 (by decide +kernel)
theorem dX2_nextStop_3 : decode cX2_nextStop 3 = .ok (.aload_n 0, 1) := dk_42 (by decide +kernel)
theorem dX2_nextStop_4 : decode cX2_nextStop 4 = .ok (.getfield 98, 3) := dk_180 (by decide +kernel)
theorem dX2_nextStop_7 : decode cX2_nextStop 7 = .ok (.if_icmp .ge 42, 3) := dk_162 (by decide +kernel)
theorem dX2_nextStop_10 : decode cX2_nextStop 10 = .ok (.iload_n 1, 1) := dk_27 (by decide +kernel)
theorem dX2_nextStop_11 : decode cX2_nextStop 11 = .ok (.iload_n 3, 1) := dk_29 (by decide +kernel)
theorem dX2_nextStop_12 : decode cX2_nextStop 12 = .ok (.iconst 1, 1) := dk_4 (by decide +kernel)
theorem dX2_nextStop_13 : decode cX2_nextStop 13 = .ok (.isub, 1) := dk_100 (by decide +kernel)
theorem dX2_nextStop_14 : decode cX2_nextStop 14 = .ok (.ishr, 1) := dk_122 (by decide +kernel)
theorem dX2_nextStop_15 : decode cX2_nextStop 15 = .ok (.iconst 1, 1) := dk_4 (by decide +kernel)
theorem dX2_nextStop_16 : decode cX2_nextStop 16 = .ok (.iand, 1) := dk_126 (by decide +kernel)
theorem dX2_nextStop_17 : decode cX2_nextStop 17 = .ok (.ifCond .eq 26, 3) := dk_153 (by decide +kernel)
theorem dX2_nextStop_20 : decode cX2_nextStop 20 = .ok (.aload_n 0, 1) := dk_42 (by decide +kernel)
theorem dX2_nextStop_21 : decode cX2_nextStop 21 = .ok (.iload_n 1, 1) := dk_27 (by decide +kernel)
theorem dX2_nextStop_22 : decode cX2_nextStop 22 = .ok (.iload_n 2, 1) := dk_28 (by decide +kernel)
theorem dX2_nextStop_23 : decode cX2_nextStop 23 = .ok (.iload_n 3, 1) := dk_29 (by decide +kernel)
theorem dX2_nextStop_24 : decode cX2_nextStop 24 = .ok (.invokevirtual 107, 3) := dk_182 (by decide +kernel)
theorem dX2_nextStop_27 : decode cX2_nextStop 27 = .ok (.aload_n 0, 1) := dk_42 (by decide +kernel)
theorem dX2_nextStop_28 : decode cX2_nextStop 28 = .ok (.getfield 42, 3) := dk_180 (by decide +kernel)
theorem dX2_nextStop_31 : decode cX2_nextStop 31 = .ok (.iload_n 1, 1) := dk_27 (by decide +kernel)
theorem dX2_nextStop_32 : decode cX2_nextStop 32 = .ok (.bipush 8, 2) := dk_16 (by decide +kernel)
theorem dX2_nextStop_34 : decode cX2_nextStop 34 = .ok (.imul, 1) := dk_104 (by decide +kernel)
theorem dX2_nextStop_35 : decode cX2_nextStop 35 = .ok (.iload_n 2, 1) := dk_28 (by decide +kernel)
theorem dX2_nextStop_36 : decode cX2_nextStop 36 = .ok (.iadd, 1) := dk_96 (by decide +kernel)
theorem dX2_nextStop_37 : decode cX2_nextStop 37 = .ok (.iaload, 1) := dk_46 (by decide +kernel)
theorem dX2_nextStop_38 : decode cX2_nextStop 38 = .ok (.if_icmp .ne 5, 3) := dk_160 (by decide +kernel)
theorem dX2_nextStop_41 : decode cX2_nextStop 41 = .ok (.iload_n 3, 1) := dk_29 (by decide +kernel)
theorem dX2_nextStop_42 : decode cX2_nextStop 42 = .ok (.ireturn, 1) := dk_172 (by decide +kernel)
theorem dX2_nextStop_43 : decode cX2_nextStop 43 = .ok (.iinc 3 1, 3) := dk_132 (by decide +kernel)
theorem dX2_nextStop_46 : decode cX2_nextStop 46 = .ok (.goto (-44), 3) := dk_167 (by decide +kernel)
theorem dX2_nextStop_49 : decode cX2_nextStop 49 = .ok (.iconst 1, 1) := dk_4 (by decide +kernel)
theorem dX2_nextStop_50 : decode cX2_nextStop 50 = .ok (.aload_n 0, 1) := dk_42 (by decide +kernel)
theorem dX2_nextStop_51 : decode cX2_nextStop 51 = .ok (.getfield 98, 3) := dk_180 (by decide +kernel)
theorem dX2_nextStop_54 : decode cX2_nextStop 54 = .ok (.iconst 1, 1) := dk_4 (by decide +kernel)
theorem dX2_nextStop_55 : decode cX2_nextStop 55 = .ok (.isub, 1) := dk_100 (by decide +kernel)
theorem dX2_nextStop_56 : decode cX2_nextStop 56 = .ok (.invokestatic 89, 3) := dk_184 (by decide +kernel)
theorem dX2_nextStop_59 : decode cX2_nextStop 59 = .ok (.ireturn, 1) := dk_172 (by decide +kernel)
def wsMX2_nextStop : List Cond := .code yX2_nextStop cX2_nextStop 4 (some .int) :: ([.fieldLink RX2 98 "OptimaWorks$NetDesk" "stops" "I", .methodLink RX2 89 Lib.Math.max.name, .static Lib.Math.max.name, .initialized "java/lang/Math", .code Lib.Math.max.name Lib.Math.max.code 2 (some .int), .fieldLink RX2 42 "OptimaWorks$NetDesk" "rest" "[I"] ++ wsX20 ++ (wsV RX2 107 RX2 yX2_costOver wsMX2_costOver))
theorem iwsMX2_nextStop_in2 : ∀ w ∈ wsX20, w ∈ wsMX2_nextStop := fun _ h => List.mem_cons_of_mem _ (List.mem_append_left _ (List.mem_append_right _ h))
theorem gwsMX2_nextStop_0 : GoodIn wsMX2_nextStop (wsV RX2 107 RX2 yX2_costOver wsMX2_costOver) := goodIn_sub (fun _ h => List.mem_cons_of_mem _ (List.mem_append_right _ h)) (gdV (by decide +kernel) gdwsMX2_costOver)
theorem gdwsMX2_nextStop : wsMX2_nextStop.all goodWord = true := gdC rfl (gdA (gdA (by decide +kernel : ([.fieldLink RX2 98 "OptimaWorks$NetDesk" "stops" "I", .methodLink RX2 89 Lib.Math.max.name, .static Lib.Math.max.name, .initialized "java/lang/Math", .code Lib.Math.max.name Lib.Math.max.code 2 (some .int), .fieldLink RX2 42 "OptimaWorks$NetDesk" "rest" "[I"] : List Cond).all goodWord = true) gdwsX20) (gdV (by decide +kernel) gdwsMX2_costOver))
set_option maxHeartbeats 4000000 in
set_option maxRecDepth 100000 in
/-- the next stop -/
theorem m_X2_nextStop (l : Launch) (dC : Nat → ClassId) (dI : Nat → Nat → Nat) (hN : Nat → Nat) (aN : Nat → Nat) (kN : Nat → ClassId) (iN_arcs : Int32) (fN_from : Nat → Int32) (fN_to : Nat → Int32) (fN_room : Nat → Int32) (fN_cost : Nat → Int32) (iN_reached : Int32) (fN_free : Nat → Int32) (fN_before : Nat → Int32) (fN_flow : Nat → Int32) (fN_length : Nat → Int32) (fN_stop : Nat → Int32) (iN_stops : Int32) (fN_price : Nat → Int32) (fN_rest : Nat → Int32) (p1 : Int32) (p2 : Int32) (b_iN_arcs : 0 ≤ iN_arcs.toInt ∧ iN_arcs.toInt ≤ 40) (b_fN_from : ∀ q : Nat, 0 ≤ (fN_from q).toInt ∧ (fN_from q).toInt ≤ 11) (b_fN_to : ∀ q : Nat, 0 ≤ (fN_to q).toInt ∧ (fN_to q).toInt ≤ 11) (b_fN_before : ∀ q : Nat, 0 ≤ (fN_before q).toInt ∧ (fN_before q).toInt ≤ 79) (b_fN_stop : ∀ q : Nat, 0 ≤ (fN_stop q).toInt ∧ (fN_stop q).toInt ≤ 11) (b_iN_stops : 0 ≤ iN_stops.toInt ∧ iN_stops.toInt ≤ 8) (b_p1 : 0 ≤ p1.toInt ∧ p1.toInt ≤ 127) (b_p2 : 0 ≤ p2.toInt ∧ p2.toInt ≤ 7) (hs1 : 1 ≤ iN_stops.toInt) (hat : p2.toInt < iN_stops.toInt) (hPb : ∀ x y, x < iN_stops.toInt.toNat → y < iN_stops.toInt.toNat → 0 ≤ tuTab fN_price x y ∧ tuTab fN_price x y ≤ 536870912) (hRb : ∀ y b, y < p1.toInt.toNat → b < iN_stops.toInt.toNat → 0 ≤ tuTab fN_rest y b ∧ tuTab fN_rest y b ≤ 536870912) (sz : Nat) : Met l yX2_nextStop wsMX2_nextStop ({ frames := 2, cells := 0, slots := 0, locals := 36 }) (va_Pc [.ref (hN 0), .int p1, .int p2] (fun U => U.heap.size = sz ∧ va_P (dC, dI) vwCl (WN hN aN kN iN_arcs fN_from fN_to fN_room fN_cost iN_reached fN_free fN_before fN_flow fN_length fN_stop iN_stops fN_price fN_rest) U.heap ∧ va_K (dC, dI) vwCl (tN kN) U ∧ va_D (fun _ => True) (WN hN aN kN iN_arcs fN_from fN_to fN_room fN_cost iN_reached fN_free fN_before fN_flow fN_length fN_stop iN_stops fN_price fN_rest))) (va_Qi (fun (r : Int32) (u : Unit) => (1 ≤ r.toInt ∧ r.toInt ≤ 7) ∧ ((∃ b : Nat, 1 ≤ b ∧ b < iN_stops.toInt.toNat ∧ tuQ (tuTab fN_price) (tuTab fN_rest) p1.toInt.toNat p2.toInt.toNat b = true) → 1 ≤ r.toInt ∧ r.toInt < iN_stops.toInt ∧ tuQ (tuTab fN_price) (tuTab fN_rest) p1.toInt.toNat p2.toInt.toNat r.toInt.toNat = true ∧ ∀ c : Nat, 1 ≤ c → (c : Int) < r.toInt → tuQ (tuTab fN_price) (tuTab fN_rest) p1.toInt.toNat p2.toInt.toNat c = false)) (fun (u : Unit) t => va_P (dC, dI) vwCl (WN hN aN kN iN_arcs fN_from fN_to fN_room fN_cost iN_reached fN_free fN_before fN_flow fN_length fN_stop iN_stops fN_price fN_rest) t.heap ∧ va_D (va_A (WN hN aN kN iN_arcs fN_from fN_to fN_room fN_cost iN_reached fN_free fN_before fN_flow fN_length fN_stop iN_stops fN_price fN_rest) sz) (WN hN aN kN iN_arcs fN_from fN_to fN_room fN_cost iN_reached fN_free fN_before fN_flow fN_length fN_stop iN_stops fN_price fN_rest)) (va_A (WN hN aN kN iN_arcs fN_from fN_to fN_room fN_cost iN_reached fN_free fN_before fN_flow fN_length fN_stop iN_stops fN_price fN_rest) sz)) 0 0 (va_A (WN hN aN kN iN_arcs fN_from fN_to fN_room fN_cost iN_reached fN_free fN_before fN_flow fN_length fN_stop iN_stops fN_price fN_rest) sz) := by
  refine Met.ofW (cc := cX2_nextStop) (maxL := 4) (ret := (some .int)) (by decide) rfl ?_
  intro p e s m args below meth c s₁ B hml hv
  obtain ⟨rfl, hsz, hP, hK, hD0⟩ := hv
  have hx := B.exec
  have hb := B.bytes
  have hr := B.returns
  have hts := atoms_spec (ws := wsMX2_nextStop) B.pre
  have hown : s.vm.findClass RX2 = some m.cls := findClass_of_methodNamed B.named
  have hlocks := B.notSynchronized
  subst hsz
  have hD := hD0.self (sz := s.heap.size)
  generalize hAe : va_A (WN hN aN kN iN_arcs fN_from fN_to fN_room fN_cost iN_reached fN_free fN_before fN_flow fN_length fN_stop iN_stops fN_price fN_rest) s.heap.size = A at hD ⊢
  have hA : ∀ q : Nat, s.heap.size ≤ q → A q := fun q h => by rw [← hAe]; exact Or.inr h
  have hS : va_S A s.heap s.heap [] := va_S.rf
  have hl := lv_entry ([.ref (hN 0), .int p1, .int p2]) (n := 4) (Nat.le_of_ble_eq_true rfl)
  rw [lg_entry_eq]
  generalize (lg_sl ([.ref (hN 0), .int p1, .int p2]) ++ List.replicate (4 - (lg_sl ([.ref (hN 0), .int p1, .int p2])).length) Slot.unset).toArray = ls at hl ⊢
  have hl : lv_has ls 4 [(0, .ref (hN 0)), (1, .int p1), (2, .int p2)] := hl
  refine lv_iconst (v := 1) hx hb dX2_nextStop_0 (by decide) ?_
  refine lv_istore_n hx hb dX2_nextStop_1 rfl hl (by decide) rfl (fun ls (hl : lv_has ls _ ([(3, .int 1), (0, .ref (hN 0)), (1, .int p1), (2, .int p2)])) => ?_)
  have hl : lv_has _ _ ([(3, .int 1), (0, .ref (hN 0)), (1, .int p1), (2, .int p2)]) := lv_sub hl [0, 1, 2, 3] rfl
  refine (fun (loop : ∀ (n9 : Nat) (l3_x2 : Int32) (H : Heap) (locs : List Loc) (ls : Array Slot), (1 ≤ l3_x2.toInt ∧ l3_x2.toInt ≤ 8) → (∀ c : Nat, 1 ≤ c → (c : Int) < l3_x2.toInt → tuQ (tuTab fN_price) (tuTab fN_rest) p1.toInt.toNat p2.toInt.toNat c = false) → (8 - l3_x2.toInt < ((n9 : Nat) : Int)) → va_P (dC, dI) vwCl (WN hN aN kN iN_arcs fN_from fN_to fN_room fN_cost iN_reached fN_free fN_before fN_flow fN_length fN_stop iN_stops fN_price fN_rest) H → va_D A (WN hN aN kN iN_arcs fN_from fN_to fN_room fN_cost iN_reached fN_free fN_before fN_flow fN_length fN_stop iN_stops fN_price fN_rest) → va_S A s.heap H locs → lv_has ls 4 [(3, .int l3_x2), (0, .ref (hN 0)), (1, .int p1), (2, .int p2)] → W p l e _ s m _ below meth c H locs 0 0 _ (F0 m 2 ls [])) => loop (8) 1 _ _ _ (show 1 ≤ (1 : Int32).toInt ∧ (1 : Int32).toInt ≤ 8 from by decide) (show ∀ c : Nat, 1 ≤ c → (c : Int) < (1 : Int32).toInt → tuQ (tuTab fN_price) (tuTab fN_rest) p1.toInt.toNat p2.toInt.toNat c = false from fun c h1 h2 => absurd h2 (by have h7 : (1 : Int32).toInt = 1 := (by decide); omega)) ((by have e9 : (1 : Int32).toInt = 1 := (by decide : (1 : Int32).toInt = 1); omega)) hP hD hS hl) ?_
  intro n9
  induction n9 with
  | zero => intro l3_x2 H locs ls b_l3_x2 hNo hf9; exact False.elim (by omega)
  | succ n9 ihx2 =>
    intro l3_x2 H locs ls b_l3_x2 hNo hfx2 hP hD hS hl
    refine lv_iload_n hx hb dX2_nextStop_2 rfl (lv_at hl 0 rfl) ?_
    refine lv_aload_n hx hb dX2_nextStop_3 rfl (lv_at hl 1 rfl) ?_
    refine va_get (D := (dC, dI)) (ci := 2) (v := .int iN_stops) (C := RX2) (T := TX2) (N := 14) hx hb hts iwsMX2_nextStop_in2 hown hK hP 0 rfl rfl 11 (by decide) (hts (.fieldLink RX2 98 "OptimaWorks$NetDesk" "stops" "I") (by decide +kernel)) (fun _ h9 => h9) rfl dX2_nextStop_4 ?_
    refine lv_icmp_ge (tgt := 49) hx hb dX2_nextStop_7 (by decide) (fun c_7 => ?_) (fun c_7 => ?_)
    · have t_7 : l3_x2.toInt ≥ iN_stops.toInt := toI_ge c_7 rfl rfl
      refine lv_iconst (v := 1) hx hb dX2_nextStop_49 (by decide) ?_
      refine lv_aload_n hx hb dX2_nextStop_50 rfl (lv_at hl 1 rfl) ?_
      refine va_get (D := (dC, dI)) (ci := 2) (v := .int iN_stops) (C := RX2) (T := TX2) (N := 14) hx hb hts iwsMX2_nextStop_in2 hown hK hP 0 rfl rfl 11 (by decide) (hts (.fieldLink RX2 98 "OptimaWorks$NetDesk" "stops" "I") (by decide +kernel)) (fun _ h9 => h9) rfl dX2_nextStop_51 ?_
      refine lv_iconst (v := 1) hx hb dX2_nextStop_54 (by decide) ?_
      refine lv_isub hx hb dX2_nextStop_55 ?_
      refine lv_topi (fun y19 hy19 => ?_)
      obtain rfl : (iI (iN_stops.toInt - 1)) = y19 := (hy19.trans (iI_sub2 (iI_of _) (by decide : (1 : Int32) = iI 1))).symm
      refine va_mmax hx hb (by rw [hml]; exact hl.1.symm) hown (hts (.methodLink RX2 89 Lib.Math.max.name) (by decide +kernel)) (hts (.static Lib.Math.max.name) (by decide +kernel)) (hts (.initialized "java/lang/Math") (by decide +kernel)) (hts (.code Lib.Math.max.name Lib.Math.max.code 2 (some .int)) (by decide +kernel)) (by decide +kernel) (Nat.le_of_ble_eq_true rfl) (by decide +kernel) (by decide +kernel) dX2_nextStop_56 ?_
      refine lv_topi (fun v20 hv20 => ?_)
      have b_v20 : (1 ≤ v20.toInt ∧ (iN_stops.toInt - 1) ≤ v20.toInt) ∧ (v20.toInt = 1 ∨ v20.toInt = (iN_stops.toInt - 1)) := by rw [hv20]; exact max_t (by decide : (1 : Int32).toInt = 1) (iI_t (Int.le_trans (by decide) (Int.sub_le_sub (b_iN_stops.1) (Int.le_refl _))) (Int.le_trans (Int.sub_le_sub (b_iN_stops.2) (Int.le_refl _)) (by decide)))
      clear hv20
      refine W.widen (k := 0) (n := 0) (by decide +kernel) (by decide +kernel) ?_
      exact W.iret (v := v20) hx hb hr (fun t9_ ht hW => ⟨⟨v20, (), rfl, ⟨(by first | exact b_v20 | assumption | exact ⟨by omega, by omega⟩), (by (try dsimp only); exact (fun ⟨c9, h1, h2, h3⟩ => absurd h3 (by rw [hNo c9 h1 (by omega)]; decide)))⟩, by rw [ht]; exact hP, hD⟩, hS.F ht⟩) hS.2.2 dX2_nextStop_59
    · have t_7 : ¬ l3_x2.toInt ≥ iN_stops.toInt := toI_nge c_7 rfl rfl
      refine lv_iload_n hx hb dX2_nextStop_10 rfl (lv_at hl 2 rfl) ?_
      refine lv_iload_n hx hb dX2_nextStop_11 rfl (lv_at hl 0 rfl) ?_
      refine lv_iconst (v := 1) hx hb dX2_nextStop_12 (by decide) ?_
      refine lv_isub hx hb dX2_nextStop_13 ?_
      refine lv_topi (fun y21 hy21 => ?_)
      obtain rfl : (iI (l3_x2.toInt - 1)) = y21 := (hy21.trans (iI_sub2 (iI_of _) (by decide : (1 : Int32) = iI 1))).symm
      refine lv_ishr hx hb dX2_nextStop_14 ?_
      refine lv_topi (fun v22 hv22 => ?_)
      have b_v22 : v22 = p1 >>> ((iI (l3_x2.toInt - 1)) &&& 31) := hv22
      clear hv22
      refine lv_iconst (v := 1) hx hb dX2_nextStop_15 (by decide) ?_
      refine lv_iand hx hb dX2_nextStop_16 ?_
      refine lv_topi (fun v23 hv23 => ?_)
      have b_v23 : (bt p1 (l3_x2.toInt - 1).toNat = true ∧ v23.toInt = 1) ∨ (bt p1 (l3_x2.toInt - 1).toNat = false ∧ v23.toInt = 0) := by rw [hv23]; exact sh_and1 b_v22 (iI_t (Int.le_trans (by decide) (Int.sub_le_sub (b_l3_x2.1) (Int.le_refl _))) (Int.le_trans (Int.sub_le_sub (b_l3_x2.2) (Int.le_refl _)) (by decide))) (by omega) (by omega)
      clear hv23
      refine lv_if_eq (tgt := 43) hx hb dX2_nextStop_17 (by decide) (fun c_17 => ?_) (fun c_17 => ?_)
      · have t_17 : v23.toInt = 0 := toI_eq c_17 rfl (by decide : (0 : Int32).toInt = 0)
        refine lv_iinc (v := (iI (l3_x2.toInt + 1))) hx hb dX2_nextStop_43 hl (k := 0) rfl (iI_add2 (iI_of _) (by decide : (1 : Int32) = iI 1)) (by decide) rfl (fun ls (hl : lv_has ls _ ([(3, .int (iI (l3_x2.toInt + 1))), (0, .ref (hN 0)), (1, .int p1), (2, .int p2)])) => ?_)
        refine lv_goto (tgt := 2) hx hb dX2_nextStop_46 (by decide) ?_
        have hl : lv_has _ _ ([(3, .int (iI (l3_x2.toInt + 1))), (0, .ref (hN 0)), (1, .int p1), (2, .int p2)]) := lv_sub hl [0, 1, 2, 3] rfl
        exact ihx2 (iI (l3_x2.toInt + 1)) _ _ _ (iI_rng (Int.le_trans (by decide) (Int.add_le_add (b_l3_x2.1) (Int.le_refl _))) (by omega) (by decide) (by decide)) (show ∀ c : Nat, 1 ≤ c → (c : Int) < (iI (l3_x2.toInt + 1)).toInt → tuQ (tuTab fN_price) (tuTab fN_rest) p1.toInt.toNat p2.toInt.toNat c = false from tuSeen.step hNo (by omega) (by first | exact tuQ_no1 (by rw [show l3_x2.toInt.toNat - 1 = (l3_x2.toInt - 1).toNat from by omega, ← bt_tb (by omega) (by omega)]; exact bt_no b_v23 t_17) | exact tuQ_no2 (by rw [← f15_0, show tuTab fN_rest p1.toInt.toNat p2.toInt.toNat = v18.toInt from (by rw [b1_v18]; show (fN_rest (8 * p1.toInt.toNat + p2.toInt.toNat)).toInt = (fN_rest (iI (p1.toInt * 8 + p2.toInt)).toInt.toNat).toInt; rw [iI_t (by omega) (by omega), show 8 * p1.toInt.toNat + p2.toInt.toNat = (p1.toInt * 8 + p2.toInt).toNat from by omega])]; exact t_38)) (iI_t (by omega) (by omega))) (by have e9 : ((iI (l3_x2.toInt + 1))).toInt = (l3_x2.toInt + 1) := (iI_t (Int.le_trans (by decide) (Int.add_le_add (b_l3_x2.1) (Int.le_refl _))) (Int.le_trans (Int.add_le_add (b_l3_x2.2) (Int.le_refl _)) (by decide))); omega) hP hD hS hl
      · have t_17 : ¬ v23.toInt = 0 := toI_neq c_17 rfl (by decide : (0 : Int32).toInt = 0)
        refine lv_aload_n hx hb dX2_nextStop_20 rfl (lv_at hl 1 rfl) ?_
        refine lv_iload_n hx hb dX2_nextStop_21 rfl (lv_at hl 2 rfl) ?_
        refine lv_iload_n hx hb dX2_nextStop_22 rfl (lv_at hl 3 rfl) ?_
        refine lv_iload_n hx hb dX2_nextStop_23 rfl (lv_at hl 0 rfl) ?_
        have hFc := allFree hD hS hA
        refine va_calli (va_runV (As := [.int p1, .int p2, .int l3_x2]) (rest := []) ⟨hx, hb, hml, hown, hts⟩ (m_X2_costOver l dC dI hN aN kN iN_arcs fN_from fN_to fN_room fN_cost iN_reached fN_free fN_before fN_flow fN_length fN_stop iN_stops fN_price fN_rest p1 p2 l3_x2 (b_iN_arcs) b_fN_from b_fN_to b_fN_before b_fN_stop (b_iN_stops) (b_p1) (b_p2) (by first | exact b_l3_x2 | assumption | exact ⟨by omega, by omega⟩) ((by rw [show l3_x2.toInt.toNat - 1 = (l3_x2.toInt - 1).toNat from by omega, ← bt_tb (by omega) (by omega)]; exact bt_yes b_v23 t_17)) (hPb _ _ (by omega) (by omega)) (hRb _ _ (tuOff_lt (tuBitNz (j := l3_x2.toInt.toNat - 1) (by rw [show l3_x2.toInt.toNat - 1 = (l3_x2.toInt - 1).toNat from by omega, ← bt_tb (by omega) (by omega)]; exact bt_yes b_v23 t_17))) (by omega)) H.size) (cwV 3 hts gwsMX2_nextStop_0 rfl rfl rfl hd_yX2_costOver_RX2 (by decide +kernel)) (fz_pre (va_recv hK hP (ci := 2) (q0 := 0) rfl rfl) hP hK hD) rfl rfl hl.1 rfl (lv_room (Nat.le_of_ble_eq_true rfl)) dX2_nextStop_24 (by decide +kernel)) hS (fun q _ h => hFc q h) hFc (fun r24 u t9_ H locs ht hvm hw9 hB9 hz1 hk1 hS => ?_)
        have f24_0 := hw9
        try dsimp only at f24_0
        have hP : va_P (dC, dI) vwCl (WN hN aN kN iN_arcs fN_from fN_to fN_room fN_cost iN_reached fN_free fN_before fN_flow fN_length fN_stop iN_stops fN_price fN_rest) H := fz_P ht hB9.1
        have hD : va_D A (WN hN aN kN iN_arcs fN_from fN_to fN_room fN_cost iN_reached fN_free fN_before fN_flow fN_length fN_stop iN_stops fN_price fN_rest) := hB9.2.weaken (fun _ q _ h => hFc q.1 h)
        refine lv_aload_n hx hb dX2_nextStop_27 rfl (lv_at hl 1 rfl) ?_
        refine va_get (D := (dC, dI)) (ci := 2) (v := .ref (aN 10)) (C := RX2) (T := TX2) (N := 14) hx hb hts iwsMX2_nextStop_in2 hown hK hP 0 rfl rfl 13 (by decide) (hts (.fieldLink RX2 42 "OptimaWorks$NetDesk" "rest" "[I") (by decide +kernel)) (fun _ h9 => h9) rfl dX2_nextStop_28 ?_
        refine lv_iload_n hx hb dX2_nextStop_31 rfl (lv_at hl 2 rfl) ?_
        refine lv_bipush (v := 8) hx hb dX2_nextStop_32 (by decide) ?_
        refine lv_imul hx hb dX2_nextStop_34 ?_
        refine lv_topi (fun y25 hy25 => ?_)
        obtain rfl : (iI (p1.toInt * 8)) = y25 := (hy25.trans (iI_mul2 (iI_of _) (by decide : (8 : Int32) = iI 8))).symm
        refine lv_iload_n hx hb dX2_nextStop_35 rfl (lv_at hl 3 rfl) ?_
        refine lv_iadd hx hb dX2_nextStop_36 ?_
        refine lv_topi (fun y26 hy26 => ?_)
        obtain rfl : (iI ((p1.toInt * 8) + p2.toInt)) = y26 := (hy26.trans (iI_add2 rfl (iI_of _))).symm
        refine va_iald (cA := kN 10) (n := 1024) (f := fN_rest) hx hb hK hP 11 10 rfl rfl (vp_iI (Int.le_trans (by decide) (Int.add_le_add (Int.mul_le_mul_of_nonneg_right (b_p1.1) (by decide)) (b_p2.1))) (Int.lt_of_le_of_lt (Int.add_le_add (Int.mul_le_mul_of_nonneg_right (b_p1.2) (by decide)) (b_p2.2)) (by decide)) (by decide)) dX2_nextStop_37 ?_
        refine lv_topi (fun v27 hv27 => ?_)
        have b_v27 : v27.toInt ≤ v27.toInt := by rw [hv27]; exact Int.le_refl _
        have b1_v27 : v27 = fN_rest ((iI ((p1.toInt * 8) + p2.toInt))).toNatClampNeg := hv27
        clear hv27
        refine lv_icmp_ne (tgt := 43) hx hb dX2_nextStop_38 (by decide) (fun c_38 => ?_) (fun c_38 => ?_)
        · have t_38 : r24.toInt ≠ v27.toInt := toI_ne c_38 rfl rfl
          refine lv_iinc (v := (iI (l3_x2.toInt + 1))) hx hb dX2_nextStop_43 hl (k := 0) rfl (iI_add2 (iI_of _) (by decide : (1 : Int32) = iI 1)) (by decide) rfl (fun ls (hl : lv_has ls _ ([(3, .int (iI (l3_x2.toInt + 1))), (0, .ref (hN 0)), (1, .int p1), (2, .int p2)])) => ?_)
          refine lv_goto (tgt := 2) hx hb dX2_nextStop_46 (by decide) ?_
          have hl : lv_has _ _ ([(3, .int (iI (l3_x2.toInt + 1))), (0, .ref (hN 0)), (1, .int p1), (2, .int p2)]) := lv_sub hl [0, 1, 2, 3] rfl
          exact ihx2 (iI (l3_x2.toInt + 1)) _ _ _ (iI_rng (Int.le_trans (by decide) (Int.add_le_add (b_l3_x2.1) (Int.le_refl _))) (by omega) (by decide) (by decide)) (show ∀ c : Nat, 1 ≤ c → (c : Int) < (iI (l3_x2.toInt + 1)).toInt → tuQ (tuTab fN_price) (tuTab fN_rest) p1.toInt.toNat p2.toInt.toNat c = false from tuSeen.step hNo (by omega) (by first | exact tuQ_no1 (by rw [show l3_x2.toInt.toNat - 1 = (l3_x2.toInt - 1).toNat from by omega, ← bt_tb (by omega) (by omega)]; exact bt_no b_v23 t_17) | exact tuQ_no2 (by rw [← f24_0, show tuTab fN_rest p1.toInt.toNat p2.toInt.toNat = v27.toInt from (by rw [b1_v27]; show (fN_rest (8 * p1.toInt.toNat + p2.toInt.toNat)).toInt = (fN_rest (iI (p1.toInt * 8 + p2.toInt)).toInt.toNat).toInt; rw [iI_t (by omega) (by omega), show 8 * p1.toInt.toNat + p2.toInt.toNat = (p1.toInt * 8 + p2.toInt).toNat from by omega])]; exact t_38)) (iI_t (by omega) (by omega))) (by have e9 : ((iI (l3_x2.toInt + 1))).toInt = (l3_x2.toInt + 1) := (iI_t (Int.le_trans (by decide) (Int.add_le_add (b_l3_x2.1) (Int.le_refl _))) (Int.le_trans (Int.add_le_add (b_l3_x2.2) (Int.le_refl _)) (by decide))); omega) hP hD hS hl
        · have t_38 : r24.toInt = v27.toInt := toI_nne c_38 rfl rfl
          refine lv_iload_n hx hb dX2_nextStop_41 rfl (lv_at hl 0 rfl) ?_
          refine W.widen (k := 0) (n := 0) (by decide +kernel) (by decide +kernel) ?_
          exact W.iret (v := l3_x2) hx hb hr (fun t9_ ht hW => ⟨⟨l3_x2, (), rfl, ⟨(by first | exact b_l3_x2 | assumption | exact ⟨by omega, by omega⟩), (by (try dsimp only); exact (fun _ => ⟨by omega, by omega, tuQ_yes (by rw [show l3_x2.toInt.toNat - 1 = (l3_x2.toInt - 1).toNat from by omega, ← bt_tb (by omega) (by omega)]; exact bt_yes b_v23 t_17) (by rw [← f24_0, show tuTab fN_rest p1.toInt.toNat p2.toInt.toNat = v27.toInt from (by rw [b1_v27]; show (fN_rest (8 * p1.toInt.toNat + p2.toInt.toNat)).toInt = (fN_rest (iI (p1.toInt * 8 + p2.toInt)).toInt.toNat).toInt; rw [iI_t (by omega) (by omega), show 8 * p1.toInt.toNat + p2.toInt.toNat = (p1.toInt * 8 + p2.toInt).toNat from by omega])]; exact t_38), hNo⟩))⟩, by rw [ht]; exact hP, hD⟩, hS.F ht⟩) hS.2.2 dX2_nextStop_42
theorem dX2_round_0 : decode cX2_round 0 = .ok (.aload_n 0, 1) := dk_42 (by decide +kernel)
theorem dX2_round_1 : decode cX2_round 1 = .ok (.iload_n 1, 1) := dk_27 (by decide +kernel)
theorem dX2_round_2 : decode cX2_round 2 = .ok (.invokevirtual 92, 3) := dk_182 (by decide +kernel)
theorem dX2_round_5 : decode cX2_round 5 = .ok (.aload_n 0, 1) := dk_42 (by decide +kernel)
theorem dX2_round_6 : decode cX2_round 6 = .ok (.invokevirtual 95, 3) := dk_182 (by decide +kernel)
theorem dX2_round_9 : decode cX2_round 9 = .ok (.iconst 1, 1) := dk_4 (by decide +kernel)
theorem dX2_round_10 : decode cX2_round 10 = .ok (.aload_n 0, 1) := dk_42 (by decide +kernel)
theorem dX2_round_11 : decode cX2_round 11 = .ok (.getfield 98, 3) := dk_180 (by decide +kernel)
theorem dX2_round_14 : decode cX2_round 14 = .ok (.iconst 1, 1) := dk_4 (by decide +kernel)
theorem dX2_round_15 : decode cX2_round 15 = .ok (.isub, 1) := dk_100 (by decide +kernel)
theorem dX2_round_16 : decode cX2_round 16 = .ok (.ishl, 1) := dk_120 (by decide +kernel)
theorem dX2_round_17 : decode cX2_round 17 = .ok (.iconst 1, 1) := dk_4 (by decide +kernel)
theorem dX2_round_18 : decode cX2_round 18 = .ok (.isub, 1) := dk_100 (by decide +kernel)
theorem dX2_round_19 : decode cX2_round 19 = .ok (.istore_n 3, 1) := dk_62 (by decide +kernel)
theorem dX2_round_20 : decode cX2_round 20 = .ok (.iconst 0, 1) := dk_3 (by decide +kernel)
theorem dX2_round_21 : decode cX2_round 21 = .ok (.istore 4, 2) := dk_54 (by decide +kernel)
theorem dX2_round_23 : decode cX2_round 23 = .ok (.iload 4, 2) := dk_21 (by decide +kernel)
theorem dX2_round_25 : decode cX2_round 25 = .ok (.iload_n 3, 1) := dk_29 (by decide +kernel)
theorem dX2_round_26 : decode cX2_round 26 = .ok (.if_icmp .gt 48, 3) := dk_163 (by decide +kernel)
theorem dX2_round_29 : decode cX2_round 29 = .ok (.iconst 0, 1) := dk_3 (by decide +kernel)
theorem dX2_round_30 : decode cX2_round 30 = .ok (.istore 5, 2) := dk_54 (by decide +kernel)
theorem dX2_round_32 : decode cX2_round 32 = .ok (.iload 5, 2) := dk_21 (by decide +kernel)
theorem dX2_round_34 : decode cX2_round 34 = .ok (.aload_n 0, 1) := dk_42 (by decide +kernel)
theorem dX2_round_35 : decode cX2_round 35 = .ok (.getfield 98, 3) := dk_180 (by decide +kernel)
theorem dX2_round_38 : decode cX2_round 38 = .ok (.if_icmp .ge 30, 3) := dk_162 (by decide +kernel)
theorem dX2_round_41 : decode cX2_round 41 = .ok (.aload_n 0, 1) := dk_42 (by decide +kernel)
theorem dX2_round_42 : decode cX2_round 42 = .ok (.getfield 42, 3) := dk_180 (by decide +kernel)
theorem dX2_round_45 : decode cX2_round 45 = .ok (.iload 4, 2) := dk_21 (by decide +kernel)
theorem dX2_round_47 : decode cX2_round 47 = .ok (.bipush 8, 2) := dk_16 (by decide +kernel)
theorem dX2_round_49 : decode cX2_round 49 = .ok (.imul, 1) := dk_104 (by decide +kernel)
theorem dX2_round_50 : decode cX2_round 50 = .ok (.iload 5, 2) := dk_21 (by decide +kernel)
theorem dX2_round_52 : decode cX2_round 52 = .ok (.iadd, 1) := dk_96 (by decide +kernel)
theorem dX2_round_53 : decode cX2_round 53 = .ok (.aload_n 0, 1) := dk_42 (by decide +kernel)
theorem dX2_round_54 : decode cX2_round 54 = .ok (.iload 4, 2) := dk_21 (by decide +kernel)
theorem dX2_round_56 : decode cX2_round 56 = .ok (.iload 5, 2) := dk_21 (by decide +kernel)
theorem dX2_round_58 : decode cX2_round 58 = .ok (.invokevirtual 101, 3) := dk_182 (by decide +kernel)
theorem dX2_round_61 : decode cX2_round 61 = .ok (.iastore, 1) := dk_79 (by decide +kernel)
theorem dX2_round_62 : decode cX2_round 62 = .ok (.iinc 5 1, 3) := dk_132 (by decide +kernel)
theorem dX2_round_65 : decode cX2_round 65 = .ok (.goto (-33), 3) := dk_167 (by decide +kernel)
theorem dX2_round_68 : decode cX2_round 68 = .ok (.iinc 4 1, 3) := dk_132 (by decide +kernel)
theorem dX2_round_71 : decode cX2_round 71 = .ok (.goto (-48), 3) := dk_167 (by decide +kernel)
theorem dX2_round_74 : decode cX2_round 74 = .ok (.aload_n 0, 1) := dk_42 (by decide +kernel)
theorem dX2_round_75 : decode cX2_round 75 = .ok (.getfield 42, 3) := dk_180 (by decide +kernel)
theorem dX2_round_78 : decode cX2_round 78 = .ok (.iload_n 3, 1) := dk_29 (by decide +kernel)
theorem dX2_round_79 : decode cX2_round 79 = .ok (.bipush 8, 2) := dk_16 (by decide +kernel)
theorem dX2_round_81 : decode cX2_round 81 = .ok (.imul, 1) := dk_104 (by decide +kernel)
theorem dX2_round_82 : decode cX2_round 82 = .ok (.iaload, 1) := dk_46 (by decide +kernel)
theorem dX2_round_83 : decode cX2_round 83 = .ok (.istore 4, 2) := dk_54 (by decide +kernel)
theorem dX2_round_85 : decode cX2_round 85 = .ok (.iload 4, 2) := dk_21 (by decide +kernel)
theorem dX2_round_87 : decode cX2_round 87 = .ok (.ldc 60, 2) := dk_18 (by decide +kernel)
theorem dX2_round_89 : decode cX2_round 89 = .ok (.if_icmp .ge 9, 3) := dk_162 (by decide +kernel)
theorem dX2_round_92 : decode cX2_round 92 = .ok (.iload_n 2, 1) := dk_28 (by decide +kernel)
theorem dX2_round_93 : decode cX2_round 93 = .ok (.bipush (-2), 2) := dk_16 (by decide +kernel)
theorem dX2_round_95 : decode cX2_round 95 = .ok (.if_icmp .ne 17, 3) := dk_160 (by decide +kernel)
theorem dX2_round_98 : decode cX2_round 98 = .ok (.iload 4, 2) := dk_21 (by decide +kernel)
theorem dX2_round_100 : decode cX2_round 100 = .ok (.ldc 60, 2) := dk_18 (by decide +kernel)
theorem dX2_round_102 : decode cX2_round 102 = .ok (.if_icmp .lt 7, 3) := dk_161 (by decide +kernel)
theorem dX2_round_105 : decode cX2_round 105 = .ok (.iconst (-1), 1) := dk_2 (by decide +kernel)
theorem dX2_round_106 : decode cX2_round 106 = .ok (.goto 5, 3) := dk_167 (by decide +kernel)
theorem dX2_round_109 : decode cX2_round 109 = .ok (.iload 4, 2) := dk_21 (by decide +kernel)
theorem dX2_round_111 : decode cX2_round 111 = .ok (.ireturn, 1) := dk_172 (by decide +kernel)
theorem dX2_round_112 : decode cX2_round 112 = .ok (.iload_n 2, 1) := dk_28 (by decide +kernel)
theorem dX2_round_113 : decode cX2_round 113 = .ok (.ifCond .lt 11, 3) := dk_155 (by decide +kernel)
theorem dX2_round_116 : decode cX2_round 116 = .ok (.iload_n 2, 1) := dk_28 (by decide +kernel)
theorem dX2_round_117 : decode cX2_round 117 = .ok (.aload_n 0, 1) := dk_42 (by decide +kernel)
theorem dX2_round_118 : decode cX2_round 118 = .ok (.getfield 98, 3) := dk_180 (by decide +kernel)
theorem dX2_round_121 : decode cX2_round 121 = .ok (.if_icmp .lt 5, 3) := dk_161 (by decide +kernel)
theorem dX2_round_124 : decode cX2_round 124 = .ok (.iconst (-1), 1) := dk_2 (by decide +kernel)
theorem dX2_round_125 : decode cX2_round 125 = .ok (.ireturn, 1) := dk_172 (by decide +kernel)
theorem dX2_round_126 : decode cX2_round 126 = .ok (.iload_n 3, 1) := dk_29 (by decide +kernel)
theorem dX2_round_127 : decode cX2_round 127 = .ok (.istore 5, 2) := dk_54 (by decide +kernel)
theorem dX2_round_129 : decode cX2_round 129 = .ok (.iconst 0, 1) := dk_3 (by decide +kernel)
theorem dX2_round_130 : decode cX2_round 130 = .ok (.istore 6, 2) := dk_54 (by decide +kernel)
theorem dX2_round_132 : decode cX2_round 132 = .ok (.iconst 0, 1) := dk_3 (by decide +kernel)
theorem dX2_round_133 : decode cX2_round 133 = .ok (.istore 7, 2) := dk_54 (by decide +kernel)
theorem dX2_round_135 : decode cX2_round 135 = .ok (.iload 7, 2) := dk_21 (by decide +kernel)
theorem dX2_round_137 : decode cX2_round 137 = .ok (.iload_n 2, 1) := dk_28 (by decide +kernel)
theorem dX2_round_138 : decode cX2_round 138 = .ok (.if_icmp .ge 32, 3) := dk_162 (by decide +kernel)
theorem dX2_round_141 : decode cX2_round 141 = .ok (.aload_n 0, 1) := dk_42 (by decide +kernel)
theorem dX2_round_142 : decode cX2_round 142 = .ok (.iload 5, 2) := dk_21 (by decide +kernel)
theorem dX2_round_144 : decode cX2_round 144 = .ok (.iload 6, 2) := dk_21 (by decide +kernel)
theorem dX2_round_146 : decode cX2_round 146 = .ok (.invokevirtual 104, 3) := dk_182 (by decide +kernel)
theorem dX2_round_149 : decode cX2_round 149 = .ok (.istore 6, 2) := dk_54 (by decide +kernel)
theorem dX2_round_151 : decode cX2_round 151 = .ok (.iload 5, 2) := dk_21 (by decide +kernel)
theorem dX2_round_153 : decode cX2_round 153 = .ok (.iconst 1, 1) := dk_4 (by decide +kernel)
theorem dX2_round_154 : decode cX2_round 154 = .ok (.iload 6, 2) := dk_21 (by decide +kernel)
theorem dX2_round_156 : decode cX2_round 156 = .ok (.iconst 1, 1) := dk_4 (by decide +kernel)
theorem dX2_round_157 : decode cX2_round 157 = .ok (.isub, 1) := dk_100 (by decide +kernel)
theorem dX2_round_158 : decode cX2_round 158 = .ok (.ishl, 1) := dk_120 (by decide +kernel)
theorem dX2_round_159 : decode cX2_round 159 = .ok (.iconst (-1), 1) := dk_2 (by decide +kernel)
theorem dX2_round_160 : decode cX2_round 160 = .ok (.ixor, 1) := dk_130 (by decide +kernel)
theorem dX2_round_161 : decode cX2_round 161 = .ok (.iand, 1) := dk_126 (by decide +kernel)
theorem dX2_round_162 : decode cX2_round 162 = .ok (.istore 5, 2) := dk_54 (by decide +kernel)
theorem dX2_round_164 : decode cX2_round 164 = .ok (.iinc 7 1, 3) := dk_132 (by decide +kernel)
theorem dX2_round_167 : decode cX2_round 167 = .ok (.goto (-32), 3) := dk_167 (by decide +kernel)
theorem dX2_round_170 : decode cX2_round 170 = .ok (.aload_n 0, 1) := dk_42 (by decide +kernel)
theorem dX2_round_171 : decode cX2_round 171 = .ok (.getfield 36, 3) := dk_180 (by decide +kernel)
theorem dX2_round_174 : decode cX2_round 174 = .ok (.iload 6, 2) := dk_21 (by decide +kernel)
theorem dX2_round_176 : decode cX2_round 176 = .ok (.iaload, 1) := dk_46 (by decide +kernel)
theorem dX2_round_177 : decode cX2_round 177 = .ok (.ireturn, 1) := dk_172 (by decide +kernel)
def wsMX2_round : List Cond := .code yX2_round cX2_round 8 (some .int) :: ([.fieldLink RX2 98 "OptimaWorks$NetDesk" "stops" "I", .fieldLink RX2 42 "OptimaWorks$NetDesk" "rest" "[I", .constant RX2 60 536870912, .fieldLink RX2 36 "OptimaWorks$NetDesk" "stop" "[I"] ++ wsX20 ++ (wsV RX2 92 RX2 yX2_takeStops wsMX2_takeStops) ++ (wsV RX2 95 RX2 yX2_takePrices wsMX2_takePrices) ++ (wsV RX2 101 RX2 yX2_restFrom wsMX2_restFrom) ++ (wsV RX2 104 RX2 yX2_nextStop wsMX2_nextStop))
theorem iwsMX2_round_in2 : ∀ w ∈ wsX20, w ∈ wsMX2_round := fun _ h => List.mem_cons_of_mem _ (List.mem_append_left _ (List.mem_append_left _ (List.mem_append_left _ (List.mem_append_left _ (List.mem_append_right _ h)))))
theorem gwsMX2_round_0 : GoodIn wsMX2_round (wsV RX2 92 RX2 yX2_takeStops wsMX2_takeStops) := goodIn_sub (fun _ h => List.mem_cons_of_mem _ (List.mem_append_left _ (List.mem_append_left _ (List.mem_append_left _ (List.mem_append_right _ h))))) (gdV (by decide +kernel) gdwsMX2_takeStops)
theorem gwsMX2_round_1 : GoodIn wsMX2_round (wsV RX2 95 RX2 yX2_takePrices wsMX2_takePrices) := goodIn_sub (fun _ h => List.mem_cons_of_mem _ (List.mem_append_left _ (List.mem_append_left _ (List.mem_append_right _ h)))) (gdV (by decide +kernel) gdwsMX2_takePrices)
theorem gwsMX2_round_2 : GoodIn wsMX2_round (wsV RX2 101 RX2 yX2_restFrom wsMX2_restFrom) := goodIn_sub (fun _ h => List.mem_cons_of_mem _ (List.mem_append_left _ (List.mem_append_right _ h))) (gdV (by decide +kernel) gdwsMX2_restFrom)
theorem gwsMX2_round_3 : GoodIn wsMX2_round (wsV RX2 104 RX2 yX2_nextStop wsMX2_nextStop) := goodIn_sub (fun _ h => List.mem_cons_of_mem _ (List.mem_append_right _ h)) (gdV (by decide +kernel) gdwsMX2_nextStop)
theorem gdwsMX2_round : wsMX2_round.all goodWord = true := gdC rfl (gdA (gdA (gdA (gdA (gdA (by decide +kernel : ([.fieldLink RX2 98 "OptimaWorks$NetDesk" "stops" "I", .fieldLink RX2 42 "OptimaWorks$NetDesk" "rest" "[I", .constant RX2 60 536870912, .fieldLink RX2 36 "OptimaWorks$NetDesk" "stop" "[I"] : List Cond).all goodWord = true) gdwsX20) (gdV (by decide +kernel) gdwsMX2_takeStops)) (gdV (by decide +kernel) gdwsMX2_takePrices)) (gdV (by decide +kernel) gdwsMX2_restFrom)) (gdV (by decide +kernel) gdwsMX2_nextStop))
set_option maxHeartbeats 4000000 in
set_option maxRecDepth 100000 in
/-- a tour -/
theorem m_X2_round (l : Launch) (dC : Nat → ClassId) (dI : Nat → Nat → Nat) (hN : Nat → Nat) (aN : Nat → Nat) (kN : Nat → ClassId) (iN_arcs : Int32) (fN_from : Nat → Int32) (fN_to : Nat → Int32) (fN_room : Nat → Int32) (fN_cost : Nat → Int32) (iN_reached : Int32) (fN_free : Nat → Int32) (fN_before : Nat → Int32) (fN_flow : Nat → Int32) (fN_length : Nat → Int32) (fN_stop : Nat → Int32) (iN_stops : Int32) (fN_price : Nat → Int32) (fN_rest : Nat → Int32) (p1 : Int32) (p2 : Int32) (b_iN_arcs : 0 ≤ iN_arcs.toInt ∧ iN_arcs.toInt ≤ 40) (b_fN_from : ∀ q : Nat, 0 ≤ (fN_from q).toInt ∧ (fN_from q).toInt ≤ 11) (b_fN_to : ∀ q : Nat, 0 ≤ (fN_to q).toInt ∧ (fN_to q).toInt ≤ 11) (b_fN_before : ∀ q : Nat, 0 ≤ (fN_before q).toInt ∧ (fN_before q).toInt ≤ 79) (b_fN_stop : ∀ q : Nat, 0 ≤ (fN_stop q).toInt ∧ (fN_stop q).toInt ≤ 11) (b_iN_stops : 0 ≤ iN_stops.toInt ∧ iN_stops.toInt ≤ 8) (b_p1 : 1 ≤ p1.toInt ∧ p1.toInt ≤ 4095) (hVal : tVal (iN_arcs.toInt, fN_from, fN_to, fN_room, fN_cost)) (h28 : 2 ≤ (cntB (bI p1) 12) ∧ (cntB (bI p1) 12) ≤ 8) (sz : Nat) : Met l yX2_round wsMX2_round ({ frames := 3, cells := 0, slots := 0, locals := 60 }) (va_Pc [.ref (hN 0), .int p1, .int p2] (fun U => U.heap.size = sz ∧ va_P (dC, dI) vwCl (WN hN aN kN iN_arcs fN_from fN_to fN_room fN_cost iN_reached fN_free fN_before fN_flow fN_length fN_stop iN_stops fN_price fN_rest) U.heap ∧ va_K (dC, dI) vwCl (tN kN) U ∧ va_D (fun _ => True) (WN hN aN kN iN_arcs fN_from fN_to fN_room fN_cost iN_reached fN_free fN_before fN_flow fN_length fN_stop iN_stops fN_price fN_rest))) (va_Qi (fun (r : Int32) (u : (Nat → Int32) × (Int32) × (Nat → Int32) × (Nat → Int32)) => (∀ q : Nat, 0 ≤ ((u.1) q).toInt ∧ ((u.1) q).toInt ≤ 11) ∧ (0 ≤ (u.2.1).toInt ∧ (u.2.1).toInt ≤ 8) ∧ (tuA (iN_arcs.toInt, fN_from, fN_to, fN_room, fN_cost) (bI p1) p2.toInt r.toInt)) (fun (u : (Nat → Int32) × (Int32) × (Nat → Int32) × (Nat → Int32)) t => va_P (dC, dI) vwCl (WN hN aN kN iN_arcs fN_from fN_to fN_room fN_cost iN_reached fN_free fN_before fN_flow fN_length (u.1) (u.2.1) (u.2.2.1) (u.2.2.2)) t.heap ∧ va_D (va_A (WN hN aN kN iN_arcs fN_from fN_to fN_room fN_cost iN_reached fN_free fN_before fN_flow fN_length fN_stop iN_stops fN_price fN_rest) sz) (WN hN aN kN iN_arcs fN_from fN_to fN_room fN_cost iN_reached fN_free fN_before fN_flow fN_length (u.1) (u.2.1) (u.2.2.1) (u.2.2.2))) (va_A (WN hN aN kN iN_arcs fN_from fN_to fN_room fN_cost iN_reached fN_free fN_before fN_flow fN_length fN_stop iN_stops fN_price fN_rest) sz)) 0 0 (va_A (WN hN aN kN iN_arcs fN_from fN_to fN_room fN_cost iN_reached fN_free fN_before fN_flow fN_length fN_stop iN_stops fN_price fN_rest) sz) := by
  refine Met.ofW (cc := cX2_round) (maxL := 8) (ret := (some .int)) (by decide) rfl ?_
  intro p e s m args below meth c s₁ B hml hv
  obtain ⟨rfl, hsz, hP, hK, hD0⟩ := hv
  have hx := B.exec
  have hb := B.bytes
  have hr := B.returns
  have hts := atoms_spec (ws := wsMX2_round) B.pre
  have hown : s.vm.findClass RX2 = some m.cls := findClass_of_methodNamed B.named
  have hlocks := B.notSynchronized
  subst hsz
  have hD := hD0.self (sz := s.heap.size)
  generalize hAe : va_A (WN hN aN kN iN_arcs fN_from fN_to fN_room fN_cost iN_reached fN_free fN_before fN_flow fN_length fN_stop iN_stops fN_price fN_rest) s.heap.size = A at hD ⊢
  have hA : ∀ q : Nat, s.heap.size ≤ q → A q := fun q h => by rw [← hAe]; exact Or.inr h
  have hS : va_S A s.heap s.heap [] := va_S.rf
  have hl := lv_entry ([.ref (hN 0), .int p1, .int p2]) (n := 8) (Nat.le_of_ble_eq_true rfl)
  rw [lg_entry_eq]
  generalize (lg_sl ([.ref (hN 0), .int p1, .int p2]) ++ List.replicate (8 - (lg_sl ([.ref (hN 0), .int p1, .int p2])).length) Slot.unset).toArray = ls at hl ⊢
  have hl : lv_has ls 8 [(0, .ref (hN 0)), (1, .int p1), (2, .int p2)] := hl
  refine lv_aload_n hx hb dX2_round_0 rfl (lv_at hl 0 rfl) ?_
  refine lv_iload_n hx hb dX2_round_1 rfl (lv_at hl 1 rfl) ?_
  have hFc := allFree hD hS hA
  refine va_callv (va_runV (As := [.int p1]) (rest := []) ⟨hx, hb, hml, hown, hts⟩ (m_X2_takeStops l dC dI hN aN kN iN_arcs fN_from fN_to fN_room fN_cost iN_reached fN_free fN_before fN_flow fN_length fN_stop iN_stops fN_price fN_rest p1 (b_iN_arcs) b_fN_from b_fN_to b_fN_before b_fN_stop (b_iN_stops) (b_p1) (h28.2) s.heap.size) (cwV 1 hts gwsMX2_round_0 rfl rfl rfl hd_yX2_takeStops_RX2 (by decide +kernel)) (fz_pre (va_recv hK hP (ci := 2) (q0 := 0) rfl rfl) hP hK hD) rfl rfl hl.1 rfl (lv_room (Nat.le_of_ble_eq_true rfl)) dX2_round_2 (by decide +kernel)) hS (fun q _ h => hFc q h) hFc (fun u t9_ H locs ht hvm hw9 hB9 hz1 hk1 hS => ?_)
  obtain ⟨fN_stop_1, iN_stops_1⟩ := u
  try dsimp only at hw9 hB9
  obtain ⟨b_fN_stop_1, b_iN_stops_1, f1_0, f1_1⟩ := hw9
  have hP : va_P (dC, dI) vwCl (WN hN aN kN iN_arcs fN_from fN_to fN_room fN_cost iN_reached fN_free fN_before fN_flow fN_length fN_stop_1 iN_stops_1 fN_price fN_rest) H := fz_P ht hB9.1
  have hD : va_D A (WN hN aN kN iN_arcs fN_from fN_to fN_room fN_cost iN_reached fN_free fN_before fN_flow fN_length fN_stop_1 iN_stops_1 fN_price fN_rest) := hB9.2.weaken (fun _ q _ h => hFc q.1 h)
  have hSt1 := f1_0
  have hSt2 := f1_1
  have hSs := hSt2.1
  refine lv_aload_n hx hb dX2_round_5 rfl (lv_at hl 0 rfl) ?_
  have hFc := allFree hD hS hA
  refine va_callv (va_runV (As := []) (rest := []) ⟨hx, hb, hml, hown, hts⟩ (m_X2_takePrices l dC dI hN aN kN iN_arcs fN_from fN_to fN_room fN_cost iN_reached fN_free fN_before fN_flow fN_length fN_stop_1 iN_stops_1 fN_price fN_rest (b_iN_arcs) b_fN_from b_fN_to b_fN_before b_fN_stop_1 (b_iN_stops_1) H.size) (cwV 0 hts gwsMX2_round_1 rfl rfl rfl hd_yX2_takePrices_RX2 (by decide +kernel)) (fz_pre (va_recv hK hP (ci := 2) (q0 := 0) rfl rfl) hP hK hD) rfl rfl hl.1 rfl (lv_room (Nat.le_of_ble_eq_true rfl)) dX2_round_6 (by decide +kernel)) hS (fun q _ h => hFc q h) hFc (fun u t9_ H locs ht hvm hw9 hB9 hz1 hk1 hS => ?_)
  obtain ⟨fN_price_2, hwit2⟩ : ∃ w9, w9 = u := ⟨u, rfl⟩
  subst hwit2
  have f2_0 := hw9
  try dsimp only at f2_0
  have hP : va_P (dC, dI) vwCl (WN hN aN kN iN_arcs fN_from fN_to fN_room fN_cost iN_reached fN_free fN_before fN_flow fN_length fN_stop_1 iN_stops_1 fN_price_2 fN_rest) H := fz_P ht hB9.1
  have hD : va_D A (WN hN aN kN iN_arcs fN_from fN_to fN_room fN_cost iN_reached fN_free fN_before fN_flow fN_length fN_stop_1 iN_stops_1 fN_price_2 fN_rest) := hB9.2.weaken (fun _ q _ h => hFc q.1 h)
  have hPr0 := f2_0
  have eN : iN_stops_1.toInt.toNat = (cntB (bI p1) 12) := by omega
  have hPr : ∀ x y, x < (cntB (bI p1) 12) → y < (cntB (bI p1) 12) → tuTab fN_price_2 x y = (fun x y => tuL (iN_arcs.toInt, fN_from, fN_to, fN_room, fN_cost) (tuK (bI p1) x) (tuK (bI p1) y) (iN_arcs.toInt, fN_from, fN_to, fN_room, fN_cost).1.toNat) x y := fun x y hx hy => (hPr0 x y (by omega) (by omega)).trans (by rw [hSt2.2 x hx, hSt2.2 y hy]; rfl)
  have hPP : tuP (fun x y => tuL (iN_arcs.toInt, fN_from, fN_to, fN_room, fN_cost) (tuK (bI p1) x) (tuK (bI p1) y) (iN_arcs.toInt, fN_from, fN_to, fN_room, fN_cost).1.toNat) := tuPd hVal (by (try dsimp only); omega) (bI p1)
  have hPb9 : ∀ x y, x < (cntB (bI p1) 12) → y < (cntB (bI p1) 12) → 0 ≤ tuTab fN_price_2 x y ∧ tuTab fN_price_2 x y ≤ 536870912 := fun x y hx hy => by rw [hPr x y hx hy]; (have h9 := hPP x y); unfold tuR at h9; omega
  refine lv_iconst (v := 1) hx hb dX2_round_9 (by decide) ?_
  refine lv_aload_n hx hb dX2_round_10 rfl (lv_at hl 0 rfl) ?_
  refine va_get (D := (dC, dI)) (ci := 2) (v := .int iN_stops_1) (C := RX2) (T := TX2) (N := 14) hx hb hts iwsMX2_round_in2 hown hK hP 0 rfl rfl 11 (by decide) (hts (.fieldLink RX2 98 "OptimaWorks$NetDesk" "stops" "I") (by decide +kernel)) (fun _ h9 => h9) rfl dX2_round_11 ?_
  refine lv_iconst (v := 1) hx hb dX2_round_14 (by decide) ?_
  refine lv_isub hx hb dX2_round_15 ?_
  refine lv_topi (fun y3 hy3 => ?_)
  obtain rfl : (iI (iN_stops_1.toInt - 1)) = y3 := (hy3.trans (iI_sub2 (iI_of _) (by decide : (1 : Int32) = iI 1))).symm
  refine lv_ishl hx hb dX2_round_16 ?_
  refine lv_topi (fun v4 hv4 => ?_)
  have b_v4 : 1 ≤ v4.toInt ∧ v4.toInt ≤ 128 := by rw [hv4]; exact shl1_t (k := 7) (iI_t (Int.le_trans (by decide) (Int.sub_le_sub (b_iN_stops_1.1) (Int.le_refl _))) (Int.le_trans (Int.sub_le_sub (b_iN_stops_1.2) (Int.le_refl _)) (by decide))) (by omega) (by omega) (by decide)
  have b1_v4 : v4.toInt = ((2 ^ ((cntB (bI p1) 12) - 1) : Nat) : Int) := by rw [hv4]; exact tuShl (by rw [iI_t (by omega) (by omega)]; omega) (by omega)
  clear hv4
  refine lv_iconst (v := 1) hx hb dX2_round_17 (by decide) ?_
  refine lv_isub hx hb dX2_round_18 ?_
  refine lv_topi (fun y5 hy5 => ?_)
  obtain rfl : (iI (v4.toInt - 1)) = y5 := (hy5.trans (iI_sub2 (iI_of _) (by decide : (1 : Int32) = iI 1))).symm
  refine lv_istore_n hx hb dX2_round_19 rfl hl (by decide) rfl (fun ls (hl : lv_has ls _ ([(3, .int (iI (v4.toInt - 1))), (0, .ref (hN 0)), (1, .int p1), (2, .int p2)])) => ?_)
  refine lv_iconst (v := 0) hx hb dX2_round_20 (by decide) ?_
  refine lv_istore hx hb dX2_round_21 hl (by decide) rfl (fun ls (hl : lv_has ls _ ([(4, .int 0), (3, .int (iI (v4.toInt - 1))), (0, .ref (hN 0)), (1, .int p1), (2, .int p2)])) => ?_)
  have hl : lv_has _ _ ([(4, .int 0), (3, .int (iI (v4.toInt - 1))), (0, .ref (hN 0)), (1, .int p1), (2, .int p2)]) := lv_sub hl [0, 1, 2, 3, 4] rfl
  refine (fun (loop : ∀ (n9 : Nat) (fN_rest_x23 : Nat → Int32) (l4_x23 : Int32) (H : Heap) (locs : List Loc) (ls : Array Slot), (0 ≤ l4_x23.toInt ∧ l4_x23.toInt ≤ 128) → (tuTb (fun x y => tuL (iN_arcs.toInt, fN_from, fN_to, fN_room, fN_cost) (tuK (bI p1) x) (tuK (bI p1) y) (iN_arcs.toInt, fN_from, fN_to, fN_room, fN_cost).1.toNat) (cntB (bI p1) 12) fN_rest_x23 l4_x23.toInt.toNat 0) → (128 - l4_x23.toInt < ((n9 : Nat) : Int)) → va_P (dC, dI) vwCl (WN hN aN kN iN_arcs fN_from fN_to fN_room fN_cost iN_reached fN_free fN_before fN_flow fN_length fN_stop_1 iN_stops_1 fN_price_2 fN_rest_x23) H → va_D A (WN hN aN kN iN_arcs fN_from fN_to fN_room fN_cost iN_reached fN_free fN_before fN_flow fN_length fN_stop_1 iN_stops_1 fN_price_2 fN_rest_x23) → va_S A s.heap H locs → lv_has ls 8 [(4, .int l4_x23), (3, .int (iI (v4.toInt - 1))), (0, .ref (hN 0)), (1, .int p1), (2, .int p2)] → W p l e _ s m _ below meth c H locs 0 0 _ (F0 m 23 ls [])) => loop (129) fN_rest 0 _ _ _ (show 0 ≤ (0 : Int32).toInt ∧ (0 : Int32).toInt ≤ 128 from by decide) (show tuTb (fun x y => tuL (iN_arcs.toInt, fN_from, fN_to, fN_room, fN_cost) (tuK (bI p1) x) (tuK (bI p1) y) (iN_arcs.toInt, fN_from, fN_to, fN_room, fN_cost).1.toNat) (cntB (bI p1) 12) fN_rest (0 : Int32).toInt.toNat 0 from tuTb.start (by decide) rfl) ((by have e9 : (0 : Int32).toInt = 0 := (by decide : (0 : Int32).toInt = 0); omega)) hP hD hS hl) ?_
  intro n9
  induction n9 with
  | zero => intro fN_rest_x23 l4_x23 H locs ls b_l4_x23 hTa hf9; exact False.elim (by omega)
  | succ n9 ihx23 =>
    intro fN_rest_x23 l4_x23 H locs ls b_l4_x23 hTa hfx23 hP hD hS hl
    refine lv_iload hx hb dX2_round_23 (lv_at hl 0 rfl) ?_
    refine lv_iload_n hx hb dX2_round_25 rfl (lv_at hl 1 rfl) ?_
    refine lv_icmp_gt (tgt := 74) hx hb dX2_round_26 (by decide) (fun c_26 => ?_) (fun c_26 => ?_)
    · have t_26 : l4_x23.toInt > (v4.toInt - 1) := toI_gt c_26 rfl (iI_t (Int.le_trans (by decide) (Int.sub_le_sub (b_v4.1) (Int.le_refl _))) (Int.le_trans (Int.sub_le_sub (b_v4.2) (Int.le_refl _)) (by decide)))
      have hTT : tuT (fun x y => tuL (iN_arcs.toInt, fN_from, fN_to, fN_room, fN_cost) (tuK (bI p1) x) (tuK (bI p1) y) (iN_arcs.toInt, fN_from, fN_to, fN_room, fN_cost).1.toNat) (cntB (bI p1) 12) (tuTab fN_rest_x23) := tuTb.done hTa (by omega)
      refine lv_aload_n hx hb dX2_round_74 rfl (lv_at hl 2 rfl) ?_
      refine va_get (D := (dC, dI)) (ci := 2) (v := .ref (aN 10)) (C := RX2) (T := TX2) (N := 14) hx hb hts iwsMX2_round_in2 hown hK hP 0 rfl rfl 13 (by decide) (hts (.fieldLink RX2 42 "OptimaWorks$NetDesk" "rest" "[I") (by decide +kernel)) (fun _ h9 => h9) rfl dX2_round_75 ?_
      refine lv_iload_n hx hb dX2_round_78 rfl (lv_at hl 1 rfl) ?_
      refine lv_bipush (v := 8) hx hb dX2_round_79 (by decide) ?_
      refine lv_imul hx hb dX2_round_81 ?_
      refine lv_topi (fun y196 hy196 => ?_)
      obtain rfl : (iI ((v4.toInt - 1) * 8)) = y196 := (hy196.trans (iI_mul2 rfl (by decide : (8 : Int32) = iI 8))).symm
      refine va_iald (cA := kN 10) (n := 1024) (f := fN_rest_x23) hx hb hK hP 11 10 rfl rfl (vp_iI (Int.le_trans (by decide) (Int.mul_le_mul_of_nonneg_right (Int.sub_le_sub (b_v4.1) (Int.le_refl _)) (by decide))) (Int.lt_of_le_of_lt (Int.mul_le_mul_of_nonneg_right (Int.sub_le_sub (b_v4.2) (Int.le_refl _)) (by decide)) (by decide)) (by decide)) dX2_round_82 ?_
      refine lv_topi (fun v197 hv197 => ?_)
      have b_v197 : v197.toInt = tuTab fN_rest_x23 (2 ^ ((cntB (bI p1) 12) - 1) - 1) 0 := by rw [hv197]; exact (by show (fN_rest_x23 (iI ((v4.toInt - 1) * 8)).toInt.toNat).toInt = (fN_rest_x23 (8 * (2 ^ ((cntB (bI p1) 12) - 1) - 1) + 0)).toInt; rw [iI_t (by omega) (by omega)]; congr 2; omega)
      clear hv197
      refine lv_istore hx hb dX2_round_83 hl (by decide) rfl (fun ls (hl : lv_has ls _ ([(4, .int v197), (3, .int (iI (v4.toInt - 1))), (0, .ref (hN 0)), (1, .int p1), (2, .int p2)])) => ?_)
      refine lv_iload hx hb dX2_round_85 (lv_at hl 0 rfl) ?_
      refine lv_ldc (v := 536870912) hx hb hown (hts (.constant RX2 60 536870912) (by decide +kernel)) dX2_round_87 ?_
      refine lv_icmp_ge (tgt := 98) hx hb dX2_round_89 (by decide) (fun c_89 => ?_) (fun c_89 => ?_)
      · have t_89 : v197.toInt ≥ 536870912 := toI_ge c_89 rfl (by decide : (536870912 : Int32).toInt = 536870912)
        refine lv_iload hx hb dX2_round_98 (lv_at hl 0 rfl) ?_
        refine lv_ldc (v := 536870912) hx hb hown (hts (.constant RX2 60 536870912) (by decide +kernel)) dX2_round_100 ?_
        refine W.cut (pc := 111) (fun H locs ls stk => ∃ (k0_j11 : Int32), ((k0_j11.toInt = -1 ∧ ¬ v197.toInt < 536870912) ∨ (v197.toInt < 536870912 ∧ k0_j11.toInt = v197.toInt)) ∧  stk = [.int k0_j11] ∧ va_P (dC, dI) vwCl (WN hN aN kN iN_arcs fN_from fN_to fN_room fN_cost iN_reached fN_free fN_before fN_flow fN_length fN_stop_1 iN_stops_1 fN_price_2 fN_rest_x23) H ∧ va_D A (WN hN aN kN iN_arcs fN_from fN_to fN_room fN_cost iN_reached fN_free fN_before fN_flow fN_length fN_stop_1 iN_stops_1 fN_price_2 fN_rest_x23) ∧ va_S A s.heap H locs ∧ lv_has ls 8 [(4, .int v197), (3, .int (iI (v4.toInt - 1))), (0, .ref (hN 0)), (1, .int p1), (2, .int p2)]) (fun join11 => ?_) ?_
        · refine lv_icmp_lt (tgt := 109) hx hb dX2_round_102 (by decide) (fun c_102 => ?_) (fun c_102 => ?_)
          · have t_102 : v197.toInt < 536870912 := toI_lt c_102 rfl (by decide : (536870912 : Int32).toInt = 536870912)
            refine lv_iload hx hb dX2_round_109 (lv_at hl 0 rfl) ?_
            have hl : lv_has _ _ ([(4, .int v197), (3, .int (iI (v4.toInt - 1))), (0, .ref (hN 0)), (1, .int p1), (2, .int p2)]) := lv_sub hl [0, 1, 2, 3, 4] rfl
            exact join11 _ _ _ _ ⟨v197, (show (v197.toInt = -1 ∧ ¬ v197.toInt < 536870912) ∨ (v197.toInt < 536870912 ∧ v197.toInt = v197.toInt) from by first | exact Or.inl ⟨by decide, by omega⟩ | exact Or.inr ⟨by omega, rfl⟩), rfl, hP, hD, hS, hl⟩
          · have t_102 : ¬ v197.toInt < 536870912 := toI_nlt c_102 rfl (by decide : (536870912 : Int32).toInt = 536870912)
            refine lv_iconst (v := (-1)) hx hb dX2_round_105 (by decide) ?_
            refine lv_goto (tgt := 111) hx hb dX2_round_106 (by decide) ?_
            have hl : lv_has _ _ ([(4, .int v197), (3, .int (iI (v4.toInt - 1))), (0, .ref (hN 0)), (1, .int p1), (2, .int p2)]) := lv_sub hl [0, 1, 2, 3, 4] rfl
            exact join11 _ _ _ _ ⟨(-1), (show (((-1) : Int32).toInt = -1 ∧ ¬ v197.toInt < 536870912) ∨ (v197.toInt < 536870912 ∧ ((-1) : Int32).toInt = v197.toInt) from by first | exact Or.inl ⟨by decide, by omega⟩ | exact Or.inr ⟨by omega, rfl⟩), rfl, hP, hD, hS, hl⟩
        · rintro H locs ls stk ⟨k0_j11, hk9, rfl, hP, hD, hS, hl⟩
          refine W.widen (k := 0) (n := 0) (by decide +kernel) (by decide +kernel) ?_
          exact W.iret (v := k0_j11) hx hb hr (fun t9_ ht hW => ⟨⟨k0_j11, (fN_stop_1, iN_stops_1, fN_price_2, fN_rest_x23), rfl, ⟨b_fN_stop_1, (by (try dsimp only); exact (b_iN_stops_1)), (by (try dsimp only); exact (hk9.elim (fun h9 => tuA.none hVal (by (try dsimp only); omega) (by omega) (by omega) hTT (by (have h8 := h9.2); omega) h9.1) (fun h9 => tuA.cost hVal (by (try dsimp only); omega) (by omega) (by omega) hTT (by (have h8 := h9.1); omega) (by (have h8 := h9.1); omega) (h9.2.trans b_v197))))⟩, by rw [ht]; exact hP, hD⟩, hS.F ht⟩) hS.2.2 dX2_round_111
      · have t_89 : ¬ v197.toInt ≥ 536870912 := toI_nge c_89 rfl (by decide : (536870912 : Int32).toInt = 536870912)
        refine lv_iload_n hx hb dX2_round_92 rfl (lv_at hl 4 rfl) ?_
        refine lv_bipush (v := (-2)) hx hb dX2_round_93 (by decide) ?_
        refine lv_icmp_ne (tgt := 112) hx hb dX2_round_95 (by decide) (fun c_95 => ?_) (fun c_95 => ?_)
        · have t_95 : p2.toInt ≠ (-2) := toI_ne c_95 rfl (by decide : ((-2) : Int32).toInt = (-2))
          refine lv_iload_n hx hb dX2_round_112 rfl (lv_at hl 4 rfl) ?_
          refine lv_if_lt (tgt := 124) hx hb dX2_round_113 (by decide) (fun c_113 => ?_) (fun c_113 => ?_)
          · have t_113 : p2.toInt < 0 := toI_lt c_113 rfl (by decide : (0 : Int32).toInt = 0)
            refine lv_iconst (v := (-1)) hx hb dX2_round_124 (by decide) ?_
            refine W.widen (k := 0) (n := 0) (by decide +kernel) (by decide +kernel) ?_
            exact W.iret (v := (-1)) hx hb hr (fun t9_ ht hW => ⟨⟨((-1) : Int32), (fN_stop_1, iN_stops_1, fN_price_2, fN_rest_x23), rfl, ⟨b_fN_stop_1, (by (try dsimp only); exact (b_iN_stops_1)), (by (try dsimp only); exact (tuA.out hVal (by (try dsimp only); omega) (by omega) (by omega) hTT (by omega) (by omega) (by omega) (by decide)))⟩, by rw [ht]; exact hP, hD⟩, hS.F ht⟩) hS.2.2 dX2_round_125
          · have t_113 : ¬ p2.toInt < 0 := toI_nlt c_113 rfl (by decide : (0 : Int32).toInt = 0)
            refine lv_iload_n hx hb dX2_round_116 rfl (lv_at hl 4 rfl) ?_
            refine lv_aload_n hx hb dX2_round_117 rfl (lv_at hl 2 rfl) ?_
            refine va_get (D := (dC, dI)) (ci := 2) (v := .int iN_stops_1) (C := RX2) (T := TX2) (N := 14) hx hb hts iwsMX2_round_in2 hown hK hP 0 rfl rfl 11 (by decide) (hts (.fieldLink RX2 98 "OptimaWorks$NetDesk" "stops" "I") (by decide +kernel)) (fun _ h9 => h9) rfl dX2_round_118 ?_
            refine lv_icmp_lt (tgt := 126) hx hb dX2_round_121 (by decide) (fun c_121 => ?_) (fun c_121 => ?_)
            · have t_121 : p2.toInt < iN_stops_1.toInt := toI_lt c_121 rfl rfl
              have hlt9 : tuTab fN_rest_x23 (2 ^ ((cntB (bI p1) 12) - 1) - 1) 0 < 536870912 := by omega
              have hOv := tuO_v hPP hTT (by omega) (by omega) hlt9
              refine lv_iload_n hx hb dX2_round_126 rfl (lv_at hl 1 rfl) ?_
              refine lv_istore hx hb dX2_round_127 hl (by decide) rfl (fun ls (hl : lv_has ls _ ([(5, .int (iI (v4.toInt - 1))), (4, .int v197), (3, .int (iI (v4.toInt - 1))), (0, .ref (hN 0)), (1, .int p1), (2, .int p2)])) => ?_)
              refine lv_iconst (v := 0) hx hb dX2_round_129 (by decide) ?_
              refine lv_istore hx hb dX2_round_130 hl (by decide) rfl (fun ls (hl : lv_has ls _ ([(6, .int 0), (5, .int (iI (v4.toInt - 1))), (4, .int v197), (3, .int (iI (v4.toInt - 1))), (0, .ref (hN 0)), (1, .int p1), (2, .int p2)])) => ?_)
              refine lv_iconst (v := 0) hx hb dX2_round_132 (by decide) ?_
              refine lv_istore hx hb dX2_round_133 hl (by decide) rfl (fun ls (hl : lv_has ls _ ([(7, .int 0), (6, .int 0), (5, .int (iI (v4.toInt - 1))), (4, .int v197), (3, .int (iI (v4.toInt - 1))), (0, .ref (hN 0)), (1, .int p1), (2, .int p2)])) => ?_)
              have hl : lv_has _ _ ([(7, .int 0), (6, .int 0), (5, .int (iI (v4.toInt - 1))), (4, .int v197), (3, .int (iI (v4.toInt - 1))), (0, .ref (hN 0)), (1, .int p1), (2, .int p2)]) := lv_sub hl [0, 1, 2, 3, 4, 5, 6, 7] rfl
              refine (fun (loop : ∀ (n9 : Nat) (l7_x135 : Int32) (l6_x135 : Int32) (l5_x135 : Int32) (H : Heap) (locs : List Loc) (ls : Array Slot), (0 ≤ l7_x135.toInt ∧ l7_x135.toInt ≤ 8) → (0 ≤ l6_x135.toInt ∧ l6_x135.toInt ≤ 7) → (0 ≤ l5_x135.toInt ∧ l5_x135.toInt ≤ 127) → (l5_x135.toInt.toNat = tuF (cntB (bI p1) 12) (tuO (fun x y => tuL (iN_arcs.toInt, fN_from, fN_to, fN_room, fN_cost) (tuK (bI p1) x) (tuK (bI p1) y) (iN_arcs.toInt, fN_from, fN_to, fN_room, fN_cost).1.toNat) (cntB (bI p1) 12) (tuTab fN_rest_x23)) l7_x135.toInt.toNat ∧ l6_x135.toInt.toNat = tuO (fun x y => tuL (iN_arcs.toInt, fN_from, fN_to, fN_room, fN_cost) (tuK (bI p1) x) (tuK (bI p1) y) (iN_arcs.toInt, fN_from, fN_to, fN_room, fN_cost).1.toNat) (cntB (bI p1) 12) (tuTab fN_rest_x23) l7_x135.toInt.toNat) → (l7_x135.toInt ≤ p2.toInt) → (8 - l7_x135.toInt < ((n9 : Nat) : Int)) → va_P (dC, dI) vwCl (WN hN aN kN iN_arcs fN_from fN_to fN_room fN_cost iN_reached fN_free fN_before fN_flow fN_length fN_stop_1 iN_stops_1 fN_price_2 fN_rest_x23) H → va_D A (WN hN aN kN iN_arcs fN_from fN_to fN_room fN_cost iN_reached fN_free fN_before fN_flow fN_length fN_stop_1 iN_stops_1 fN_price_2 fN_rest_x23) → va_S A s.heap H locs → lv_has ls 8 [(7, .int l7_x135), (6, .int l6_x135), (5, .int l5_x135), (4, .int v197), (3, .int (iI (v4.toInt - 1))), (0, .ref (hN 0)), (1, .int p1), (2, .int p2)] → W p l e _ s m _ below meth c H locs 0 0 _ (F0 m 135 ls [])) => loop (9) 0 0 (iI (v4.toInt - 1)) _ _ _ (show 0 ≤ (0 : Int32).toInt ∧ (0 : Int32).toInt ≤ 8 from by decide) (show 0 ≤ (0 : Int32).toInt ∧ (0 : Int32).toInt ≤ 7 from by decide) (iI_rng (Int.le_trans (by decide) (Int.sub_le_sub (b_v4.1) (Int.le_refl _))) (Int.le_trans (Int.sub_le_sub (b_v4.2) (Int.le_refl _)) (by decide)) (by decide) (by decide)) (show (iI (v4.toInt - 1)).toInt.toNat = tuF (cntB (bI p1) 12) (tuO (fun x y => tuL (iN_arcs.toInt, fN_from, fN_to, fN_room, fN_cost) (tuK (bI p1) x) (tuK (bI p1) y) (iN_arcs.toInt, fN_from, fN_to, fN_room, fN_cost).1.toNat) (cntB (bI p1) 12) (tuTab fN_rest_x23)) (0 : Int32).toInt.toNat ∧ (0 : Int32).toInt.toNat = tuO (fun x y => tuL (iN_arcs.toInt, fN_from, fN_to, fN_room, fN_cost) (tuK (bI p1) x) (tuK (bI p1) y) (iN_arcs.toInt, fN_from, fN_to, fN_room, fN_cost).1.toNat) (cntB (bI p1) 12) (tuTab fN_rest_x23) (0 : Int32).toInt.toNat from ⟨by (have h9 : tuF (cntB (bI p1) 12) (tuO (fun x y => tuL (iN_arcs.toInt, fN_from, fN_to, fN_room, fN_cost) (tuK (bI p1) x) (tuK (bI p1) y) (iN_arcs.toInt, fN_from, fN_to, fN_room, fN_cost).1.toNat) (cntB (bI p1) 12) (tuTab fN_rest_x23)) 0 = 2 ^ ((cntB (bI p1) 12) - 1) - 1 := rfl); rw [show (0 : Int32).toInt.toNat = 0 from by decide, h9, iI_t (by omega) (by omega)]; omega, rfl⟩) (show (0 : Int32).toInt ≤ p2.toInt from by have h7 : (0 : Int32).toInt = 0 := (by decide); omega) ((by have e9 : (0 : Int32).toInt = 0 := (by decide : (0 : Int32).toInt = 0); omega)) hP hD hS hl) ?_
              intro n9
              induction n9 with
              | zero => intro l7_x135 l6_x135 l5_x135 H locs ls b_l7_x135 b_l6_x135 b_l5_x135 hWy hwi hf9; exact False.elim (by omega)
              | succ n9 ihx135 =>
                intro l7_x135 l6_x135 l5_x135 H locs ls b_l7_x135 b_l6_x135 b_l5_x135 hWy hwi hfx135 hP hD hS hl
                refine lv_iload hx hb dX2_round_135 (lv_at hl 0 rfl) ?_
                refine lv_iload_n hx hb dX2_round_137 rfl (lv_at hl 7 rfl) ?_
                refine lv_icmp_ge (tgt := 170) hx hb dX2_round_138 (by decide) (fun c_138 => ?_) (fun c_138 => ?_)
                · have t_138 : l7_x135.toInt ≥ p2.toInt := toI_ge c_138 rfl rfl
                  have hl6 : l6_x135.toInt.toNat < (cntB (bI p1) 12) := by rw [hWy.2]; exact hOv.2.1 _ (by omega)
                  have hl5 : l5_x135.toInt.toNat < 2 ^ ((cntB (bI p1) 12) - 1) := by rw [hWy.1]; exact tuF_lt (by omega) _
                  refine lv_aload_n hx hb dX2_round_170 rfl (lv_at hl 5 rfl) ?_
                  refine va_get (D := (dC, dI)) (ci := 2) (v := .ref (aN 8)) (C := RX2) (T := TX2) (N := 14) hx hb hts iwsMX2_round_in2 hown hK hP 0 rfl rfl 10 (by decide) (hts (.fieldLink RX2 36 "OptimaWorks$NetDesk" "stop" "[I") (by decide +kernel)) (fun _ h9 => h9) rfl dX2_round_171 ?_
                  refine lv_iload hx hb dX2_round_174 (lv_at hl 1 rfl) ?_
                  refine va_iald (cA := kN 8) (n := 8) (f := fN_stop_1) hx hb hK hP 9 8 rfl rfl (vp_in_iff.mpr ⟨b_l6_x135.1, (Int.lt_of_le_of_lt (b_l6_x135.2) (by decide))⟩) dX2_round_176 ?_
                  refine lv_topi (fun v225 hv225 => ?_)
                  have b_v225 : 0 ≤ v225.toInt ∧ v225.toInt ≤ 11 := by rw [hv225]; exact b_fN_stop_1 _
                  have b1_v225 : v225 = fN_stop_1 (l6_x135).toNatClampNeg := hv225
                  clear hv225
                  refine W.widen (k := 0) (n := 0) (by decide +kernel) (by decide +kernel) ?_
                  exact W.iret (v := v225) hx hb hr (fun t9_ ht hW => ⟨⟨v225, (fN_stop_1, iN_stops_1, fN_price_2, fN_rest_x23), rfl, ⟨b_fN_stop_1, (by (try dsimp only); exact (b_iN_stops_1)), (by (try dsimp only); exact (tuA.stop hVal (by (try dsimp only); omega) (by omega) (by omega) hTT hlt9 (by omega) (by rw [show p2.toInt.toNat = l7_x135.toInt.toNat from by omega, ← hWy.2, ← hSt2.2 _ hl6]; exact (by rw [b1_v225]; rfl))))⟩, by rw [ht]; exact hP, hD⟩, hS.F ht⟩) hS.2.2 dX2_round_177
                · have t_138 : ¬ l7_x135.toInt ≥ p2.toInt := toI_nge c_138 rfl rfl
                  have hl6 : l6_x135.toInt.toNat < (cntB (bI p1) 12) := by rw [hWy.2]; exact hOv.2.1 _ (by omega)
                  have hl5 : l5_x135.toInt.toNat < 2 ^ ((cntB (bI p1) 12) - 1) := by rw [hWy.1]; exact tuF_lt (by omega) _
                  refine lv_aload_n hx hb dX2_round_141 rfl (lv_at hl 5 rfl) ?_
                  refine lv_iload hx hb dX2_round_142 (lv_at hl 2 rfl) ?_
                  refine lv_iload hx hb dX2_round_144 (lv_at hl 1 rfl) ?_
                  have hFc := allFree hD hS hA
                  refine va_calli (va_runV (As := [.int l5_x135, .int l6_x135]) (rest := []) ⟨hx, hb, hml, hown, hts⟩ (m_X2_nextStop l dC dI hN aN kN iN_arcs fN_from fN_to fN_room fN_cost iN_reached fN_free fN_before fN_flow fN_length fN_stop_1 iN_stops_1 fN_price_2 fN_rest_x23 l5_x135 l6_x135 (b_iN_arcs) b_fN_from b_fN_to b_fN_before b_fN_stop_1 (b_iN_stops_1) (b_l5_x135) (b_l6_x135) ((by omega)) ((by omega)) ((fun x y hx hy => hPb9 x y (by omega) (by omega))) ((fun y b hy hb => (hTa y b (by omega) (by omega)).2)) H.size) (cwV 2 hts gwsMX2_round_3 rfl rfl rfl hd_yX2_nextStop_RX2 (by decide +kernel)) (fz_pre (va_recv hK hP (ci := 2) (q0 := 0) rfl rfl) hP hK hD) rfl rfl hl.1 rfl (lv_room (Nat.le_of_ble_eq_true rfl)) dX2_round_146 (by decide +kernel)) hS (fun q _ h => hFc q h) hFc (fun r226 u t9_ H locs ht hvm hw9 hB9 hz1 hk1 hS => ?_)
                  obtain ⟨b_r226, f226_0⟩ := hw9
                  have hP : va_P (dC, dI) vwCl (WN hN aN kN iN_arcs fN_from fN_to fN_room fN_cost iN_reached fN_free fN_before fN_flow fN_length fN_stop_1 iN_stops_1 fN_price_2 fN_rest_x23) H := fz_P ht hB9.1
                  have hD : va_D A (WN hN aN kN iN_arcs fN_from fN_to fN_room fN_cost iN_reached fN_free fN_before fN_flow fN_length fN_stop_1 iN_stops_1 fN_price_2 fN_rest_x23) := hB9.2.weaken (fun _ q _ h => hFc q.1 h)
                  have hstp := tuO_step (k := l7_x135.toInt.toNat) (x := l5_x135.toInt.toNat) (a := l6_x135.toInt.toNat) (r := r226.toInt.toNat) (Q := tuTab fN_price_2) hPP hTT (by omega) (by omega) hlt9 (by omega) hWy.1 hWy.2 (fun b hb => hPr _ b (by omega) hb) (fun h9 => by (have h8 := f226_0 (by rw [eN]; exact h9)); exact ⟨by omega, by omega, h8.2.2.1, fun c h1 h2 => h8.2.2.2 c h1 (by omega)⟩)
                  obtain ⟨hs1, hs2, hs3, hs4, hs5⟩ := hstp
                  refine lv_istore hx hb dX2_round_149 hl (by decide) rfl (fun ls (hl : lv_has ls _ ([(6, .int r226), (7, .int l7_x135), (5, .int l5_x135), (4, .int v197), (3, .int (iI (v4.toInt - 1))), (0, .ref (hN 0)), (1, .int p1), (2, .int p2)])) => ?_)
                  refine lv_iload hx hb dX2_round_151 (lv_at hl 2 rfl) ?_
                  refine lv_iconst (v := 1) hx hb dX2_round_153 (by decide) ?_
                  refine lv_iload hx hb dX2_round_154 (lv_at hl 0 rfl) ?_
                  refine lv_iconst (v := 1) hx hb dX2_round_156 (by decide) ?_
                  refine lv_isub hx hb dX2_round_157 ?_
                  refine lv_topi (fun y227 hy227 => ?_)
                  obtain rfl : (iI (r226.toInt - 1)) = y227 := (hy227.trans (iI_sub2 (iI_of _) (by decide : (1 : Int32) = iI 1))).symm
                  refine lv_ishl hx hb dX2_round_158 ?_
                  refine lv_topi (fun v228 hv228 => ?_)
                  have b_v228 : v228 = (1 : Int32) <<< ((iI (r226.toInt - 1)) &&& 31) := hv228
                  clear hv228
                  refine lv_iconst (v := (-1)) hx hb dX2_round_159 (by decide) ?_
                  refine lv_ixor hx hb dX2_round_160 ?_
                  refine lv_topi (fun v229 hv229 => ?_)
                  have b_v229 : v229 = v228 ^^^ (-1) := hv229
                  clear hv229
                  refine lv_iand hx hb dX2_round_161 ?_
                  refine lv_topi (fun v230 hv230 => ?_)
                  have b_v230 : 0 ≤ v230.toInt ∧ v230.toInt ≤ l5_x135.toInt := by rw [hv230]; exact and_posL rfl (by omega)
                  have b1_v230 : v230.toInt = ((l5_x135.toInt.toNat - 2 ^ (r226.toInt.toNat - 1) : Nat) : Int) := by rw [hv230]; exact tuAndT b_v228 b_v229 (by omega) (by omega) (by rw [iI_t (by omega) (by omega)]; omega) (by omega) (hs4)
                  clear hv230
                  refine lv_istore hx hb dX2_round_162 hl (by decide) rfl (fun ls (hl : lv_has ls _ ([(5, .int v230), (6, .int r226), (7, .int l7_x135), (4, .int v197), (3, .int (iI (v4.toInt - 1))), (0, .ref (hN 0)), (1, .int p1), (2, .int p2)])) => ?_)
                  refine lv_iinc (v := (iI (l7_x135.toInt + 1))) hx hb dX2_round_164 hl (k := 2) rfl (iI_add2 (iI_of _) (by decide : (1 : Int32) = iI 1)) (by decide) rfl (fun ls (hl : lv_has ls _ ([(7, .int (iI (l7_x135.toInt + 1))), (5, .int v230), (6, .int r226), (4, .int v197), (3, .int (iI (v4.toInt - 1))), (0, .ref (hN 0)), (1, .int p1), (2, .int p2)])) => ?_)
                  refine lv_goto (tgt := 135) hx hb dX2_round_167 (by decide) ?_
                  have hl : lv_has _ _ ([(7, .int (iI (l7_x135.toInt + 1))), (6, .int r226), (5, .int v230), (4, .int v197), (3, .int (iI (v4.toInt - 1))), (0, .ref (hN 0)), (1, .int p1), (2, .int p2)]) := lv_sub hl [0, 2, 1, 3, 4, 5, 6, 7] rfl
                  exact ihx135 (iI (l7_x135.toInt + 1)) r226 v230 _ _ _ (iI_rng (Int.le_trans (by decide) (Int.add_le_add (b_l7_x135.1) (Int.le_refl _))) (by omega) (by decide) (by decide)) (by first | exact b_r226 | assumption | exact ⟨by omega, by omega⟩) (by first | exact b_v230 | assumption | exact ⟨by omega, by omega⟩) (show v230.toInt.toNat = tuF (cntB (bI p1) 12) (tuO (fun x y => tuL (iN_arcs.toInt, fN_from, fN_to, fN_room, fN_cost) (tuK (bI p1) x) (tuK (bI p1) y) (iN_arcs.toInt, fN_from, fN_to, fN_room, fN_cost).1.toNat) (cntB (bI p1) 12) (tuTab fN_rest_x23)) (iI (l7_x135.toInt + 1)).toInt.toNat ∧ r226.toInt.toNat = tuO (fun x y => tuL (iN_arcs.toInt, fN_from, fN_to, fN_room, fN_cost) (tuK (bI p1) x) (tuK (bI p1) y) (iN_arcs.toInt, fN_from, fN_to, fN_room, fN_cost).1.toNat) (cntB (bI p1) 12) (tuTab fN_rest_x23) (iI (l7_x135.toInt + 1)).toInt.toNat from by rw [show (iI (l7_x135.toInt + 1)).toInt.toNat = l7_x135.toInt.toNat + 1 from by rw [iI_t (by omega) (by omega)]; omega]; exact ⟨by rw [← hs5]; omega, hs1⟩) (show (iI (l7_x135.toInt + 1)).toInt ≤ p2.toInt from by rw [iI_t (by omega) (by omega)]; omega) (by have e9 : ((iI (l7_x135.toInt + 1))).toInt = (l7_x135.toInt + 1) := (iI_t (Int.le_trans (by decide) (Int.add_le_add (b_l7_x135.1) (Int.le_refl _))) (Int.le_trans (Int.add_le_add (b_l7_x135.2) (Int.le_refl _)) (by decide))); omega) hP hD hS hl
            · have t_121 : ¬ p2.toInt < iN_stops_1.toInt := toI_nlt c_121 rfl rfl
              refine lv_iconst (v := (-1)) hx hb dX2_round_124 (by decide) ?_
              refine W.widen (k := 0) (n := 0) (by decide +kernel) (by decide +kernel) ?_
              exact W.iret (v := (-1)) hx hb hr (fun t9_ ht hW => ⟨⟨((-1) : Int32), (fN_stop_1, iN_stops_1, fN_price_2, fN_rest_x23), rfl, ⟨b_fN_stop_1, (by (try dsimp only); exact (b_iN_stops_1)), (by (try dsimp only); exact (tuA.out hVal (by (try dsimp only); omega) (by omega) (by omega) hTT (by omega) (by omega) (by omega) (by decide)))⟩, by rw [ht]; exact hP, hD⟩, hS.F ht⟩) hS.2.2 dX2_round_125
        · have t_95 : p2.toInt = (-2) := toI_nne c_95 rfl (by decide : ((-2) : Int32).toInt = (-2))
          refine lv_iload hx hb dX2_round_98 (lv_at hl 0 rfl) ?_
          refine lv_ldc (v := 536870912) hx hb hown (hts (.constant RX2 60 536870912) (by decide +kernel)) dX2_round_100 ?_
          refine W.cut (pc := 111) (fun H locs ls stk => ∃ (k0_j12 : Int32), ((k0_j12.toInt = -1 ∧ ¬ v197.toInt < 536870912) ∨ (v197.toInt < 536870912 ∧ k0_j12.toInt = v197.toInt)) ∧  stk = [.int k0_j12] ∧ va_P (dC, dI) vwCl (WN hN aN kN iN_arcs fN_from fN_to fN_room fN_cost iN_reached fN_free fN_before fN_flow fN_length fN_stop_1 iN_stops_1 fN_price_2 fN_rest_x23) H ∧ va_D A (WN hN aN kN iN_arcs fN_from fN_to fN_room fN_cost iN_reached fN_free fN_before fN_flow fN_length fN_stop_1 iN_stops_1 fN_price_2 fN_rest_x23) ∧ va_S A s.heap H locs ∧ lv_has ls 8 [(4, .int v197), (3, .int (iI (v4.toInt - 1))), (0, .ref (hN 0)), (1, .int p1), (2, .int p2)]) (fun join12 => ?_) ?_
          · refine lv_icmp_lt (tgt := 109) hx hb dX2_round_102 (by decide) (fun c_102 => ?_) (fun c_102 => ?_)
            · have t_102 : v197.toInt < 536870912 := toI_lt c_102 rfl (by decide : (536870912 : Int32).toInt = 536870912)
              refine lv_iload hx hb dX2_round_109 (lv_at hl 0 rfl) ?_
              have hl : lv_has _ _ ([(4, .int v197), (3, .int (iI (v4.toInt - 1))), (0, .ref (hN 0)), (1, .int p1), (2, .int p2)]) := lv_sub hl [0, 1, 2, 3, 4] rfl
              exact join12 _ _ _ _ ⟨v197, (show (v197.toInt = -1 ∧ ¬ v197.toInt < 536870912) ∨ (v197.toInt < 536870912 ∧ v197.toInt = v197.toInt) from by first | exact Or.inl ⟨by decide, by omega⟩ | exact Or.inr ⟨by omega, rfl⟩), rfl, hP, hD, hS, hl⟩
            · have t_102 : ¬ v197.toInt < 536870912 := toI_nlt c_102 rfl (by decide : (536870912 : Int32).toInt = 536870912)
              refine lv_iconst (v := (-1)) hx hb dX2_round_105 (by decide) ?_
              refine lv_goto (tgt := 111) hx hb dX2_round_106 (by decide) ?_
              have hl : lv_has _ _ ([(4, .int v197), (3, .int (iI (v4.toInt - 1))), (0, .ref (hN 0)), (1, .int p1), (2, .int p2)]) := lv_sub hl [0, 1, 2, 3, 4] rfl
              exact join12 _ _ _ _ ⟨(-1), (show (((-1) : Int32).toInt = -1 ∧ ¬ v197.toInt < 536870912) ∨ (v197.toInt < 536870912 ∧ ((-1) : Int32).toInt = v197.toInt) from by first | exact Or.inl ⟨by decide, by omega⟩ | exact Or.inr ⟨by omega, rfl⟩), rfl, hP, hD, hS, hl⟩
          · rintro H locs ls stk ⟨k0_j12, hk9, rfl, hP, hD, hS, hl⟩
            refine W.widen (k := 0) (n := 0) (by decide +kernel) (by decide +kernel) ?_
            exact W.iret (v := k0_j12) hx hb hr (fun t9_ ht hW => ⟨⟨k0_j12, (fN_stop_1, iN_stops_1, fN_price_2, fN_rest_x23), rfl, ⟨b_fN_stop_1, (by (try dsimp only); exact (b_iN_stops_1)), (by (try dsimp only); exact (hk9.elim (fun h9 => tuA.none hVal (by (try dsimp only); omega) (by omega) (by omega) hTT (by (have h8 := h9.2); omega) h9.1) (fun h9 => tuA.cost hVal (by (try dsimp only); omega) (by omega) (by omega) hTT (by (have h8 := h9.1); omega) (by (have h8 := h9.1); omega) (h9.2.trans b_v197))))⟩, by rw [ht]; exact hP, hD⟩, hS.F ht⟩) hS.2.2 dX2_round_111
    · have t_26 : ¬ l4_x23.toInt > (v4.toInt - 1) := toI_ngt c_26 rfl (iI_t (Int.le_trans (by decide) (Int.sub_le_sub (b_v4.1) (Int.le_refl _))) (Int.le_trans (Int.sub_le_sub (b_v4.2) (Int.le_refl _)) (by decide)))
      refine lv_iconst (v := 0) hx hb dX2_round_29 (by decide) ?_
      refine lv_istore hx hb dX2_round_30 hl (by decide) rfl (fun ls (hl : lv_has ls _ ([(5, .int 0), (4, .int l4_x23), (3, .int (iI (v4.toInt - 1))), (0, .ref (hN 0)), (1, .int p1), (2, .int p2)])) => ?_)
      have hl : lv_has _ _ ([(5, .int 0), (4, .int l4_x23), (3, .int (iI (v4.toInt - 1))), (0, .ref (hN 0)), (1, .int p1), (2, .int p2)]) := lv_sub hl [0, 1, 2, 3, 4, 5] rfl
      refine (fun (loop : ∀ (n9 : Nat) (fN_rest_x32 : Nat → Int32) (l5_x32 : Int32) (H : Heap) (locs : List Loc) (ls : Array Slot), (0 ≤ l5_x32.toInt ∧ l5_x32.toInt ≤ 127) → (tuTb (fun x y => tuL (iN_arcs.toInt, fN_from, fN_to, fN_room, fN_cost) (tuK (bI p1) x) (tuK (bI p1) y) (iN_arcs.toInt, fN_from, fN_to, fN_room, fN_cost).1.toNat) (cntB (bI p1) 12) fN_rest_x32 l4_x23.toInt.toNat l5_x32.toInt.toNat) → (127 - l5_x32.toInt < ((n9 : Nat) : Int)) → va_P (dC, dI) vwCl (WN hN aN kN iN_arcs fN_from fN_to fN_room fN_cost iN_reached fN_free fN_before fN_flow fN_length fN_stop_1 iN_stops_1 fN_price_2 fN_rest_x32) H → va_D A (WN hN aN kN iN_arcs fN_from fN_to fN_room fN_cost iN_reached fN_free fN_before fN_flow fN_length fN_stop_1 iN_stops_1 fN_price_2 fN_rest_x32) → va_S A s.heap H locs → lv_has ls 8 [(5, .int l5_x32), (4, .int l4_x23), (3, .int (iI (v4.toInt - 1))), (0, .ref (hN 0)), (1, .int p1), (2, .int p2)] → W p l e _ s m _ below meth c H locs 0 0 _ (F0 m 32 ls [])) => loop (128) fN_rest_x23 0 _ _ _ (show 0 ≤ (0 : Int32).toInt ∧ (0 : Int32).toInt ≤ 127 from by decide) (show tuTb (fun x y => tuL (iN_arcs.toInt, fN_from, fN_to, fN_room, fN_cost) (tuK (bI p1) x) (tuK (bI p1) y) (iN_arcs.toInt, fN_from, fN_to, fN_room, fN_cost).1.toNat) (cntB (bI p1) 12) fN_rest_x23 l4_x23.toInt.toNat (0 : Int32).toInt.toNat from by rw [show (0 : Int32).toInt.toNat = 0 from by decide]; exact hTa) ((by have e9 : (0 : Int32).toInt = 0 := (by decide : (0 : Int32).toInt = 0); omega)) hP hD hS hl) ?_
      intro n9
      induction n9 with
      | zero => intro fN_rest_x32 l5_x32 H locs ls b_l5_x32 hTb hf9; exact False.elim (by omega)
      | succ n9 ihx32 =>
        intro fN_rest_x32 l5_x32 H locs ls b_l5_x32 hTb hfx32 hP hD hS hl
        refine lv_iload hx hb dX2_round_32 (lv_at hl 0 rfl) ?_
        refine lv_aload_n hx hb dX2_round_34 rfl (lv_at hl 3 rfl) ?_
        refine va_get (D := (dC, dI)) (ci := 2) (v := .int iN_stops_1) (C := RX2) (T := TX2) (N := 14) hx hb hts iwsMX2_round_in2 hown hK hP 0 rfl rfl 11 (by decide) (hts (.fieldLink RX2 98 "OptimaWorks$NetDesk" "stops" "I") (by decide +kernel)) (fun _ h9 => h9) rfl dX2_round_35 ?_
        refine lv_icmp_ge (tgt := 68) hx hb dX2_round_38 (by decide) (fun c_38 => ?_) (fun c_38 => ?_)
        · have t_38 : l5_x32.toInt ≥ iN_stops_1.toInt := toI_ge c_38 rfl rfl
          refine lv_iinc (v := (iI (l4_x23.toInt + 1))) hx hb dX2_round_68 hl (k := 1) rfl (iI_add2 (iI_of _) (by decide : (1 : Int32) = iI 1)) (by decide) rfl (fun ls (hl : lv_has ls _ ([(4, .int (iI (l4_x23.toInt + 1))), (5, .int l5_x32), (3, .int (iI (v4.toInt - 1))), (0, .ref (hN 0)), (1, .int p1), (2, .int p2)])) => ?_)
          refine lv_goto (tgt := 23) hx hb dX2_round_71 (by decide) ?_
          have hl : lv_has _ _ ([(4, .int (iI (l4_x23.toInt + 1))), (3, .int (iI (v4.toInt - 1))), (0, .ref (hN 0)), (1, .int p1), (2, .int p2)]) := lv_sub hl [0, 2, 3, 4, 5] rfl
          exact ihx23 fN_rest_x32 (iI (l4_x23.toInt + 1)) _ _ _ (iI_rng (Int.le_trans (by decide) (Int.add_le_add (b_l4_x23.1) (Int.le_refl _))) (by omega) (by decide) (by decide)) (show tuTb (fun x y => tuL (iN_arcs.toInt, fN_from, fN_to, fN_room, fN_cost) (tuK (bI p1) x) (tuK (bI p1) y) (iN_arcs.toInt, fN_from, fN_to, fN_room, fN_cost).1.toNat) (cntB (bI p1) 12) fN_rest_x32 (iI (l4_x23.toInt + 1)).toInt.toNat 0 from by rw [show (iI (l4_x23.toInt + 1)).toInt.toNat = l4_x23.toInt.toNat + 1 from by rw [iI_t (by omega) (by omega)]; omega]; exact tuTb.row hTb (by omega) rfl rfl) (by have e9 : ((iI (l4_x23.toInt + 1))).toInt = (l4_x23.toInt + 1) := (iI_t (Int.le_trans (by decide) (Int.add_le_add (b_l4_x23.1) (Int.le_refl _))) (Int.le_trans (Int.add_le_add (b_l4_x23.2) (Int.le_refl _)) (by decide))); omega) hP hD hS hl
        · have t_38 : ¬ l5_x32.toInt ≥ iN_stops_1.toInt := toI_nge c_38 rfl rfl
          refine lv_aload_n hx hb dX2_round_41 rfl (lv_at hl 3 rfl) ?_
          refine va_get (D := (dC, dI)) (ci := 2) (v := .ref (aN 10)) (C := RX2) (T := TX2) (N := 14) hx hb hts iwsMX2_round_in2 hown hK hP 0 rfl rfl 13 (by decide) (hts (.fieldLink RX2 42 "OptimaWorks$NetDesk" "rest" "[I") (by decide +kernel)) (fun _ h9 => h9) rfl dX2_round_42 ?_
          refine lv_iload hx hb dX2_round_45 (lv_at hl 1 rfl) ?_
          refine lv_bipush (v := 8) hx hb dX2_round_47 (by decide) ?_
          refine lv_imul hx hb dX2_round_49 ?_
          refine lv_topi (fun y251 hy251 => ?_)
          obtain rfl : (iI (l4_x23.toInt * 8)) = y251 := (hy251.trans (iI_mul2 (iI_of _) (by decide : (8 : Int32) = iI 8))).symm
          refine lv_iload hx hb dX2_round_50 (lv_at hl 0 rfl) ?_
          refine lv_iadd hx hb dX2_round_52 ?_
          refine lv_topi (fun y252 hy252 => ?_)
          obtain rfl : (iI ((l4_x23.toInt * 8) + l5_x32.toInt)) = y252 := (hy252.trans (iI_add2 rfl (iI_of _))).symm
          refine lv_aload_n hx hb dX2_round_53 rfl (lv_at hl 3 rfl) ?_
          refine lv_iload hx hb dX2_round_54 (lv_at hl 1 rfl) ?_
          refine lv_iload hx hb dX2_round_56 (lv_at hl 0 rfl) ?_
          have hFc := allFree hD hS hA
          refine va_calli (va_runV (As := [.int l4_x23, .int l5_x32]) (rest := [.int (iI ((l4_x23.toInt * 8) + l5_x32.toInt)), .ref (aN 10)]) ⟨hx, hb, hml, hown, hts⟩ (m_X2_restFrom l dC dI hN aN kN iN_arcs fN_from fN_to fN_room fN_cost iN_reached fN_free fN_before fN_flow fN_length fN_stop_1 iN_stops_1 fN_price_2 fN_rest_x32 l4_x23 l5_x32 (b_iN_arcs) b_fN_from b_fN_to b_fN_before b_fN_stop_1 (b_iN_stops_1) (by first | exact b_l4_x23 | assumption | exact ⟨by omega, by omega⟩) (by first | exact b_l5_x32 | assumption | exact ⟨by omega, by omega⟩) ((by omega)) ((by omega)) ((fun x y hx hy => hPb9 x y (by omega) (by omega))) ((fun y b hy hb => (hTb y b (by omega) (Or.inl hy)).2)) H.size) (cwV 2 hts gwsMX2_round_2 rfl rfl rfl hd_yX2_restFrom_RX2 (by decide +kernel)) (fz_pre (va_recv hK hP (ci := 2) (q0 := 0) rfl rfl) hP hK hD) rfl rfl hl.1 rfl (lv_room (Nat.le_of_ble_eq_true rfl)) dX2_round_58 (by decide +kernel)) hS (fun q _ h => hFc q h) hFc (fun r253 u t9_ H locs ht hvm hw9 hB9 hz1 hk1 hS => ?_)
          have f253_0 := hw9
          try dsimp only at f253_0
          have hP : va_P (dC, dI) vwCl (WN hN aN kN iN_arcs fN_from fN_to fN_room fN_cost iN_reached fN_free fN_before fN_flow fN_length fN_stop_1 iN_stops_1 fN_price_2 fN_rest_x32) H := fz_P ht hB9.1
          have hD : va_D A (WN hN aN kN iN_arcs fN_from fN_to fN_room fN_cost iN_reached fN_free fN_before fN_flow fN_length fN_stop_1 iN_stops_1 fN_price_2 fN_rest_x32) := hB9.2.weaken (fun _ q _ h => hFc q.1 h)
          refine va_iast (cA := kN 10) (n := 1024) (f := fN_rest_x32) hx hb hK hP hD hS 11 10 rfl rfl (vp_iI (Int.le_trans (by decide) (Int.add_le_add (Int.mul_le_mul_of_nonneg_right (b_l4_x23.1) (by decide)) (b_l5_x32.1))) (by omega) (by decide)) dX2_round_61 (fun H locs hP hD hS => ?_)
          obtain ⟨u254, hu254⟩ : ∃ f9, f9 = upd fN_rest_x32 ((iI ((l4_x23.toInt * 8) + l5_x32.toInt))).toNatClampNeg r253 := ⟨_, rfl⟩
          have hP : va_P (dC, dI) vwCl (WN hN aN kN iN_arcs fN_from fN_to fN_room fN_cost iN_reached fN_free fN_before fN_flow fN_length fN_stop_1 iN_stops_1 fN_price_2 u254) H := by rw [hu254]; exact hP
          have hD : va_D A (WN hN aN kN iN_arcs fN_from fN_to fN_room fN_cost iN_reached fN_free fN_before fN_flow fN_length fN_stop_1 iN_stops_1 fN_price_2 u254) := by rw [hu254]; exact hD
          have b_u254 : u254 = upd fN_rest_x32 ((iI ((l4_x23.toInt * 8) + l5_x32.toInt))).toNatClampNeg r253 := hu254
          clear hu254
          refine lv_iinc (v := (iI (l5_x32.toInt + 1))) hx hb dX2_round_62 hl (k := 0) rfl (iI_add2 (iI_of _) (by decide : (1 : Int32) = iI 1)) (by decide) rfl (fun ls (hl : lv_has ls _ ([(5, .int (iI (l5_x32.toInt + 1))), (4, .int l4_x23), (3, .int (iI (v4.toInt - 1))), (0, .ref (hN 0)), (1, .int p1), (2, .int p2)])) => ?_)
          refine lv_goto (tgt := 32) hx hb dX2_round_65 (by decide) ?_
          have hl : lv_has _ _ ([(5, .int (iI (l5_x32.toInt + 1))), (4, .int l4_x23), (3, .int (iI (v4.toInt - 1))), (0, .ref (hN 0)), (1, .int p1), (2, .int p2)]) := lv_sub hl [0, 1, 2, 3, 4, 5] rfl
          exact ihx32 u254 (iI (l5_x32.toInt + 1)) _ _ _ (iI_rng (Int.le_trans (by decide) (Int.add_le_add (b_l5_x32.1) (Int.le_refl _))) (by omega) (by decide) (by decide)) (show tuTb (fun x y => tuL (iN_arcs.toInt, fN_from, fN_to, fN_room, fN_cost) (tuK (bI p1) x) (tuK (bI p1) y) (iN_arcs.toInt, fN_from, fN_to, fN_room, fN_cost).1.toNat) (cntB (bI p1) 12) u254 l4_x23.toInt.toNat (iI (l5_x32.toInt + 1)).toInt.toNat from by rw [show (iI (l5_x32.toInt + 1)).toInt.toNat = l5_x32.toInt.toNat + 1 from by rw [iI_t (by omega) (by omega)]; omega]; exact tuTb.put hTb (by omega) (by omega) (by show (iI ((l4_x23.toInt * 8) + l5_x32.toInt)).toInt.toNat = _; rw [iI_t (by omega) (by omega)]; omega) b_u254 (by (have h9 := f253_0.1); rw [eN] at h9; exact h9.cgP (by omega) (fun b hb => hPr _ b (by omega) hb)) f253_0.2) (by have e9 : ((iI (l5_x32.toInt + 1))).toInt = (l5_x32.toInt + 1) := (iI_t (Int.le_trans (by decide) (Int.add_le_add (b_l5_x32.1) (Int.le_refl _))) (Int.le_trans (Int.add_le_add (b_l5_x32.2) (Int.le_refl _)) (by decide))); omega) hP hD hS hl

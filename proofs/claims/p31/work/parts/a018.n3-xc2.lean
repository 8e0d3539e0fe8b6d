section
theorem hd_yX2_costOver_RX2 : yX2_costOver.cls = RX2 ∧ yX2_costOver.cls ≠ "java/lang/invoke/MethodHandle" ∧ yX2_costOver.cls ≠ "java/lang/invoke/VarHandle" ∧ (parseMethodDescriptor yX2_costOver.desc).map (fun d => d.parameters.length) = some 3 := by decide +kernel
theorem hd_yX2_takeStops_RX2 : yX2_takeStops.cls = RX2 ∧ yX2_takeStops.cls ≠ "java/lang/invoke/MethodHandle" ∧ yX2_takeStops.cls ≠ "java/lang/invoke/VarHandle" ∧ (parseMethodDescriptor yX2_takeStops.desc).map (fun d => d.parameters.length) = some 1 := by decide +kernel
theorem hd_yX2_takePrices_RX2 : yX2_takePrices.cls = RX2 ∧ yX2_takePrices.cls ≠ "java/lang/invoke/MethodHandle" ∧ yX2_takePrices.cls ≠ "java/lang/invoke/VarHandle" ∧ (parseMethodDescriptor yX2_takePrices.desc).map (fun d => d.parameters.length) = some 0 := by decide +kernel
theorem hd_yX2_nextStop_RX2 : yX2_nextStop.cls = RX2 ∧ yX2_nextStop.cls ≠ "java/lang/invoke/MethodHandle" ∧ yX2_nextStop.cls ≠ "java/lang/invoke/VarHandle" ∧ (parseMethodDescriptor yX2_nextStop.desc).map (fun d => d.parameters.length) = some 2 := by decide +kernel
theorem hd_yX2_restFrom_RX2 : yX2_restFrom.cls = RX2 ∧ yX2_restFrom.cls ≠ "java/lang/invoke/MethodHandle" ∧ yX2_restFrom.cls ≠ "java/lang/invoke/VarHandle" ∧ (parseMethodDescriptor yX2_restFrom.desc).map (fun d => d.parameters.length) = some 2 := by decide +kernel
theorem dX2_takeStops_0 : decode cX2_takeStops 0 = .ok (.aload_n 0, 1) := dk_42 (by decide +kernel)
theorem dX2_takeStops_1 : decode cX2_takeStops 1 = .ok (.iconst 0, 1) := dk_3 (by decide +kernel)
theorem dX2_takeStops_2 : decode cX2_takeStops 2 = .ok (.putfield 98, 3) := dk_181 (by decide +kernel)
theorem dX2_takeStops_5 : decode cX2_takeStops 5 = .ok (.iconst 0, 1) := dk_3 (by decide +kernel)
theorem dX2_takeStops_6 : decode cX2_takeStops 6 = .ok (.istore_n 2, 1) := dk_61 (by decide +kernel)
theorem dX2_takeStops_7 : decode cX2_takeStops 7 = .ok (.iload_n 2, 1) := dk_28 (by decide +kernel)
theorem dX2_takeStops_8 : decode cX2_takeStops 8 = .ok (.bipush 12, 2) := dk_16 (by decide +kernel)
theorem dX2_takeStops_10 : decode cX2_takeStops 10 = .ok (.if_icmp .ge 46, 3) := dk_162 (by decide +kernel)
theorem dX2_takeStops_13 : decode cX2_takeStops 13 = .ok (.aload_n 0, 1) := dk_42 (by decide +kernel)
theorem dX2_takeStops_14 : decode cX2_takeStops 14 = .ok (.getfield 98, 3) := dk_180 (by decide +kernel)
theorem dX2_takeStops_17 : decode cX2_takeStops 17 = .ok (.bipush 8, 2) := dk_16 (by decide +kernel)
theorem dX2_takeStops_19 : decode cX2_takeStops 19 = .ok (.if_icmp .ge 37, 3) := dk_162 (by decide +kernel)
theorem dX2_takeStops_22 : decode cX2_takeStops 22 = .ok (.iload_n 1, 1) := dk_27 (by decide +kernel)
theorem dX2_takeStops_23 : decode cX2_takeStops 23 = .ok (.iload_n 2, 1) := dk_28 (by decide +kernel)
theorem dX2_takeStops_24 : decode cX2_takeStops 24 = .ok (.ishr, 1) := dk_122 (by decide +kernel)
theorem dX2_takeStops_25 : decode cX2_takeStops 25 = .ok (.iconst 1, 1) := dk_4 (by decide +kernel)
theorem dX2_takeStops_26 : decode cX2_takeStops 26 = .ok (.iand, 1) := dk_126 (by decide +kernel)
theorem dX2_takeStops_27 : decode cX2_takeStops 27 = .ok (.ifCond .eq 23, 3) := dk_153 (by decide +kernel)
theorem dX2_takeStops_30 : decode cX2_takeStops 30 = .ok (.aload_n 0, 1) := dk_42 (by decide +kernel)
theorem dX2_takeStops_31 : decode cX2_takeStops 31 = .ok (.getfield 36, 3) := dk_180 (by decide +kernel)
theorem dX2_takeStops_34 : decode cX2_takeStops 34 = .ok (.aload_n 0, 1) := dk_42 (by decide +kernel)
theorem dX2_takeStops_35 : decode cX2_takeStops 35 = .ok (.getfield 98, 3) := dk_180 (by decide +kernel)
theorem dX2_takeStops_38 : decode cX2_takeStops 38 = .ok (.iload_n 2, 1) := dk_28 (by decide +kernel)
theorem dX2_takeStops_39 : decode cX2_takeStops 39 = .ok (.iastore, 1) := dk_79 (by decide +kernel)
theorem dX2_takeStops_40 : decode cX2_takeStops 40 = .ok (.aload_n 0, 1) := dk_42 (by decide +kernel)
theorem dX2_takeStops_41 : decode cX2_takeStops 41 = .ok (.dup, 1) := dk_89 (by decide +kernel)
theorem dX2_takeStops_42 : decode cX2_takeStops 42 = .ok (.getfield 98, 3) := dk_180 (by decide +kernel)
theorem dX2_takeStops_45 : decode cX2_takeStops 45 = .ok (.iconst 1, 1) := dk_4 (by decide +kernel)
theorem dX2_takeStops_46 : decode cX2_takeStops 46 = .ok (.iadd, 1) := dk_96 (by decide +kernel)
theorem dX2_takeStops_47 : decode cX2_takeStops 47 = .ok (.putfield 98, 3) := dk_181 (by decide +kernel)
theorem dX2_takeStops_50 : decode cX2_takeStops 50 = .ok (.iinc 2 1, 3) := dk_132 (by decide +kernel)
theorem dX2_takeStops_53 : decode cX2_takeStops 53 = .ok (.goto (-46), 3) := dk_167 (by decide +kernel)
theorem dX2_takeStops_56 : decode cX2_takeStops 56 = .ok (.return_, 1) := dk_177 (by decide +kernel)
def wsMX2_takeStops : List Cond := .code yX2_takeStops cX2_takeStops 3 none :: ([.fieldLink RX2 98 "OptimaWorks$NetDesk" "stops" "I", .fieldLink RX2 36 "OptimaWorks$NetDesk" "stop" "[I"] ++ wsX20)
theorem iwsMX2_takeStops_in2 : ∀ w ∈ wsX20, w ∈ wsMX2_takeStops := fun _ h => List.mem_cons_of_mem _ (List.mem_append_right _ h)
theorem gdwsMX2_takeStops : wsMX2_takeStops.all goodWord = true := gdC rfl (gdA (by decide +kernel : ([.fieldLink RX2 98 "OptimaWorks$NetDesk" "stops" "I", .fieldLink RX2 36 "OptimaWorks$NetDesk" "stop" "[I"] : List Cond).all goodWord = true) gdwsX20)
set_option maxHeartbeats 4000000 in
set_option maxRecDepth 100000 in
/-- the stops of a tour -/
theorem m_X2_takeStops (l : Launch) (dC : Nat → ClassId) (dI : Nat → Nat → Nat) (hN : Nat → Nat) (aN : Nat → Nat) (kN : Nat → ClassId) (iN_arcs : Int32) (fN_from : Nat → Int32) (fN_to : Nat → Int32) (fN_room : Nat → Int32) (fN_cost : Nat → Int32) (iN_reached : Int32) (fN_free : Nat → Int32) (fN_before : Nat → Int32) (fN_flow : Nat → Int32) (fN_length : Nat → Int32) (fN_stop : Nat → Int32) (iN_stops : Int32) (fN_price : Nat → Int32) (fN_rest : Nat → Int32) (p1 : Int32) (b_iN_arcs : 0 ≤ iN_arcs.toInt ∧ iN_arcs.toInt ≤ 40) (b_fN_from : ∀ q : Nat, 0 ≤ (fN_from q).toInt ∧ (fN_from q).toInt ≤ 11) (b_fN_to : ∀ q : Nat, 0 ≤ (fN_to q).toInt ∧ (fN_to q).toInt ≤ 11) (b_fN_before : ∀ q : Nat, 0 ≤ (fN_before q).toInt ∧ (fN_before q).toInt ≤ 79) (b_fN_stop : ∀ q : Nat, 0 ≤ (fN_stop q).toInt ∧ (fN_stop q).toInt ≤ 11) (b_iN_stops : 0 ≤ iN_stops.toInt ∧ iN_stops.toInt ≤ 8) (b_p1 : 1 ≤ p1.toInt ∧ p1.toInt ≤ 4095) (h8 : cntB (bI p1) 12 ≤ 8) (sz : Nat) : Met l yX2_takeStops wsMX2_takeStops ({ frames := 0, cells := 0, slots := 0, locals := 0 }) (va_Pc [.ref (hN 0), .int p1] (fun U => U.heap.size = sz ∧ va_P (dC, dI) vwCl (WN hN aN kN iN_arcs fN_from fN_to fN_room fN_cost iN_reached fN_free fN_before fN_flow fN_length fN_stop iN_stops fN_price fN_rest) U.heap ∧ va_K (dC, dI) vwCl (tN kN) U ∧ va_D (fun _ => True) (WN hN aN kN iN_arcs fN_from fN_to fN_room fN_cost iN_reached fN_free fN_before fN_flow fN_length fN_stop iN_stops fN_price fN_rest))) (va_Qv (fun (u : (Nat → Int32) × (Int32)) => (∀ q : Nat, 0 ≤ ((u.1) q).toInt ∧ ((u.1) q).toInt ≤ 11) ∧ (0 ≤ (u.2).toInt ∧ (u.2).toInt ≤ 8) ∧ (1 ≤ (u.2).toInt) ∧ ((u.2).toInt = (cntB (bI p1) 12 : Int) ∧ ∀ j : Nat, j < cntB (bI p1) 12 → ((u.1) j).toInt = (tuK (bI p1) j : Int))) (fun (u : (Nat → Int32) × (Int32)) t => va_P (dC, dI) vwCl (WN hN aN kN iN_arcs fN_from fN_to fN_room fN_cost iN_reached fN_free fN_before fN_flow fN_length (u.1) (u.2) fN_price fN_rest) t.heap ∧ va_D (va_A (WN hN aN kN iN_arcs fN_from fN_to fN_room fN_cost iN_reached fN_free fN_before fN_flow fN_length fN_stop iN_stops fN_price fN_rest) sz) (WN hN aN kN iN_arcs fN_from fN_to fN_room fN_cost iN_reached fN_free fN_before fN_flow fN_length (u.1) (u.2) fN_price fN_rest)) (va_A (WN hN aN kN iN_arcs fN_from fN_to fN_room fN_cost iN_reached fN_free fN_before fN_flow fN_length fN_stop iN_stops fN_price fN_rest) sz)) 0 0 (va_A (WN hN aN kN iN_arcs fN_from fN_to fN_room fN_cost iN_reached fN_free fN_before fN_flow fN_length fN_stop iN_stops fN_price fN_rest) sz) := by
  refine Met.ofW (cc := cX2_takeStops) (maxL := 3) (ret := none) (by decide) rfl ?_
  intro p e s m args below meth c s₁ B hml hv
  obtain ⟨rfl, hsz, hP, hK, hD0⟩ := hv
  have hx := B.exec
  have hb := B.bytes
  have hr := B.returns
  have hts := atoms_spec (ws := wsMX2_takeStops) B.pre
  have hown : s.vm.findClass RX2 = some m.cls := findClass_of_methodNamed B.named
  have hlocks := B.notSynchronized
  subst hsz
  have hD := hD0.self (sz := s.heap.size)
  generalize hAe : va_A (WN hN aN kN iN_arcs fN_from fN_to fN_room fN_cost iN_reached fN_free fN_before fN_flow fN_length fN_stop iN_stops fN_price fN_rest) s.heap.size = A at hD ⊢
  have hA : ∀ q : Nat, s.heap.size ≤ q → A q := fun q h => by rw [← hAe]; exact Or.inr h
  have hS : va_S A s.heap s.heap [] := va_S.rf
  have hl := lv_entry ([.ref (hN 0), .int p1]) (n := 3) (Nat.le_of_ble_eq_true rfl)
  rw [lg_entry_eq]
  generalize (lg_sl ([.ref (hN 0), .int p1]) ++ List.replicate (3 - (lg_sl ([.ref (hN 0), .int p1])).length) Slot.unset).toArray = ls at hl ⊢
  have hl : lv_has ls 3 [(0, .ref (hN 0)), (1, .int p1)] := hl
  refine lv_aload_n hx hb dX2_takeStops_0 rfl (lv_at hl 0 rfl) ?_
  refine lv_iconst (v := 0) hx hb dX2_takeStops_1 (by decide) ?_
  refine va_put (D := (dC, dI)) (ci := 2) (v := .int 0) (ty := .int) (C := RX2) (T := TX2) (N := 14) hx hb hts iwsMX2_takeStops_in2 tyX2 tyX2_ok nmX2 hown hK hP hD hS 0 rfl rfl 11 (by decide) (hts (.fieldLink RX2 98 "OptimaWorks$NetDesk" "stops" "I") (by decide +kernel)) (fun _ h9 => h9) rfl (by decide +kernel) rfl rfl (Nat.le_of_ble_eq_true rfl) dX2_takeStops_2 (fun H locs hP hD hS => ?_)
  have hP : va_P (dC, dI) vwCl (WN hN aN kN iN_arcs fN_from fN_to fN_room fN_cost iN_reached fN_free fN_before fN_flow fN_length fN_stop 0 fN_price fN_rest) H := hP
  have hD : va_D A (WN hN aN kN iN_arcs fN_from fN_to fN_room fN_cost iN_reached fN_free fN_before fN_flow fN_length fN_stop 0 fN_price fN_rest) := hD
  refine lv_iconst (v := 0) hx hb dX2_takeStops_5 (by decide) ?_
  refine lv_istore_n hx hb dX2_takeStops_6 rfl hl (by decide) rfl (fun ls (hl : lv_has ls _ ([(2, .int 0), (0, .ref (hN 0)), (1, .int p1)])) => ?_)
  have hl : lv_has _ _ ([(2, .int 0), (0, .ref (hN 0)), (1, .int p1)]) := lv_sub hl [0, 1, 2] rfl
  refine (fun (loop : ∀ (n9 : Nat) (fN_stop_x7 : Nat → Int32) (iN_stops_x7 : Int32) (l2_x7 : Int32) (H : Heap) (locs : List Loc) (ls : Array Slot), (∀ q : Nat, 0 ≤ (fN_stop_x7 q).toInt ∧ (fN_stop_x7 q).toInt ≤ 11) → (0 ≤ iN_stops_x7.toInt ∧ iN_stops_x7.toInt ≤ 8) → (0 ≤ l2_x7.toInt ∧ l2_x7.toInt ≤ 12) → (1 ≤ iN_stops_x7.toInt ∨ ∀ j : Nat, (j : Int) < l2_x7.toInt → bt p1 j = false) → (tuStI (bI p1) l2_x7.toInt iN_stops_x7.toInt fN_stop_x7) → (12 - l2_x7.toInt < ((n9 : Nat) : Int)) → va_P (dC, dI) vwCl (WN hN aN kN iN_arcs fN_from fN_to fN_room fN_cost iN_reached fN_free fN_before fN_flow fN_length fN_stop_x7 iN_stops_x7 fN_price fN_rest) H → va_D A (WN hN aN kN iN_arcs fN_from fN_to fN_room fN_cost iN_reached fN_free fN_before fN_flow fN_length fN_stop_x7 iN_stops_x7 fN_price fN_rest) → va_S A s.heap H locs → lv_has ls 3 [(2, .int l2_x7), (0, .ref (hN 0)), (1, .int p1)] → W p l e _ s m _ below meth c H locs 0 0 _ (F0 m 7 ls [])) => loop (13) fN_stop 0 0 _ _ _ b_fN_stop (show 0 ≤ (0 : Int32).toInt ∧ (0 : Int32).toInt ≤ 8 from by decide) (show 0 ≤ (0 : Int32).toInt ∧ (0 : Int32).toInt ≤ 12 from by decide) (show 1 ≤ (0 : Int32).toInt ∨ ∀ j : Nat, (j : Int) < (0 : Int32).toInt → bt p1 j = false from Or.inr (fun j hj => absurd hj (by have : (0 : Int32).toInt = 0 := (by decide); omega))) (show tuStI (bI p1) (0 : Int32).toInt (0 : Int32).toInt fN_stop from tuStI.start (by decide) (by decide)) ((by have e9 : (0 : Int32).toInt = 0 := (by decide : (0 : Int32).toInt = 0); omega)) hP hD hS hl) ?_
  intro n9
  induction n9 with
  | zero => intro fN_stop_x7 iN_stops_x7 l2_x7 H locs ls b_fN_stop_x7 b_iN_stops_x7 b_l2_x7 hst1 hSt hf9; exact False.elim (by omega)
  | succ n9 ihx7 =>
    intro fN_stop_x7 iN_stops_x7 l2_x7 H locs ls b_fN_stop_x7 b_iN_stops_x7 b_l2_x7 hst1 hSt hfx7 hP hD hS hl
    refine lv_iload_n hx hb dX2_takeStops_7 rfl (lv_at hl 0 rfl) ?_
    refine lv_bipush (v := 12) hx hb dX2_takeStops_8 (by decide) ?_
    refine W.cut (pc := 56) (fun H locs ls stk => (12 ≤ l2_x7.toInt ∨ 1 ≤ iN_stops_x7.toInt) ∧ (12 ≤ l2_x7.toInt ∨ 8 ≤ iN_stops_x7.toInt) ∧  stk = [] ∧ va_P (dC, dI) vwCl (WN hN aN kN iN_arcs fN_from fN_to fN_room fN_cost iN_reached fN_free fN_before fN_flow fN_length fN_stop_x7 iN_stops_x7 fN_price fN_rest) H ∧ va_D A (WN hN aN kN iN_arcs fN_from fN_to fN_room fN_cost iN_reached fN_free fN_before fN_flow fN_length fN_stop_x7 iN_stops_x7 fN_price fN_rest) ∧ va_S A s.heap H locs ∧ lv_has ls 3 [(2, .int l2_x7), (0, .ref (hN 0)), (1, .int p1)]) (fun join4 => ?_) ?_
    · refine lv_icmp_ge (tgt := 56) hx hb dX2_takeStops_10 (by decide) (fun c_10 => ?_) (fun c_10 => ?_)
      · have t_10 : l2_x7.toInt ≥ 12 := toI_ge c_10 rfl (by decide : (12 : Int32).toInt = 12)
        have hl : lv_has _ _ ([(2, .int l2_x7), (0, .ref (hN 0)), (1, .int p1)]) := lv_sub hl [0, 1, 2] rfl
        exact join4 _ _ _ _ ⟨(show 12 ≤ l2_x7.toInt ∨ 1 ≤ iN_stops_x7.toInt from by first | assumption | omega), (show 12 ≤ l2_x7.toInt ∨ 8 ≤ iN_stops_x7.toInt from by first | assumption | omega), rfl, hP, hD, hS, hl⟩
      · have t_10 : ¬ l2_x7.toInt ≥ 12 := toI_nge c_10 rfl (by decide : (12 : Int32).toInt = 12)
        refine lv_aload_n hx hb dX2_takeStops_13 rfl (lv_at hl 1 rfl) ?_
        refine va_get (D := (dC, dI)) (ci := 2) (v := .int iN_stops_x7) (C := RX2) (T := TX2) (N := 14) hx hb hts iwsMX2_takeStops_in2 hown hK hP 0 rfl rfl 11 (by decide) (hts (.fieldLink RX2 98 "OptimaWorks$NetDesk" "stops" "I") (by decide +kernel)) (fun _ h9 => h9) rfl dX2_takeStops_14 ?_
        refine lv_bipush (v := 8) hx hb dX2_takeStops_17 (by decide) ?_
        refine lv_icmp_ge (tgt := 56) hx hb dX2_takeStops_19 (by decide) (fun c_19 => ?_) (fun c_19 => ?_)
        · have t_19 : iN_stops_x7.toInt ≥ 8 := toI_ge c_19 rfl (by decide : (8 : Int32).toInt = 8)
          have hl : lv_has _ _ ([(2, .int l2_x7), (0, .ref (hN 0)), (1, .int p1)]) := lv_sub hl [0, 1, 2] rfl
          exact join4 _ _ _ _ ⟨(show 12 ≤ l2_x7.toInt ∨ 1 ≤ iN_stops_x7.toInt from by first | assumption | omega), (show 12 ≤ l2_x7.toInt ∨ 8 ≤ iN_stops_x7.toInt from by first | assumption | omega), rfl, hP, hD, hS, hl⟩
        · have t_19 : ¬ iN_stops_x7.toInt ≥ 8 := toI_nge c_19 rfl (by decide : (8 : Int32).toInt = 8)
          refine lv_iload_n hx hb dX2_takeStops_22 rfl (lv_at hl 2 rfl) ?_
          refine lv_iload_n hx hb dX2_takeStops_23 rfl (lv_at hl 0 rfl) ?_
          refine lv_ishr hx hb dX2_takeStops_24 ?_
          refine lv_topi (fun v17 hv17 => ?_)
          have b_v17 : v17 = p1 >>> (l2_x7 &&& 31) := hv17
          clear hv17
          refine lv_iconst (v := 1) hx hb dX2_takeStops_25 (by decide) ?_
          refine lv_iand hx hb dX2_takeStops_26 ?_
          refine lv_topi (fun v18 hv18 => ?_)
          have b_v18 : (bt p1 l2_x7.toInt.toNat = true ∧ v18.toInt = 1) ∨ (bt p1 l2_x7.toInt.toNat = false ∧ v18.toInt = 0) := by rw [hv18]; exact sh_and1 b_v17 rfl (by omega) (by omega)
          clear hv18
          refine lv_if_eq (tgt := 50) hx hb dX2_takeStops_27 (by decide) (fun c_27 => ?_) (fun c_27 => ?_)
          · have t_27 : v18.toInt = 0 := toI_eq c_27 rfl (by decide : (0 : Int32).toInt = 0)
            refine lv_iinc (v := (iI (l2_x7.toInt + 1))) hx hb dX2_takeStops_50 hl (k := 0) rfl (iI_add2 (iI_of _) (by decide : (1 : Int32) = iI 1)) (by decide) rfl (fun ls (hl : lv_has ls _ ([(2, .int (iI (l2_x7.toInt + 1))), (0, .ref (hN 0)), (1, .int p1)])) => ?_)
            refine lv_goto (tgt := 7) hx hb dX2_takeStops_53 (by decide) ?_
            have hl : lv_has _ _ ([(2, .int (iI (l2_x7.toInt + 1))), (0, .ref (hN 0)), (1, .int p1)]) := lv_sub hl [0, 1, 2] rfl
            exact ihx7 fN_stop_x7 iN_stops_x7 (iI (l2_x7.toInt + 1)) _ _ _ b_fN_stop_x7 (b_iN_stops_x7) (iI_rng (Int.le_trans (by decide) (Int.add_le_add (b_l2_x7.1) (Int.le_refl _))) (by omega) (by decide) (by decide)) (show 1 ≤ iN_stops_x7.toInt ∨ ∀ j : Nat, (j : Int) < (iI (l2_x7.toInt + 1)).toInt → bt p1 j = false from by first | exact tk_0 hst1 (by omega) (iI_t (by omega) (by omega)) t_27 (by assumption) | exact Or.inl (by rw [iI_t (by omega) (by omega)]; omega)) (show tuStI (bI p1) (iI (l2_x7.toInt + 1)).toInt iN_stops_x7.toInt fN_stop_x7 from tuStI.skip hSt (by omega) (iI_t (by omega) (by omega)) (bt_no b_v18 t_27)) (by have e9 : ((iI (l2_x7.toInt + 1))).toInt = (l2_x7.toInt + 1) := (iI_t (Int.le_trans (by decide) (Int.add_le_add (b_l2_x7.1) (Int.le_refl _))) (Int.le_trans (Int.add_le_add (b_l2_x7.2) (Int.le_refl _)) (by decide))); omega) hP hD hS hl
          · have t_27 : ¬ v18.toInt = 0 := toI_neq c_27 rfl (by decide : (0 : Int32).toInt = 0)
            refine lv_aload_n hx hb dX2_takeStops_30 rfl (lv_at hl 1 rfl) ?_
            refine va_get (D := (dC, dI)) (ci := 2) (v := .ref (aN 8)) (C := RX2) (T := TX2) (N := 14) hx hb hts iwsMX2_takeStops_in2 hown hK hP 0 rfl rfl 10 (by decide) (hts (.fieldLink RX2 36 "OptimaWorks$NetDesk" "stop" "[I") (by decide +kernel)) (fun _ h9 => h9) rfl dX2_takeStops_31 ?_
            refine lv_aload_n hx hb dX2_takeStops_34 rfl (lv_at hl 1 rfl) ?_
            refine va_get (D := (dC, dI)) (ci := 2) (v := .int iN_stops_x7) (C := RX2) (T := TX2) (N := 14) hx hb hts iwsMX2_takeStops_in2 hown hK hP 0 rfl rfl 11 (by decide) (hts (.fieldLink RX2 98 "OptimaWorks$NetDesk" "stops" "I") (by decide +kernel)) (fun _ h9 => h9) rfl dX2_takeStops_35 ?_
            refine lv_iload_n hx hb dX2_takeStops_38 rfl (lv_at hl 0 rfl) ?_
            refine va_iast (cA := kN 8) (n := 8) (f := fN_stop_x7) hx hb hK hP hD hS 9 8 rfl rfl (vp_in_iff.mpr ⟨b_iN_stops_x7.1, (Int.lt_of_lt_of_le (Int.not_le.mp t_19) (by decide))⟩) dX2_takeStops_39 (fun H locs hP hD hS => ?_)
            obtain ⟨u19, hu19⟩ : ∃ f9, f9 = upd fN_stop_x7 (iN_stops_x7).toNatClampNeg l2_x7 := ⟨_, rfl⟩
            have hP : va_P (dC, dI) vwCl (WN hN aN kN iN_arcs fN_from fN_to fN_room fN_cost iN_reached fN_free fN_before fN_flow fN_length u19 iN_stops_x7 fN_price fN_rest) H := by rw [hu19]; exact hP
            have hD : va_D A (WN hN aN kN iN_arcs fN_from fN_to fN_room fN_cost iN_reached fN_free fN_before fN_flow fN_length u19 iN_stops_x7 fN_price fN_rest) := by rw [hu19]; exact hD
            have b_u19 : ∀ q : Nat, 0 ≤ (u19 q).toInt ∧ (u19 q).toInt ≤ 11 := by rw [hu19]; exact upd_r b_fN_stop_x7 (by first | exact b_l2_x7 | with_reducible assumption | exact ⟨by omega, by omega⟩ | assumption)
            have b1_u19 : u19 = upd fN_stop_x7 (iN_stops_x7).toNatClampNeg l2_x7 := hu19
            clear hu19
            refine lv_aload_n hx hb dX2_takeStops_40 rfl (lv_at hl 1 rfl) ?_
            refine lv_dup hx hb dX2_takeStops_41 rfl ?_
            refine va_get (D := (dC, dI)) (ci := 2) (v := .int iN_stops_x7) (C := RX2) (T := TX2) (N := 14) hx hb hts iwsMX2_takeStops_in2 hown hK hP 0 rfl rfl 11 (by decide) (hts (.fieldLink RX2 98 "OptimaWorks$NetDesk" "stops" "I") (by decide +kernel)) (fun _ h9 => h9) rfl dX2_takeStops_42 ?_
            refine lv_iconst (v := 1) hx hb dX2_takeStops_45 (by decide) ?_
            refine lv_iadd hx hb dX2_takeStops_46 ?_
            refine lv_topi (fun y20 hy20 => ?_)
            obtain rfl : (iI (iN_stops_x7.toInt + 1)) = y20 := (hy20.trans (iI_add2 (iI_of _) (by decide : (1 : Int32) = iI 1))).symm
            refine va_put (D := (dC, dI)) (ci := 2) (v := .int (iI (iN_stops_x7.toInt + 1))) (ty := .int) (C := RX2) (T := TX2) (N := 14) hx hb hts iwsMX2_takeStops_in2 tyX2 tyX2_ok nmX2 hown hK hP hD hS 0 rfl rfl 11 (by decide) (hts (.fieldLink RX2 98 "OptimaWorks$NetDesk" "stops" "I") (by decide +kernel)) (fun _ h9 => h9) rfl (by decide +kernel) rfl rfl (Nat.le_of_ble_eq_true rfl) dX2_takeStops_47 (fun H locs hP hD hS => ?_)
            have hP : va_P (dC, dI) vwCl (WN hN aN kN iN_arcs fN_from fN_to fN_room fN_cost iN_reached fN_free fN_before fN_flow fN_length u19 (iI (iN_stops_x7.toInt + 1)) fN_price fN_rest) H := hP
            have hD : va_D A (WN hN aN kN iN_arcs fN_from fN_to fN_room fN_cost iN_reached fN_free fN_before fN_flow fN_length u19 (iI (iN_stops_x7.toInt + 1)) fN_price fN_rest) := hD
            refine lv_iinc (v := (iI (l2_x7.toInt + 1))) hx hb dX2_takeStops_50 hl (k := 0) rfl (iI_add2 (iI_of _) (by decide : (1 : Int32) = iI 1)) (by decide) rfl (fun ls (hl : lv_has ls _ ([(2, .int (iI (l2_x7.toInt + 1))), (0, .ref (hN 0)), (1, .int p1)])) => ?_)
            refine lv_goto (tgt := 7) hx hb dX2_takeStops_53 (by decide) ?_
            have hl : lv_has _ _ ([(2, .int (iI (l2_x7.toInt + 1))), (0, .ref (hN 0)), (1, .int p1)]) := lv_sub hl [0, 1, 2] rfl
            exact ihx7 u19 (iI (iN_stops_x7.toInt + 1)) (iI (l2_x7.toInt + 1)) _ _ _ b_u19 (iI_rng (Int.le_trans (by decide) (Int.add_le_add (b_iN_stops_x7.1) (Int.le_refl _))) (by omega) (by decide) (by decide)) (iI_rng (Int.le_trans (by decide) (Int.add_le_add (b_l2_x7.1) (Int.le_refl _))) (by omega) (by decide) (by decide)) (show 1 ≤ (iI (iN_stops_x7.toInt + 1)).toInt ∨ ∀ j : Nat, (j : Int) < (iI (l2_x7.toInt + 1)).toInt → bt p1 j = false from by first | exact tk_0 hst1 (by omega) (iI_t (by omega) (by omega)) t_27 (by assumption) | exact Or.inl (by rw [iI_t (by omega) (by omega)]; omega)) (show tuStI (bI p1) (iI (l2_x7.toInt + 1)).toInt (iI (iN_stops_x7.toInt + 1)).toInt u19 from tuStI.take hSt (by omega) (by omega) (iI_t (by omega) (by omega)) (iI_t (by omega) (by omega)) (bt_yes b_v18 t_27) b1_u19 rfl) (by have e9 : ((iI (l2_x7.toInt + 1))).toInt = (l2_x7.toInt + 1) := (iI_t (Int.le_trans (by decide) (Int.add_le_add (b_l2_x7.1) (Int.le_refl _))) (Int.le_trans (Int.add_le_add (b_l2_x7.2) (Int.le_refl _)) (by decide))); omega) hP hD hS hl
    · rintro H locs ls stk ⟨hjn, hje, rfl, hP, hD, hS, hl⟩
      refine W.widen (k := 0) (n := 0) (by decide +kernel) (by decide +kernel) ?_
      exact W.vret hx hb hr (fun t9_ ht hW => ⟨⟨(fN_stop_x7, iN_stops_x7), rfl, ⟨b_fN_stop_x7, (by (try dsimp only); exact (b_iN_stops_x7)), (by (try dsimp only); exact (tk_end hst1 hjn (by omega) (by omega))), (by (try dsimp only); exact (tuStI.done hSt h8 (by omega) (by omega) hje))⟩, by rw [ht]; exact hP, hD⟩, hS.F ht⟩) hS.2.2 dX2_takeStops_56
theorem dX2_takePrices_0 : decode cX2_takePrices 0 = .ok (.aload_n 0, 1) := dk_42 (by decide +kernel)
theorem dX2_takePrices_1 : decode cX2_takePrices 1 = .ok (.getfield 39, 3) := dk_180 (by decide +kernel)
theorem dX2_takePrices_4 : decode cX2_takePrices 4 = .ok (.ldc 60, 2) := dk_18 (by decide +kernel)
theorem dX2_takePrices_6 : decode cX2_takePrices 6 = .ok (.invokestatic 49, 3) := dk_184 (by decide +kernel)
theorem dX2_takePrices_9 : decode cX2_takePrices 9 = .ok (.iconst 0, 1) := dk_3 (by decide +kernel)
theorem dX2_takePrices_10 : decode cX2_takePrices 10 = .ok (.istore_n 1, 1) := dk_60 (by decide +kernel)
theorem dX2_takePrices_11 : decode cX2_takePrices 11 = .ok (.iload_n 1, 1) := dk_27 (by decide +kernel)
theorem dX2_takePrices_12 : decode cX2_takePrices 12 = .ok (.aload_n 0, 1) := dk_42 (by decide +kernel)
theorem dX2_takePrices_13 : decode cX2_takePrices 13 = .ok (.getfield 98, 3) := dk_180 (by decide +kernel)
theorem dX2_takePrices_16 : decode cX2_takePrices 16 = .ok (.if_icmp .ge 102, 3) := dk_162 (by decide +kernel)
theorem dX2_takePrices_19 : decode cX2_takePrices 19 = .ok (.iconst 0, 1) := dk_3 (by decide +kernel)
theorem dX2_takePrices_20 : decode cX2_takePrices 20 = .ok (.istore_n 2, 1) := dk_61 (by decide +kernel)
theorem dX2_takePrices_21 : decode cX2_takePrices 21 = .ok (.iload_n 2, 1) := dk_28 (by decide +kernel)
theorem dX2_takePrices_22 : decode cX2_takePrices 22 = .ok (.aload_n 0, 1) := dk_42 (by decide +kernel)
theorem dX2_takePrices_23 : decode cX2_takePrices 23 = .ok (.getfield 98, 3) := dk_180 (by decide +kernel)
theorem dX2_takePrices_26 : decode cX2_takePrices 26 = .ok (.if_icmp .ge 86, 3) := dk_162 (by decide +kernel)
theorem dX2_takePrices_29 : decode cX2_takePrices 29 = .ok (.iconst 0, 1) := dk_3 (by decide +kernel)
theorem dX2_takePrices_30 : decode cX2_takePrices 30 = .ok (.istore_n 3, 1) := dk_62 (by decide +kernel)
theorem dX2_takePrices_31 : decode cX2_takePrices 31 = .ok (.iload_n 3, 1) := dk_29 (by decide +kernel)
theorem dX2_takePrices_32 : decode cX2_takePrices 32 = .ok (.aload_n 0, 1) := dk_42 (by decide +kernel)
theorem dX2_takePrices_33 : decode cX2_takePrices 33 = .ok (.getfield 45, 3) := dk_180 (by decide +kernel)
theorem dX2_takePrices_36 : decode cX2_takePrices 36 = .ok (.if_icmp .ge 70, 3) := dk_162 (by decide +kernel)
theorem dX2_takePrices_39 : decode cX2_takePrices 39 = .ok (.aload_n 0, 1) := dk_42 (by decide +kernel)
theorem dX2_takePrices_40 : decode cX2_takePrices 40 = .ok (.getfield 11, 3) := dk_180 (by decide +kernel)
theorem dX2_takePrices_43 : decode cX2_takePrices 43 = .ok (.iload_n 3, 1) := dk_29 (by decide +kernel)
theorem dX2_takePrices_44 : decode cX2_takePrices 44 = .ok (.iaload, 1) := dk_46 (by decide +kernel)
theorem dX2_takePrices_45 : decode cX2_takePrices 45 = .ok (.aload_n 0, 1) := dk_42 (by decide +kernel)
theorem dX2_takePrices_46 : decode cX2_takePrices 46 = .ok (.getfield 36, 3) := dk_180 (by decide +kernel)
theorem dX2_takePrices_49 : decode cX2_takePrices 49 = .ok (.iload_n 1, 1) := dk_27 (by decide +kernel)
theorem dX2_takePrices_50 : decode cX2_takePrices 50 = .ok (.iaload, 1) := dk_46 (by decide +kernel)
theorem dX2_takePrices_51 : decode cX2_takePrices 51 = .ok (.if_icmp .ne 49, 3) := dk_160 (by decide +kernel)
theorem dX2_takePrices_54 : decode cX2_takePrices 54 = .ok (.aload_n 0, 1) := dk_42 (by decide +kernel)
theorem dX2_takePrices_55 : decode cX2_takePrices 55 = .ok (.getfield 15, 3) := dk_180 (by decide +kernel)
theorem dX2_takePrices_58 : decode cX2_takePrices 58 = .ok (.iload_n 3, 1) := dk_29 (by decide +kernel)
theorem dX2_takePrices_59 : decode cX2_takePrices 59 = .ok (.iaload, 1) := dk_46 (by decide +kernel)
theorem dX2_takePrices_60 : decode cX2_takePrices 60 = .ok (.aload_n 0, 1) := dk_42 (by decide +kernel)
theorem dX2_takePrices_61 : decode cX2_takePrices 61 = .ok (.getfield 36, 3) := dk_180 (by decide +kernel)
theorem dX2_takePrices_64 : decode cX2_takePrices 64 = .ok (.iload_n 2, 1) := dk_28 (by decide +kernel)
theorem dX2_takePrices_65 : decode cX2_takePrices 65 = .ok (.iaload, 1) := dk_46 (by decide +kernel)
theorem dX2_takePrices_66 : decode cX2_takePrices 66 = .ok (.if_icmp .ne 34, 3) := dk_160 (by decide +kernel)
theorem dX2_takePrices_69 : decode cX2_takePrices 69 = .ok (.aload_n 0, 1) := dk_42 (by decide +kernel)
theorem dX2_takePrices_70 : decode cX2_takePrices 70 = .ok (.getfield 39, 3) := dk_180 (by decide +kernel)
theorem dX2_takePrices_73 : decode cX2_takePrices 73 = .ok (.iload_n 1, 1) := dk_27 (by decide +kernel)
theorem dX2_takePrices_74 : decode cX2_takePrices 74 = .ok (.bipush 8, 2) := dk_16 (by decide +kernel)
theorem dX2_takePrices_76 : decode cX2_takePrices 76 = .ok (.imul, 1) := dk_104 (by decide +kernel)
theorem dX2_takePrices_77 : decode cX2_takePrices 77 = .ok (.iload_n 2, 1) := dk_28 (by decide +kernel)
theorem dX2_takePrices_78 : decode cX2_takePrices 78 = .ok (.iadd, 1) := dk_96 (by decide +kernel)
theorem dX2_takePrices_79 : decode cX2_takePrices 79 = .ok (.aload_n 0, 1) := dk_42 (by decide +kernel)
theorem dX2_takePrices_80 : decode cX2_takePrices 80 = .ok (.getfield 39, 3) := dk_180 (by decide +kernel)
theorem dX2_takePrices_83 : decode cX2_takePrices 83 = .ok (.iload_n 1, 1) := dk_27 (by decide +kernel)
theorem dX2_takePrices_84 : decode cX2_takePrices 84 = .ok (.bipush 8, 2) := dk_16 (by decide +kernel)
theorem dX2_takePrices_86 : decode cX2_takePrices 86 = .ok (.imul, 1) := dk_104 (by decide +kernel)
theorem dX2_takePrices_87 : decode cX2_takePrices 87 = .ok (.iload_n 2, 1) := dk_28 (by decide +kernel)
theorem dX2_takePrices_88 : decode cX2_takePrices 88 = .ok (.iadd, 1) := dk_96 (by decide +kernel)
theorem dX2_takePrices_89 : decode cX2_takePrices 89 = .ok (.iaload, 1) := dk_46 (by decide +kernel)
theorem dX2_takePrices_90 : decode cX2_takePrices 90 = .ok (.aload_n 0, 1) := dk_42 (by decide +kernel)
theorem dX2_takePrices_91 : decode cX2_takePrices 91 = .ok (.getfield 21, 3) := dk_180 (by decide +kernel)
theorem dX2_takePrices_94 : decode cX2_takePrices 94 = .ok (.iload_n 3, 1) := dk_29 (by decide +kernel)
theorem dX2_takePrices_95 : decode cX2_takePrices 95 = .ok (.iaload, 1) := dk_46 (by decide +kernel)
theorem dX2_takePrices_96 : decode cX2_takePrices 96 = .ok (.invokestatic 61, 3) := dk_184 (by decide +kernel)
theorem dX2_takePrices_99 : decode cX2_takePrices 99 = .ok (.iastore, 1) := dk_79 (by decide +kernel)
theorem dX2_takePrices_100 : decode cX2_takePrices 100 = .ok (.iinc 3 1, 3) := dk_132 (by decide +kernel)
theorem dX2_takePrices_103 : decode cX2_takePrices 103 = .ok (.goto (-72), 3) := dk_167 (by decide +kernel)
theorem dX2_takePrices_106 : decode cX2_takePrices 106 = .ok (.iinc 2 1, 3) := dk_132 (by decide +kernel)
theorem dX2_takePrices_109 : decode cX2_takePrices 109 = .ok (.goto (-88), 3) := dk_167 (by decide +kernel)
theorem dX2_takePrices_112 : decode cX2_takePrices 112 = .ok (.iinc 1 1, 3) := dk_132 (by decide +kernel)
theorem dX2_takePrices_115 : decode cX2_takePrices 115 = .ok (.goto (-104), 3) := dk_167 (by decide +kernel)
theorem dX2_takePrices_118 : decode cX2_takePrices 118 = .ok (.return_, 1) := dk_177 (by decide +kernel)
def wsMX2_takePrices : List Cond := .code yX2_takePrices cX2_takePrices 4 none :: ([.fieldLink RX2 39 "OptimaWorks$NetDesk" "price" "[I", .constant RX2 60 536870912, .fieldLink RX2 98 "OptimaWorks$NetDesk" "stops" "I", .fieldLink RX2 45 "OptimaWorks$NetDesk" "arcs" "I", .fieldLink RX2 11 "OptimaWorks$NetDesk" "from" "[I", .fieldLink RX2 36 "OptimaWorks$NetDesk" "stop" "[I", .fieldLink RX2 15 "OptimaWorks$NetDesk" "to" "[I", .fieldLink RX2 21 "OptimaWorks$NetDesk" "cost" "[I", .methodLink RX2 61 Lib.Math.min.name, .static Lib.Math.min.name, .initialized "java/lang/Math", .code Lib.Math.min.name Lib.Math.min.code 2 (some .int)] ++ wsX20 ++ (va_wsS RX2 49 yJ7_fill_53178 wsMJ7_fill_53178))
theorem iwsMX2_takePrices_in2 : ∀ w ∈ wsX20, w ∈ wsMX2_takePrices := fun _ h => List.mem_cons_of_mem _ (List.mem_append_left _ (List.mem_append_right _ h))
theorem gwsMX2_takePrices_0 : GoodIn wsMX2_takePrices (va_wsS RX2 49 yJ7_fill_53178 wsMJ7_fill_53178) := goodIn_sub (fun _ h => List.mem_cons_of_mem _ (List.mem_append_right _ h)) (gdS (by decide +kernel) gdwsMJ7_fill_53178)
theorem gdwsMX2_takePrices : wsMX2_takePrices.all goodWord = true := gdC rfl (gdA (gdA (by decide +kernel : ([.fieldLink RX2 39 "OptimaWorks$NetDesk" "price" "[I", .constant RX2 60 536870912, .fieldLink RX2 98 "OptimaWorks$NetDesk" "stops" "I", .fieldLink RX2 45 "OptimaWorks$NetDesk" "arcs" "I", .fieldLink RX2 11 "OptimaWorks$NetDesk" "from" "[I", .fieldLink RX2 36 "OptimaWorks$NetDesk" "stop" "[I", .fieldLink RX2 15 "OptimaWorks$NetDesk" "to" "[I", .fieldLink RX2 21 "OptimaWorks$NetDesk" "cost" "[I", .methodLink RX2 61 Lib.Math.min.name, .static Lib.Math.min.name, .initialized "java/lang/Math", .code Lib.Math.min.name Lib.Math.min.code 2 (some .int)] : List Cond).all goodWord = true) gdwsX20) (gdS (by decide +kernel) gdwsMJ7_fill_53178))
set_option maxHeartbeats 4000000 in
set_option maxRecDepth 100000 in
/-- prices between the stops -/
theorem m_X2_takePrices (l : Launch) (dC : Nat → ClassId) (dI : Nat → Nat → Nat) (hN : Nat → Nat) (aN : Nat → Nat) (kN : Nat → ClassId) (iN_arcs : Int32) (fN_from : Nat → Int32) (fN_to : Nat → Int32) (fN_room : Nat → Int32) (fN_cost : Nat → Int32) (iN_reached : Int32) (fN_free : Nat → Int32) (fN_before : Nat → Int32) (fN_flow : Nat → Int32) (fN_length : Nat → Int32) (fN_stop : Nat → Int32) (iN_stops : Int32) (fN_price : Nat → Int32) (fN_rest : Nat → Int32) (b_iN_arcs : 0 ≤ iN_arcs.toInt ∧ iN_arcs.toInt ≤ 40) (b_fN_from : ∀ q : Nat, 0 ≤ (fN_from q).toInt ∧ (fN_from q).toInt ≤ 11) (b_fN_to : ∀ q : Nat, 0 ≤ (fN_to q).toInt ∧ (fN_to q).toInt ≤ 11) (b_fN_before : ∀ q : Nat, 0 ≤ (fN_before q).toInt ∧ (fN_before q).toInt ≤ 79) (b_fN_stop : ∀ q : Nat, 0 ≤ (fN_stop q).toInt ∧ (fN_stop q).toInt ≤ 11) (b_iN_stops : 0 ≤ iN_stops.toInt ∧ iN_stops.toInt ≤ 8) (sz : Nat) : Met l yX2_takePrices wsMX2_takePrices ({ frames := 1, cells := 0, slots := 0, locals := 23 }) (va_Pc [.ref (hN 0)] (fun U => U.heap.size = sz ∧ va_P (dC, dI) vwCl (WN hN aN kN iN_arcs fN_from fN_to fN_room fN_cost iN_reached fN_free fN_before fN_flow fN_length fN_stop iN_stops fN_price fN_rest) U.heap ∧ va_K (dC, dI) vwCl (tN kN) U ∧ va_D (fun _ => True) (WN hN aN kN iN_arcs fN_from fN_to fN_room fN_cost iN_reached fN_free fN_before fN_flow fN_length fN_stop iN_stops fN_price fN_rest))) (va_Qv (fun (u : Nat → Int32) => (∀ x y, x < iN_stops.toInt.toNat → y < iN_stops.toInt.toNat → (u (8 * x + y)).toInt = tuL (iN_arcs.toInt, fN_from, fN_to, fN_room, fN_cost) (fN_stop x).toInt.toNat (fN_stop y).toInt.toNat iN_arcs.toInt.toNat)) (fun (u : Nat → Int32) t => va_P (dC, dI) vwCl (WN hN aN kN iN_arcs fN_from fN_to fN_room fN_cost iN_reached fN_free fN_before fN_flow fN_length fN_stop iN_stops u fN_rest) t.heap ∧ va_D (va_A (WN hN aN kN iN_arcs fN_from fN_to fN_room fN_cost iN_reached fN_free fN_before fN_flow fN_length fN_stop iN_stops fN_price fN_rest) sz) (WN hN aN kN iN_arcs fN_from fN_to fN_room fN_cost iN_reached fN_free fN_before fN_flow fN_length fN_stop iN_stops u fN_rest)) (va_A (WN hN aN kN iN_arcs fN_from fN_to fN_room fN_cost iN_reached fN_free fN_before fN_flow fN_length fN_stop iN_stops fN_price fN_rest) sz)) 0 0 (va_A (WN hN aN kN iN_arcs fN_from fN_to fN_room fN_cost iN_reached fN_free fN_before fN_flow fN_length fN_stop iN_stops fN_price fN_rest) sz) := by
  refine Met.ofW (cc := cX2_takePrices) (maxL := 4) (ret := none) (by decide) rfl ?_
  intro p e s m args below meth c s₁ B hml hv
  obtain ⟨rfl, hsz, hP, hK, hD0⟩ := hv
  have hx := B.exec
  have hb := B.bytes
  have hr := B.returns
  have hts := atoms_spec (ws := wsMX2_takePrices) B.pre
  have hown : s.vm.findClass RX2 = some m.cls := findClass_of_methodNamed B.named
  have hlocks := B.notSynchronized
  subst hsz
  have hD := hD0.self (sz := s.heap.size)
  generalize hAe : va_A (WN hN aN kN iN_arcs fN_from fN_to fN_room fN_cost iN_reached fN_free fN_before fN_flow fN_length fN_stop iN_stops fN_price fN_rest) s.heap.size = A at hD ⊢
  have hA : ∀ q : Nat, s.heap.size ≤ q → A q := fun q h => by rw [← hAe]; exact Or.inr h
  have hS : va_S A s.heap s.heap [] := va_S.rf
  have hl := lv_entry ([.ref (hN 0)]) (n := 4) (Nat.le_of_ble_eq_true rfl)
  rw [lg_entry_eq]
  generalize (lg_sl ([.ref (hN 0)]) ++ List.replicate (4 - (lg_sl ([.ref (hN 0)])).length) Slot.unset).toArray = ls at hl ⊢
  have hl : lv_has ls 4 [(0, .ref (hN 0))] := hl
  refine lv_aload_n hx hb dX2_takePrices_0 rfl (lv_at hl 0 rfl) ?_
  refine va_get (D := (dC, dI)) (ci := 2) (v := .ref (aN 9)) (C := RX2) (T := TX2) (N := 14) hx hb hts iwsMX2_takePrices_in2 hown hK hP 0 rfl rfl 12 (by decide) (hts (.fieldLink RX2 39 "OptimaWorks$NetDesk" "price" "[I") (by decide +kernel)) (fun _ h9 => h9) rfl dX2_takePrices_1 ?_
  refine lv_ldc (v := 536870912) hx hb hown (hts (.constant RX2 60 536870912) (by decide +kernel)) dX2_takePrices_4 ?_
  have hPc : va_P (dC, dI) vwCl (WY (fun _ => 0) (fun _ => aN 9) (fun _ => kN 9) 64 fN_price) _ := hP.sub [10] rfl
  have hDc : va_D _ (WY (fun _ => 0) (fun _ => aN 9) (fun _ => kN 9) 64 fN_price) := hD.sub [10] (by decide) rfl
  have hKc : va_K (dC, dI) vwCl (tY (fun _ => kN 9)) _ := hK.sub [9] rfl
  have hFc := va_free (wc := WY (fun _ => 0) (fun _ => aN 9) (fun _ => kN 9) 64 fN_price) hD hS hA [10] rfl
  refine va_callv (va_runS (As := [.ref (aN 9), .int 536870912]) (rest := []) ⟨hx, hb, hml, hown, hts⟩ (m_J7_fill_53178 l dC dI (fun _ => 0) (fun _ => aN 9) (fun _ => kN 9) 64 fN_price 536870912 (by first | assumption | exact ⟨by omega, by omega⟩) s.heap.size) (va_cwS 2 hts gwsMX2_takePrices_0 rfl rfl rfl (by decide +kernel) ⟨by decide +kernel, by decide +kernel⟩) ⟨fun a U g mk q => by obtain ⟨q0, q1, qP, qK, qD⟩ := q; exact ⟨q0, q1, qP, va_K.moved (u := U) (U := U.calling g mk a) (Vm.Alike.refl U.vm) qK, qD⟩, fun U hU9 hW => ⟨rfl, by rw [hU9], by rw [hU9]; exact hPc, va_K.moved hW.alike hKc, hDc.weaken (fun _ _ _ _ => trivial)⟩⟩ rfl rfl hl.1 rfl (lv_room (Nat.le_of_ble_eq_true rfl)) dX2_takePrices_6 (by decide +kernel)) hS (fun q _ h => hFc q h) hFc (fun fY_1 t9_ H locs ht hvm hw9 hB9 hz1 hk1 hS => ?_)
  have f1_0 := hw9
  try dsimp only at f1_0
  obtain ⟨hP, hD⟩ := va_join (wr := [(hN 0, .inr (2, [.int iN_arcs, .ref (aN 0), .ref (aN 1), .ref (aN 2), .ref (aN 3), .int iN_reached, .ref (aN 4), .ref (aN 5), .ref (aN 6), .ref (aN 7), .ref (aN 8), .int iN_stops, .ref (aN 9), .ref (aN 10)])), (aN 0, .inl (kN 0, 40, .inl fN_from)), (aN 1, .inl (kN 1, 40, .inl fN_to)), (aN 2, .inl (kN 2, 40, .inl fN_room)), (aN 3, .inl (kN 3, 40, .inl fN_cost)), (aN 4, .inl (kN 4, 144, .inl fN_free)), (aN 5, .inl (kN 5, 12, .inl fN_before)), (aN 6, .inl (kN 6, 40, .inl fN_flow)), (aN 7, .inl (kN 7, 12, .inl fN_length)), (aN 8, .inl (kN 8, 8, .inl fN_stop)), (aN 10, .inl (kN 10, 1024, .inl fN_rest))]) (w1 := WY (fun _ => 0) (fun _ => aN 9) (fun _ => kN 9) 64 fY_1) hP hD [10] [0, 1, 2, 3, 4, 5, 6, 7, 8, 9, 11] rfl rfl (by decide) (by decide) hk1 hFc (fz_P ht hB9.1) hB9.2
  have hP : va_P (dC, dI) vwCl (WN hN aN kN iN_arcs fN_from fN_to fN_room fN_cost iN_reached fN_free fN_before fN_flow fN_length fN_stop iN_stops fY_1 fN_rest) H := hP.sub [0, 1, 2, 3, 4, 5, 6, 7, 8, 9, 11, 10] rfl
  have hD : va_D A (WN hN aN kN iN_arcs fN_from fN_to fN_room fN_cost iN_reached fN_free fN_before fN_flow fN_length fN_stop iN_stops fY_1 fN_rest) := hD.sub [0, 1, 2, 3, 4, 5, 6, 7, 8, 9, 11, 10] (by decide) rfl
  have hfil := f1_0
  refine lv_iconst (v := 0) hx hb dX2_takePrices_9 (by decide) ?_
  refine lv_istore_n hx hb dX2_takePrices_10 rfl hl (by decide) rfl (fun ls (hl : lv_has ls _ ([(1, .int 0), (0, .ref (hN 0))])) => ?_)
  have hl : lv_has _ _ ([(1, .int 0), (0, .ref (hN 0))]) := lv_sub hl [0, 1] rfl
  refine (fun (loop : ∀ (n9 : Nat) (fN_price_x11 : Nat → Int32) (l1_x11 : Int32) (H : Heap) (locs : List Loc) (ls : Array Slot), (0 ≤ l1_x11.toInt ∧ l1_x11.toInt ≤ 8) → (tuPrI (iN_arcs.toInt, fN_from, fN_to, fN_room, fN_cost) (fun x => (fN_stop x).toInt.toNat) iN_stops.toInt.toNat l1_x11.toInt.toNat 0 0 fN_price_x11) → (8 - l1_x11.toInt < ((n9 : Nat) : Int)) → va_P (dC, dI) vwCl (WN hN aN kN iN_arcs fN_from fN_to fN_room fN_cost iN_reached fN_free fN_before fN_flow fN_length fN_stop iN_stops fN_price_x11 fN_rest) H → va_D A (WN hN aN kN iN_arcs fN_from fN_to fN_room fN_cost iN_reached fN_free fN_before fN_flow fN_length fN_stop iN_stops fN_price_x11 fN_rest) → va_S A s.heap H locs → lv_has ls 4 [(1, .int l1_x11), (0, .ref (hN 0))] → W p l e _ s m _ below meth c H locs 0 0 _ (F0 m 11 ls [])) => loop (9) fY_1 0 _ _ _ (show 0 ≤ (0 : Int32).toInt ∧ (0 : Int32).toInt ≤ 8 from by decide) (show tuPrI (iN_arcs.toInt, fN_from, fN_to, fN_room, fN_cost) (fun x => (fN_stop x).toInt.toNat) iN_stops.toInt.toNat (0 : Int32).toInt.toNat 0 0 fY_1 from tuPrI.start (by omega) (fun q hq => by rw [hfil q hq]; rfl) rfl rfl rfl) ((by have e9 : (0 : Int32).toInt = 0 := (by decide : (0 : Int32).toInt = 0); omega)) hP hD hS hl) ?_
  intro n9
  induction n9 with
  | zero => intro fN_price_x11 l1_x11 H locs ls b_l1_x11 hPa hf9; exact False.elim (by omega)
  | succ n9 ihx11 =>
    intro fN_price_x11 l1_x11 H locs ls b_l1_x11 hPa hfx11 hP hD hS hl
    refine lv_iload_n hx hb dX2_takePrices_11 rfl (lv_at hl 0 rfl) ?_
    refine lv_aload_n hx hb dX2_takePrices_12 rfl (lv_at hl 1 rfl) ?_
    refine va_get (D := (dC, dI)) (ci := 2) (v := .int iN_stops) (C := RX2) (T := TX2) (N := 14) hx hb hts iwsMX2_takePrices_in2 hown hK hP 0 rfl rfl 11 (by decide) (hts (.fieldLink RX2 98 "OptimaWorks$NetDesk" "stops" "I") (by decide +kernel)) (fun _ h9 => h9) rfl dX2_takePrices_13 ?_
    refine lv_icmp_ge (tgt := 118) hx hb dX2_takePrices_16 (by decide) (fun c_16 => ?_) (fun c_16 => ?_)
    · have t_16 : l1_x11.toInt ≥ iN_stops.toInt := toI_ge c_16 rfl rfl
      refine W.widen (k := 0) (n := 0) (by decide +kernel) (by decide +kernel) ?_
      exact W.vret hx hb hr (fun t9_ ht hW => ⟨⟨fN_price_x11, rfl, (by (try dsimp only); exact (tuPrI.done hPa (by omega))), by rw [ht]; exact hP, hD⟩, hS.F ht⟩) hS.2.2 dX2_takePrices_118
    · have t_16 : ¬ l1_x11.toInt ≥ iN_stops.toInt := toI_nge c_16 rfl rfl
      refine lv_iconst (v := 0) hx hb dX2_takePrices_19 (by decide) ?_
      refine lv_istore_n hx hb dX2_takePrices_20 rfl hl (by decide) rfl (fun ls (hl : lv_has ls _ ([(2, .int 0), (1, .int l1_x11), (0, .ref (hN 0))])) => ?_)
      have hl : lv_has _ _ ([(2, .int 0), (1, .int l1_x11), (0, .ref (hN 0))]) := lv_sub hl [0, 1, 2] rfl
      refine (fun (loop : ∀ (n9 : Nat) (fN_price_x21 : Nat → Int32) (l2_x21 : Int32) (H : Heap) (locs : List Loc) (ls : Array Slot), (0 ≤ l2_x21.toInt ∧ l2_x21.toInt ≤ 8) → (tuPrI (iN_arcs.toInt, fN_from, fN_to, fN_room, fN_cost) (fun x => (fN_stop x).toInt.toNat) iN_stops.toInt.toNat l1_x11.toInt.toNat l2_x21.toInt.toNat 0 fN_price_x21) → (8 - l2_x21.toInt < ((n9 : Nat) : Int)) → va_P (dC, dI) vwCl (WN hN aN kN iN_arcs fN_from fN_to fN_room fN_cost iN_reached fN_free fN_before fN_flow fN_length fN_stop iN_stops fN_price_x21 fN_rest) H → va_D A (WN hN aN kN iN_arcs fN_from fN_to fN_room fN_cost iN_reached fN_free fN_before fN_flow fN_length fN_stop iN_stops fN_price_x21 fN_rest) → va_S A s.heap H locs → lv_has ls 4 [(2, .int l2_x21), (1, .int l1_x11), (0, .ref (hN 0))] → W p l e _ s m _ below meth c H locs 0 0 _ (F0 m 21 ls [])) => loop (9) fN_price_x11 0 _ _ _ (show 0 ≤ (0 : Int32).toInt ∧ (0 : Int32).toInt ≤ 8 from by decide) (show tuPrI (iN_arcs.toInt, fN_from, fN_to, fN_room, fN_cost) (fun x => (fN_stop x).toInt.toNat) iN_stops.toInt.toNat l1_x11.toInt.toNat (0 : Int32).toInt.toNat 0 fN_price_x11 from by rw [show (0 : Int32).toInt.toNat = 0 from by decide]; exact hPa) ((by have e9 : (0 : Int32).toInt = 0 := (by decide : (0 : Int32).toInt = 0); omega)) hP hD hS hl) ?_
      intro n9
      induction n9 with
      | zero => intro fN_price_x21 l2_x21 H locs ls b_l2_x21 hPb hf9; exact False.elim (by omega)
      | succ n9 ihx21 =>
        intro fN_price_x21 l2_x21 H locs ls b_l2_x21 hPb hfx21 hP hD hS hl
        refine lv_iload_n hx hb dX2_takePrices_21 rfl (lv_at hl 0 rfl) ?_
        refine lv_aload_n hx hb dX2_takePrices_22 rfl (lv_at hl 2 rfl) ?_
        refine va_get (D := (dC, dI)) (ci := 2) (v := .int iN_stops) (C := RX2) (T := TX2) (N := 14) hx hb hts iwsMX2_takePrices_in2 hown hK hP 0 rfl rfl 11 (by decide) (hts (.fieldLink RX2 98 "OptimaWorks$NetDesk" "stops" "I") (by decide +kernel)) (fun _ h9 => h9) rfl dX2_takePrices_23 ?_
        refine lv_icmp_ge (tgt := 112) hx hb dX2_takePrices_26 (by decide) (fun c_26 => ?_) (fun c_26 => ?_)
        · have t_26 : l2_x21.toInt ≥ iN_stops.toInt := toI_ge c_26 rfl rfl
          refine lv_iinc (v := (iI (l1_x11.toInt + 1))) hx hb dX2_takePrices_112 hl (k := 1) rfl (iI_add2 (iI_of _) (by decide : (1 : Int32) = iI 1)) (by decide) rfl (fun ls (hl : lv_has ls _ ([(1, .int (iI (l1_x11.toInt + 1))), (2, .int l2_x21), (0, .ref (hN 0))])) => ?_)
          refine lv_goto (tgt := 11) hx hb dX2_takePrices_115 (by decide) ?_
          have hl : lv_has _ _ ([(1, .int (iI (l1_x11.toInt + 1))), (0, .ref (hN 0))]) := lv_sub hl [0, 2] rfl
          exact ihx11 fN_price_x21 (iI (l1_x11.toInt + 1)) _ _ _ (iI_rng (Int.le_trans (by decide) (Int.add_le_add (b_l1_x11.1) (Int.le_refl _))) (by omega) (by decide) (by decide)) (show tuPrI (iN_arcs.toInt, fN_from, fN_to, fN_room, fN_cost) (fun x => (fN_stop x).toInt.toNat) iN_stops.toInt.toNat (iI (l1_x11.toInt + 1)).toInt.toNat 0 0 fN_price_x21 from by rw [show (iI (l1_x11.toInt + 1)).toInt.toNat = l1_x11.toInt.toNat + 1 from by rw [iI_t (by omega) (by omega)]; omega]; exact tuPrI.nexta hPb (by omega) rfl rfl) (by have e9 : ((iI (l1_x11.toInt + 1))).toInt = (l1_x11.toInt + 1) := (iI_t (Int.le_trans (by decide) (Int.add_le_add (b_l1_x11.1) (Int.le_refl _))) (Int.le_trans (Int.add_le_add (b_l1_x11.2) (Int.le_refl _)) (by decide))); omega) hP hD hS hl
        · have t_26 : ¬ l2_x21.toInt ≥ iN_stops.toInt := toI_nge c_26 rfl rfl
          refine lv_iconst (v := 0) hx hb dX2_takePrices_29 (by decide) ?_
          refine lv_istore_n hx hb dX2_takePrices_30 rfl hl (by decide) rfl (fun ls (hl : lv_has ls _ ([(3, .int 0), (2, .int l2_x21), (1, .int l1_x11), (0, .ref (hN 0))])) => ?_)
          have hl : lv_has _ _ ([(3, .int 0), (2, .int l2_x21), (1, .int l1_x11), (0, .ref (hN 0))]) := lv_sub hl [0, 1, 2, 3] rfl
          refine (fun (loop : ∀ (n9 : Nat) (fN_price_x31 : Nat → Int32) (l3_x31 : Int32) (H : Heap) (locs : List Loc) (ls : Array Slot), (0 ≤ l3_x31.toInt ∧ l3_x31.toInt ≤ 40) → (tuPrI (iN_arcs.toInt, fN_from, fN_to, fN_room, fN_cost) (fun x => (fN_stop x).toInt.toNat) iN_stops.toInt.toNat l1_x11.toInt.toNat l2_x21.toInt.toNat l3_x31.toInt.toNat fN_price_x31) → (l3_x31.toInt ≤ iN_arcs.toInt) → (40 - l3_x31.toInt < ((n9 : Nat) : Int)) → va_P (dC, dI) vwCl (WN hN aN kN iN_arcs fN_from fN_to fN_room fN_cost iN_reached fN_free fN_before fN_flow fN_length fN_stop iN_stops fN_price_x31 fN_rest) H → va_D A (WN hN aN kN iN_arcs fN_from fN_to fN_room fN_cost iN_reached fN_free fN_before fN_flow fN_length fN_stop iN_stops fN_price_x31 fN_rest) → va_S A s.heap H locs → lv_has ls 4 [(3, .int l3_x31), (2, .int l2_x21), (1, .int l1_x11), (0, .ref (hN 0))] → W p l e _ s m _ below meth c H locs 0 0 _ (F0 m 31 ls [])) => loop (41) fN_price_x21 0 _ _ _ (show 0 ≤ (0 : Int32).toInt ∧ (0 : Int32).toInt ≤ 40 from by decide) (show tuPrI (iN_arcs.toInt, fN_from, fN_to, fN_room, fN_cost) (fun x => (fN_stop x).toInt.toNat) iN_stops.toInt.toNat l1_x11.toInt.toNat l2_x21.toInt.toNat (0 : Int32).toInt.toNat fN_price_x21 from by rw [show (0 : Int32).toInt.toNat = 0 from by decide]; exact hPb) (show (0 : Int32).toInt ≤ iN_arcs.toInt from by have h7 : (0 : Int32).toInt = 0 := (by decide); omega) ((by have e9 : (0 : Int32).toInt = 0 := (by decide : (0 : Int32).toInt = 0); omega)) hP hD hS hl) ?_
          intro n9
          induction n9 with
          | zero => intro fN_price_x31 l3_x31 H locs ls b_l3_x31 hPi hla hf9; exact False.elim (by omega)
          | succ n9 ihx31 =>
            intro fN_price_x31 l3_x31 H locs ls b_l3_x31 hPi hla hfx31 hP hD hS hl
            refine lv_iload_n hx hb dX2_takePrices_31 rfl (lv_at hl 0 rfl) ?_
            refine lv_aload_n hx hb dX2_takePrices_32 rfl (lv_at hl 3 rfl) ?_
            refine va_get (D := (dC, dI)) (ci := 2) (v := .int iN_arcs) (C := RX2) (T := TX2) (N := 14) hx hb hts iwsMX2_takePrices_in2 hown hK hP 0 rfl rfl 0 (by decide) (hts (.fieldLink RX2 45 "OptimaWorks$NetDesk" "arcs" "I") (by decide +kernel)) (fun _ h9 => h9) rfl dX2_takePrices_33 ?_
            refine lv_icmp_ge (tgt := 106) hx hb dX2_takePrices_36 (by decide) (fun c_36 => ?_) (fun c_36 => ?_)
            · have t_36 : l3_x31.toInt ≥ iN_arcs.toInt := toI_ge c_36 rfl rfl
              refine lv_iinc (v := (iI (l2_x21.toInt + 1))) hx hb dX2_takePrices_106 hl (k := 1) rfl (iI_add2 (iI_of _) (by decide : (1 : Int32) = iI 1)) (by decide) rfl (fun ls (hl : lv_has ls _ ([(2, .int (iI (l2_x21.toInt + 1))), (3, .int l3_x31), (1, .int l1_x11), (0, .ref (hN 0))])) => ?_)
              refine lv_goto (tgt := 21) hx hb dX2_takePrices_109 (by decide) ?_
              have hl : lv_has _ _ ([(2, .int (iI (l2_x21.toInt + 1))), (1, .int l1_x11), (0, .ref (hN 0))]) := lv_sub hl [0, 2, 3] rfl
              exact ihx21 fN_price_x31 (iI (l2_x21.toInt + 1)) _ _ _ (iI_rng (Int.le_trans (by decide) (Int.add_le_add (b_l2_x21.1) (Int.le_refl _))) (by omega) (by decide) (by decide)) (show tuPrI (iN_arcs.toInt, fN_from, fN_to, fN_room, fN_cost) (fun x => (fN_stop x).toInt.toNat) iN_stops.toInt.toNat l1_x11.toInt.toNat (iI (l2_x21.toInt + 1)).toInt.toNat 0 fN_price_x31 from by rw [show (iI (l2_x21.toInt + 1)).toInt.toNat = l2_x21.toInt.toNat + 1 from by rw [iI_t (by omega) (by omega)]; omega]; exact tuPrI.nextb hPi (by dsimp only; omega) rfl) (by have e9 : ((iI (l2_x21.toInt + 1))).toInt = (l2_x21.toInt + 1) := (iI_t (Int.le_trans (by decide) (Int.add_le_add (b_l2_x21.1) (Int.le_refl _))) (Int.le_trans (Int.add_le_add (b_l2_x21.2) (Int.le_refl _)) (by decide))); omega) hP hD hS hl
            · have t_36 : ¬ l3_x31.toInt ≥ iN_arcs.toInt := toI_nge c_36 rfl rfl
              refine lv_aload_n hx hb dX2_takePrices_39 rfl (lv_at hl 3 rfl) ?_
              refine va_get (D := (dC, dI)) (ci := 2) (v := .ref (aN 0)) (C := RX2) (T := TX2) (N := 14) hx hb hts iwsMX2_takePrices_in2 hown hK hP 0 rfl rfl 1 (by decide) (hts (.fieldLink RX2 11 "OptimaWorks$NetDesk" "from" "[I") (by decide +kernel)) (fun _ h9 => h9) rfl dX2_takePrices_40 ?_
              refine lv_iload_n hx hb dX2_takePrices_43 rfl (lv_at hl 0 rfl) ?_
              refine va_iald (cA := kN 0) (n := 40) (f := fN_from) hx hb hK hP 1 0 rfl rfl (vp_in_iff.mpr ⟨b_l3_x31.1, (Int.lt_of_lt_of_le (Int.not_le.mp t_36) (Int.le_trans b_iN_arcs.2 (by decide)))⟩) dX2_takePrices_44 ?_
              refine lv_topi (fun v4732 hv4732 => ?_)
              have b_v4732 : 0 ≤ v4732.toInt ∧ v4732.toInt ≤ 11 := by rw [hv4732]; exact b_fN_from _
              have b1_v4732 : v4732 = fN_from (l3_x31).toNatClampNeg := hv4732
              clear hv4732
              refine lv_aload_n hx hb dX2_takePrices_45 rfl (lv_at hl 3 rfl) ?_
              refine va_get (D := (dC, dI)) (ci := 2) (v := .ref (aN 8)) (C := RX2) (T := TX2) (N := 14) hx hb hts iwsMX2_takePrices_in2 hown hK hP 0 rfl rfl 10 (by decide) (hts (.fieldLink RX2 36 "OptimaWorks$NetDesk" "stop" "[I") (by decide +kernel)) (fun _ h9 => h9) rfl dX2_takePrices_46 ?_
              refine lv_iload_n hx hb dX2_takePrices_49 rfl (lv_at hl 2 rfl) ?_
              refine va_iald (cA := kN 8) (n := 8) (f := fN_stop) hx hb hK hP 9 8 rfl rfl (vp_in_iff.mpr ⟨b_l1_x11.1, (by omega)⟩) dX2_takePrices_50 ?_
              refine lv_topi (fun v4733 hv4733 => ?_)
              have b_v4733 : 0 ≤ v4733.toInt ∧ v4733.toInt ≤ 11 := by rw [hv4733]; exact b_fN_stop _
              have b1_v4733 : v4733 = fN_stop (l1_x11).toNatClampNeg := hv4733
              clear hv4733
              refine W.cut (pc := 100) (fun H locs ls stk => ∃ (fN_price_j432 : Nat → Int32), (tuPrI (iN_arcs.toInt, fN_from, fN_to, fN_room, fN_cost) (fun x => (fN_stop x).toInt.toNat) iN_stops.toInt.toNat l1_x11.toInt.toNat l2_x21.toInt.toNat (l3_x31.toInt.toNat + 1) fN_price_j432) ∧  stk = [] ∧ va_P (dC, dI) vwCl (WN hN aN kN iN_arcs fN_from fN_to fN_room fN_cost iN_reached fN_free fN_before fN_flow fN_length fN_stop iN_stops fN_price_j432 fN_rest) H ∧ va_D A (WN hN aN kN iN_arcs fN_from fN_to fN_room fN_cost iN_reached fN_free fN_before fN_flow fN_length fN_stop iN_stops fN_price_j432 fN_rest) ∧ va_S A s.heap H locs ∧ lv_has ls 4 [(3, .int l3_x31), (2, .int l2_x21), (1, .int l1_x11), (0, .ref (hN 0))]) (fun join432 => ?_) ?_
              · refine lv_icmp_ne (tgt := 100) hx hb dX2_takePrices_51 (by decide) (fun c_51 => ?_) (fun c_51 => ?_)
                · have t_51 : v4732.toInt ≠ v4733.toInt := toI_ne c_51 rfl rfl
                  have hl : lv_has _ _ ([(3, .int l3_x31), (2, .int l2_x21), (1, .int l1_x11), (0, .ref (hN 0))]) := lv_sub hl [0, 1, 2, 3] rfl
                  exact join432 _ _ _ _ ⟨fN_price_x31, (show tuPrI (iN_arcs.toInt, fN_from, fN_to, fN_room, fN_cost) (fun x => (fN_stop x).toInt.toNat) iN_stops.toInt.toNat l1_x11.toInt.toNat l2_x21.toInt.toNat (l3_x31.toInt.toNat + 1) fN_price_x31 from by first | exact tuPrI.skip hPi (fun h9 => by have h8 : v4732.toInt.toNat = v4733.toInt.toNat := (by rw [b1_v4732, b1_v4733]; exact h9.1); omega) | exact tuPrI.skip hPi (fun h9 => by have h8 : v4734.toInt.toNat = v4735.toInt.toNat := (by rw [b1_v4734, b1_v4735]; exact h9.2); omega)), rfl, hP, hD, hS, hl⟩
                · have t_51 : v4732.toInt = v4733.toInt := toI_nne c_51 rfl rfl
                  refine lv_aload_n hx hb dX2_takePrices_54 rfl (lv_at hl 3 rfl) ?_
                  refine va_get (D := (dC, dI)) (ci := 2) (v := .ref (aN 1)) (C := RX2) (T := TX2) (N := 14) hx hb hts iwsMX2_takePrices_in2 hown hK hP 0 rfl rfl 2 (by decide) (hts (.fieldLink RX2 15 "OptimaWorks$NetDesk" "to" "[I") (by decide +kernel)) (fun _ h9 => h9) rfl dX2_takePrices_55 ?_
                  refine lv_iload_n hx hb dX2_takePrices_58 rfl (lv_at hl 0 rfl) ?_
                  refine va_iald (cA := kN 1) (n := 40) (f := fN_to) hx hb hK hP 2 1 rfl rfl (vp_in_iff.mpr ⟨b_l3_x31.1, (by omega)⟩) dX2_takePrices_59 ?_
                  refine lv_topi (fun v4744 hv4744 => ?_)
                  have b_v4744 : 0 ≤ v4744.toInt ∧ v4744.toInt ≤ 11 := by rw [hv4744]; exact b_fN_to _
                  have b1_v4744 : v4744 = fN_to (l3_x31).toNatClampNeg := hv4744
                  clear hv4744
                  refine lv_aload_n hx hb dX2_takePrices_60 rfl (lv_at hl 3 rfl) ?_
                  refine va_get (D := (dC, dI)) (ci := 2) (v := .ref (aN 8)) (C := RX2) (T := TX2) (N := 14) hx hb hts iwsMX2_takePrices_in2 hown hK hP 0 rfl rfl 10 (by decide) (hts (.fieldLink RX2 36 "OptimaWorks$NetDesk" "stop" "[I") (by decide +kernel)) (fun _ h9 => h9) rfl dX2_takePrices_61 ?_
                  refine lv_iload_n hx hb dX2_takePrices_64 rfl (lv_at hl 1 rfl) ?_
                  refine va_iald (cA := kN 8) (n := 8) (f := fN_stop) hx hb hK hP 9 8 rfl rfl (vp_in_iff.mpr ⟨b_l2_x21.1, (by omega)⟩) dX2_takePrices_65 ?_
                  refine lv_topi (fun v4745 hv4745 => ?_)
                  have b_v4745 : 0 ≤ v4745.toInt ∧ v4745.toInt ≤ 11 := by rw [hv4745]; exact b_fN_stop _
                  have b1_v4745 : v4745 = fN_stop (l2_x21).toNatClampNeg := hv4745
                  clear hv4745
                  refine lv_icmp_ne (tgt := 100) hx hb dX2_takePrices_66 (by decide) (fun c_66 => ?_) (fun c_66 => ?_)
                  · have t_66 : v4744.toInt ≠ v4745.toInt := toI_ne c_66 rfl rfl
                    have hl : lv_has _ _ ([(3, .int l3_x31), (2, .int l2_x21), (1, .int l1_x11), (0, .ref (hN 0))]) := lv_sub hl [0, 1, 2, 3] rfl
                    exact join432 _ _ _ _ ⟨fN_price_x31, (show tuPrI (iN_arcs.toInt, fN_from, fN_to, fN_room, fN_cost) (fun x => (fN_stop x).toInt.toNat) iN_stops.toInt.toNat l1_x11.toInt.toNat l2_x21.toInt.toNat (l3_x31.toInt.toNat + 1) fN_price_x31 from by first | exact tuPrI.skip hPi (fun h9 => by have h8 : v4732.toInt.toNat = v4733.toInt.toNat := (by rw [b1_v4732, b1_v4733]; exact h9.1); omega) | exact tuPrI.skip hPi (fun h9 => by have h8 : v4744.toInt.toNat = v4745.toInt.toNat := (by rw [b1_v4744, b1_v4745]; exact h9.2); omega)), rfl, hP, hD, hS, hl⟩
                  · have t_66 : v4744.toInt = v4745.toInt := toI_nne c_66 rfl rfl
                    refine lv_aload_n hx hb dX2_takePrices_69 rfl (lv_at hl 3 rfl) ?_
                    refine va_get (D := (dC, dI)) (ci := 2) (v := .ref (aN 9)) (C := RX2) (T := TX2) (N := 14) hx hb hts iwsMX2_takePrices_in2 hown hK hP 0 rfl rfl 12 (by decide) (hts (.fieldLink RX2 39 "OptimaWorks$NetDesk" "price" "[I") (by decide +kernel)) (fun _ h9 => h9) rfl dX2_takePrices_70 ?_
                    refine lv_iload_n hx hb dX2_takePrices_73 rfl (lv_at hl 2 rfl) ?_
                    refine lv_bipush (v := 8) hx hb dX2_takePrices_74 (by decide) ?_
                    refine lv_imul hx hb dX2_takePrices_76 ?_
                    refine lv_topi (fun y4746 hy4746 => ?_)
                    obtain rfl : (iI (l1_x11.toInt * 8)) = y4746 := (hy4746.trans (iI_mul2 (iI_of _) (by decide : (8 : Int32) = iI 8))).symm
                    refine lv_iload_n hx hb dX2_takePrices_77 rfl (lv_at hl 1 rfl) ?_
                    refine lv_iadd hx hb dX2_takePrices_78 ?_
                    refine lv_topi (fun y4747 hy4747 => ?_)
                    obtain rfl : (iI ((l1_x11.toInt * 8) + l2_x21.toInt)) = y4747 := (hy4747.trans (iI_add2 rfl (iI_of _))).symm
                    refine lv_aload_n hx hb dX2_takePrices_79 rfl (lv_at hl 3 rfl) ?_
                    refine va_get (D := (dC, dI)) (ci := 2) (v := .ref (aN 9)) (C := RX2) (T := TX2) (N := 14) hx hb hts iwsMX2_takePrices_in2 hown hK hP 0 rfl rfl 12 (by decide) (hts (.fieldLink RX2 39 "OptimaWorks$NetDesk" "price" "[I") (by decide +kernel)) (fun _ h9 => h9) rfl dX2_takePrices_80 ?_
                    refine lv_iload_n hx hb dX2_takePrices_83 rfl (lv_at hl 2 rfl) ?_
                    refine lv_bipush (v := 8) hx hb dX2_takePrices_84 (by decide) ?_
                    refine lv_imul hx hb dX2_takePrices_86 ?_
                    refine lv_topi (fun y4748 hy4748 => ?_)
                    obtain rfl : (iI (l1_x11.toInt * 8)) = y4748 := (hy4748.trans (iI_mul2 (iI_of _) (by decide : (8 : Int32) = iI 8))).symm
                    refine lv_iload_n hx hb dX2_takePrices_87 rfl (lv_at hl 1 rfl) ?_
                    refine lv_iadd hx hb dX2_takePrices_88 ?_
                    refine lv_topi (fun y4749 hy4749 => ?_)
                    obtain rfl : (iI ((l1_x11.toInt * 8) + l2_x21.toInt)) = y4749 := (hy4749.trans (iI_add2 rfl (iI_of _))).symm
                    refine va_iald (cA := kN 9) (n := 64) (f := fN_price_x31) hx hb hK hP 10 9 rfl rfl (vp_iI (Int.le_trans (by decide) (Int.add_le_add (Int.mul_le_mul_of_nonneg_right (b_l1_x11.1) (by decide)) (b_l2_x21.1))) (by omega) (by decide)) dX2_takePrices_89 ?_
                    refine lv_topi (fun v4750 hv4750 => ?_)
                    have b_v4750 : v4750.toInt ≤ v4750.toInt := by rw [hv4750]; exact Int.le_refl _
                    have b1_v4750 : v4750 = fN_price_x31 ((iI ((l1_x11.toInt * 8) + l2_x21.toInt))).toNatClampNeg := hv4750
                    clear hv4750
                    refine lv_aload_n hx hb dX2_takePrices_90 rfl (lv_at hl 3 rfl) ?_
                    refine va_get (D := (dC, dI)) (ci := 2) (v := .ref (aN 3)) (C := RX2) (T := TX2) (N := 14) hx hb hts iwsMX2_takePrices_in2 hown hK hP 0 rfl rfl 4 (by decide) (hts (.fieldLink RX2 21 "OptimaWorks$NetDesk" "cost" "[I") (by decide +kernel)) (fun _ h9 => h9) rfl dX2_takePrices_91 ?_
                    refine lv_iload_n hx hb dX2_takePrices_94 rfl (lv_at hl 0 rfl) ?_
                    refine va_iald (cA := kN 3) (n := 40) (f := fN_cost) hx hb hK hP 4 3 rfl rfl (vp_in_iff.mpr ⟨b_l3_x31.1, (by omega)⟩) dX2_takePrices_95 ?_
                    refine lv_topi (fun v4751 hv4751 => ?_)
                    have b_v4751 : v4751.toInt ≤ v4751.toInt := by rw [hv4751]; exact Int.le_refl _
                    have b1_v4751 : v4751 = fN_cost (l3_x31).toNatClampNeg := hv4751
                    clear hv4751
                    refine va_mmin hx hb (by rw [hml]; exact hl.1.symm) hown (hts (.methodLink RX2 61 Lib.Math.min.name) (by decide +kernel)) (hts (.static Lib.Math.min.name) (by decide +kernel)) (hts (.initialized "java/lang/Math") (by decide +kernel)) (hts (.code Lib.Math.min.name Lib.Math.min.code 2 (some .int)) (by decide +kernel)) (by decide +kernel) (Nat.le_of_ble_eq_true rfl) (by decide +kernel) (by decide +kernel) dX2_takePrices_96 ?_
                    refine lv_topi (fun v4752 hv4752 => ?_)
                    have b_v4752 : (v4752.toInt ≤ v4750.toInt ∧ v4752.toInt ≤ v4751.toInt) ∧ (v4752.toInt = v4750.toInt ∨ v4752.toInt = v4751.toInt) := by rw [hv4752]; exact min_t rfl rfl
                    clear hv4752
                    refine va_iast (cA := kN 9) (n := 64) (f := fN_price_x31) hx hb hK hP hD hS 10 9 rfl rfl (vp_iI (Int.le_trans (by decide) (Int.add_le_add (Int.mul_le_mul_of_nonneg_right (b_l1_x11.1) (by decide)) (b_l2_x21.1))) (by omega) (by decide)) dX2_takePrices_99 (fun H locs hP hD hS => ?_)
                    obtain ⟨u4753, hu4753⟩ : ∃ f9, f9 = upd fN_price_x31 ((iI ((l1_x11.toInt * 8) + l2_x21.toInt))).toNatClampNeg v4752 := ⟨_, rfl⟩
                    have hP : va_P (dC, dI) vwCl (WN hN aN kN iN_arcs fN_from fN_to fN_room fN_cost iN_reached fN_free fN_before fN_flow fN_length fN_stop iN_stops u4753 fN_rest) H := by rw [hu4753]; exact hP
                    have hD : va_D A (WN hN aN kN iN_arcs fN_from fN_to fN_room fN_cost iN_reached fN_free fN_before fN_flow fN_length fN_stop iN_stops u4753 fN_rest) := by rw [hu4753]; exact hD
                    have b_u4753 : u4753 = upd fN_price_x31 ((iI ((l1_x11.toInt * 8) + l2_x21.toInt))).toNatClampNeg v4752 := hu4753
                    clear hu4753
                    have hl : lv_has _ _ ([(3, .int l3_x31), (2, .int l2_x21), (1, .int l1_x11), (0, .ref (hN 0))]) := lv_sub hl [0, 1, 2, 3] rfl
                    exact join432 _ _ _ _ ⟨u4753, (show tuPrI (iN_arcs.toInt, fN_from, fN_to, fN_room, fN_cost) (fun x => (fN_stop x).toInt.toNat) iN_stops.toInt.toNat l1_x11.toInt.toNat l2_x21.toInt.toNat (l3_x31.toInt.toNat + 1) u4753 from tuPrI.put hPi (by omega) (by omega) (by omega) (by have h8 : v4732.toInt.toNat = v4733.toInt.toNat := (by rw [t_51]); rw [b1_v4732, b1_v4733] at h8; exact h8) (by have h8 : v4744.toInt.toNat = v4745.toInt.toNat := (by rw [t_66]); rw [b1_v4744, b1_v4745] at h8; exact h8) (by show (iI ((l1_x11.toInt * 8) + l2_x21.toInt)).toInt.toNat = _; rw [iI_t (by omega) (by omega)]; omega) b_u4753 (by rw [show tCo (iN_arcs.toInt, fN_from, fN_to, fN_room, fN_cost) l3_x31.toInt.toNat = v4751.toInt from (by rw [b1_v4751]; rfl), show (fN_price_x31 (((iI ((l1_x11.toInt * 8) + l2_x21.toInt)))).toNatClampNeg).toInt = v4750.toInt from (by rw [b1_v4750])]; split <;> omega)), rfl, hP, hD, hS, hl⟩
              · rintro H locs ls stk ⟨fN_price_j432, hPj, rfl, hP, hD, hS, hl⟩
                refine lv_iinc (v := (iI (l3_x31.toInt + 1))) hx hb dX2_takePrices_100 hl (k := 0) rfl (iI_add2 (iI_of _) (by decide : (1 : Int32) = iI 1)) (by decide) rfl (fun ls (hl : lv_has ls _ ([(3, .int (iI (l3_x31.toInt + 1))), (2, .int l2_x21), (1, .int l1_x11), (0, .ref (hN 0))])) => ?_)
                refine lv_goto (tgt := 31) hx hb dX2_takePrices_103 (by decide) ?_
                have hl : lv_has _ _ ([(3, .int (iI (l3_x31.toInt + 1))), (2, .int l2_x21), (1, .int l1_x11), (0, .ref (hN 0))]) := lv_sub hl [0, 1, 2, 3] rfl
                exact ihx31 fN_price_j432 (iI (l3_x31.toInt + 1)) _ _ _ (iI_rng (Int.le_trans (by decide) (Int.add_le_add (b_l3_x31.1) (Int.le_refl _))) (by omega) (by decide) (by decide)) (show tuPrI (iN_arcs.toInt, fN_from, fN_to, fN_room, fN_cost) (fun x => (fN_stop x).toInt.toNat) iN_stops.toInt.toNat l1_x11.toInt.toNat l2_x21.toInt.toNat (iI (l3_x31.toInt + 1)).toInt.toNat fN_price_j432 from by rw [show (iI (l3_x31.toInt + 1)).toInt.toNat = l3_x31.toInt.toNat + 1 from by rw [iI_t (by omega) (by omega)]; omega]; exact hPj) (show (iI (l3_x31.toInt + 1)).toInt ≤ iN_arcs.toInt from by rw [iI_t (by omega) (by omega)]; omega) (by have e9 : ((iI (l3_x31.toInt + 1))).toInt = (l3_x31.toInt + 1) := (iI_t (Int.le_trans (by decide) (Int.add_le_add (b_l3_x31.1) (Int.le_refl _))) (Int.le_trans (Int.add_le_add (b_l3_x31.2) (Int.le_refl _)) (by decide))); omega) hP hD hS hl
theorem dX2_costOver_0 : decode cX2_costOver 0 = .ok (.ldc 60, 2) := dk_18 (by decide +kernel)
theorem dX2_costOver_2 : decode cX2_costOver 2 = .ok (.aload_n 0, 1) := dk_42 (by decide +kernel)
theorem dX2_costOver_3 : decode cX2_costOver 3 = .ok (.getfield 39, 3) := dk_180 (by decide +kernel)
theorem dX2_costOver_6 : decode cX2_costOver 6 = .ok (.iload_n 2, 1) := dk_28 (by decide +kernel)
theorem dX2_costOver_7 : decode cX2_costOver 7 = .ok (.bipush 8, 2) := dk_16 (by decide +kernel)
theorem dX2_costOver_9 : decode cX2_costOver 9 = .ok (.imul, 1) := dk_104 (by decide +kernel)
theorem dX2_costOver_10 : decode cX2_costOver 10 = .ok (.iload_n 3, 1) := dk_29 (by decide +kernel)
theorem dX2_costOver_11 : decode cX2_costOver 11 = .ok (.iadd, 1) := dk_96 (by decide +kernel)
theorem dX2_costOver_12 : decode cX2_costOver 12 = .ok (.iaload, 1) := dk_46 (by decide +kernel)
theorem dX2_costOver_13 : decode cX2_costOver 13 = .ok (.aload_n 0, 1) := dk_42 (by decide +kernel)
theorem dX2_costOver_14 : decode cX2_costOver 14 = .ok (.getfield 42, 3) := dk_180 (by decide +kernel)
theorem dX2_costOver_17 : decode cX2_costOver 17 = .ok (.iload_n 1, 1) := dk_27 (by decide +kernel)
theorem dX2_costOver_18 : decode cX2_costOver 18 = .ok (.iconst 1, 1) := dk_4 (by decide +kernel)
theorem dX2_costOver_19 : decode cX2_costOver 19 = .ok (.iload_n 3, 1) := dk_29 (by decide +kernel)
theorem dX2_costOver_20 : decode cX2_costOver 20 = .ok (.iconst 1, 1) := dk_4 (by decide +kernel)
theorem dX2_costOver_21 : decode cX2_costOver 21 = .ok (.isub, 1) := dk_100 (by decide +kernel)
theorem dX2_costOver_22 : decode cX2_costOver 22 = .ok (.ishl, 1) := dk_120 (by decide +kernel)
theorem dX2_costOver_23 : decode cX2_costOver 23 = .ok (.iconst (-1), 1) := dk_2 (by decide +kernel)
theorem dX2_costOver_24 : decode cX2_costOver 24 = .ok (.ixor, 1) := dk_130 (by decide +kernel)
theorem dX2_costOver_25 : decode cX2_costOver 25 = .ok (.iand, 1) := dk_126 (by decide +kernel)
theorem dX2_costOver_26 : decode cX2_costOver 26 = .ok (.bipush 8, 2) := dk_16 (by decide +kernel)
theorem dX2_costOver_28 : decode cX2_costOver 28 = .ok (.imul, 1) := dk_104 (by decide +kernel)
theorem dX2_costOver_29 : decode cX2_costOver 29 = .ok (.iload_n 3, 1) := dk_29 (by decide +kernel)
theorem dX2_costOver_30 : decode cX2_costOver 30 = .ok (.iadd, 1) := dk_96 (by decide +kernel)
theorem dX2_costOver_31 : decode cX2_costOver 31 = .ok (.iaload, 1) := dk_46 (by decide +kernel)
theorem dX2_costOver_32 : decode cX2_costOver 32 = .ok (.iadd, 1) := dk_96 (by decide +kernel)
theorem dX2_costOver_33 : decode cX2_costOver 33 = .ok (.invokestatic 61, 3) := dk_184 (by decide +kernel)
theorem dX2_costOver_36 : decode cX2_costOver 36 = .ok (.ireturn, 1) := dk_172 (by decide +kernel)
def wsMX2_costOver : List Cond := .code yX2_costOver cX2_costOver 4 (some .int) :: ([.constant RX2 60 536870912, .fieldLink RX2 39 "OptimaWorks$NetDesk" "price" "[I", .fieldLink RX2 42 "OptimaWorks$NetDesk" "rest" "[I", .methodLink RX2 61 Lib.Math.min.name, .static Lib.Math.min.name, .initialized "java/lang/Math", .code Lib.Math.min.name Lib.Math.min.code 2 (some .int)] ++ wsX20)
theorem iwsMX2_costOver_in2 : ∀ w ∈ wsX20, w ∈ wsMX2_costOver := fun _ h => List.mem_cons_of_mem _ (List.mem_append_right _ h)
theorem gdwsMX2_costOver : wsMX2_costOver.all goodWord = true := gdC rfl (gdA (by decide +kernel : ([.constant RX2 60 536870912, .fieldLink RX2 39 "OptimaWorks$NetDesk" "price" "[I", .fieldLink RX2 42 "OptimaWorks$NetDesk" "rest" "[I", .methodLink RX2 61 Lib.Math.min.name, .static Lib.Math.min.name, .initialized "java/lang/Math", .code Lib.Math.min.name Lib.Math.min.code 2 (some .int)] : List Cond).all goodWord = true) gdwsX20)
set_option maxHeartbeats 4000000 in
set_option maxRecDepth 100000 in
/-- the cost over a stop -/
theorem m_X2_costOver (l : Launch) (dC : Nat → ClassId) (dI : Nat → Nat → Nat) (hN : Nat → Nat) (aN : Nat → Nat) (kN : Nat → ClassId) (iN_arcs : Int32) (fN_from : Nat → Int32) (fN_to : Nat → Int32) (fN_room : Nat → Int32) (fN_cost : Nat → Int32) (iN_reached : Int32) (fN_free : Nat → Int32) (fN_before : Nat → Int32) (fN_flow : Nat → Int32) (fN_length : Nat → Int32) (fN_stop : Nat → Int32) (iN_stops : Int32) (fN_price : Nat → Int32) (fN_rest : Nat → Int32) (p1 : Int32) (p2 : Int32) (p3 : Int32) (b_iN_arcs : 0 ≤ iN_arcs.toInt ∧ iN_arcs.toInt ≤ 40) (b_fN_from : ∀ q : Nat, 0 ≤ (fN_from q).toInt ∧ (fN_from q).toInt ≤ 11) (b_fN_to : ∀ q : Nat, 0 ≤ (fN_to q).toInt ∧ (fN_to q).toInt ≤ 11) (b_fN_before : ∀ q : Nat, 0 ≤ (fN_before q).toInt ∧ (fN_before q).toInt ≤ 79) (b_fN_stop : ∀ q : Nat, 0 ≤ (fN_stop q).toInt ∧ (fN_stop q).toInt ≤ 11) (b_iN_stops : 0 ≤ iN_stops.toInt ∧ iN_stops.toInt ≤ 8) (b_p1 : 0 ≤ p1.toInt ∧ p1.toInt ≤ 127) (b_p2 : 0 ≤ p2.toInt ∧ p2.toInt ≤ 7) (b_p3 : 1 ≤ p3.toInt ∧ p3.toInt ≤ 7) (hb1 : p1.toInt.toNat.testBit (p3.toInt.toNat - 1) = true) (hpb : 0 ≤ tuTab fN_price p2.toInt.toNat p3.toInt.toNat ∧ tuTab fN_price p2.toInt.toNat p3.toInt.toNat ≤ 536870912) (hrb : 0 ≤ tuTab fN_rest (p1.toInt.toNat - 2 ^ (p3.toInt.toNat - 1)) p3.toInt.toNat ∧ tuTab fN_rest (p1.toInt.toNat - 2 ^ (p3.toInt.toNat - 1)) p3.toInt.toNat ≤ 536870912) (sz : Nat) : Met l yX2_costOver wsMX2_costOver ({ frames := 1, cells := 0, slots := 0, locals := 13 }) (va_Pc [.ref (hN 0), .int p1, .int p2, .int p3] (fun U => U.heap.size = sz ∧ va_P (dC, dI) vwCl (WN hN aN kN iN_arcs fN_from fN_to fN_room fN_cost iN_reached fN_free fN_before fN_flow fN_length fN_stop iN_stops fN_price fN_rest) U.heap ∧ va_K (dC, dI) vwCl (tN kN) U ∧ va_D (fun _ => True) (WN hN aN kN iN_arcs fN_from fN_to fN_room fN_cost iN_reached fN_free fN_before fN_flow fN_length fN_stop iN_stops fN_price fN_rest))) (va_Qi (fun (r : Int32) (u : Unit) => (r.toInt = tuG (tuTab fN_price) (tuTab fN_rest) p1.toInt.toNat p2.toInt.toNat p3.toInt.toNat)) (fun (u : Unit) t => va_P (dC, dI) vwCl (WN hN aN kN iN_arcs fN_from fN_to fN_room fN_cost iN_reached fN_free fN_before fN_flow fN_length fN_stop iN_stops fN_price fN_rest) t.heap ∧ va_D (va_A (WN hN aN kN iN_arcs fN_from fN_to fN_room fN_cost iN_reached fN_free fN_before fN_flow fN_length fN_stop iN_stops fN_price fN_rest) sz) (WN hN aN kN iN_arcs fN_from fN_to fN_room fN_cost iN_reached fN_free fN_before fN_flow fN_length fN_stop iN_stops fN_price fN_rest)) (va_A (WN hN aN kN iN_arcs fN_from fN_to fN_room fN_cost iN_reached fN_free fN_before fN_flow fN_length fN_stop iN_stops fN_price fN_rest) sz)) 0 0 (va_A (WN hN aN kN iN_arcs fN_from fN_to fN_room fN_cost iN_reached fN_free fN_before fN_flow fN_length fN_stop iN_stops fN_price fN_rest) sz) := by
  refine Met.ofW (cc := cX2_costOver) (maxL := 4) (ret := (some .int)) (by decide) rfl ?_
  intro p e s m args below meth c s₁ B hml hv
  obtain ⟨rfl, hsz, hP, hK, hD0⟩ := hv
  have hx := B.exec
  have hb := B.bytes
  have hr := B.returns
  have hts := atoms_spec (ws := wsMX2_costOver) B.pre
  have hown : s.vm.findClass RX2 = some m.cls := findClass_of_methodNamed B.named
  have hlocks := B.notSynchronized
  subst hsz
  have hD := hD0.self (sz := s.heap.size)
  generalize hAe : va_A (WN hN aN kN iN_arcs fN_from fN_to fN_room fN_cost iN_reached fN_free fN_before fN_flow fN_length fN_stop iN_stops fN_price fN_rest) s.heap.size = A at hD ⊢
  have hA : ∀ q : Nat, s.heap.size ≤ q → A q := fun q h => by rw [← hAe]; exact Or.inr h
  have hS : va_S A s.heap s.heap [] := va_S.rf
  have hl := lv_entry ([.ref (hN 0), .int p1, .int p2, .int p3]) (n := 4) (Nat.le_of_ble_eq_true rfl)
  rw [lg_entry_eq]
  generalize (lg_sl ([.ref (hN 0), .int p1, .int p2, .int p3]) ++ List.replicate (4 - (lg_sl ([.ref (hN 0), .int p1, .int p2, .int p3])).length) Slot.unset).toArray = ls at hl ⊢
  have hl : lv_has ls 4 [(0, .ref (hN 0)), (1, .int p1), (2, .int p2), (3, .int p3)] := hl
  refine lv_ldc (v := 536870912) hx hb hown (hts (.constant RX2 60 536870912) (by decide +kernel)) dX2_costOver_0 ?_
  refine lv_aload_n hx hb dX2_costOver_2 rfl (lv_at hl 0 rfl) ?_
  refine va_get (D := (dC, dI)) (ci := 2) (v := .ref (aN 9)) (C := RX2) (T := TX2) (N := 14) hx hb hts iwsMX2_costOver_in2 hown hK hP 0 rfl rfl 12 (by decide) (hts (.fieldLink RX2 39 "OptimaWorks$NetDesk" "price" "[I") (by decide +kernel)) (fun _ h9 => h9) rfl dX2_costOver_3 ?_
  refine lv_iload_n hx hb dX2_costOver_6 rfl (lv_at hl 2 rfl) ?_
  refine lv_bipush (v := 8) hx hb dX2_costOver_7 (by decide) ?_
  refine lv_imul hx hb dX2_costOver_9 ?_
  refine lv_topi (fun y1 hy1 => ?_)
  obtain rfl : (iI (p2.toInt * 8)) = y1 := (hy1.trans (iI_mul2 (iI_of _) (by decide : (8 : Int32) = iI 8))).symm
  refine lv_iload_n hx hb dX2_costOver_10 rfl (lv_at hl 3 rfl) ?_
  refine lv_iadd hx hb dX2_costOver_11 ?_
  refine lv_topi (fun y2 hy2 => ?_)
  obtain rfl : (iI ((p2.toInt * 8) + p3.toInt)) = y2 := (hy2.trans (iI_add2 rfl (iI_of _))).symm
  refine va_iald (cA := kN 9) (n := 64) (f := fN_price) hx hb hK hP 10 9 rfl rfl (vp_iI (Int.le_trans (by decide) (Int.add_le_add (Int.mul_le_mul_of_nonneg_right (b_p2.1) (by decide)) (b_p3.1))) (Int.lt_of_le_of_lt (Int.add_le_add (Int.mul_le_mul_of_nonneg_right (b_p2.2) (by decide)) (b_p3.2)) (by decide)) (by decide)) dX2_costOver_12 ?_
  refine lv_topi (fun v3 hv3 => ?_)
  have b_v3 : v3.toInt ≤ v3.toInt := by rw [hv3]; exact Int.le_refl _
  have b1_v3 : v3 = fN_price ((iI ((p2.toInt * 8) + p3.toInt))).toNatClampNeg := hv3
  clear hv3
  have eP9 : v3.toInt = tuTab fN_price p2.toInt.toNat p3.toInt.toNat := (by rw [b1_v3]; show (fN_price (iI (p2.toInt * 8 + p3.toInt)).toInt.toNat).toInt = (fN_price _).toInt; rw [iI_t (by omega) (by omega), show 8 * p2.toInt.toNat + p3.toInt.toNat = (p2.toInt * 8 + p3.toInt).toNat from by omega])
  refine lv_aload_n hx hb dX2_costOver_13 rfl (lv_at hl 0 rfl) ?_
  refine va_get (D := (dC, dI)) (ci := 2) (v := .ref (aN 10)) (C := RX2) (T := TX2) (N := 14) hx hb hts iwsMX2_costOver_in2 hown hK hP 0 rfl rfl 13 (by decide) (hts (.fieldLink RX2 42 "OptimaWorks$NetDesk" "rest" "[I") (by decide +kernel)) (fun _ h9 => h9) rfl dX2_costOver_14 ?_
  refine lv_iload_n hx hb dX2_costOver_17 rfl (lv_at hl 1 rfl) ?_
  refine lv_iconst (v := 1) hx hb dX2_costOver_18 (by decide) ?_
  refine lv_iload_n hx hb dX2_costOver_19 rfl (lv_at hl 3 rfl) ?_
  refine lv_iconst (v := 1) hx hb dX2_costOver_20 (by decide) ?_
  refine lv_isub hx hb dX2_costOver_21 ?_
  refine lv_topi (fun y4 hy4 => ?_)
  obtain rfl : (iI (p3.toInt - 1)) = y4 := (hy4.trans (iI_sub2 (iI_of _) (by decide : (1 : Int32) = iI 1))).symm
  refine lv_ishl hx hb dX2_costOver_22 ?_
  refine lv_topi (fun v5 hv5 => ?_)
  have b_v5 : v5 = (1 : Int32) <<< ((iI (p3.toInt - 1)) &&& 31) := hv5
  clear hv5
  refine lv_iconst (v := (-1)) hx hb dX2_costOver_23 (by decide) ?_
  refine lv_ixor hx hb dX2_costOver_24 ?_
  refine lv_topi (fun v6 hv6 => ?_)
  have b_v6 : v6 = v5 ^^^ (-1) := hv6
  clear hv6
  refine lv_iand hx hb dX2_costOver_25 ?_
  refine lv_topi (fun v7 hv7 => ?_)
  have b_v7 : 0 ≤ v7.toInt ∧ v7.toInt ≤ p1.toInt := by rw [hv7]; exact and_posL rfl (by omega)
  have b1_v7 : v7.toInt = ((p1.toInt.toNat - 2 ^ (p3.toInt.toNat - 1) : Nat) : Int) := by rw [hv7]; exact tuAndT b_v5 b_v6 (by omega) (by omega) (by rw [iI_t (by omega) (by omega)]; omega) (by omega) (hb1)
  clear hv7
  refine lv_bipush (v := 8) hx hb dX2_costOver_26 (by decide) ?_
  refine lv_imul hx hb dX2_costOver_28 ?_
  refine lv_topi (fun y8 hy8 => ?_)
  obtain rfl : (iI (v7.toInt * 8)) = y8 := (hy8.trans (iI_mul2 (iI_of _) (by decide : (8 : Int32) = iI 8))).symm
  refine lv_iload_n hx hb dX2_costOver_29 rfl (lv_at hl 3 rfl) ?_
  refine lv_iadd hx hb dX2_costOver_30 ?_
  refine lv_topi (fun y9 hy9 => ?_)
  obtain rfl : (iI ((v7.toInt * 8) + p3.toInt)) = y9 := (hy9.trans (iI_add2 rfl (iI_of _))).symm
  refine va_iald (cA := kN 10) (n := 1024) (f := fN_rest) hx hb hK hP 11 10 rfl rfl (vp_iI (by omega) (by omega) (by decide)) dX2_costOver_31 ?_
  refine lv_topi (fun v10 hv10 => ?_)
  have b_v10 : v10.toInt ≤ v10.toInt := by rw [hv10]; exact Int.le_refl _
  have b1_v10 : v10 = fN_rest ((iI ((v7.toInt * 8) + p3.toInt))).toNatClampNeg := hv10
  clear hv10
  have eR9 : v10.toInt = tuTab fN_rest (p1.toInt.toNat - 2 ^ (p3.toInt.toNat - 1)) p3.toInt.toNat := (by rw [b1_v10]; show (fN_rest (iI (v7.toInt * 8 + p3.toInt)).toInt.toNat).toInt = (fN_rest _).toInt; rw [iI_t (by omega) (by omega), show 8 * (p1.toInt.toNat - 2 ^ (p3.toInt.toNat - 1)) + p3.toInt.toNat = (v7.toInt * 8 + p3.toInt).toNat from by omega])
  rw [← eP9] at hpb
  rw [← eR9] at hrb
  refine lv_iadd hx hb dX2_costOver_32 ?_
  refine lv_topi (fun y11 hy11 => ?_)
  obtain rfl : (iI (v3.toInt + v10.toInt)) = y11 := (hy11.trans (iI_add2 (iI_of _) (iI_of _))).symm
  refine va_mmin hx hb (by rw [hml]; exact hl.1.symm) hown (hts (.methodLink RX2 61 Lib.Math.min.name) (by decide +kernel)) (hts (.static Lib.Math.min.name) (by decide +kernel)) (hts (.initialized "java/lang/Math") (by decide +kernel)) (hts (.code Lib.Math.min.name Lib.Math.min.code 2 (some .int)) (by decide +kernel)) (by decide +kernel) (Nat.le_of_ble_eq_true rfl) (by decide +kernel) (by decide +kernel) dX2_costOver_33 ?_
  refine lv_topi (fun v12 hv12 => ?_)
  first | (have b_v12 : (v12.toInt ≤ 536870912 ∧ v12.toInt ≤ (v3.toInt + v10.toInt)) ∧ (v12.toInt = 536870912 ∨ v12.toInt = (v3.toInt + v10.toInt)) := by rw [hv12]; exact min_t (by decide : (536870912 : Int32).toInt = 536870912) (iI_t (by omega) (by omega))) | skip
  clear hv12
  refine W.widen (k := 0) (n := 0) (by decide +kernel) (by decide +kernel) ?_
  exact W.iret (v := v12) hx hb hr (fun t9_ ht hW => ⟨⟨v12, (), rfl, (by (try dsimp only); show _ = tuMin 536870912 (tuTab fN_price p2.toInt.toNat p3.toInt.toNat + tuTab fN_rest (p1.toInt.toNat - 2 ^ (p3.toInt.toNat - 1)) p3.toInt.toNat); rw [← eP9, ← eR9]; unfold tuMin; have h9 := b_v12; split <;> omega), by rw [ht]; exact hP, hD⟩, hS.F ht⟩) hS.2.2 dX2_costOver_36
theorem dX2_restFrom_0 : decode cX2_restFrom 0 = .ok (.iload_n 1, 1) := dk_27 (by decide +kernel)
theorem dX2_restFrom_1 : decode cX2_restFrom 1 = .ok (.ifCond .ne 13, 3) := dk_154 (by decide +kernel)
theorem dX2_restFrom_4 : decode cX2_restFrom 4 = .ok (.aload_n 0, 1) := dk_42 (by decide +kernel)
theorem dX2_restFrom_5 : decode cX2_restFrom 5 = .ok (.getfield 39, 3) := dk_180 (by decide +kernel)
theorem dX2_restFrom_8 : decode cX2_restFrom 8 = .ok (.iload_n 2, 1) := dk_28 (by decide +kernel)
theorem dX2_restFrom_9 : decode cX2_restFrom 9 = .ok (.bipush 8, 2) := dk_16 (by decide +kernel)
theorem dX2_restFrom_11 : decode cX2_restFrom 11 = .ok (.imul, 1) := dk_104 (by decide +kernel)
theorem dX2_restFrom_12 : decode cX2_restFrom 12 = .ok (.iaload, 1) := dk_46 (by decide +kernel)
theorem dX2_restFrom_13 : decode cX2_restFrom 13 = .ok (.ireturn, 1) := dk_172 (by decide +kernel)
theorem dX2_restFrom_14 : decode cX2_restFrom 14 = .ok (.ldc 60, 2) := dk_18 (by decide +kernel)
theorem dX2_restFrom_16 : decode cX2_restFrom 16 = .ok (.istore_n 3, 1) := dk_62 (by decide +kernel)
theorem dX2_restFrom_17 : decode cX2_restFrom 17 = .ok (.iconst 1, 1) := dk_4 (by decide +kernel)
theorem dX2_restFrom_18 : decode cX2_restFrom 18 = .ok (.istore 4, 2) := dk_54 (by decide +kernel)
theorem dX2_restFrom_20 : decode cX2_restFrom 20 = .ok (.iload 4, 2) := dk_21 (by decide +kernel)
theorem dX2_restFrom_22 : decode cX2_restFrom 22 = .ok (.aload_n 0, 1) := dk_42 (by decide +kernel)
theorem dX2_restFrom_23 : decode cX2_restFrom 23 = .ok (.getfield 98, 3) := dk_180 (by decide +kernel)
theorem dX2_restFrom_26 : decode cX2_restFrom 26 = .ok (.if_icmp .ge 33, 3) := dk_162 (by decide +kernel)
theorem dX2_restFrom_29 : decode cX2_restFrom 29 = .ok (.iload_n 1, 1) := dk_27 (by decide +kernel)
theorem dX2_restFrom_30 : decode cX2_restFrom 30 = .ok (.iload 4, 2) := dk_21 (by decide +kernel)
theorem dX2_restFrom_32 : decode cX2_restFrom 32 = .ok (.iconst 1, 1) := dk_4 (by decide +kernel)
theorem dX2_restFrom_33 : decode cX2_restFrom 33 = .ok (.isub, 1) := dk_100 (by decide +kernel)
theorem dX2_restFrom_34 : decode cX2_restFrom 34 = .ok (.ishr, 1) := dk_122 (by decide +kernel)
theorem dX2_restFrom_35 : decode cX2_restFrom 35 = .ok (.iconst 1, 1) := dk_4 (by decide +kernel)
theorem dX2_restFrom_36 : decode cX2_restFrom 36 = .ok (.iand, 1) := dk_126 (by decide +kernel)
theorem dX2_restFrom_37 : decode cX2_restFrom 37 = .ok (.ifCond .eq 16, 3) := dk_153 (by decide +kernel)
theorem dX2_restFrom_40 : decode cX2_restFrom 40 = .ok (.iload_n 3, 1) := dk_29 (by decide +kernel)
theorem dX2_restFrom_41 : decode cX2_restFrom 41 = .ok (.aload_n 0, 1) := dk_42 (by decide +kernel)
theorem dX2_restFrom_42 : decode cX2_restFrom 42 = .ok (.iload_n 1, 1) := dk_27 (by decide +kernel)
theorem dX2_restFrom_43 : decode cX2_restFrom 43 = .ok (.iload_n 2, 1) := dk_28 (by decide +kernel)
theorem dX2_restFrom_44 : decode cX2_restFrom 44 = .ok (.iload 4, 2) := dk_21 (by decide +kernel)
theorem dX2_restFrom_46 : decode cX2_restFrom 46 = .ok (.invokevirtual 107, 3) := dk_182 (by decide +kernel)
theorem dX2_restFrom_49 : decode cX2_restFrom 49 = .ok (.invokestatic 61, 3) := dk_184 (by decide +kernel)
theorem dX2_restFrom_52 : decode cX2_restFrom 52 = .ok (.istore_n 3, 1) := dk_62 (by decide +kernel)
theorem dX2_restFrom_53 : decode cX2_restFrom 53 = .ok (.iinc 4 1, 3) := dk_132 (by decide +kernel)
theorem dX2_restFrom_56 : decode cX2_restFrom 56 = .ok (.goto (-36), 3) := dk_167 (by decide +kernel)
theorem dX2_restFrom_59 : decode cX2_restFrom 59 = .ok (.iload_n 3, 1) := dk_29 (by decide +kernel)
theorem dX2_restFrom_60 : decode cX2_restFrom 60 = .ok (.ireturn, 1) := dk_172 (by decide +kernel)
def wsMX2_restFrom : List Cond := .code yX2_restFrom cX2_restFrom 5 (some .int) :: ([.constant RX2 60 536870912, .fieldLink RX2 98 "OptimaWorks$NetDesk" "stops" "I", .methodLink RX2 61 Lib.Math.min.name, .static Lib.Math.min.name, .initialized "java/lang/Math", .code Lib.Math.min.name Lib.Math.min.code 2 (some .int), .fieldLink RX2 39 "OptimaWorks$NetDesk" "price" "[I"] ++ wsX20 ++ (wsV RX2 107 RX2 yX2_costOver wsMX2_costOver))
theorem iwsMX2_restFrom_in2 : ∀ w ∈ wsX20, w ∈ wsMX2_restFrom := fun _ h => List.mem_cons_of_mem _ (List.mem_append_left _ (List.mem_append_right _ h))
theorem gwsMX2_restFrom_0 : GoodIn wsMX2_restFrom (wsV RX2 107 RX2 yX2_costOver wsMX2_costOver) := goodIn_sub (fun _ h => List.mem_cons_of_mem _ (List.mem_append_right _ h)) (gdV (by decide +kernel) gdwsMX2_costOver)
theorem gdwsMX2_restFrom : wsMX2_restFrom.all goodWord = true := gdC rfl (gdA (gdA (by decide +kernel : ([.constant RX2 60 536870912, .fieldLink RX2 98 "OptimaWorks$NetDesk" "stops" "I", .methodLink RX2 61 Lib.Math.min.name, .static Lib.Math.min.name, .initialized "java/lang/Math", .code Lib.Math.min.name Lib.Math.min.code 2 (some .int), .fieldLink RX2 39 "OptimaWorks$NetDesk" "price" "[I"] : List Cond).all goodWord = true) gdwsX20) (gdV (by decide +kernel) gdwsMX2_costOver))
set_option maxHeartbeats 4000000 in
set_option maxRecDepth 100000 in
/-- the least cost of the rest -/
theorem m_X2_restFrom (l : Launch) (dC : Nat → ClassId) (dI : Nat → Nat → Nat) (hN : Nat → Nat) (aN : Nat → Nat) (kN : Nat → ClassId) (iN_arcs : Int32) (fN_from : Nat → Int32) (fN_to : Nat → Int32) (fN_room : Nat → Int32) (fN_cost : Nat → Int32) (iN_reached : Int32) (fN_free : Nat → Int32) (fN_before : Nat → Int32) (fN_flow : Nat → Int32) (fN_length : Nat → Int32) (fN_stop : Nat → Int32) (iN_stops : Int32) (fN_price : Nat → Int32) (fN_rest : Nat → Int32) (p1 : Int32) (p2 : Int32) (b_iN_arcs : 0 ≤ iN_arcs.toInt ∧ iN_arcs.toInt ≤ 40) (b_fN_from : ∀ q : Nat, 0 ≤ (fN_from q).toInt ∧ (fN_from q).toInt ≤ 11) (b_fN_to : ∀ q : Nat, 0 ≤ (fN_to q).toInt ∧ (fN_to q).toInt ≤ 11) (b_fN_before : ∀ q : Nat, 0 ≤ (fN_before q).toInt ∧ (fN_before q).toInt ≤ 79) (b_fN_stop : ∀ q : Nat, 0 ≤ (fN_stop q).toInt ∧ (fN_stop q).toInt ≤ 11) (b_iN_stops : 0 ≤ iN_stops.toInt ∧ iN_stops.toInt ≤ 8) (b_p1 : 0 ≤ p1.toInt ∧ p1.toInt ≤ 127) (b_p2 : 0 ≤ p2.toInt ∧ p2.toInt ≤ 7) (hs1 : 1 ≤ iN_stops.toInt) (hat : p2.toInt < iN_stops.toInt) (hPb : ∀ x y, x < iN_stops.toInt.toNat → y < iN_stops.toInt.toNat → 0 ≤ tuTab fN_price x y ∧ tuTab fN_price x y ≤ 536870912) (hRb : ∀ y b, y < p1.toInt.toNat → b < iN_stops.toInt.toNat → 0 ≤ tuTab fN_rest y b ∧ tuTab fN_rest y b ≤ 536870912) (sz : Nat) : Met l yX2_restFrom wsMX2_restFrom ({ frames := 2, cells := 0, slots := 0, locals := 36 }) (va_Pc [.ref (hN 0), .int p1, .int p2] (fun U => U.heap.size = sz ∧ va_P (dC, dI) vwCl (WN hN aN kN iN_arcs fN_from fN_to fN_room fN_cost iN_reached fN_free fN_before fN_flow fN_length fN_stop iN_stops fN_price fN_rest) U.heap ∧ va_K (dC, dI) vwCl (tN kN) U ∧ va_D (fun _ => True) (WN hN aN kN iN_arcs fN_from fN_to fN_room fN_cost iN_reached fN_free fN_before fN_flow fN_length fN_stop iN_stops fN_price fN_rest))) (va_Qi (fun (r : Int32) (u : Unit) => (tuV1 (tuTab fN_price) iN_stops.toInt.toNat (tuTab fN_rest) p1.toInt.toNat p2.toInt.toNat r.toInt ∧ 0 ≤ r.toInt ∧ r.toInt ≤ 536870912)) (fun (u : Unit) t => va_P (dC, dI) vwCl (WN hN aN kN iN_arcs fN_from fN_to fN_room fN_cost iN_reached fN_free fN_before fN_flow fN_length fN_stop iN_stops fN_price fN_rest) t.heap ∧ va_D (va_A (WN hN aN kN iN_arcs fN_from fN_to fN_room fN_cost iN_reached fN_free fN_before fN_flow fN_length fN_stop iN_stops fN_price fN_rest) sz) (WN hN aN kN iN_arcs fN_from fN_to fN_room fN_cost iN_reached fN_free fN_before fN_flow fN_length fN_stop iN_stops fN_price fN_rest)) (va_A (WN hN aN kN iN_arcs fN_from fN_to fN_room fN_cost iN_reached fN_free fN_before fN_flow fN_length fN_stop iN_stops fN_price fN_rest) sz)) 0 0 (va_A (WN hN aN kN iN_arcs fN_from fN_to fN_room fN_cost iN_reached fN_free fN_before fN_flow fN_length fN_stop iN_stops fN_price fN_rest) sz) := by
  refine Met.ofW (cc := cX2_restFrom) (maxL := 5) (ret := (some .int)) (by decide) rfl ?_
  intro p e s m args below meth c s₁ B hml hv
  obtain ⟨rfl, hsz, hP, hK, hD0⟩ := hv
  have hx := B.exec
  have hb := B.bytes
  have hr := B.returns
  have hts := atoms_spec (ws := wsMX2_restFrom) B.pre
  have hown : s.vm.findClass RX2 = some m.cls := findClass_of_methodNamed B.named
  have hlocks := B.notSynchronized
  subst hsz
  have hD := hD0.self (sz := s.heap.size)
  generalize hAe : va_A (WN hN aN kN iN_arcs fN_from fN_to fN_room fN_cost iN_reached fN_free fN_before fN_flow fN_length fN_stop iN_stops fN_price fN_rest) s.heap.size = A at hD ⊢
  have hA : ∀ q : Nat, s.heap.size ≤ q → A q := fun q h => by rw [← hAe]; exact Or.inr h
  have hS : va_S A s.heap s.heap [] := va_S.rf
  have hl := lv_entry ([.ref (hN 0), .int p1, .int p2]) (n := 5) (Nat.le_of_ble_eq_true rfl)
  rw [lg_entry_eq]
  generalize (lg_sl ([.ref (hN 0), .int p1, .int p2]) ++ List.replicate (5 - (lg_sl ([.ref (hN 0), .int p1, .int p2])).length) Slot.unset).toArray = ls at hl ⊢
  have hl : lv_has ls 5 [(0, .ref (hN 0)), (1, .int p1), (2, .int p2)] := hl
  refine lv_iload_n hx hb dX2_restFrom_0 rfl (lv_at hl 1 rfl) ?_
  refine lv_if_ne (tgt := 14) hx hb dX2_restFrom_1 (by decide) (fun c_1 => ?_) (fun c_1 => ?_)
  · have t_1 : p1.toInt ≠ 0 := toI_ne c_1 rfl (by decide : (0 : Int32).toInt = 0)
    refine lv_ldc (v := 536870912) hx hb hown (hts (.constant RX2 60 536870912) (by decide +kernel)) dX2_restFrom_14 ?_
    refine lv_istore_n hx hb dX2_restFrom_16 rfl hl (by decide) rfl (fun ls (hl : lv_has ls _ ([(3, .int 536870912), (0, .ref (hN 0)), (1, .int p1), (2, .int p2)])) => ?_)
    refine lv_iconst (v := 1) hx hb dX2_restFrom_17 (by decide) ?_
    refine lv_istore hx hb dX2_restFrom_18 hl (by decide) rfl (fun ls (hl : lv_has ls _ ([(4, .int 1), (3, .int 536870912), (0, .ref (hN 0)), (1, .int p1), (2, .int p2)])) => ?_)
    have hl : lv_has _ _ ([(4, .int 1), (3, .int 536870912), (0, .ref (hN 0)), (1, .int p1), (2, .int p2)]) := lv_sub hl [0, 1, 2, 3, 4] rfl
    refine (fun (loop : ∀ (n9 : Nat) (l4_x20 : Int32) (l3_x20 : Int32) (H : Heap) (locs : List Loc) (ls : Array Slot), (1 ≤ l4_x20.toInt ∧ l4_x20.toInt ≤ 8) → (tuRs (tuTab fN_price) (tuTab fN_rest) p1.toInt.toNat p2.toInt.toNat l4_x20.toInt.toNat l3_x20.toInt) → (l4_x20.toInt ≤ iN_stops.toInt) → (8 - l4_x20.toInt < ((n9 : Nat) : Int)) → va_P (dC, dI) vwCl (WN hN aN kN iN_arcs fN_from fN_to fN_room fN_cost iN_reached fN_free fN_before fN_flow fN_length fN_stop iN_stops fN_price fN_rest) H → va_D A (WN hN aN kN iN_arcs fN_from fN_to fN_room fN_cost iN_reached fN_free fN_before fN_flow fN_length fN_stop iN_stops fN_price fN_rest) → va_S A s.heap H locs → lv_has ls 5 [(4, .int l4_x20), (3, .int l3_x20), (0, .ref (hN 0)), (1, .int p1), (2, .int p2)] → W p l e _ s m _ below meth c H locs 0 0 _ (F0 m 20 ls [])) => loop (8) 1 536870912 _ _ _ (show 1 ≤ (1 : Int32).toInt ∧ (1 : Int32).toInt ≤ 8 from by decide) (show tuRs (tuTab fN_price) (tuTab fN_rest) p1.toInt.toNat p2.toInt.toNat (1 : Int32).toInt.toNat (536870912 : Int32).toInt from tuRs.start (by decide) (by decide)) (show (1 : Int32).toInt ≤ iN_stops.toInt from by have h7 : (1 : Int32).toInt = 1 := (by decide); omega) ((by have e9 : (1 : Int32).toInt = 1 := (by decide : (1 : Int32).toInt = 1); omega)) hP hD hS hl) ?_
    intro n9
    induction n9 with
    | zero => intro l4_x20 l3_x20 H locs ls b_l4_x20 hRs hlb hf9; exact False.elim (by omega)
    | succ n9 ihx20 =>
      intro l4_x20 l3_x20 H locs ls b_l4_x20 hRs hlb hfx20 hP hD hS hl
      refine lv_iload hx hb dX2_restFrom_20 (lv_at hl 0 rfl) ?_
      refine lv_aload_n hx hb dX2_restFrom_22 rfl (lv_at hl 2 rfl) ?_
      refine va_get (D := (dC, dI)) (ci := 2) (v := .int iN_stops) (C := RX2) (T := TX2) (N := 14) hx hb hts iwsMX2_restFrom_in2 hown hK hP 0 rfl rfl 11 (by decide) (hts (.fieldLink RX2 98 "OptimaWorks$NetDesk" "stops" "I") (by decide +kernel)) (fun _ h9 => h9) rfl dX2_restFrom_23 ?_
      refine lv_icmp_ge (tgt := 59) hx hb dX2_restFrom_26 (by decide) (fun c_26 => ?_) (fun c_26 => ?_)
      · have t_26 : l4_x20.toInt ≥ iN_stops.toInt := toI_ge c_26 rfl rfl
        refine lv_iload_n hx hb dX2_restFrom_59 rfl (lv_at hl 1 rfl) ?_
        refine W.widen (k := 0) (n := 0) (by decide +kernel) (by decide +kernel) ?_
        exact W.iret (v := l3_x20) hx hb hr (fun t9_ ht hW => ⟨⟨l3_x20, (), rfl, (by (try dsimp only); exact (⟨tuRs.done hRs (by omega) (by omega) (by omega), hRs.1⟩)), by rw [ht]; exact hP, hD⟩, hS.F ht⟩) hS.2.2 dX2_restFrom_60
      · have t_26 : ¬ l4_x20.toInt ≥ iN_stops.toInt := toI_nge c_26 rfl rfl
        refine lv_iload_n hx hb dX2_restFrom_29 rfl (lv_at hl 3 rfl) ?_
        refine lv_iload hx hb dX2_restFrom_30 (lv_at hl 0 rfl) ?_
        refine lv_iconst (v := 1) hx hb dX2_restFrom_32 (by decide) ?_
        refine lv_isub hx hb dX2_restFrom_33 ?_
        refine lv_topi (fun y36 hy36 => ?_)
        obtain rfl : (iI (l4_x20.toInt - 1)) = y36 := (hy36.trans (iI_sub2 (iI_of _) (by decide : (1 : Int32) = iI 1))).symm
        refine lv_ishr hx hb dX2_restFrom_34 ?_
        refine lv_topi (fun v37 hv37 => ?_)
        have b_v37 : v37 = p1 >>> ((iI (l4_x20.toInt - 1)) &&& 31) := hv37
        clear hv37
        refine lv_iconst (v := 1) hx hb dX2_restFrom_35 (by decide) ?_
        refine lv_iand hx hb dX2_restFrom_36 ?_
        refine lv_topi (fun v38 hv38 => ?_)
        have b_v38 : (bt p1 (l4_x20.toInt - 1).toNat = true ∧ v38.toInt = 1) ∨ (bt p1 (l4_x20.toInt - 1).toNat = false ∧ v38.toInt = 0) := by rw [hv38]; exact sh_and1 b_v37 (iI_t (Int.le_trans (by decide) (Int.sub_le_sub (b_l4_x20.1) (Int.le_refl _))) (Int.le_trans (Int.sub_le_sub (b_l4_x20.2) (Int.le_refl _)) (by decide))) (by omega) (by omega)
        clear hv38
        refine W.cut (pc := 53) (fun H locs ls stk => ∃ (l3_j12 : Int32), (tuRs (tuTab fN_price) (tuTab fN_rest) p1.toInt.toNat p2.toInt.toNat (l4_x20.toInt.toNat + 1) l3_j12.toInt) ∧  stk = [] ∧ va_P (dC, dI) vwCl (WN hN aN kN iN_arcs fN_from fN_to fN_room fN_cost iN_reached fN_free fN_before fN_flow fN_length fN_stop iN_stops fN_price fN_rest) H ∧ va_D A (WN hN aN kN iN_arcs fN_from fN_to fN_room fN_cost iN_reached fN_free fN_before fN_flow fN_length fN_stop iN_stops fN_price fN_rest) ∧ va_S A s.heap H locs ∧ lv_has ls 5 [(4, .int l4_x20), (3, .int l3_j12), (0, .ref (hN 0)), (1, .int p1), (2, .int p2)]) (fun join12 => ?_) ?_
        · refine lv_if_eq (tgt := 53) hx hb dX2_restFrom_37 (by decide) (fun c_37 => ?_) (fun c_37 => ?_)
          · have t_37 : v38.toInt = 0 := toI_eq c_37 rfl (by decide : (0 : Int32).toInt = 0)
            have hl : lv_has _ _ ([(4, .int l4_x20), (3, .int l3_x20), (0, .ref (hN 0)), (1, .int p1), (2, .int p2)]) := lv_sub hl [0, 1, 2, 3, 4] rfl
            exact join12 _ _ _ _ ⟨l3_x20, (show tuRs (tuTab fN_price) (tuTab fN_rest) p1.toInt.toNat p2.toInt.toNat (l4_x20.toInt.toNat + 1) l3_x20.toInt from tuRs.skip hRs (by rw [show l4_x20.toInt.toNat - 1 = (l4_x20.toInt - 1).toNat from by omega, ← bt_tb (by omega) (by omega)]; exact bt_no b_v38 t_37)), rfl, hP, hD, hS, hl⟩
          · have t_37 : ¬ v38.toInt = 0 := toI_neq c_37 rfl (by decide : (0 : Int32).toInt = 0)
            refine lv_iload_n hx hb dX2_restFrom_40 rfl (lv_at hl 1 rfl) ?_
            refine lv_aload_n hx hb dX2_restFrom_41 rfl (lv_at hl 2 rfl) ?_
            refine lv_iload_n hx hb dX2_restFrom_42 rfl (lv_at hl 3 rfl) ?_
            refine lv_iload_n hx hb dX2_restFrom_43 rfl (lv_at hl 4 rfl) ?_
            refine lv_iload hx hb dX2_restFrom_44 (lv_at hl 0 rfl) ?_
            have hFc := allFree hD hS hA
            refine va_calli (va_runV (As := [.int p1, .int p2, .int l4_x20]) (rest := [.int l3_x20]) ⟨hx, hb, hml, hown, hts⟩ (m_X2_costOver l dC dI hN aN kN iN_arcs fN_from fN_to fN_room fN_cost iN_reached fN_free fN_before fN_flow fN_length fN_stop iN_stops fN_price fN_rest p1 p2 l4_x20 (b_iN_arcs) b_fN_from b_fN_to b_fN_before b_fN_stop (b_iN_stops) (b_p1) (b_p2) (by first | exact b_l4_x20 | with_reducible assumption | exact ⟨by omega, by omega⟩ | assumption) ((by rw [show l4_x20.toInt.toNat - 1 = (l4_x20.toInt - 1).toNat from by omega, ← bt_tb (by omega) (by omega)]; exact bt_yes b_v38 t_37)) (hPb _ _ (by omega) (by omega)) (hRb _ _ (tuOff_lt (tuBitNz (j := l4_x20.toInt.toNat - 1) (by rw [show l4_x20.toInt.toNat - 1 = (l4_x20.toInt - 1).toNat from by omega, ← bt_tb (by omega) (by omega)]; exact bt_yes b_v38 t_37))) (by omega)) H.size) (cwV 3 hts gwsMX2_restFrom_0 rfl rfl rfl hd_yX2_costOver_RX2 (by decide +kernel)) (fz_pre (va_recv hK hP (ci := 2) (q0 := 0) rfl rfl) hP hK hD) rfl rfl hl.1 rfl (lv_room (Nat.le_of_ble_eq_true rfl)) dX2_restFrom_46 (by decide +kernel)) hS (fun q _ h => hFc q h) hFc (fun r41 u t9_ H locs ht hvm hw9 hB9 hz1 hk1 hS => ?_)
            have f41_0 := hw9
            try dsimp only at f41_0
            have hP : va_P (dC, dI) vwCl (WN hN aN kN iN_arcs fN_from fN_to fN_room fN_cost iN_reached fN_free fN_before fN_flow fN_length fN_stop iN_stops fN_price fN_rest) H := fz_P ht hB9.1
            have hD : va_D A (WN hN aN kN iN_arcs fN_from fN_to fN_room fN_cost iN_reached fN_free fN_before fN_flow fN_length fN_stop iN_stops fN_price fN_rest) := hB9.2.weaken (fun _ q _ h => hFc q.1 h)
            refine va_mmin hx hb (by rw [hml]; exact hl.1.symm) hown (hts (.methodLink RX2 61 Lib.Math.min.name) (by decide +kernel)) (hts (.static Lib.Math.min.name) (by decide +kernel)) (hts (.initialized "java/lang/Math") (by decide +kernel)) (hts (.code Lib.Math.min.name Lib.Math.min.code 2 (some .int)) (by decide +kernel)) (by decide +kernel) (Nat.le_of_ble_eq_true rfl) (by decide +kernel) (by decide +kernel) dX2_restFrom_49 ?_
            refine lv_topi (fun v42 hv42 => ?_)
            have b_v42 : (v42.toInt ≤ l3_x20.toInt ∧ v42.toInt ≤ r41.toInt) ∧ (v42.toInt = l3_x20.toInt ∨ v42.toInt = r41.toInt) := by rw [hv42]; exact min_t rfl rfl
            clear hv42
            refine lv_istore_n hx hb dX2_restFrom_52 rfl hl (by decide) rfl (fun ls (hl : lv_has ls _ ([(3, .int v42), (4, .int l4_x20), (0, .ref (hN 0)), (1, .int p1), (2, .int p2)])) => ?_)
            have hl : lv_has _ _ ([(4, .int l4_x20), (3, .int v42), (0, .ref (hN 0)), (1, .int p1), (2, .int p2)]) := lv_sub hl [1, 0, 2, 3, 4] rfl
            exact join12 _ _ _ _ ⟨v42, (show tuRs (tuTab fN_price) (tuTab fN_rest) p1.toInt.toNat p2.toInt.toNat (l4_x20.toInt.toNat + 1) v42.toInt from tuRs.take hRs (by omega) (by rw [show l4_x20.toInt.toNat - 1 = (l4_x20.toInt - 1).toNat from by omega, ← bt_tb (by omega) (by omega)]; exact bt_yes b_v38 t_37) f41_0 (by (have h9 := hs1); rw [f41_0]; exact tuG_0 (hPb _ _ (by omega) (by omega)).1 (hRb _ _ (tuOff_lt (by omega)) (by omega)).1) b_v42), rfl, hP, hD, hS, hl⟩
        · rintro H locs ls stk ⟨l3_j12, hRj, rfl, hP, hD, hS, hl⟩
          refine lv_iinc (v := (iI (l4_x20.toInt + 1))) hx hb dX2_restFrom_53 hl (k := 0) rfl (iI_add2 (iI_of _) (by decide : (1 : Int32) = iI 1)) (by decide) rfl (fun ls (hl : lv_has ls _ ([(4, .int (iI (l4_x20.toInt + 1))), (3, .int l3_j12), (0, .ref (hN 0)), (1, .int p1), (2, .int p2)])) => ?_)
          refine lv_goto (tgt := 20) hx hb dX2_restFrom_56 (by decide) ?_
          have hl : lv_has _ _ ([(4, .int (iI (l4_x20.toInt + 1))), (3, .int l3_j12), (0, .ref (hN 0)), (1, .int p1), (2, .int p2)]) := lv_sub hl [0, 1, 2, 3, 4] rfl
          exact ihx20 (iI (l4_x20.toInt + 1)) l3_j12 _ _ _ (iI_rng (Int.le_trans (by decide) (Int.add_le_add (b_l4_x20.1) (Int.le_refl _))) (by omega) (by decide) (by decide)) (show tuRs (tuTab fN_price) (tuTab fN_rest) p1.toInt.toNat p2.toInt.toNat (iI (l4_x20.toInt + 1)).toInt.toNat l3_j12.toInt from by rw [show (iI (l4_x20.toInt + 1)).toInt.toNat = l4_x20.toInt.toNat + 1 from by rw [iI_t (by omega) (by omega)]; omega]; exact hRj) (show (iI (l4_x20.toInt + 1)).toInt ≤ iN_stops.toInt from by rw [iI_t (by omega) (by omega)]; omega) (by have e9 : ((iI (l4_x20.toInt + 1))).toInt = (l4_x20.toInt + 1) := (iI_t (Int.le_trans (by decide) (Int.add_le_add (b_l4_x20.1) (Int.le_refl _))) (Int.le_trans (Int.add_le_add (b_l4_x20.2) (Int.le_refl _)) (by decide))); omega) hP hD hS hl
  · have t_1 : p1.toInt = 0 := toI_nne c_1 rfl (by decide : (0 : Int32).toInt = 0)
    refine lv_aload_n hx hb dX2_restFrom_4 rfl (lv_at hl 0 rfl) ?_
    refine va_get (D := (dC, dI)) (ci := 2) (v := .ref (aN 9)) (C := RX2) (T := TX2) (N := 14) hx hb hts iwsMX2_restFrom_in2 hown hK hP 0 rfl rfl 12 (by decide) (hts (.fieldLink RX2 39 "OptimaWorks$NetDesk" "price" "[I") (by decide +kernel)) (fun _ h9 => h9) rfl dX2_restFrom_5 ?_
    refine lv_iload_n hx hb dX2_restFrom_8 rfl (lv_at hl 2 rfl) ?_
    refine lv_bipush (v := 8) hx hb dX2_restFrom_9 (by decide) ?_
    refine lv_imul hx hb dX2_restFrom_11 ?_
    refine lv_topi (fun y43 hy43 => ?_)
    obtain rfl : (iI (p2.toInt * 8)) = y43 := (hy43.trans (iI_mul2 (iI_of _) (by decide : (8 : Int32) = iI 8))).symm
    refine va_iald (cA := kN 9) (n := 64) (f := fN_price) hx hb hK hP 10 9 rfl rfl (vp_iI (Int.le_trans (by decide) (Int.mul_le_mul_of_nonneg_right (b_p2.1) (by decide))) (Int.lt_of_le_of_lt (Int.mul_le_mul_of_nonneg_right (b_p2.2) (by decide)) (by decide)) (by decide)) dX2_restFrom_12 ?_
    refine lv_topi (fun v44 hv44 => ?_)
    have b_v44 : v44.toInt ≤ v44.toInt := by rw [hv44]; exact Int.le_refl _
    have b1_v44 : v44 = fN_price ((iI (p2.toInt * 8))).toNatClampNeg := hv44
    clear hv44
    refine W.widen (k := 0) (n := 0) (by decide +kernel) (by decide +kernel) ?_
    exact W.iret (v := v44) hx hb hr (fun t9_ ht hW => ⟨⟨v44, (), rfl, (by (try dsimp only); exact (⟨⟨fun _ => by rw [b1_v44]; show (fN_price (iI (p2.toInt * 8)).toInt.toNat).toInt = (fN_price (8 * p2.toInt.toNat + 0)).toInt; rw [iI_t (by omega) (by omega), show (p2.toInt * 8).toNat = 8 * p2.toInt.toNat + 0 from by omega], fun h9 => absurd (by omega) h9⟩, by rw [show v44.toInt = tuTab fN_price p2.toInt.toNat 0 from by rw [b1_v44]; show (fN_price (iI (p2.toInt * 8)).toInt.toNat).toInt = (fN_price (8 * p2.toInt.toNat + 0)).toInt; rw [iI_t (by omega) (by omega), show (p2.toInt * 8).toNat = 8 * p2.toInt.toNat + 0 from by omega]]; exact hPb _ _ (by omega) (by omega)⟩)), by rw [ht]; exact hP, hD⟩, hS.F ht⟩) hS.2.2 dX2_restFrom_13
theorem dX2_nextStop_0 : decode cX2_nextStop 0 = .ok (.iconst 1, 1) := dk_4 (by decide +kernel)
theorem dX2_nextStop_1 : decode cX2_nextStop 1 = .ok (.istore_n 3, 1) := dk_62 (by decide +kernel)
theorem dX2_nextStop_2 : decode cX2_nextStop 2 = .ok (.iload_n 3, 1) := dk_29 (by decide +kernel)
theorem dX2_nextStop_3 : decode cX2_nextStop 3 = .ok (.aload_n 0, 1) := dk_42 (by decide +kernel)
theorem dX2_nextStop_4 : decode cX2_nextStop 4 = .ok (.getfield 98, 3) := dk_180 (by decide +kernel)
theorem dX2_nextStop_7 : decode cX2_nextStop 7 = .ok (.if_icmp .ge 42, 3) := dk_162 (by decide +kernel)
theorem dX2_nextStop_10 : decode cX2_nextStop 10 = .ok (.iload_n 1, 1) := dk_27 (by decide +kernel)
theorem dX2_nextStop_11 : decode cX2_nextStop 11 = .ok (.iload_n 3, 1) := dk_29 (by decide +kernel)
theorem dX2_nextStop_12 : decode cX2_nextStop 12 = .ok (.iconst 1, 1) := dk_4 (by decide +kernel)
theorem dX2_nextStop_13 : decode cX2_nextStop 13 = .ok (.isub, 1) := dk_100 (by decide +kernel)
theorem dX2_nextStop_14 : decode cX2_nextStop 14 = .ok (.ishr, 1) := dk_122 (by decide +kernel)
theorem dX2_nextStop_15 : decode cX2_nextStop 15 = .ok (.iconst 1, 1) := dk_4 (by decide +kernel)
theorem dX2_nextStop_16 : decode cX2_nextStop 16 = .ok (.iand, 1) := dk_126 (by decide +kernel)
theorem dX2_nextStop_17 : decode cX2_nextStop 17 = .ok (.ifCond .eq 26, 3) := dk_153 (by decide +kernel)
theorem dX2_nextStop_20 : decode cX2_nextStop 20 = .ok (.aload_n 0, 1) := dk_42 (by decide +kernel)
theorem dX2_nextStop_21 : decode cX2_nextStop 21 = .ok (.iload_n 1, 1) := dk_27 (by decide +kernel)
theorem dX2_nextStop_22 : decode cX2_nextStop 22 = .ok (.iload_n 2, 1) := dk_28 (by decide +kernel)
theorem dX2_nextStop_23 : decode cX2_nextStop 23 = .ok (.iload_n 3, 1) := dk_29 (by decide +kernel)
theorem dX2_nextStop_24 : decode cX2_nextStop 24 = .ok (.invokevirtual 107, 3) := dk_182 (by decide +kernel)
theorem dX2_nextStop_27 : decode cX2_nextStop 27 = .ok (.aload_n 0, 1) := dk_42 (by decide +kernel)
theorem dX2_nextStop_28 : decode cX2_nextStop 28 = .ok (.getfield 42, 3) := dk_180 (by decide +kernel)
theorem dX2_nextStop_31 : decode cX2_nextStop 31 = .ok (.iload_n 1, 1) := dk_27 (by decide +kernel)
theorem dX2_nextStop_32 : decode cX2_nextStop 32 = .ok (.bipush 8, 2) := dk_16 (by decide +kernel)
theorem dX2_nextStop_34 : decode cX2_nextStop 34 = .ok (.imul, 1) := dk_104 (by decide +kernel)
theorem dX2_nextStop_35 : decode cX2_nextStop 35 = .ok (.iload_n 2, 1) := dk_28 (by decide +kernel)
theorem dX2_nextStop_36 : decode cX2_nextStop 36 = .ok (.iadd, 1) := dk_96 (by decide +kernel)
theorem dX2_nextStop_37 : decode cX2_nextStop 37 = .ok (.iaload, 1) := dk_46 (by decide +kernel)
theorem dX2_nextStop_38 : decode cX2_nextStop 38 = .ok (.if_icmp .ne 5, 3) := dk_160 (by decide +kernel)
theorem dX2_nextStop_41 : decode cX2_nextStop 41 = .ok (.iload_n 3, 1) := dk_29 (by decide +kernel)
theorem dX2_nextStop_42 : decode cX2_nextStop 42 = .ok (.ireturn, 1) := dk_172 (by decide +kernel)
theorem dX2_nextStop_43 : decode cX2_nextStop 43 = .ok (.iinc 3 1, 3) := dk_132 (by decide +kernel)
theorem dX2_nextStop_46 : decode cX2_nextStop 46 = .ok (.goto (-44), 3) := dk_167 (by decide +kernel)
theorem dX2_nextStop_49 : decode cX2_nextStop 49 = .ok (.iconst 1, 1) := dk_4 (by decide +kernel)
theorem dX2_nextStop_50 : decode cX2_nextStop 50 = .ok (.aload_n 0, 1) := dk_42 (by decide +kernel)
theorem dX2_nextStop_51 : decode cX2_nextStop 51 = .ok (.getfield 98, 3) := dk_180 (by decide +kernel)
theorem dX2_nextStop_54 : decode cX2_nextStop 54 = .ok (.iconst 1, 1) := dk_4 (by decide +kernel)
theorem dX2_nextStop_55 : decode cX2_nextStop 55 = .ok (.isub, 1) := dk_100 (by decide +kernel)
theorem dX2_nextStop_56 : decode cX2_nextStop 56 = .ok (.invokestatic 89, 3) := dk_184 (by decide +kernel)
theorem dX2_nextStop_59 : decode cX2_nextStop 59 = .ok (.ireturn, 1) := dk_172 (by decide +kernel)
def wsMX2_nextStop : List Cond := .code yX2_nextStop cX2_nextStop 4 (some .int) :: ([.fieldLink RX2 98 "OptimaWorks$NetDesk" "stops" "I", .methodLink RX2 89 Lib.Math.max.name, .static Lib.Math.max.name, .initialized "java/lang/Math", .code Lib.Math.max.name Lib.Math.max.code 2 (some .int), .fieldLink RX2 42 "OptimaWorks$NetDesk" "rest" "[I"] ++ wsX20 ++ (wsV RX2 107 RX2 yX2_costOver wsMX2_costOver))
theorem iwsMX2_nextStop_in2 : ∀ w ∈ wsX20, w ∈ wsMX2_nextStop := fun _ h => List.mem_cons_of_mem _ (List.mem_append_left _ (List.mem_append_right _ h))
theorem gwsMX2_nextStop_0 : GoodIn wsMX2_nextStop (wsV RX2 107 RX2 yX2_costOver wsMX2_costOver) := goodIn_sub (fun _ h => List.mem_cons_of_mem _ (List.mem_append_right _ h)) (gdV (by decide +kernel) gdwsMX2_costOver)
theorem gdwsMX2_nextStop : wsMX2_nextStop.all goodWord = true := gdC rfl (gdA (gdA (by decide +kernel : ([.fieldLink RX2 98 "OptimaWorks$NetDesk" "stops" "I", .methodLink RX2 89 Lib.Math.max.name, .static Lib.Math.max.name, .initialized "java/lang/Math", .code Lib.Math.max.name Lib.Math.max.code 2 (some .int), .fieldLink RX2 42 "OptimaWorks$NetDesk" "rest" "[I"] : List Cond).all goodWord = true) gdwsX20) (gdV (by decide +kernel) gdwsMX2_costOver))
set_option maxHeartbeats 4000000 in
set_option maxRecDepth 100000 in
/-- the next stop -/
theorem m_X2_nextStop (l : Launch) (dC : Nat → ClassId) (dI : Nat → Nat → Nat) (hN : Nat → Nat) (aN : Nat → Nat) (kN : Nat → ClassId) (iN_arcs : Int32) (fN_from : Nat → Int32) (fN_to : Nat → Int32) (fN_room : Nat → Int32) (fN_cost : Nat → Int32) (iN_reached : Int32) (fN_free : Nat → Int32) (fN_before : Nat → Int32) (fN_flow : Nat → Int32) (fN_length : Nat → Int32) (fN_stop : Nat → Int32) (iN_stops : Int32) (fN_price : Nat → Int32) (fN_rest : Nat → Int32) (p1 : Int32) (p2 : Int32) (b_iN_arcs : 0 ≤ iN_arcs.toInt ∧ iN_arcs.toInt ≤ 40) (b_fN_from : ∀ q : Nat, 0 ≤ (fN_from q).toInt ∧ (fN_from q).toInt ≤ 11) (b_fN_to : ∀ q : Nat, 0 ≤ (fN_to q).toInt ∧ (fN_to q).toInt ≤ 11) (b_fN_before : ∀ q : Nat, 0 ≤ (fN_before q).toInt ∧ (fN_before q).toInt ≤ 79) (b_fN_stop : ∀ q : Nat, 0 ≤ (fN_stop q).toInt ∧ (fN_stop q).toInt ≤ 11) (b_iN_stops : 0 ≤ iN_stops.toInt ∧ iN_stops.toInt ≤ 8) (b_p1 : 0 ≤ p1.toInt ∧ p1.toInt ≤ 127) (b_p2 : 0 ≤ p2.toInt ∧ p2.toInt ≤ 7) (hs1 : 1 ≤ iN_stops.toInt) (hat : p2.toInt < iN_stops.toInt) (hPb : ∀ x y, x < iN_stops.toInt.toNat → y < iN_stops.toInt.toNat → 0 ≤ tuTab fN_price x y ∧ tuTab fN_price x y ≤ 536870912) (hRb : ∀ y b, y < p1.toInt.toNat → b < iN_stops.toInt.toNat → 0 ≤ tuTab fN_rest y b ∧ tuTab fN_rest y b ≤ 536870912) (sz : Nat) : Met l yX2_nextStop wsMX2_nextStop ({ frames := 2, cells := 0, slots := 0, locals := 36 }) (va_Pc [.ref (hN 0), .int p1, .int p2] (fun U => U.heap.size = sz ∧ va_P (dC, dI) vwCl (WN hN aN kN iN_arcs fN_from fN_to fN_room fN_cost iN_reached fN_free fN_before fN_flow fN_length fN_stop iN_stops fN_price fN_rest) U.heap ∧ va_K (dC, dI) vwCl (tN kN) U ∧ va_D (fun _ => True) (WN hN aN kN iN_arcs fN_from fN_to fN_room fN_cost iN_reached fN_free fN_before fN_flow fN_length fN_stop iN_stops fN_price fN_rest))) (va_Qi (fun (r : Int32) (u : Unit) => (1 ≤ r.toInt ∧ r.toInt ≤ 7) ∧ ((∃ b : Nat, 1 ≤ b ∧ b < iN_stops.toInt.toNat ∧ tuQ (tuTab fN_price) (tuTab fN_rest) p1.toInt.toNat p2.toInt.toNat b = true) → 1 ≤ r.toInt ∧ r.toInt < iN_stops.toInt ∧ tuQ (tuTab fN_price) (tuTab fN_rest) p1.toInt.toNat p2.toInt.toNat r.toInt.toNat = true ∧ ∀ c : Nat, 1 ≤ c → (c : Int) < r.toInt → tuQ (tuTab fN_price) (tuTab fN_rest) p1.toInt.toNat p2.toInt.toNat c = false)) (fun (u : Unit) t => va_P (dC, dI) vwCl (WN hN aN kN iN_arcs fN_from fN_to fN_room fN_cost iN_reached fN_free fN_before fN_flow fN_length fN_stop iN_stops fN_price fN_rest) t.heap ∧ va_D (va_A (WN hN aN kN iN_arcs fN_from fN_to fN_room fN_cost iN_reached fN_free fN_before fN_flow fN_length fN_stop iN_stops fN_price fN_rest) sz) (WN hN aN kN iN_arcs fN_from fN_to fN_room fN_cost iN_reached fN_free fN_before fN_flow fN_length fN_stop iN_stops fN_price fN_rest)) (va_A (WN hN aN kN iN_arcs fN_from fN_to fN_room fN_cost iN_reached fN_free fN_before fN_flow fN_length fN_stop iN_stops fN_price fN_rest) sz)) 0 0 (va_A (WN hN aN kN iN_arcs fN_from fN_to fN_room fN_cost iN_reached fN_free fN_before fN_flow fN_length fN_stop iN_stops fN_price fN_rest) sz) := by
  refine Met.ofW (cc := cX2_nextStop) (maxL := 4) (ret := (some .int)) (by decide) rfl ?_
  intro p e s m args below meth c s₁ B hml hv
  obtain ⟨rfl, hsz, hP, hK, hD0⟩ := hv
  have hx := B.exec
  have hb := B.bytes
  have hr := B.returns
  have hts := atoms_spec (ws := wsMX2_nextStop) B.pre
  have hown : s.vm.findClass RX2 = some m.cls := findClass_of_methodNamed B.named
  have hlocks := B.notSynchronized
  subst hsz
  have hD := hD0.self (sz := s.heap.size)
  generalize hAe : va_A (WN hN aN kN iN_arcs fN_from fN_to fN_room fN_cost iN_reached fN_free fN_before fN_flow fN_length fN_stop iN_stops fN_price fN_rest) s.heap.size = A at hD ⊢
  have hA : ∀ q : Nat, s.heap.size ≤ q → A q := fun q h => by rw [← hAe]; exact Or.inr h
  have hS : va_S A s.heap s.heap [] := va_S.rf
  have hl := lv_entry ([.ref (hN 0), .int p1, .int p2]) (n := 4) (Nat.le_of_ble_eq_true rfl)
  rw [lg_entry_eq]
  generalize (lg_sl ([.ref (hN 0), .int p1, .int p2]) ++ List.replicate (4 - (lg_sl ([.ref (hN 0), .int p1, .int p2])).length) Slot.unset).toArray = ls at hl ⊢
  have hl : lv_has ls 4 [(0, .ref (hN 0)), (1, .int p1), (2, .int p2)] := hl
  refine lv_iconst (v := 1) hx hb dX2_nextStop_0 (by decide) ?_
  refine lv_istore_n hx hb dX2_nextStop_1 rfl hl (by decide) rfl (fun ls (hl : lv_has ls _ ([(3, .int 1), (0, .ref (hN 0)), (1, .int p1), (2, .int p2)])) => ?_)
  have hl : lv_has _ _ ([(3, .int 1), (0, .ref (hN 0)), (1, .int p1), (2, .int p2)]) := lv_sub hl [0, 1, 2, 3] rfl
  refine (fun (loop : ∀ (n9 : Nat) (l3_x2 : Int32) (H : Heap) (locs : List Loc) (ls : Array Slot), (1 ≤ l3_x2.toInt ∧ l3_x2.toInt ≤ 8) → (∀ c : Nat, 1 ≤ c → (c : Int) < l3_x2.toInt → tuQ (tuTab fN_price) (tuTab fN_rest) p1.toInt.toNat p2.toInt.toNat c = false) → (8 - l3_x2.toInt < ((n9 : Nat) : Int)) → va_P (dC, dI) vwCl (WN hN aN kN iN_arcs fN_from fN_to fN_room fN_cost iN_reached fN_free fN_before fN_flow fN_length fN_stop iN_stops fN_price fN_rest) H → va_D A (WN hN aN kN iN_arcs fN_from fN_to fN_room fN_cost iN_reached fN_free fN_before fN_flow fN_length fN_stop iN_stops fN_price fN_rest) → va_S A s.heap H locs → lv_has ls 4 [(3, .int l3_x2), (0, .ref (hN 0)), (1, .int p1), (2, .int p2)] → W p l e _ s m _ below meth c H locs 0 0 _ (F0 m 2 ls [])) => loop (8) 1 _ _ _ (show 1 ≤ (1 : Int32).toInt ∧ (1 : Int32).toInt ≤ 8 from by decide) (show ∀ c : Nat, 1 ≤ c → (c : Int) < (1 : Int32).toInt → tuQ (tuTab fN_price) (tuTab fN_rest) p1.toInt.toNat p2.toInt.toNat c = false from fun c h1 h2 => absurd h2 (by have h7 : (1 : Int32).toInt = 1 := (by decide); omega)) ((by have e9 : (1 : Int32).toInt = 1 := (by decide : (1 : Int32).toInt = 1); omega)) hP hD hS hl) ?_
  intro n9
  induction n9 with
  | zero => intro l3_x2 H locs ls b_l3_x2 hNo hf9; exact False.elim (by omega)
  | succ n9 ihx2 =>
    intro l3_x2 H locs ls b_l3_x2 hNo hfx2 hP hD hS hl
    refine lv_iload_n hx hb dX2_nextStop_2 rfl (lv_at hl 0 rfl) ?_
    refine lv_aload_n hx hb dX2_nextStop_3 rfl (lv_at hl 1 rfl) ?_
    refine va_get (D := (dC, dI)) (ci := 2) (v := .int iN_stops) (C := RX2) (T := TX2) (N := 14) hx hb hts iwsMX2_nextStop_in2 hown hK hP 0 rfl rfl 11 (by decide) (hts (.fieldLink RX2 98 "OptimaWorks$NetDesk" "stops" "I") (by decide +kernel)) (fun _ h9 => h9) rfl dX2_nextStop_4 ?_
    refine lv_icmp_ge (tgt := 49) hx hb dX2_nextStop_7 (by decide) (fun c_7 => ?_) (fun c_7 => ?_)
    · have t_7 : l3_x2.toInt ≥ iN_stops.toInt := toI_ge c_7 rfl rfl
      refine lv_iconst (v := 1) hx hb dX2_nextStop_49 (by decide) ?_
      refine lv_aload_n hx hb dX2_nextStop_50 rfl (lv_at hl 1 rfl) ?_
      refine va_get (D := (dC, dI)) (ci := 2) (v := .int iN_stops) (C := RX2) (T := TX2) (N := 14) hx hb hts iwsMX2_nextStop_in2 hown hK hP 0 rfl rfl 11 (by decide) (hts (.fieldLink RX2 98 "OptimaWorks$NetDesk" "stops" "I") (by decide +kernel)) (fun _ h9 => h9) rfl dX2_nextStop_51 ?_
      refine lv_iconst (v := 1) hx hb dX2_nextStop_54 (by decide) ?_
      refine lv_isub hx hb dX2_nextStop_55 ?_
      refine lv_topi (fun y19 hy19 => ?_)
      obtain rfl : (iI (iN_stops.toInt - 1)) = y19 := (hy19.trans (iI_sub2 (iI_of _) (by decide : (1 : Int32) = iI 1))).symm
      refine va_mmax hx hb (by rw [hml]; exact hl.1.symm) hown (hts (.methodLink RX2 89 Lib.Math.max.name) (by decide +kernel)) (hts (.static Lib.Math.max.name) (by decide +kernel)) (hts (.initialized "java/lang/Math") (by decide +kernel)) (hts (.code Lib.Math.max.name Lib.Math.max.code 2 (some .int)) (by decide +kernel)) (by decide +kernel) (Nat.le_of_ble_eq_true rfl) (by decide +kernel) (by decide +kernel) dX2_nextStop_56 ?_
      refine lv_topi (fun v20 hv20 => ?_)
      have b_v20 : (1 ≤ v20.toInt ∧ (iN_stops.toInt - 1) ≤ v20.toInt) ∧ (v20.toInt = 1 ∨ v20.toInt = (iN_stops.toInt - 1)) := by rw [hv20]; exact max_t (by decide : (1 : Int32).toInt = 1) (iI_t (Int.le_trans (by decide) (Int.sub_le_sub (b_iN_stops.1) (Int.le_refl _))) (Int.le_trans (Int.sub_le_sub (b_iN_stops.2) (Int.le_refl _)) (by decide)))
      clear hv20
      refine W.widen (k := 0) (n := 0) (by decide +kernel) (by decide +kernel) ?_
      exact W.iret (v := v20) hx hb hr (fun t9_ ht hW => ⟨⟨v20, (), rfl, ⟨(by first | exact b_v20 | with_reducible assumption | exact ⟨by omega, by omega⟩ | assumption), (by (try dsimp only); exact (fun ⟨c9, h1, h2, h3⟩ => absurd h3 (by rw [hNo c9 h1 (by omega)]; decide)))⟩, by rw [ht]; exact hP, hD⟩, hS.F ht⟩) hS.2.2 dX2_nextStop_59
    · have t_7 : ¬ l3_x2.toInt ≥ iN_stops.toInt := toI_nge c_7 rfl rfl
      refine lv_iload_n hx hb dX2_nextStop_10 rfl (lv_at hl 2 rfl) ?_
      refine lv_iload_n hx hb dX2_nextStop_11 rfl (lv_at hl 0 rfl) ?_
      refine lv_iconst (v := 1) hx hb dX2_nextStop_12 (by decide) ?_
      refine lv_isub hx hb dX2_nextStop_13 ?_
      refine lv_topi (fun y21 hy21 => ?_)
      obtain rfl : (iI (l3_x2.toInt - 1)) = y21 := (hy21.trans (iI_sub2 (iI_of _) (by decide : (1 : Int32) = iI 1))).symm
      refine lv_ishr hx hb dX2_nextStop_14 ?_
      refine lv_topi (fun v22 hv22 => ?_)
      have b_v22 : v22 = p1 >>> ((iI (l3_x2.toInt - 1)) &&& 31) := hv22
      clear hv22
      refine lv_iconst (v := 1) hx hb dX2_nextStop_15 (by decide) ?_
      refine lv_iand hx hb dX2_nextStop_16 ?_
      refine lv_topi (fun v23 hv23 => ?_)
      have b_v23 : (bt p1 (l3_x2.toInt - 1).toNat = true ∧ v23.toInt = 1) ∨ (bt p1 (l3_x2.toInt - 1).toNat = false ∧ v23.toInt = 0) := by rw [hv23]; exact sh_and1 b_v22 (iI_t (Int.le_trans (by decide) (Int.sub_le_sub (b_l3_x2.1) (Int.le_refl _))) (Int.le_trans (Int.sub_le_sub (b_l3_x2.2) (Int.le_refl _)) (by decide))) (by omega) (by omega)
      clear hv23
      refine lv_if_eq (tgt := 43) hx hb dX2_nextStop_17 (by decide) (fun c_17 => ?_) (fun c_17 => ?_)
      · have t_17 : v23.toInt = 0 := toI_eq c_17 rfl (by decide : (0 : Int32).toInt = 0)
        refine lv_iinc (v := (iI (l3_x2.toInt + 1))) hx hb dX2_nextStop_43 hl (k := 0) rfl (iI_add2 (iI_of _) (by decide : (1 : Int32) = iI 1)) (by decide) rfl (fun ls (hl : lv_has ls _ ([(3, .int (iI (l3_x2.toInt + 1))), (0, .ref (hN 0)), (1, .int p1), (2, .int p2)])) => ?_)
        refine lv_goto (tgt := 2) hx hb dX2_nextStop_46 (by decide) ?_
        have hl : lv_has _ _ ([(3, .int (iI (l3_x2.toInt + 1))), (0, .ref (hN 0)), (1, .int p1), (2, .int p2)]) := lv_sub hl [0, 1, 2, 3] rfl
        exact ihx2 (iI (l3_x2.toInt + 1)) _ _ _ (iI_rng (Int.le_trans (by decide) (Int.add_le_add (b_l3_x2.1) (Int.le_refl _))) (by omega) (by decide) (by decide)) (show ∀ c : Nat, 1 ≤ c → (c : Int) < (iI (l3_x2.toInt + 1)).toInt → tuQ (tuTab fN_price) (tuTab fN_rest) p1.toInt.toNat p2.toInt.toNat c = false from tuSeen.step hNo (by omega) (by first | exact tuQ_no1 (by rw [show l3_x2.toInt.toNat - 1 = (l3_x2.toInt - 1).toNat from by omega, ← bt_tb (by omega) (by omega)]; exact bt_no b_v23 t_17) | exact tuQ_no2 (by rw [← f15_0, show tuTab fN_rest p1.toInt.toNat p2.toInt.toNat = v18.toInt from (by rw [b1_v18]; show (fN_rest (8 * p1.toInt.toNat + p2.toInt.toNat)).toInt = (fN_rest (iI (p1.toInt * 8 + p2.toInt)).toInt.toNat).toInt; rw [iI_t (by omega) (by omega), show 8 * p1.toInt.toNat + p2.toInt.toNat = (p1.toInt * 8 + p2.toInt).toNat from by omega])]; exact t_38)) (iI_t (by omega) (by omega))) (by have e9 : ((iI (l3_x2.toInt + 1))).toInt = (l3_x2.toInt + 1) := (iI_t (Int.le_trans (by decide) (Int.add_le_add (b_l3_x2.1) (Int.le_refl _))) (Int.le_trans (Int.add_le_add (b_l3_x2.2) (Int.le_refl _)) (by decide))); omega) hP hD hS hl
      · have t_17 : ¬ v23.toInt = 0 := toI_neq c_17 rfl (by decide : (0 : Int32).toInt = 0)
        refine lv_aload_n hx hb dX2_nextStop_20 rfl (lv_at hl 1 rfl) ?_
        refine lv_iload_n hx hb dX2_nextStop_21 rfl (lv_at hl 2 rfl) ?_
        refine lv_iload_n hx hb dX2_nextStop_22 rfl (lv_at hl 3 rfl) ?_
        refine lv_iload_n hx hb dX2_nextStop_23 rfl (lv_at hl 0 rfl) ?_
        have hFc := allFree hD hS hA
        refine va_calli (va_runV (As := [.int p1, .int p2, .int l3_x2]) (rest := []) ⟨hx, hb, hml, hown, hts⟩ (m_X2_costOver l dC dI hN aN kN iN_arcs fN_from fN_to fN_room fN_cost iN_reached fN_free fN_before fN_flow fN_length fN_stop iN_stops fN_price fN_rest p1 p2 l3_x2 (b_iN_arcs) b_fN_from b_fN_to b_fN_before b_fN_stop (b_iN_stops) (b_p1) (b_p2) (by first | exact b_l3_x2 | with_reducible assumption | exact ⟨by omega, by omega⟩ | assumption) ((by rw [show l3_x2.toInt.toNat - 1 = (l3_x2.toInt - 1).toNat from by omega, ← bt_tb (by omega) (by omega)]; exact bt_yes b_v23 t_17)) (hPb _ _ (by omega) (by omega)) (hRb _ _ (tuOff_lt (tuBitNz (j := l3_x2.toInt.toNat - 1) (by rw [show l3_x2.toInt.toNat - 1 = (l3_x2.toInt - 1).toNat from by omega, ← bt_tb (by omega) (by omega)]; exact bt_yes b_v23 t_17))) (by omega)) H.size) (cwV 3 hts gwsMX2_nextStop_0 rfl rfl rfl hd_yX2_costOver_RX2 (by decide +kernel)) (fz_pre (va_recv hK hP (ci := 2) (q0 := 0) rfl rfl) hP hK hD) rfl rfl hl.1 rfl (lv_room (Nat.le_of_ble_eq_true rfl)) dX2_nextStop_24 (by decide +kernel)) hS (fun q _ h => hFc q h) hFc (fun r24 u t9_ H locs ht hvm hw9 hB9 hz1 hk1 hS => ?_)
        have f24_0 := hw9
        try dsimp only at f24_0
        have hP : va_P (dC, dI) vwCl (WN hN aN kN iN_arcs fN_from fN_to fN_room fN_cost iN_reached fN_free fN_before fN_flow fN_length fN_stop iN_stops fN_price fN_rest) H := fz_P ht hB9.1
        have hD : va_D A (WN hN aN kN iN_arcs fN_from fN_to fN_room fN_cost iN_reached fN_free fN_before fN_flow fN_length fN_stop iN_stops fN_price fN_rest) := hB9.2.weaken (fun _ q _ h => hFc q.1 h)
        refine lv_aload_n hx hb dX2_nextStop_27 rfl (lv_at hl 1 rfl) ?_
        refine va_get (D := (dC, dI)) (ci := 2) (v := .ref (aN 10)) (C := RX2) (T := TX2) (N := 14) hx hb hts iwsMX2_nextStop_in2 hown hK hP 0 rfl rfl 13 (by decide) (hts (.fieldLink RX2 42 "OptimaWorks$NetDesk" "rest" "[I") (by decide +kernel)) (fun _ h9 => h9) rfl dX2_nextStop_28 ?_
        refine lv_iload_n hx hb dX2_nextStop_31 rfl (lv_at hl 2 rfl) ?_
        refine lv_bipush (v := 8) hx hb dX2_nextStop_32 (by decide) ?_
        refine lv_imul hx hb dX2_nextStop_34 ?_
        refine lv_topi (fun y25 hy25 => ?_)
        obtain rfl : (iI (p1.toInt * 8)) = y25 := (hy25.trans (iI_mul2 (iI_of _) (by decide : (8 : Int32) = iI 8))).symm
        refine lv_iload_n hx hb dX2_nextStop_35 rfl (lv_at hl 3 rfl) ?_
        refine lv_iadd hx hb dX2_nextStop_36 ?_
        refine lv_topi (fun y26 hy26 => ?_)
        obtain rfl : (iI ((p1.toInt * 8) + p2.toInt)) = y26 := (hy26.trans (iI_add2 rfl (iI_of _))).symm
        refine va_iald (cA := kN 10) (n := 1024) (f := fN_rest) hx hb hK hP 11 10 rfl rfl (vp_iI (Int.le_trans (by decide) (Int.add_le_add (Int.mul_le_mul_of_nonneg_right (b_p1.1) (by decide)) (b_p2.1))) (Int.lt_of_le_of_lt (Int.add_le_add (Int.mul_le_mul_of_nonneg_right (b_p1.2) (by decide)) (b_p2.2)) (by decide)) (by decide)) dX2_nextStop_37 ?_
        refine lv_topi (fun v27 hv27 => ?_)
        have b_v27 : v27.toInt ≤ v27.toInt := by rw [hv27]; exact Int.le_refl _
        have b1_v27 : v27 = fN_rest ((iI ((p1.toInt * 8) + p2.toInt))).toNatClampNeg := hv27
        clear hv27
        refine lv_icmp_ne (tgt := 43) hx hb dX2_nextStop_38 (by decide) (fun c_38 => ?_) (fun c_38 => ?_)
        · have t_38 : r24.toInt ≠ v27.toInt := toI_ne c_38 rfl rfl
          refine lv_iinc (v := (iI (l3_x2.toInt + 1))) hx hb dX2_nextStop_43 hl (k := 0) rfl (iI_add2 (iI_of _) (by decide : (1 : Int32) = iI 1)) (by decide) rfl (fun ls (hl : lv_has ls _ ([(3, .int (iI (l3_x2.toInt + 1))), (0, .ref (hN 0)), (1, .int p1), (2, .int p2)])) => ?_)
          refine lv_goto (tgt := 2) hx hb dX2_nextStop_46 (by decide) ?_
          have hl : lv_has _ _ ([(3, .int (iI (l3_x2.toInt + 1))), (0, .ref (hN 0)), (1, .int p1), (2, .int p2)]) := lv_sub hl [0, 1, 2, 3] rfl
          exact ihx2 (iI (l3_x2.toInt + 1)) _ _ _ (iI_rng (Int.le_trans (by decide) (Int.add_le_add (b_l3_x2.1) (Int.le_refl _))) (by omega) (by decide) (by decide)) (show ∀ c : Nat, 1 ≤ c → (c : Int) < (iI (l3_x2.toInt + 1)).toInt → tuQ (tuTab fN_price) (tuTab fN_rest) p1.toInt.toNat p2.toInt.toNat c = false from tuSeen.step hNo (by omega) (by first | exact tuQ_no1 (by rw [show l3_x2.toInt.toNat - 1 = (l3_x2.toInt - 1).toNat from by omega, ← bt_tb (by omega) (by omega)]; exact bt_no b_v23 t_17) | exact tuQ_no2 (by rw [← f24_0, show tuTab fN_rest p1.toInt.toNat p2.toInt.toNat = v27.toInt from (by rw [b1_v27]; show (fN_rest (8 * p1.toInt.toNat + p2.toInt.toNat)).toInt = (fN_rest (iI (p1.toInt * 8 + p2.toInt)).toInt.toNat).toInt; rw [iI_t (by omega) (by omega), show 8 * p1.toInt.toNat + p2.toInt.toNat = (p1.toInt * 8 + p2.toInt).toNat from by omega])]; exact t_38)) (iI_t (by omega) (by omega))) (by have e9 : ((iI (l3_x2.toInt + 1))).toInt = (l3_x2.toInt + 1) := (iI_t (Int.le_trans (by decide) (Int.add_le_add (b_l3_x2.1) (Int.le_refl _))) (Int.le_trans (Int.add_le_add (b_l3_x2.2) (Int.le_refl _)) (by decide))); omega) hP hD hS hl
        · have t_38 : r24.toInt = v27.toInt := toI_nne c_38 rfl rfl
          refine lv_iload_n hx hb dX2_nextStop_41 rfl (lv_at hl 0 rfl) ?_
          refine W.widen (k := 0) (n := 0) (by decide +kernel) (by decide +kernel) ?_
          exact W.iret (v := l3_x2) hx hb hr (fun t9_ ht hW => ⟨⟨l3_x2, (), rfl, ⟨(by first | exact b_l3_x2 | with_reducible assumption | exact ⟨by omega, by omega⟩ | assumption), (by (try dsimp only); exact (fun _ => ⟨by omega, by omega, tuQ_yes (by rw [show l3_x2.toInt.toNat - 1 = (l3_x2.toInt - 1).toNat from by omega, ← bt_tb (by omega) (by omega)]; exact bt_yes b_v23 t_17) (by rw [← f24_0, show tuTab fN_rest p1.toInt.toNat p2.toInt.toNat = v27.toInt from (by rw [b1_v27]; show (fN_rest (8 * p1.toInt.toNat + p2.toInt.toNat)).toInt = (fN_rest (iI (p1.toInt * 8 + p2.toInt)).toInt.toNat).toInt; rw [iI_t (by omega) (by omega), show 8 * p1.toInt.toNat + p2.toInt.toNat = (p1.toInt * 8 + p2.toInt).toNat from by omega])]; exact t_38), hNo⟩))⟩, by rw [ht]; exact hP, hD⟩, hS.F ht⟩) hS.2.2 dX2_nextStop_42
theorem dX2_round_0 : decode cX2_round 0 = .ok (.aload_n 0, 1) := dk_42 (by decide +kernel)
theorem dX2_round_1 : decode cX2_round 1 = .ok (.iload_n 1, 1) := dk_27 (by decide +kernel)
theorem dX2_round_2 : decode cX2_round 2 = .ok (.invokevirtual 92, 3) := dk_182 (by decide +kernel)
theorem dX2_round_5 : decode cX2_round 5 = .ok (.aload_n 0, 1) := dk_42 (by decide +kernel)
theorem dX2_round_6 : decode cX2_round 6 = .ok (.invokevirtual 95, 3) := dk_182 (by decide +kernel)
theorem dX2_round_9 : decode cX2_round 9 = .ok (.iconst 1, 1) := dk_4 (by decide +kernel)
theorem dX2_round_10 : decode cX2_round 10 = .ok (.aload_n 0, 1) := dk_42 (by decide +kernel)
theorem dX2_round_11 : decode cX2_round 11 = .ok (.getfield 98, 3) := dk_180 (by decide +kernel)
theorem dX2_round_14 : decode cX2_round 14 = .ok (.iconst 1, 1) := dk_4 (by decide +kernel)
theorem dX2_round_15 : decode cX2_round 15 = .ok (.isub, 1) := dk_100 (by decide +kernel)
theorem dX2_round_16 : decode cX2_round 16 = .ok (.ishl, 1) := dk_120 (by decide +kernel)
theorem dX2_round_17 : decode cX2_round 17 = .ok (.iconst 1, 1) := dk_4 (by decide +kernel)
theorem dX2_round_18 : decode cX2_round 18 = .ok (.isub, 1) := dk_100 (by decide +kernel)
theorem dX2_round_19 : decode cX2_round 19 = .ok (.istore_n 3, 1) := dk_62 (by decide +kernel)
theorem dX2_round_20 : decode cX2_round 20 = .ok (.iconst 0, 1) := dk_3 (by decide +kernel)
theorem dX2_round_21 : decode cX2_round 21 = .ok (.istore 4, 2) := dk_54 (by decide +kernel)
theorem dX2_round_23 : decode cX2_round 23 = .ok (.iload 4, 2) := dk_21 (by decide +kernel)
theorem dX2_round_25 : decode cX2_round 25 = .ok (.iload_n 3, 1) := dk_29 (by decide +kernel)
theorem dX2_round_26 : decode cX2_round 26 = .ok (.if_icmp .gt 48, 3) := dk_163 (by decide +kernel)
theorem dX2_round_29 : decode cX2_round 29 = .ok (.iconst 0, 1) := dk_3 (by decide +kernel)
theorem dX2_round_30 : decode cX2_round 30 = .ok (.istore 5, 2) := dk_54 (by decide +kernel)
theorem dX2_round_32 : decode cX2_round 32 = .ok (.iload 5, 2) := dk_21 (by decide +kernel)
theorem dX2_round_34 : decode cX2_round 34 = .ok (.aload_n 0, 1) := dk_42 (by decide +kernel)
theorem dX2_round_35 : decode cX2_round 35 = .ok (.getfield 98, 3) := dk_180 (by decide +kernel)
theorem dX2_round_38 : decode cX2_round 38 = .ok (.if_icmp .ge 30, 3) := dk_162 (by decide +kernel)
theorem dX2_round_41 : decode cX2_round 41 = .ok (.aload_n 0, 1) := dk_42 (by decide +kernel)
theorem dX2_round_42 : decode cX2_round 42 = .ok (.getfield 42, 3) := dk_180 (by decide +kernel)
theorem dX2_round_45 : decode cX2_round 45 = .ok (.iload 4, 2) := dk_21 (by decide +kernel)
theorem dX2_round_47 : decode cX2_round 47 = .ok (.bipush 8, 2) := dk_16 (by decide +kernel)
theorem dX2_round_49 : decode cX2_round 49 = .ok (.imul, 1) := dk_104 (by decide +kernel)
theorem dX2_round_50 : decode cX2_round 50 = .ok (.iload 5, 2) := dk_21 (by decide +kernel)
theorem dX2_round_52 : decode cX2_round 52 = .ok (.iadd, 1) := dk_96 (by decide +kernel)
theorem dX2_round_53 : decode cX2_round 53 = .ok (.aload_n 0, 1) := dk_42 (by decide +kernel)
theorem dX2_round_54 : decode cX2_round 54 = .ok (.iload 4, 2) := dk_21 (by decide +kernel)
theorem dX2_round_56 : decode cX2_round 56 = .ok (.iload 5, 2) := dk_21 (by decide +kernel)
theorem dX2_round_58 : decode cX2_round 58 = .ok (.invokevirtual 101, 3) := dk_182 (by decide +kernel)
theorem dX2_round_61 : decode cX2_round 61 = .ok (.iastore, 1) := dk_79 (by decide +kernel)
theorem dX2_round_62 : decode cX2_round 62 = .ok (.iinc 5 1, 3) := dk_132 (by decide +kernel)
theorem dX2_round_65 : decode cX2_round 65 = .ok (.goto (-33), 3) := dk_167 (by decide +kernel)
theorem dX2_round_68 : decode cX2_round 68 = .ok (.iinc 4 1, 3) := dk_132 (by decide +kernel)
theorem dX2_round_71 : decode cX2_round 71 = .ok (.goto (-48), 3) := dk_167 (by decide +kernel)
theorem dX2_round_74 : decode cX2_round 74 = .ok (.aload_n 0, 1) := dk_42 (by decide +kernel)
theorem dX2_round_75 : decode cX2_round 75 = .ok (.getfield 42, 3) := dk_180 (by decide +kernel)
theorem dX2_round_78 : decode cX2_round 78 = .ok (.iload_n 3, 1) := dk_29 (by decide +kernel)
theorem dX2_round_79 : decode cX2_round 79 = .ok (.bipush 8, 2) := dk_16 (by decide +kernel)
theorem dX2_round_81 : decode cX2_round 81 = .ok (.imul, 1) := dk_104 (by decide +kernel)
theorem dX2_round_82 : decode cX2_round 82 = .ok (.iaload, 1) := dk_46 (by decide +kernel)
theorem dX2_round_83 : decode cX2_round 83 = .ok (.istore 4, 2) := dk_54 (by decide +kernel)
theorem dX2_round_85 : decode cX2_round 85 = .ok (.iload 4, 2) := dk_21 (by decide +kernel)
theorem dX2_round_87 : decode cX2_round 87 = .ok (.ldc 60, 2) := dk_18 (by decide +kernel)
theorem dX2_round_89 : decode cX2_round 89 = .ok (.if_icmp .ge 9, 3) := dk_162 (by decide +kernel)
theorem dX2_round_92 : decode cX2_round 92 = .ok (.iload_n 2, 1) := dk_28 (by decide +kernel)
theorem dX2_round_93 : decode cX2_round 93 = .ok (.bipush (-2), 2) := dk_16 (by decide +kernel)
theorem dX2_round_95 : decode cX2_round 95 = .ok (.if_icmp .ne 17, 3) := dk_160 (by decide +kernel)
theorem dX2_round_98 : decode cX2_round 98 = .ok (.iload 4, 2) := dk_21 (by decide +kernel)
theorem dX2_round_100 : decode cX2_round 100 = .ok (.ldc 60, 2) := dk_18 (by decide +kernel)
theorem dX2_round_102 : decode cX2_round 102 = .ok (.if_icmp .lt 7, 3) := dk_161 (by decide +kernel)
theorem dX2_round_105 : decode cX2_round 105 = .ok (.iconst (-1), 1) := dk_2 (by decide +kernel)
theorem dX2_round_106 : decode cX2_round 106 = .ok (.goto 5, 3) := dk_167 (by decide +kernel)
theorem dX2_round_109 : decode cX2_round 109 = .ok (.iload 4, 2) := dk_21 (by decide +kernel)
theorem dX2_round_111 : decode cX2_round 111 = .ok (.ireturn, 1) := dk_172 (by decide +kernel)
theorem dX2_round_112 : decode cX2_round 112 = .ok (.iload_n 2, 1) := dk_28 (by decide +kernel)
theorem dX2_round_113 : decode cX2_round 113 = .ok (.ifCond .lt 11, 3) := dk_155 (by decide +kernel)
theorem dX2_round_116 : decode cX2_round 116 = .ok (.iload_n 2, 1) := dk_28 (by decide +kernel)
theorem dX2_round_117 : decode cX2_round 117 = .ok (.aload_n 0, 1) := dk_42 (by decide +kernel)
theorem dX2_round_118 : decode cX2_round 118 = .ok (.getfield 98, 3) := dk_180 (by decide +kernel)
theorem dX2_round_121 : decode cX2_round 121 = .ok (.if_icmp .lt 5, 3) := dk_161 (by decide +kernel)
theorem dX2_round_124 : decode cX2_round 124 = .ok (.iconst (-1), 1) := dk_2 (by decide +kernel)
theorem dX2_round_125 : decode cX2_round 125 = .ok (.ireturn, 1) := dk_172 (by decide +kernel)
theorem dX2_round_126 : decode cX2_round 126 = .ok (.iload_n 3, 1) := dk_29 (by decide +kernel)
theorem dX2_round_127 : decode cX2_round 127 = .ok (.istore 5, 2) := dk_54 (by decide +kernel)
theorem dX2_round_129 : decode cX2_round 129 = .ok (.iconst 0, 1) := dk_3 (by decide +kernel)
theorem dX2_round_130 : decode cX2_round 130 = .ok (.istore 6, 2) := dk_54 (by decide +kernel)
theorem dX2_round_132 : decode cX2_round 132 = .ok (.iconst 0, 1) := dk_3 (by decide +kernel)
theorem dX2_round_133 : decode cX2_round 133 = .ok (.istore 7, 2) := dk_54 (by decide +kernel)
theorem dX2_round_135 : decode cX2_round 135 = .ok (.iload 7, 2) := dk_21 (by decide +kernel)
theorem dX2_round_137 : decode cX2_round 137 = .ok (.iload_n 2, 1) := dk_28 (by decide +kernel)
theorem dX2_round_138 : decode cX2_round 138 = .ok (.if_icmp .ge 32, 3) := dk_162 (by decide +kernel)
theorem dX2_round_141 : decode cX2_round 141 = .ok (.aload_n 0, 1) := dk_42 (by decide +kernel)
theorem dX2_round_142 : decode cX2_round 142 = .ok (.iload 5, 2) := dk_21 (by decide +kernel)
theorem dX2_round_144 : decode cX2_round 144 = .ok (.iload 6, 2) := dk_21 (by decide +kernel)
theorem dX2_round_146 : decode cX2_round 146 = .ok (.invokevirtual 104, 3) := dk_182 (by decide +kernel)
theorem dX2_round_149 : decode cX2_round 149 = .ok (.istore 6, 2) := dk_54 (by decide +kernel)
theorem dX2_round_151 : decode cX2_round 151 = .ok (.iload 5, 2) := dk_21 (by decide +kernel)
theorem dX2_round_153 : decode cX2_round 153 = .ok (.iconst 1, 1) := dk_4 (by decide +kernel)
theorem dX2_round_154 : decode cX2_round 154 = .ok (.iload 6, 2) := dk_21 (by decide +kernel)
theorem dX2_round_156 : decode cX2_round 156 = .ok (.iconst 1, 1) := dk_4 (by decide +kernel)
theorem dX2_round_157 : decode cX2_round 157 = .ok (.isub, 1) := dk_100 (by decide +kernel)
theorem dX2_round_158 : decode cX2_round 158 = .ok (.ishl, 1) := dk_120 (by decide +kernel)
theorem dX2_round_159 : decode cX2_round 159 = .ok (.iconst (-1), 1) := dk_2 (by decide +kernel)
theorem dX2_round_160 : decode cX2_round 160 = .ok (.ixor, 1) := dk_130 (by decide +kernel)
theorem dX2_round_161 : decode cX2_round 161 = .ok (.iand, 1) := dk_126 (by decide +kernel)
theorem dX2_round_162 : decode cX2_round 162 = .ok (.istore 5, 2) := dk_54 (by decide +kernel)
theorem dX2_round_164 : decode cX2_round 164 = .ok (.iinc 7 1, 3) := dk_132 (by decide +kernel)
theorem dX2_round_167 : decode cX2_round 167 = .ok (.goto (-32), 3) := dk_167 (by decide +kernel)
theorem dX2_round_170 : decode cX2_round 170 = .ok (.aload_n 0, 1) := dk_42 (by decide +kernel)
theorem dX2_round_171 : decode cX2_round 171 = .ok (.getfield 36, 3) := dk_180 (by decide +kernel)
theorem dX2_round_174 : decode cX2_round 174 = .ok (.iload 6, 2) := dk_21 (by decide +kernel)
theorem dX2_round_176 : decode cX2_round 176 = .ok (.iaload, 1) := dk_46 (by decide +kernel)
theorem dX2_round_177 : decode cX2_round 177 = .ok (.ireturn, 1) := dk_172 (by decide +kernel)
def wsMX2_round : List Cond := .code yX2_round cX2_round 8 (some .int) :: ([.fieldLink RX2 98 "OptimaWorks$NetDesk" "stops" "I", .fieldLink RX2 42 "OptimaWorks$NetDesk" "rest" "[I", .constant RX2 60 536870912, .fieldLink RX2 36 "OptimaWorks$NetDesk" "stop" "[I"] ++ wsX20 ++ (wsV RX2 92 RX2 yX2_takeStops wsMX2_takeStops) ++ (wsV RX2 95 RX2 yX2_takePrices wsMX2_takePrices) ++ (wsV RX2 101 RX2 yX2_restFrom wsMX2_restFrom) ++ (wsV RX2 104 RX2 yX2_nextStop wsMX2_nextStop))
theorem iwsMX2_round_in2 : ∀ w ∈ wsX20, w ∈ wsMX2_round := fun _ h => List.mem_cons_of_mem _ (List.mem_append_left _ (List.mem_append_left _ (List.mem_append_left _ (List.mem_append_left _ (List.mem_append_right _ h)))))
theorem gwsMX2_round_0 : GoodIn wsMX2_round (wsV RX2 92 RX2 yX2_takeStops wsMX2_takeStops) := goodIn_sub (fun _ h => List.mem_cons_of_mem _ (List.mem_append_left _ (List.mem_append_left _ (List.mem_append_left _ (List.mem_append_right _ h))))) (gdV (by decide +kernel) gdwsMX2_takeStops)
theorem gwsMX2_round_1 : GoodIn wsMX2_round (wsV RX2 95 RX2 yX2_takePrices wsMX2_takePrices) := goodIn_sub (fun _ h => List.mem_cons_of_mem _ (List.mem_append_left _ (List.mem_append_left _ (List.mem_append_right _ h)))) (gdV (by decide +kernel) gdwsMX2_takePrices)
theorem gwsMX2_round_2 : GoodIn wsMX2_round (wsV RX2 101 RX2 yX2_restFrom wsMX2_restFrom) := goodIn_sub (fun _ h => List.mem_cons_of_mem _ (List.mem_append_left _ (List.mem_append_right _ h))) (gdV (by decide +kernel) gdwsMX2_restFrom)
theorem gwsMX2_round_3 : GoodIn wsMX2_round (wsV RX2 104 RX2 yX2_nextStop wsMX2_nextStop) := goodIn_sub (fun _ h => List.mem_cons_of_mem _ (List.mem_append_right _ h)) (gdV (by decide +kernel) gdwsMX2_nextStop)
theorem gdwsMX2_round : wsMX2_round.all goodWord = true := gdC rfl (gdA (gdA (gdA (gdA (gdA (by decide +kernel : ([.fieldLink RX2 98 "OptimaWorks$NetDesk" "stops" "I", .fieldLink RX2 42 "OptimaWorks$NetDesk" "rest" "[I", .constant RX2 60 536870912, .fieldLink RX2 36 "OptimaWorks$NetDesk" "stop" "[I"] : List Cond).all goodWord = true) gdwsX20) (gdV (by decide +kernel) gdwsMX2_takeStops)) (gdV (by decide +kernel) gdwsMX2_takePrices)) (gdV (by decide +kernel) gdwsMX2_restFrom)) (gdV (by decide +kernel) gdwsMX2_nextStop))
set_option maxHeartbeats 4000000 in
set_option maxRecDepth 100000 in
/-- a tour -/
theorem m_X2_round (l : Launch) (dC : Nat → ClassId) (dI : Nat → Nat → Nat) (hN : Nat → Nat) (aN : Nat → Nat) (kN : Nat → ClassId) (iN_arcs : Int32) (fN_from : Nat → Int32) (fN_to : Nat → Int32) (fN_room : Nat → Int32) (fN_cost : Nat → Int32) (iN_reached : Int32) (fN_free : Nat → Int32) (fN_before : Nat → Int32) (fN_flow : Nat → Int32) (fN_length : Nat → Int32) (fN_stop : Nat → Int32) (iN_stops : Int32) (fN_price : Nat → Int32) (fN_rest : Nat → Int32) (p1 : Int32) (p2 : Int32) (b_iN_arcs : 0 ≤ iN_arcs.toInt ∧ iN_arcs.toInt ≤ 40) (b_fN_from : ∀ q : Nat, 0 ≤ (fN_from q).toInt ∧ (fN_from q).toInt ≤ 11) (b_fN_to : ∀ q : Nat, 0 ≤ (fN_to q).toInt ∧ (fN_to q).toInt ≤ 11) (b_fN_before : ∀ q : Nat, 0 ≤ (fN_before q).toInt ∧ (fN_before q).toInt ≤ 79) (b_fN_stop : ∀ q : Nat, 0 ≤ (fN_stop q).toInt ∧ (fN_stop q).toInt ≤ 11) (b_iN_stops : 0 ≤ iN_stops.toInt ∧ iN_stops.toInt ≤ 8) (b_p1 : 1 ≤ p1.toInt ∧ p1.toInt ≤ 4095) (hVal : tVal (iN_arcs.toInt, fN_from, fN_to, fN_room, fN_cost)) (h28 : 2 ≤ (cntB (bI p1) 12) ∧ (cntB (bI p1) 12) ≤ 8) (sz : Nat) : Met l yX2_round wsMX2_round ({ frames := 3, cells := 0, slots := 0, locals := 60 }) (va_Pc [.ref (hN 0), .int p1, .int p2] (fun U => U.heap.size = sz ∧ va_P (dC, dI) vwCl (WN hN aN kN iN_arcs fN_from fN_to fN_room fN_cost iN_reached fN_free fN_before fN_flow fN_length fN_stop iN_stops fN_price fN_rest) U.heap ∧ va_K (dC, dI) vwCl (tN kN) U ∧ va_D (fun _ => True) (WN hN aN kN iN_arcs fN_from fN_to fN_room fN_cost iN_reached fN_free fN_before fN_flow fN_length fN_stop iN_stops fN_price fN_rest))) (va_Qi (fun (r : Int32) (u : (Nat → Int32) × (Int32) × (Nat → Int32) × (Nat → Int32)) => (∀ q : Nat, 0 ≤ ((u.1) q).toInt ∧ ((u.1) q).toInt ≤ 11) ∧ (0 ≤ (u.2.1).toInt ∧ (u.2.1).toInt ≤ 8) ∧ (tuA (iN_arcs.toInt, fN_from, fN_to, fN_room, fN_cost) (bI p1) p2.toInt r.toInt)) (fun (u : (Nat → Int32) × (Int32) × (Nat → Int32) × (Nat → Int32)) t => va_P (dC, dI) vwCl (WN hN aN kN iN_arcs fN_from fN_to fN_room fN_cost iN_reached fN_free fN_before fN_flow fN_length (u.1) (u.2.1) (u.2.2.1) (u.2.2.2)) t.heap ∧ va_D (va_A (WN hN aN kN iN_arcs fN_from fN_to fN_room fN_cost iN_reached fN_free fN_before fN_flow fN_length fN_stop iN_stops fN_price fN_rest) sz) (WN hN aN kN iN_arcs fN_from fN_to fN_room fN_cost iN_reached fN_free fN_before fN_flow fN_length (u.1) (u.2.1) (u.2.2.1) (u.2.2.2))) (va_A (WN hN aN kN iN_arcs fN_from fN_to fN_room fN_cost iN_reached fN_free fN_before fN_flow fN_length fN_stop iN_stops fN_price fN_rest) sz)) 0 0 (va_A (WN hN aN kN iN_arcs fN_from fN_to fN_room fN_cost iN_reached fN_free fN_before fN_flow fN_length fN_stop iN_stops fN_price fN_rest) sz) := by
  refine Met.ofW (cc := cX2_round) (maxL := 8) (ret := (some .int)) (by decide) rfl ?_
  intro p e s m args below meth c s₁ B hml hv
  obtain ⟨rfl, hsz, hP, hK, hD0⟩ := hv
  have hx := B.exec
  have hb := B.bytes
  have hr := B.returns
  have hts := atoms_spec (ws := wsMX2_round) B.pre
  have hown : s.vm.findClass RX2 = some m.cls := findClass_of_methodNamed B.named
  have hlocks := B.notSynchronized
  subst hsz
  have hD := hD0.self (sz := s.heap.size)
  generalize hAe : va_A (WN hN aN kN iN_arcs fN_from fN_to fN_room fN_cost iN_reached fN_free fN_before fN_flow fN_length fN_stop iN_stops fN_price fN_rest) s.heap.size = A at hD ⊢
  have hA : ∀ q : Nat, s.heap.size ≤ q → A q := fun q h => by rw [← hAe]; exact Or.inr h
  have hS : va_S A s.heap s.heap [] := va_S.rf
  have hl := lv_entry ([.ref (hN 0), .int p1, .int p2]) (n := 8) (Nat.le_of_ble_eq_true rfl)
  rw [lg_entry_eq]
  generalize (lg_sl ([.ref (hN 0), .int p1, .int p2]) ++ List.replicate (8 - (lg_sl ([.ref (hN 0), .int p1, .int p2])).length) Slot.unset).toArray = ls at hl ⊢
  have hl : lv_has ls 8 [(0, .ref (hN 0)), (1, .int p1), (2, .int p2)] := hl
  refine lv_aload_n hx hb dX2_round_0 rfl (lv_at hl 0 rfl) ?_
  refine lv_iload_n hx hb dX2_round_1 rfl (lv_at hl 1 rfl) ?_
  have hFc := allFree hD hS hA
  refine va_callv (va_runV (As := [.int p1]) (rest := []) ⟨hx, hb, hml, hown, hts⟩ (m_X2_takeStops l dC dI hN aN kN iN_arcs fN_from fN_to fN_room fN_cost iN_reached fN_free fN_before fN_flow fN_length fN_stop iN_stops fN_price fN_rest p1 (b_iN_arcs) b_fN_from b_fN_to b_fN_before b_fN_stop (b_iN_stops) (b_p1) (h28.2) s.heap.size) (cwV 1 hts gwsMX2_round_0 rfl rfl rfl hd_yX2_takeStops_RX2 (by decide +kernel)) (fz_pre (va_recv hK hP (ci := 2) (q0 := 0) rfl rfl) hP hK hD) rfl rfl hl.1 rfl (lv_room (Nat.le_of_ble_eq_true rfl)) dX2_round_2 (by decide +kernel)) hS (fun q _ h => hFc q h) hFc (fun u t9_ H locs ht hvm hw9 hB9 hz1 hk1 hS => ?_)
  revert u hw9 hB9
  refine fz_p2 ?_
  intro fN_stop_1 iN_stops_1 hw9 hB9
  try dsimp only at hw9 hB9
  revert hw9
  refine fz_a4 ?_
  intro b_fN_stop_1 b_iN_stops_1 f1_0 f1_1
  have hP : va_P (dC, dI) vwCl (WN hN aN kN iN_arcs fN_from fN_to fN_room fN_cost iN_reached fN_free fN_before fN_flow fN_length fN_stop_1 iN_stops_1 fN_price fN_rest) H := fz_P ht hB9.1
  have hD : va_D A (WN hN aN kN iN_arcs fN_from fN_to fN_room fN_cost iN_reached fN_free fN_before fN_flow fN_length fN_stop_1 iN_stops_1 fN_price fN_rest) := hB9.2.weaken (fun _ q _ h => hFc q.1 h)
  have hSt1 := f1_0
  have hSt2 := f1_1
  have hSs := hSt2.1
  refine lv_aload_n hx hb dX2_round_5 rfl (lv_at hl 0 rfl) ?_
  have hFc := allFree hD hS hA
  refine va_callv (va_runV (As := []) (rest := []) ⟨hx, hb, hml, hown, hts⟩ (m_X2_takePrices l dC dI hN aN kN iN_arcs fN_from fN_to fN_room fN_cost iN_reached fN_free fN_before fN_flow fN_length fN_stop_1 iN_stops_1 fN_price fN_rest (b_iN_arcs) b_fN_from b_fN_to b_fN_before b_fN_stop_1 (b_iN_stops_1) H.size) (cwV 0 hts gwsMX2_round_1 rfl rfl rfl hd_yX2_takePrices_RX2 (by decide +kernel)) (fz_pre (va_recv hK hP (ci := 2) (q0 := 0) rfl rfl) hP hK hD) rfl rfl hl.1 rfl (lv_room (Nat.le_of_ble_eq_true rfl)) dX2_round_6 (by decide +kernel)) hS (fun q _ h => hFc q h) hFc (fun fN_price_2 t9_ H locs ht hvm hw9 hB9 hz1 hk1 hS => ?_)
  have f2_0 := hw9
  try dsimp only at f2_0
  have hP : va_P (dC, dI) vwCl (WN hN aN kN iN_arcs fN_from fN_to fN_room fN_cost iN_reached fN_free fN_before fN_flow fN_length fN_stop_1 iN_stops_1 fN_price_2 fN_rest) H := fz_P ht hB9.1
  have hD : va_D A (WN hN aN kN iN_arcs fN_from fN_to fN_room fN_cost iN_reached fN_free fN_before fN_flow fN_length fN_stop_1 iN_stops_1 fN_price_2 fN_rest) := hB9.2.weaken (fun _ q _ h => hFc q.1 h)
  have hPr0 := f2_0
  have eN : iN_stops_1.toInt.toNat = (cntB (bI p1) 12) := by omega
  have hPr : ∀ x y, x < (cntB (bI p1) 12) → y < (cntB (bI p1) 12) → tuTab fN_price_2 x y = (fun x y => tuL (iN_arcs.toInt, fN_from, fN_to, fN_room, fN_cost) (tuK (bI p1) x) (tuK (bI p1) y) (iN_arcs.toInt, fN_from, fN_to, fN_room, fN_cost).1.toNat) x y := fun x y hx hy => (hPr0 x y (by omega) (by omega)).trans (by rw [hSt2.2 x hx, hSt2.2 y hy]; rfl)
  have hPP : tuP (fun x y => tuL (iN_arcs.toInt, fN_from, fN_to, fN_room, fN_cost) (tuK (bI p1) x) (tuK (bI p1) y) (iN_arcs.toInt, fN_from, fN_to, fN_room, fN_cost).1.toNat) := tuPd hVal (by (try dsimp only); omega) (bI p1)
  have hPb9 : ∀ x y, x < (cntB (bI p1) 12) → y < (cntB (bI p1) 12) → 0 ≤ tuTab fN_price_2 x y ∧ tuTab fN_price_2 x y ≤ 536870912 := fun x y hx hy => by rw [hPr x y hx hy]; (have h9 := hPP x y); unfold tuR at h9; omega
  refine lv_iconst (v := 1) hx hb dX2_round_9 (by decide) ?_
  refine lv_aload_n hx hb dX2_round_10 rfl (lv_at hl 0 rfl) ?_
  refine va_get (D := (dC, dI)) (ci := 2) (v := .int iN_stops_1) (C := RX2) (T := TX2) (N := 14) hx hb hts iwsMX2_round_in2 hown hK hP 0 rfl rfl 11 (by decide) (hts (.fieldLink RX2 98 "OptimaWorks$NetDesk" "stops" "I") (by decide +kernel)) (fun _ h9 => h9) rfl dX2_round_11 ?_
  refine lv_iconst (v := 1) hx hb dX2_round_14 (by decide) ?_
  refine lv_isub hx hb dX2_round_15 ?_
  refine lv_topi (fun y3 hy3 => ?_)
  obtain rfl : (iI (iN_stops_1.toInt - 1)) = y3 := (hy3.trans (iI_sub2 (iI_of _) (by decide : (1 : Int32) = iI 1))).symm
  refine lv_ishl hx hb dX2_round_16 ?_
  refine lv_topi (fun v4 hv4 => ?_)
  have b_v4 : 1 ≤ v4.toInt ∧ v4.toInt ≤ 128 := by rw [hv4]; exact shl1_t (k := 7) (iI_t (Int.le_trans (by decide) (Int.sub_le_sub (b_iN_stops_1.1) (Int.le_refl _))) (Int.le_trans (Int.sub_le_sub (b_iN_stops_1.2) (Int.le_refl _)) (by decide))) (by omega) (by omega) (by decide)
  have b1_v4 : v4.toInt = ((2 ^ ((cntB (bI p1) 12) - 1) : Nat) : Int) := by rw [hv4]; exact tuShl (by rw [iI_t (by omega) (by omega)]; omega) (by omega)
  clear hv4
  refine lv_iconst (v := 1) hx hb dX2_round_17 (by decide) ?_
  refine lv_isub hx hb dX2_round_18 ?_
  refine lv_topi (fun y5 hy5 => ?_)
  obtain rfl : (iI (v4.toInt - 1)) = y5 := (hy5.trans (iI_sub2 (iI_of _) (by decide : (1 : Int32) = iI 1))).symm
  refine lv_istore_n hx hb dX2_round_19 rfl hl (by decide) rfl (fun ls (hl : lv_has ls _ ([(3, .int (iI (v4.toInt - 1))), (0, .ref (hN 0)), (1, .int p1), (2, .int p2)])) => ?_)
  refine lv_iconst (v := 0) hx hb dX2_round_20 (by decide) ?_
  refine lv_istore hx hb dX2_round_21 hl (by decide) rfl (fun ls (hl : lv_has ls _ ([(4, .int 0), (3, .int (iI (v4.toInt - 1))), (0, .ref (hN 0)), (1, .int p1), (2, .int p2)])) => ?_)
  have hl : lv_has _ _ ([(4, .int 0), (3, .int (iI (v4.toInt - 1))), (0, .ref (hN 0)), (1, .int p1), (2, .int p2)]) := lv_sub hl [0, 1, 2, 3, 4] rfl
  refine (fun (loop : ∀ (n9 : Nat) (fN_rest_x23 : Nat → Int32) (l4_x23 : Int32) (H : Heap) (locs : List Loc) (ls : Array Slot), (0 ≤ l4_x23.toInt ∧ l4_x23.toInt ≤ 128) → (tuTb (fun x y => tuL (iN_arcs.toInt, fN_from, fN_to, fN_room, fN_cost) (tuK (bI p1) x) (tuK (bI p1) y) (iN_arcs.toInt, fN_from, fN_to, fN_room, fN_cost).1.toNat) (cntB (bI p1) 12) fN_rest_x23 l4_x23.toInt.toNat 0) → (128 - l4_x23.toInt < ((n9 : Nat) : Int)) → va_P (dC, dI) vwCl (WN hN aN kN iN_arcs fN_from fN_to fN_room fN_cost iN_reached fN_free fN_before fN_flow fN_length fN_stop_1 iN_stops_1 fN_price_2 fN_rest_x23) H → va_D A (WN hN aN kN iN_arcs fN_from fN_to fN_room fN_cost iN_reached fN_free fN_before fN_flow fN_length fN_stop_1 iN_stops_1 fN_price_2 fN_rest_x23) → va_S A s.heap H locs → lv_has ls 8 [(4, .int l4_x23), (3, .int (iI (v4.toInt - 1))), (0, .ref (hN 0)), (1, .int p1), (2, .int p2)] → W p l e _ s m _ below meth c H locs 0 0 _ (F0 m 23 ls [])) => loop (129) fN_rest 0 _ _ _ (show 0 ≤ (0 : Int32).toInt ∧ (0 : Int32).toInt ≤ 128 from by decide) (show tuTb (fun x y => tuL (iN_arcs.toInt, fN_from, fN_to, fN_room, fN_cost) (tuK (bI p1) x) (tuK (bI p1) y) (iN_arcs.toInt, fN_from, fN_to, fN_room, fN_cost).1.toNat) (cntB (bI p1) 12) fN_rest (0 : Int32).toInt.toNat 0 from tuTb.start (by decide) rfl) ((by have e9 : (0 : Int32).toInt = 0 := (by decide : (0 : Int32).toInt = 0); omega)) hP hD hS hl) ?_
  intro n9
  induction n9 with
  | zero => intro fN_rest_x23 l4_x23 H locs ls b_l4_x23 hTa hf9; exact False.elim (by omega)
  | succ n9 ihx23 =>
    intro fN_rest_x23 l4_x23 H locs ls b_l4_x23 hTa hfx23 hP hD hS hl
    refine lv_iload hx hb dX2_round_23 (lv_at hl 0 rfl) ?_
    refine lv_iload_n hx hb dX2_round_25 rfl (lv_at hl 1 rfl) ?_
    refine lv_icmp_gt (tgt := 74) hx hb dX2_round_26 (by decide) (fun c_26 => ?_) (fun c_26 => ?_)
    · have t_26 : l4_x23.toInt > (v4.toInt - 1) := toI_gt c_26 rfl (iI_t (Int.le_trans (by decide) (Int.sub_le_sub (b_v4.1) (Int.le_refl _))) (Int.le_trans (Int.sub_le_sub (b_v4.2) (Int.le_refl _)) (by decide)))
      have hTT : tuT (fun x y => tuL (iN_arcs.toInt, fN_from, fN_to, fN_room, fN_cost) (tuK (bI p1) x) (tuK (bI p1) y) (iN_arcs.toInt, fN_from, fN_to, fN_room, fN_cost).1.toNat) (cntB (bI p1) 12) (tuTab fN_rest_x23) := tuTb.done hTa (by omega)
      refine lv_aload_n hx hb dX2_round_74 rfl (lv_at hl 2 rfl) ?_
      refine va_get (D := (dC, dI)) (ci := 2) (v := .ref (aN 10)) (C := RX2) (T := TX2) (N := 14) hx hb hts iwsMX2_round_in2 hown hK hP 0 rfl rfl 13 (by decide) (hts (.fieldLink RX2 42 "OptimaWorks$NetDesk" "rest" "[I") (by decide +kernel)) (fun _ h9 => h9) rfl dX2_round_75 ?_
      refine lv_iload_n hx hb dX2_round_78 rfl (lv_at hl 1 rfl) ?_
      refine lv_bipush (v := 8) hx hb dX2_round_79 (by decide) ?_
      refine lv_imul hx hb dX2_round_81 ?_
      refine lv_topi (fun y196 hy196 => ?_)
      obtain rfl : (iI ((v4.toInt - 1) * 8)) = y196 := (hy196.trans (iI_mul2 rfl (by decide : (8 : Int32) = iI 8))).symm
      refine va_iald (cA := kN 10) (n := 1024) (f := fN_rest_x23) hx hb hK hP 11 10 rfl rfl (vp_iI (Int.le_trans (by decide) (Int.mul_le_mul_of_nonneg_right (Int.sub_le_sub (b_v4.1) (Int.le_refl _)) (by decide))) (Int.lt_of_le_of_lt (Int.mul_le_mul_of_nonneg_right (Int.sub_le_sub (b_v4.2) (Int.le_refl _)) (by decide)) (by decide)) (by decide)) dX2_round_82 ?_
      refine lv_topi (fun v197 hv197 => ?_)
      have b_v197 : v197.toInt = tuTab fN_rest_x23 (2 ^ ((cntB (bI p1) 12) - 1) - 1) 0 := by rw [hv197]; exact (by show (fN_rest_x23 (iI ((v4.toInt - 1) * 8)).toInt.toNat).toInt = (fN_rest_x23 (8 * (2 ^ ((cntB (bI p1) 12) - 1) - 1) + 0)).toInt; rw [iI_t (by omega) (by omega)]; congr 2; omega)
      clear hv197
      refine lv_istore hx hb dX2_round_83 hl (by decide) rfl (fun ls (hl : lv_has ls _ ([(4, .int v197), (3, .int (iI (v4.toInt - 1))), (0, .ref (hN 0)), (1, .int p1), (2, .int p2)])) => ?_)
      refine lv_iload hx hb dX2_round_85 (lv_at hl 0 rfl) ?_
      refine lv_ldc (v := 536870912) hx hb hown (hts (.constant RX2 60 536870912) (by decide +kernel)) dX2_round_87 ?_
      refine lv_icmp_ge (tgt := 98) hx hb dX2_round_89 (by decide) (fun c_89 => ?_) (fun c_89 => ?_)
      · have t_89 : v197.toInt ≥ 536870912 := toI_ge c_89 rfl (by decide : (536870912 : Int32).toInt = 536870912)
        refine lv_iload hx hb dX2_round_98 (lv_at hl 0 rfl) ?_
        refine lv_ldc (v := 536870912) hx hb hown (hts (.constant RX2 60 536870912) (by decide +kernel)) dX2_round_100 ?_
        refine W.cut (pc := 111) (fun H locs ls stk => ∃ (k0_j11 : Int32), ((k0_j11.toInt = -1 ∧ ¬ v197.toInt < 536870912) ∨ (v197.toInt < 536870912 ∧ k0_j11.toInt = v197.toInt)) ∧  stk = [.int k0_j11] ∧ va_P (dC, dI) vwCl (WN hN aN kN iN_arcs fN_from fN_to fN_room fN_cost iN_reached fN_free fN_before fN_flow fN_length fN_stop_1 iN_stops_1 fN_price_2 fN_rest_x23) H ∧ va_D A (WN hN aN kN iN_arcs fN_from fN_to fN_room fN_cost iN_reached fN_free fN_before fN_flow fN_length fN_stop_1 iN_stops_1 fN_price_2 fN_rest_x23) ∧ va_S A s.heap H locs ∧ lv_has ls 8 [(4, .int v197), (3, .int (iI (v4.toInt - 1))), (0, .ref (hN 0)), (1, .int p1), (2, .int p2)]) (fun join11 => ?_) ?_
        · refine lv_icmp_lt (tgt := 109) hx hb dX2_round_102 (by decide) (fun c_102 => ?_) (fun c_102 => ?_)
          · have t_102 : v197.toInt < 536870912 := toI_lt c_102 rfl (by decide : (536870912 : Int32).toInt = 536870912)
            refine lv_iload hx hb dX2_round_109 (lv_at hl 0 rfl) ?_
            have hl : lv_has _ _ ([(4, .int v197), (3, .int (iI (v4.toInt - 1))), (0, .ref (hN 0)), (1, .int p1), (2, .int p2)]) := lv_sub hl [0, 1, 2, 3, 4] rfl
            exact join11 _ _ _ _ ⟨v197, (show (v197.toInt = -1 ∧ ¬ v197.toInt < 536870912) ∨ (v197.toInt < 536870912 ∧ v197.toInt = v197.toInt) from by first | exact Or.inl ⟨by decide, by omega⟩ | exact Or.inr ⟨by omega, rfl⟩), rfl, hP, hD, hS, hl⟩
          · have t_102 : ¬ v197.toInt < 536870912 := toI_nlt c_102 rfl (by decide : (536870912 : Int32).toInt = 536870912)
            refine lv_iconst (v := (-1)) hx hb dX2_round_105 (by decide) ?_
            refine lv_goto (tgt := 111) hx hb dX2_round_106 (by decide) ?_
            have hl : lv_has _ _ ([(4, .int v197), (3, .int (iI (v4.toInt - 1))), (0, .ref (hN 0)), (1, .int p1), (2, .int p2)]) := lv_sub hl [0, 1, 2, 3, 4] rfl
            exact join11 _ _ _ _ ⟨(-1), (show (((-1) : Int32).toInt = -1 ∧ ¬ v197.toInt < 536870912) ∨ (v197.toInt < 536870912 ∧ ((-1) : Int32).toInt = v197.toInt) from by first | exact Or.inl ⟨by decide, by omega⟩ | exact Or.inr ⟨by omega, rfl⟩), rfl, hP, hD, hS, hl⟩
        · rintro H locs ls stk ⟨k0_j11, hk9, rfl, hP, hD, hS, hl⟩
          refine W.widen (k := 0) (n := 0) (by decide +kernel) (by decide +kernel) ?_
          exact W.iret (v := k0_j11) hx hb hr (fun t9_ ht hW => ⟨⟨k0_j11, (fN_stop_1, iN_stops_1, fN_price_2, fN_rest_x23), rfl, ⟨b_fN_stop_1, (by (try dsimp only); exact (b_iN_stops_1)), (by (try dsimp only); exact (hk9.elim (fun h9 => tuA.none hVal (by (try dsimp only); omega) (by omega) (by omega) hTT (by (have h8 := h9.2); omega) h9.1) (fun h9 => tuA.cost hVal (by (try dsimp only); omega) (by omega) (by omega) hTT (by (have h8 := h9.1); omega) (by (have h8 := h9.1); omega) (h9.2.trans b_v197))))⟩, by rw [ht]; exact hP, hD⟩, hS.F ht⟩) hS.2.2 dX2_round_111
      · have t_89 : ¬ v197.toInt ≥ 536870912 := toI_nge c_89 rfl (by decide : (536870912 : Int32).toInt = 536870912)
        refine lv_iload_n hx hb dX2_round_92 rfl (lv_at hl 4 rfl) ?_
        refine lv_bipush (v := (-2)) hx hb dX2_round_93 (by decide) ?_
        refine lv_icmp_ne (tgt := 112) hx hb dX2_round_95 (by decide) (fun c_95 => ?_) (fun c_95 => ?_)
        · have t_95 : p2.toInt ≠ (-2) := toI_ne c_95 rfl (by decide : ((-2) : Int32).toInt = (-2))
          refine lv_iload_n hx hb dX2_round_112 rfl (lv_at hl 4 rfl) ?_
          refine lv_if_lt (tgt := 124) hx hb dX2_round_113 (by decide) (fun c_113 => ?_) (fun c_113 => ?_)
          · have t_113 : p2.toInt < 0 := toI_lt c_113 rfl (by decide : (0 : Int32).toInt = 0)
            refine lv_iconst (v := (-1)) hx hb dX2_round_124 (by decide) ?_
            refine W.widen (k := 0) (n := 0) (by decide +kernel) (by decide +kernel) ?_
            exact W.iret (v := (-1)) hx hb hr (fun t9_ ht hW => ⟨⟨((-1) : Int32), (fN_stop_1, iN_stops_1, fN_price_2, fN_rest_x23), rfl, ⟨b_fN_stop_1, (by (try dsimp only); exact (b_iN_stops_1)), (by (try dsimp only); exact (tuA.out hVal (by (try dsimp only); omega) (by omega) (by omega) hTT (by omega) (by omega) (by omega) (by decide)))⟩, by rw [ht]; exact hP, hD⟩, hS.F ht⟩) hS.2.2 dX2_round_125
          · have t_113 : ¬ p2.toInt < 0 := toI_nlt c_113 rfl (by decide : (0 : Int32).toInt = 0)
            refine lv_iload_n hx hb dX2_round_116 rfl (lv_at hl 4 rfl) ?_
            refine lv_aload_n hx hb dX2_round_117 rfl (lv_at hl 2 rfl) ?_
            refine va_get (D := (dC, dI)) (ci := 2) (v := .int iN_stops_1) (C := RX2) (T := TX2) (N := 14) hx hb hts iwsMX2_round_in2 hown hK hP 0 rfl rfl 11 (by decide) (hts (.fieldLink RX2 98 "OptimaWorks$NetDesk" "stops" "I") (by decide +kernel)) (fun _ h9 => h9) rfl dX2_round_118 ?_
            refine lv_icmp_lt (tgt := 126) hx hb dX2_round_121 (by decide) (fun c_121 => ?_) (fun c_121 => ?_)
            · have t_121 : p2.toInt < iN_stops_1.toInt := toI_lt c_121 rfl rfl
              have hlt9 : tuTab fN_rest_x23 (2 ^ ((cntB (bI p1) 12) - 1) - 1) 0 < 536870912 := by omega
              have hOv := tuO_v hPP hTT (by omega) (by omega) hlt9
              refine lv_iload_n hx hb dX2_round_126 rfl (lv_at hl 1 rfl) ?_
              refine lv_istore hx hb dX2_round_127 hl (by decide) rfl (fun ls (hl : lv_has ls _ ([(5, .int (iI (v4.toInt - 1))), (4, .int v197), (3, .int (iI (v4.toInt - 1))), (0, .ref (hN 0)), (1, .int p1), (2, .int p2)])) => ?_)
              refine lv_iconst (v := 0) hx hb dX2_round_129 (by decide) ?_
              refine lv_istore hx hb dX2_round_130 hl (by decide) rfl (fun ls (hl : lv_has ls _ ([(6, .int 0), (5, .int (iI (v4.toInt - 1))), (4, .int v197), (3, .int (iI (v4.toInt - 1))), (0, .ref (hN 0)), (1, .int p1), (2, .int p2)])) => ?_)
              refine lv_iconst (v := 0) hx hb dX2_round_132 (by decide) ?_
              refine lv_istore hx hb dX2_round_133 hl (by decide) rfl (fun ls (hl : lv_has ls _ ([(7, .int 0), (6, .int 0), (5, .int (iI (v4.toInt - 1))), (4, .int v197), (3, .int (iI (v4.toInt - 1))), (0, .ref (hN 0)), (1, .int p1), (2, .int p2)])) => ?_)
              have hl : lv_has _ _ ([(7, .int 0), (6, .int 0), (5, .int (iI (v4.toInt - 1))), (4, .int v197), (3, .int (iI (v4.toInt - 1))), (0, .ref (hN 0)), (1, .int p1), (2, .int p2)]) := lv_sub hl [0, 1, 2, 3, 4, 5, 6, 7] rfl
              refine (fun (loop : ∀ (n9 : Nat) (l7_x135 : Int32) (l6_x135 : Int32) (l5_x135 : Int32) (H : Heap) (locs : List Loc) (ls : Array Slot), (0 ≤ l7_x135.toInt ∧ l7_x135.toInt ≤ 8) → (0 ≤ l6_x135.toInt ∧ l6_x135.toInt ≤ 7) → (0 ≤ l5_x135.toInt ∧ l5_x135.toInt ≤ 127) → (l5_x135.toInt.toNat = tuF (cntB (bI p1) 12) (tuO (fun x y => tuL (iN_arcs.toInt, fN_from, fN_to, fN_room, fN_cost) (tuK (bI p1) x) (tuK (bI p1) y) (iN_arcs.toInt, fN_from, fN_to, fN_room, fN_cost).1.toNat) (cntB (bI p1) 12) (tuTab fN_rest_x23)) l7_x135.toInt.toNat ∧ l6_x135.toInt.toNat = tuO (fun x y => tuL (iN_arcs.toInt, fN_from, fN_to, fN_room, fN_cost) (tuK (bI p1) x) (tuK (bI p1) y) (iN_arcs.toInt, fN_from, fN_to, fN_room, fN_cost).1.toNat) (cntB (bI p1) 12) (tuTab fN_rest_x23) l7_x135.toInt.toNat) → (l7_x135.toInt ≤ p2.toInt) → (8 - l7_x135.toInt < ((n9 : Nat) : Int)) → va_P (dC, dI) vwCl (WN hN aN kN iN_arcs fN_from fN_to fN_room fN_cost iN_reached fN_free fN_before fN_flow fN_length fN_stop_1 iN_stops_1 fN_price_2 fN_rest_x23) H → va_D A (WN hN aN kN iN_arcs fN_from fN_to fN_room fN_cost iN_reached fN_free fN_before fN_flow fN_length fN_stop_1 iN_stops_1 fN_price_2 fN_rest_x23) → va_S A s.heap H locs → lv_has ls 8 [(7, .int l7_x135), (6, .int l6_x135), (5, .int l5_x135), (4, .int v197), (3, .int (iI (v4.toInt - 1))), (0, .ref (hN 0)), (1, .int p1), (2, .int p2)] → W p l e _ s m _ below meth c H locs 0 0 _ (F0 m 135 ls [])) => loop (9) 0 0 (iI (v4.toInt - 1)) _ _ _ (show 0 ≤ (0 : Int32).toInt ∧ (0 : Int32).toInt ≤ 8 from by decide) (show 0 ≤ (0 : Int32).toInt ∧ (0 : Int32).toInt ≤ 7 from by decide) (iI_rng (Int.le_trans (by decide) (Int.sub_le_sub (b_v4.1) (Int.le_refl _))) (Int.le_trans (Int.sub_le_sub (b_v4.2) (Int.le_refl _)) (by decide)) (by decide) (by decide)) (show (iI (v4.toInt - 1)).toInt.toNat = tuF (cntB (bI p1) 12) (tuO (fun x y => tuL (iN_arcs.toInt, fN_from, fN_to, fN_room, fN_cost) (tuK (bI p1) x) (tuK (bI p1) y) (iN_arcs.toInt, fN_from, fN_to, fN_room, fN_cost).1.toNat) (cntB (bI p1) 12) (tuTab fN_rest_x23)) (0 : Int32).toInt.toNat ∧ (0 : Int32).toInt.toNat = tuO (fun x y => tuL (iN_arcs.toInt, fN_from, fN_to, fN_room, fN_cost) (tuK (bI p1) x) (tuK (bI p1) y) (iN_arcs.toInt, fN_from, fN_to, fN_room, fN_cost).1.toNat) (cntB (bI p1) 12) (tuTab fN_rest_x23) (0 : Int32).toInt.toNat from ⟨by (have h9 : tuF (cntB (bI p1) 12) (tuO (fun x y => tuL (iN_arcs.toInt, fN_from, fN_to, fN_room, fN_cost) (tuK (bI p1) x) (tuK (bI p1) y) (iN_arcs.toInt, fN_from, fN_to, fN_room, fN_cost).1.toNat) (cntB (bI p1) 12) (tuTab fN_rest_x23)) 0 = 2 ^ ((cntB (bI p1) 12) - 1) - 1 := rfl); rw [show (0 : Int32).toInt.toNat = 0 from by decide, h9, iI_t (by omega) (by omega)]; omega, rfl⟩) (show (0 : Int32).toInt ≤ p2.toInt from by have h7 : (0 : Int32).toInt = 0 := (by decide); omega) ((by have e9 : (0 : Int32).toInt = 0 := (by decide : (0 : Int32).toInt = 0); omega)) hP hD hS hl) ?_
              intro n9
              induction n9 with
              | zero => intro l7_x135 l6_x135 l5_x135 H locs ls b_l7_x135 b_l6_x135 b_l5_x135 hWy hwi hf9; exact False.elim (by omega)
              | succ n9 ihx135 =>
                intro l7_x135 l6_x135 l5_x135 H locs ls b_l7_x135 b_l6_x135 b_l5_x135 hWy hwi hfx135 hP hD hS hl
                refine lv_iload hx hb dX2_round_135 (lv_at hl 0 rfl) ?_
                refine lv_iload_n hx hb dX2_round_137 rfl (lv_at hl 7 rfl) ?_
                refine lv_icmp_ge (tgt := 170) hx hb dX2_round_138 (by decide) (fun c_138 => ?_) (fun c_138 => ?_)
                · have t_138 : l7_x135.toInt ≥ p2.toInt := toI_ge c_138 rfl rfl
                  have hl6 : l6_x135.toInt.toNat < (cntB (bI p1) 12) := by rw [hWy.2]; exact hOv.2.1 _ (by omega)
                  have hl5 : l5_x135.toInt.toNat < 2 ^ ((cntB (bI p1) 12) - 1) := by rw [hWy.1]; exact tuF_lt (by omega) _
                  refine lv_aload_n hx hb dX2_round_170 rfl (lv_at hl 5 rfl) ?_
                  refine va_get (D := (dC, dI)) (ci := 2) (v := .ref (aN 8)) (C := RX2) (T := TX2) (N := 14) hx hb hts iwsMX2_round_in2 hown hK hP 0 rfl rfl 10 (by decide) (hts (.fieldLink RX2 36 "OptimaWorks$NetDesk" "stop" "[I") (by decide +kernel)) (fun _ h9 => h9) rfl dX2_round_171 ?_
                  refine lv_iload hx hb dX2_round_174 (lv_at hl 1 rfl) ?_
                  refine va_iald (cA := kN 8) (n := 8) (f := fN_stop_1) hx hb hK hP 9 8 rfl rfl (vp_in_iff.mpr ⟨b_l6_x135.1, (Int.lt_of_le_of_lt (b_l6_x135.2) (by decide))⟩) dX2_round_176 ?_
                  refine lv_topi (fun v225 hv225 => ?_)
                  have b_v225 : 0 ≤ v225.toInt ∧ v225.toInt ≤ 11 := by rw [hv225]; exact b_fN_stop_1 _
                  have b1_v225 : v225 = fN_stop_1 (l6_x135).toNatClampNeg := hv225
                  clear hv225
                  refine W.widen (k := 0) (n := 0) (by decide +kernel) (by decide +kernel) ?_
                  exact W.iret (v := v225) hx hb hr (fun t9_ ht hW => ⟨⟨v225, (fN_stop_1, iN_stops_1, fN_price_2, fN_rest_x23), rfl, ⟨b_fN_stop_1, (by (try dsimp only); exact (b_iN_stops_1)), (by (try dsimp only); exact (tuA.stop hVal (by (try dsimp only); omega) (by omega) (by omega) hTT hlt9 (by omega) (by rw [show p2.toInt.toNat = l7_x135.toInt.toNat from by omega, ← hWy.2, ← hSt2.2 _ hl6]; exact (by rw [b1_v225]; rfl))))⟩, by rw [ht]; exact hP, hD⟩, hS.F ht⟩) hS.2.2 dX2_round_177
                · have t_138 : ¬ l7_x135.toInt ≥ p2.toInt := toI_nge c_138 rfl rfl
                  have hl6 : l6_x135.toInt.toNat < (cntB (bI p1) 12) := by rw [hWy.2]; exact hOv.2.1 _ (by omega)
                  have hl5 : l5_x135.toInt.toNat < 2 ^ ((cntB (bI p1) 12) - 1) := by rw [hWy.1]; exact tuF_lt (by omega) _
                  refine lv_aload_n hx hb dX2_round_141 rfl (lv_at hl 5 rfl) ?_
                  refine lv_iload hx hb dX2_round_142 (lv_at hl 2 rfl) ?_
                  refine lv_iload hx hb dX2_round_144 (lv_at hl 1 rfl) ?_
                  have hFc := allFree hD hS hA
                  refine va_calli (va_runV (As := [.int l5_x135, .int l6_x135]) (rest := []) ⟨hx, hb, hml, hown, hts⟩ (m_X2_nextStop l dC dI hN aN kN iN_arcs fN_from fN_to fN_room fN_cost iN_reached fN_free fN_before fN_flow fN_length fN_stop_1 iN_stops_1 fN_price_2 fN_rest_x23 l5_x135 l6_x135 (b_iN_arcs) b_fN_from b_fN_to b_fN_before b_fN_stop_1 (b_iN_stops_1) (b_l5_x135) (b_l6_x135) ((by omega)) ((by omega)) ((fun x y hx hy => hPb9 x y (by omega) (by omega))) ((fun y b hy hb => (hTa y b (by omega) (by omega)).2)) H.size) (cwV 2 hts gwsMX2_round_3 rfl rfl rfl hd_yX2_nextStop_RX2 (by decide +kernel)) (fz_pre (va_recv hK hP (ci := 2) (q0 := 0) rfl rfl) hP hK hD) rfl rfl hl.1 rfl (lv_room (Nat.le_of_ble_eq_true rfl)) dX2_round_146 (by decide +kernel)) hS (fun q _ h => hFc q h) hFc (fun r226 u t9_ H locs ht hvm hw9 hB9 hz1 hk1 hS => ?_)
                  revert hw9
                  refine fz_a2 ?_
                  intro b_r226 f226_0
                  have hP : va_P (dC, dI) vwCl (WN hN aN kN iN_arcs fN_from fN_to fN_room fN_cost iN_reached fN_free fN_before fN_flow fN_length fN_stop_1 iN_stops_1 fN_price_2 fN_rest_x23) H := fz_P ht hB9.1
                  have hD : va_D A (WN hN aN kN iN_arcs fN_from fN_to fN_room fN_cost iN_reached fN_free fN_before fN_flow fN_length fN_stop_1 iN_stops_1 fN_price_2 fN_rest_x23) := hB9.2.weaken (fun _ q _ h => hFc q.1 h)
                  have hstp := tuO_step (k := l7_x135.toInt.toNat) (x := l5_x135.toInt.toNat) (a := l6_x135.toInt.toNat) (r := r226.toInt.toNat) (Q := tuTab fN_price_2) hPP hTT (by omega) (by omega) hlt9 (by omega) hWy.1 hWy.2 (fun b hb => hPr _ b (by omega) hb) (fun h9 => by (have h8 := f226_0 (by rw [eN]; exact h9)); exact ⟨by omega, by omega, h8.2.2.1, fun c h1 h2 => h8.2.2.2 c h1 (by omega)⟩)
                  obtain ⟨hs1, hs2, hs3, hs4, hs5⟩ := hstp
                  refine lv_istore hx hb dX2_round_149 hl (by decide) rfl (fun ls (hl : lv_has ls _ ([(6, .int r226), (7, .int l7_x135), (5, .int l5_x135), (4, .int v197), (3, .int (iI (v4.toInt - 1))), (0, .ref (hN 0)), (1, .int p1), (2, .int p2)])) => ?_)
                  refine lv_iload hx hb dX2_round_151 (lv_at hl 2 rfl) ?_
                  refine lv_iconst (v := 1) hx hb dX2_round_153 (by decide) ?_
                  refine lv_iload hx hb dX2_round_154 (lv_at hl 0 rfl) ?_
                  refine lv_iconst (v := 1) hx hb dX2_round_156 (by decide) ?_
                  refine lv_isub hx hb dX2_round_157 ?_
                  refine lv_topi (fun y227 hy227 => ?_)
                  obtain rfl : (iI (r226.toInt - 1)) = y227 := (hy227.trans (iI_sub2 (iI_of _) (by decide : (1 : Int32) = iI 1))).symm
                  refine lv_ishl hx hb dX2_round_158 ?_
                  refine lv_topi (fun v228 hv228 => ?_)
                  have b_v228 : v228 = (1 : Int32) <<< ((iI (r226.toInt - 1)) &&& 31) := hv228
                  clear hv228
                  refine lv_iconst (v := (-1)) hx hb dX2_round_159 (by decide) ?_
                  refine lv_ixor hx hb dX2_round_160 ?_
                  refine lv_topi (fun v229 hv229 => ?_)
                  have b_v229 : v229 = v228 ^^^ (-1) := hv229
                  clear hv229
                  refine lv_iand hx hb dX2_round_161 ?_
                  refine lv_topi (fun v230 hv230 => ?_)
                  have b_v230 : 0 ≤ v230.toInt ∧ v230.toInt ≤ l5_x135.toInt := by rw [hv230]; exact and_posL rfl (by omega)
                  have b1_v230 : v230.toInt = ((l5_x135.toInt.toNat - 2 ^ (r226.toInt.toNat - 1) : Nat) : Int) := by rw [hv230]; exact tuAndT b_v228 b_v229 (by omega) (by omega) (by rw [iI_t (by omega) (by omega)]; omega) (by omega) (hs4)
                  clear hv230
                  refine lv_istore hx hb dX2_round_162 hl (by decide) rfl (fun ls (hl : lv_has ls _ ([(5, .int v230), (6, .int r226), (7, .int l7_x135), (4, .int v197), (3, .int (iI (v4.toInt - 1))), (0, .ref (hN 0)), (1, .int p1), (2, .int p2)])) => ?_)
                  refine lv_iinc (v := (iI (l7_x135.toInt + 1))) hx hb dX2_round_164 hl (k := 2) rfl (iI_add2 (iI_of _) (by decide : (1 : Int32) = iI 1)) (by decide) rfl (fun ls (hl : lv_has ls _ ([(7, .int (iI (l7_x135.toInt + 1))), (5, .int v230), (6, .int r226), (4, .int v197), (3, .int (iI (v4.toInt - 1))), (0, .ref (hN 0)), (1, .int p1), (2, .int p2)])) => ?_)
                  refine lv_goto (tgt := 135) hx hb dX2_round_167 (by decide) ?_
                  have hl : lv_has _ _ ([(7, .int (iI (l7_x135.toInt + 1))), (6, .int r226), (5, .int v230), (4, .int v197), (3, .int (iI (v4.toInt - 1))), (0, .ref (hN 0)), (1, .int p1), (2, .int p2)]) := lv_sub hl [0, 2, 1, 3, 4, 5, 6, 7] rfl
                  exact ihx135 (iI (l7_x135.toInt + 1)) r226 v230 _ _ _ (iI_rng (Int.le_trans (by decide) (Int.add_le_add (b_l7_x135.1) (Int.le_refl _))) (by omega) (by decide) (by decide)) (by first | exact b_r226 | with_reducible assumption | exact ⟨by omega, by omega⟩ | assumption) (by first | exact b_v230 | with_reducible assumption | exact ⟨by omega, by omega⟩ | assumption) (show v230.toInt.toNat = tuF (cntB (bI p1) 12) (tuO (fun x y => tuL (iN_arcs.toInt, fN_from, fN_to, fN_room, fN_cost) (tuK (bI p1) x) (tuK (bI p1) y) (iN_arcs.toInt, fN_from, fN_to, fN_room, fN_cost).1.toNat) (cntB (bI p1) 12) (tuTab fN_rest_x23)) (iI (l7_x135.toInt + 1)).toInt.toNat ∧ r226.toInt.toNat = tuO (fun x y => tuL (iN_arcs.toInt, fN_from, fN_to, fN_room, fN_cost) (tuK (bI p1) x) (tuK (bI p1) y) (iN_arcs.toInt, fN_from, fN_to, fN_room, fN_cost).1.toNat) (cntB (bI p1) 12) (tuTab fN_rest_x23) (iI (l7_x135.toInt + 1)).toInt.toNat from by rw [show (iI (l7_x135.toInt + 1)).toInt.toNat = l7_x135.toInt.toNat + 1 from by rw [iI_t (by omega) (by omega)]; omega]; exact ⟨by rw [← hs5]; omega, hs1⟩) (show (iI (l7_x135.toInt + 1)).toInt ≤ p2.toInt from by rw [iI_t (by omega) (by omega)]; omega) (by have e9 : ((iI (l7_x135.toInt + 1))).toInt = (l7_x135.toInt + 1) := (iI_t (Int.le_trans (by decide) (Int.add_le_add (b_l7_x135.1) (Int.le_refl _))) (Int.le_trans (Int.add_le_add (b_l7_x135.2) (Int.le_refl _)) (by decide))); omega) hP hD hS hl
            · have t_121 : ¬ p2.toInt < iN_stops_1.toInt := toI_nlt c_121 rfl rfl
              refine lv_iconst (v := (-1)) hx hb dX2_round_124 (by decide) ?_
              refine W.widen (k := 0) (n := 0) (by decide +kernel) (by decide +kernel) ?_
              exact W.iret (v := (-1)) hx hb hr (fun t9_ ht hW => ⟨⟨((-1) : Int32), (fN_stop_1, iN_stops_1, fN_price_2, fN_rest_x23), rfl, ⟨b_fN_stop_1, (by (try dsimp only); exact (b_iN_stops_1)), (by (try dsimp only); exact (tuA.out hVal (by (try dsimp only); omega) (by omega) (by omega) hTT (by omega) (by omega) (by omega) (by decide)))⟩, by rw [ht]; exact hP, hD⟩, hS.F ht⟩) hS.2.2 dX2_round_125
        · have t_95 : p2.toInt = (-2) := toI_nne c_95 rfl (by decide : ((-2) : Int32).toInt = (-2))
          refine lv_iload hx hb dX2_round_98 (lv_at hl 0 rfl) ?_
          refine lv_ldc (v := 536870912) hx hb hown (hts (.constant RX2 60 536870912) (by decide +kernel)) dX2_round_100 ?_
          refine W.cut (pc := 111) (fun H locs ls stk => ∃ (k0_j12 : Int32), ((k0_j12.toInt = -1 ∧ ¬ v197.toInt < 536870912) ∨ (v197.toInt < 536870912 ∧ k0_j12.toInt = v197.toInt)) ∧  stk = [.int k0_j12] ∧ va_P (dC, dI) vwCl (WN hN aN kN iN_arcs fN_from fN_to fN_room fN_cost iN_reached fN_free fN_before fN_flow fN_length fN_stop_1 iN_stops_1 fN_price_2 fN_rest_x23) H ∧ va_D A (WN hN aN kN iN_arcs fN_from fN_to fN_room fN_cost iN_reached fN_free fN_before fN_flow fN_length fN_stop_1 iN_stops_1 fN_price_2 fN_rest_x23) ∧ va_S A s.heap H locs ∧ lv_has ls 8 [(4, .int v197), (3, .int (iI (v4.toInt - 1))), (0, .ref (hN 0)), (1, .int p1), (2, .int p2)]) (fun join12 => ?_) ?_
          · refine lv_icmp_lt (tgt := 109) hx hb dX2_round_102 (by decide) (fun c_102 => ?_) (fun c_102 => ?_)
            · have t_102 : v197.toInt < 536870912 := toI_lt c_102 rfl (by decide : (536870912 : Int32).toInt = 536870912)
              refine lv_iload hx hb dX2_round_109 (lv_at hl 0 rfl) ?_
              have hl : lv_has _ _ ([(4, .int v197), (3, .int (iI (v4.toInt - 1))), (0, .ref (hN 0)), (1, .int p1), (2, .int p2)]) := lv_sub hl [0, 1, 2, 3, 4] rfl
              exact join12 _ _ _ _ ⟨v197, (show (v197.toInt = -1 ∧ ¬ v197.toInt < 536870912) ∨ (v197.toInt < 536870912 ∧ v197.toInt = v197.toInt) from by first | exact Or.inl ⟨by decide, by omega⟩ | exact Or.inr ⟨by omega, rfl⟩), rfl, hP, hD, hS, hl⟩
            · have t_102 : ¬ v197.toInt < 536870912 := toI_nlt c_102 rfl (by decide : (536870912 : Int32).toInt = 536870912)
              refine lv_iconst (v := (-1)) hx hb dX2_round_105 (by decide) ?_
              refine lv_goto (tgt := 111) hx hb dX2_round_106 (by decide) ?_
              have hl : lv_has _ _ ([(4, .int v197), (3, .int (iI (v4.toInt - 1))), (0, .ref (hN 0)), (1, .int p1), (2, .int p2)]) := lv_sub hl [0, 1, 2, 3, 4] rfl
              exact join12 _ _ _ _ ⟨(-1), (show (((-1) : Int32).toInt = -1 ∧ ¬ v197.toInt < 536870912) ∨ (v197.toInt < 536870912 ∧ ((-1) : Int32).toInt = v197.toInt) from by first | exact Or.inl ⟨by decide, by omega⟩ | exact Or.inr ⟨by omega, rfl⟩), rfl, hP, hD, hS, hl⟩
          · rintro H locs ls stk ⟨k0_j12, hk9, rfl, hP, hD, hS, hl⟩
            refine W.widen (k := 0) (n := 0) (by decide +kernel) (by decide +kernel) ?_
            exact W.iret (v := k0_j12) hx hb hr (fun t9_ ht hW => ⟨⟨k0_j12, (fN_stop_1, iN_stops_1, fN_price_2, fN_rest_x23), rfl, ⟨b_fN_stop_1, (by (try dsimp only); exact (b_iN_stops_1)), (by (try dsimp only); exact (hk9.elim (fun h9 => tuA.none hVal (by (try dsimp only); omega) (by omega) (by omega) hTT (by (have h8 := h9.2); omega) h9.1) (fun h9 => tuA.cost hVal (by (try dsimp only); omega) (by omega) (by omega) hTT (by (have h8 := h9.1); omega) (by (have h8 := h9.1); omega) (h9.2.trans b_v197))))⟩, by rw [ht]; exact hP, hD⟩, hS.F ht⟩) hS.2.2 dX2_round_111
    · have t_26 : ¬ l4_x23.toInt > (v4.toInt - 1) := toI_ngt c_26 rfl (iI_t (Int.le_trans (by decide) (Int.sub_le_sub (b_v4.1) (Int.le_refl _))) (Int.le_trans (Int.sub_le_sub (b_v4.2) (Int.le_refl _)) (by decide)))
      refine lv_iconst (v := 0) hx hb dX2_round_29 (by decide) ?_
      refine lv_istore hx hb dX2_round_30 hl (by decide) rfl (fun ls (hl : lv_has ls _ ([(5, .int 0), (4, .int l4_x23), (3, .int (iI (v4.toInt - 1))), (0, .ref (hN 0)), (1, .int p1), (2, .int p2)])) => ?_)
      have hl : lv_has _ _ ([(5, .int 0), (4, .int l4_x23), (3, .int (iI (v4.toInt - 1))), (0, .ref (hN 0)), (1, .int p1), (2, .int p2)]) := lv_sub hl [0, 1, 2, 3, 4, 5] rfl
      refine (fun (loop : ∀ (n9 : Nat) (fN_rest_x32 : Nat → Int32) (l5_x32 : Int32) (H : Heap) (locs : List Loc) (ls : Array Slot), (0 ≤ l5_x32.toInt ∧ l5_x32.toInt ≤ 127) → (tuTb (fun x y => tuL (iN_arcs.toInt, fN_from, fN_to, fN_room, fN_cost) (tuK (bI p1) x) (tuK (bI p1) y) (iN_arcs.toInt, fN_from, fN_to, fN_room, fN_cost).1.toNat) (cntB (bI p1) 12) fN_rest_x32 l4_x23.toInt.toNat l5_x32.toInt.toNat) → (127 - l5_x32.toInt < ((n9 : Nat) : Int)) → va_P (dC, dI) vwCl (WN hN aN kN iN_arcs fN_from fN_to fN_room fN_cost iN_reached fN_free fN_before fN_flow fN_length fN_stop_1 iN_stops_1 fN_price_2 fN_rest_x32) H → va_D A (WN hN aN kN iN_arcs fN_from fN_to fN_room fN_cost iN_reached fN_free fN_before fN_flow fN_length fN_stop_1 iN_stops_1 fN_price_2 fN_rest_x32) → va_S A s.heap H locs → lv_has ls 8 [(5, .int l5_x32), (4, .int l4_x23), (3, .int (iI (v4.toInt - 1))), (0, .ref (hN 0)), (1, .int p1), (2, .int p2)] → W p l e _ s m _ below meth c H locs 0 0 _ (F0 m 32 ls [])) => loop (128) fN_rest_x23 0 _ _ _ (show 0 ≤ (0 : Int32).toInt ∧ (0 : Int32).toInt ≤ 127 from by decide) (show tuTb (fun x y => tuL (iN_arcs.toInt, fN_from, fN_to, fN_room, fN_cost) (tuK (bI p1) x) (tuK (bI p1) y) (iN_arcs.toInt, fN_from, fN_to, fN_room, fN_cost).1.toNat) (cntB (bI p1) 12) fN_rest_x23 l4_x23.toInt.toNat (0 : Int32).toInt.toNat from by rw [show (0 : Int32).toInt.toNat = 0 from by decide]; exact hTa) ((by have e9 : (0 : Int32).toInt = 0 := (by decide : (0 : Int32).toInt = 0); omega)) hP hD hS hl) ?_
      intro n9
      induction n9 with
      | zero => intro fN_rest_x32 l5_x32 H locs ls b_l5_x32 hTb hf9; exact False.elim (by omega)
      | succ n9 ihx32 =>
        intro fN_rest_x32 l5_x32 H locs ls b_l5_x32 hTb hfx32 hP hD hS hl
        refine lv_iload hx hb dX2_round_32 (lv_at hl 0 rfl) ?_
        refine lv_aload_n hx hb dX2_round_34 rfl (lv_at hl 3 rfl) ?_
        refine va_get (D := (dC, dI)) (ci := 2) (v := .int iN_stops_1) (C := RX2) (T := TX2) (N := 14) hx hb hts iwsMX2_round_in2 hown hK hP 0 rfl rfl 11 (by decide) (hts (.fieldLink RX2 98 "OptimaWorks$NetDesk" "stops" "I") (by decide +kernel)) (fun _ h9 => h9) rfl dX2_round_35 ?_
        refine lv_icmp_ge (tgt := 68) hx hb dX2_round_38 (by decide) (fun c_38 => ?_) (fun c_38 => ?_)
        · have t_38 : l5_x32.toInt ≥ iN_stops_1.toInt := toI_ge c_38 rfl rfl
          refine lv_iinc (v := (iI (l4_x23.toInt + 1))) hx hb dX2_round_68 hl (k := 1) rfl (iI_add2 (iI_of _) (by decide : (1 : Int32) = iI 1)) (by decide) rfl (fun ls (hl : lv_has ls _ ([(4, .int (iI (l4_x23.toInt + 1))), (5, .int l5_x32), (3, .int (iI (v4.toInt - 1))), (0, .ref (hN 0)), (1, .int p1), (2, .int p2)])) => ?_)
          refine lv_goto (tgt := 23) hx hb dX2_round_71 (by decide) ?_
          have hl : lv_has _ _ ([(4, .int (iI (l4_x23.toInt + 1))), (3, .int (iI (v4.toInt - 1))), (0, .ref (hN 0)), (1, .int p1), (2, .int p2)]) := lv_sub hl [0, 2, 3, 4, 5] rfl
          exact ihx23 fN_rest_x32 (iI (l4_x23.toInt + 1)) _ _ _ (iI_rng (Int.le_trans (by decide) (Int.add_le_add (b_l4_x23.1) (Int.le_refl _))) (by omega) (by decide) (by decide)) (show tuTb (fun x y => tuL (iN_arcs.toInt, fN_from, fN_to, fN_room, fN_cost) (tuK (bI p1) x) (tuK (bI p1) y) (iN_arcs.toInt, fN_from, fN_to, fN_room, fN_cost).1.toNat) (cntB (bI p1) 12) fN_rest_x32 (iI (l4_x23.toInt + 1)).toInt.toNat 0 from by rw [show (iI (l4_x23.toInt + 1)).toInt.toNat = l4_x23.toInt.toNat + 1 from by rw [iI_t (by omega) (by omega)]; omega]; exact tuTb.row hTb (by omega) rfl rfl) (by have e9 : ((iI (l4_x23.toInt + 1))).toInt = (l4_x23.toInt + 1) := (iI_t (Int.le_trans (by decide) (Int.add_le_add (b_l4_x23.1) (Int.le_refl _))) (Int.le_trans (Int.add_le_add (b_l4_x23.2) (Int.le_refl _)) (by decide))); omega) hP hD hS hl
        · have t_38 : ¬ l5_x32.toInt ≥ iN_stops_1.toInt := toI_nge c_38 rfl rfl
          refine lv_aload_n hx hb dX2_round_41 rfl (lv_at hl 3 rfl) ?_
          refine va_get (D := (dC, dI)) (ci := 2) (v := .ref (aN 10)) (C := RX2) (T := TX2) (N := 14) hx hb hts iwsMX2_round_in2 hown hK hP 0 rfl rfl 13 (by decide) (hts (.fieldLink RX2 42 "OptimaWorks$NetDesk" "rest" "[I") (by decide +kernel)) (fun _ h9 => h9) rfl dX2_round_42 ?_
          refine lv_iload hx hb dX2_round_45 (lv_at hl 1 rfl) ?_
          refine lv_bipush (v := 8) hx hb dX2_round_47 (by decide) ?_
          refine lv_imul hx hb dX2_round_49 ?_
          refine lv_topi (fun y251 hy251 => ?_)
          obtain rfl : (iI (l4_x23.toInt * 8)) = y251 := (hy251.trans (iI_mul2 (iI_of _) (by decide : (8 : Int32) = iI 8))).symm
          refine lv_iload hx hb dX2_round_50 (lv_at hl 0 rfl) ?_
          refine lv_iadd hx hb dX2_round_52 ?_
          refine lv_topi (fun y252 hy252 => ?_)
          obtain rfl : (iI ((l4_x23.toInt * 8) + l5_x32.toInt)) = y252 := (hy252.trans (iI_add2 rfl (iI_of _))).symm
          refine lv_aload_n hx hb dX2_round_53 rfl (lv_at hl 3 rfl) ?_
          refine lv_iload hx hb dX2_round_54 (lv_at hl 1 rfl) ?_
          refine lv_iload hx hb dX2_round_56 (lv_at hl 0 rfl) ?_
          have hFc := allFree hD hS hA
          refine va_calli (va_runV (As := [.int l4_x23, .int l5_x32]) (rest := [.int (iI ((l4_x23.toInt * 8) + l5_x32.toInt)), .ref (aN 10)]) ⟨hx, hb, hml, hown, hts⟩ (m_X2_restFrom l dC dI hN aN kN iN_arcs fN_from fN_to fN_room fN_cost iN_reached fN_free fN_before fN_flow fN_length fN_stop_1 iN_stops_1 fN_price_2 fN_rest_x32 l4_x23 l5_x32 (b_iN_arcs) b_fN_from b_fN_to b_fN_before b_fN_stop_1 (b_iN_stops_1) (by first | exact b_l4_x23 | with_reducible assumption | exact ⟨by omega, by omega⟩ | assumption) (by first | exact b_l5_x32 | with_reducible assumption | exact ⟨by omega, by omega⟩ | assumption) ((by omega)) ((by omega)) ((fun x y hx hy => hPb9 x y (by omega) (by omega))) ((fun y b hy hb => (hTb y b (by omega) (Or.inl hy)).2)) H.size) (cwV 2 hts gwsMX2_round_2 rfl rfl rfl hd_yX2_restFrom_RX2 (by decide +kernel)) (fz_pre (va_recv hK hP (ci := 2) (q0 := 0) rfl rfl) hP hK hD) rfl rfl hl.1 rfl (lv_room (Nat.le_of_ble_eq_true rfl)) dX2_round_58 (by decide +kernel)) hS (fun q _ h => hFc q h) hFc (fun r253 u t9_ H locs ht hvm hw9 hB9 hz1 hk1 hS => ?_)
          have f253_0 := hw9
          try dsimp only at f253_0
          have hP : va_P (dC, dI) vwCl (WN hN aN kN iN_arcs fN_from fN_to fN_room fN_cost iN_reached fN_free fN_before fN_flow fN_length fN_stop_1 iN_stops_1 fN_price_2 fN_rest_x32) H := fz_P ht hB9.1
          have hD : va_D A (WN hN aN kN iN_arcs fN_from fN_to fN_room fN_cost iN_reached fN_free fN_before fN_flow fN_length fN_stop_1 iN_stops_1 fN_price_2 fN_rest_x32) := hB9.2.weaken (fun _ q _ h => hFc q.1 h)
          refine va_iast (cA := kN 10) (n := 1024) (f := fN_rest_x32) hx hb hK hP hD hS 11 10 rfl rfl (vp_iI (Int.le_trans (by decide) (Int.add_le_add (Int.mul_le_mul_of_nonneg_right (b_l4_x23.1) (by decide)) (b_l5_x32.1))) (by omega) (by decide)) dX2_round_61 (fun H locs hP hD hS => ?_)
          obtain ⟨u254, hu254⟩ : ∃ f9, f9 = upd fN_rest_x32 ((iI ((l4_x23.toInt * 8) + l5_x32.toInt))).toNatClampNeg r253 := ⟨_, rfl⟩
          have hP : va_P (dC, dI) vwCl (WN hN aN kN iN_arcs fN_from fN_to fN_room fN_cost iN_reached fN_free fN_before fN_flow fN_length fN_stop_1 iN_stops_1 fN_price_2 u254) H := by rw [hu254]; exact hP
          have hD : va_D A (WN hN aN kN iN_arcs fN_from fN_to fN_room fN_cost iN_reached fN_free fN_before fN_flow fN_length fN_stop_1 iN_stops_1 fN_price_2 u254) := by rw [hu254]; exact hD
          have b_u254 : u254 = upd fN_rest_x32 ((iI ((l4_x23.toInt * 8) + l5_x32.toInt))).toNatClampNeg r253 := hu254
          clear hu254
          refine lv_iinc (v := (iI (l5_x32.toInt + 1))) hx hb dX2_round_62 hl (k := 0) rfl (iI_add2 (iI_of _) (by decide : (1 : Int32) = iI 1)) (by decide) rfl (fun ls (hl : lv_has ls _ ([(5, .int (iI (l5_x32.toInt + 1))), (4, .int l4_x23), (3, .int (iI (v4.toInt - 1))), (0, .ref (hN 0)), (1, .int p1), (2, .int p2)])) => ?_)
          refine lv_goto (tgt := 32) hx hb dX2_round_65 (by decide) ?_
          have hl : lv_has _ _ ([(5, .int (iI (l5_x32.toInt + 1))), (4, .int l4_x23), (3, .int (iI (v4.toInt - 1))), (0, .ref (hN 0)), (1, .int p1), (2, .int p2)]) := lv_sub hl [0, 1, 2, 3, 4, 5] rfl
          exact ihx32 u254 (iI (l5_x32.toInt + 1)) _ _ _ (iI_rng (Int.le_trans (by decide) (Int.add_le_add (b_l5_x32.1) (Int.le_refl _))) (by omega) (by decide) (by decide)) (show tuTb (fun x y => tuL (iN_arcs.toInt, fN_from, fN_to, fN_room, fN_cost) (tuK (bI p1) x) (tuK (bI p1) y) (iN_arcs.toInt, fN_from, fN_to, fN_room, fN_cost).1.toNat) (cntB (bI p1) 12) u254 l4_x23.toInt.toNat (iI (l5_x32.toInt + 1)).toInt.toNat from by rw [show (iI (l5_x32.toInt + 1)).toInt.toNat = l5_x32.toInt.toNat + 1 from by rw [iI_t (by omega) (by omega)]; omega]; exact tuTb.put hTb (by omega) (by omega) (by show (iI ((l4_x23.toInt * 8) + l5_x32.toInt)).toInt.toNat = _; rw [iI_t (by omega) (by omega)]; omega) b_u254 (by (have h9 := f253_0.1); rw [eN] at h9; exact h9.cgP (by omega) (fun b hb => hPr _ b (by omega) hb)) f253_0.2) (by have e9 : ((iI (l5_x32.toInt + 1))).toInt = (l5_x32.toInt + 1) := (iI_t (Int.le_trans (by decide) (Int.add_le_add (b_l5_x32.1) (Int.le_refl _))) (Int.le_trans (Int.add_le_add (b_l5_x32.2) (Int.le_refl _)) (by decide))); omega) hP hD hS hl
end
section
/-! flows: what the class has left between two nodes -/
def mB : Bool → Bool → Int → Int
  | true, false, x => x
  | _, _, _ => 0
theorem mB_add (b c : Bool) (x k : Int) : mB b c (x + k) = mB b c x + mB b c k := by
  cases b
  · cases c
    · rfl
    · rfl
  · cases c
    · rfl
    · rfl
theorem mB_0 (b c : Bool) : mB b c 0 = 0 := by
  cases b
  · cases c
    · rfl
    · rfl
  · cases c
    · rfl
    · rfl
theorem mB_pos (b c : Bool) {x : Int} (h : 0 ≤ x) : 0 ≤ mB b c x := by
  cases b
  · cases c
    · exact Int.le_refl _
    · exact Int.le_refl _
  · cases c
    · exact h
    · exact Int.le_refl _
theorem mB_rs (b c : Bool) (r : Int) : rsB b c r 0 = mB b c r := by
  cases b
  · cases c
    · rfl
    · rfl
  · cases c
    · show r - 0 = r
      omega
    · rfl
theorem mB_two (b c : Bool) (w : Int) : mB b c (-w) + mB c b w = - (sB b w - sB c w) := by
  cases b
  · cases c
    · show (0 : Int) + 0 = - (0 - 0)
      omega
    · show 0 + w = - (0 - w)
      omega
  · cases c
    · show -w + 0 = - (w - 0)
      omega
    · show (0 : Int) + 0 = - (w - w)
      omega
def rsM (F : Nat → Int) (S : Nat → Bool) : Nat → Int
  | 0 => 0
  | q + 1 => rsM F S q + mB (S (q / 12)) (S (q % 12)) (F q)
theorem rsM_same {F G : Nat → Int} {S : Nat → Bool} : ∀ {m : Nat}, (∀ q, q < m → G q = F q) → rsM G S m = rsM F S m := by
  intro m
  induction m with
  | zero => intro _; rfl
  | succ m ih =>
    intro h
    show rsM G S m + mB _ _ (G m) = rsM F S m + mB _ _ (F m)
    rw [ih (fun q hq => h q (by omega)), h m (by omega)]
theorem rsM_put {F G : Nat → Int} {S : Nat → Bool} {q : Nat} {k : Int} : ∀ {m : Nat}, q < m → G q = F q + k → (∀ p, p ≠ q → G p = F p) → rsM G S m = rsM F S m + mB (S (q / 12)) (S (q % 12)) k := by
  intro m
  induction m with
  | zero => intro h; exact absurd h (Nat.not_lt_zero q)
  | succ m ih =>
    intro hq h1 h2
    show rsM G S m + mB (S (m / 12)) (S (m % 12)) (G m) = rsM F S m + mB (S (m / 12)) (S (m % 12)) (F m) + mB (S (q / 12)) (S (q % 12)) k
    by_cases e : q = m
    · subst e
      rw [rsM_same (fun p hp => h2 p (by omega)), h1, mB_add]
      omega
    · rw [ih (by omega) h1 h2, h2 m (Ne.symm e)]
      omega
theorem rsM_0 {F : Nat → Int} {S : Nat → Bool} : ∀ {m : Nat}, (∀ q, q < m → F q = 0) → rsM F S m = 0 := by
  intro m
  induction m with
  | zero => intro _; rfl
  | succ m ih =>
    intro h
    show rsM F S m + mB _ _ (F m) = 0
    rw [ih (fun q hq => h q (by omega)), h m (by omega), mB_0]
    rfl
theorem rsM_pos {F : Nat → Int} {S : Nat → Bool} : ∀ {m : Nat}, (∀ q, q < m → 0 ≤ F q) → 0 ≤ rsM F S m := by
  intro m
  induction m with
  | zero => intro _; exact Int.le_refl _
  | succ m ih =>
    intro h
    show 0 ≤ rsM F S m + mB (S (m / 12)) (S (m % 12)) (F m)
    have h1 := ih (fun q hq => h q (by omega))
    have h2 := mB_pos (S (m / 12)) (S (m % 12)) (h m (by omega))
    omega
theorem rsM_cell {F : Nat → Int} {S : Nat → Bool} {q : Nat} (h1 : S (q / 12) = true) (h2 : S (q % 12) = false) : ∀ {m : Nat}, (∀ p, p < m → 0 ≤ F p) → q < m → F q ≤ rsM F S m := by
  intro m
  induction m with
  | zero => intro _ h; exact absurd h (Nat.not_lt_zero q)
  | succ m ih =>
    intro h hq
    show F q ≤ rsM F S m + mB (S (m / 12)) (S (m % 12)) (F m)
    have h3 := rsM_pos (F := F) (S := S) (m := m) (fun p hp => h p (by omega))
    have h4 := mB_pos (S (m / 12)) (S (m % 12)) (h m (by omega))
    by_cases e : q = m
    · subst e
      rw [h1, h2]
      show F q ≤ rsM F S q + F q
      omega
    · have := ih (fun p hp => h p (by omega)) (by omega)
      omega
theorem rsM_zero {F : Nat → Int} {S : Nat → Bool} : ∀ {m : Nat}, (∀ q, q < m → S (q / 12) = true → S (q % 12) = false → F q = 0) → rsM F S m = 0 := by
  intro m
  induction m with
  | zero => intro _; rfl
  | succ m ih =>
    intro h
    show rsM F S m + mB (S (m / 12)) (S (m % 12)) (F m) = 0
    rw [ih (fun q hq => h q (by omega))]
    have h9 := h m (by omega)
    cases e1 : S (m / 12)
    · cases e2 : S (m % 12)
      · rfl
      · rfl
    · cases e2 : S (m % 12)
      · show 0 + F m = 0
        rw [h9 e1 e2]
        rfl
      · rfl
theorem rsM_none {F : Nat → Int} {S : Nat → Bool} {m : Nat} (h : ∀ q, q < m → 0 ≤ F q) (h0 : rsM F S m = 0) {q : Nat} (hq : q < m) (h1 : S (q / 12) = true) (h2 : S (q % 12) = false) : F q = 0 := by
  have h3 := rsM_cell h1 h2 h hq
  have h4 := h q hq
  omega
/-- the cell of a pair -/
theorem cell_d {x y : Nat} (hy : y < 12) : (12 * x + y) / 12 = x ∧ (12 * x + y) % 12 = y := by omega
/-- what is left, and how much went from s to t -/
def mI (d : NtD) (s t : Nat) (F : Nat → Int32) (v : Int) : Prop := (∀ q, q < 144 → 0 ≤ (F q).toInt) ∧ ∀ S, rsM (fI F) S 144 = cpA d S d.1.toNat - (sW S s v - sW S t v)
theorem cpA_all {d : NtD} (h : tRm d) (h0 : 0 ≤ d.1) (h40 : d.1 ≤ 40) (S : Nat → Bool) : cpA d S d.1.toNat ≤ 40000 := by
  have h1 := cpA_le (d := d) (S := S) (m := d.1.toNat) (fun a ha => by have h9 := h a (by omega); exact ⟨h9.1, h9.2.1⟩)
  omega
theorem mI.lim {d : NtD} {s t : Nat} {F : Nat → Int32} {v : Int} (h : mI d s t F v) (hr : tRm d) (h0 : 0 ≤ d.1) (h40 : d.1 ≤ 40) (hts : t ≠ s) : v ≤ 40000 := by
  have h1 := h.2 (fun n => decide (n = s))
  rw [sW_in (decide_eq_true rfl), sW_out (decide_eq_false hts)] at h1
  have h2 := rsM_pos (F := fI F) (S := fun n => decide (n = s)) (m := 144) h.1
  have h3 := cpA_all hr h0 h40 (fun n => decide (n = s))
  omega
theorem sW_bd (S : Nat → Bool) (n : Nat) {v : Int} (h : 0 ≤ v) : 0 ≤ sW S n v ∧ sW S n v ≤ v := by
  unfold sW
  cases S n
  · exact ⟨Int.le_refl _, h⟩
  · exact ⟨h, Int.le_refl _⟩
theorem mI.hi {d : NtD} {s t : Nat} {F : Nat → Int32} {v : Int} (h : mI d s t F v) (hr : tRm d) (h0 : 0 ≤ d.1) (h40 : d.1 ≤ 40) (hv : 0 ≤ v) (hv2 : v ≤ 40000) (S : Nat → Bool) : rsM (fI F) S 144 ≤ 80000 := by
  have h1 := h.2 S
  have h3 := cpA_all hr h0 h40 S
  have h4 := sW_bd S s hv
  have h5 := sW_bd S t hv
  omega
/-- filling the table -/
def mG (d : NtD) (F : Nat → Int32) (i : Nat) : Prop := (∀ q, q < 144 → 0 ≤ (F q).toInt ∧ (F q).toInt ≤ 1000 * (i : Int)) ∧ ∀ S, rsM (fI F) S 144 = cpA d S i
theorem mG.start {d : NtD} {F : Nat → Int32} {i : Nat} (hi : i = 0) (h : ∀ q, q < 144 → F q = 0) : mG d F i := by
  subst hi
  have hz : ∀ q, q < 144 → (F q).toInt = 0 := fun q hq => by rw [h q hq]; decide
  exact ⟨fun q hq => by rw [hz q hq]; exact ⟨Int.le_refl _, Int.le_refl _⟩, fun S => rsM_0 hz⟩
theorem mG.step {d : NtD} {F G : Nat → Int32} {i c : Nat} {x y : Int32} (h : mG d F i) (hi : (i : Int) < d.1) (hr : tRm d) (hv : tVal d) (hc : c = 12 * tFr d i + tTo d i) (hx : x = F c) (hG : G = upd F c y) (hy : y.toInt = x.toInt + tRo d i) : mG d G (i + 1) := by
  have h1 := hr i hi
  have h2 := hv i hi
  have hc2 : c < 144 := by omega
  have hg : ∀ q, (G q).toInt = if q = c then (F c).toInt + tRo d i else (F q).toInt := fun q => by
    rw [hG]
    unfold upd
    by_cases e : q = c
    · rw [if_pos e, if_pos e, hy, hx]
    · rw [if_neg e, if_neg e]
  refine ⟨fun q hq => ?_, fun S => ?_⟩
  · have h3 := h.1 q hq
    have h4 := h.1 c hc2
    rw [hg q]
    by_cases e : q = c
    · rw [if_pos e]; omega
    · rw [if_neg e]; omega
  · rw [rsM_put (F := fI F) (G := fI G) (q := c) (k := tRo d i) hc2 (by show (G c).toInt = (F c).toInt + tRo d i; rw [hg c, if_pos rfl]) (fun p hp => by show (G p).toInt = (F p).toInt; rw [hg p, if_neg hp]), h.2 S]
    have e1 := cell_d (x := tFr d i) (y := tTo d i) h2.2.1
    rw [hc, e1.1, e1.2, ← mB_rs]
    rfl
theorem mG.done {d : NtD} {F : Nat → Int32} {i s t : Nat} (h : mG d F i) (hi : (i : Int) = d.1) : mI d s t F 0 := by
  have e : i = d.1.toNat := by omega
  refine ⟨fun q hq => (h.1 q hq).1, fun S => ?_⟩
  rw [h.2 S, sW_0, sW_0, e]
  omega
/-- a walk back over the arcs that were taken -/
def pIt (f : Nat → Int32) (t : Nat) : Nat → Nat
  | 0 => t
  | k + 1 => (f (pIt f t k)).toInt.toNat
/-- what reach tells: each node but the first has one before it, nearer, with room between -/
def RcL (s : Nat) (F f : Nat → Int32) (R : Int32) (lev : Nat → Nat) : Prop := (∀ j, j < 12 → bt R j = true → j = s ∨ ((f j).toInt.toNat < 12 ∧ 0 ≤ (f j).toInt ∧ bt R (f j).toInt.toNat = true ∧ lev (f j).toInt.toNat < lev j ∧ 0 < (F (12 * (f j).toInt.toNat + j)).toInt)) ∧ (∀ j, j < 12 → bt R j = true → lev j + 1 ≤ cntB (bt R) 12) ∧ (∀ j, bt R j = true → j < 12) ∧ bt R s = true
def ClF (F : Nat → Int32) (R : Int32) (i m : Nat) : Prop := ∀ j, j < m → 0 < (F (12 * i + j)).toInt → bt R j = true
/-- reach at the head of a turn -/
def RQ1 (s : Nat) (F f : Nat → Int32) (R E : Int32) (k : Int) : Prop := (∃ lev, RcL s F f R lev) ∧ (∀ i, i < 12 → bt R i = true → bt E i = false → ClF F R i 12) ∧ (∀ i, bt E i = true → i < 12) ∧ ((∃ i, bt E i = true) → k + 1 ≤ (cntB (bt R) 12 : Int))
/-- reach within a turn, at the node i -/
def RQ2 (s : Nat) (F f : Nat → Int32) (R E G : Int32) (k : Int) (i : Nat) : Prop := (∃ lev, RcL s F f R lev) ∧ (∀ q, q < 12 → bt R q = true → bt G q = false → (bt E q = false ∨ q < i) → ClF F R q 12) ∧ (∀ q, bt G q = true → q < 12) ∧ k + 1 ≤ (cntB (bt R) 12 : Int) ∧ ((∃ q, bt G q = true) → k + 2 ≤ (cntB (bt R) 12 : Int))
def RQ3 (s : Nat) (F f : Nat → Int32) (R E G : Int32) (k : Int) (i j : Nat) : Prop := RQ2 s F f R E G k i ∧ (bt E i = true → ClF F R i j)
/-- reach at its end -/
def RE (s : Nat) (F f : Nat → Int32) (R : Int32) : Prop := (∃ lev, RcL s F f R lev) ∧ ∀ i, i < 12 → bt R i = true → ClF F R i 12
theorem bt_bit {i : Int32} {j : Nat} (h0 : 0 ≤ i.toInt) (h1 : i.toInt ≤ 11) : bt ((1 : Int32) <<< (i &&& 31)) j = decide (j = i.toInt.toNat) := by
  have h := bI_1 (i := i.toInt.toNat) (j := j) (by omega)
  rw [nI_tz h0] at h
  exact h
theorem RQ1.first {s : Nat} {F f : Nat → Int32} {p R E : Int32} {k : Int} (h0 : 0 ≤ p.toInt) (h1 : p.toInt ≤ 11) (hs : s = p.toInt.toNat) (hR : R = (1 : Int32) <<< (p &&& 31)) (hE : E = R) (hk : k = 0) : RQ1 s F f R E k := by
  subst hE hk
  have hb : ∀ j, bt E j = decide (j = s) := fun j => by rw [hR, bt_bit h0 h1, hs]
  have hc : 0 < cntB (bt E) 12 := by
    have h9 := cntB_lt (p := fun _ => false) (q := bt E) (n := 12) (i := s) (fun _ _ h => by cases h) (by omega) rfl (by rw [hb]; exact decide_eq_true rfl)
    omega
  have hlow : ∀ j, bt E j = true → j < 12 := fun j h => by
    rw [hb] at h
    have := of_decide_eq_true h
    omega
  refine ⟨⟨fun _ => 0, fun j _ h => Or.inl ?_, fun j _ _ => by dsimp only; omega, hlow, by rw [hb]; exact decide_eq_true rfl⟩, fun i _ h3 h4 => ?_, hlow, fun _ => by omega⟩
  · rw [hb] at h
    exact of_decide_eq_true h
  · rw [h3] at h4
    cases h4
theorem RQ2.start {s : Nat} {F f : Nat → Int32} {R E G : Int32} {k : Int} {i : Nat} (h : RQ1 s F f R E k) (hE : ¬ E.toInt = 0) (hG : G = 0) (hi : i = 0) : RQ2 s F f R E G k i := by
  subst hG hi
  obtain ⟨hl, h2, h3, h4⟩ := h
  have hex : ∃ q, bt E q = true := Classical.byContradiction (fun h9 => hE (by
    have hz : E = 0 := bI_zero.mpr (fun j => by
      cases e : bI E j
      · rfl
      · exact absurd ⟨j, e⟩ h9)
    rw [hz]; decide))
  have hno : ∀ q, ¬ bt 0 q = true := fun q h9 => by
    have h8 : bt 0 q = false := bI_0 q
    rw [h8] at h9
    cases h9
  exact ⟨hl, fun q h4 h5 _ h7 => h2 q h4 h5 (h7.resolve_right (Nat.not_lt_zero q)), fun q h9 => absurd h9 (hno q), h4 hex, fun ⟨q, h9⟩ => absurd h9 (hno q)⟩
theorem RQ3.start {s : Nat} {F f : Nat → Int32} {R E G : Int32} {k : Int} {i j : Nat} (h : RQ2 s F f R E G k i) (hj : j = 0) : RQ3 s F f R E G k i j := by
  subst hj
  exact ⟨h, fun _ j hj => absurd hj (Nat.not_lt_zero j)⟩
theorem RQ3.seen {s : Nat} {F f : Nat → Int32} {R E G : Int32} {k : Int} {i j : Nat} (h : RQ3 s F f R E G k i j) (hj : bt R j = true ∨ ¬ 0 < (F (12 * i + j)).toInt) : RQ3 s F f R E G k i (j + 1) := by
  refine ⟨h.1, fun hE q hq hF => ?_⟩
  by_cases e : q = j
  · subst e
    exact hj.resolve_right (fun h9 => h9 hF)
  · exact h.2 hE q (by omega) hF
theorem RQ3.exit {s : Nat} {F f : Nat → Int32} {R E G : Int32} {k : Int} {i j : Nat} (h : RQ3 s F f R E G k i j) (hj : 12 ≤ j ∨ bt E i = false) : RQ2 s F f R E G k (i + 1) := by
  obtain ⟨⟨h1, h2, h3⟩, h4⟩ := h
  refine ⟨h1, fun q k1 k2 k3 k4 => ?_, h3⟩
  by_cases e : q = i
  · subst e
    cases e2 : bt E q
    · exact h2 q k1 k2 k3 (Or.inl e2)
    · have hj2 := hj.resolve_right (fun h9 => by rw [e2] at h9; cases h9)
      exact fun n hn hF => h4 e2 n (by omega) hF
  · exact h2 q k1 k2 k3 (k4.imp id (fun h9 => by omega))
theorem RQ2.exit {s : Nat} {F f : Nat → Int32} {R E G : Int32} {k k2 : Int} {i : Nat} (h : RQ2 s F f R E G k i) (hi : 12 ≤ i) (hk : k2 = k + 1) : RQ1 s F f R G k2 := by
  subst hk
  obtain ⟨h1, h2, h3, h4, h5⟩ := h
  refine ⟨h1, fun q k1 k2 k3 => h2 q k1 k2 k3 (Or.inr (by omega)), h3, fun h9 => ?_⟩
  have := h5 h9
  omega
theorem RQ1.done {s : Nat} {F f : Nat → Int32} {R E : Int32} {k : Int} (h : RQ1 s F f R E k) (hk : 12 ≤ k ∨ E.toInt = 0) : RE s F f R := by
  obtain ⟨h1, h2, h3, h4⟩ := h
  refine ⟨h1, fun i hi hR => h2 i hi hR ?_⟩
  cases e : bt E i
  · rfl
  · exfalso
    rcases hk with hk | hk
    · have h5 := h4 ⟨i, e⟩
      have h6 := cntB_le (bt R) 12
      omega
    · have hz : E = 0 := Int32.toInt_inj.mp (by rw [hk]; decide)
      rw [hz] at e
      have h8 : bt 0 i = false := bI_0 i
      rw [h8] at e
      cases e
theorem RQ3.add {s : Nat} {F f f2 : Nat → Int32} {R E G R2 G2 x y : Int32} {k : Int} {i j : Nat} (h : RQ3 s F f R E G k i j) (hi : i < 12) (hj : j < 12) (hx : x.toInt = (i : Int)) (hy : y.toInt = (j : Int)) (hE : bt E i = true) (hER : SubB E R) (hR : bt R j = false) (hF : 0 < (F (12 * i + j)).toInt) (hf : f2 = upd f j x) (hR2 : R2 = R ||| (1 : Int32) <<< (y &&& 31)) (hG2 : G2 = G ||| (1 : Int32) <<< (y &&& 31)) : RQ3 s F f2 R2 E G2 k i (j + 1) := by
  obtain ⟨⟨⟨lev, a1, a2, a3, a4⟩, h2, h3, h4, h5⟩, h6⟩ := h
  have ej : y.toInt.toNat = j := by omega
  have hb : ∀ q, bt R2 q = (bt R q || decide (q = j)) := fun q => by rw [hR2, bt_or, bt_bit (by omega) (by omega), ej]
  have hg : ∀ q, bt G2 q = (bt G q || decide (q = j)) := fun q => by rw [hG2, bt_or, bt_bit (by omega) (by omega), ej]
  have hup : ∀ q, bt R q = true → bt R2 q = true := fun q h9 => by rw [hb, h9]; rfl
  have hj2 : bt R2 j = true := by rw [hb, hR, decide_eq_true rfl]; rfl
  have hdn : ∀ q, bt R2 q = true → q ≠ j → bt R q = true := fun q h9 h8 => by
    rw [hb, decide_eq_false h8, Bool.or_false] at h9
    exact h9
  have hRi : bt R i = true := hER i hi hE
  have hij : i ≠ j := fun e => by rw [e, hR] at hRi; cases hRi
  have hc : cntB (bt R2) 12 = cntB (bt R) 12 + 1 := cntB_set hj hR (fun q => by
    rw [hb, Bool.or_eq_true]
    exact ⟨fun h9 => h9.imp id of_decide_eq_true, fun h9 => h9.imp id decide_eq_true⟩)
  have hxn : x.toInt.toNat = i := by omega
  have hfj : f2 j = x := by rw [hf]; exact if_pos rfl
  have hfn : ∀ q, q ≠ j → f2 q = f q := fun q h9 => by rw [hf]; exact if_neg h9
  have hli := a2 i hi hRi
  have hmono : ∀ q m, ClF F R q m → ClF F R2 q m := fun q m h9 n hn hF9 => hup n (h9 n hn hF9)
  refine ⟨⟨⟨fun n => if n = j then lev i + 1 else lev n, ?_, ?_, ?_, hup s a4⟩, ?_, ?_, by omega, fun _ => by omega⟩, ?_⟩
  · intro n hn hn2
    by_cases e : n = j
    · refine Or.inr ?_
      rw [e, hfj, hxn]
      refine ⟨hi, by omega, hup i hRi, ?_, hF⟩
      show (if i = j then lev i + 1 else lev i) < (if j = j then lev i + 1 else lev j)
      rw [if_neg hij, if_pos rfl]
      omega
    · rcases a1 n hn (hdn n hn2 e) with h9 | ⟨b1, b2, b3, b4, b5⟩
      · exact Or.inl h9
      · refine Or.inr ?_
        rw [hfn n e]
        refine ⟨b1, b2, hup _ b3, ?_, b5⟩
        show (if (f n).toInt.toNat = j then lev i + 1 else lev (f n).toInt.toNat) < (if n = j then lev i + 1 else lev n)
        rw [if_neg (fun e9 => by rw [e9, hR] at b3; cases b3), if_neg e]
        exact b4
  · intro n hn hn2
    show (if n = j then lev i + 1 else lev n) + 1 ≤ cntB (bt R2) 12
    by_cases e : n = j
    · rw [if_pos e]; omega
    · rw [if_neg e]
      have := a2 n hn (hdn n hn2 e)
      omega
  · intro n h9
    by_cases e : n = j
    · omega
    · exact a3 n (hdn n h9 e)
  · intro q k1 k2 k3 k4
    have e : q ≠ j := fun e => by rw [hg, e, decide_eq_true rfl, Bool.or_true] at k3; cases k3
    refine hmono q 12 (h2 q k1 (hdn q k2 e) ?_ k4)
    cases e2 : bt G q
    · rfl
    · rw [hg, e2] at k3; cases k3
  · intro q h9
    rw [hg, Bool.or_eq_true] at h9
    rcases h9 with h9 | h9
    · exact h3 q h9
    · have := of_decide_eq_true h9
      omega
  · intro hE9 n hn hF9
    by_cases e : n = j
    · rw [e]; exact hj2
    · exact hup n (h6 hE9 n (by omega) hF9)
/-- at the end: the greatest flow and the cut -/
theorem RE.max {d : NtD} {s t : Nat} {F f : Nat → Int32} {R : Int32} {v : Int} (h : mI d s t F v) (hE : RE s F f R) (ht : bt R t = false) (ht12 : t < 12) : mxF d s t v ∧ mxC d s t R := by
  obtain ⟨⟨lev, a1, a2, a3, a4⟩, hcl⟩ := hE
  have hsep : sep s t (bt R) := ⟨a4, ht⟩
  have hz : rsM (fI F) (bt R) 144 = 0 := rsM_zero (fun q hq h1 h2 => by
    have h3 := h.1 q hq
    by_cases e : 0 < (F q).toInt
    · have h4 := hcl (q / 12) (by omega) h1 (q % 12) (by omega) (by rw [show 12 * (q / 12) + q % 12 = q from by omega]; exact e)
      rw [h2] at h4
      cases h4
    · show (F q).toInt = 0
      omega)
  have hv : cpA d (bt R) d.1.toNat = v := by
    have h9 := h.2 (bt R)
    rw [hz, sW_in hsep.1, sW_out hsep.2] at h9
    omega
  have hle : ∀ S, sep s t S → v ≤ cpA d S d.1.toNat := fun S hS => by
    have h9 := h.2 S
    have h8 := rsM_pos (F := fI F) (S := S) (m := 144) h.1
    rw [sW_in hS.1, sW_out hS.2] at h9
    omega
  refine ⟨⟨⟨bt R, hsep, hv⟩, hle⟩, hsep, fun S hS => by show cpA d (bt R) d.1.toNat ≤ _; rw [hv]; exact hle S hS, fun S hS e n hn hn2 => ?_, a3⟩
  have e2 : cpA d S d.1.toNat = v := e.trans hv
  have h0 : rsM (fI F) S 144 = 0 := by
    have h9 := h.2 S
    rw [sW_in hS.1, sW_out hS.2] at h9
    omega
  have key : ∀ m n, lev n < m → n < 12 → bt R n = true → S n = true := by
    intro m
    induction m with
    | zero => intro n h9; exact absurd h9 (Nat.not_lt_zero _)
    | succ m ih =>
      intro n h9 hn9 hR9
      rcases a1 n hn9 hR9 with e9 | ⟨b1, b2, b3, b4, b5⟩
      · rw [e9]; exact hS.1
      · have hp := ih (f n).toInt.toNat (by omega) b1 b3
        cases e8 : S n
        · exfalso
          have c1 := cell_d (x := (f n).toInt.toNat) (y := n) hn9
          have h7 := rsM_none (F := fI F) (S := S) (m := 144) h.1 h0 (q := 12 * (f n).toInt.toNat + n) (by omega) (by rw [c1.1]; exact hp) (by rw [c1.2]; exact e8)
          have h6 : (F (12 * (f n).toInt.toNat + n)).toInt = 0 := h7
          omega
        · rfl
  exact key (lev n + 1) n (by omega) hn hn2
/-- the way back is measured -/
def Wk1 (t : Nat) (F f : Nat → Int32) (R : Int32) (lev : Nat → Nat) (i n : Nat) (w : Int) : Prop := n = pIt f t i ∧ n < 12 ∧ bt R n = true ∧ lev n + i ≤ 11 ∧ 1 ≤ w ∧ ∀ k, k < i → w ≤ (F (12 * pIt f t (k + 1) + pIt f t k)).toInt
theorem Wk1.start {s t : Nat} {F f : Nat → Int32} {R : Int32} {lev : Nat → Nat} {i n : Nat} {w : Int} (h : RcL s F f R lev) (ht : t < 12) (hR : bt R t = true) (hi : i = 0) (hn : n = t) (hw : 1 ≤ w) : Wk1 t F f R lev i n w := by
  subst hi hn
  have h1 := h.2.1 n ht hR
  have h2 := cntB_le (bt R) 12
  exact ⟨rfl, ht, hR, by omega, hw, fun k hk => absurd hk (Nat.not_lt_zero k)⟩
theorem Wk1.at {s t : Nat} {F f : Nat → Int32} {R : Int32} {lev : Nat → Nat} {i n : Nat} {w : Int} (h : Wk1 t F f R lev i n w) (hL : RcL s F f R lev) (hs : n ≠ s) : (f n).toInt.toNat < 12 ∧ 0 ≤ (f n).toInt ∧ bt R (f n).toInt.toNat = true ∧ lev (f n).toInt.toNat < lev n ∧ 0 < (F (12 * (f n).toInt.toNat + n)).toInt := (hL.1 n h.2.1 h.2.2.1).resolve_left hs
theorem Wk1.step {s t : Nat} {F f : Nat → Int32} {R : Int32} {lev : Nat → Nat} {i i2 n n2 : Nat} {w w2 : Int} (h : Wk1 t F f R lev i n w) (hL : RcL s F f R lev) (hs : n ≠ s) (hn : n2 = (f n).toInt.toNat) (hi : i2 = i + 1) (h1 : w2 ≤ w) (h2 : w2 ≤ (F (12 * n2 + n)).toInt) (h3 : 1 ≤ w2) : Wk1 t F f R lev i2 n2 w2 := by
  have ha := h.at hL hs
  obtain ⟨b1, b2, b3, b4, b5, b6⟩ := h
  subst hi
  have e : pIt f t (i + 1) = n2 := by
    show (f (pIt f t i)).toInt.toNat = n2
    rw [← b1, hn]
  rw [← hn] at ha
  refine ⟨e.symm, ha.1, ha.2.2.1, by omega, h3, fun k hk => ?_⟩
  by_cases e2 : k = i
  · subst e2
    rw [e, ← b1]
    exact h2
  · have := b6 k (by omega)
    omega
theorem Wk1.stop {t : Nat} {F f : Nat → Int32} {R : Int32} {lev : Nat → Nat} {i n : Nat} {w : Int} (h : Wk1 t F f R lev i n w) (hi : 12 ≤ i) : False := by
  have := h.2.2.2.1
  omega
/-- the way back is used -/
def Wk2 (t : Nat) (F f F2 : Nat → Int32) (R : Int32) (lev : Nat → Nat) (w : Int) (I0 i n : Nat) : Prop := n = pIt f t i ∧ n < 12 ∧ bt R n = true ∧ lev n + i ≤ 11 ∧ i ≤ I0 ∧ (∀ q, q < 144 → 0 ≤ (F2 q).toInt) ∧ (∀ S, rsM (fI F2) S 144 = rsM (fI F) S 144 - (sW S n w - sW S t w)) ∧ ∀ x y, x < 12 → y < 12 → lev x ≤ lev n → lev y ≤ lev n → F2 (12 * x + y) = F (12 * x + y)
theorem Wk2.start {s t : Nat} {F f : Nat → Int32} {R : Int32} {lev : Nat → Nat} {w : Int} {I0 i n : Nat} (h : RcL s F f R lev) (ht : t < 12) (hR : bt R t = true) (hF : ∀ q, q < 144 → 0 ≤ (F q).toInt) (hi : i = 0) (hn : n = t) : Wk2 t F f F R lev w I0 i n := by
  subst hi hn
  have h1 := h.2.1 n ht hR
  have h2 := cntB_le (bt R) 12
  exact ⟨rfl, ht, hR, by omega, Nat.zero_le _, hF, fun S => by omega, fun _ _ _ _ _ _ => rfl⟩
theorem Wk2.at {s t : Nat} {F f F2 : Nat → Int32} {R : Int32} {lev : Nat → Nat} {w : Int} {I0 i n : Nat} (h : Wk2 t F f F2 R lev w I0 i n) (hL : RcL s F f R lev) (hs : n ≠ s) : (f n).toInt.toNat < 12 ∧ 0 ≤ (f n).toInt ∧ bt R (f n).toInt.toNat = true ∧ lev (f n).toInt.toNat < lev n ∧ 0 < (F (12 * (f n).toInt.toNat + n)).toInt := (hL.1 n h.2.1 h.2.2.1).resolve_left hs
theorem Wk2.wid {s t : Nat} {F f F2 : Nat → Int32} {R : Int32} {lev : Nat → Nat} {w : Int} {I0 i n m : Nat} (h : Wk2 t F f F2 R lev w I0 i n) (hL : RcL s F f R lev) (h1 : Wk1 t F f R lev I0 m w) (hm : m = s) (hs : n ≠ s) : w ≤ (F2 (12 * (f n).toInt.toNat + n)).toInt := by
  have ha := h.at hL hs
  obtain ⟨b1, b2, b3, b4, b5, b6, b7, b8⟩ := h
  rw [b8 _ _ ha.1 b2 (by omega) (Nat.le_refl _)]
  have hi : i ≠ I0 := fun e => hs (by rw [b1, e, ← h1.1, hm])
  have h9 := h1.2.2.2.2.2 i (by omega)
  have e : pIt f t (i + 1) = (f n).toInt.toNat := by
    show (f (pIt f t i)).toInt.toNat = _
    rw [← b1]
  rw [e, ← b1] at h9
  exact h9
theorem Wk2.hi {d : NtD} {s t : Nat} {F f F2 : Nat → Int32} {R : Int32} {lev : Nat → Nat} {w v : Int} {I0 i n : Nat} (h : Wk2 t F f F2 R lev w I0 i n) (hI : mI d s t F v) (hr : tRm d) (h0 : 0 ≤ d.1) (h40 : d.1 ≤ 40) (hv : 0 ≤ v) (hv2 : v ≤ 40000) (hw : 0 ≤ w) {p : Nat} (hp : p < 12) (hpn : p ≠ n) : (F2 (12 * n + p)).toInt ≤ 80000 := by
  obtain ⟨b1, b2, b3, b4, b5, b6, b7, b8⟩ := h
  have c1 := cell_d (x := n) (y := p) hp
  have h1 := rsM_cell (F := fI F2) (S := fun q => decide (q = n)) (q := 12 * n + p) (by rw [c1.1]; exact decide_eq_true rfl) (by rw [c1.2]; exact decide_eq_false hpn) (m := 144) b6 (by omega)
  have h2 := b7 (fun q => decide (q = n))
  rw [sW_in (decide_eq_true rfl)] at h2
  have h3 := hI.hi hr h0 h40 hv hv2 (fun q => decide (q = n))
  have h4 := sW_bd (fun q => decide (q = n)) t hw
  show fI F2 (12 * n + p) ≤ 80000
  omega
theorem Wk2.step {s t : Nat} {F f F2 F3 F4 : Nat → Int32} {R : Int32} {lev : Nat → Nat} {w : Int} {I0 i i2 n n2 m c e : Nat} {x y : Int32} (h : Wk2 t F f F2 R lev w I0 i n) (hL : RcL s F f R lev) (h1 : Wk1 t F f R lev I0 m w) (hm : m = s) (hs : n ≠ s) (hn : n2 = (f n).toInt.toNat) (hi : i2 = i + 1) (hc : c = 12 * n2 + n) (he : e = 12 * n + n2) (hF3 : F3 = upd F2 c x) (hx : x.toInt = (F2 c).toInt - w) (hF4 : F4 = upd F3 e y) (hy : y.toInt = (F3 e).toInt + w) : Wk2 t F f F4 R lev w I0 i2 n2 := by
  have ha := h.at hL hs
  have hwd := h.wid hL h1 hm hs
  have hi9 : i ≠ I0 := fun e9 => hs (by rw [h.1, e9, ← h1.1, hm])
  have hw1 := h1.2.2.2.2.1
  obtain ⟨b1, b2, b3, b4, b5, b6, b7, b8⟩ := h
  rw [← hn] at ha hwd
  have hne : n2 ≠ n := fun e9 => by have h9 := ha.2.2.2.1; rw [e9] at h9; omega
  have hce : e ≠ c := by omega
  have h3 : ∀ q, q ≠ c → F3 q = F2 q := fun q h9 => by rw [hF3]; exact if_neg h9
  have h3c : F3 c = x := by rw [hF3]; exact if_pos rfl
  have h4 : ∀ q, q ≠ e → F4 q = F3 q := fun q h9 => by rw [hF4]; exact if_neg h9
  have h4e : F4 e = y := by rw [hF4]; exact if_pos rfl
  have e1 : pIt f t (i + 1) = n2 := by
    show (f (pIt f t i)).toInt.toNat = n2
    rw [← b1, hn]
  subst hi
  refine ⟨e1.symm, ha.1, ha.2.2.1, by omega, by omega, fun q hq => ?_, fun S => ?_, fun x9 y9 k1 k2 k3 k4 => ?_⟩
  · have h9 := b6 q hq
    by_cases q1 : q = e
    · rw [q1, h4e, hy, h3 e hce]
      have := b6 e (by omega)
      omega
    · rw [h4 q q1]
      by_cases q2 : q = c
      · rw [q2, h3c, hx, hc]
        omega
      · rw [h3 q q2]; exact h9
  · have m1 := rsM_put (F := fI F2) (G := fI F3) (S := S) (q := c) (k := -w) (m := 144) (by omega) (by show (F3 c).toInt = (F2 c).toInt + -w; rw [h3c, hx]; omega) (fun p hp => by show (F3 p).toInt = (F2 p).toInt; rw [h3 p hp])
    have m2 := rsM_put (F := fI F3) (G := fI F4) (S := S) (q := e) (k := w) (m := 144) (by omega) (by show (F4 e).toInt = (F3 e).toInt + w; rw [h4e, hy]) (fun p hp => by show (F4 p).toInt = (F3 p).toInt; rw [h4 p hp])
    have c1 := cell_d (x := n2) (y := n) b2
    have c2 := cell_d (x := n) (y := n2) ha.1
    rw [hc, c1.1, c1.2] at m1
    rw [he, c2.1, c2.2] at m2
    have m3 := mB_two (S n2) (S n) w
    have m4 := b7 S
    unfold sW at m4 ⊢
    omega
  · have hle := ha.2.2.2.1
    have q1 : 12 * x9 + y9 ≠ e := fun e9 => by
      have hx9 : x9 = n := by omega
      rw [hx9] at k3
      omega
    have q2 : 12 * x9 + y9 ≠ c := fun e9 => by
      have hy9 : y9 = n := by omega
      rw [hy9] at k4
      omega
    rw [h4 _ q1, h3 _ q2]
    exact b8 x9 y9 k1 k2 (by omega) (by omega)
theorem Wk2.stop {t : Nat} {F f F2 : Nat → Int32} {R : Int32} {lev : Nat → Nat} {w : Int} {I0 i n : Nat} (h : Wk2 t F f F2 R lev w I0 i n) (hi : 12 ≤ i) : False := by
  have := h.2.2.2.1
  omega
theorem Wk2.done {d : NtD} {s t : Nat} {F f F2 : Nat → Int32} {R : Int32} {lev : Nat → Nat} {w v v2 : Int} {I0 i n : Nat} (h : Wk2 t F f F2 R lev w I0 i n) (hI : mI d s t F v) (hn : n = s) (hv : v2 = v + w) : mI d s t F2 v2 := by
  obtain ⟨b1, b2, b3, b4, b5, b6, b7, b8⟩ := h
  refine ⟨b6, fun S => ?_⟩
  rw [b7 S, hI.2 S, hn, hv, sW_add, sW_add]
  omega
theorem mI.cell {d : NtD} {s t : Nat} {F : Nat → Int32} {v : Int} (h : mI d s t F v) (hr : tRm d) (h0 : 0 ≤ d.1) (h40 : d.1 ≤ 40) (hv : 0 ≤ v) (hv2 : v ≤ 40000) {p n : Nat} (hp : p < 12) (hn : n < 12) (hpn : p ≠ n) : (F (12 * p + n)).toInt ≤ 80000 := by
  have c1 := cell_d (x := p) (y := n) hn
  have h1 := rsM_cell (F := fI F) (S := fun q => decide (q = p)) (q := 12 * p + n) (by rw [c1.1]; exact decide_eq_true rfl) (by rw [c1.2]; exact decide_eq_false (Ne.symm hpn)) (m := 144) h.1 (by omega)
  have h3 := h.hi hr h0 h40 hv hv2 (fun q => decide (q = p))
  show fI F (12 * p + n) ≤ 80000
  omega
theorem Wk1.w80 {d : NtD} {s t : Nat} {F f : Nat → Int32} {R : Int32} {lev : Nat → Nat} {I0 m : Nat} {w v : Int} (h : Wk1 t F f R lev I0 m w) (hL : RcL s F f R lev) (hR : bt R t = true) (ht : t < 12) (hI : mI d s t F v) (hr : tRm d) (h0 : 0 ≤ d.1) (h40 : d.1 ≤ 40) (hv : 0 ≤ v) (hv2 : v ≤ 40000) (hm : m = s) (hts : t ≠ s) : w ≤ 80000 := by
  obtain ⟨b1, b2, b3, b4, b5, b6⟩ := h
  have hi : I0 ≠ 0 := fun e => hts (by rw [e] at b1; rw [← hm, b1]; rfl)
  have h1 := b6 0 (by omega)
  have ha := (hL.1 t ht hR).resolve_left hts
  have h2 := hI.cell hr h0 h40 hv hv2 (p := (f t).toInt.toNat) (n := t) ha.1 ht (fun e => by have h9 := ha.2.2.2.1; rw [e] at h9; omega)
  have h3 : w ≤ (F (12 * (f t).toInt.toNat + t)).toInt := h1
  omega
end
section
theorem dX2_reach_0 : decode cX2_reach 0 = .ok (.aload_n 0, 1) := dk_42 (by decide +kernel)
theorem dX2_reach_1 : decode cX2_reach 1 = .ok (.iconst 1, 1) := dk_4 (by decide +kernel)
theorem dX2_reach_2 : decode cX2_reach 2 = .ok (.iload_n 1, 1) := dk_27 (by decide +kernel)
theorem dX2_reach_3 : decode cX2_reach 3 = .ok (.ishl, 1) := dk_120 (by decide +kernel)
theorem dX2_reach_4 : decode cX2_reach 4 = .ok (.putfield 67, 3) := dk_181 (by decide +kernel)
theorem dX2_reach_7 : decode cX2_reach 7 = .ok (.aload_n 0, 1) := dk_42 (by decide +kernel)
theorem dX2_reach_8 : decode cX2_reach 8 = .ok (.getfield 67, 3) := dk_180 (by decide +kernel)
theorem dX2_reach_11 : decode cX2_reach 11 = .ok (.istore_n 3, 1) := dk_62 (by decide +kernel)
theorem dX2_reach_12 : decode cX2_reach 12 = .ok (.iconst 0, 1) := dk_3 (by decide +kernel)
theorem dX2_reach_13 : decode cX2_reach 13 = .ok (.istore 4, 2) := dk_54 (by decide +kernel)
theorem dX2_reach_15 : decode cX2_reach 15 = .ok (.iload 4, 2) := dk_21 (by decide +kernel)
theorem dX2_reach_17 : decode cX2_reach 17 = .ok (.bipush 12, 2) := dk_16 (by decide +kernel)
theorem dX2_reach_19 : decode cX2_reach 19 = .ok (.if_icmp .ge 119, 3) := dk_162 (by decide +kernel)
theorem dX2_reach_22 : decode cX2_reach 22 = .ok (.iload_n 3, 1) := dk_29 (by decide +kernel)
theorem dX2_reach_23 : decode cX2_reach 23 = .ok (.ifCond .eq 115, 3) := dk_153 (by decide +kernel)
theorem dX2_reach_26 : decode cX2_reach 26 = .ok (.iconst 0, 1) := dk_3 (by decide +kernel)
theorem dX2_reach_27 : decode cX2_reach 27 = .ok (.istore 5, 2) := dk_54 (by decide +kernel)
theorem dX2_reach_29 : decode cX2_reach 29 = .ok (.iconst 0, 1) := dk_3 (by decide +kernel)
theorem dX2_reach_30 : decode cX2_reach 30 = .ok (.istore 6, 2) := dk_54 (by decide +kernel)
theorem dX2_reach_32 : decode cX2_reach 32 = .ok (.iload 6, 2) := dk_21 (by decide +kernel)
theorem dX2_reach_34 : decode cX2_reach 34 = .ok (.bipush 12, 2) := dk_16 (by decide +kernel)
theorem dX2_reach_36 : decode cX2_reach 36 = .ok (.if_icmp .ge 93, 3) := dk_162 (by decide +kernel)
theorem dX2_reach_39 : decode cX2_reach 39 = .ok (.iconst 0, 1) := dk_3 (by decide +kernel)
theorem dX2_reach_40 : decode cX2_reach 40 = .ok (.istore 7, 2) := dk_54 (by decide +kernel)
theorem dX2_reach_42 : decode cX2_reach 42 = .ok (.iload 7, 2) := dk_21 (by decide +kernel)
theorem dX2_reach_44 : decode cX2_reach 44 = .ok (.bipush 12, 2) := dk_16 (by decide +kernel)
theorem dX2_reach_46 : decode cX2_reach 46 = .ok (.if_icmp .ge 77, 3) := dk_162 (by decide +kernel)
theorem dX2_reach_49 : decode cX2_reach 49 = .ok (.iload_n 3, 1) := dk_29 (by decide +kernel)
theorem dX2_reach_50 : decode cX2_reach 50 = .ok (.iload 6, 2) := dk_21 (by decide +kernel)
theorem dX2_reach_52 : decode cX2_reach 52 = .ok (.ishr, 1) := dk_122 (by decide +kernel)
theorem dX2_reach_53 : decode cX2_reach 53 = .ok (.iconst 1, 1) := dk_4 (by decide +kernel)
theorem dX2_reach_54 : decode cX2_reach 54 = .ok (.iand, 1) := dk_126 (by decide +kernel)
theorem dX2_reach_55 : decode cX2_reach 55 = .ok (.ifCond .eq 68, 3) := dk_153 (by decide +kernel)
theorem dX2_reach_58 : decode cX2_reach 58 = .ok (.aload_n 0, 1) := dk_42 (by decide +kernel)
theorem dX2_reach_59 : decode cX2_reach 59 = .ok (.getfield 67, 3) := dk_180 (by decide +kernel)
theorem dX2_reach_62 : decode cX2_reach 62 = .ok (.iload 7, 2) := dk_21 (by decide +kernel)
theorem dX2_reach_64 : decode cX2_reach 64 = .ok (.ishr, 1) := dk_122 (by decide +kernel)
theorem dX2_reach_65 : decode cX2_reach 65 = .ok (.iconst 1, 1) := dk_4 (by decide +kernel)
theorem dX2_reach_66 : decode cX2_reach 66 = .ok (.iand, 1) := dk_126 (by decide +kernel)
theorem dX2_reach_67 : decode cX2_reach 67 = .ok (.ifCond .ne 50, 3) := dk_154 (by decide +kernel)
theorem dX2_reach_70 : decode cX2_reach 70 = .ok (.aload_n 0, 1) := dk_42 (by decide +kernel)
theorem dX2_reach_71 : decode cX2_reach 71 = .ok (.getfield 24, 3) := dk_180 (by decide +kernel)
theorem dX2_reach_74 : decode cX2_reach 74 = .ok (.iload 6, 2) := dk_21 (by decide +kernel)
theorem dX2_reach_76 : decode cX2_reach 76 = .ok (.bipush 12, 2) := dk_16 (by decide +kernel)
theorem dX2_reach_78 : decode cX2_reach 78 = .ok (.imul, 1) := dk_104 (by decide +kernel)
theorem dX2_reach_79 : decode cX2_reach 79 = .ok (.iload 7, 2) := dk_21 (by decide +kernel)
theorem dX2_reach_81 : decode cX2_reach 81 = .ok (.iadd, 1) := dk_96 (by decide +kernel)
theorem dX2_reach_82 : decode cX2_reach 82 = .ok (.iaload, 1) := dk_46 (by decide +kernel)
theorem dX2_reach_83 : decode cX2_reach 83 = .ok (.ifCond .le 34, 3) := dk_158 (by decide +kernel)
theorem dX2_reach_86 : decode cX2_reach 86 = .ok (.aload_n 0, 1) := dk_42 (by decide +kernel)
theorem dX2_reach_87 : decode cX2_reach 87 = .ok (.getfield 27, 3) := dk_180 (by decide +kernel)
theorem dX2_reach_90 : decode cX2_reach 90 = .ok (.iload 7, 2) := dk_21 (by decide +kernel)
theorem dX2_reach_92 : decode cX2_reach 92 = .ok (.iload 6, 2) := dk_21 (by decide +kernel)
theorem dX2_reach_94 : decode cX2_reach 94 = .ok (.iastore, 1) := dk_79 (by decide +kernel)
theorem dX2_reach_95 : decode cX2_reach 95 = .ok (.aload_n 0, 1) := dk_42 (by decide +kernel)
theorem dX2_reach_96 : decode cX2_reach 96 = .ok (.dup, 1) := dk_89 (by decide +kernel)
theorem dX2_reach_97 : decode cX2_reach 97 = .ok (.getfield 67, 3) := dk_180 (by decide +kernel)
theorem dX2_reach_100 : decode cX2_reach 100 = .ok (.iconst 1, 1) := dk_4 (by decide +kernel)
theorem dX2_reach_101 : decode cX2_reach 101 = .ok (.iload 7, 2) := dk_21 (by decide +kernel)
theorem dX2_reach_103 : decode cX2_reach 103 = .ok (.ishl, 1) := dk_120 (by decide +kernel)
theorem dX2_reach_104 : decode cX2_reach 104 = .ok (.ior, 1) := dk_128 (by decide +kernel)
theorem dX2_reach_105 : decode cX2_reach 105 = .ok (.putfield 67, 3) := dk_181 (by decide +kernel)
theorem dX2_reach_108 : decode cX2_reach 108 = .ok (.iload 5, 2) := dk_21 (by decide +kernel)
theorem dX2_reach_110 : decode cX2_reach 110 = .ok (.iconst 1, 1) := dk_4 (by decide +kernel)
theorem dX2_reach_111 : decode cX2_reach 111 = .ok (.iload 7, 2) := dk_21 (by decide +kernel)
theorem dX2_reach_113 : decode cX2_reach 113 = .ok (.ishl, 1) := dk_120 (by decide +kernel)
theorem dX2_reach_114 : decode cX2_reach 114 = .ok (.ior, 1) := dk_128 (by decide +kernel)
theorem dX2_reach_115 : decode cX2_reach 115 = .ok (.istore 5, 2) := dk_54 (by decide +kernel)
theorem dX2_reach_117 : decode cX2_reach 117 = .ok (.iinc 7 1, 3) := dk_132 (by decide +kernel)
theorem dX2_reach_120 : decode cX2_reach 120 = .ok (.goto (-78), 3) := dk_167 (by decide +kernel)
theorem dX2_reach_123 : decode cX2_reach 123 = .ok (.iinc 6 1, 3) := dk_132 (by decide +kernel)
theorem dX2_reach_126 : decode cX2_reach 126 = .ok (.goto (-94), 3) := dk_167 (by decide +kernel)
theorem dX2_reach_129 : decode cX2_reach 129 = .ok (.iload 5, 2) := dk_21 (by decide +kernel)
theorem dX2_reach_131 : decode cX2_reach 131 = .ok (.istore_n 3, 1) := dk_62 (by decide +kernel)
theorem dX2_reach_132 : decode cX2_reach 132 = .ok (.iinc 4 1, 3) := dk_132 (by decide +kernel)
theorem dX2_reach_135 : decode cX2_reach 135 = .ok (.goto (-120), 3) := dk_167 (by decide +kernel)
theorem dX2_reach_138 : decode cX2_reach 138 = .ok (.aload_n 0, 1) := dk_42 (by decide +kernel)
theorem dX2_reach_139 : decode cX2_reach 139 = .ok (.getfield 67, 3) := dk_180 (by decide +kernel)
theorem dX2_reach_142 : decode cX2_reach 142 = .ok (.iload_n 2, 1) := dk_28 (by decide +kernel)
theorem dX2_reach_143 : decode cX2_reach 143 = .ok (.ishr, 1) := dk_122 (by decide +kernel)
theorem dX2_reach_144 : decode cX2_reach 144 = .ok (.iconst 1, 1) := dk_4 (by decide +kernel)
theorem dX2_reach_145 : decode cX2_reach 145 = .ok (.iand, 1) := dk_126 (by decide +kernel)
theorem dX2_reach_146 : decode cX2_reach 146 = .ok (.ifCond .eq 7, 3) := dk_153 (by decide +kernel)
theorem dX2_reach_149 : decode cX2_reach 149 = .ok (.iconst 1, 1) := dk_4 (by decide +kernel)
theorem dX2_reach_150 : decode cX2_reach 150 = .ok (.goto 4, 3) := dk_167 (by decide +kernel)
theorem dX2_reach_153 : decode cX2_reach 153 = .ok (.iconst 0, 1) := dk_3 (by decide +kernel)
theorem dX2_reach_154 : decode cX2_reach 154 = .ok (.ireturn, 1) := dk_172 (by decide +kernel)
def wsMX2_reach : List Cond := .code yX2_reach cX2_reach 8 (some .boolean) :: ([.fieldLink RX2 67 "OptimaWorks$NetDesk" "reached" "I", .fieldLink RX2 24 "OptimaWorks$NetDesk" "free" "[I", .fieldLink RX2 27 "OptimaWorks$NetDesk" "before" "[I"] ++ wsX20)
theorem iwsMX2_reach_in2 : ∀ w ∈ wsX20, w ∈ wsMX2_reach := fun _ h => List.mem_cons_of_mem _ (List.mem_append_right _ h)
theorem gdwsMX2_reach : wsMX2_reach.all goodWord = true := gdC rfl (gdA (by decide +kernel : ([.fieldLink RX2 67 "OptimaWorks$NetDesk" "reached" "I", .fieldLink RX2 24 "OptimaWorks$NetDesk" "free" "[I", .fieldLink RX2 27 "OptimaWorks$NetDesk" "before" "[I"] : List Cond).all goodWord = true) gdwsX20)
set_option maxHeartbeats 4000000 in
set_option maxRecDepth 100000 in
/-- what can be reached -/
theorem m_X2_reach (l : Launch) (dC : Nat → ClassId) (dI : Nat → Nat → Nat) (hN : Nat → Nat) (aN : Nat → Nat) (kN : Nat → ClassId) (iN_arcs : Int32) (fN_from : Nat → Int32) (fN_to : Nat → Int32) (fN_room : Nat → Int32) (fN_cost : Nat → Int32) (iN_reached : Int32) (fN_free : Nat → Int32) (fN_before : Nat → Int32) (fN_flow : Nat → Int32) (fN_length : Nat → Int32) (fN_stop : Nat → Int32) (iN_stops : Int32) (fN_price : Nat → Int32) (fN_rest : Nat → Int32) (p1 : Int32) (p2 : Int32) (b_iN_arcs : 0 ≤ iN_arcs.toInt ∧ iN_arcs.toInt ≤ 40) (b_fN_from : ∀ q : Nat, 0 ≤ (fN_from q).toInt ∧ (fN_from q).toInt ≤ 11) (b_fN_to : ∀ q : Nat, 0 ≤ (fN_to q).toInt ∧ (fN_to q).toInt ≤ 11) (b_fN_before : ∀ q : Nat, 0 ≤ (fN_before q).toInt ∧ (fN_before q).toInt ≤ 79) (b_fN_stop : ∀ q : Nat, 0 ≤ (fN_stop q).toInt ∧ (fN_stop q).toInt ≤ 11) (b_iN_stops : 0 ≤ iN_stops.toInt ∧ iN_stops.toInt ≤ 8) (b_p1 : 0 ≤ p1.toInt ∧ p1.toInt ≤ 11) (b_p2 : 0 ≤ p2.toInt ∧ p2.toInt ≤ 11) (sz : Nat) : Met l yX2_reach wsMX2_reach ({ frames := 0, cells := 0, slots := 0, locals := 0 }) (va_Pc [.ref (hN 0), .int p1, .int p2] (fun U => U.heap.size = sz ∧ va_P (dC, dI) vwCl (WN hN aN kN iN_arcs fN_from fN_to fN_room fN_cost iN_reached fN_free fN_before fN_flow fN_length fN_stop iN_stops fN_price fN_rest) U.heap ∧ va_K (dC, dI) vwCl (tN kN) U ∧ va_D (fun _ => True) (WN hN aN kN iN_arcs fN_from fN_to fN_room fN_cost iN_reached fN_free fN_before fN_flow fN_length fN_stop iN_stops fN_price fN_rest))) (va_Qi (fun (r : Int32) (u : (Int32) × (Nat → Int32)) => (∀ q : Nat, 0 ≤ ((u.2) q).toInt ∧ ((u.2) q).toInt ≤ 79) ∧ (0 ≤ r.toInt ∧ r.toInt ≤ 1) ∧ (RB p1.toInt (u.1) (u.2)) ∧ (r.toInt ≠ 0 → bt (u.1) p2.toInt.toNat = true) ∧ (RE p1.toInt.toNat fN_free (u.2) (u.1)) ∧ (r.toInt = 0 → bt (u.1) p2.toInt.toNat = false)) (fun (u : (Int32) × (Nat → Int32)) t => va_P (dC, dI) vwCl (WN hN aN kN iN_arcs fN_from fN_to fN_room fN_cost (u.1) fN_free (u.2) fN_flow fN_length fN_stop iN_stops fN_price fN_rest) t.heap ∧ va_D (va_A (WN hN aN kN iN_arcs fN_from fN_to fN_room fN_cost iN_reached fN_free fN_before fN_flow fN_length fN_stop iN_stops fN_price fN_rest) sz) (WN hN aN kN iN_arcs fN_from fN_to fN_room fN_cost (u.1) fN_free (u.2) fN_flow fN_length fN_stop iN_stops fN_price fN_rest)) (va_A (WN hN aN kN iN_arcs fN_from fN_to fN_room fN_cost iN_reached fN_free fN_before fN_flow fN_length fN_stop iN_stops fN_price fN_rest) sz)) 0 0 (va_A (WN hN aN kN iN_arcs fN_from fN_to fN_room fN_cost iN_reached fN_free fN_before fN_flow fN_length fN_stop iN_stops fN_price fN_rest) sz) := by
  refine Met.ofW (cc := cX2_reach) (maxL := 8) (ret := (some .boolean)) (by decide) rfl ?_
  intro p e s m args below meth c s₁ B hml hv
  obtain ⟨rfl, hsz, hP, hK, hD0⟩ := hv
  have hx := B.exec
  have hb := B.bytes
  have hr := B.returns
  have hts := atoms_spec (ws := wsMX2_reach) B.pre
  have hown : s.vm.findClass RX2 = some m.cls := findClass_of_methodNamed B.named
  have hlocks := B.notSynchronized
  subst hsz
  have hD := hD0.self (sz := s.heap.size)
  generalize hAe : va_A (WN hN aN kN iN_arcs fN_from fN_to fN_room fN_cost iN_reached fN_free fN_before fN_flow fN_length fN_stop iN_stops fN_price fN_rest) s.heap.size = A at hD ⊢
  have hA : ∀ q : Nat, s.heap.size ≤ q → A q := fun q h => by rw [← hAe]; exact Or.inr h
  have hS : va_S A s.heap s.heap [] := va_S.rf
  have hl := lv_entry ([.ref (hN 0), .int p1, .int p2]) (n := 8) (Nat.le_of_ble_eq_true rfl)
  rw [lg_entry_eq]
  generalize (lg_sl ([.ref (hN 0), .int p1, .int p2]) ++ List.replicate (8 - (lg_sl ([.ref (hN 0), .int p1, .int p2])).length) Slot.unset).toArray = ls at hl ⊢
  have hl : lv_has ls 8 [(0, .ref (hN 0)), (1, .int p1), (2, .int p2)] := hl
  refine lv_aload_n hx hb dX2_reach_0 rfl (lv_at hl 0 rfl) ?_
  refine lv_iconst (v := 1) hx hb dX2_reach_1 (by decide) ?_
  refine lv_iload_n hx hb dX2_reach_2 rfl (lv_at hl 1 rfl) ?_
  refine lv_ishl hx hb dX2_reach_3 ?_
  refine lv_topi (fun v1 hv1 => ?_)
  have b_v1 : v1 = (1 : Int32) <<< (p1 &&& 31) := hv1
  clear hv1
  refine va_put (D := (dC, dI)) (ci := 2) (v := .int v1) (ty := .int) (C := RX2) (T := TX2) (N := 14) hx hb hts iwsMX2_reach_in2 tyX2 tyX2_ok nmX2 hown hK hP hD hS 0 rfl rfl 5 (by decide) (hts (.fieldLink RX2 67 "OptimaWorks$NetDesk" "reached" "I") (by decide +kernel)) (fun _ h9 => h9) rfl (by decide +kernel) rfl rfl (Nat.le_of_ble_eq_true rfl) dX2_reach_4 (fun H locs hP hD hS => ?_)
  have hP : va_P (dC, dI) vwCl (WN hN aN kN iN_arcs fN_from fN_to fN_room fN_cost v1 fN_free fN_before fN_flow fN_length fN_stop iN_stops fN_price fN_rest) H := hP
  have hD : va_D A (WN hN aN kN iN_arcs fN_from fN_to fN_room fN_cost v1 fN_free fN_before fN_flow fN_length fN_stop iN_stops fN_price fN_rest) := hD
  refine lv_aload_n hx hb dX2_reach_7 rfl (lv_at hl 0 rfl) ?_
  refine va_get (D := (dC, dI)) (ci := 2) (v := .int v1) (C := RX2) (T := TX2) (N := 14) hx hb hts iwsMX2_reach_in2 hown hK hP 0 rfl rfl 5 (by decide) (hts (.fieldLink RX2 67 "OptimaWorks$NetDesk" "reached" "I") (by decide +kernel)) (fun _ h9 => h9) rfl dX2_reach_8 ?_
  refine lv_istore_n hx hb dX2_reach_11 rfl hl (by decide) rfl (fun ls (hl : lv_has ls _ ([(3, .int v1), (0, .ref (hN 0)), (1, .int p1), (2, .int p2)])) => ?_)
  refine lv_iconst (v := 0) hx hb dX2_reach_12 (by decide) ?_
  refine lv_istore hx hb dX2_reach_13 hl (by decide) rfl (fun ls (hl : lv_has ls _ ([(4, .int 0), (3, .int v1), (0, .ref (hN 0)), (1, .int p1), (2, .int p2)])) => ?_)
  have hl : lv_has _ _ ([(4, .int 0), (3, .int v1), (0, .ref (hN 0)), (1, .int p1), (2, .int p2)]) := lv_sub hl [0, 1, 2, 3, 4] rfl
  refine (fun (loop : ∀ (n9 : Nat) (iN_reached_x15 : Int32) (fN_before_x15 : Nat → Int32) (l4_x15 : Int32) (l3_x15 : Int32) (H : Heap) (locs : List Loc) (ls : Array Slot), (∀ q : Nat, 0 ≤ (fN_before_x15 q).toInt ∧ (fN_before_x15 q).toInt ≤ 79) → (0 ≤ l4_x15.toInt ∧ l4_x15.toInt ≤ 12) → (RB p1.toInt iN_reached_x15 fN_before_x15) → (SubB l3_x15 iN_reached_x15) → (RQ1 p1.toInt.toNat fN_free fN_before_x15 iN_reached_x15 l3_x15 l4_x15.toInt) → (12 - l4_x15.toInt < ((n9 : Nat) : Int)) → va_P (dC, dI) vwCl (WN hN aN kN iN_arcs fN_from fN_to fN_room fN_cost iN_reached_x15 fN_free fN_before_x15 fN_flow fN_length fN_stop iN_stops fN_price fN_rest) H → va_D A (WN hN aN kN iN_arcs fN_from fN_to fN_room fN_cost iN_reached_x15 fN_free fN_before_x15 fN_flow fN_length fN_stop iN_stops fN_price fN_rest) → va_S A s.heap H locs → lv_has ls 8 [(4, .int l4_x15), (3, .int l3_x15), (0, .ref (hN 0)), (1, .int p1), (2, .int p2)] → W p l e _ s m _ below meth c H locs 0 0 _ (F0 m 15 ls [])) => loop (13) v1 fN_before 0 v1 _ _ _ b_fN_before (show 0 ≤ (0 : Int32).toInt ∧ (0 : Int32).toInt ≤ 12 from by decide) (show RB p1.toInt v1 fN_before from by first | assumption | exact RB.first rfl (by omega) (by omega) (by assumption) | exact RB.more hRB hSE (by assumption) (by assumption) (by assumption) (by assumption) (by omega) (by omega) (by omega) (by omega)) (show SubB v1 v1 from by first | assumption | exact SubB.refl _ | exact SubB.zero _ | exact hSF | exact SubB.grow hSE (by assumption)) (show RQ1 p1.toInt.toNat fN_free fN_before v1 v1 (0 : Int32).toInt from RQ1.first (p := p1) (by omega) (by omega) rfl (by assumption) rfl (by decide)) ((by have e9 : (0 : Int32).toInt = 0 := (by decide : (0 : Int32).toInt = 0); omega)) hP hD hS hl) ?_
  intro n9
  induction n9 with
  | zero => intro iN_reached_x15 fN_before_x15 l4_x15 l3_x15 H locs ls b_fN_before_x15 b_l4_x15 hRB hSE hQ1 hf9; exact False.elim (by omega)
  | succ n9 ihx15 =>
    intro iN_reached_x15 fN_before_x15 l4_x15 l3_x15 H locs ls b_fN_before_x15 b_l4_x15 hRB hSE hQ1 hfx15 hP hD hS hl
    refine lv_iload hx hb dX2_reach_15 (lv_at hl 0 rfl) ?_
    refine lv_bipush (v := 12) hx hb dX2_reach_17 (by decide) ?_
    refine W.cut (pc := 138) (fun H locs ls stk => (12 ≤ l4_x15.toInt ∨ l3_x15.toInt = 0) ∧  stk = [] ∧ va_P (dC, dI) vwCl (WN hN aN kN iN_arcs fN_from fN_to fN_room fN_cost iN_reached_x15 fN_free fN_before_x15 fN_flow fN_length fN_stop iN_stops fN_price fN_rest) H ∧ va_D A (WN hN aN kN iN_arcs fN_from fN_to fN_room fN_cost iN_reached_x15 fN_free fN_before_x15 fN_flow fN_length fN_stop iN_stops fN_price fN_rest) ∧ va_S A s.heap H locs ∧ lv_has ls 8 [(4, .int l4_x15), (3, .int l3_x15), (0, .ref (hN 0)), (1, .int p1), (2, .int p2)]) (fun join119 => ?_) ?_
    · refine lv_icmp_ge (tgt := 138) hx hb dX2_reach_19 (by decide) (fun c_19 => ?_) (fun c_19 => ?_)
      · have t_19 : l4_x15.toInt ≥ 12 := toI_ge c_19 rfl (by decide : (12 : Int32).toInt = 12)
        have hl : lv_has _ _ ([(4, .int l4_x15), (3, .int l3_x15), (0, .ref (hN 0)), (1, .int p1), (2, .int p2)]) := lv_sub hl [0, 1, 2, 3, 4] rfl
        exact join119 _ _ _ _ ⟨(show 12 ≤ l4_x15.toInt ∨ l3_x15.toInt = 0 from by first | exact Or.inl (by omega) | exact Or.inr t_23), rfl, hP, hD, hS, hl⟩
      · have t_19 : ¬ l4_x15.toInt ≥ 12 := toI_nge c_19 rfl (by decide : (12 : Int32).toInt = 12)
        refine lv_iload_n hx hb dX2_reach_22 rfl (lv_at hl 1 rfl) ?_
        refine lv_if_eq (tgt := 138) hx hb dX2_reach_23 (by decide) (fun c_23 => ?_) (fun c_23 => ?_)
        · have t_23 : l3_x15.toInt = 0 := toI_eq c_23 rfl (by decide : (0 : Int32).toInt = 0)
          have hl : lv_has _ _ ([(4, .int l4_x15), (3, .int l3_x15), (0, .ref (hN 0)), (1, .int p1), (2, .int p2)]) := lv_sub hl [0, 1, 2, 3, 4] rfl
          exact join119 _ _ _ _ ⟨(show 12 ≤ l4_x15.toInt ∨ l3_x15.toInt = 0 from by first | exact Or.inl (by omega) | exact Or.inr t_23), rfl, hP, hD, hS, hl⟩
        · have t_23 : ¬ l3_x15.toInt = 0 := toI_neq c_23 rfl (by decide : (0 : Int32).toInt = 0)
          refine lv_iconst (v := 0) hx hb dX2_reach_26 (by decide) ?_
          refine lv_istore hx hb dX2_reach_27 hl (by decide) rfl (fun ls (hl : lv_has ls _ ([(5, .int 0), (4, .int l4_x15), (3, .int l3_x15), (0, .ref (hN 0)), (1, .int p1), (2, .int p2)])) => ?_)
          refine lv_iconst (v := 0) hx hb dX2_reach_29 (by decide) ?_
          refine lv_istore hx hb dX2_reach_30 hl (by decide) rfl (fun ls (hl : lv_has ls _ ([(6, .int 0), (5, .int 0), (4, .int l4_x15), (3, .int l3_x15), (0, .ref (hN 0)), (1, .int p1), (2, .int p2)])) => ?_)
          have hl : lv_has _ _ ([(6, .int 0), (5, .int 0), (4, .int l4_x15), (3, .int l3_x15), (0, .ref (hN 0)), (1, .int p1), (2, .int p2)]) := lv_sub hl [0, 1, 2, 3, 4, 5, 6] rfl
          refine (fun (loop : ∀ (n9 : Nat) (iN_reached_x32 : Int32) (fN_before_x32 : Nat → Int32) (l6_x32 : Int32) (l5_x32 : Int32) (H : Heap) (locs : List Loc) (ls : Array Slot), (∀ q : Nat, 0 ≤ (fN_before_x32 q).toInt ∧ (fN_before_x32 q).toInt ≤ 79) → (0 ≤ l6_x32.toInt ∧ l6_x32.toInt ≤ 12) → (RB p1.toInt iN_reached_x32 fN_before_x32) → (SubB l3_x15 iN_reached_x32) → (SubB l5_x32 iN_reached_x32) → (RQ2 p1.toInt.toNat fN_free fN_before_x32 iN_reached_x32 l3_x15 l5_x32 l4_x15.toInt l6_x32.toInt.toNat) → (12 - l6_x32.toInt < ((n9 : Nat) : Int)) → va_P (dC, dI) vwCl (WN hN aN kN iN_arcs fN_from fN_to fN_room fN_cost iN_reached_x32 fN_free fN_before_x32 fN_flow fN_length fN_stop iN_stops fN_price fN_rest) H → va_D A (WN hN aN kN iN_arcs fN_from fN_to fN_room fN_cost iN_reached_x32 fN_free fN_before_x32 fN_flow fN_length fN_stop iN_stops fN_price fN_rest) → va_S A s.heap H locs → lv_has ls 8 [(6, .int l6_x32), (5, .int l5_x32), (4, .int l4_x15), (3, .int l3_x15), (0, .ref (hN 0)), (1, .int p1), (2, .int p2)] → W p l e _ s m _ below meth c H locs 0 0 _ (F0 m 32 ls [])) => loop (13) iN_reached_x15 fN_before_x15 0 0 _ _ _ b_fN_before_x15 (show 0 ≤ (0 : Int32).toInt ∧ (0 : Int32).toInt ≤ 12 from by decide) (show RB p1.toInt iN_reached_x15 fN_before_x15 from by first | assumption | exact RB.first rfl (by omega) (by omega) (by assumption) | exact RB.more hRB hSE (by assumption) (by assumption) (by assumption) (by assumption) (by omega) (by omega) (by omega) (by omega)) (show SubB l3_x15 iN_reached_x15 from by first | assumption | exact SubB.refl _ | exact SubB.zero _ | exact hSF | exact SubB.grow hSE (by assumption)) (show SubB (0 : Int32) iN_reached_x15 from by first | assumption | exact SubB.zero _ | exact SubB.both hSF (by assumption) (by assumption)) (show RQ2 p1.toInt.toNat fN_free fN_before_x15 iN_reached_x15 l3_x15 (0 : Int32) l4_x15.toInt (0 : Int32).toInt.toNat from RQ2.start hQ1 t_23 rfl (by decide)) ((by have e9 : (0 : Int32).toInt = 0 := (by decide : (0 : Int32).toInt = 0); omega)) hP hD hS hl) ?_
          intro n9
          induction n9 with
          | zero => intro iN_reached_x32 fN_before_x32 l6_x32 l5_x32 H locs ls b_fN_before_x32 b_l6_x32 hRB hSE hSF hQ2 hf9; exact False.elim (by omega)
          | succ n9 ihx32 =>
            intro iN_reached_x32 fN_before_x32 l6_x32 l5_x32 H locs ls b_fN_before_x32 b_l6_x32 hRB hSE hSF hQ2 hfx32 hP hD hS hl
            refine lv_iload hx hb dX2_reach_32 (lv_at hl 0 rfl) ?_
            refine lv_bipush (v := 12) hx hb dX2_reach_34 (by decide) ?_
            refine lv_icmp_ge (tgt := 129) hx hb dX2_reach_36 (by decide) (fun c_36 => ?_) (fun c_36 => ?_)
            · have t_36 : l6_x32.toInt ≥ 12 := toI_ge c_36 rfl (by decide : (12 : Int32).toInt = 12)
              refine lv_iload hx hb dX2_reach_129 (lv_at hl 1 rfl) ?_
              refine lv_istore_n hx hb dX2_reach_131 rfl hl (by decide) rfl (fun ls (hl : lv_has ls _ ([(3, .int l5_x32), (6, .int l6_x32), (5, .int l5_x32), (4, .int l4_x15), (0, .ref (hN 0)), (1, .int p1), (2, .int p2)])) => ?_)
              refine lv_iinc (v := (iI (l4_x15.toInt + 1))) hx hb dX2_reach_132 hl (k := 3) rfl (iI_add2 (iI_of _) (by decide : (1 : Int32) = iI 1)) (by decide) rfl (fun ls (hl : lv_has ls _ ([(4, .int (iI (l4_x15.toInt + 1))), (3, .int l5_x32), (6, .int l6_x32), (5, .int l5_x32), (0, .ref (hN 0)), (1, .int p1), (2, .int p2)])) => ?_)
              refine lv_goto (tgt := 15) hx hb dX2_reach_135 (by decide) ?_
              have hl : lv_has _ _ ([(4, .int (iI (l4_x15.toInt + 1))), (3, .int l5_x32), (0, .ref (hN 0)), (1, .int p1), (2, .int p2)]) := lv_sub hl [0, 1, 4, 5, 6] rfl
              exact ihx15 iN_reached_x32 fN_before_x32 (iI (l4_x15.toInt + 1)) l5_x32 _ _ _ b_fN_before_x32 (iI_rng (Int.le_trans (by decide) (Int.add_le_add (b_l4_x15.1) (Int.le_refl _))) (by omega) (by decide) (by decide)) (show RB p1.toInt iN_reached_x32 fN_before_x32 from by first | assumption | exact RB.first rfl (by omega) (by omega) (by assumption) | exact RB.more hRB hSE (by assumption) (by assumption) (by assumption) (by assumption) (by omega) (by omega) (by omega) (by omega)) (show SubB l5_x32 iN_reached_x32 from by first | assumption | exact SubB.refl _ | exact SubB.zero _ | exact hSF | exact SubB.grow hSE (by assumption)) (show RQ1 p1.toInt.toNat fN_free fN_before_x32 iN_reached_x32 l5_x32 (iI (l4_x15.toInt + 1)).toInt from by rw [iI_t (by omega) (by omega)]; exact RQ2.exit hQ2 (by omega) rfl) (by have e9 : ((iI (l4_x15.toInt + 1))).toInt = (l4_x15.toInt + 1) := (iI_t (Int.le_trans (by decide) (Int.add_le_add (b_l4_x15.1) (Int.le_refl _))) (Int.le_trans (Int.add_le_add (b_l4_x15.2) (Int.le_refl _)) (by decide))); omega) hP hD hS hl
            · have t_36 : ¬ l6_x32.toInt ≥ 12 := toI_nge c_36 rfl (by decide : (12 : Int32).toInt = 12)
              refine lv_iconst (v := 0) hx hb dX2_reach_39 (by decide) ?_
              refine lv_istore hx hb dX2_reach_40 hl (by decide) rfl (fun ls (hl : lv_has ls _ ([(7, .int 0), (6, .int l6_x32), (5, .int l5_x32), (4, .int l4_x15), (3, .int l3_x15), (0, .ref (hN 0)), (1, .int p1), (2, .int p2)])) => ?_)
              have hl : lv_has _ _ ([(7, .int 0), (6, .int l6_x32), (5, .int l5_x32), (4, .int l4_x15), (3, .int l3_x15), (0, .ref (hN 0)), (1, .int p1), (2, .int p2)]) := lv_sub hl [0, 1, 2, 3, 4, 5, 6, 7] rfl
              refine (fun (loop : ∀ (n9 : Nat) (iN_reached_x42 : Int32) (fN_before_x42 : Nat → Int32) (l7_x42 : Int32) (l5_x42 : Int32) (H : Heap) (locs : List Loc) (ls : Array Slot), (∀ q : Nat, 0 ≤ (fN_before_x42 q).toInt ∧ (fN_before_x42 q).toInt ≤ 79) → (0 ≤ l7_x42.toInt ∧ l7_x42.toInt ≤ 12) → (RB p1.toInt iN_reached_x42 fN_before_x42) → (SubB l3_x15 iN_reached_x42) → (SubB l5_x42 iN_reached_x42) → (RQ3 p1.toInt.toNat fN_free fN_before_x42 iN_reached_x42 l3_x15 l5_x42 l4_x15.toInt l6_x32.toInt.toNat l7_x42.toInt.toNat) → (12 - l7_x42.toInt < ((n9 : Nat) : Int)) → va_P (dC, dI) vwCl (WN hN aN kN iN_arcs fN_from fN_to fN_room fN_cost iN_reached_x42 fN_free fN_before_x42 fN_flow fN_length fN_stop iN_stops fN_price fN_rest) H → va_D A (WN hN aN kN iN_arcs fN_from fN_to fN_room fN_cost iN_reached_x42 fN_free fN_before_x42 fN_flow fN_length fN_stop iN_stops fN_price fN_rest) → va_S A s.heap H locs → lv_has ls 8 [(7, .int l7_x42), (6, .int l6_x32), (5, .int l5_x42), (4, .int l4_x15), (3, .int l3_x15), (0, .ref (hN 0)), (1, .int p1), (2, .int p2)] → W p l e _ s m _ below meth c H locs 0 0 _ (F0 m 42 ls [])) => loop (13) iN_reached_x32 fN_before_x32 0 l5_x32 _ _ _ b_fN_before_x32 (show 0 ≤ (0 : Int32).toInt ∧ (0 : Int32).toInt ≤ 12 from by decide) (show RB p1.toInt iN_reached_x32 fN_before_x32 from by first | assumption | exact RB.first rfl (by omega) (by omega) (by assumption) | exact RB.more hRB hSE (by assumption) (by assumption) (by assumption) (by assumption) (by omega) (by omega) (by omega) (by omega)) (show SubB l3_x15 iN_reached_x32 from by first | assumption | exact SubB.refl _ | exact SubB.zero _ | exact hSF | exact SubB.grow hSE (by assumption)) (show SubB l5_x32 iN_reached_x32 from by first | assumption | exact SubB.zero _ | exact SubB.both hSF (by assumption) (by assumption)) (show RQ3 p1.toInt.toNat fN_free fN_before_x32 iN_reached_x32 l3_x15 l5_x32 l4_x15.toInt l6_x32.toInt.toNat (0 : Int32).toInt.toNat from RQ3.start hQ2 (by decide)) ((by have e9 : (0 : Int32).toInt = 0 := (by decide : (0 : Int32).toInt = 0); omega)) hP hD hS hl) ?_
              intro n9
              induction n9 with
              | zero => intro iN_reached_x42 fN_before_x42 l7_x42 l5_x42 H locs ls b_fN_before_x42 b_l7_x42 hRB hSE hSF hQ3 hf9; exact False.elim (by omega)
              | succ n9 ihx42 =>
                intro iN_reached_x42 fN_before_x42 l7_x42 l5_x42 H locs ls b_fN_before_x42 b_l7_x42 hRB hSE hSF hQ3 hfx42 hP hD hS hl
                refine lv_iload hx hb dX2_reach_42 (lv_at hl 0 rfl) ?_
                refine lv_bipush (v := 12) hx hb dX2_reach_44 (by decide) ?_
                refine W.cut (pc := 123) (fun H locs ls stk => (12 ≤ l7_x42.toInt.toNat ∨ bt l3_x15 l6_x32.toInt.toNat = false) ∧  stk = [] ∧ va_P (dC, dI) vwCl (WN hN aN kN iN_arcs fN_from fN_to fN_room fN_cost iN_reached_x42 fN_free fN_before_x42 fN_flow fN_length fN_stop iN_stops fN_price fN_rest) H ∧ va_D A (WN hN aN kN iN_arcs fN_from fN_to fN_room fN_cost iN_reached_x42 fN_free fN_before_x42 fN_flow fN_length fN_stop iN_stops fN_price fN_rest) ∧ va_S A s.heap H locs ∧ lv_has ls 8 [(7, .int l7_x42), (6, .int l6_x32), (5, .int l5_x42), (4, .int l4_x15), (3, .int l3_x15), (0, .ref (hN 0)), (1, .int p1), (2, .int p2)]) (fun join129 => ?_) ?_
                · refine lv_icmp_ge (tgt := 123) hx hb dX2_reach_46 (by decide) (fun c_46 => ?_) (fun c_46 => ?_)
                  · have t_46 : l7_x42.toInt ≥ 12 := toI_ge c_46 rfl (by decide : (12 : Int32).toInt = 12)
                    have hl : lv_has _ _ ([(7, .int l7_x42), (6, .int l6_x32), (5, .int l5_x42), (4, .int l4_x15), (3, .int l3_x15), (0, .ref (hN 0)), (1, .int p1), (2, .int p2)]) := lv_sub hl [0, 1, 2, 3, 4, 5, 6, 7] rfl
                    exact join129 _ _ _ _ ⟨(show 12 ≤ l7_x42.toInt.toNat ∨ bt l3_x15 l6_x32.toInt.toNat = false from by first | exact Or.inl (by omega) | exact Or.inr (bt_no b_v2083 t_55)), rfl, hP, hD, hS, hl⟩
                  · have t_46 : ¬ l7_x42.toInt ≥ 12 := toI_nge c_46 rfl (by decide : (12 : Int32).toInt = 12)
                    refine lv_iload_n hx hb dX2_reach_49 rfl (lv_at hl 4 rfl) ?_
                    refine lv_iload hx hb dX2_reach_50 (lv_at hl 1 rfl) ?_
                    refine lv_ishr hx hb dX2_reach_52 ?_
                    refine lv_topi (fun v2094 hv2094 => ?_)
                    have b_v2094 : v2094 = l3_x15 >>> (l6_x32 &&& 31) := hv2094
                    clear hv2094
                    refine lv_iconst (v := 1) hx hb dX2_reach_53 (by decide) ?_
                    refine lv_iand hx hb dX2_reach_54 ?_
                    refine lv_topi (fun v2095 hv2095 => ?_)
                    have b_v2095 : (bt l3_x15 l6_x32.toInt.toNat = true ∧ v2095.toInt = 1) ∨ (bt l3_x15 l6_x32.toInt.toNat = false ∧ v2095.toInt = 0) := by rw [hv2095]; exact sh_and1 b_v2094 rfl (by omega) (by omega)
                    clear hv2095
                    refine lv_if_eq (tgt := 123) hx hb dX2_reach_55 (by decide) (fun c_55 => ?_) (fun c_55 => ?_)
                    · have t_55 : v2095.toInt = 0 := toI_eq c_55 rfl (by decide : (0 : Int32).toInt = 0)
                      have hl : lv_has _ _ ([(7, .int l7_x42), (6, .int l6_x32), (5, .int l5_x42), (4, .int l4_x15), (3, .int l3_x15), (0, .ref (hN 0)), (1, .int p1), (2, .int p2)]) := lv_sub hl [0, 1, 2, 3, 4, 5, 6, 7] rfl
                      exact join129 _ _ _ _ ⟨(show 12 ≤ l7_x42.toInt.toNat ∨ bt l3_x15 l6_x32.toInt.toNat = false from by first | exact Or.inl (by omega) | exact Or.inr (bt_no b_v2095 t_55)), rfl, hP, hD, hS, hl⟩
                    · have t_55 : ¬ v2095.toInt = 0 := toI_neq c_55 rfl (by decide : (0 : Int32).toInt = 0)
                      refine lv_aload_n hx hb dX2_reach_58 rfl (lv_at hl 5 rfl) ?_
                      refine va_get (D := (dC, dI)) (ci := 2) (v := .int iN_reached_x42) (C := RX2) (T := TX2) (N := 14) hx hb hts iwsMX2_reach_in2 hown hK hP 0 rfl rfl 5 (by decide) (hts (.fieldLink RX2 67 "OptimaWorks$NetDesk" "reached" "I") (by decide +kernel)) (fun _ h9 => h9) rfl dX2_reach_59 ?_
                      refine lv_iload hx hb dX2_reach_62 (lv_at hl 0 rfl) ?_
                      refine lv_ishr hx hb dX2_reach_64 ?_
                      refine lv_topi (fun v2096 hv2096 => ?_)
                      have b_v2096 : v2096 = iN_reached_x42 >>> (l7_x42 &&& 31) := hv2096
                      clear hv2096
                      refine lv_iconst (v := 1) hx hb dX2_reach_65 (by decide) ?_
                      refine lv_iand hx hb dX2_reach_66 ?_
                      refine lv_topi (fun v2097 hv2097 => ?_)
                      have b_v2097 : (bt iN_reached_x42 l7_x42.toInt.toNat = true ∧ v2097.toInt = 1) ∨ (bt iN_reached_x42 l7_x42.toInt.toNat = false ∧ v2097.toInt = 0) := by rw [hv2097]; exact sh_and1 b_v2096 rfl (by omega) (by omega)
                      clear hv2097
                      refine lv_if_ne (tgt := 117) hx hb dX2_reach_67 (by decide) (fun c_67 => ?_) (fun c_67 => ?_)
                      · have t_67 : v2097.toInt ≠ 0 := toI_ne c_67 rfl (by decide : (0 : Int32).toInt = 0)
                        refine lv_iinc (v := (iI (l7_x42.toInt + 1))) hx hb dX2_reach_117 hl (k := 0) rfl (iI_add2 (iI_of _) (by decide : (1 : Int32) = iI 1)) (by decide) rfl (fun ls (hl : lv_has ls _ ([(7, .int (iI (l7_x42.toInt + 1))), (6, .int l6_x32), (5, .int l5_x42), (4, .int l4_x15), (3, .int l3_x15), (0, .ref (hN 0)), (1, .int p1), (2, .int p2)])) => ?_)
                        refine lv_goto (tgt := 42) hx hb dX2_reach_120 (by decide) ?_
                        have hl : lv_has _ _ ([(7, .int (iI (l7_x42.toInt + 1))), (6, .int l6_x32), (5, .int l5_x42), (4, .int l4_x15), (3, .int l3_x15), (0, .ref (hN 0)), (1, .int p1), (2, .int p2)]) := lv_sub hl [0, 1, 2, 3, 4, 5, 6, 7] rfl
                        exact ihx42 iN_reached_x42 fN_before_x42 (iI (l7_x42.toInt + 1)) l5_x42 _ _ _ b_fN_before_x42 (iI_rng (Int.le_trans (by decide) (Int.add_le_add (b_l7_x42.1) (Int.le_refl _))) (by omega) (by decide) (by decide)) (show RB p1.toInt iN_reached_x42 fN_before_x42 from by first | assumption | exact RB.first rfl (by omega) (by omega) (by assumption) | exact RB.more hRB hSE (by assumption) (by assumption) (by assumption) (by assumption) (by omega) (by omega) (by omega) (by omega)) (show SubB l3_x15 iN_reached_x42 from by first | assumption | exact SubB.refl _ | exact SubB.zero _ | exact hSF | exact SubB.grow hSE (by assumption)) (show SubB l5_x42 iN_reached_x42 from by first | assumption | exact SubB.zero _ | exact SubB.both hSF (by assumption) (by assumption)) (show RQ3 p1.toInt.toNat fN_free fN_before_x42 iN_reached_x42 l3_x15 l5_x42 l4_x15.toInt l6_x32.toInt.toNat (iI (l7_x42.toInt + 1)).toInt.toNat from by rw [show (iI (l7_x42.toInt + 1)).toInt.toNat = l7_x42.toInt.toNat + 1 from by rw [iI_t (by omega) (by omega)]; omega]; first | (exact RQ3.seen hQ3 (Or.inl (bt_yes b_v2097 t_67))) | (have eIt : ((iI ((l6_x32.toInt * 12) + l7_x42.toInt))).toNatClampNeg = 12 * l6_x32.toInt.toNat + l7_x42.toInt.toNat := (by show (iI (l6_x32.toInt * 12 + l7_x42.toInt)).toInt.toNat = _; rw [iI_t (by omega) (by omega)]; omega); exact RQ3.seen hQ3 (Or.inr (by rw [← eIt, ← b_v2088]; omega)))) (by have e9 : ((iI (l7_x42.toInt + 1))).toInt = (l7_x42.toInt + 1) := (iI_t (Int.le_trans (by decide) (Int.add_le_add (b_l7_x42.1) (Int.le_refl _))) (Int.le_trans (Int.add_le_add (b_l7_x42.2) (Int.le_refl _)) (by decide))); omega) hP hD hS hl
                      · have t_67 : v2097.toInt = 0 := toI_nne c_67 rfl (by decide : (0 : Int32).toInt = 0)
                        refine lv_aload_n hx hb dX2_reach_70 rfl (lv_at hl 5 rfl) ?_
                        refine va_get (D := (dC, dI)) (ci := 2) (v := .ref (aN 4)) (C := RX2) (T := TX2) (N := 14) hx hb hts iwsMX2_reach_in2 hown hK hP 0 rfl rfl 6 (by decide) (hts (.fieldLink RX2 24 "OptimaWorks$NetDesk" "free" "[I") (by decide +kernel)) (fun _ h9 => h9) rfl dX2_reach_71 ?_
                        refine lv_iload hx hb dX2_reach_74 (lv_at hl 1 rfl) ?_
                        refine lv_bipush (v := 12) hx hb dX2_reach_76 (by decide) ?_
                        refine lv_imul hx hb dX2_reach_78 ?_
                        refine lv_topi (fun y2098 hy2098 => ?_)
                        obtain rfl : (iI (l6_x32.toInt * 12)) = y2098 := (hy2098.trans (iI_mul2 (iI_of _) (by decide : (12 : Int32) = iI 12))).symm
                        refine lv_iload hx hb dX2_reach_79 (lv_at hl 0 rfl) ?_
                        refine lv_iadd hx hb dX2_reach_81 ?_
                        refine lv_topi (fun y2099 hy2099 => ?_)
                        obtain rfl : (iI ((l6_x32.toInt * 12) + l7_x42.toInt)) = y2099 := (hy2099.trans (iI_add2 rfl (iI_of _))).symm
                        refine va_iald (cA := kN 4) (n := 144) (f := fN_free) hx hb hK hP 5 4 rfl rfl (vp_iI (Int.le_trans (by decide) (Int.add_le_add (Int.mul_le_mul_of_nonneg_right (b_l6_x32.1) (by decide)) (b_l7_x42.1))) (by omega) (by decide)) dX2_reach_82 ?_
                        refine lv_topi (fun v2100 hv2100 => ?_)
                        have b_v2100 : v2100 = fN_free ((iI ((l6_x32.toInt * 12) + l7_x42.toInt))).toNatClampNeg := hv2100
                        clear hv2100
                        refine lv_if_le (tgt := 117) hx hb dX2_reach_83 (by decide) (fun c_83 => ?_) (fun c_83 => ?_)
                        · have t_83 : v2100.toInt ≤ 0 := toI_le c_83 rfl (by decide : (0 : Int32).toInt = 0)
                          refine lv_iinc (v := (iI (l7_x42.toInt + 1))) hx hb dX2_reach_117 hl (k := 0) rfl (iI_add2 (iI_of _) (by decide : (1 : Int32) = iI 1)) (by decide) rfl (fun ls (hl : lv_has ls _ ([(7, .int (iI (l7_x42.toInt + 1))), (6, .int l6_x32), (5, .int l5_x42), (4, .int l4_x15), (3, .int l3_x15), (0, .ref (hN 0)), (1, .int p1), (2, .int p2)])) => ?_)
                          refine lv_goto (tgt := 42) hx hb dX2_reach_120 (by decide) ?_
                          have hl : lv_has _ _ ([(7, .int (iI (l7_x42.toInt + 1))), (6, .int l6_x32), (5, .int l5_x42), (4, .int l4_x15), (3, .int l3_x15), (0, .ref (hN 0)), (1, .int p1), (2, .int p2)]) := lv_sub hl [0, 1, 2, 3, 4, 5, 6, 7] rfl
                          exact ihx42 iN_reached_x42 fN_before_x42 (iI (l7_x42.toInt + 1)) l5_x42 _ _ _ b_fN_before_x42 (iI_rng (Int.le_trans (by decide) (Int.add_le_add (b_l7_x42.1) (Int.le_refl _))) (by omega) (by decide) (by decide)) (show RB p1.toInt iN_reached_x42 fN_before_x42 from by first | assumption | exact RB.first rfl (by omega) (by omega) (by assumption) | exact RB.more hRB hSE (by assumption) (by assumption) (by assumption) (by assumption) (by omega) (by omega) (by omega) (by omega)) (show SubB l3_x15 iN_reached_x42 from by first | assumption | exact SubB.refl _ | exact SubB.zero _ | exact hSF | exact SubB.grow hSE (by assumption)) (show SubB l5_x42 iN_reached_x42 from by first | assumption | exact SubB.zero _ | exact SubB.both hSF (by assumption) (by assumption)) (show RQ3 p1.toInt.toNat fN_free fN_before_x42 iN_reached_x42 l3_x15 l5_x42 l4_x15.toInt l6_x32.toInt.toNat (iI (l7_x42.toInt + 1)).toInt.toNat from by rw [show (iI (l7_x42.toInt + 1)).toInt.toNat = l7_x42.toInt.toNat + 1 from by rw [iI_t (by omega) (by omega)]; omega]; first | (exact RQ3.seen hQ3 (Or.inl (bt_yes b_v2097 t_67))) | (have eIt : ((iI ((l6_x32.toInt * 12) + l7_x42.toInt))).toNatClampNeg = 12 * l6_x32.toInt.toNat + l7_x42.toInt.toNat := (by show (iI (l6_x32.toInt * 12 + l7_x42.toInt)).toInt.toNat = _; rw [iI_t (by omega) (by omega)]; omega); exact RQ3.seen hQ3 (Or.inr (by rw [← eIt, ← b_v2100]; omega)))) (by have e9 : ((iI (l7_x42.toInt + 1))).toInt = (l7_x42.toInt + 1) := (iI_t (Int.le_trans (by decide) (Int.add_le_add (b_l7_x42.1) (Int.le_refl _))) (Int.le_trans (Int.add_le_add (b_l7_x42.2) (Int.le_refl _)) (by decide))); omega) hP hD hS hl
                        · have t_83 : ¬ v2100.toInt ≤ 0 := toI_nle c_83 rfl (by decide : (0 : Int32).toInt = 0)
                          have hbi : bt l3_x15 l6_x32.toInt.toNat = true := by rcases b_v2095 with ⟨h9, _⟩ | ⟨_, h9⟩; exact h9; omega
                          have hbj : bt iN_reached_x42 l7_x42.toInt.toNat = false := by rcases b_v2097 with ⟨_, h9⟩ | ⟨h9, _⟩; omega; exact h9
                          refine lv_aload_n hx hb dX2_reach_86 rfl (lv_at hl 5 rfl) ?_
                          refine va_get (D := (dC, dI)) (ci := 2) (v := .ref (aN 5)) (C := RX2) (T := TX2) (N := 14) hx hb hts iwsMX2_reach_in2 hown hK hP 0 rfl rfl 7 (by decide) (hts (.fieldLink RX2 27 "OptimaWorks$NetDesk" "before" "[I") (by decide +kernel)) (fun _ h9 => h9) rfl dX2_reach_87 ?_
                          refine lv_iload hx hb dX2_reach_90 (lv_at hl 0 rfl) ?_
                          refine lv_iload hx hb dX2_reach_92 (lv_at hl 1 rfl) ?_
                          refine va_iast (cA := kN 5) (n := 12) (f := fN_before_x42) hx hb hK hP hD hS 6 5 rfl rfl (vp_in_iff.mpr ⟨b_l7_x42.1, (Int.lt_of_lt_of_le (Int.not_le.mp t_46) (by decide))⟩) dX2_reach_94 (fun H locs hP hD hS => ?_)
                          obtain ⟨u2101, hu2101⟩ : ∃ f9, f9 = upd fN_before_x42 (l7_x42).toNatClampNeg l6_x32 := ⟨_, rfl⟩
                          have hP : va_P (dC, dI) vwCl (WN hN aN kN iN_arcs fN_from fN_to fN_room fN_cost iN_reached_x42 fN_free u2101 fN_flow fN_length fN_stop iN_stops fN_price fN_rest) H := by rw [hu2101]; exact hP
                          have hD : va_D A (WN hN aN kN iN_arcs fN_from fN_to fN_room fN_cost iN_reached_x42 fN_free u2101 fN_flow fN_length fN_stop iN_stops fN_price fN_rest) := by rw [hu2101]; exact hD
                          have b_u2101 : ∀ q : Nat, 0 ≤ (u2101 q).toInt ∧ (u2101 q).toInt ≤ 79 := by rw [hu2101]; exact upd_r b_fN_before_x42 (⟨b_l6_x32.1, Int.le_trans b_l6_x32.2 (by decide)⟩)
                          have b1_u2101 : u2101 = upd fN_before_x42 (l7_x42).toNatClampNeg l6_x32 := hu2101
                          clear hu2101
                          refine lv_aload_n hx hb dX2_reach_95 rfl (lv_at hl 5 rfl) ?_
                          refine lv_dup hx hb dX2_reach_96 rfl ?_
                          refine va_get (D := (dC, dI)) (ci := 2) (v := .int iN_reached_x42) (C := RX2) (T := TX2) (N := 14) hx hb hts iwsMX2_reach_in2 hown hK hP 0 rfl rfl 5 (by decide) (hts (.fieldLink RX2 67 "OptimaWorks$NetDesk" "reached" "I") (by decide +kernel)) (fun _ h9 => h9) rfl dX2_reach_97 ?_
                          refine lv_iconst (v := 1) hx hb dX2_reach_100 (by decide) ?_
                          refine lv_iload hx hb dX2_reach_101 (lv_at hl 0 rfl) ?_
                          refine lv_ishl hx hb dX2_reach_103 ?_
                          refine lv_topi (fun v2102 hv2102 => ?_)
                          have b_v2102 : v2102 = (1 : Int32) <<< (l7_x42 &&& 31) := hv2102
                          clear hv2102
                          refine lv_ior hx hb dX2_reach_104 ?_
                          refine lv_topi (fun v2103 hv2103 => ?_)
                          have b_v2103 : v2103 = iN_reached_x42 ||| (1 : Int32) <<< (l7_x42 &&& 31) := by rw [hv2103]; exact by rw [b_v2102]
                          clear hv2103
                          refine va_put (D := (dC, dI)) (ci := 2) (v := .int v2103) (ty := .int) (C := RX2) (T := TX2) (N := 14) hx hb hts iwsMX2_reach_in2 tyX2 tyX2_ok nmX2 hown hK hP hD hS 0 rfl rfl 5 (by decide) (hts (.fieldLink RX2 67 "OptimaWorks$NetDesk" "reached" "I") (by decide +kernel)) (fun _ h9 => h9) rfl (by decide +kernel) rfl rfl (Nat.le_of_ble_eq_true rfl) dX2_reach_105 (fun H locs hP hD hS => ?_)
                          have hP : va_P (dC, dI) vwCl (WN hN aN kN iN_arcs fN_from fN_to fN_room fN_cost v2103 fN_free u2101 fN_flow fN_length fN_stop iN_stops fN_price fN_rest) H := hP
                          have hD : va_D A (WN hN aN kN iN_arcs fN_from fN_to fN_room fN_cost v2103 fN_free u2101 fN_flow fN_length fN_stop iN_stops fN_price fN_rest) := hD
                          refine lv_iload hx hb dX2_reach_108 (lv_at hl 2 rfl) ?_
                          refine lv_iconst (v := 1) hx hb dX2_reach_110 (by decide) ?_
                          refine lv_iload hx hb dX2_reach_111 (lv_at hl 0 rfl) ?_
                          refine lv_ishl hx hb dX2_reach_113 ?_
                          refine lv_topi (fun v2104 hv2104 => ?_)
                          have b_v2104 : v2104 = (1 : Int32) <<< (l7_x42 &&& 31) := hv2104
                          clear hv2104
                          refine lv_ior hx hb dX2_reach_114 ?_
                          refine lv_topi (fun v2105 hv2105 => ?_)
                          have b_v2105 : v2105 = l5_x42 ||| (1 : Int32) <<< (l7_x42 &&& 31) := by rw [hv2105]; exact by rw [b_v2104]
                          clear hv2105
                          refine lv_istore hx hb dX2_reach_115 hl (by decide) rfl (fun ls (hl : lv_has ls _ ([(5, .int v2105), (7, .int l7_x42), (6, .int l6_x32), (4, .int l4_x15), (3, .int l3_x15), (0, .ref (hN 0)), (1, .int p1), (2, .int p2)])) => ?_)
                          refine lv_iinc (v := (iI (l7_x42.toInt + 1))) hx hb dX2_reach_117 hl (k := 1) rfl (iI_add2 (iI_of _) (by decide : (1 : Int32) = iI 1)) (by decide) rfl (fun ls (hl : lv_has ls _ ([(7, .int (iI (l7_x42.toInt + 1))), (5, .int v2105), (6, .int l6_x32), (4, .int l4_x15), (3, .int l3_x15), (0, .ref (hN 0)), (1, .int p1), (2, .int p2)])) => ?_)
                          refine lv_goto (tgt := 42) hx hb dX2_reach_120 (by decide) ?_
                          have hl : lv_has _ _ ([(7, .int (iI (l7_x42.toInt + 1))), (6, .int l6_x32), (5, .int v2105), (4, .int l4_x15), (3, .int l3_x15), (0, .ref (hN 0)), (1, .int p1), (2, .int p2)]) := lv_sub hl [0, 2, 1, 3, 4, 5, 6, 7] rfl
                          exact ihx42 v2103 u2101 (iI (l7_x42.toInt + 1)) v2105 _ _ _ b_u2101 (iI_rng (Int.le_trans (by decide) (Int.add_le_add (b_l7_x42.1) (Int.le_refl _))) (by omega) (by decide) (by decide)) (show RB p1.toInt v2103 u2101 from by first | assumption | exact RB.first rfl (by omega) (by omega) (by assumption) | exact RB.more hRB hSE (by assumption) (by assumption) (by assumption) (by assumption) (by omega) (by omega) (by omega) (by omega)) (show SubB l3_x15 v2103 from by first | assumption | exact SubB.refl _ | exact SubB.zero _ | exact hSF | exact SubB.grow hSE (by assumption)) (show SubB v2105 v2103 from by first | assumption | exact SubB.zero _ | exact SubB.both hSF (by assumption) (by assumption)) (show RQ3 p1.toInt.toNat fN_free u2101 v2103 l3_x15 v2105 l4_x15.toInt l6_x32.toInt.toNat (iI (l7_x42.toInt + 1)).toInt.toNat from by rw [show (iI (l7_x42.toInt + 1)).toInt.toNat = l7_x42.toInt.toNat + 1 from by rw [iI_t (by omega) (by omega)]; omega]; (have eIt : ((iI ((l6_x32.toInt * 12) + l7_x42.toInt))).toNatClampNeg = 12 * l6_x32.toInt.toNat + l7_x42.toInt.toNat := (by show (iI (l6_x32.toInt * 12 + l7_x42.toInt)).toInt.toNat = _; rw [iI_t (by omega) (by omega)]; omega); exact RQ3.add hQ3 (by omega) (by omega) (x := l6_x32) (y := l7_x42) (by omega) (by omega) hbi hSE hbj (by rw [← eIt, ← b_v2100]; omega) b1_u2101 b_v2103 b_v2105)) (by have e9 : ((iI (l7_x42.toInt + 1))).toInt = (l7_x42.toInt + 1) := (iI_t (Int.le_trans (by decide) (Int.add_le_add (b_l7_x42.1) (Int.le_refl _))) (Int.le_trans (Int.add_le_add (b_l7_x42.2) (Int.le_refl _)) (by decide))); omega) hP hD hS hl
                · rintro H locs ls stk ⟨hX3, rfl, hP, hD, hS, hl⟩
                  refine lv_iinc (v := (iI (l6_x32.toInt + 1))) hx hb dX2_reach_123 hl (k := 1) rfl (iI_add2 (iI_of _) (by decide : (1 : Int32) = iI 1)) (by decide) rfl (fun ls (hl : lv_has ls _ ([(6, .int (iI (l6_x32.toInt + 1))), (7, .int l7_x42), (5, .int l5_x42), (4, .int l4_x15), (3, .int l3_x15), (0, .ref (hN 0)), (1, .int p1), (2, .int p2)])) => ?_)
                  refine lv_goto (tgt := 32) hx hb dX2_reach_126 (by decide) ?_
                  have hl : lv_has _ _ ([(6, .int (iI (l6_x32.toInt + 1))), (5, .int l5_x42), (4, .int l4_x15), (3, .int l3_x15), (0, .ref (hN 0)), (1, .int p1), (2, .int p2)]) := lv_sub hl [0, 2, 3, 4, 5, 6, 7] rfl
                  exact ihx32 iN_reached_x42 fN_before_x42 (iI (l6_x32.toInt + 1)) l5_x42 _ _ _ b_fN_before_x42 (iI_rng (Int.le_trans (by decide) (Int.add_le_add (b_l6_x32.1) (Int.le_refl _))) (by omega) (by decide) (by decide)) (show RB p1.toInt iN_reached_x42 fN_before_x42 from by first | assumption | exact RB.first rfl (by omega) (by omega) (by assumption) | exact RB.more hRB hSE (by assumption) (by assumption) (by assumption) (by assumption) (by omega) (by omega) (by omega) (by omega)) (show SubB l3_x15 iN_reached_x42 from by first | assumption | exact SubB.refl _ | exact SubB.zero _ | exact hSF | exact SubB.grow hSE (by assumption)) (show SubB l5_x42 iN_reached_x42 from by first | assumption | exact SubB.zero _ | exact SubB.both hSF (by assumption) (by assumption)) (show RQ2 p1.toInt.toNat fN_free fN_before_x42 iN_reached_x42 l3_x15 l5_x42 l4_x15.toInt (iI (l6_x32.toInt + 1)).toInt.toNat from by rw [show (iI (l6_x32.toInt + 1)).toInt.toNat = l6_x32.toInt.toNat + 1 from by rw [iI_t (by omega) (by omega)]; omega]; exact RQ3.exit hQ3 hX3) (by have e9 : ((iI (l6_x32.toInt + 1))).toInt = (l6_x32.toInt + 1) := (iI_t (Int.le_trans (by decide) (Int.add_le_add (b_l6_x32.1) (Int.le_refl _))) (Int.le_trans (Int.add_le_add (b_l6_x32.2) (Int.le_refl _)) (by decide))); omega) hP hD hS hl
    · rintro H locs ls stk ⟨hE1, rfl, hP, hD, hS, hl⟩
      refine lv_aload_n hx hb dX2_reach_138 rfl (lv_at hl 2 rfl) ?_
      refine va_get (D := (dC, dI)) (ci := 2) (v := .int iN_reached_x15) (C := RX2) (T := TX2) (N := 14) hx hb hts iwsMX2_reach_in2 hown hK hP 0 rfl rfl 5 (by decide) (hts (.fieldLink RX2 67 "OptimaWorks$NetDesk" "reached" "I") (by decide +kernel)) (fun _ h9 => h9) rfl dX2_reach_139 ?_
      refine lv_iload_n hx hb dX2_reach_142 rfl (lv_at hl 4 rfl) ?_
      refine lv_ishr hx hb dX2_reach_143 ?_
      refine lv_topi (fun v2106 hv2106 => ?_)
      have b_v2106 : v2106 = iN_reached_x15 >>> (p2 &&& 31) := hv2106
      clear hv2106
      refine lv_iconst (v := 1) hx hb dX2_reach_144 (by decide) ?_
      refine lv_iand hx hb dX2_reach_145 ?_
      refine lv_topi (fun v2107 hv2107 => ?_)
      have b_v2107 : (bt iN_reached_x15 p2.toInt.toNat = true ∧ v2107.toInt = 1) ∨ (bt iN_reached_x15 p2.toInt.toNat = false ∧ v2107.toInt = 0) := by rw [hv2107]; exact sh_and1 b_v2106 rfl (by omega) (by omega)
      clear hv2107
      refine W.cut (pc := 154) (fun H locs ls stk => ∃ (k0_j130 : Int32), (0 ≤ k0_j130.toInt ∧ k0_j130.toInt ≤ 1) ∧ (k0_j130.toInt ≠ 0 → bt iN_reached_x15 p2.toInt.toNat = true) ∧ (k0_j130.toInt = 0 → bt iN_reached_x15 p2.toInt.toNat = false) ∧  stk = [.int k0_j130] ∧ va_P (dC, dI) vwCl (WN hN aN kN iN_arcs fN_from fN_to fN_room fN_cost iN_reached_x15 fN_free fN_before_x15 fN_flow fN_length fN_stop iN_stops fN_price fN_rest) H ∧ va_D A (WN hN aN kN iN_arcs fN_from fN_to fN_room fN_cost iN_reached_x15 fN_free fN_before_x15 fN_flow fN_length fN_stop iN_stops fN_price fN_rest) ∧ va_S A s.heap H locs ∧ lv_has ls 8 [(4, .int l4_x15), (3, .int l3_x15), (0, .ref (hN 0)), (1, .int p1), (2, .int p2)]) (fun join130 => ?_) ?_
      · refine lv_if_eq (tgt := 153) hx hb dX2_reach_146 (by decide) (fun c_146 => ?_) (fun c_146 => ?_)
        · have t_146 : v2107.toInt = 0 := toI_eq c_146 rfl (by decide : (0 : Int32).toInt = 0)
          refine lv_iconst (v := 0) hx hb dX2_reach_153 (by decide) ?_
          have hl : lv_has _ _ ([(4, .int l4_x15), (3, .int l3_x15), (0, .ref (hN 0)), (1, .int p1), (2, .int p2)]) := lv_sub hl [0, 1, 2, 3, 4] rfl
          exact join130 _ _ _ _ ⟨0, (show 0 ≤ (0 : Int32).toInt ∧ (0 : Int32).toInt ≤ 1 from by decide), (show (0 : Int32).toInt ≠ 0 → bt iN_reached_x15 p2.toInt.toNat = true from by first | (intro h9; exact absurd (by decide) h9) | (intro h9; exact bt_yes (by assumption) t_146)), (show (0 : Int32).toInt = 0 → bt iN_reached_x15 p2.toInt.toNat = false from by first | (intro h9; exact absurd h9 (by decide)) | (intro h9; exact bt_no (by assumption) t_146)), rfl, hP, hD, hS, hl⟩
        · have t_146 : ¬ v2107.toInt = 0 := toI_neq c_146 rfl (by decide : (0 : Int32).toInt = 0)
          refine lv_iconst (v := 1) hx hb dX2_reach_149 (by decide) ?_
          refine lv_goto (tgt := 154) hx hb dX2_reach_150 (by decide) ?_
          have hl : lv_has _ _ ([(4, .int l4_x15), (3, .int l3_x15), (0, .ref (hN 0)), (1, .int p1), (2, .int p2)]) := lv_sub hl [0, 1, 2, 3, 4] rfl
          exact join130 _ _ _ _ ⟨1, (show 0 ≤ (1 : Int32).toInt ∧ (1 : Int32).toInt ≤ 1 from by decide), (show (1 : Int32).toInt ≠ 0 → bt iN_reached_x15 p2.toInt.toNat = true from by first | (intro h9; exact absurd (by decide) h9) | (intro h9; exact bt_yes (by assumption) t_146)), (show (1 : Int32).toInt = 0 → bt iN_reached_x15 p2.toInt.toNat = false from by first | (intro h9; exact absurd h9 (by decide)) | (intro h9; exact bt_no (by assumption) t_146)), rfl, hP, hD, hS, hl⟩
      · rintro H locs ls stk ⟨k0_j130, b_k0_j130, hjr, hjn, rfl, hP, hD, hS, hl⟩
        refine W.widen (k := 0) (n := 0) (by decide +kernel) (by decide +kernel) ?_
        exact W.zret (v := k0_j130) hx hb hr (by rcases z01 (x := k0_j130) (b_k0_j130) with h9 | h9 <;> rw [h9] <;> rfl) (fun t9_ ht hW => ⟨⟨k0_j130, (iN_reached_x15, fN_before_x15), rfl, ⟨b_fN_before_x15, (b_k0_j130), (by (try dsimp only); exact (hRB)), (by (try dsimp only); exact (hjr)), (by (try dsimp only); exact (RQ1.done hQ1 hE1)), (by (try dsimp only); exact (hjn))⟩, by rw [ht]; exact hP, hD⟩, hS.F ht⟩) hS.2.2 dX2_reach_154
end
section
theorem hd_yX2_reach_RX2 : yX2_reach.cls = RX2 ∧ yX2_reach.cls ≠ "java/lang/invoke/MethodHandle" ∧ yX2_reach.cls ≠ "java/lang/invoke/VarHandle" ∧ (parseMethodDescriptor yX2_reach.desc).map (fun d => d.parameters.length) = some 2 := by decide +kernel
theorem dX2_fill_0 : decode cX2_fill 0 = .ok (.aload_n 0, 1) := dk_42 (by decide +kernel)
theorem dX2_fill_1 : decode cX2_fill 1 = .ok (.getfield 24, 3) := dk_180 (by decide +kernel)
theorem dX2_fill_4 : decode cX2_fill 4 = .ok (.iconst 0, 1) := dk_3 (by decide +kernel)
theorem dX2_fill_5 : decode cX2_fill 5 = .ok (.invokestatic 49, 3) := dk_184 (by decide +kernel)
theorem dX2_fill_8 : decode cX2_fill 8 = .ok (.iconst 0, 1) := dk_3 (by decide +kernel)
theorem dX2_fill_9 : decode cX2_fill 9 = .ok (.istore_n 3, 1) := dk_62 (by decide +kernel)
theorem dX2_fill_10 : decode cX2_fill 10 = .ok (.iload_n 3, 1) := dk_29 (by decide +kernel)
theorem dX2_fill_11 : decode cX2_fill 11 = .ok (.aload_n 0, 1) := dk_42 (by decide +kernel)
theorem dX2_fill_12 : decode cX2_fill 12 = .ok (.getfield 45, 3) := dk_180 (by decide +kernel)
theorem dX2_fill_15 : decode cX2_fill 15 = .ok (.if_icmp .ge 39, 3) := dk_162 (by decide +kernel)
theorem dX2_fill_18 : decode cX2_fill 18 = .ok (.aload_n 0, 1) := dk_42 (by decide +kernel)
theorem dX2_fill_19 : decode cX2_fill 19 = .ok (.getfield 24, 3) := dk_180 (by decide +kernel)
theorem dX2_fill_22 : decode cX2_fill 22 = .ok (.aload_n 0, 1) := dk_42 (by decide +kernel)
theorem dX2_fill_23 : decode cX2_fill 23 = .ok (.getfield 11, 3) := dk_180 (by decide +kernel)
theorem dX2_fill_26 : decode cX2_fill 26 = .ok (.iload_n 3, 1) := dk_29 (by decide +kernel)
theorem dX2_fill_27 : decode cX2_fill 27 = .ok (.iaload, 1) := dk_46 (by decide +kernel)
theorem dX2_fill_28 : decode cX2_fill 28 = .ok (.bipush 12, 2) := dk_16 (by decide +kernel)
theorem dX2_fill_30 : decode cX2_fill 30 = .ok (.imul, 1) := dk_104 (by decide +kernel)
theorem dX2_fill_31 : decode cX2_fill 31 = .ok (.aload_n 0, 1) := dk_42 (by decide +kernel)
theorem dX2_fill_32 : decode cX2_fill 32 = .ok (.getfield 15, 3) := dk_180 (by decide +kernel)
theorem dX2_fill_35 : decode cX2_fill 35 = .ok (.iload_n 3, 1) := dk_29 (by decide +kernel)
theorem dX2_fill_36 : decode cX2_fill 36 = .ok (.iaload, 1) := dk_46 (by decide +kernel)
theorem dX2_fill_37 : decode cX2_fill 37 = .ok (.iadd, 1) := dk_96 (by decide +kernel)
theorem dX2_fill_38 : decode cX2_fill 38 = .ok (.dup2, 1) := dk_92 (by decide +kernel)
theorem dX2_fill_39 : decode cX2_fill 39 = .ok (.iaload, 1) := dk_46 (by decide +kernel)
theorem dX2_fill_40 : decode cX2_fill 40 = .ok (.aload_n 0, 1) := dk_42 (by decide +kernel)
theorem dX2_fill_41 : decode cX2_fill 41 = .ok (.getfield 18, 3) := dk_180 (by decide +kernel)
theorem dX2_fill_44 : decode cX2_fill 44 = .ok (.iload_n 3, 1) := dk_29 (by decide +kernel)
theorem dX2_fill_45 : decode cX2_fill 45 = .ok (.iaload, 1) := dk_46 (by decide +kernel)
theorem dX2_fill_46 : decode cX2_fill 46 = .ok (.iadd, 1) := dk_96 (by decide +kernel)
theorem dX2_fill_47 : decode cX2_fill 47 = .ok (.iastore, 1) := dk_79 (by decide +kernel)
theorem dX2_fill_48 : decode cX2_fill 48 = .ok (.iinc 3 1, 3) := dk_132 (by decide +kernel)
theorem dX2_fill_51 : decode cX2_fill 51 = .ok (.goto (-41), 3) := dk_167 (by decide +kernel)
theorem dX2_fill_54 : decode cX2_fill 54 = .ok (.iconst 0, 1) := dk_3 (by decide +kernel)
theorem dX2_fill_55 : decode cX2_fill 55 = .ok (.istore_n 3, 1) := dk_62 (by decide +kernel)
theorem dX2_fill_56 : decode cX2_fill 56 = .ok (.iconst 0, 1) := dk_3 (by decide +kernel)
theorem dX2_fill_57 : decode cX2_fill 57 = .ok (.istore 4, 2) := dk_54 (by decide +kernel)
theorem dX2_fill_59 : decode cX2_fill 59 = .ok (.iload 4, 2) := dk_21 (by decide +kernel)
theorem dX2_fill_61 : decode cX2_fill 61 = .ok (.ldc 55, 2) := dk_18 (by decide +kernel)
theorem dX2_fill_63 : decode cX2_fill 63 = .ok (.if_icmp .ge 166, 3) := dk_162 (by decide +kernel)
theorem dX2_fill_66 : decode cX2_fill 66 = .ok (.aload_n 0, 1) := dk_42 (by decide +kernel)
theorem dX2_fill_67 : decode cX2_fill 67 = .ok (.iload_n 1, 1) := dk_27 (by decide +kernel)
theorem dX2_fill_68 : decode cX2_fill 68 = .ok (.iload_n 2, 1) := dk_28 (by decide +kernel)
theorem dX2_fill_69 : decode cX2_fill 69 = .ok (.invokevirtual 56, 3) := dk_182 (by decide +kernel)
theorem dX2_fill_72 : decode cX2_fill 72 = .ok (.ifCond .eq 157, 3) := dk_153 (by decide +kernel)
theorem dX2_fill_75 : decode cX2_fill 75 = .ok (.ldc 60, 2) := dk_18 (by decide +kernel)
theorem dX2_fill_77 : decode cX2_fill 77 = .ok (.istore 5, 2) := dk_54 (by decide +kernel)
theorem dX2_fill_79 : decode cX2_fill 79 = .ok (.iload_n 2, 1) := dk_28 (by decide +kernel)
theorem dX2_fill_80 : decode cX2_fill 80 = .ok (.istore 6, 2) := dk_54 (by decide +kernel)
theorem dX2_fill_82 : decode cX2_fill 82 = .ok (.iconst 0, 1) := dk_3 (by decide +kernel)
theorem dX2_fill_83 : decode cX2_fill 83 = .ok (.istore 7, 2) := dk_54 (by decide +kernel)
theorem dX2_fill_85 : decode cX2_fill 85 = .ok (.iload 6, 2) := dk_21 (by decide +kernel)
theorem dX2_fill_87 : decode cX2_fill 87 = .ok (.iload_n 1, 1) := dk_27 (by decide +kernel)
theorem dX2_fill_88 : decode cX2_fill 88 = .ok (.if_icmp .eq 50, 3) := dk_159 (by decide +kernel)
theorem dX2_fill_91 : decode cX2_fill 91 = .ok (.iload 7, 2) := dk_21 (by decide +kernel)
theorem dX2_fill_93 : decode cX2_fill 93 = .ok (.bipush 12, 2) := dk_16 (by decide +kernel)
theorem dX2_fill_95 : decode cX2_fill 95 = .ok (.if_icmp .ge 43, 3) := dk_162 (by decide +kernel)
theorem dX2_fill_98 : decode cX2_fill 98 = .ok (.iload 5, 2) := dk_21 (by decide +kernel)
theorem dX2_fill_100 : decode cX2_fill 100 = .ok (.aload_n 0, 1) := dk_42 (by decide +kernel)
theorem dX2_fill_101 : decode cX2_fill 101 = .ok (.getfield 24, 3) := dk_180 (by decide +kernel)
theorem dX2_fill_104 : decode cX2_fill 104 = .ok (.aload_n 0, 1) := dk_42 (by decide +kernel)
theorem dX2_fill_105 : decode cX2_fill 105 = .ok (.getfield 27, 3) := dk_180 (by decide +kernel)
theorem dX2_fill_108 : decode cX2_fill 108 = .ok (.iload 6, 2) := dk_21 (by decide +kernel)
theorem dX2_fill_110 : decode cX2_fill 110 = .ok (.iaload, 1) := dk_46 (by decide +kernel)
theorem dX2_fill_111 : decode cX2_fill 111 = .ok (.bipush 12, 2) := dk_16 (by decide +kernel)
theorem dX2_fill_113 : decode cX2_fill 113 = .ok (.imul, 1) := dk_104 (by decide +kernel)
theorem dX2_fill_114 : decode cX2_fill 114 = .ok (.iload 6, 2) := dk_21 (by decide +kernel)
theorem dX2_fill_116 : decode cX2_fill 116 = .ok (.iadd, 1) := dk_96 (by decide +kernel)
theorem dX2_fill_117 : decode cX2_fill 117 = .ok (.iaload, 1) := dk_46 (by decide +kernel)
theorem dX2_fill_118 : decode cX2_fill 118 = .ok (.invokestatic 61, 3) := dk_184 (by decide +kernel)
theorem dX2_fill_121 : decode cX2_fill 121 = .ok (.istore 5, 2) := dk_54 (by decide +kernel)
theorem dX2_fill_123 : decode cX2_fill 123 = .ok (.aload_n 0, 1) := dk_42 (by decide +kernel)
theorem dX2_fill_124 : decode cX2_fill 124 = .ok (.getfield 27, 3) := dk_180 (by decide +kernel)
theorem dX2_fill_127 : decode cX2_fill 127 = .ok (.iload 6, 2) := dk_21 (by decide +kernel)
theorem dX2_fill_129 : decode cX2_fill 129 = .ok (.iaload, 1) := dk_46 (by decide +kernel)
theorem dX2_fill_130 : decode cX2_fill 130 = .ok (.istore 6, 2) := dk_54 (by decide +kernel)
theorem dX2_fill_132 : decode cX2_fill 132 = .ok (.iinc 7 1, 3) := dk_132 (by decide +kernel)
theorem dX2_fill_135 : decode cX2_fill 135 = .ok (.goto (-50), 3) := dk_167 (by decide +kernel)
theorem dX2_fill_138 : decode cX2_fill 138 = .ok (.iload_n 2, 1) := dk_28 (by decide +kernel)
theorem dX2_fill_139 : decode cX2_fill 139 = .ok (.istore 6, 2) := dk_54 (by decide +kernel)
theorem dX2_fill_141 : decode cX2_fill 141 = .ok (.iconst 0, 1) := dk_3 (by decide +kernel)
theorem dX2_fill_142 : decode cX2_fill 142 = .ok (.istore 7, 2) := dk_54 (by decide +kernel)
theorem dX2_fill_144 : decode cX2_fill 144 = .ok (.iload 6, 2) := dk_21 (by decide +kernel)
theorem dX2_fill_146 : decode cX2_fill 146 = .ok (.iload_n 1, 1) := dk_27 (by decide +kernel)
theorem dX2_fill_147 : decode cX2_fill 147 = .ok (.if_icmp .eq 71, 3) := dk_159 (by decide +kernel)
theorem dX2_fill_150 : decode cX2_fill 150 = .ok (.iload 7, 2) := dk_21 (by decide +kernel)
theorem dX2_fill_152 : decode cX2_fill 152 = .ok (.bipush 12, 2) := dk_16 (by decide +kernel)
theorem dX2_fill_154 : decode cX2_fill 154 = .ok (.if_icmp .ge 64, 3) := dk_162 (by decide +kernel)
theorem dX2_fill_157 : decode cX2_fill 157 = .ok (.aload_n 0, 1) := dk_42 (by decide +kernel)
theorem dX2_fill_158 : decode cX2_fill 158 = .ok (.getfield 24, 3) := dk_180 (by decide +kernel)
theorem dX2_fill_161 : decode cX2_fill 161 = .ok (.aload_n 0, 1) := dk_42 (by decide +kernel)
theorem dX2_fill_162 : decode cX2_fill 162 = .ok (.getfield 27, 3) := dk_180 (by decide +kernel)
theorem dX2_fill_165 : decode cX2_fill 165 = .ok (.iload 6, 2) := dk_21 (by decide +kernel)
theorem dX2_fill_167 : decode cX2_fill 167 = .ok (.iaload, 1) := dk_46 (by decide +kernel)
theorem dX2_fill_168 : decode cX2_fill 168 = .ok (.bipush 12, 2) := dk_16 (by decide +kernel)
theorem dX2_fill_170 : decode cX2_fill 170 = .ok (.imul, 1) := dk_104 (by decide +kernel)
theorem dX2_fill_171 : decode cX2_fill 171 = .ok (.iload 6, 2) := dk_21 (by decide +kernel)
theorem dX2_fill_173 : decode cX2_fill 173 = .ok (.iadd, 1) := dk_96 (by decide +kernel)
theorem dX2_fill_174 : decode cX2_fill 174 = .ok (.dup2, 1) := dk_92 (by decide +kernel)
theorem dX2_fill_175 : decode cX2_fill 175 = .ok (.iaload, 1) := dk_46 (by decide +kernel)
theorem dX2_fill_176 : decode cX2_fill 176 = .ok (.iload 5, 2) := dk_21 (by decide +kernel)
theorem dX2_fill_178 : decode cX2_fill 178 = .ok (.isub, 1) := dk_100 (by decide +kernel)
theorem dX2_fill_179 : decode cX2_fill 179 = .ok (.iastore, 1) := dk_79 (by decide +kernel)
theorem dX2_fill_180 : decode cX2_fill 180 = .ok (.aload_n 0, 1) := dk_42 (by decide +kernel)
theorem dX2_fill_181 : decode cX2_fill 181 = .ok (.getfield 24, 3) := dk_180 (by decide +kernel)
theorem dX2_fill_184 : decode cX2_fill 184 = .ok (.iload 6, 2) := dk_21 (by decide +kernel)
theorem dX2_fill_186 : decode cX2_fill 186 = .ok (.bipush 12, 2) := dk_16 (by decide +kernel)
theorem dX2_fill_188 : decode cX2_fill 188 = .ok (.imul, 1) := dk_104 (by decide +kernel)
theorem dX2_fill_189 : decode cX2_fill 189 = .ok (.aload_n 0, 1) := dk_42 (by decide +kernel)
theorem dX2_fill_190 : decode cX2_fill 190 = .ok (.getfield 27, 3) := dk_180 (by decide +kernel)
theorem dX2_fill_193 : decode cX2_fill 193 = .ok (.iload 6, 2) := dk_21 (by decide +kernel)
theorem dX2_fill_195 : decode cX2_fill 195 = .ok (.iaload, 1) := dk_46 (by decide +kernel)
theorem dX2_fill_196 : decode cX2_fill 196 = .ok (.iadd, 1) := dk_96 (by decide +kernel)
theorem dX2_fill_197 : decode cX2_fill 197 = .ok (.dup2, 1) := dk_92 (by decide +kernel)
theorem dX2_fill_198 : decode cX2_fill 198 = .ok (.iaload, 1) := dk_46 (by decide +kernel)
theorem dX2_fill_199 : decode cX2_fill 199 = .ok (.iload 5, 2) := dk_21 (by decide +kernel)
theorem dX2_fill_201 : decode cX2_fill 201 = .ok (.iadd, 1) := dk_96 (by decide +kernel)
theorem dX2_fill_202 : decode cX2_fill 202 = .ok (.iastore, 1) := dk_79 (by decide +kernel)
theorem dX2_fill_203 : decode cX2_fill 203 = .ok (.aload_n 0, 1) := dk_42 (by decide +kernel)
theorem dX2_fill_204 : decode cX2_fill 204 = .ok (.getfield 27, 3) := dk_180 (by decide +kernel)
theorem dX2_fill_207 : decode cX2_fill 207 = .ok (.iload 6, 2) := dk_21 (by decide +kernel)
theorem dX2_fill_209 : decode cX2_fill 209 = .ok (.iaload, 1) := dk_46 (by decide +kernel)
theorem dX2_fill_210 : decode cX2_fill 210 = .ok (.istore 6, 2) := dk_54 (by decide +kernel)
theorem dX2_fill_212 : decode cX2_fill 212 = .ok (.iinc 7 1, 3) := dk_132 (by decide +kernel)
theorem dX2_fill_215 : decode cX2_fill 215 = .ok (.goto (-71), 3) := dk_167 (by decide +kernel)
theorem dX2_fill_218 : decode cX2_fill 218 = .ok (.iload_n 3, 1) := dk_29 (by decide +kernel)
theorem dX2_fill_219 : decode cX2_fill 219 = .ok (.iload 5, 2) := dk_21 (by decide +kernel)
theorem dX2_fill_221 : decode cX2_fill 221 = .ok (.iadd, 1) := dk_96 (by decide +kernel)
theorem dX2_fill_222 : decode cX2_fill 222 = .ok (.istore_n 3, 1) := dk_62 (by decide +kernel)
theorem dX2_fill_223 : decode cX2_fill 223 = .ok (.iinc 4 1, 3) := dk_132 (by decide +kernel)
theorem dX2_fill_226 : decode cX2_fill 226 = .ok (.goto (-167), 3) := dk_167 (by decide +kernel)
theorem dX2_fill_229 : decode cX2_fill 229 = .ok (.iload_n 3, 1) := dk_29 (by decide +kernel)
theorem dX2_fill_230 : decode cX2_fill 230 = .ok (.ireturn, 1) := dk_172 (by decide +kernel)
def wsMX2_fill : List Cond := .code yX2_fill cX2_fill 8 (some .int) :: ([.fieldLink RX2 24 "OptimaWorks$NetDesk" "free" "[I", .fieldLink RX2 45 "OptimaWorks$NetDesk" "arcs" "I", .fieldLink RX2 11 "OptimaWorks$NetDesk" "from" "[I", .fieldLink RX2 15 "OptimaWorks$NetDesk" "to" "[I", .fieldLink RX2 18 "OptimaWorks$NetDesk" "room" "[I", .constant RX2 55 1000000, .constant RX2 60 536870912, .fieldLink RX2 27 "OptimaWorks$NetDesk" "before" "[I", .methodLink RX2 61 Lib.Math.min.name, .static Lib.Math.min.name, .initialized "java/lang/Math", .code Lib.Math.min.name Lib.Math.min.code 2 (some .int)] ++ wsX20 ++ (va_wsS RX2 49 yJ7_fill_53178 wsMJ7_fill_53178) ++ (wsV RX2 56 RX2 yX2_reach wsMX2_reach))
theorem iwsMX2_fill_in2 : ∀ w ∈ wsX20, w ∈ wsMX2_fill := fun _ h => List.mem_cons_of_mem _ (List.mem_append_left _ (List.mem_append_left _ (List.mem_append_right _ h)))
theorem gwsMX2_fill_0 : GoodIn wsMX2_fill (va_wsS RX2 49 yJ7_fill_53178 wsMJ7_fill_53178) := goodIn_sub (fun _ h => List.mem_cons_of_mem _ (List.mem_append_left _ (List.mem_append_right _ h))) (gdS (by decide +kernel) gdwsMJ7_fill_53178)
theorem gwsMX2_fill_1 : GoodIn wsMX2_fill (wsV RX2 56 RX2 yX2_reach wsMX2_reach) := goodIn_sub (fun _ h => List.mem_cons_of_mem _ (List.mem_append_right _ h)) (gdV (by decide +kernel) gdwsMX2_reach)
theorem gdwsMX2_fill : wsMX2_fill.all goodWord = true := gdC rfl (gdA (gdA (gdA (by decide +kernel : ([.fieldLink RX2 24 "OptimaWorks$NetDesk" "free" "[I", .fieldLink RX2 45 "OptimaWorks$NetDesk" "arcs" "I", .fieldLink RX2 11 "OptimaWorks$NetDesk" "from" "[I", .fieldLink RX2 15 "OptimaWorks$NetDesk" "to" "[I", .fieldLink RX2 18 "OptimaWorks$NetDesk" "room" "[I", .constant RX2 55 1000000, .constant RX2 60 536870912, .fieldLink RX2 27 "OptimaWorks$NetDesk" "before" "[I", .methodLink RX2 61 Lib.Math.min.name, .static Lib.Math.min.name, .initialized "java/lang/Math", .code Lib.Math.min.name Lib.Math.min.code 2 (some .int)] : List Cond).all goodWord = true) gdwsX20) (gdS (by decide +kernel) gdwsMJ7_fill_53178)) (gdV (by decide +kernel) gdwsMX2_reach))
set_option maxHeartbeats 4000000 in
set_option maxRecDepth 100000 in
/-- a greatest flow -/
theorem m_X2_fill (l : Launch) (dC : Nat → ClassId) (dI : Nat → Nat → Nat) (hN : Nat → Nat) (aN : Nat → Nat) (kN : Nat → ClassId) (iN_arcs : Int32) (fN_from : Nat → Int32) (fN_to : Nat → Int32) (fN_room : Nat → Int32) (fN_cost : Nat → Int32) (iN_reached : Int32) (fN_free : Nat → Int32) (fN_before : Nat → Int32) (fN_flow : Nat → Int32) (fN_length : Nat → Int32) (fN_stop : Nat → Int32) (iN_stops : Int32) (fN_price : Nat → Int32) (fN_rest : Nat → Int32) (p1 : Int32) (p2 : Int32) (b_iN_arcs : 0 ≤ iN_arcs.toInt ∧ iN_arcs.toInt ≤ 40) (b_fN_from : ∀ q : Nat, 0 ≤ (fN_from q).toInt ∧ (fN_from q).toInt ≤ 11) (b_fN_to : ∀ q : Nat, 0 ≤ (fN_to q).toInt ∧ (fN_to q).toInt ≤ 11) (b_fN_before : ∀ q : Nat, 0 ≤ (fN_before q).toInt ∧ (fN_before q).toInt ≤ 79) (b_fN_stop : ∀ q : Nat, 0 ≤ (fN_stop q).toInt ∧ (fN_stop q).toInt ≤ 11) (b_iN_stops : 0 ≤ iN_stops.toInt ∧ iN_stops.toInt ≤ 8) (b_p1 : 0 ≤ p1.toInt ∧ p1.toInt ≤ 11) (b_p2 : 0 ≤ p2.toInt ∧ p2.toInt ≤ 11) (hVal : tVal (iN_arcs.toInt, fN_from, fN_to, fN_room, fN_cost)) (hRm : tRm (iN_arcs.toInt, fN_from, fN_to, fN_room, fN_cost)) (hne : p1.toInt ≠ p2.toInt) (sz : Nat) : Met l yX2_fill wsMX2_fill ({ frames := 1, cells := 0, slots := 0, locals := 27 }) (va_Pc [.ref (hN 0), .int p1, .int p2] (fun U => U.heap.size = sz ∧ va_P (dC, dI) vwCl (WN hN aN kN iN_arcs fN_from fN_to fN_room fN_cost iN_reached fN_free fN_before fN_flow fN_length fN_stop iN_stops fN_price fN_rest) U.heap ∧ va_K (dC, dI) vwCl (tN kN) U ∧ va_D (fun _ => True) (WN hN aN kN iN_arcs fN_from fN_to fN_room fN_cost iN_reached fN_free fN_before fN_flow fN_length fN_stop iN_stops fN_price fN_rest))) (va_Qi (fun (r : Int32) (u : (Int32) × (Nat → Int32) × (Nat → Int32)) => (∀ q : Nat, 0 ≤ ((u.2.2) q).toInt ∧ ((u.2.2) q).toInt ≤ 79) ∧ (mxF (iN_arcs.toInt, fN_from, fN_to, fN_room, fN_cost) p1.toInt.toNat p2.toInt.toNat r.toInt) ∧ (mxC (iN_arcs.toInt, fN_from, fN_to, fN_room, fN_cost) p1.toInt.toNat p2.toInt.toNat (u.1))) (fun (u : (Int32) × (Nat → Int32) × (Nat → Int32)) t => va_P (dC, dI) vwCl (WN hN aN kN iN_arcs fN_from fN_to fN_room fN_cost (u.1) (u.2.1) (u.2.2) fN_flow fN_length fN_stop iN_stops fN_price fN_rest) t.heap ∧ va_D (va_A (WN hN aN kN iN_arcs fN_from fN_to fN_room fN_cost iN_reached fN_free fN_before fN_flow fN_length fN_stop iN_stops fN_price fN_rest) sz) (WN hN aN kN iN_arcs fN_from fN_to fN_room fN_cost (u.1) (u.2.1) (u.2.2) fN_flow fN_length fN_stop iN_stops fN_price fN_rest)) (va_A (WN hN aN kN iN_arcs fN_from fN_to fN_room fN_cost iN_reached fN_free fN_before fN_flow fN_length fN_stop iN_stops fN_price fN_rest) sz)) 0 0 (va_A (WN hN aN kN iN_arcs fN_from fN_to fN_room fN_cost iN_reached fN_free fN_before fN_flow fN_length fN_stop iN_stops fN_price fN_rest) sz) := by
  refine Met.ofW (cc := cX2_fill) (maxL := 8) (ret := (some .int)) (by decide) rfl ?_
  intro p e s m args below meth c s₁ B hml hv
  obtain ⟨rfl, hsz, hP, hK, hD0⟩ := hv
  have hx := B.exec
  have hb := B.bytes
  have hr := B.returns
  have hts := atoms_spec (ws := wsMX2_fill) B.pre
  have hown : s.vm.findClass RX2 = some m.cls := findClass_of_methodNamed B.named
  have hlocks := B.notSynchronized
  subst hsz
  have hD := hD0.self (sz := s.heap.size)
  generalize hAe : va_A (WN hN aN kN iN_arcs fN_from fN_to fN_room fN_cost iN_reached fN_free fN_before fN_flow fN_length fN_stop iN_stops fN_price fN_rest) s.heap.size = A at hD ⊢
  have hA : ∀ q : Nat, s.heap.size ≤ q → A q := fun q h => by rw [← hAe]; exact Or.inr h
  have hS : va_S A s.heap s.heap [] := va_S.rf
  have hl := lv_entry ([.ref (hN 0), .int p1, .int p2]) (n := 8) (Nat.le_of_ble_eq_true rfl)
  rw [lg_entry_eq]
  generalize (lg_sl ([.ref (hN 0), .int p1, .int p2]) ++ List.replicate (8 - (lg_sl ([.ref (hN 0), .int p1, .int p2])).length) Slot.unset).toArray = ls at hl ⊢
  have hl : lv_has ls 8 [(0, .ref (hN 0)), (1, .int p1), (2, .int p2)] := hl
  refine lv_aload_n hx hb dX2_fill_0 rfl (lv_at hl 0 rfl) ?_
  refine va_get (D := (dC, dI)) (ci := 2) (v := .ref (aN 4)) (C := RX2) (T := TX2) (N := 14) hx hb hts iwsMX2_fill_in2 hown hK hP 0 rfl rfl 6 (by decide) (hts (.fieldLink RX2 24 "OptimaWorks$NetDesk" "free" "[I") (by decide +kernel)) (fun _ h9 => h9) rfl dX2_fill_1 ?_
  refine lv_iconst (v := 0) hx hb dX2_fill_4 (by decide) ?_
  have hPc : va_P (dC, dI) vwCl (WY (fun _ => 0) (fun _ => aN 4) (fun _ => kN 4) 144 fN_free) _ := hP.sub [5] rfl
  have hDc : va_D _ (WY (fun _ => 0) (fun _ => aN 4) (fun _ => kN 4) 144 fN_free) := hD.sub [5] (by decide) rfl
  have hKc : va_K (dC, dI) vwCl (tY (fun _ => kN 4)) _ := hK.sub [4] rfl
  have hFc := va_free (wc := WY (fun _ => 0) (fun _ => aN 4) (fun _ => kN 4) 144 fN_free) hD hS hA [5] rfl
  refine va_callv (va_runS (As := [.ref (aN 4), .int 0]) (rest := []) ⟨hx, hb, hml, hown, hts⟩ (m_J7_fill_53178 l dC dI (fun _ => 0) (fun _ => aN 4) (fun _ => kN 4) 144 fN_free 0 (by first | assumption | exact ⟨by omega, by omega⟩) s.heap.size) (va_cwS 2 hts gwsMX2_fill_0 rfl rfl rfl (by decide +kernel) ⟨by decide +kernel, by decide +kernel⟩) ⟨fun a U g mk q => by obtain ⟨q0, q1, qP, qK, qD⟩ := q; exact ⟨q0, q1, qP, va_K.moved (u := U) (U := U.calling g mk a) (Vm.Alike.refl U.vm) qK, qD⟩, fun U hU9 hW => ⟨rfl, by rw [hU9], by rw [hU9]; exact hPc, va_K.moved hW.alike hKc, hDc.weaken (fun _ _ _ _ => trivial)⟩⟩ rfl rfl hl.1 rfl (lv_room (Nat.le_of_ble_eq_true rfl)) dX2_fill_5 (by decide +kernel)) hS (fun q _ h => hFc q h) hFc (fun fY_1 t9_ H locs ht hvm hw9 hB9 hz1 hk1 hS => ?_)
  have f1_0 := hw9
  try dsimp only at f1_0
  obtain ⟨hP, hD⟩ := va_join (wr := [(hN 0, .inr (2, [.int iN_arcs, .ref (aN 0), .ref (aN 1), .ref (aN 2), .ref (aN 3), .int iN_reached, .ref (aN 4), .ref (aN 5), .ref (aN 6), .ref (aN 7), .ref (aN 8), .int iN_stops, .ref (aN 9), .ref (aN 10)])), (aN 0, .inl (kN 0, 40, .inl fN_from)), (aN 1, .inl (kN 1, 40, .inl fN_to)), (aN 2, .inl (kN 2, 40, .inl fN_room)), (aN 3, .inl (kN 3, 40, .inl fN_cost)), (aN 5, .inl (kN 5, 12, .inl fN_before)), (aN 6, .inl (kN 6, 40, .inl fN_flow)), (aN 7, .inl (kN 7, 12, .inl fN_length)), (aN 8, .inl (kN 8, 8, .inl fN_stop)), (aN 9, .inl (kN 9, 64, .inl fN_price)), (aN 10, .inl (kN 10, 1024, .inl fN_rest))]) (w1 := WY (fun _ => 0) (fun _ => aN 4) (fun _ => kN 4) 144 fY_1) hP hD [5] [0, 1, 2, 3, 4, 6, 7, 8, 9, 10, 11] rfl rfl (by decide) (by decide) hk1 hFc (fz_P ht hB9.1) hB9.2
  have hP : va_P (dC, dI) vwCl (WN hN aN kN iN_arcs fN_from fN_to fN_room fN_cost iN_reached fY_1 fN_before fN_flow fN_length fN_stop iN_stops fN_price fN_rest) H := hP.sub [0, 1, 2, 3, 4, 11, 5, 6, 7, 8, 9, 10] rfl
  have hD : va_D A (WN hN aN kN iN_arcs fN_from fN_to fN_room fN_cost iN_reached fY_1 fN_before fN_flow fN_length fN_stop iN_stops fN_price fN_rest) := hD.sub [0, 1, 2, 3, 4, 11, 5, 6, 7, 8, 9, 10] (by decide) rfl
  have hfil := f1_0
  refine lv_iconst (v := 0) hx hb dX2_fill_8 (by decide) ?_
  refine lv_istore_n hx hb dX2_fill_9 rfl hl (by decide) rfl (fun ls (hl : lv_has ls _ ([(3, .int 0), (0, .ref (hN 0)), (1, .int p1), (2, .int p2)])) => ?_)
  have hl : lv_has _ _ ([(3, .int 0), (0, .ref (hN 0)), (1, .int p1), (2, .int p2)]) := lv_sub hl [0, 1, 2, 3] rfl
  refine (fun (loop : ∀ (n9 : Nat) (fN_free_x10 : Nat → Int32) (l3_x10 : Int32) (H : Heap) (locs : List Loc) (ls : Array Slot), (0 ≤ l3_x10.toInt ∧ l3_x10.toInt ≤ 40) → (mG (iN_arcs.toInt, fN_from, fN_to, fN_room, fN_cost) fN_free_x10 l3_x10.toInt.toNat) → (l3_x10.toInt ≤ iN_arcs.toInt) → (40 - l3_x10.toInt < ((n9 : Nat) : Int)) → va_P (dC, dI) vwCl (WN hN aN kN iN_arcs fN_from fN_to fN_room fN_cost iN_reached fN_free_x10 fN_before fN_flow fN_length fN_stop iN_stops fN_price fN_rest) H → va_D A (WN hN aN kN iN_arcs fN_from fN_to fN_room fN_cost iN_reached fN_free_x10 fN_before fN_flow fN_length fN_stop iN_stops fN_price fN_rest) → va_S A s.heap H locs → lv_has ls 8 [(3, .int l3_x10), (0, .ref (hN 0)), (1, .int p1), (2, .int p2)] → W p l e _ s m _ below meth c H locs 0 0 _ (F0 m 10 ls [])) => loop (41) fY_1 0 _ _ _ (show 0 ≤ (0 : Int32).toInt ∧ (0 : Int32).toInt ≤ 40 from by decide) (show mG (iN_arcs.toInt, fN_from, fN_to, fN_room, fN_cost) fY_1 (0 : Int32).toInt.toNat from mG.start (by decide) hfil) (show (0 : Int32).toInt ≤ iN_arcs.toInt from by have h7 : (0 : Int32).toInt = 0 := (by decide); omega) ((by have e9 : (0 : Int32).toInt = 0 := (by decide : (0 : Int32).toInt = 0); omega)) hP hD hS hl) ?_
  intro n9
  induction n9 with
  | zero => intro fN_free_x10 l3_x10 H locs ls b_l3_x10 hG hla hf9; exact False.elim (by omega)
  | succ n9 ihx10 =>
    intro fN_free_x10 l3_x10 H locs ls b_l3_x10 hG hla hfx10 hP hD hS hl
    refine lv_iload_n hx hb dX2_fill_10 rfl (lv_at hl 0 rfl) ?_
    refine lv_aload_n hx hb dX2_fill_11 rfl (lv_at hl 1 rfl) ?_
    refine va_get (D := (dC, dI)) (ci := 2) (v := .int iN_arcs) (C := RX2) (T := TX2) (N := 14) hx hb hts iwsMX2_fill_in2 hown hK hP 0 rfl rfl 0 (by decide) (hts (.fieldLink RX2 45 "OptimaWorks$NetDesk" "arcs" "I") (by decide +kernel)) (fun _ h9 => h9) rfl dX2_fill_12 ?_
    refine lv_icmp_ge (tgt := 54) hx hb dX2_fill_15 (by decide) (fun c_15 => ?_) (fun c_15 => ?_)
    · have t_15 : l3_x10.toInt ≥ iN_arcs.toInt := toI_ge c_15 rfl rfl
      refine lv_iconst (v := 0) hx hb dX2_fill_54 (by decide) ?_
      refine lv_istore_n hx hb dX2_fill_55 rfl hl (by decide) rfl (fun ls (hl : lv_has ls _ ([(3, .int 0), (0, .ref (hN 0)), (1, .int p1), (2, .int p2)])) => ?_)
      refine lv_iconst (v := 0) hx hb dX2_fill_56 (by decide) ?_
      refine lv_istore hx hb dX2_fill_57 hl (by decide) rfl (fun ls (hl : lv_has ls _ ([(4, .int 0), (3, .int 0), (0, .ref (hN 0)), (1, .int p1), (2, .int p2)])) => ?_)
      have hl : lv_has _ _ ([(4, .int 0), (3, .int 0), (0, .ref (hN 0)), (1, .int p1), (2, .int p2)]) := lv_sub hl [0, 1, 2, 3, 4] rfl
      refine (fun (loop : ∀ (n9 : Nat) (iN_reached_x59 : Int32) (fN_free_x59 : Nat → Int32) (fN_before_x59 : Nat → Int32) (l4_x59 : Int32) (l3_x59 : Int32) (H : Heap) (locs : List Loc) (ls : Array Slot), (∀ q : Nat, 0 ≤ (fN_before_x59 q).toInt ∧ (fN_before_x59 q).toInt ≤ 79) → (0 ≤ l4_x59.toInt ∧ l4_x59.toInt ≤ 1000000) → (mI (iN_arcs.toInt, fN_from, fN_to, fN_room, fN_cost) p1.toInt.toNat p2.toInt.toNat fN_free_x59 l3_x59.toInt) → (0 ≤ l3_x59.toInt ∧ l4_x59.toInt ≤ l3_x59.toInt) → (1000000 - l4_x59.toInt < ((n9 : Nat) : Int)) → va_P (dC, dI) vwCl (WN hN aN kN iN_arcs fN_from fN_to fN_room fN_cost iN_reached_x59 fN_free_x59 fN_before_x59 fN_flow fN_length fN_stop iN_stops fN_price fN_rest) H → va_D A (WN hN aN kN iN_arcs fN_from fN_to fN_room fN_cost iN_reached_x59 fN_free_x59 fN_before_x59 fN_flow fN_length fN_stop iN_stops fN_price fN_rest) → va_S A s.heap H locs → lv_has ls 8 [(4, .int l4_x59), (3, .int l3_x59), (0, .ref (hN 0)), (1, .int p1), (2, .int p2)] → W p l e _ s m _ below meth c H locs 0 0 _ (F0 m 59 ls [])) => loop (1000001) iN_reached fN_free_x10 fN_before 0 0 _ _ _ b_fN_before (show 0 ≤ (0 : Int32).toInt ∧ (0 : Int32).toInt ≤ 1000000 from by decide) (show mI (iN_arcs.toInt, fN_from, fN_to, fN_room, fN_cost) p1.toInt.toNat p2.toInt.toNat fN_free_x10 (0 : Int32).toInt from by rw [show (0 : Int32).toInt = 0 from by decide]; exact mG.done hG (by (try dsimp only); omega)) (show 0 ≤ (0 : Int32).toInt ∧ (0 : Int32).toInt ≤ (0 : Int32).toInt from by decide) ((by have e9 : (0 : Int32).toInt = 0 := (by decide : (0 : Int32).toInt = 0); omega)) hP hD hS hl) ?_
      intro n9
      induction n9 with
      | zero => intro iN_reached_x59 fN_free_x59 fN_before_x59 l4_x59 l3_x59 H locs ls b_fN_before_x59 b_l4_x59 hMI hsm hf9; exact False.elim (by omega)
      | succ n9 ihx59 =>
        intro iN_reached_x59 fN_free_x59 fN_before_x59 l4_x59 l3_x59 H locs ls b_fN_before_x59 b_l4_x59 hMI hsm hfx59 hP hD hS hl
        refine lv_iload hx hb dX2_fill_59 (lv_at hl 0 rfl) ?_
        refine lv_ldc (v := 1000000) hx hb hown (hts (.constant RX2 55 1000000) (by decide +kernel)) dX2_fill_61 ?_
        refine W.cut (pc := 229) (fun H locs ls stk => ∃ (iN_reached_j12 : Int32) (fN_before_j12 : Nat → Int32), (∀ q : Nat, 0 ≤ (fN_before_j12 q).toInt ∧ (fN_before_j12 q).toInt ≤ 79) ∧ (mxF (iN_arcs.toInt, fN_from, fN_to, fN_room, fN_cost) p1.toInt.toNat p2.toInt.toNat l3_x59.toInt ∧ mxC (iN_arcs.toInt, fN_from, fN_to, fN_room, fN_cost) p1.toInt.toNat p2.toInt.toNat iN_reached_j12) ∧  stk = [] ∧ va_P (dC, dI) vwCl (WN hN aN kN iN_arcs fN_from fN_to fN_room fN_cost iN_reached_j12 fN_free_x59 fN_before_j12 fN_flow fN_length fN_stop iN_stops fN_price fN_rest) H ∧ va_D A (WN hN aN kN iN_arcs fN_from fN_to fN_room fN_cost iN_reached_j12 fN_free_x59 fN_before_j12 fN_flow fN_length fN_stop iN_stops fN_price fN_rest) ∧ va_S A s.heap H locs ∧ lv_has ls 8 [(4, .int l4_x59), (3, .int l3_x59), (0, .ref (hN 0)), (1, .int p1), (2, .int p2)]) (fun join12 => ?_) ?_
        · refine lv_icmp_ge (tgt := 229) hx hb dX2_fill_63 (by decide) (fun c_63 => ?_) (fun c_63 => ?_)
          · have t_63 : l4_x59.toInt ≥ 1000000 := toI_ge c_63 rfl (by decide : (1000000 : Int32).toInt = 1000000)
            have hl : lv_has _ _ ([(4, .int l4_x59), (3, .int l3_x59), (0, .ref (hN 0)), (1, .int p1), (2, .int p2)]) := lv_sub hl [0, 1, 2, 3, 4] rfl
            exact join12 _ _ _ _ ⟨iN_reached_x59, fN_before_x59, b_fN_before_x59, (show mxF (iN_arcs.toInt, fN_from, fN_to, fN_room, fN_cost) p1.toInt.toNat p2.toInt.toNat l3_x59.toInt ∧ mxC (iN_arcs.toInt, fN_from, fN_to, fN_room, fN_cost) p1.toInt.toNat p2.toInt.toNat iN_reached_x59 from by first | (exfalso; have h9 := mI.lim hMI hRm (by (try dsimp only); omega) (by (try dsimp only); omega) (by omega); omega) | exact RE.max hMI hRE (hbn t_72) (by omega)), rfl, hP, hD, hS, hl⟩
          · have t_63 : ¬ l4_x59.toInt ≥ 1000000 := toI_nge c_63 rfl (by decide : (1000000 : Int32).toInt = 1000000)
            refine lv_aload_n hx hb dX2_fill_66 rfl (lv_at hl 2 rfl) ?_
            refine lv_iload_n hx hb dX2_fill_67 rfl (lv_at hl 3 rfl) ?_
            refine lv_iload_n hx hb dX2_fill_68 rfl (lv_at hl 4 rfl) ?_
            have hFc := allFree hD hS hA
            refine va_calli (va_runV (As := [.int p1, .int p2]) (rest := []) ⟨hx, hb, hml, hown, hts⟩ (m_X2_reach l dC dI hN aN kN iN_arcs fN_from fN_to fN_room fN_cost iN_reached_x59 fN_free_x59 fN_before_x59 fN_flow fN_length fN_stop iN_stops fN_price fN_rest p1 p2 (b_iN_arcs) b_fN_from b_fN_to b_fN_before_x59 b_fN_stop (b_iN_stops) (b_p1) (b_p2) H.size) (cwV 2 hts gwsMX2_fill_1 rfl rfl rfl hd_yX2_reach_RX2 (by decide +kernel)) (fz_pre (va_recv hK hP (ci := 2) (q0 := 0) rfl rfl) hP hK hD) rfl rfl hl.1 rfl (lv_room (Nat.le_of_ble_eq_true rfl)) dX2_fill_69 (by decide +kernel)) hS (fun q _ h => hFc q h) hFc (fun r4799 u t9_ H locs ht hvm hw9 hB9 hz1 hk1 hS => ?_)
            revert u hw9 hB9
            refine fz_p2 ?_
            intro iN_reached_4799 fN_before_4799 hw9 hB9
            try dsimp only at hw9 hB9
            revert hw9
            refine fz_a6 ?_
            intro b_fN_before_4799 b_r4799 f4799_0 f4799_1 f4799_2 f4799_3
            have hP : va_P (dC, dI) vwCl (WN hN aN kN iN_arcs fN_from fN_to fN_room fN_cost iN_reached_4799 fN_free_x59 fN_before_4799 fN_flow fN_length fN_stop iN_stops fN_price fN_rest) H := fz_P ht hB9.1
            have hD : va_D A (WN hN aN kN iN_arcs fN_from fN_to fN_room fN_cost iN_reached_4799 fN_free_x59 fN_before_4799 fN_flow fN_length fN_stop iN_stops fN_price fN_rest) := hB9.2.weaken (fun _ q _ h => hFc q.1 h)
            have hRB := f4799_0
            have hbt := f4799_1
            have hRE := f4799_2
            have hbn := f4799_3
            refine lv_if_eq (tgt := 229) hx hb dX2_fill_72 (by decide) (fun c_72 => ?_) (fun c_72 => ?_)
            · have t_72 : r4799.toInt = 0 := toI_eq c_72 rfl (by decide : (0 : Int32).toInt = 0)
              have hl : lv_has _ _ ([(4, .int l4_x59), (3, .int l3_x59), (0, .ref (hN 0)), (1, .int p1), (2, .int p2)]) := lv_sub hl [0, 1, 2, 3, 4] rfl
              exact join12 _ _ _ _ ⟨iN_reached_4799, fN_before_4799, b_fN_before_4799, (show mxF (iN_arcs.toInt, fN_from, fN_to, fN_room, fN_cost) p1.toInt.toNat p2.toInt.toNat l3_x59.toInt ∧ mxC (iN_arcs.toInt, fN_from, fN_to, fN_room, fN_cost) p1.toInt.toNat p2.toInt.toNat iN_reached_4799 from by first | (exfalso; have h9 := mI.lim hMI hRm (by (try dsimp only); omega) (by (try dsimp only); omega) (by omega); omega) | exact RE.max hMI hRE (hbn t_72) (by omega)), rfl, hP, hD, hS, hl⟩
            · have t_72 : ¬ r4799.toInt = 0 := toI_neq c_72 rfl (by decide : (0 : Int32).toInt = 0)
              obtain ⟨⟨lev, hL⟩, hCl⟩ := hRE
              have hv40 := mI.lim hMI hRm (by (try dsimp only); omega) (by (try dsimp only); omega) (by omega)
              refine lv_ldc (v := 536870912) hx hb hown (hts (.constant RX2 60 536870912) (by decide +kernel)) dX2_fill_75 ?_
              refine lv_istore hx hb dX2_fill_77 hl (by decide) rfl (fun ls (hl : lv_has ls _ ([(5, .int 536870912), (4, .int l4_x59), (3, .int l3_x59), (0, .ref (hN 0)), (1, .int p1), (2, .int p2)])) => ?_)
              refine lv_iload_n hx hb dX2_fill_79 rfl (lv_at hl 5 rfl) ?_
              refine lv_istore hx hb dX2_fill_80 hl (by decide) rfl (fun ls (hl : lv_has ls _ ([(6, .int p2), (5, .int 536870912), (4, .int l4_x59), (3, .int l3_x59), (0, .ref (hN 0)), (1, .int p1), (2, .int p2)])) => ?_)
              refine lv_iconst (v := 0) hx hb dX2_fill_82 (by decide) ?_
              refine lv_istore hx hb dX2_fill_83 hl (by decide) rfl (fun ls (hl : lv_has ls _ ([(7, .int 0), (6, .int p2), (5, .int 536870912), (4, .int l4_x59), (3, .int l3_x59), (0, .ref (hN 0)), (1, .int p1), (2, .int p2)])) => ?_)
              have hl : lv_has _ _ ([(7, .int 0), (6, .int p2), (5, .int 536870912), (4, .int l4_x59), (3, .int l3_x59), (0, .ref (hN 0)), (1, .int p1), (2, .int p2)]) := lv_sub hl [0, 1, 2, 3, 4, 5, 6, 7] rfl
              refine (fun (loop : ∀ (n9 : Nat) (l7_x85 : Int32) (l6_x85 : Int32) (l5_x85 : Int32) (H : Heap) (locs : List Loc) (ls : Array Slot), (0 ≤ l7_x85.toInt ∧ l7_x85.toInt ≤ 12) → (0 ≤ l6_x85.toInt ∧ l6_x85.toInt ≤ 11) → (bt iN_reached_4799 l6_x85.toInt.toNat = true) → (Wk1 p2.toInt.toNat fN_free_x59 fN_before_4799 iN_reached_4799 lev l7_x85.toInt.toNat l6_x85.toInt.toNat l5_x85.toInt) → (12 - l7_x85.toInt < ((n9 : Nat) : Int)) → va_P (dC, dI) vwCl (WN hN aN kN iN_arcs fN_from fN_to fN_room fN_cost iN_reached_4799 fN_free_x59 fN_before_4799 fN_flow fN_length fN_stop iN_stops fN_price fN_rest) H → va_D A (WN hN aN kN iN_arcs fN_from fN_to fN_room fN_cost iN_reached_4799 fN_free_x59 fN_before_4799 fN_flow fN_length fN_stop iN_stops fN_price fN_rest) → va_S A s.heap H locs → lv_has ls 8 [(7, .int l7_x85), (6, .int l6_x85), (5, .int l5_x85), (4, .int l4_x59), (3, .int l3_x59), (0, .ref (hN 0)), (1, .int p1), (2, .int p2)] → W p l e _ s m _ below meth c H locs 0 0 _ (F0 m 85 ls [])) => loop (13) 0 p2 536870912 _ _ _ (show 0 ≤ (0 : Int32).toInt ∧ (0 : Int32).toInt ≤ 12 from by decide) (b_p2) (show bt iN_reached_4799 p2.toInt.toNat = true from hbt t_72) (show Wk1 p2.toInt.toNat fN_free_x59 fN_before_4799 iN_reached_4799 lev (0 : Int32).toInt.toNat p2.toInt.toNat (536870912 : Int32).toInt from Wk1.start hL (by omega) (hbt t_72) (by decide) rfl (by decide)) ((by have e9 : (0 : Int32).toInt = 0 := (by decide : (0 : Int32).toInt = 0); omega)) hP hD hS hl) ?_
              intro n9
              induction n9 with
              | zero => intro l7_x85 l6_x85 l5_x85 H locs ls b_l7_x85 b_l6_x85 hnd hW1 hf9; exact False.elim (by omega)
              | succ n9 ihx85 =>
                intro l7_x85 l6_x85 l5_x85 H locs ls b_l7_x85 b_l6_x85 hnd hW1 hfx85 hP hD hS hl
                refine lv_iload hx hb dX2_fill_85 (lv_at hl 1 rfl) ?_
                refine lv_iload_n hx hb dX2_fill_87 rfl (lv_at hl 6 rfl) ?_
                refine lv_icmp_eq (tgt := 138) hx hb dX2_fill_88 (by decide) (fun c_88 => ?_) (fun c_88 => ?_)
                · have t_88 : l6_x85.toInt = p1.toInt := toI_eq c_88 rfl rfl
                  have hms : l6_x85.toInt.toNat = p1.toInt.toNat := (by rw [t_88])
                  have hw1 := hW1.2.2.2.2.1
                  have hw80 := hW1.w80 hL (hbt t_72) (by omega) hMI hRm (by (try dsimp only); omega) (by (try dsimp only); omega) hsm.1 hv40 hms (by omega)
                  refine lv_iload_n hx hb dX2_fill_138 rfl (lv_at hl 7 rfl) ?_
                  refine lv_istore hx hb dX2_fill_139 hl (by decide) rfl (fun ls (hl : lv_has ls _ ([(6, .int p2), (7, .int l7_x85), (5, .int l5_x85), (4, .int l4_x59), (3, .int l3_x59), (0, .ref (hN 0)), (1, .int p1), (2, .int p2)])) => ?_)
                  refine lv_iconst (v := 0) hx hb dX2_fill_141 (by decide) ?_
                  refine lv_istore hx hb dX2_fill_142 hl (by decide) rfl (fun ls (hl : lv_has ls _ ([(7, .int 0), (6, .int p2), (5, .int l5_x85), (4, .int l4_x59), (3, .int l3_x59), (0, .ref (hN 0)), (1, .int p1), (2, .int p2)])) => ?_)
                  have hl : lv_has _ _ ([(7, .int 0), (6, .int p2), (5, .int l5_x85), (4, .int l4_x59), (3, .int l3_x59), (0, .ref (hN 0)), (1, .int p1), (2, .int p2)]) := lv_sub hl [0, 1, 2, 3, 4, 5, 6, 7] rfl
                  refine (fun (loop : ∀ (n9 : Nat) (fN_free_x144 : Nat → Int32) (l7_x144 : Int32) (l6_x144 : Int32) (H : Heap) (locs : List Loc) (ls : Array Slot), (0 ≤ l7_x144.toInt ∧ l7_x144.toInt ≤ 12) → (0 ≤ l6_x144.toInt ∧ l6_x144.toInt ≤ 11) → (bt iN_reached_4799 l6_x144.toInt.toNat = true) → (Wk2 p2.toInt.toNat fN_free_x59 fN_before_4799 fN_free_x144 iN_reached_4799 lev l5_x85.toInt l7_x85.toInt.toNat l7_x144.toInt.toNat l6_x144.toInt.toNat) → (12 - l7_x144.toInt < ((n9 : Nat) : Int)) → va_P (dC, dI) vwCl (WN hN aN kN iN_arcs fN_from fN_to fN_room fN_cost iN_reached_4799 fN_free_x144 fN_before_4799 fN_flow fN_length fN_stop iN_stops fN_price fN_rest) H → va_D A (WN hN aN kN iN_arcs fN_from fN_to fN_room fN_cost iN_reached_4799 fN_free_x144 fN_before_4799 fN_flow fN_length fN_stop iN_stops fN_price fN_rest) → va_S A s.heap H locs → lv_has ls 8 [(7, .int l7_x144), (6, .int l6_x144), (5, .int l5_x85), (4, .int l4_x59), (3, .int l3_x59), (0, .ref (hN 0)), (1, .int p1), (2, .int p2)] → W p l e _ s m _ below meth c H locs 0 0 _ (F0 m 144 ls [])) => loop (13) fN_free_x59 0 p2 _ _ _ (show 0 ≤ (0 : Int32).toInt ∧ (0 : Int32).toInt ≤ 12 from by decide) (b_p2) (show bt iN_reached_4799 p2.toInt.toNat = true from hbt t_72) (show Wk2 p2.toInt.toNat fN_free_x59 fN_before_4799 fN_free_x59 iN_reached_4799 lev l5_x85.toInt l7_x85.toInt.toNat (0 : Int32).toInt.toNat p2.toInt.toNat from Wk2.start hL (by omega) (hbt t_72) hMI.1 (by decide) rfl) ((by have e9 : (0 : Int32).toInt = 0 := (by decide : (0 : Int32).toInt = 0); omega)) hP hD hS hl) ?_
                  intro n9
                  induction n9 with
                  | zero => intro fN_free_x144 l7_x144 l6_x144 H locs ls b_l7_x144 b_l6_x144 hnd hW2 hf9; exact False.elim (by omega)
                  | succ n9 ihx144 =>
                    intro fN_free_x144 l7_x144 l6_x144 H locs ls b_l7_x144 b_l6_x144 hnd hW2 hfx144 hP hD hS hl
                    refine lv_iload hx hb dX2_fill_144 (lv_at hl 1 rfl) ?_
                    refine lv_iload_n hx hb dX2_fill_146 rfl (lv_at hl 6 rfl) ?_
                    refine lv_icmp_eq (tgt := 218) hx hb dX2_fill_147 (by decide) (fun c_147 => ?_) (fun c_147 => ?_)
                    · have t_147 : l6_x144.toInt = p1.toInt := toI_eq c_147 rfl rfl
                      refine lv_iload_n hx hb dX2_fill_218 rfl (lv_at hl 4 rfl) ?_
                      refine lv_iload hx hb dX2_fill_219 (lv_at hl 2 rfl) ?_
                      refine lv_iadd hx hb dX2_fill_221 ?_
                      refine lv_topi (fun y5059 hy5059 => ?_)
                      obtain rfl : (iI (l3_x59.toInt + l5_x85.toInt)) = y5059 := (hy5059.trans (iI_add2 (iI_of _) (iI_of _))).symm
                      refine lv_istore_n hx hb dX2_fill_222 rfl hl (by decide) rfl (fun ls (hl : lv_has ls _ ([(3, .int (iI (l3_x59.toInt + l5_x85.toInt))), (7, .int l7_x144), (6, .int l6_x144), (5, .int l5_x85), (4, .int l4_x59), (0, .ref (hN 0)), (1, .int p1), (2, .int p2)])) => ?_)
                      refine lv_iinc (v := (iI (l4_x59.toInt + 1))) hx hb dX2_fill_223 hl (k := 4) rfl (iI_add2 (iI_of _) (by decide : (1 : Int32) = iI 1)) (by decide) rfl (fun ls (hl : lv_has ls _ ([(4, .int (iI (l4_x59.toInt + 1))), (3, .int (iI (l3_x59.toInt + l5_x85.toInt))), (7, .int l7_x144), (6, .int l6_x144), (5, .int l5_x85), (0, .ref (hN 0)), (1, .int p1), (2, .int p2)])) => ?_)
                      refine lv_goto (tgt := 59) hx hb dX2_fill_226 (by decide) ?_
                      have hl : lv_has _ _ ([(4, .int (iI (l4_x59.toInt + 1))), (3, .int (iI (l3_x59.toInt + l5_x85.toInt))), (0, .ref (hN 0)), (1, .int p1), (2, .int p2)]) := lv_sub hl [0, 1, 5, 6, 7] rfl
                      exact ihx59 iN_reached_4799 fN_free_x144 fN_before_4799 (iI (l4_x59.toInt + 1)) (iI (l3_x59.toInt + l5_x85.toInt)) _ _ _ b_fN_before_4799 (iI_rng (Int.le_trans (by decide) (Int.add_le_add (b_l4_x59.1) (Int.le_refl _))) (by omega) (by decide) (by decide)) (show mI (iN_arcs.toInt, fN_from, fN_to, fN_room, fN_cost) p1.toInt.toNat p2.toInt.toNat fN_free_x144 (iI (l3_x59.toInt + l5_x85.toInt)).toInt from Wk2.done hW2 hMI (by omega) (iI_t (by omega) (by omega))) (show 0 ≤ (iI (l3_x59.toInt + l5_x85.toInt)).toInt ∧ (iI (l4_x59.toInt + 1)).toInt ≤ (iI (l3_x59.toInt + l5_x85.toInt)).toInt from by rw [iI_t (by omega) (by omega), iI_t (by omega) (by omega)]; omega) (by have e9 : ((iI (l4_x59.toInt + 1))).toInt = (l4_x59.toInt + 1) := (iI_t (Int.le_trans (by decide) (Int.add_le_add (b_l4_x59.1) (Int.le_refl _))) (Int.le_trans (Int.add_le_add (b_l4_x59.2) (Int.le_refl _)) (by decide))); omega) hP hD hS hl
                    · have t_147 : ¬ l6_x144.toInt = p1.toInt := toI_neq c_147 rfl rfl
                      have hst9 := hW2.2.2.2.1
                      refine lv_iload hx hb dX2_fill_150 (lv_at hl 0 rfl) ?_
                      refine lv_bipush (v := 12) hx hb dX2_fill_152 (by decide) ?_
                      refine lv_icmp_ge (tgt := 218) hx hb dX2_fill_154 (by decide) (fun c9 => False.elim (by have t9 : l7_x144.toInt ≥ 12 := toI_ge c9 rfl (by decide : (12 : Int32).toInt = 12); omega)) (fun c_154 => ?_)
                      have t_154 : ¬ l7_x144.toInt ≥ 12 := toI_nge c_154 rfl (by decide : (12 : Int32).toInt = 12)
                      refine lv_aload_n hx hb dX2_fill_157 rfl (lv_at hl 5 rfl) ?_
                      refine va_get (D := (dC, dI)) (ci := 2) (v := .ref (aN 4)) (C := RX2) (T := TX2) (N := 14) hx hb hts iwsMX2_fill_in2 hown hK hP 0 rfl rfl 6 (by decide) (hts (.fieldLink RX2 24 "OptimaWorks$NetDesk" "free" "[I") (by decide +kernel)) (fun _ h9 => h9) rfl dX2_fill_158 ?_
                      refine lv_aload_n hx hb dX2_fill_161 rfl (lv_at hl 5 rfl) ?_
                      refine va_get (D := (dC, dI)) (ci := 2) (v := .ref (aN 5)) (C := RX2) (T := TX2) (N := 14) hx hb hts iwsMX2_fill_in2 hown hK hP 0 rfl rfl 7 (by decide) (hts (.fieldLink RX2 27 "OptimaWorks$NetDesk" "before" "[I") (by decide +kernel)) (fun _ h9 => h9) rfl dX2_fill_162 ?_
                      refine lv_iload hx hb dX2_fill_165 (lv_at hl 1 rfl) ?_
                      refine va_iald (cA := kN 5) (n := 12) (f := fN_before_4799) hx hb hK hP 6 5 rfl rfl (vp_in_iff.mpr ⟨b_l6_x144.1, (Int.lt_of_le_of_lt (b_l6_x144.2) (by decide))⟩) dX2_fill_167 ?_
                      refine lv_topi (fun v5060 hv5060 => ?_)
                      have b_v5060 : 0 ≤ v5060.toInt ∧ v5060.toInt ≤ 11 ∧ bt iN_reached_4799 v5060.toInt.toNat = true := by rw [hv5060]; exact RB.at hRB (by omega) (by omega) hnd t_147
                      have b1_v5060 : v5060 = fN_before_4799 (l6_x144).toNatClampNeg := hv5060
                      clear hv5060
                      refine lv_bipush (v := 12) hx hb dX2_fill_168 (by decide) ?_
                      refine lv_imul hx hb dX2_fill_170 ?_
                      refine lv_topi (fun y5061 hy5061 => ?_)
                      obtain rfl : (iI (v5060.toInt * 12)) = y5061 := (hy5061.trans (iI_mul2 (iI_of _) (by decide : (12 : Int32) = iI 12))).symm
                      refine lv_iload hx hb dX2_fill_171 (lv_at hl 1 rfl) ?_
                      refine lv_iadd hx hb dX2_fill_173 ?_
                      refine lv_topi (fun y5062 hy5062 => ?_)
                      obtain rfl : (iI ((v5060.toInt * 12) + l6_x144.toInt)) = y5062 := (hy5062.trans (iI_add2 rfl (iI_of _))).symm
                      refine lv_dup2_11 hx hb dX2_fill_174 rfl rfl ?_
                      refine va_iald (cA := kN 4) (n := 144) (f := fN_free_x144) hx hb hK hP 5 4 rfl rfl (vp_iI (by omega) (by omega) (by decide)) dX2_fill_175 ?_
                      refine lv_topi (fun v5063 hv5063 => ?_)
                      have b_v5063 : v5063 = fN_free_x144 ((iI ((v5060.toInt * 12) + l6_x144.toInt))).toNatClampNeg := hv5063
                      clear hv5063
                      refine lv_iload hx hb dX2_fill_176 (lv_at hl 2 rfl) ?_
                      refine lv_isub hx hb dX2_fill_178 ?_
                      refine lv_topi (fun y5064 hy5064 => ?_)
                      obtain rfl : (iI (v5063.toInt - l5_x85.toInt)) = y5064 := (hy5064.trans (iI_sub2 (iI_of _) (iI_of _))).symm
                      refine va_iast (cA := kN 4) (n := 144) (f := fN_free_x144) hx hb hK hP hD hS 5 4 rfl rfl (vp_iI (by omega) (by omega) (by decide)) dX2_fill_179 (fun H locs hP hD hS => ?_)
                      obtain ⟨u5065, hu5065⟩ : ∃ f9, f9 = upd fN_free_x144 ((iI ((v5060.toInt * 12) + l6_x144.toInt))).toNatClampNeg (iI (v5063.toInt - l5_x85.toInt)) := ⟨_, rfl⟩
                      have hP : va_P (dC, dI) vwCl (WN hN aN kN iN_arcs fN_from fN_to fN_room fN_cost iN_reached_4799 u5065 fN_before_4799 fN_flow fN_length fN_stop iN_stops fN_price fN_rest) H := by rw [hu5065]; exact hP
                      have hD : va_D A (WN hN aN kN iN_arcs fN_from fN_to fN_room fN_cost iN_reached_4799 u5065 fN_before_4799 fN_flow fN_length fN_stop iN_stops fN_price fN_rest) := by rw [hu5065]; exact hD
                      have b_u5065 : u5065 = upd fN_free_x144 ((iI ((v5060.toInt * 12) + l6_x144.toInt))).toNatClampNeg (iI (v5063.toInt - l5_x85.toInt)) := hu5065
                      clear hu5065
                      refine lv_aload_n hx hb dX2_fill_180 rfl (lv_at hl 5 rfl) ?_
                      refine va_get (D := (dC, dI)) (ci := 2) (v := .ref (aN 4)) (C := RX2) (T := TX2) (N := 14) hx hb hts iwsMX2_fill_in2 hown hK hP 0 rfl rfl 6 (by decide) (hts (.fieldLink RX2 24 "OptimaWorks$NetDesk" "free" "[I") (by decide +kernel)) (fun _ h9 => h9) rfl dX2_fill_181 ?_
                      refine lv_iload hx hb dX2_fill_184 (lv_at hl 1 rfl) ?_
                      refine lv_bipush (v := 12) hx hb dX2_fill_186 (by decide) ?_
                      refine lv_imul hx hb dX2_fill_188 ?_
                      refine lv_topi (fun y5066 hy5066 => ?_)
                      obtain rfl : (iI (l6_x144.toInt * 12)) = y5066 := (hy5066.trans (iI_mul2 (iI_of _) (by decide : (12 : Int32) = iI 12))).symm
                      refine lv_aload_n hx hb dX2_fill_189 rfl (lv_at hl 5 rfl) ?_
                      refine va_get (D := (dC, dI)) (ci := 2) (v := .ref (aN 5)) (C := RX2) (T := TX2) (N := 14) hx hb hts iwsMX2_fill_in2 hown hK hP 0 rfl rfl 7 (by decide) (hts (.fieldLink RX2 27 "OptimaWorks$NetDesk" "before" "[I") (by decide +kernel)) (fun _ h9 => h9) rfl dX2_fill_190 ?_
                      refine lv_iload hx hb dX2_fill_193 (lv_at hl 1 rfl) ?_
                      refine va_iald (cA := kN 5) (n := 12) (f := fN_before_4799) hx hb hK hP 6 5 rfl rfl (vp_in_iff.mpr ⟨b_l6_x144.1, (Int.lt_of_le_of_lt (b_l6_x144.2) (by decide))⟩) dX2_fill_195 ?_
                      refine lv_topi (fun v5067 hv5067 => ?_)
                      have b_v5067 : 0 ≤ v5067.toInt ∧ v5067.toInt ≤ 11 ∧ bt iN_reached_4799 v5067.toInt.toNat = true := by rw [hv5067]; exact RB.at hRB (by omega) (by omega) hnd t_147
                      have b1_v5067 : v5067 = fN_before_4799 (l6_x144).toNatClampNeg := hv5067
                      clear hv5067
                      refine lv_iadd hx hb dX2_fill_196 ?_
                      refine lv_topi (fun y5068 hy5068 => ?_)
                      obtain rfl : (iI ((l6_x144.toInt * 12) + v5067.toInt)) = y5068 := (hy5068.trans (iI_add2 rfl (iI_of _))).symm
                      refine lv_dup2_11 hx hb dX2_fill_197 rfl rfl ?_
                      refine va_iald (cA := kN 4) (n := 144) (f := u5065) hx hb hK hP 5 4 rfl rfl (vp_iI (by omega) (by omega) (by decide)) dX2_fill_198 ?_
                      refine lv_topi (fun v5069 hv5069 => ?_)
                      have b_v5069 : v5069 = u5065 ((iI ((l6_x144.toInt * 12) + v5067.toInt))).toNatClampNeg := hv5069
                      clear hv5069
                      refine lv_iload hx hb dX2_fill_199 (lv_at hl 2 rfl) ?_
                      refine lv_iadd hx hb dX2_fill_201 ?_
                      refine lv_topi (fun y5070 hy5070 => ?_)
                      obtain rfl : (iI (v5069.toInt + l5_x85.toInt)) = y5070 := (hy5070.trans (iI_add2 (iI_of _) (iI_of _))).symm
                      refine va_iast (cA := kN 4) (n := 144) (f := u5065) hx hb hK hP hD hS 5 4 rfl rfl (vp_iI (by omega) (by omega) (by decide)) dX2_fill_202 (fun H locs hP hD hS => ?_)
                      obtain ⟨u5071, hu5071⟩ : ∃ f9, f9 = upd u5065 ((iI ((l6_x144.toInt * 12) + v5067.toInt))).toNatClampNeg (iI (v5069.toInt + l5_x85.toInt)) := ⟨_, rfl⟩
                      have hP : va_P (dC, dI) vwCl (WN hN aN kN iN_arcs fN_from fN_to fN_room fN_cost iN_reached_4799 u5071 fN_before_4799 fN_flow fN_length fN_stop iN_stops fN_price fN_rest) H := by rw [hu5071]; exact hP
                      have hD : va_D A (WN hN aN kN iN_arcs fN_from fN_to fN_room fN_cost iN_reached_4799 u5071 fN_before_4799 fN_flow fN_length fN_stop iN_stops fN_price fN_rest) := by rw [hu5071]; exact hD
                      have b_u5071 : u5071 = upd u5065 ((iI ((l6_x144.toInt * 12) + v5067.toInt))).toNatClampNeg (iI (v5069.toInt + l5_x85.toInt)) := hu5071
                      clear hu5071
                      refine lv_aload_n hx hb dX2_fill_203 rfl (lv_at hl 5 rfl) ?_
                      refine va_get (D := (dC, dI)) (ci := 2) (v := .ref (aN 5)) (C := RX2) (T := TX2) (N := 14) hx hb hts iwsMX2_fill_in2 hown hK hP 0 rfl rfl 7 (by decide) (hts (.fieldLink RX2 27 "OptimaWorks$NetDesk" "before" "[I") (by decide +kernel)) (fun _ h9 => h9) rfl dX2_fill_204 ?_
                      refine lv_iload hx hb dX2_fill_207 (lv_at hl 1 rfl) ?_
                      refine va_iald (cA := kN 5) (n := 12) (f := fN_before_4799) hx hb hK hP 6 5 rfl rfl (vp_in_iff.mpr ⟨b_l6_x144.1, (Int.lt_of_le_of_lt (b_l6_x144.2) (by decide))⟩) dX2_fill_209 ?_
                      refine lv_topi (fun v5072 hv5072 => ?_)
                      have b_v5072 : 0 ≤ v5072.toInt ∧ v5072.toInt ≤ 11 ∧ bt iN_reached_4799 v5072.toInt.toNat = true := by rw [hv5072]; exact RB.at hRB (by omega) (by omega) hnd t_147
                      have b1_v5072 : v5072 = fN_before_4799 (l6_x144).toNatClampNeg := hv5072
                      clear hv5072
                      refine lv_istore hx hb dX2_fill_210 hl (by decide) rfl (fun ls (hl : lv_has ls _ ([(6, .int v5072), (7, .int l7_x144), (5, .int l5_x85), (4, .int l4_x59), (3, .int l3_x59), (0, .ref (hN 0)), (1, .int p1), (2, .int p2)])) => ?_)
                      refine lv_iinc (v := (iI (l7_x144.toInt + 1))) hx hb dX2_fill_212 hl (k := 1) rfl (iI_add2 (iI_of _) (by decide : (1 : Int32) = iI 1)) (by decide) rfl (fun ls (hl : lv_has ls _ ([(7, .int (iI (l7_x144.toInt + 1))), (6, .int v5072), (5, .int l5_x85), (4, .int l4_x59), (3, .int l3_x59), (0, .ref (hN 0)), (1, .int p1), (2, .int p2)])) => ?_)
                      refine lv_goto (tgt := 144) hx hb dX2_fill_215 (by decide) ?_
                      have hl : lv_has _ _ ([(7, .int (iI (l7_x144.toInt + 1))), (6, .int v5072), (5, .int l5_x85), (4, .int l4_x59), (3, .int l3_x59), (0, .ref (hN 0)), (1, .int p1), (2, .int p2)]) := lv_sub hl [0, 1, 2, 3, 4, 5, 6, 7] rfl
                      exact ihx144 u5071 (iI (l7_x144.toInt + 1)) v5072 _ _ _ (iI_rng (Int.le_trans (by decide) (Int.add_le_add (b_l7_x144.1) (Int.le_refl _))) (by omega) (by decide) (by decide)) (by first | exact b_v5072 | with_reducible assumption | exact ⟨by omega, by omega⟩ | assumption) (show bt iN_reached_4799 v5072.toInt.toNat = true from b_v5072.2.2) (show Wk2 p2.toInt.toNat fN_free_x59 fN_before_4799 u5071 iN_reached_4799 lev l5_x85.toInt l7_x85.toInt.toNat (iI (l7_x144.toInt + 1)).toInt.toNat v5072.toInt.toNat from by have hns : l6_x144.toInt.toNat ≠ p1.toInt.toNat := (by omega); have ea : v5060.toInt.toNat = (fN_before_4799 l6_x144.toInt.toNat).toInt.toNat := (by rw [b1_v5060]; rfl); have eb : v5067.toInt.toNat = (fN_before_4799 l6_x144.toInt.toNat).toInt.toNat := (by rw [b1_v5067]; rfl); have ec : v5072.toInt.toNat = (fN_before_4799 l6_x144.toInt.toNat).toInt.toNat := (by rw [b1_v5072]; rfl); have hat := hW2.at hL hns; have hwd := hW2.wid hL hW1 hms hns; have ha1 := hat.1; rw [← ec] at ha1 hat hwd; have hpn : v5072.toInt.toNat ≠ l6_x144.toInt.toNat := (fun e9 => by have h9 := hat.2.2.2.1; rw [e9] at h9; omega); have hhi := hW2.hi hMI hRm (by (try dsimp only); omega) (by (try dsimp only); omega) hsm.1 hv40 (by omega) ha1 hpn; have hlo := hW2.2.2.2.2.2.1 (12 * l6_x144.toInt.toNat + v5072.toInt.toNat) (by omega); have ei1 : ((iI ((v5060.toInt * 12) + l6_x144.toInt))).toNatClampNeg = 12 * v5072.toInt.toNat + l6_x144.toInt.toNat := (by rw [ec, ← ea]; show (iI (v5060.toInt * 12 + l6_x144.toInt)).toInt.toNat = _; rw [iI_t (by omega) (by omega)]; omega); have ei2 : ((iI ((l6_x144.toInt * 12) + v5067.toInt))).toNatClampNeg = 12 * l6_x144.toInt.toNat + v5072.toInt.toNat := (by rw [ec, ← eb]; show (iI (l6_x144.toInt * 12 + v5067.toInt)).toInt.toNat = _; rw [iI_t (by omega) (by omega)]; omega); have hg9 : l5_x85.toInt ≤ v5063.toInt := (by rw [b_v5063, ei1]; exact hwd); have hl9 := Int32.toInt_lt v5063; have hy9 : v5069 = fN_free_x144 (12 * l6_x144.toInt.toNat + v5072.toInt.toNat) := (by rw [b_v5069, b_u5065, ei2]; exact if_neg (by rw [ei1]; omega)); rw [← hy9] at hhi hlo; exact Wk2.step hW2 hL hW1 hms hns ec (by rw [iI_t (by omega) (by omega)]; omega) ei1 ei2 b_u5065 (by rw [← b_v5063]; exact iI_t (by omega) (by omega)) b_u5071 (by rw [← b_v5069]; exact iI_t (by omega) (by omega))) (by have e9 : ((iI (l7_x144.toInt + 1))).toInt = (l7_x144.toInt + 1) := (iI_t (Int.le_trans (by decide) (Int.add_le_add (b_l7_x144.1) (Int.le_refl _))) (Int.le_trans (Int.add_le_add (b_l7_x144.2) (Int.le_refl _)) (by decide))); omega) hP hD hS hl
                · have t_88 : ¬ l6_x85.toInt = p1.toInt := toI_neq c_88 rfl rfl
                  have hst9 := hW1.2.2.2.1
                  refine lv_iload hx hb dX2_fill_91 (lv_at hl 0 rfl) ?_
                  refine lv_bipush (v := 12) hx hb dX2_fill_93 (by decide) ?_
                  refine lv_icmp_ge (tgt := 138) hx hb dX2_fill_95 (by decide) (fun c9 => False.elim (by have t9 : l7_x85.toInt ≥ 12 := toI_ge c9 rfl (by decide : (12 : Int32).toInt = 12); omega)) (fun c_95 => ?_)
                  have t_95 : ¬ l7_x85.toInt ≥ 12 := toI_nge c_95 rfl (by decide : (12 : Int32).toInt = 12)
                  refine lv_iload hx hb dX2_fill_98 (lv_at hl 2 rfl) ?_
                  refine lv_aload_n hx hb dX2_fill_100 rfl (lv_at hl 5 rfl) ?_
                  refine va_get (D := (dC, dI)) (ci := 2) (v := .ref (aN 4)) (C := RX2) (T := TX2) (N := 14) hx hb hts iwsMX2_fill_in2 hown hK hP 0 rfl rfl 6 (by decide) (hts (.fieldLink RX2 24 "OptimaWorks$NetDesk" "free" "[I") (by decide +kernel)) (fun _ h9 => h9) rfl dX2_fill_101 ?_
                  refine lv_aload_n hx hb dX2_fill_104 rfl (lv_at hl 5 rfl) ?_
                  refine va_get (D := (dC, dI)) (ci := 2) (v := .ref (aN 5)) (C := RX2) (T := TX2) (N := 14) hx hb hts iwsMX2_fill_in2 hown hK hP 0 rfl rfl 7 (by decide) (hts (.fieldLink RX2 27 "OptimaWorks$NetDesk" "before" "[I") (by decide +kernel)) (fun _ h9 => h9) rfl dX2_fill_105 ?_
                  refine lv_iload hx hb dX2_fill_108 (lv_at hl 1 rfl) ?_
                  refine va_iald (cA := kN 5) (n := 12) (f := fN_before_4799) hx hb hK hP 6 5 rfl rfl (vp_in_iff.mpr ⟨b_l6_x85.1, (Int.lt_of_le_of_lt (b_l6_x85.2) (by decide))⟩) dX2_fill_110 ?_
                  refine lv_topi (fun v5073 hv5073 => ?_)
                  have b_v5073 : 0 ≤ v5073.toInt ∧ v5073.toInt ≤ 11 ∧ bt iN_reached_4799 v5073.toInt.toNat = true := by rw [hv5073]; exact RB.at hRB (by omega) (by omega) hnd t_88
                  have b1_v5073 : v5073 = fN_before_4799 (l6_x85).toNatClampNeg := hv5073
                  clear hv5073
                  refine lv_bipush (v := 12) hx hb dX2_fill_111 (by decide) ?_
                  refine lv_imul hx hb dX2_fill_113 ?_
                  refine lv_topi (fun y5074 hy5074 => ?_)
                  obtain rfl : (iI (v5073.toInt * 12)) = y5074 := (hy5074.trans (iI_mul2 (iI_of _) (by decide : (12 : Int32) = iI 12))).symm
                  refine lv_iload hx hb dX2_fill_114 (lv_at hl 1 rfl) ?_
                  refine lv_iadd hx hb dX2_fill_116 ?_
                  refine lv_topi (fun y5075 hy5075 => ?_)
                  obtain rfl : (iI ((v5073.toInt * 12) + l6_x85.toInt)) = y5075 := (hy5075.trans (iI_add2 rfl (iI_of _))).symm
                  refine va_iald (cA := kN 4) (n := 144) (f := fN_free_x59) hx hb hK hP 5 4 rfl rfl (vp_iI (by omega) (by omega) (by decide)) dX2_fill_117 ?_
                  refine lv_topi (fun v5076 hv5076 => ?_)
                  have b_v5076 : v5076 = fN_free_x59 ((iI ((v5073.toInt * 12) + l6_x85.toInt))).toNatClampNeg := hv5076
                  clear hv5076
                  refine va_mmin hx hb (by rw [hml]; exact hl.1.symm) hown (hts (.methodLink RX2 61 Lib.Math.min.name) (by decide +kernel)) (hts (.static Lib.Math.min.name) (by decide +kernel)) (hts (.initialized "java/lang/Math") (by decide +kernel)) (hts (.code Lib.Math.min.name Lib.Math.min.code 2 (some .int)) (by decide +kernel)) (by decide +kernel) (Nat.le_of_ble_eq_true rfl) (by decide +kernel) (by decide +kernel) dX2_fill_118 ?_
                  refine lv_topi (fun v5077 hv5077 => ?_)
                  have b_v5077 : (v5077.toInt ≤ l5_x85.toInt ∧ v5077.toInt ≤ v5076.toInt) ∧ (v5077.toInt = l5_x85.toInt ∨ v5077.toInt = v5076.toInt) := by rw [hv5077]; exact min_t rfl rfl
                  clear hv5077
                  refine lv_istore hx hb dX2_fill_121 hl (by decide) rfl (fun ls (hl : lv_has ls _ ([(5, .int v5077), (7, .int l7_x85), (6, .int l6_x85), (4, .int l4_x59), (3, .int l3_x59), (0, .ref (hN 0)), (1, .int p1), (2, .int p2)])) => ?_)
                  refine lv_aload_n hx hb dX2_fill_123 rfl (lv_at hl 5 rfl) ?_
                  refine va_get (D := (dC, dI)) (ci := 2) (v := .ref (aN 5)) (C := RX2) (T := TX2) (N := 14) hx hb hts iwsMX2_fill_in2 hown hK hP 0 rfl rfl 7 (by decide) (hts (.fieldLink RX2 27 "OptimaWorks$NetDesk" "before" "[I") (by decide +kernel)) (fun _ h9 => h9) rfl dX2_fill_124 ?_
                  refine lv_iload hx hb dX2_fill_127 (lv_at hl 2 rfl) ?_
                  refine va_iald (cA := kN 5) (n := 12) (f := fN_before_4799) hx hb hK hP 6 5 rfl rfl (vp_in_iff.mpr ⟨b_l6_x85.1, (Int.lt_of_le_of_lt (b_l6_x85.2) (by decide))⟩) dX2_fill_129 ?_
                  refine lv_topi (fun v5078 hv5078 => ?_)
                  have b_v5078 : 0 ≤ v5078.toInt ∧ v5078.toInt ≤ 11 ∧ bt iN_reached_4799 v5078.toInt.toNat = true := by rw [hv5078]; exact RB.at hRB (by omega) (by omega) hnd t_88
                  have b1_v5078 : v5078 = fN_before_4799 (l6_x85).toNatClampNeg := hv5078
                  clear hv5078
                  refine lv_istore hx hb dX2_fill_130 hl (by decide) rfl (fun ls (hl : lv_has ls _ ([(6, .int v5078), (5, .int v5077), (7, .int l7_x85), (4, .int l4_x59), (3, .int l3_x59), (0, .ref (hN 0)), (1, .int p1), (2, .int p2)])) => ?_)
                  refine lv_iinc (v := (iI (l7_x85.toInt + 1))) hx hb dX2_fill_132 hl (k := 2) rfl (iI_add2 (iI_of _) (by decide : (1 : Int32) = iI 1)) (by decide) rfl (fun ls (hl : lv_has ls _ ([(7, .int (iI (l7_x85.toInt + 1))), (6, .int v5078), (5, .int v5077), (4, .int l4_x59), (3, .int l3_x59), (0, .ref (hN 0)), (1, .int p1), (2, .int p2)])) => ?_)
                  refine lv_goto (tgt := 85) hx hb dX2_fill_135 (by decide) ?_
                  have hl : lv_has _ _ ([(7, .int (iI (l7_x85.toInt + 1))), (6, .int v5078), (5, .int v5077), (4, .int l4_x59), (3, .int l3_x59), (0, .ref (hN 0)), (1, .int p1), (2, .int p2)]) := lv_sub hl [0, 1, 2, 3, 4, 5, 6, 7] rfl
                  exact ihx85 (iI (l7_x85.toInt + 1)) v5078 v5077 _ _ _ (iI_rng (Int.le_trans (by decide) (Int.add_le_add (b_l7_x85.1) (Int.le_refl _))) (by omega) (by decide) (by decide)) (by first | exact b_v5078 | with_reducible assumption | exact ⟨by omega, by omega⟩ | assumption) (show bt iN_reached_4799 v5078.toInt.toNat = true from b_v5078.2.2) (show Wk1 p2.toInt.toNat fN_free_x59 fN_before_4799 iN_reached_4799 lev (iI (l7_x85.toInt + 1)).toInt.toNat v5078.toInt.toNat v5077.toInt from by have hns : l6_x85.toInt.toNat ≠ p1.toInt.toNat := (by omega); have hat := hW1.at hL hns; have ea : v5073.toInt.toNat = (fN_before_4799 l6_x85.toInt.toNat).toInt.toNat := (by rw [b1_v5073]; rfl); have eb : v5078.toInt.toNat = (fN_before_4799 l6_x85.toInt.toNat).toInt.toNat := (by rw [b1_v5078]; rfl); have ei : ((iI ((v5073.toInt * 12) + l6_x85.toInt))).toNatClampNeg = 12 * v5078.toInt.toNat + l6_x85.toInt.toNat := (by rw [eb, ← ea]; show (iI (v5073.toInt * 12 + l6_x85.toInt)).toInt.toNat = _; rw [iI_t (by omega) (by omega)]; omega); have hx7 : v5076.toInt = (fN_free_x59 (12 * v5078.toInt.toNat + l6_x85.toInt.toNat)).toInt := (by rw [← ei, ← b_v5076]); rw [← eb, ← hx7] at hat; have hp9 := hat.2.2.2.2; have hw9_ := hW1.2.2.2.2.1; exact Wk1.step hW1 hL hns eb (by rw [iI_t (by omega) (by omega)]; omega) (by omega) (by rw [← hx7]; omega) (by omega)) (by have e9 : ((iI (l7_x85.toInt + 1))).toInt = (l7_x85.toInt + 1) := (iI_t (Int.le_trans (by decide) (Int.add_le_add (b_l7_x85.1) (Int.le_refl _))) (Int.le_trans (Int.add_le_add (b_l7_x85.2) (Int.le_refl _)) (by decide))); omega) hP hD hS hl
        · rintro H locs ls stk ⟨iN_reached_j12, fN_before_j12, b_fN_before_j12, hfe, rfl, hP, hD, hS, hl⟩
          refine lv_iload_n hx hb dX2_fill_229 rfl (lv_at hl 1 rfl) ?_
          refine W.widen (k := 0) (n := 0) (by decide +kernel) (by decide +kernel) ?_
          exact W.iret (v := l3_x59) hx hb hr (fun t9_ ht hW => ⟨⟨l3_x59, (iN_reached_j12, fN_free_x59, fN_before_j12), rfl, ⟨b_fN_before_j12, (by (try dsimp only); exact (hfe.1)), (by (try dsimp only); exact (hfe.2))⟩, by rw [ht]; exact hP, hD⟩, hS.F ht⟩) hS.2.2 dX2_fill_230
    · have t_15 : ¬ l3_x10.toInt ≥ iN_arcs.toInt := toI_nge c_15 rfl rfl
      refine lv_aload_n hx hb dX2_fill_18 rfl (lv_at hl 1 rfl) ?_
      refine va_get (D := (dC, dI)) (ci := 2) (v := .ref (aN 4)) (C := RX2) (T := TX2) (N := 14) hx hb hts iwsMX2_fill_in2 hown hK hP 0 rfl rfl 6 (by decide) (hts (.fieldLink RX2 24 "OptimaWorks$NetDesk" "free" "[I") (by decide +kernel)) (fun _ h9 => h9) rfl dX2_fill_19 ?_
      refine lv_aload_n hx hb dX2_fill_22 rfl (lv_at hl 1 rfl) ?_
      refine va_get (D := (dC, dI)) (ci := 2) (v := .ref (aN 0)) (C := RX2) (T := TX2) (N := 14) hx hb hts iwsMX2_fill_in2 hown hK hP 0 rfl rfl 1 (by decide) (hts (.fieldLink RX2 11 "OptimaWorks$NetDesk" "from" "[I") (by decide +kernel)) (fun _ h9 => h9) rfl dX2_fill_23 ?_
      refine lv_iload_n hx hb dX2_fill_26 rfl (lv_at hl 0 rfl) ?_
      refine va_iald (cA := kN 0) (n := 40) (f := fN_from) hx hb hK hP 1 0 rfl rfl (vp_in_iff.mpr ⟨b_l3_x10.1, (Int.lt_of_lt_of_le (Int.not_le.mp t_15) (Int.le_trans b_iN_arcs.2 (by decide)))⟩) dX2_fill_27 ?_
      refine lv_topi (fun v5079 hv5079 => ?_)
      have b_v5079 : 0 ≤ v5079.toInt ∧ v5079.toInt ≤ 11 := by rw [hv5079]; exact b_fN_from _
      have b1_v5079 : v5079 = fN_from (l3_x10).toNatClampNeg := hv5079
      clear hv5079
      refine lv_bipush (v := 12) hx hb dX2_fill_28 (by decide) ?_
      refine lv_imul hx hb dX2_fill_30 ?_
      refine lv_topi (fun y5080 hy5080 => ?_)
      obtain rfl : (iI (v5079.toInt * 12)) = y5080 := (hy5080.trans (iI_mul2 (iI_of _) (by decide : (12 : Int32) = iI 12))).symm
      refine lv_aload_n hx hb dX2_fill_31 rfl (lv_at hl 1 rfl) ?_
      refine va_get (D := (dC, dI)) (ci := 2) (v := .ref (aN 1)) (C := RX2) (T := TX2) (N := 14) hx hb hts iwsMX2_fill_in2 hown hK hP 0 rfl rfl 2 (by decide) (hts (.fieldLink RX2 15 "OptimaWorks$NetDesk" "to" "[I") (by decide +kernel)) (fun _ h9 => h9) rfl dX2_fill_32 ?_
      refine lv_iload_n hx hb dX2_fill_35 rfl (lv_at hl 0 rfl) ?_
      refine va_iald (cA := kN 1) (n := 40) (f := fN_to) hx hb hK hP 2 1 rfl rfl (vp_in_iff.mpr ⟨b_l3_x10.1, (Int.lt_of_lt_of_le (Int.not_le.mp t_15) (Int.le_trans b_iN_arcs.2 (by decide)))⟩) dX2_fill_36 ?_
      refine lv_topi (fun v5081 hv5081 => ?_)
      have b_v5081 : 0 ≤ v5081.toInt ∧ v5081.toInt ≤ 11 := by rw [hv5081]; exact b_fN_to _
      have b1_v5081 : v5081 = fN_to (l3_x10).toNatClampNeg := hv5081
      clear hv5081
      refine lv_iadd hx hb dX2_fill_37 ?_
      refine lv_topi (fun y5082 hy5082 => ?_)
      obtain rfl : (iI ((v5079.toInt * 12) + v5081.toInt)) = y5082 := (hy5082.trans (iI_add2 rfl (iI_of _))).symm
      refine lv_dup2_11 hx hb dX2_fill_38 rfl rfl ?_
      refine va_iald (cA := kN 4) (n := 144) (f := fN_free_x10) hx hb hK hP 5 4 rfl rfl (vp_iI (Int.le_trans (by decide) (Int.add_le_add (Int.mul_le_mul_of_nonneg_right (b_v5079.1) (by decide)) (b_v5081.1))) (Int.lt_of_le_of_lt (Int.add_le_add (Int.mul_le_mul_of_nonneg_right (b_v5079.2) (by decide)) (b_v5081.2)) (by decide)) (by decide)) dX2_fill_39 ?_
      refine lv_topi (fun v5083 hv5083 => ?_)
      have b_v5083 : v5083 = fN_free_x10 ((iI ((v5079.toInt * 12) + v5081.toInt))).toNatClampNeg := hv5083
      clear hv5083
      refine lv_aload_n hx hb dX2_fill_40 rfl (lv_at hl 1 rfl) ?_
      refine va_get (D := (dC, dI)) (ci := 2) (v := .ref (aN 2)) (C := RX2) (T := TX2) (N := 14) hx hb hts iwsMX2_fill_in2 hown hK hP 0 rfl rfl 3 (by decide) (hts (.fieldLink RX2 18 "OptimaWorks$NetDesk" "room" "[I") (by decide +kernel)) (fun _ h9 => h9) rfl dX2_fill_41 ?_
      refine lv_iload_n hx hb dX2_fill_44 rfl (lv_at hl 0 rfl) ?_
      refine va_iald (cA := kN 2) (n := 40) (f := fN_room) hx hb hK hP 3 2 rfl rfl (vp_in_iff.mpr ⟨b_l3_x10.1, (Int.lt_of_lt_of_le (Int.not_le.mp t_15) (Int.le_trans b_iN_arcs.2 (by decide)))⟩) dX2_fill_45 ?_
      refine lv_topi (fun v5084 hv5084 => ?_)
      have b_v5084 : 0 ≤ v5084.toInt ∧ v5084.toInt ≤ 1000 := by rw [hv5084]; exact ⟨(hRm l3_x10.toInt.toNat (by (try dsimp only); omega)).1, (hRm l3_x10.toInt.toNat (by (try dsimp only); omega)).2.1⟩
      have b1_v5084 : v5084 = fN_room (l3_x10).toNatClampNeg := hv5084
      clear hv5084
      refine lv_iadd hx hb dX2_fill_46 ?_
      refine lv_topi (fun y5085 hy5085 => ?_)
      obtain rfl : (iI (v5083.toInt + v5084.toInt)) = y5085 := (hy5085.trans (iI_add2 (iI_of _) (iI_of _))).symm
      refine va_iast (cA := kN 4) (n := 144) (f := fN_free_x10) hx hb hK hP hD hS 5 4 rfl rfl (vp_iI (Int.le_trans (by decide) (Int.add_le_add (Int.mul_le_mul_of_nonneg_right (b_v5079.1) (by decide)) (b_v5081.1))) (Int.lt_of_le_of_lt (Int.add_le_add (Int.mul_le_mul_of_nonneg_right (b_v5079.2) (by decide)) (b_v5081.2)) (by decide)) (by decide)) dX2_fill_47 (fun H locs hP hD hS => ?_)
      obtain ⟨u5086, hu5086⟩ : ∃ f9, f9 = upd fN_free_x10 ((iI ((v5079.toInt * 12) + v5081.toInt))).toNatClampNeg (iI (v5083.toInt + v5084.toInt)) := ⟨_, rfl⟩
      have hP : va_P (dC, dI) vwCl (WN hN aN kN iN_arcs fN_from fN_to fN_room fN_cost iN_reached u5086 fN_before fN_flow fN_length fN_stop iN_stops fN_price fN_rest) H := by rw [hu5086]; exact hP
      have hD : va_D A (WN hN aN kN iN_arcs fN_from fN_to fN_room fN_cost iN_reached u5086 fN_before fN_flow fN_length fN_stop iN_stops fN_price fN_rest) := by rw [hu5086]; exact hD
      have b_u5086 : u5086 = upd fN_free_x10 ((iI ((v5079.toInt * 12) + v5081.toInt))).toNatClampNeg (iI (v5083.toInt + v5084.toInt)) := hu5086
      clear hu5086
      refine lv_iinc (v := (iI (l3_x10.toInt + 1))) hx hb dX2_fill_48 hl (k := 0) rfl (iI_add2 (iI_of _) (by decide : (1 : Int32) = iI 1)) (by decide) rfl (fun ls (hl : lv_has ls _ ([(3, .int (iI (l3_x10.toInt + 1))), (0, .ref (hN 0)), (1, .int p1), (2, .int p2)])) => ?_)
      refine lv_goto (tgt := 10) hx hb dX2_fill_51 (by decide) ?_
      have hl : lv_has _ _ ([(3, .int (iI (l3_x10.toInt + 1))), (0, .ref (hN 0)), (1, .int p1), (2, .int p2)]) := lv_sub hl [0, 1, 2, 3] rfl
      exact ihx10 u5086 (iI (l3_x10.toInt + 1)) _ _ _ (iI_rng (Int.le_trans (by decide) (Int.add_le_add (b_l3_x10.1) (Int.le_refl _))) (by omega) (by decide) (by decide)) (show mG (iN_arcs.toInt, fN_from, fN_to, fN_room, fN_cost) u5086 (iI (l3_x10.toInt + 1)).toInt.toNat from by rw [show (iI (l3_x10.toInt + 1)).toInt.toNat = l3_x10.toInt.toNat + 1 from by rw [iI_t (by omega) (by omega)]; omega]; have ef : tFr (iN_arcs.toInt, fN_from, fN_to, fN_room, fN_cost) l3_x10.toInt.toNat = v5079.toInt.toNat := (by rw [b1_v5079]; rfl); have et : tTo (iN_arcs.toInt, fN_from, fN_to, fN_room, fN_cost) l3_x10.toInt.toNat = v5081.toInt.toNat := (by rw [b1_v5081]; rfl); have er : tRo (iN_arcs.toInt, fN_from, fN_to, fN_room, fN_cost) l3_x10.toInt.toNat = v5084.toInt := (by rw [b1_v5084]; rfl); have hc9 : ((iI ((v5079.toInt * 12) + v5081.toInt))).toNatClampNeg = 12 * tFr (iN_arcs.toInt, fN_from, fN_to, fN_room, fN_cost) l3_x10.toInt.toNat + tTo (iN_arcs.toInt, fN_from, fN_to, fN_room, fN_cost) l3_x10.toInt.toNat := (by rw [ef, et]; show (iI (v5079.toInt * 12 + v5081.toInt)).toInt.toNat = _; rw [iI_t (by omega) (by omega)]; omega); have hx9 := hG.1 ((iI ((v5079.toInt * 12) + v5081.toInt))).toNatClampNeg (by rw [hc9, ef, et]; omega); rw [← b_v5083] at hx9; exact mG.step hG (by (try dsimp only); omega) hRm hVal hc9 b_v5083 b_u5086 (by rw [iI_t (by omega) (by omega), er])) (show (iI (l3_x10.toInt + 1)).toInt ≤ iN_arcs.toInt from by rw [iI_t (by omega) (by omega)]; omega) (by have e9 : ((iI (l3_x10.toInt + 1))).toInt = (l3_x10.toInt + 1) := (iI_t (Int.le_trans (by decide) (Int.add_le_add (b_l3_x10.1) (Int.le_refl _))) (Int.le_trans (Int.add_le_add (b_l3_x10.2) (Int.le_refl _)) (by decide))); omega) hP hD hS hl
end
section
/-! clauses: what the class keeps beside them -/
def ClI (d : ClD) (br lo : Nat → Int32) (mu : Int32) : Prop := (∀ k, k < 4096 → ∀ i, bI (br k) i = true ↔ ((i : Int) < d.1 ∧ kN d i k = true)) ∧ (∀ k, k < 4096 → (lo k).toInt = cSum d k d.1.toNat) ∧ ∀ i, bI mu i = true ↔ ((i : Int) < d.1 ∧ (d.2.2.2 i).toInt = 0)
theorem ClI.z : ClI clZ (fun _ => 0) (fun _ => 0) 0 := by
  refine ⟨fun k _ i => ?_, fun k _ => ?_, fun i => ?_⟩
  · rw [bI_0]
    constructor
    · intro h; cases h
    · intro h
      have h9 : ((i : Nat) : Int) < 0 := h.1
      omega
  · rfl
  · rw [bI_0]
    constructor
    · intro h; cases h
    · intro h
      have h9 : ((i : Nat) : Int) < 0 := h.1
      omega
/-- rows below m are marked -/
def cMrk (a b i w : Int32) (br lo br2 lo2 : Nat → Int32) (m : Nat) : Prop := ∀ k, k < 4096 → ((k < m ∧ (nI k &&& a) = 0 ∧ (nI k &&& b) = b) → br2 k = br k ^^^ ((1 : Int32) <<< (i &&& 31)) ∧ lo2 k = iI ((lo k).toInt + w.toInt)) ∧ (¬ (k < m ∧ (nI k &&& a) = 0 ∧ (nI k &&& b) = b) → br2 k = br k ∧ lo2 k = lo k)
theorem cMrk.start {a b i w : Int32} {br lo : Nat → Int32} {m : Nat} (hm : m = 0) : cMrk a b i w br lo br lo m := fun k _ => ⟨fun h => absurd h.1 (by omega), fun _ => ⟨rfl, rfl⟩⟩
theorem cMrk.no {a b i w r : Int32} {br lo br2 lo2 : Nat → Int32} {m : Nat} (h : cMrk a b i w br lo br2 lo2 m) (hr : r.toInt.toNat = m) (h0 : 0 ≤ r.toInt) (hn : ¬ ((r &&& a) = 0 ∧ (r &&& b) = b)) : cMrk a b i w br lo br2 lo2 (m + 1) := by
  intro k hk
  by_cases e : k = m
  · have e2 : nI k = r := by rw [e, ← hr]; exact nI_tz h0
    rw [e2]
    exact ⟨fun h9 => absurd h9.2 hn, fun _ => (h k hk).2 (fun h9 => by omega)⟩
  · refine ⟨fun h9 => (h k hk).1 ⟨by omega, h9.2⟩, fun h9 => (h k hk).2 (fun h8 => h9 ⟨by omega, h8.2⟩)⟩
theorem cMrk.yes {a b i w r x y : Int32} {br lo br2 lo2 br3 lo3 : Nat → Int32} {m : Nat} (h : cMrk a b i w br lo br2 lo2 m) (hr : r.toInt.toNat = m) (h0 : 0 ≤ r.toInt) (hm : m < 4096) (h1 : (r &&& a) = 0) (h2 : (r &&& b) = b) (e1 : br3 = upd br2 r.toNatClampNeg x) (hx : x = br2 r.toNatClampNeg ^^^ ((1 : Int32) <<< (i &&& 31))) (e2 : lo3 = upd lo2 r.toNatClampNeg y) (hy : y = iI ((lo2 r.toNatClampNeg).toInt + w.toInt)) : cMrk a b i w br lo br3 lo3 (m + 1) := by
  have hc : r.toNatClampNeg = m := hr
  have hm2 := (h m hm).2 (fun h9 => by omega)
  rw [hc] at e1 hx e2 hy
  subst e1 e2
  intro k hk
  by_cases e : k = m
  · have e4 : nI k = r := by rw [e, ← hr]; exact nI_tz h0
    rw [e4]
    refine ⟨fun _ => ?_, fun h9 => absurd ⟨by omega, h1, h2⟩ h9⟩
    unfold upd
    rw [if_pos e, if_pos e, hx, hy, hm2.1, hm2.2, e]
    exact ⟨rfl, rfl⟩
  · unfold upd
    rw [if_neg e, if_neg e]
    refine ⟨fun h9 => (h k hk).1 ⟨by omega, h9.2⟩, fun h9 => (h k hk).2 (fun h8 => h9 ⟨by omega, h8.2⟩)⟩
theorem kN_upd {d : ClD} {y m w : Int32} {i k : Nat} (hi : i ≠ d.1.toNat) : kN (clAdd d y m w) i k = kN d i k := by
  unfold kN
  show decide ((upd d.2.1 d.1.toNat y i &&& nI k) = 0 ∧ (upd d.2.2.1 d.1.toNat m i &&& (nI k ^^^ (-1))) = 0) = _
  unfold upd
  rw [if_neg hi, if_neg hi]
theorem cSum_upd {d : ClD} {y m w : Int32} {k : Nat} : ∀ j, j ≤ d.1.toNat → cSum (clAdd d y m w) k j = cSum d k j := by
  intro j
  induction j with
  | zero => intro _; rfl
  | succ j ih =>
    intro hj
    show cSum (clAdd d y m w) k j + (if kN (clAdd d y m w) j k = true then (upd d.2.2.2 d.1.toNat w j).toInt else 0) = cSum d k j + (if kN d j k = true then (d.2.2.2 j).toInt else 0)
    rw [ih (by omega), kN_upd (by omega)]
    unfold upd
    rw [if_neg (show ¬ j = d.1.toNat by omega)]
theorem kN_new {d : ClD} {y m w : Int32} {k : Nat} : kN (clAdd d y m w) d.1.toNat k = true ↔ ((nI k &&& y) = 0 ∧ (nI k &&& m) = m) := by
  rw [kN_cls]
  show ((nI k &&& upd d.2.1 d.1.toNat y d.1.toNat) = 0 ∧ (nI k &&& upd d.2.2.1 d.1.toNat m d.1.toNat) = upd d.2.2.1 d.1.toNat m d.1.toNat) ↔ _
  unfold upd
  rw [if_pos rfl, if_pos rfl]
theorem bI_bit {i : Int32} {j : Nat} (h0 : 0 ≤ i.toInt) (h1 : i.toInt < 25) : bI ((1 : Int32) <<< (i &&& 31)) j = decide (j = i.toInt.toNat) := by
  have h := bI_1 (i := i.toInt.toNat) (j := j) (by omega)
  rw [nI_tz h0] at h
  exact h
theorem ClI.add {d : ClD} {br lo br2 lo2 : Nat → Int32} {mu mu2 y m w i : Int32} (hv : cVal d) (hn : d.1 < 24) (h : ClI d br lo mu) (hm : cMrk y m i w br lo br2 lo2 4096) (hi : i.toInt = d.1) (hw : 0 ≤ w.toInt ∧ w.toInt ≤ 1000) (hmu : (w.toInt = 0 ∧ mu2 = mu ||| ((1 : Int32) <<< (i &&& 31))) ∨ (w.toInt ≠ 0 ∧ mu2 = mu)) : ClI (clAdd d y m w) br2 lo2 mu2 := by
  have h0 := hv.1
  have hbit : ∀ j, bI ((1 : Int32) <<< (i &&& 31)) j = decide (j = d.1.toNat) := fun j => by rw [bI_bit (by omega) (by omega), hi]
  have hd1 : (clAdd d y m w).1 = d.1 + 1 := rfl
  have e1 : (d.1 + 1).toNat = d.1.toNat + 1 := by omega
  have low : ∀ k, k < 4096 → bI (br k) d.1.toNat = false := by
    intro k hk
    cases h9 : bI (br k) d.1.toNat
    · rfl
    · have := ((h.1 k hk _).mp h9).1; omega
  refine ⟨fun k hk j => ?_, fun k hk => ?_, fun j => ?_⟩
  · rw [hd1]
    by_cases e : j = d.1.toNat
    · rw [e]
      by_cases hnk : (nI k &&& y) = 0 ∧ (nI k &&& m) = m
      · rw [((hm k hk).1 ⟨hk, hnk⟩).1, bI_xor, hbit, low k hk, decide_eq_true rfl]
        exact ⟨fun _ => ⟨by omega, kN_new.mpr hnk⟩, fun _ => rfl⟩
      · rw [((hm k hk).2 (fun h9 => hnk h9.2)).1, low k hk]
        exact ⟨fun h9 => (by cases h9), fun h9 => absurd (kN_new.mp h9.2) hnk⟩
    · have e9 : bI (br2 k) j = bI (br k) j := by
        by_cases hnk : (nI k &&& y) = 0 ∧ (nI k &&& m) = m
        · rw [((hm k hk).1 ⟨hk, hnk⟩).1, bI_xor, hbit, decide_eq_false e, Bool.xor_false]
        · rw [((hm k hk).2 (fun h9 => hnk h9.2)).1]
      rw [e9, kN_upd e, h.1 k hk j]
      constructor
      · intro h9; exact ⟨by omega, h9.2⟩
      · intro h9; exact ⟨by omega, h9.2⟩
  · rw [hd1, e1]
    have hs := cSum_upd (d := d) (y := y) (m := m) (w := w) (k := k) d.1.toNat (Nat.le_refl _)
    have hl := h.2.1 k hk
    have hb := cSum.bd hv k d.1.toNat (by omega)
    have hwn : ((clAdd d y m w).2.2.2 d.1.toNat).toInt = w.toInt := by
      show (upd d.2.2.2 d.1.toNat w d.1.toNat).toInt = w.toInt
      unfold upd
      rw [if_pos rfl]
    by_cases hnk : (nI k &&& y) = 0 ∧ (nI k &&& m) = m
    · rw [cSum_yes (kN_new.mpr hnk), hs, hwn, ((hm k hk).1 ⟨hk, hnk⟩).2, iI_t (by omega) (by omega), hl]
    · have hf : kN (clAdd d y m w) d.1.toNat k = false := by
        cases h9 : kN (clAdd d y m w) d.1.toNat k
        · rfl
        · exact absurd (kN_new.mp h9) hnk
      rw [cSum_no hf, hs, ((hm k hk).2 (fun h9 => hnk h9.2)).2, hl]
  · rw [hd1]
    show bI mu2 j = true ↔ ((j : Int) < d.1 + 1 ∧ (upd d.2.2.2 d.1.toNat w j).toInt = 0)
    unfold upd
    by_cases e : j = d.1.toNat
    · rw [if_pos e, e]
      have hlow : bI mu d.1.toNat = false := by
        cases h9 : bI mu d.1.toNat
        · rfl
        · have := ((h.2.2 _).mp h9).1; omega
      rcases hmu with ⟨h1, h2⟩ | ⟨h1, h2⟩
      · rw [h2, bI_or, hbit, decide_eq_true rfl, Bool.or_true]
        exact ⟨fun _ => ⟨by omega, h1⟩, fun _ => rfl⟩
      · rw [h2, hlow]
        exact ⟨fun h9 => (by cases h9), fun h9 => absurd h9.2 h1⟩
    · rw [if_neg e]
      have e9 : bI mu2 j = bI mu j := by
        rcases hmu with ⟨h1, h2⟩ | ⟨h1, h2⟩
        · rw [h2, bI_or, hbit, decide_eq_false e, Bool.or_false]
        · rw [h2]
      rw [e9, h.2.2 j]
      constructor
      · intro h9; exact ⟨by omega, h9.2⟩
      · intro h9; exact ⟨by omega, h9.2⟩
theorem kN_same {d : ClD} {n : Int} {i k : Nat} : kN (n, d.2) i k = kN d i k := rfl
theorem cSum_same {d : ClD} {n : Int} {k : Nat} : ∀ j, cSum (n, d.2) k j = cSum d k j := by
  intro j
  induction j with
  | zero => rfl
  | succ j ih =>
    show cSum (n, d.2) k j + (if kN d j k = true then (d.2.2.2 j).toInt else 0) = cSum d k j + (if kN d j k = true then (d.2.2.2 j).toInt else 0)
    rw [ih]
theorem ClI.drop {d : ClD} {br lo br2 lo2 : Nat → Int32} {mu mu2 w i : Int32} (hv : cVal d) (hn : 0 < d.1) (h : ClI d br lo mu) (hm : cMrk (d.2.1 (d.1 - 1).toNat) (d.2.2.1 (d.1 - 1).toNat) i w br lo br2 lo2 4096) (hi : i.toInt = d.1 - 1) (hw : w.toInt = - (d.2.2.2 (d.1 - 1).toNat).toInt) (hmu : mu2 = mu &&& (((1 : Int32) <<< (i &&& 31)) ^^^ (-1))) : ClI (d.1 - 1, d.2) br2 lo2 mu2 := by
  have h24 := hv.2.1
  have hbit : ∀ j, bI ((1 : Int32) <<< (i &&& 31)) j = decide (j = (d.1 - 1).toNat) := fun j => by rw [bI_bit (by omega) (by omega), hi]
  have e1 : d.1.toNat = (d.1 - 1).toNat + 1 := by omega
  have hwb := hv.2.2 (d.1 - 1).toNat (by omega)
  refine ⟨fun k hk j => ?_, fun k hk => ?_, fun j => ?_⟩
  · show bI (br2 k) j = true ↔ ((j : Int) < d.1 - 1 ∧ kN d j k = true)
    have hj := h.1 k hk j
    by_cases hnk : (nI k &&& d.2.1 (d.1 - 1).toNat) = 0 ∧ (nI k &&& d.2.2.1 (d.1 - 1).toNat) = d.2.2.1 (d.1 - 1).toNat
    · rw [((hm k hk).1 ⟨hk, hnk⟩).1, bI_xor, hbit]
      by_cases e : j = (d.1 - 1).toNat
      · have hT : bI (br k) j = true := hj.mpr ⟨by omega, by rw [e]; exact (kN_cls _ _ _).mpr hnk⟩
        rw [hT, decide_eq_true e]
        exact ⟨fun h9 => (by cases h9), fun h9 => by omega⟩
      · rw [decide_eq_false e, Bool.xor_false, hj]
        exact ⟨fun h9 => ⟨by omega, h9.2⟩, fun h9 => ⟨by omega, h9.2⟩⟩
    · rw [((hm k hk).2 (fun h9 => hnk h9.2)).1, hj]
      constructor
      · intro h9
        refine ⟨?_, h9.2⟩
        by_cases e : j = (d.1 - 1).toNat
        · exact absurd ((kN_cls _ _ _).mp (by rw [← e]; exact h9.2)) hnk
        · omega
      · intro h9; exact ⟨by omega, h9.2⟩
  · show (lo2 k).toInt = cSum (d.1 - 1, d.2) k (d.1 - 1).toNat
    rw [cSum_same]
    have hl := h.2.1 k hk
    have hb := cSum.bd hv k (d.1 - 1).toNat (by omega)
    rw [e1] at hl
    by_cases hnk : (nI k &&& d.2.1 (d.1 - 1).toNat) = 0 ∧ (nI k &&& d.2.2.1 (d.1 - 1).toNat) = d.2.2.1 (d.1 - 1).toNat
    · rw [cSum_yes ((kN_cls _ _ _).mpr hnk)] at hl
      rw [((hm k hk).1 ⟨hk, hnk⟩).2, iI_t (by omega) (by omega)]
      omega
    · have hf : kN d (d.1 - 1).toNat k = false := by
        cases h9 : kN d (d.1 - 1).toNat k
        · rfl
        · exact absurd ((kN_cls _ _ _).mp h9) hnk
      rw [cSum_no hf] at hl
      rw [((hm k hk).2 (fun h9 => hnk h9.2)).2]
      exact hl
  · show bI mu2 j = true ↔ ((j : Int) < d.1 - 1 ∧ (d.2.2.2 j).toInt = 0)
    rw [hmu, bI_and, bI_xor, hbit]
    by_cases hj : j < 32
    · rw [bI_m1 hj, Bool.and_eq_true, h.2.2 j]
      by_cases e : j = (d.1 - 1).toNat
      · rw [decide_eq_true e]
        exact ⟨fun h9 => (by cases h9.2), fun h9 => by omega⟩
      · rw [decide_eq_false e]
        exact ⟨fun h9 => ⟨by omega, h9.1.2⟩, fun h9 => ⟨⟨by omega, h9.2⟩, rfl⟩⟩
    · rw [bI_big (x := mu) (by omega)]
      exact ⟨fun h9 => (by cases h9), fun h9 => by omega⟩
theorem ClI.must {d : ClD} {br lo : Nat → Int32} {mu : Int32} (hv : cVal d) (h : ClI d br lo mu) {k : Nat} (hk : k < 4096) : (br k &&& mu) = 0 ↔ cMust d k d.1.toNat := by
  have h0 := hv.1
  rw [bI_zero]
  constructor
  · intro h9 i hi hn hw
    have e := h9 i
    rw [bI_and, (h.1 k hk i).mpr ⟨by omega, hn⟩, (h.2.2 i).mpr ⟨by omega, hw⟩] at e
    cases e
  · intro h9 j
    rw [bI_and]
    cases e1 : bI (br k) j
    · rfl
    · cases e2 : bI mu j
      · rfl
      · have a1 := (h.1 k hk j).mp e1
        have a2 := (h.2.2 j).mp e2
        exact absurd a2.2 (h9 j (by omega) a1.2)
theorem ClI.can {d : ClD} {br lo : Nat → Int32} {mu x : Int32} (hv : cVal d) (h : ClI d br lo mu) {k : Nat} (hk : k < 4096) : (br k &&& x) = 0 ↔ cSat d x k d.1.toNat = true := by
  have h0 := hv.1
  rw [bI_zero, cSat_iff]
  constructor
  · intro h9 i hi hx
    cases e : kN d i k
    · rfl
    · have e2 := h9 i
      rw [bI_and, (h.1 k hk i).mpr ⟨by omega, e⟩, hx] at e2
      cases e2
  · intro h9 j
    rw [bI_and]
    cases e1 : bI (br k) j
    · rfl
    · cases e2 : bI x j
      · rfl
      · have a1 := (h.1 k hk j).mp e1
        have a2 := h9 j (by omega) e2
        rw [a1.2] at a2; cases a2
theorem ClI.none {d : ClD} {br lo : Nat → Int32} {mu : Int32} (hv : cVal d) (h : ClI d br lo mu) {k : Nat} (hk : k < 4096) : br k = 0 ↔ cSat d (cFull d.1.toNat) k d.1.toNat = true := by
  have h0 := hv.1
  have h24 := hv.2.1
  rw [bI_zero, cSat_iff]
  constructor
  · intro h9 i hi _
    cases e : kN d i k
    · rfl
    · have e2 := h9 i
      rw [(h.1 k hk i).mpr ⟨by omega, e⟩] at e2
      cases e2
  · intro h9 j
    cases e1 : bI (br k) j
    · rfl
    · have a1 := (h.1 k hk j).mp e1
      have a2 := h9 j (by omega) (cFull_bit (by omega) (by omega))
      rw [a1.2] at a2; cases a2
theorem ClI.lno {d : ClD} {br lo : Nat → Int32} {mu a : Int32} {m : Nat} {c : Int} (hv : cVal d) (h : ClI d br lo mu) (hB : ∃ b, cBest d m b c) (hm : m < 4096) (ha : a = br m &&& mu) (h0 : a.toInt ≠ 0) : ∃ b, cBest d (m + 1) b c :=
  hB.elim (fun b hb => ⟨b, cBest.no hb (fun h9 => h0 (by rw [ha, (ClI.must hv h hm).mpr h9]; decide))⟩)
theorem ClI.lm {d : ClD} {br lo : Nat → Int32} {mu a : Int32} {m : Nat} (hv : cVal d) (h : ClI d br lo mu) (hm : m < 4096) (ha : a = br m &&& mu) (h0 : a.toInt = 0) : cMust d m d.1.toNat :=
  (ClI.must hv h hm).mp (by rw [← ha]; exact Int32.toInt_inj.mp (by rw [h0]; decide))
theorem ClI.lnew {d : ClD} {br lo : Nat → Int32} {mu a : Int32} {m : Nat} {c c2 : Int} (hv : cVal d) (h : ClI d br lo mu) (hB : ∃ b, cBest d m b c) (hm : m < 4096) (ha : a = br m &&& mu) (h0 : a.toInt = 0) (hc : c = -1) (hc2 : c2 = (m : Int)) : ∃ b, cBest d (m + 1) b c2 :=
  hB.elim (fun b hb => ⟨cSum d m d.1.toNat, cBest.take hb (ClI.lm hv h hm ha h0) rfl hc2 (Or.inl hc)⟩)
theorem ClI.lat {d : ClD} {br lo : Nat → Int32} {mu : Int32} {m : Nat} {b c : Int} (h : ClI d br lo mu) (hB : cBest d m b c) (hc : c ≠ -1) (hm : m ≤ 4096) : (lo c.toNat).toInt = b ∧ 0 ≤ c ∧ c < (m : Int) := by
  rcases hB with ⟨h1, _⟩ | ⟨h1, h2, _, h4, _⟩
  · exact absurd h1 hc
  · exact ⟨by rw [h4]; exact h.2.1 c.toNat (by omega), h1, h2⟩
theorem ClI.lless {d : ClD} {br lo : Nat → Int32} {mu a x y : Int32} {m : Nat} {c c2 : Int} (hv : cVal d) (h : ClI d br lo mu) (hB : ∃ b, cBest d m b c) (hm : m < 4096) (ha : a = br m &&& mu) (h0 : a.toInt = 0) (hc : c ≠ -1) (hx : x = lo m) (hy : y = lo c.toNat) (hl : x.toInt < y.toInt) (hc2 : c2 = (m : Int)) : ∃ b, cBest d (m + 1) b c2 :=
  hB.elim (fun b hb => ⟨cSum d m d.1.toNat, cBest.take hb (ClI.lm hv h hm ha h0) rfl hc2 (Or.inr (by rw [← h.2.1 m hm, ← (ClI.lat h hb hc (by omega)).1, ← hx, ← hy]; exact hl))⟩)
theorem ClI.lkeep {d : ClD} {br lo : Nat → Int32} {mu x y : Int32} {m : Nat} {c : Int} (h : ClI d br lo mu) (hB : ∃ b, cBest d m b c) (hm : m < 4096) (hc : c ≠ -1) (hx : x = lo m) (hy : y = lo c.toNat) (hl : ¬ x.toInt < y.toInt) : ∃ b, cBest d (m + 1) b c :=
  hB.elim (fun b hb => ⟨b, cBest.keep hb hc (by rw [← h.2.1 m hm, ← (ClI.lat h hb hc (by omega)).1, ← hx, ← hy]; exact hl)⟩)
theorem cBest.nob {d : ClD} {m : Nat} {c : Int} (hB : ∃ b, cBest d m b c) (hc : c = -1) : ∃ c2, cBest d m (-1) c2 := by
  obtain ⟨b, hb⟩ := hB
  have e : b = -1 := by
    rcases hb with ⟨_, h2, _⟩ | ⟨h1, _⟩
    · exact h2
    · omega
  rw [e] at hb
  exact ⟨c, hb⟩
theorem ClI.lost {d : ClD} {br lo : Nat → Int32} {mu x : Int32} {c : Int} (h : ClI d br lo mu) (hB : ∃ b, cBest d 4096 b c) (hc : c ≠ -1) (hx : x = lo c.toNat) : ∃ c2, cBest d 4096 x.toInt c2 :=
  hB.elim (fun b hb => ⟨c, by rw [hx, (ClI.lat h hb hc (Nat.le_refl _)).1]; exact hb⟩)
def cCnt (d : ClD) (m : Nat) : Nat := cntB (fun k => cSat d (cFull d.1.toNat) k d.1.toNat) m
theorem cCnt_le (d : ClD) (m : Nat) : cCnt d m ≤ m := cntB_le _ m
theorem ClI.cnt1 {d : ClD} {br lo : Nat → Int32} {mu x : Int32} {m : Nat} (hv : cVal d) (h : ClI d br lo mu) (hm : m < 4096) (hx : x = br m) (h0 : x.toInt = 0) : cCnt d (m + 1) = cCnt d m + 1 := by
  have e : cSat d (cFull d.1.toNat) m d.1.toNat = true := (ClI.none hv h hm).mp (by rw [← hx]; exact Int32.toInt_inj.mp (by rw [h0]; decide))
  show cntB (fun k => cSat d (cFull d.1.toNat) k d.1.toNat) m + (if cSat d (cFull d.1.toNat) m d.1.toNat = true then 1 else 0) = cCnt d m + 1
  rw [if_pos e]
  rfl
theorem ClI.cnt0 {d : ClD} {br lo : Nat → Int32} {mu x : Int32} {m : Nat} (hv : cVal d) (h : ClI d br lo mu) (hm : m < 4096) (hx : x = br m) (h0 : x.toInt ≠ 0) : cCnt d (m + 1) = cCnt d m := by
  have e : ¬ cSat d (cFull d.1.toNat) m d.1.toNat = true := fun h9 => h0 (by rw [hx, (ClI.none hv h hm).mpr h9]; decide)
  show cntB (fun k => cSat d (cFull d.1.toNat) k d.1.toNat) m + (if cSat d (cFull d.1.toNat) m d.1.toNat = true then 1 else 0) = cCnt d m
  rw [if_neg e]
  rfl
theorem ClI.nkeep {d : ClD} {br lo : Nat → Int32} {mu a x : Int32} {m : Nat} (hv : cVal d) (h : ClI d br lo mu) (hN : ∀ k, k < m → ¬ cSat d x k d.1.toNat = true) (hm : m < 4096) (ha : a = br m &&& x) (h0 : a.toInt ≠ 0) : ∀ k, k < m + 1 → ¬ cSat d x k d.1.toNat = true := by
  intro k hk h9
  by_cases e : k = m
  · rw [e] at h9
    exact h0 (by rw [ha, (ClI.can hv h hm).mpr h9]; decide)
  · exact hN k (by omega) h9
theorem ClI.ykeep {d : ClD} {br lo : Nat → Int32} {mu a x : Int32} {m : Nat} (hv : cVal d) (h : ClI d br lo mu) (hm : m < 4096) (ha : a = br m &&& x) (h0 : a.toInt = 0) : cCan d x :=
  ⟨m, hm, (ClI.can hv h hm).mp (by rw [← ha]; exact Int32.toInt_inj.mp (by rw [h0]; decide))⟩
theorem cCan.no {d : ClD} {x : Int32} {m : Nat} (hN : ∀ k, k < m → ¬ cSat d x k d.1.toNat = true) (hm : m = 4096) : ¬ cCan d x := fun ⟨k, hk, h⟩ => hN k (by omega) h
theorem cLess_of {x a l : Int32} (h0 : 0 ≤ l.toInt) (ha : a = x &&& (((1 : Int32) <<< (l &&& 31)) ^^^ (-1))) : a = cLess x l.toInt.toNat := by
  unfold cLess
  rw [nI_tz h0]
  exact ha
theorem cFull_of {y n : Int32} (h0 : 0 ≤ n.toInt) (hy : y = ((1 : Int32) <<< (n &&& 31)) - 1) : y = cFull n.toInt.toNat := by
  unfold cFull
  rw [nI_tz h0]
  exact hy
theorem cCore.y {d : ClD} {c n k : Nat} {x F : Int32} (hI : ∀ r, cCore d c x r → cCore d n F r) (hc : c = k + 1) (hy : cCan d (cLess x k)) : ∀ r, cCore d k x r → cCore d n F r := by
  subst hc
  exact fun r hr => hI r (Or.inl ⟨hy, hr⟩)
theorem cCore.n {d : ClD} {c n k : Nat} {x a F : Int32} (hI : ∀ r, cCore d c x r → cCore d n F r) (hc : c = k + 1) (ha : a = cLess x k) (hy : ¬ cCan d a) : ∀ r, cCore d k a r → cCore d n F r := by
  subst hc ha
  exact fun r hr => hI r (Or.inr ⟨hy, hr⟩)
theorem cCore.e {d : ClD} {c n : Nat} {x F : Int32} (hI : ∀ r, cCore d c x r → cCore d n F r) (hc : c = 0) : cCore d n F x := by
  subst hc
  exact hI x rfl
theorem cVal.z0 : cVal ((0 : Int32).toInt, (fun _ => 0), (fun _ => 0), (fun _ => 0)) := by
  have h := cVal.z
  rw [clZ_x (x := (0 : Int32).toInt) (by decide)] at h
  exact h
theorem ClI.z0 : ClI ((0 : Int32).toInt, (fun _ => 0), (fun _ => 0), (fun _ => 0)) (fun _ => 0) (fun _ => 0) 0 := by
  have h := ClI.z
  rw [clZ_x (x := (0 : Int32).toInt) (by decide)] at h
  exact h
end

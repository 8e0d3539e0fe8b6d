theorem dX2_leastCost_0 : decode cX2_leastCost 0 = .ok (.iload_n 3, 1) := by decide +kernel
theorem dX2_leastCost_1 : decode cX2_leastCost 1 = .ok (.ifCond .ge 5, 3) := by decide +kernel
theorem dX2_leastCost_4 : decode cX2_leastCost 4 = .ok (.iconst (-1), 1) := by decide +kernel
theorem dX2_leastCost_5 : decode cX2_leastCost 5 = .ok (.ireturn, 1) := by decide +kernel
theorem dX2_leastCost_6 : decode cX2_leastCost 6 = .ok (.aload_n 0, 1) := by decide +kernel
theorem dX2_leastCost_7 : decode cX2_leastCost 7 = .ok (.getfield 30, 3) := by decide +kernel
theorem dX2_leastCost_10 : decode cX2_leastCost 10 = .ok (.iconst 0, 1) := by decide +kernel
theorem dX2_leastCost_11 : decode cX2_leastCost 11 = .ok (.invokestatic 49, 3) := by decide +kernel
theorem dX2_leastCost_14 : decode cX2_leastCost 14 = .ok (.iload_n 3, 1) := by decide +kernel
theorem dX2_leastCost_15 : decode cX2_leastCost 15 = .ok (.istore 4, 2) := by decide +kernel
theorem dX2_leastCost_17 : decode cX2_leastCost 17 = .ok (.iconst 0, 1) := by decide +kernel
theorem dX2_leastCost_18 : decode cX2_leastCost 18 = .ok (.istore 5, 2) := by decide +kernel
theorem dX2_leastCost_20 : decode cX2_leastCost 20 = .ok (.iconst 0, 1) := by decide +kernel
theorem dX2_leastCost_21 : decode cX2_leastCost 21 = .ok (.istore 6, 2) := by decide +kernel
theorem dX2_leastCost_23 : decode cX2_leastCost 23 = .ok (.iload 6, 2) := by decide +kernel
theorem dX2_leastCost_25 : decode cX2_leastCost 25 = .ok (.ldc 55, 2) := by decide +kernel
theorem dX2_leastCost_27 : decode cX2_leastCost 27 = .ok (.if_icmp .ge 63, 3) := by decide +kernel
theorem dX2_leastCost_30 : decode cX2_leastCost 30 = .ok (.iload 4, 2) := by decide +kernel
theorem dX2_leastCost_32 : decode cX2_leastCost 32 = .ok (.ifCond .le 58, 3) := by decide +kernel
theorem dX2_leastCost_35 : decode cX2_leastCost 35 = .ok (.aload_n 0, 1) := by decide +kernel
theorem dX2_leastCost_36 : decode cX2_leastCost 36 = .ok (.iload_n 1, 1) := by decide +kernel
theorem dX2_leastCost_37 : decode cX2_leastCost 37 = .ok (.invokevirtual 70, 3) := by decide +kernel
theorem dX2_leastCost_40 : decode cX2_leastCost 40 = .ok (.aload_n 0, 1) := by decide +kernel
theorem dX2_leastCost_41 : decode cX2_leastCost 41 = .ok (.getfield 33, 3) := by decide +kernel
theorem dX2_leastCost_44 : decode cX2_leastCost 44 = .ok (.iload_n 2, 1) := by decide +kernel
theorem dX2_leastCost_45 : decode cX2_leastCost 45 = .ok (.iaload, 1) := by decide +kernel
theorem dX2_leastCost_46 : decode cX2_leastCost 46 = .ok (.ldc 60, 2) := by decide +kernel
theorem dX2_leastCost_48 : decode cX2_leastCost 48 = .ok (.if_icmp .lt 5, 3) := by decide +kernel
theorem dX2_leastCost_51 : decode cX2_leastCost 51 = .ok (.iconst (-1), 1) := by decide +kernel
theorem dX2_leastCost_52 : decode cX2_leastCost 52 = .ok (.ireturn, 1) := by decide +kernel
theorem dX2_leastCost_53 : decode cX2_leastCost 53 = .ok (.aload_n 0, 1) := by decide +kernel
theorem dX2_leastCost_54 : decode cX2_leastCost 54 = .ok (.iload_n 1, 1) := by decide +kernel
theorem dX2_leastCost_55 : decode cX2_leastCost 55 = .ok (.iload_n 2, 1) := by decide +kernel
theorem dX2_leastCost_56 : decode cX2_leastCost 56 = .ok (.iload 4, 2) := by decide +kernel
theorem dX2_leastCost_58 : decode cX2_leastCost 58 = .ok (.invokevirtual 74, 3) := by decide +kernel
theorem dX2_leastCost_61 : decode cX2_leastCost 61 = .ok (.istore 7, 2) := by decide +kernel
theorem dX2_leastCost_63 : decode cX2_leastCost 63 = .ok (.iload 4, 2) := by decide +kernel
theorem dX2_leastCost_65 : decode cX2_leastCost 65 = .ok (.iload 7, 2) := by decide +kernel
theorem dX2_leastCost_67 : decode cX2_leastCost 67 = .ok (.isub, 1) := by decide +kernel
theorem dX2_leastCost_68 : decode cX2_leastCost 68 = .ok (.istore 4, 2) := by decide +kernel
theorem dX2_leastCost_70 : decode cX2_leastCost 70 = .ok (.iload 5, 2) := by decide +kernel
theorem dX2_leastCost_72 : decode cX2_leastCost 72 = .ok (.iload 7, 2) := by decide +kernel
theorem dX2_leastCost_74 : decode cX2_leastCost 74 = .ok (.aload_n 0, 1) := by decide +kernel
theorem dX2_leastCost_75 : decode cX2_leastCost 75 = .ok (.getfield 33, 3) := by decide +kernel
theorem dX2_leastCost_78 : decode cX2_leastCost 78 = .ok (.iload_n 2, 1) := by decide +kernel
theorem dX2_leastCost_79 : decode cX2_leastCost 79 = .ok (.iaload, 1) := by decide +kernel
theorem dX2_leastCost_80 : decode cX2_leastCost 80 = .ok (.imul, 1) := by decide +kernel
theorem dX2_leastCost_81 : decode cX2_leastCost 81 = .ok (.iadd, 1) := by decide +kernel
theorem dX2_leastCost_82 : decode cX2_leastCost 82 = .ok (.istore 5, 2) := by decide +kernel
theorem dX2_leastCost_84 : decode cX2_leastCost 84 = .ok (.iinc 6 1, 3) := by decide +kernel
theorem dX2_leastCost_87 : decode cX2_leastCost 87 = .ok (.goto (-64), 3) := by decide +kernel
theorem dX2_leastCost_90 : decode cX2_leastCost 90 = .ok (.iload 5, 2) := by decide +kernel
theorem dX2_leastCost_92 : decode cX2_leastCost 92 = .ok (.ireturn, 1) := by decide +kernel
def wsMX2_leastCost : List Cond := .code yX2_leastCost cX2_leastCost 8 (some .int) :: ([.fieldLink RX2 30 "OptimaWorks$NetDesk" "flow" "[I", .constant RX2 55 1000000, .fieldLink RX2 33 "OptimaWorks$NetDesk" "length" "[I", .constant RX2 60 536870912] ++ wsX20 ++ (va_wsS RX2 49 yJ7_fill_53178 wsMJ7_fill_53178) ++ (wsV RX2 70 RX2 yX2_measure wsMX2_measure) ++ (wsV RX2 74 RX2 yX2_push wsMX2_push))
theorem iwsMX2_leastCost_in2 : ∀ w ∈ wsX20, w ∈ wsMX2_leastCost := fun _ h => List.mem_cons_of_mem _ (List.mem_append_left _ (List.mem_append_left _ (List.mem_append_left _ (List.mem_append_right _ h))))
theorem gwsMX2_leastCost_0 : GoodIn wsMX2_leastCost (va_wsS RX2 49 yJ7_fill_53178 wsMJ7_fill_53178) := goodIn_sub (fun _ h => List.mem_cons_of_mem _ (List.mem_append_left _ (List.mem_append_left _ (List.mem_append_right _ h)))) (gdS (by decide +kernel) gdwsMJ7_fill_53178)
theorem gwsMX2_leastCost_1 : GoodIn wsMX2_leastCost (wsV RX2 70 RX2 yX2_measure wsMX2_measure) := goodIn_sub (fun _ h => List.mem_cons_of_mem _ (List.mem_append_left _ (List.mem_append_right _ h))) (gdV (by decide +kernel) gdwsMX2_measure)
theorem gwsMX2_leastCost_2 : GoodIn wsMX2_leastCost (wsV RX2 74 RX2 yX2_push wsMX2_push) := goodIn_sub (fun _ h => List.mem_cons_of_mem _ (List.mem_append_right _ h)) (gdV (by decide +kernel) gdwsMX2_push)
theorem gdwsMX2_leastCost : wsMX2_leastCost.all goodWord = true := gdC rfl (gdA (gdA (gdA (gdA (by decide +kernel : ([.fieldLink RX2 30 "OptimaWorks$NetDesk" "flow" "[I", .constant RX2 55 1000000, .fieldLink RX2 33 "OptimaWorks$NetDesk" "length" "[I", .constant RX2 60 536870912] : List Cond).all goodWord = true) gdwsX20) (gdS (by decide +kernel) gdwsMJ7_fill_53178)) (gdV (by decide +kernel) gdwsMX2_measure)) (gdV (by decide +kernel) gdwsMX2_push))
set_option maxHeartbeats 4000000 in
set_option maxRecDepth 100000 in
/-- the least cost -/
theorem m_X2_leastCost (l : Launch) (dC : Nat → ClassId) (dI : Nat → Nat → Nat) (hN : Nat → Nat) (aN : Nat → Nat) (kN : Nat → ClassId) (iN_arcs : Int32) (fN_from : Nat → Int32) (fN_to : Nat → Int32) (fN_room : Nat → Int32) (fN_cost : Nat → Int32) (iN_reached : Int32) (fN_free : Nat → Int32) (fN_before : Nat → Int32) (fN_flow : Nat → Int32) (fN_length : Nat → Int32) (fN_stop : Nat → Int32) (iN_stops : Int32) (fN_price : Nat → Int32) (fN_rest : Nat → Int32) (p1 : Int32) (p2 : Int32) (p3 : Int32) (b_iN_arcs : 0 ≤ iN_arcs.toInt ∧ iN_arcs.toInt ≤ 40) (b_fN_from : ∀ q : Nat, 0 ≤ (fN_from q).toInt ∧ (fN_from q).toInt ≤ 11) (b_fN_to : ∀ q : Nat, 0 ≤ (fN_to q).toInt ∧ (fN_to q).toInt ≤ 11) (b_fN_before : ∀ q : Nat, 0 ≤ (fN_before q).toInt ∧ (fN_before q).toInt ≤ 79) (b_fN_stop : ∀ q : Nat, 0 ≤ (fN_stop q).toInt ∧ (fN_stop q).toInt ≤ 11) (b_iN_stops : 0 ≤ iN_stops.toInt ∧ iN_stops.toInt ≤ 8) (b_p1 : 0 ≤ p1.toInt ∧ p1.toInt ≤ 11) (b_p2 : 0 ≤ p2.toInt ∧ p2.toInt ≤ 11) (sz : Nat) : Met l yX2_leastCost wsMX2_leastCost ({ frames := 2, cells := 0, slots := 0, locals := 47 }) (va_Pc [.ref (hN 0), .int p1, .int p2, .int p3] (fun U => U.heap.size = sz ∧ va_P (dC, dI) vwCl (WN hN aN kN iN_arcs fN_from fN_to fN_room fN_cost iN_reached fN_free fN_before fN_flow fN_length fN_stop iN_stops fN_price fN_rest) U.heap ∧ va_K (dC, dI) vwCl (tN kN) U ∧ va_D (fun _ => True) (WN hN aN kN iN_arcs fN_from fN_to fN_room fN_cost iN_reached fN_free fN_before fN_flow fN_length fN_stop iN_stops fN_price fN_rest))) (va_Qi (fun (r : Int32) (u : (Nat → Int32) × (Nat → Int32) × (Nat → Int32)) => (∀ q : Nat, 0 ≤ ((u.1) q).toInt ∧ ((u.1) q).toInt ≤ 79)) (fun (u : (Nat → Int32) × (Nat → Int32) × (Nat → Int32)) t => va_P (dC, dI) vwCl (WN hN aN kN iN_arcs fN_from fN_to fN_room fN_cost iN_reached fN_free (u.1) (u.2.1) (u.2.2) fN_stop iN_stops fN_price fN_rest) t.heap ∧ va_D (va_A (WN hN aN kN iN_arcs fN_from fN_to fN_room fN_cost iN_reached fN_free fN_before fN_flow fN_length fN_stop iN_stops fN_price fN_rest) sz) (WN hN aN kN iN_arcs fN_from fN_to fN_room fN_cost iN_reached fN_free (u.1) (u.2.1) (u.2.2) fN_stop iN_stops fN_price fN_rest)) (va_A (WN hN aN kN iN_arcs fN_from fN_to fN_room fN_cost iN_reached fN_free fN_before fN_flow fN_length fN_stop iN_stops fN_price fN_rest) sz)) 0 0 (va_A (WN hN aN kN iN_arcs fN_from fN_to fN_room fN_cost iN_reached fN_free fN_before fN_flow fN_length fN_stop iN_stops fN_price fN_rest) sz) := by
  refine Met.ofW (cc := cX2_leastCost) (maxL := 8) (ret := (some .int)) (by decide) rfl ?_
  intro p e s m args below meth c s₁ B hml hv
  obtain ⟨rfl, hsz, hP, hK, hD0⟩ := hv
  have hx := B.exec
  have hb := B.bytes
  have hr := B.returns
  have hts := atoms_spec (ws := wsMX2_leastCost) B.pre
  have hown : s.vm.findClass RX2 = some m.cls := findClass_of_methodNamed B.named
  have hlocks := B.notSynchronized
  subst hsz
  have hD := hD0.self (sz := s.heap.size)
  generalize hAe : va_A (WN hN aN kN iN_arcs fN_from fN_to fN_room fN_cost iN_reached fN_free fN_before fN_flow fN_length fN_stop iN_stops fN_price fN_rest) s.heap.size = A at hD ⊢
  have hA : ∀ q : Nat, s.heap.size ≤ q → A q := fun q h => by rw [← hAe]; exact Or.inr h
  have hS : va_S A s.heap s.heap [] := va_S.rf
  have hl := lv_entry ([.ref (hN 0), .int p1, .int p2, .int p3]) (n := 8) (Nat.le_of_ble_eq_true rfl)
  rw [lg_entry_eq]
  generalize (lg_sl ([.ref (hN 0), .int p1, .int p2, .int p3]) ++ List.replicate (8 - (lg_sl ([.ref (hN 0), .int p1, .int p2, .int p3])).length) Slot.unset).toArray = ls at hl ⊢
  have hl : lv_has ls 8 [(0, .ref (hN 0)), (1, .int p1), (2, .int p2), (3, .int p3)] := hl
  refine lv_iload_n hx hb dX2_leastCost_0 rfl (lv_at hl 3 rfl) ?_
  refine lv_if_ge (tgt := 6) hx hb dX2_leastCost_1 (by decide) (fun c_1 => ?_) (fun c_1 => ?_)
  · have t_1 : p3.toInt ≥ 0 := toI_ge c_1 rfl (by decide : (0 : Int32).toInt = 0)
    refine lv_aload_n hx hb dX2_leastCost_6 rfl (lv_at hl 0 rfl) ?_
    refine va_get (D := (dC, dI)) (ci := 2) (v := .ref (aN 6)) (C := RX2) (T := TX2) (N := 14) hx hb hts iwsMX2_leastCost_in2 hown hK hP 0 rfl rfl 8 (by decide) (hts (.fieldLink RX2 30 "OptimaWorks$NetDesk" "flow" "[I") (by decide +kernel)) (fun _ h9 => h9) rfl dX2_leastCost_7 ?_
    refine lv_iconst (v := 0) hx hb dX2_leastCost_10 (by decide) ?_
    have hPc := hP.sub (ws' := WY (fun _ => 0) (fun _ => aN 6) (fun _ => kN 6) 40 fN_flow) [7] rfl
    have hDc := hD.sub (ws' := WY (fun _ => 0) (fun _ => aN 6) (fun _ => kN 6) 40 fN_flow) [7] (by decide) rfl
    have hKc := hK.sub (tys' := tY (fun _ => kN 6)) [6] rfl
    have hFc := va_free (wc := WY (fun _ => 0) (fun _ => aN 6) (fun _ => kN 6) 40 fN_flow) hD hS hA [7] rfl
    refine va_callv (va_runS (As := [.ref (aN 6), .int 0]) (rest := []) ⟨hx, hb, hml, hown, hts⟩ (m_J7_fill_53178 l dC dI (fun _ => 0) (fun _ => aN 6) (fun _ => kN 6) 40 fN_flow 0 (by first | assumption | exact ⟨by omega, by omega⟩) s.heap.size) (va_cwS 2 hts gwsMX2_leastCost_0 rfl rfl rfl (by decide +kernel) ⟨by decide +kernel, by decide +kernel⟩) ⟨fun a U g mk q => by obtain ⟨q0, q1, qP, qK, qD⟩ := q; exact ⟨q0, q1, qP, va_K.moved (u := U) (U := U.calling g mk a) (Vm.Alike.refl U.vm) qK, qD⟩, fun U hU9 hW => ⟨rfl, by rw [hU9], by rw [hU9]; exact hPc, va_K.moved hW.alike hKc, hDc.weaken (fun _ _ _ _ => trivial)⟩⟩ rfl rfl hl.1 rfl (lv_room (Nat.le_of_ble_eq_true rfl)) dX2_leastCost_11 ⟨by decide +kernel, by decide +kernel⟩) hS (fun q _ h => hFc q h) hFc (fun u t9_ H1 locs ht hvm hw9 hB9 hz1 hk1 hS => ?_)
    obtain ⟨fY_1, hwit1⟩ : ∃ w9, w9 = u := ⟨u, rfl⟩
    subst hwit1
    clear hw9
    obtain ⟨hP1, hD1⟩ := hB9
    rw [ht] at hP1
    obtain ⟨hP, hD⟩ := va_join (wr := [(hN 0, .inr (2, [.int iN_arcs, .ref (aN 0), .ref (aN 1), .ref (aN 2), .ref (aN 3), .int iN_reached, .ref (aN 4), .ref (aN 5), .ref (aN 6), .ref (aN 7), .ref (aN 8), .int iN_stops, .ref (aN 9), .ref (aN 10)])), (aN 0, .inl (kN 0, 40, .inl fN_from)), (aN 1, .inl (kN 1, 40, .inl fN_to)), (aN 2, .inl (kN 2, 40, .inl fN_room)), (aN 3, .inl (kN 3, 40, .inl fN_cost)), (aN 4, .inl (kN 4, 144, .inl fN_free)), (aN 5, .inl (kN 5, 12, .inl fN_before)), (aN 7, .inl (kN 7, 12, .inl fN_length)), (aN 8, .inl (kN 8, 8, .inl fN_stop)), (aN 9, .inl (kN 9, 64, .inl fN_price)), (aN 10, .inl (kN 10, 1024, .inl fN_rest))]) (w1 := WY (fun _ => 0) (fun _ => aN 6) (fun _ => kN 6) 40 fY_1) hP hD [7] [0, 1, 2, 3, 4, 5, 6, 8, 9, 10, 11] rfl rfl (by decide) (by decide) hk1 hFc hP1 hD1
    have hP := hP.sub (ws' := WN hN aN kN iN_arcs fN_from fN_to fN_room fN_cost iN_reached fN_free fN_before fY_1 fN_length fN_stop iN_stops fN_price fN_rest) [0, 1, 2, 3, 4, 5, 6, 11, 7, 8, 9, 10] rfl
    have hD := hD.sub (ws' := WN hN aN kN iN_arcs fN_from fN_to fN_room fN_cost iN_reached fN_free fN_before fY_1 fN_length fN_stop iN_stops fN_price fN_rest) [0, 1, 2, 3, 4, 5, 6, 11, 7, 8, 9, 10] (by decide) rfl
    generalize H1 = H at hP hS ⊢
    have hP : va_P (dC, dI) vwCl (WN hN aN kN iN_arcs fN_from fN_to fN_room fN_cost iN_reached fN_free fN_before fY_1 fN_length fN_stop iN_stops fN_price fN_rest) H := hP
    have hD : va_D A (WN hN aN kN iN_arcs fN_from fN_to fN_room fN_cost iN_reached fN_free fN_before fY_1 fN_length fN_stop iN_stops fN_price fN_rest) := hD
    refine lv_iload_n hx hb dX2_leastCost_14 rfl (lv_at hl 3 rfl) ?_
    refine lv_istore (lv' := [(4, .int p3), (0, .ref (hN 0)), (1, .int p1), (2, .int p2), (3, .int p3)]) hx hb dX2_leastCost_15 hl (by decide) rfl (fun ls hl => ?_)
    refine lv_iconst (v := 0) hx hb dX2_leastCost_17 (by decide) ?_
    refine lv_istore (lv' := [(5, .int 0), (4, .int p3), (0, .ref (hN 0)), (1, .int p1), (2, .int p2), (3, .int p3)]) hx hb dX2_leastCost_18 hl (by decide) rfl (fun ls hl => ?_)
    refine lv_iconst (v := 0) hx hb dX2_leastCost_20 (by decide) ?_
    refine lv_istore (lv' := [(6, .int 0), (5, .int 0), (4, .int p3), (0, .ref (hN 0)), (1, .int p1), (2, .int p2), (3, .int p3)]) hx hb dX2_leastCost_21 hl (by decide) rfl (fun ls hl => ?_)
    have hl := lv_sub hl [0, 1, 2, 3, 4, 5, 6] (l' := [(6, .int 0), (5, .int 0), (4, .int p3), (0, .ref (hN 0)), (1, .int p1), (2, .int p2), (3, .int p3)]) rfl
    refine (fun (loop : ∀ (n9 : Nat) (fN_before_x23 : Nat → Int32) (fN_flow_x23 : Nat → Int32) (fN_length_x23 : Nat → Int32) (l6_x23 : Int32) (l5_x23 : Int32) (l4_x23 : Int32) (H : Heap) (locs : List Loc) (ls : Array Slot), (∀ q : Nat, 0 ≤ (fN_before_x23 q).toInt ∧ (fN_before_x23 q).toInt ≤ 79) → (0 ≤ l6_x23.toInt ∧ l6_x23.toInt ≤ 1000000) → (1000000 - l6_x23.toInt < ((n9 : Nat) : Int)) → va_P (dC, dI) vwCl (WN hN aN kN iN_arcs fN_from fN_to fN_room fN_cost iN_reached fN_free fN_before_x23 fN_flow_x23 fN_length_x23 fN_stop iN_stops fN_price fN_rest) H → va_D A (WN hN aN kN iN_arcs fN_from fN_to fN_room fN_cost iN_reached fN_free fN_before_x23 fN_flow_x23 fN_length_x23 fN_stop iN_stops fN_price fN_rest) → va_S A s.heap H locs → lv_has ls 8 [(6, .int l6_x23), (5, .int l5_x23), (4, .int l4_x23), (0, .ref (hN 0)), (1, .int p1), (2, .int p2), (3, .int p3)] → W p l e _ s m _ below meth c H locs 0 0 _ (F0 m 23 ls [])) => loop (1000001) fN_before fY_1 fN_length 0 0 p3 _ _ _ b_fN_before (show 0 ≤ (0 : Int32).toInt ∧ (0 : Int32).toInt ≤ 1000000 from by decide) ((by have e9 : (0 : Int32).toInt = 0 := (by decide : (0 : Int32).toInt = 0); omega)) hP hD hS hl) ?_
    intro n9
    induction n9 with
    | zero => intro fN_before_x23 fN_flow_x23 fN_length_x23 l6_x23 l5_x23 l4_x23 H locs ls b_fN_before_x23 b_l6_x23 hf9; exact False.elim (by omega)
    | succ n9 ihx23 =>
      intro fN_before_x23 fN_flow_x23 fN_length_x23 l6_x23 l5_x23 l4_x23 H locs ls b_fN_before_x23 b_l6_x23 hfx23 hP hD hS hl
      refine lv_iload hx hb dX2_leastCost_23 (lv_at hl 0 rfl) ?_
      refine lv_ldc (v := 1000000) hx hb hown (hts (.constant RX2 55 1000000) (by decide +kernel)) dX2_leastCost_25 ?_
      refine lv_icmp_ge (tgt := 90) hx hb dX2_leastCost_27 (by decide) (fun c_27 => ?_) (fun c_27 => ?_)
      · have t_27 : l6_x23.toInt ≥ 1000000 := toI_ge c_27 rfl (by decide : (1000000 : Int32).toInt = 1000000)
        refine lv_iload hx hb dX2_leastCost_90 (lv_at hl 1 rfl) ?_
        refine W.widen (k := 0) (n := 0) (by decide +kernel) (by decide +kernel) ?_
        exact W.iret (v := l5_x23) hx hb hr (fun t9_ ht hW => ⟨⟨l5_x23, (fN_before_x23, fN_flow_x23, fN_length_x23), rfl, b_fN_before_x23, by rw [ht]; exact hP, hD⟩, hS.F ht⟩) hS.2.2 dX2_leastCost_92
      · have t_27 : ¬ l6_x23.toInt ≥ 1000000 := toI_nge c_27 rfl (by decide : (1000000 : Int32).toInt = 1000000)
        refine lv_iload hx hb dX2_leastCost_30 (lv_at hl 2 rfl) ?_
        refine lv_if_le (tgt := 90) hx hb dX2_leastCost_32 (by decide) (fun c_32 => ?_) (fun c_32 => ?_)
        · have t_32 : l4_x23.toInt ≤ 0 := toI_le c_32 rfl (by decide : (0 : Int32).toInt = 0)
          refine lv_iload hx hb dX2_leastCost_90 (lv_at hl 1 rfl) ?_
          refine W.widen (k := 0) (n := 0) (by decide +kernel) (by decide +kernel) ?_
          exact W.iret (v := l5_x23) hx hb hr (fun t9_ ht hW => ⟨⟨l5_x23, (fN_before_x23, fN_flow_x23, fN_length_x23), rfl, b_fN_before_x23, by rw [ht]; exact hP, hD⟩, hS.F ht⟩) hS.2.2 dX2_leastCost_92
        · have t_32 : ¬ l4_x23.toInt ≤ 0 := toI_nle c_32 rfl (by decide : (0 : Int32).toInt = 0)
          refine lv_aload_n hx hb dX2_leastCost_35 rfl (lv_at hl 3 rfl) ?_
          refine lv_iload_n hx hb dX2_leastCost_36 rfl (lv_at hl 4 rfl) ?_
          have hFc := allFree hD hS hA
          refine va_callv (va_runV (As := [.int p1]) (rest := []) ⟨hx, hb, hml, hown, hts⟩ (m_X2_measure l dC dI hN aN kN iN_arcs fN_from fN_to fN_room fN_cost iN_reached fN_free fN_before_x23 fN_flow_x23 fN_length_x23 fN_stop iN_stops fN_price fN_rest p1 (by first | assumption | exact ⟨by omega, by omega⟩) b_fN_from b_fN_to b_fN_before_x23 b_fN_stop (by first | assumption | exact ⟨by omega, by omega⟩) (by first | assumption | exact ⟨by omega, by omega⟩) H.size) (cwV 1 hts gwsMX2_leastCost_1 rfl rfl rfl (by decide +kernel) ⟨by decide +kernel, by decide +kernel⟩) ⟨fun a U g mk q => by obtain ⟨q0, q1, qP, qK, qD⟩ := q; exact ⟨q0, q1, qP, va_K.moved (u := U) (U := U.calling g mk a) (Vm.Alike.refl U.vm) qK, qD⟩, va_recv hK hP (ci := 2) (q0 := 0) rfl rfl, fun U hU9 hW => ⟨rfl, by rw [hU9], by rw [hU9]; exact hP, va_K.moved hW.alike hK, hD.weaken (fun _ _ _ _ => trivial)⟩⟩ rfl rfl hl.1 rfl (lv_room (Nat.le_of_ble_eq_true rfl)) dX2_leastCost_37 ⟨by decide +kernel, by decide +kernel⟩) hS (fun q _ h => hFc q h) hFc (fun u t9_ H1 locs ht hvm hw9 hB9 hz1 hk1 hS => ?_)
          obtain ⟨fN_before_16, fN_length_16⟩ := u
          try dsimp only at hw9 hB9
          have b_fN_before_16 := hw9
          try dsimp only at b_fN_before_16
          obtain ⟨hP1, hD1⟩ := hB9
          rw [ht] at hP1
          have hP := hP1
          have hD := hD1.weaken (fun _ q _ h => hFc q.1 h)
          generalize H1 = H at hP hS ⊢
          have hP : va_P (dC, dI) vwCl (WN hN aN kN iN_arcs fN_from fN_to fN_room fN_cost iN_reached fN_free fN_before_16 fN_flow_x23 fN_length_16 fN_stop iN_stops fN_price fN_rest) H := hP
          have hD : va_D A (WN hN aN kN iN_arcs fN_from fN_to fN_room fN_cost iN_reached fN_free fN_before_16 fN_flow_x23 fN_length_16 fN_stop iN_stops fN_price fN_rest) := hD
          refine lv_aload_n hx hb dX2_leastCost_40 rfl (lv_at hl 3 rfl) ?_
          refine va_get (D := (dC, dI)) (ci := 2) (v := .ref (aN 7)) (C := RX2) (T := TX2) (N := 14) hx hb hts iwsMX2_leastCost_in2 hown hK hP 0 rfl rfl 9 (by decide) (hts (.fieldLink RX2 33 "OptimaWorks$NetDesk" "length" "[I") (by decide +kernel)) (fun _ h9 => h9) rfl dX2_leastCost_41 ?_
          refine lv_iload_n hx hb dX2_leastCost_44 rfl (lv_at hl 5 rfl) ?_
          refine va_iald (cA := kN 7) (n := 12) (f := fN_length_16) hx hb hK hP 8 7 rfl rfl (vp_in_iff.mpr ⟨by omega, by omega⟩) dX2_leastCost_45 ?_
          refine lv_topi (fun v17 hv17 => ?_)
          clear hv17
          refine lv_ldc (v := 536870912) hx hb hown (hts (.constant RX2 60 536870912) (by decide +kernel)) dX2_leastCost_46 ?_
          refine lv_icmp_lt (tgt := 53) hx hb dX2_leastCost_48 (by decide) (fun c_48 => ?_) (fun c_48 => ?_)
          · have t_48 : v17.toInt < 536870912 := toI_lt c_48 rfl (by decide : (536870912 : Int32).toInt = 536870912)
            refine lv_aload_n hx hb dX2_leastCost_53 rfl (lv_at hl 3 rfl) ?_
            refine lv_iload_n hx hb dX2_leastCost_54 rfl (lv_at hl 4 rfl) ?_
            refine lv_iload_n hx hb dX2_leastCost_55 rfl (lv_at hl 5 rfl) ?_
            refine lv_iload hx hb dX2_leastCost_56 (lv_at hl 2 rfl) ?_
            have hFc := allFree hD hS hA
            refine va_calli (va_runV (As := [.int p1, .int p2, .int l4_x23]) (rest := []) ⟨hx, hb, hml, hown, hts⟩ (m_X2_push l dC dI hN aN kN iN_arcs fN_from fN_to fN_room fN_cost iN_reached fN_free fN_before_16 fN_flow_x23 fN_length_16 fN_stop iN_stops fN_price fN_rest p1 p2 l4_x23 (by first | assumption | exact ⟨by omega, by omega⟩) b_fN_from b_fN_to b_fN_before_16 b_fN_stop (by first | assumption | exact ⟨by omega, by omega⟩) (by first | assumption | exact ⟨by omega, by omega⟩) (by first | assumption | exact ⟨by omega, by omega⟩) H.size) (cwV 3 hts gwsMX2_leastCost_2 rfl rfl rfl (by decide +kernel) ⟨by decide +kernel, by decide +kernel⟩) ⟨fun a U g mk q => by obtain ⟨q0, q1, qP, qK, qD⟩ := q; exact ⟨q0, q1, qP, va_K.moved (u := U) (U := U.calling g mk a) (Vm.Alike.refl U.vm) qK, qD⟩, va_recv hK hP (ci := 2) (q0 := 0) rfl rfl, fun U hU9 hW => ⟨rfl, by rw [hU9], by rw [hU9]; exact hP, va_K.moved hW.alike hK, hD.weaken (fun _ _ _ _ => trivial)⟩⟩ rfl rfl hl.1 rfl (lv_room (Nat.le_of_ble_eq_true rfl)) dX2_leastCost_58 ⟨by decide +kernel, by decide +kernel⟩) hS (fun q _ h => hFc q h) hFc (fun r18 u t9_ H1 locs ht hvm hw9 hB9 hz1 hk1 hS => ?_)
            obtain ⟨fN_flow_18, hwit18⟩ : ∃ w9, w9 = u := ⟨u, rfl⟩
            subst hwit18
            clear hw9
            obtain ⟨hP1, hD1⟩ := hB9
            rw [ht] at hP1
            have hP := hP1
            have hD := hD1.weaken (fun _ q _ h => hFc q.1 h)
            generalize H1 = H at hP hS ⊢
            have hP : va_P (dC, dI) vwCl (WN hN aN kN iN_arcs fN_from fN_to fN_room fN_cost iN_reached fN_free fN_before_16 fN_flow_18 fN_length_16 fN_stop iN_stops fN_price fN_rest) H := hP
            have hD : va_D A (WN hN aN kN iN_arcs fN_from fN_to fN_room fN_cost iN_reached fN_free fN_before_16 fN_flow_18 fN_length_16 fN_stop iN_stops fN_price fN_rest) := hD
            refine lv_istore (lv' := [(7, .int r18), (6, .int l6_x23), (5, .int l5_x23), (4, .int l4_x23), (0, .ref (hN 0)), (1, .int p1), (2, .int p2), (3, .int p3)]) hx hb dX2_leastCost_61 hl (by decide) rfl (fun ls hl => ?_)
            refine lv_iload hx hb dX2_leastCost_63 (lv_at hl 3 rfl) ?_
            refine lv_iload hx hb dX2_leastCost_65 (lv_at hl 0 rfl) ?_
            refine lv_isub hx hb dX2_leastCost_67 ?_
            refine lv_topi (fun y19 hy19 => ?_)
            obtain rfl : (iI (l4_x23.toInt - r18.toInt)) = y19 := (hy19.trans (iI_sub2 (iI_of _) (iI_of _))).symm
            refine lv_istore (lv' := [(4, .int (iI (l4_x23.toInt - r18.toInt))), (7, .int r18), (6, .int l6_x23), (5, .int l5_x23), (0, .ref (hN 0)), (1, .int p1), (2, .int p2), (3, .int p3)]) hx hb dX2_leastCost_68 hl (by decide) rfl (fun ls hl => ?_)
            refine lv_iload hx hb dX2_leastCost_70 (lv_at hl 3 rfl) ?_
            refine lv_iload hx hb dX2_leastCost_72 (lv_at hl 1 rfl) ?_
            refine lv_aload_n hx hb dX2_leastCost_74 rfl (lv_at hl 4 rfl) ?_
            refine va_get (D := (dC, dI)) (ci := 2) (v := .ref (aN 7)) (C := RX2) (T := TX2) (N := 14) hx hb hts iwsMX2_leastCost_in2 hown hK hP 0 rfl rfl 9 (by decide) (hts (.fieldLink RX2 33 "OptimaWorks$NetDesk" "length" "[I") (by decide +kernel)) (fun _ h9 => h9) rfl dX2_leastCost_75 ?_
            refine lv_iload_n hx hb dX2_leastCost_78 rfl (lv_at hl 6 rfl) ?_
            refine va_iald (cA := kN 7) (n := 12) (f := fN_length_16) hx hb hK hP 8 7 rfl rfl (vp_in_iff.mpr ⟨by omega, by omega⟩) dX2_leastCost_79 ?_
            refine lv_topi (fun v20 hv20 => ?_)
            clear hv20
            refine lv_imul hx hb dX2_leastCost_80 ?_
            refine lv_topi (fun y21 hy21 => ?_)
            obtain rfl : (iI (r18.toInt * v20.toInt)) = y21 := (hy21.trans (iI_mul2 (iI_of _) (iI_of _))).symm
            refine lv_iadd hx hb dX2_leastCost_81 ?_
            refine lv_topi (fun y22 hy22 => ?_)
            obtain rfl : (iI (l5_x23.toInt + (r18.toInt * v20.toInt))) = y22 := (hy22.trans (iI_add2 (iI_of _) rfl)).symm
            refine lv_istore (lv' := [(5, .int (iI (l5_x23.toInt + (r18.toInt * v20.toInt)))), (4, .int (iI (l4_x23.toInt - r18.toInt))), (7, .int r18), (6, .int l6_x23), (0, .ref (hN 0)), (1, .int p1), (2, .int p2), (3, .int p3)]) hx hb dX2_leastCost_82 hl (by decide) rfl (fun ls hl => ?_)
            refine lv_iinc (v := (iI (l6_x23.toInt + 1))) (lv' := [(6, .int (iI (l6_x23.toInt + 1))), (5, .int (iI (l5_x23.toInt + (r18.toInt * v20.toInt)))), (4, .int (iI (l4_x23.toInt - r18.toInt))), (7, .int r18), (0, .ref (hN 0)), (1, .int p1), (2, .int p2), (3, .int p3)]) hx hb dX2_leastCost_84 hl (k := 3) rfl (iI_add2 (iI_of _) (by decide : (1 : Int32) = iI 1)) (by decide) rfl (fun ls hl => ?_)
            refine lv_goto (tgt := 23) hx hb dX2_leastCost_87 (by decide) ?_
            have hl := lv_sub hl [0, 1, 2, 4, 5, 6, 7] (l' := [(6, .int (iI (l6_x23.toInt + 1))), (5, .int (iI (l5_x23.toInt + (r18.toInt * v20.toInt)))), (4, .int (iI (l4_x23.toInt - r18.toInt))), (0, .ref (hN 0)), (1, .int p1), (2, .int p2), (3, .int p3)]) rfl
            exact ihx23 fN_before_16 fN_flow_18 fN_length_16 (iI (l6_x23.toInt + 1)) (iI (l5_x23.toInt + (r18.toInt * v20.toInt))) (iI (l4_x23.toInt - r18.toInt)) _ _ _ b_fN_before_16 (iI_rng (by omega) (by omega) (by decide) (by decide)) (by have e9 : ((iI (l6_x23.toInt + 1))).toInt = (l6_x23.toInt + 1) := (iI_t (by omega) (by omega)); omega) hP hD hS hl
          · have t_48 : ¬ v17.toInt < 536870912 := toI_nlt c_48 rfl (by decide : (536870912 : Int32).toInt = 536870912)
            refine lv_iconst (v := (-1)) hx hb dX2_leastCost_51 (by decide) ?_
            refine W.widen (k := 0) (n := 0) (by decide +kernel) (by decide +kernel) ?_
            exact W.iret (v := (-1)) hx hb hr (fun t9_ ht hW => ⟨⟨((-1) : Int32), (fN_before_16, fN_flow_x23, fN_length_16), rfl, b_fN_before_16, by rw [ht]; exact hP, hD⟩, hS.F ht⟩) hS.2.2 dX2_leastCost_52
  · have t_1 : ¬ p3.toInt ≥ 0 := toI_nge c_1 rfl (by decide : (0 : Int32).toInt = 0)
    refine lv_iconst (v := (-1)) hx hb dX2_leastCost_4 (by decide) ?_
    refine W.widen (k := 0) (n := 0) (by decide +kernel) (by decide +kernel) ?_
    exact W.iret (v := (-1)) hx hb hr (fun t9_ ht hW => ⟨⟨((-1) : Int32), (fN_before, fN_flow, fN_length), rfl, b_fN_before, by rw [ht]; exact hP, hD⟩, hS.F ht⟩) hS.2.2 dX2_leastCost_5
theorem dX2_measureBack_0 : decode cX2_measureBack 0 = .ok (.aload_n 0, 1) := by decide +kernel
theorem dX2_measureBack_1 : decode cX2_measureBack 1 = .ok (.getfield 33, 3) := by decide +kernel
theorem dX2_measureBack_4 : decode cX2_measureBack 4 = .ok (.ldc 60, 2) := by decide +kernel
theorem dX2_measureBack_6 : decode cX2_measureBack 6 = .ok (.invokestatic 49, 3) := by decide +kernel
theorem dX2_measureBack_9 : decode cX2_measureBack 9 = .ok (.aload_n 0, 1) := by decide +kernel
theorem dX2_measureBack_10 : decode cX2_measureBack 10 = .ok (.getfield 33, 3) := by decide +kernel
theorem dX2_measureBack_13 : decode cX2_measureBack 13 = .ok (.iload_n 1, 1) := by decide +kernel
theorem dX2_measureBack_14 : decode cX2_measureBack 14 = .ok (.iconst 0, 1) := by decide +kernel
theorem dX2_measureBack_15 : decode cX2_measureBack 15 = .ok (.iastore, 1) := by decide +kernel
theorem dX2_measureBack_16 : decode cX2_measureBack 16 = .ok (.iconst 1, 1) := by decide +kernel
theorem dX2_measureBack_17 : decode cX2_measureBack 17 = .ok (.istore_n 2, 1) := by decide +kernel
theorem dX2_measureBack_18 : decode cX2_measureBack 18 = .ok (.iconst 0, 1) := by decide +kernel
theorem dX2_measureBack_19 : decode cX2_measureBack 19 = .ok (.istore_n 3, 1) := by decide +kernel
theorem dX2_measureBack_20 : decode cX2_measureBack 20 = .ok (.iload_n 3, 1) := by decide +kernel
theorem dX2_measureBack_21 : decode cX2_measureBack 21 = .ok (.bipush 12, 2) := by decide +kernel
theorem dX2_measureBack_23 : decode cX2_measureBack 23 = .ok (.if_icmp .ge 110, 3) := by decide +kernel
theorem dX2_measureBack_26 : decode cX2_measureBack 26 = .ok (.iload_n 2, 1) := by decide +kernel
theorem dX2_measureBack_27 : decode cX2_measureBack 27 = .ok (.ifCond .eq 106, 3) := by decide +kernel
theorem dX2_measureBack_30 : decode cX2_measureBack 30 = .ok (.iconst 0, 1) := by decide +kernel
theorem dX2_measureBack_31 : decode cX2_measureBack 31 = .ok (.istore_n 2, 1) := by decide +kernel
theorem dX2_measureBack_32 : decode cX2_measureBack 32 = .ok (.iconst 0, 1) := by decide +kernel
theorem dX2_measureBack_33 : decode cX2_measureBack 33 = .ok (.istore 4, 2) := by decide +kernel
theorem dX2_measureBack_35 : decode cX2_measureBack 35 = .ok (.iload 4, 2) := by decide +kernel
theorem dX2_measureBack_37 : decode cX2_measureBack 37 = .ok (.aload_n 0, 1) := by decide +kernel
theorem dX2_measureBack_38 : decode cX2_measureBack 38 = .ok (.getfield 45, 3) := by decide +kernel
theorem dX2_measureBack_41 : decode cX2_measureBack 41 = .ok (.if_icmp .ge 86, 3) := by decide +kernel
theorem dX2_measureBack_44 : decode cX2_measureBack 44 = .ok (.aload_n 0, 1) := by decide +kernel
theorem dX2_measureBack_45 : decode cX2_measureBack 45 = .ok (.getfield 33, 3) := by decide +kernel
theorem dX2_measureBack_48 : decode cX2_measureBack 48 = .ok (.aload_n 0, 1) := by decide +kernel
theorem dX2_measureBack_49 : decode cX2_measureBack 49 = .ok (.getfield 15, 3) := by decide +kernel
theorem dX2_measureBack_52 : decode cX2_measureBack 52 = .ok (.iload 4, 2) := by decide +kernel
theorem dX2_measureBack_54 : decode cX2_measureBack 54 = .ok (.iaload, 1) := by decide +kernel
theorem dX2_measureBack_55 : decode cX2_measureBack 55 = .ok (.iaload, 1) := by decide +kernel
theorem dX2_measureBack_56 : decode cX2_measureBack 56 = .ok (.aload_n 0, 1) := by decide +kernel
theorem dX2_measureBack_57 : decode cX2_measureBack 57 = .ok (.getfield 21, 3) := by decide +kernel
theorem dX2_measureBack_60 : decode cX2_measureBack 60 = .ok (.iload 4, 2) := by decide +kernel
theorem dX2_measureBack_62 : decode cX2_measureBack 62 = .ok (.iaload, 1) := by decide +kernel
theorem dX2_measureBack_63 : decode cX2_measureBack 63 = .ok (.bipush 16, 2) := by decide +kernel
theorem dX2_measureBack_65 : decode cX2_measureBack 65 = .ok (.imul, 1) := by decide +kernel
theorem dX2_measureBack_66 : decode cX2_measureBack 66 = .ok (.iadd, 1) := by decide +kernel
theorem dX2_measureBack_67 : decode cX2_measureBack 67 = .ok (.iconst 1, 1) := by decide +kernel
theorem dX2_measureBack_68 : decode cX2_measureBack 68 = .ok (.iadd, 1) := by decide +kernel
theorem dX2_measureBack_69 : decode cX2_measureBack 69 = .ok (.istore 5, 2) := by decide +kernel
theorem dX2_measureBack_71 : decode cX2_measureBack 71 = .ok (.aload_n 0, 1) := by decide +kernel
theorem dX2_measureBack_72 : decode cX2_measureBack 72 = .ok (.getfield 33, 3) := by decide +kernel
theorem dX2_measureBack_75 : decode cX2_measureBack 75 = .ok (.aload_n 0, 1) := by decide +kernel
theorem dX2_measureBack_76 : decode cX2_measureBack 76 = .ok (.getfield 15, 3) := by decide +kernel
theorem dX2_measureBack_79 : decode cX2_measureBack 79 = .ok (.iload 4, 2) := by decide +kernel
theorem dX2_measureBack_81 : decode cX2_measureBack 81 = .ok (.iaload, 1) := by decide +kernel
theorem dX2_measureBack_82 : decode cX2_measureBack 82 = .ok (.iaload, 1) := by decide +kernel
theorem dX2_measureBack_83 : decode cX2_measureBack 83 = .ok (.ldc 60, 2) := by decide +kernel
theorem dX2_measureBack_85 : decode cX2_measureBack 85 = .ok (.if_icmp .ge 36, 3) := by decide +kernel
theorem dX2_measureBack_88 : decode cX2_measureBack 88 = .ok (.iload 5, 2) := by decide +kernel
theorem dX2_measureBack_90 : decode cX2_measureBack 90 = .ok (.aload_n 0, 1) := by decide +kernel
theorem dX2_measureBack_91 : decode cX2_measureBack 91 = .ok (.getfield 33, 3) := by decide +kernel
theorem dX2_measureBack_94 : decode cX2_measureBack 94 = .ok (.aload_n 0, 1) := by decide +kernel
theorem dX2_measureBack_95 : decode cX2_measureBack 95 = .ok (.getfield 11, 3) := by decide +kernel
theorem dX2_measureBack_98 : decode cX2_measureBack 98 = .ok (.iload 4, 2) := by decide +kernel
theorem dX2_measureBack_100 : decode cX2_measureBack 100 = .ok (.iaload, 1) := by decide +kernel
theorem dX2_measureBack_101 : decode cX2_measureBack 101 = .ok (.iaload, 1) := by decide +kernel
theorem dX2_measureBack_102 : decode cX2_measureBack 102 = .ok (.if_icmp .ge 19, 3) := by decide +kernel
theorem dX2_measureBack_105 : decode cX2_measureBack 105 = .ok (.aload_n 0, 1) := by decide +kernel
theorem dX2_measureBack_106 : decode cX2_measureBack 106 = .ok (.getfield 33, 3) := by decide +kernel
theorem dX2_measureBack_109 : decode cX2_measureBack 109 = .ok (.aload_n 0, 1) := by decide +kernel
theorem dX2_measureBack_110 : decode cX2_measureBack 110 = .ok (.getfield 11, 3) := by decide +kernel
theorem dX2_measureBack_113 : decode cX2_measureBack 113 = .ok (.iload 4, 2) := by decide +kernel
theorem dX2_measureBack_115 : decode cX2_measureBack 115 = .ok (.iaload, 1) := by decide +kernel
theorem dX2_measureBack_116 : decode cX2_measureBack 116 = .ok (.iload 5, 2) := by decide +kernel
theorem dX2_measureBack_118 : decode cX2_measureBack 118 = .ok (.iastore, 1) := by decide +kernel
theorem dX2_measureBack_119 : decode cX2_measureBack 119 = .ok (.iconst 1, 1) := by decide +kernel
theorem dX2_measureBack_120 : decode cX2_measureBack 120 = .ok (.istore_n 2, 1) := by decide +kernel
theorem dX2_measureBack_121 : decode cX2_measureBack 121 = .ok (.iinc 4 1, 3) := by decide +kernel
theorem dX2_measureBack_124 : decode cX2_measureBack 124 = .ok (.goto (-89), 3) := by decide +kernel
theorem dX2_measureBack_127 : decode cX2_measureBack 127 = .ok (.iinc 3 1, 3) := by decide +kernel
theorem dX2_measureBack_130 : decode cX2_measureBack 130 = .ok (.goto (-110), 3) := by decide +kernel
theorem dX2_measureBack_133 : decode cX2_measureBack 133 = .ok (.return_, 1) := by decide +kernel
def wsMX2_measureBack : List Cond := .code yX2_measureBack cX2_measureBack 6 none :: ([.fieldLink RX2 33 "OptimaWorks$NetDesk" "length" "[I", .constant RX2 60 536870912, .fieldLink RX2 45 "OptimaWorks$NetDesk" "arcs" "I", .fieldLink RX2 15 "OptimaWorks$NetDesk" "to" "[I", .fieldLink RX2 21 "OptimaWorks$NetDesk" "cost" "[I", .fieldLink RX2 11 "OptimaWorks$NetDesk" "from" "[I"] ++ wsX20 ++ (va_wsS RX2 49 yJ7_fill_53178 wsMJ7_fill_53178))
theorem iwsMX2_measureBack_in2 : ∀ w ∈ wsX20, w ∈ wsMX2_measureBack := fun _ h => List.mem_cons_of_mem _ (List.mem_append_left _ (List.mem_append_right _ h))
theorem gwsMX2_measureBack_0 : GoodIn wsMX2_measureBack (va_wsS RX2 49 yJ7_fill_53178 wsMJ7_fill_53178) := goodIn_sub (fun _ h => List.mem_cons_of_mem _ (List.mem_append_right _ h)) (gdS (by decide +kernel) gdwsMJ7_fill_53178)
theorem gdwsMX2_measureBack : wsMX2_measureBack.all goodWord = true := gdC rfl (gdA (gdA (by decide +kernel : ([.fieldLink RX2 33 "OptimaWorks$NetDesk" "length" "[I", .constant RX2 60 536870912, .fieldLink RX2 45 "OptimaWorks$NetDesk" "arcs" "I", .fieldLink RX2 15 "OptimaWorks$NetDesk" "to" "[I", .fieldLink RX2 21 "OptimaWorks$NetDesk" "cost" "[I", .fieldLink RX2 11 "OptimaWorks$NetDesk" "from" "[I"] : List Cond).all goodWord = true) gdwsX20) (gdS (by decide +kernel) gdwsMJ7_fill_53178))
set_option maxHeartbeats 4000000 in
set_option maxRecDepth 100000 in
/-- lengths to a node -/
theorem m_X2_measureBack (l : Launch) (dC : Nat → ClassId) (dI : Nat → Nat → Nat) (hN : Nat → Nat) (aN : Nat → Nat) (kN : Nat → ClassId) (iN_arcs : Int32) (fN_from : Nat → Int32) (fN_to : Nat → Int32) (fN_room : Nat → Int32) (fN_cost : Nat → Int32) (iN_reached : Int32) (fN_free : Nat → Int32) (fN_before : Nat → Int32) (fN_flow : Nat → Int32) (fN_length : Nat → Int32) (fN_stop : Nat → Int32) (iN_stops : Int32) (fN_price : Nat → Int32) (fN_rest : Nat → Int32) (p1 : Int32) (b_iN_arcs : 0 ≤ iN_arcs.toInt ∧ iN_arcs.toInt ≤ 40) (b_fN_from : ∀ q : Nat, 0 ≤ (fN_from q).toInt ∧ (fN_from q).toInt ≤ 11) (b_fN_to : ∀ q : Nat, 0 ≤ (fN_to q).toInt ∧ (fN_to q).toInt ≤ 11) (b_fN_before : ∀ q : Nat, 0 ≤ (fN_before q).toInt ∧ (fN_before q).toInt ≤ 79) (b_fN_stop : ∀ q : Nat, 0 ≤ (fN_stop q).toInt ∧ (fN_stop q).toInt ≤ 11) (b_iN_stops : 0 ≤ iN_stops.toInt ∧ iN_stops.toInt ≤ 8) (b_p1 : 0 ≤ p1.toInt ∧ p1.toInt ≤ 11) (sz : Nat) : Met l yX2_measureBack wsMX2_measureBack ({ frames := 1, cells := 0, slots := 0, locals := 23 }) (va_Pc [.ref (hN 0), .int p1] (fun U => U.heap.size = sz ∧ va_P (dC, dI) vwCl (WN hN aN kN iN_arcs fN_from fN_to fN_room fN_cost iN_reached fN_free fN_before fN_flow fN_length fN_stop iN_stops fN_price fN_rest) U.heap ∧ va_K (dC, dI) vwCl (tN kN) U ∧ va_D (fun _ => True) (WN hN aN kN iN_arcs fN_from fN_to fN_room fN_cost iN_reached fN_free fN_before fN_flow fN_length fN_stop iN_stops fN_price fN_rest))) (va_Qv (fun (u : Nat → Int32) => True) (fun (u : Nat → Int32) t => va_P (dC, dI) vwCl (WN hN aN kN iN_arcs fN_from fN_to fN_room fN_cost iN_reached fN_free fN_before fN_flow u fN_stop iN_stops fN_price fN_rest) t.heap ∧ va_D (va_A (WN hN aN kN iN_arcs fN_from fN_to fN_room fN_cost iN_reached fN_free fN_before fN_flow fN_length fN_stop iN_stops fN_price fN_rest) sz) (WN hN aN kN iN_arcs fN_from fN_to fN_room fN_cost iN_reached fN_free fN_before fN_flow u fN_stop iN_stops fN_price fN_rest)) (va_A (WN hN aN kN iN_arcs fN_from fN_to fN_room fN_cost iN_reached fN_free fN_before fN_flow fN_length fN_stop iN_stops fN_price fN_rest) sz)) 0 0 (va_A (WN hN aN kN iN_arcs fN_from fN_to fN_room fN_cost iN_reached fN_free fN_before fN_flow fN_length fN_stop iN_stops fN_price fN_rest) sz) := by
  refine Met.ofW (cc := cX2_measureBack) (maxL := 6) (ret := none) (by decide) rfl ?_
  intro p e s m args below meth c s₁ B hml hv
  obtain ⟨rfl, hsz, hP, hK, hD0⟩ := hv
  have hx := B.exec
  have hb := B.bytes
  have hr := B.returns
  have hts := atoms_spec (ws := wsMX2_measureBack) B.pre
  have hown : s.vm.findClass RX2 = some m.cls := findClass_of_methodNamed B.named
  have hlocks := B.notSynchronized
  subst hsz
  have hD := hD0.self (sz := s.heap.size)
  generalize hAe : va_A (WN hN aN kN iN_arcs fN_from fN_to fN_room fN_cost iN_reached fN_free fN_before fN_flow fN_length fN_stop iN_stops fN_price fN_rest) s.heap.size = A at hD ⊢
  have hA : ∀ q : Nat, s.heap.size ≤ q → A q := fun q h => by rw [← hAe]; exact Or.inr h
  have hS : va_S A s.heap s.heap [] := va_S.rf
  have hl := lv_entry ([.ref (hN 0), .int p1]) (n := 6) (Nat.le_of_ble_eq_true rfl)
  rw [lg_entry_eq]
  generalize (lg_sl ([.ref (hN 0), .int p1]) ++ List.replicate (6 - (lg_sl ([.ref (hN 0), .int p1])).length) Slot.unset).toArray = ls at hl ⊢
  have hl : lv_has ls 6 [(0, .ref (hN 0)), (1, .int p1)] := hl
  refine lv_aload_n hx hb dX2_measureBack_0 rfl (lv_at hl 0 rfl) ?_
  refine va_get (D := (dC, dI)) (ci := 2) (v := .ref (aN 7)) (C := RX2) (T := TX2) (N := 14) hx hb hts iwsMX2_measureBack_in2 hown hK hP 0 rfl rfl 9 (by decide) (hts (.fieldLink RX2 33 "OptimaWorks$NetDesk" "length" "[I") (by decide +kernel)) (fun _ h9 => h9) rfl dX2_measureBack_1 ?_
  refine lv_ldc (v := 536870912) hx hb hown (hts (.constant RX2 60 536870912) (by decide +kernel)) dX2_measureBack_4 ?_
  have hPc := hP.sub (ws' := WY (fun _ => 0) (fun _ => aN 7) (fun _ => kN 7) 12 fN_length) [8] rfl
  have hDc := hD.sub (ws' := WY (fun _ => 0) (fun _ => aN 7) (fun _ => kN 7) 12 fN_length) [8] (by decide) rfl
  have hKc := hK.sub (tys' := tY (fun _ => kN 7)) [7] rfl
  have hFc := va_free (wc := WY (fun _ => 0) (fun _ => aN 7) (fun _ => kN 7) 12 fN_length) hD hS hA [8] rfl
  refine va_callv (va_runS (As := [.ref (aN 7), .int 536870912]) (rest := []) ⟨hx, hb, hml, hown, hts⟩ (m_J7_fill_53178 l dC dI (fun _ => 0) (fun _ => aN 7) (fun _ => kN 7) 12 fN_length 536870912 (by first | assumption | exact ⟨by omega, by omega⟩) s.heap.size) (va_cwS 2 hts gwsMX2_measureBack_0 rfl rfl rfl (by decide +kernel) ⟨by decide +kernel, by decide +kernel⟩) ⟨fun a U g mk q => by obtain ⟨q0, q1, qP, qK, qD⟩ := q; exact ⟨q0, q1, qP, va_K.moved (u := U) (U := U.calling g mk a) (Vm.Alike.refl U.vm) qK, qD⟩, fun U hU9 hW => ⟨rfl, by rw [hU9], by rw [hU9]; exact hPc, va_K.moved hW.alike hKc, hDc.weaken (fun _ _ _ _ => trivial)⟩⟩ rfl rfl hl.1 rfl (lv_room (Nat.le_of_ble_eq_true rfl)) dX2_measureBack_6 ⟨by decide +kernel, by decide +kernel⟩) hS (fun q _ h => hFc q h) hFc (fun u t9_ H1 locs ht hvm hw9 hB9 hz1 hk1 hS => ?_)
  obtain ⟨fY_1, hwit1⟩ : ∃ w9, w9 = u := ⟨u, rfl⟩
  subst hwit1
  clear hw9
  obtain ⟨hP1, hD1⟩ := hB9
  rw [ht] at hP1
  obtain ⟨hP, hD⟩ := va_join (wr := [(hN 0, .inr (2, [.int iN_arcs, .ref (aN 0), .ref (aN 1), .ref (aN 2), .ref (aN 3), .int iN_reached, .ref (aN 4), .ref (aN 5), .ref (aN 6), .ref (aN 7), .ref (aN 8), .int iN_stops, .ref (aN 9), .ref (aN 10)])), (aN 0, .inl (kN 0, 40, .inl fN_from)), (aN 1, .inl (kN 1, 40, .inl fN_to)), (aN 2, .inl (kN 2, 40, .inl fN_room)), (aN 3, .inl (kN 3, 40, .inl fN_cost)), (aN 4, .inl (kN 4, 144, .inl fN_free)), (aN 5, .inl (kN 5, 12, .inl fN_before)), (aN 6, .inl (kN 6, 40, .inl fN_flow)), (aN 8, .inl (kN 8, 8, .inl fN_stop)), (aN 9, .inl (kN 9, 64, .inl fN_price)), (aN 10, .inl (kN 10, 1024, .inl fN_rest))]) (w1 := WY (fun _ => 0) (fun _ => aN 7) (fun _ => kN 7) 12 fY_1) hP hD [8] [0, 1, 2, 3, 4, 5, 6, 7, 9, 10, 11] rfl rfl (by decide) (by decide) hk1 hFc hP1 hD1
  have hP := hP.sub (ws' := WN hN aN kN iN_arcs fN_from fN_to fN_room fN_cost iN_reached fN_free fN_before fN_flow fY_1 fN_stop iN_stops fN_price fN_rest) [0, 1, 2, 3, 4, 5, 6, 7, 11, 8, 9, 10] rfl
  have hD := hD.sub (ws' := WN hN aN kN iN_arcs fN_from fN_to fN_room fN_cost iN_reached fN_free fN_before fN_flow fY_1 fN_stop iN_stops fN_price fN_rest) [0, 1, 2, 3, 4, 5, 6, 7, 11, 8, 9, 10] (by decide) rfl
  generalize H1 = H at hP hS ⊢
  have hP : va_P (dC, dI) vwCl (WN hN aN kN iN_arcs fN_from fN_to fN_room fN_cost iN_reached fN_free fN_before fN_flow fY_1 fN_stop iN_stops fN_price fN_rest) H := hP
  have hD : va_D A (WN hN aN kN iN_arcs fN_from fN_to fN_room fN_cost iN_reached fN_free fN_before fN_flow fY_1 fN_stop iN_stops fN_price fN_rest) := hD
  refine lv_aload_n hx hb dX2_measureBack_9 rfl (lv_at hl 0 rfl) ?_
  refine va_get (D := (dC, dI)) (ci := 2) (v := .ref (aN 7)) (C := RX2) (T := TX2) (N := 14) hx hb hts iwsMX2_measureBack_in2 hown hK hP 0 rfl rfl 9 (by decide) (hts (.fieldLink RX2 33 "OptimaWorks$NetDesk" "length" "[I") (by decide +kernel)) (fun _ h9 => h9) rfl dX2_measureBack_10 ?_
  refine lv_iload_n hx hb dX2_measureBack_13 rfl (lv_at hl 1 rfl) ?_
  refine lv_iconst (v := 0) hx hb dX2_measureBack_14 (by decide) ?_
  refine va_iast (cA := kN 7) (n := 12) (f := fY_1) hx hb hK hP hD hS 8 7 rfl rfl (vp_in_iff.mpr ⟨by omega, by omega⟩) dX2_measureBack_15 (fun H locs hP hD hS => ?_)
  obtain ⟨u2, hu2⟩ : ∃ f9, f9 = upd fY_1 (p1).toNatClampNeg (0 : Int32) := ⟨_, rfl⟩
  have hP : va_P (dC, dI) vwCl (WN hN aN kN iN_arcs fN_from fN_to fN_room fN_cost iN_reached fN_free fN_before fN_flow u2 fN_stop iN_stops fN_price fN_rest) H := by rw [hu2]; exact hP
  have hD : va_D A (WN hN aN kN iN_arcs fN_from fN_to fN_room fN_cost iN_reached fN_free fN_before fN_flow u2 fN_stop iN_stops fN_price fN_rest) := by rw [hu2]; exact hD
  clear hu2
  refine lv_iconst (v := 1) hx hb dX2_measureBack_16 (by decide) ?_
  refine lv_istore_n (lv' := [(2, .int 1), (0, .ref (hN 0)), (1, .int p1)]) hx hb dX2_measureBack_17 rfl hl (by decide) rfl (fun ls hl => ?_)
  refine lv_iconst (v := 0) hx hb dX2_measureBack_18 (by decide) ?_
  refine lv_istore_n (lv' := [(3, .int 0), (2, .int 1), (0, .ref (hN 0)), (1, .int p1)]) hx hb dX2_measureBack_19 rfl hl (by decide) rfl (fun ls hl => ?_)
  have hl := lv_sub hl [0, 1, 2, 3] (l' := [(3, .int 0), (2, .int 1), (0, .ref (hN 0)), (1, .int p1)]) rfl
  refine (fun (loop : ∀ (n9 : Nat) (fN_length_x20 : Nat → Int32) (l3_x20 : Int32) (l2_x20 : Int32) (H : Heap) (locs : List Loc) (ls : Array Slot), (0 ≤ l3_x20.toInt ∧ l3_x20.toInt ≤ 12) → (12 - l3_x20.toInt < ((n9 : Nat) : Int)) → va_P (dC, dI) vwCl (WN hN aN kN iN_arcs fN_from fN_to fN_room fN_cost iN_reached fN_free fN_before fN_flow fN_length_x20 fN_stop iN_stops fN_price fN_rest) H → va_D A (WN hN aN kN iN_arcs fN_from fN_to fN_room fN_cost iN_reached fN_free fN_before fN_flow fN_length_x20 fN_stop iN_stops fN_price fN_rest) → va_S A s.heap H locs → lv_has ls 6 [(3, .int l3_x20), (2, .int l2_x20), (0, .ref (hN 0)), (1, .int p1)] → W p l e _ s m _ below meth c H locs 0 0 _ (F0 m 20 ls [])) => loop (13) u2 0 1 _ _ _ (show 0 ≤ (0 : Int32).toInt ∧ (0 : Int32).toInt ≤ 12 from by decide) ((by have e9 : (0 : Int32).toInt = 0 := (by decide : (0 : Int32).toInt = 0); omega)) hP hD hS hl) ?_
  intro n9
  induction n9 with
  | zero => intro fN_length_x20 l3_x20 l2_x20 H locs ls b_l3_x20 hf9; exact False.elim (by omega)
  | succ n9 ihx20 =>
    intro fN_length_x20 l3_x20 l2_x20 H locs ls b_l3_x20 hfx20 hP hD hS hl
    refine lv_iload_n hx hb dX2_measureBack_20 rfl (lv_at hl 0 rfl) ?_
    refine lv_bipush (v := 12) hx hb dX2_measureBack_21 (by decide) ?_
    refine W.cut (pc := 133) (fun H locs ls stk =>  stk = [] ∧ va_P (dC, dI) vwCl (WN hN aN kN iN_arcs fN_from fN_to fN_room fN_cost iN_reached fN_free fN_before fN_flow fN_length_x20 fN_stop iN_stops fN_price fN_rest) H ∧ va_D A (WN hN aN kN iN_arcs fN_from fN_to fN_room fN_cost iN_reached fN_free fN_before fN_flow fN_length_x20 fN_stop iN_stops fN_price fN_rest) ∧ va_S A s.heap H locs ∧ lv_has ls 6 [(3, .int l3_x20), (2, .int l2_x20), (0, .ref (hN 0)), (1, .int p1)]) (fun join58 => ?_) ?_
    · refine lv_icmp_ge (tgt := 133) hx hb dX2_measureBack_23 (by decide) (fun c_23 => ?_) (fun c_23 => ?_)
      · have t_23 : l3_x20.toInt ≥ 12 := toI_ge c_23 rfl (by decide : (12 : Int32).toInt = 12)
        have hl := lv_sub hl [0, 1, 2, 3] (l' := [(3, .int l3_x20), (2, .int l2_x20), (0, .ref (hN 0)), (1, .int p1)]) rfl
        exact join58 _ _ _ _ ⟨rfl, hP, hD, hS, hl⟩
      · have t_23 : ¬ l3_x20.toInt ≥ 12 := toI_nge c_23 rfl (by decide : (12 : Int32).toInt = 12)
        refine lv_iload_n hx hb dX2_measureBack_26 rfl (lv_at hl 1 rfl) ?_
        refine lv_if_eq (tgt := 133) hx hb dX2_measureBack_27 (by decide) (fun c_27 => ?_) (fun c_27 => ?_)
        · have t_27 : l2_x20.toInt = 0 := toI_eq c_27 rfl (by decide : (0 : Int32).toInt = 0)
          have hl := lv_sub hl [0, 1, 2, 3] (l' := [(3, .int l3_x20), (2, .int l2_x20), (0, .ref (hN 0)), (1, .int p1)]) rfl
          exact join58 _ _ _ _ ⟨rfl, hP, hD, hS, hl⟩
        · have t_27 : ¬ l2_x20.toInt = 0 := toI_neq c_27 rfl (by decide : (0 : Int32).toInt = 0)
          refine lv_iconst (v := 0) hx hb dX2_measureBack_30 (by decide) ?_
          refine lv_istore_n (lv' := [(2, .int 0), (3, .int l3_x20), (0, .ref (hN 0)), (1, .int p1)]) hx hb dX2_measureBack_31 rfl hl (by decide) rfl (fun ls hl => ?_)
          refine lv_iconst (v := 0) hx hb dX2_measureBack_32 (by decide) ?_
          refine lv_istore (lv' := [(4, .int 0), (2, .int 0), (3, .int l3_x20), (0, .ref (hN 0)), (1, .int p1)]) hx hb dX2_measureBack_33 hl (by decide) rfl (fun ls hl => ?_)
          have hl := lv_sub hl [0, 1, 2, 3, 4] (l' := [(4, .int 0), (2, .int 0), (3, .int l3_x20), (0, .ref (hN 0)), (1, .int p1)]) rfl
          refine (fun (loop : ∀ (n9 : Nat) (fN_length_x35 : Nat → Int32) (l4_x35 : Int32) (l2_x35 : Int32) (H : Heap) (locs : List Loc) (ls : Array Slot), (0 ≤ l4_x35.toInt ∧ l4_x35.toInt ≤ 40) → (40 - l4_x35.toInt < ((n9 : Nat) : Int)) → va_P (dC, dI) vwCl (WN hN aN kN iN_arcs fN_from fN_to fN_room fN_cost iN_reached fN_free fN_before fN_flow fN_length_x35 fN_stop iN_stops fN_price fN_rest) H → va_D A (WN hN aN kN iN_arcs fN_from fN_to fN_room fN_cost iN_reached fN_free fN_before fN_flow fN_length_x35 fN_stop iN_stops fN_price fN_rest) → va_S A s.heap H locs → lv_has ls 6 [(4, .int l4_x35), (2, .int l2_x35), (3, .int l3_x20), (0, .ref (hN 0)), (1, .int p1)] → W p l e _ s m _ below meth c H locs 0 0 _ (F0 m 35 ls [])) => loop (41) fN_length_x20 0 0 _ _ _ (show 0 ≤ (0 : Int32).toInt ∧ (0 : Int32).toInt ≤ 40 from by decide) ((by have e9 : (0 : Int32).toInt = 0 := (by decide : (0 : Int32).toInt = 0); omega)) hP hD hS hl) ?_
          intro n9
          induction n9 with
          | zero => intro fN_length_x35 l4_x35 l2_x35 H locs ls b_l4_x35 hf9; exact False.elim (by omega)
          | succ n9 ihx35 =>
            intro fN_length_x35 l4_x35 l2_x35 H locs ls b_l4_x35 hfx35 hP hD hS hl
            refine lv_iload hx hb dX2_measureBack_35 (lv_at hl 0 rfl) ?_
            refine lv_aload_n hx hb dX2_measureBack_37 rfl (lv_at hl 3 rfl) ?_
            refine va_get (D := (dC, dI)) (ci := 2) (v := .int iN_arcs) (C := RX2) (T := TX2) (N := 14) hx hb hts iwsMX2_measureBack_in2 hown hK hP 0 rfl rfl 0 (by decide) (hts (.fieldLink RX2 45 "OptimaWorks$NetDesk" "arcs" "I") (by decide +kernel)) (fun _ h9 => h9) rfl dX2_measureBack_38 ?_
            refine lv_icmp_ge (tgt := 127) hx hb dX2_measureBack_41 (by decide) (fun c_41 => ?_) (fun c_41 => ?_)
            · have t_41 : l4_x35.toInt ≥ iN_arcs.toInt := toI_ge c_41 rfl rfl
              refine lv_iinc (v := (iI (l3_x20.toInt + 1))) (lv' := [(3, .int (iI (l3_x20.toInt + 1))), (4, .int l4_x35), (2, .int l2_x35), (0, .ref (hN 0)), (1, .int p1)]) hx hb dX2_measureBack_127 hl (k := 2) rfl (iI_add2 (iI_of _) (by decide : (1 : Int32) = iI 1)) (by decide) rfl (fun ls hl => ?_)
              refine lv_goto (tgt := 20) hx hb dX2_measureBack_130 (by decide) ?_
              have hl := lv_sub hl [0, 2, 3, 4] (l' := [(3, .int (iI (l3_x20.toInt + 1))), (2, .int l2_x35), (0, .ref (hN 0)), (1, .int p1)]) rfl
              exact ihx20 fN_length_x35 (iI (l3_x20.toInt + 1)) l2_x35 _ _ _ (iI_rng (by omega) (by omega) (by decide) (by decide)) (by have e9 : ((iI (l3_x20.toInt + 1))).toInt = (l3_x20.toInt + 1) := (iI_t (by omega) (by omega)); omega) hP hD hS hl
            · have t_41 : ¬ l4_x35.toInt ≥ iN_arcs.toInt := toI_nge c_41 rfl rfl
              refine lv_aload_n hx hb dX2_measureBack_44 rfl (lv_at hl 3 rfl) ?_
              refine va_get (D := (dC, dI)) (ci := 2) (v := .ref (aN 7)) (C := RX2) (T := TX2) (N := 14) hx hb hts iwsMX2_measureBack_in2 hown hK hP 0 rfl rfl 9 (by decide) (hts (.fieldLink RX2 33 "OptimaWorks$NetDesk" "length" "[I") (by decide +kernel)) (fun _ h9 => h9) rfl dX2_measureBack_45 ?_
              refine lv_aload_n hx hb dX2_measureBack_48 rfl (lv_at hl 3 rfl) ?_
              refine va_get (D := (dC, dI)) (ci := 2) (v := .ref (aN 1)) (C := RX2) (T := TX2) (N := 14) hx hb hts iwsMX2_measureBack_in2 hown hK hP 0 rfl rfl 2 (by decide) (hts (.fieldLink RX2 15 "OptimaWorks$NetDesk" "to" "[I") (by decide +kernel)) (fun _ h9 => h9) rfl dX2_measureBack_49 ?_
              refine lv_iload hx hb dX2_measureBack_52 (lv_at hl 0 rfl) ?_
              refine va_iald (cA := kN 1) (n := 40) (f := fN_to) hx hb hK hP 2 1 rfl rfl (vp_in_iff.mpr ⟨by omega, by omega⟩) dX2_measureBack_54 ?_
              refine lv_topi (fun v467 hv467 => ?_)
              have b_v467 : 0 ≤ v467.toInt ∧ v467.toInt ≤ 11 := by rw [hv467]; exact b_fN_to _
              clear hv467
              refine va_iald (cA := kN 7) (n := 12) (f := fN_length_x35) hx hb hK hP 8 7 rfl rfl (vp_in_iff.mpr ⟨by omega, by omega⟩) dX2_measureBack_55 ?_
              refine lv_topi (fun v468 hv468 => ?_)
              clear hv468
              refine lv_aload_n hx hb dX2_measureBack_56 rfl (lv_at hl 3 rfl) ?_
              refine va_get (D := (dC, dI)) (ci := 2) (v := .ref (aN 3)) (C := RX2) (T := TX2) (N := 14) hx hb hts iwsMX2_measureBack_in2 hown hK hP 0 rfl rfl 4 (by decide) (hts (.fieldLink RX2 21 "OptimaWorks$NetDesk" "cost" "[I") (by decide +kernel)) (fun _ h9 => h9) rfl dX2_measureBack_57 ?_
              refine lv_iload hx hb dX2_measureBack_60 (lv_at hl 0 rfl) ?_
              refine va_iald (cA := kN 3) (n := 40) (f := fN_cost) hx hb hK hP 4 3 rfl rfl (vp_in_iff.mpr ⟨by omega, by omega⟩) dX2_measureBack_62 ?_
              refine lv_topi (fun v469 hv469 => ?_)
              clear hv469
              refine lv_bipush (v := 16) hx hb dX2_measureBack_63 (by decide) ?_
              refine lv_imul hx hb dX2_measureBack_65 ?_
              refine lv_topi (fun y470 hy470 => ?_)
              obtain rfl : (iI (v469.toInt * 16)) = y470 := (hy470.trans (iI_mul2 (iI_of _) (by decide : (16 : Int32) = iI 16))).symm
              refine lv_iadd hx hb dX2_measureBack_66 ?_
              refine lv_topi (fun y471 hy471 => ?_)
              obtain rfl : (iI (v468.toInt + (v469.toInt * 16))) = y471 := (hy471.trans (iI_add2 (iI_of _) rfl)).symm
              refine lv_iconst (v := 1) hx hb dX2_measureBack_67 (by decide) ?_
              refine lv_iadd hx hb dX2_measureBack_68 ?_
              refine lv_topi (fun y472 hy472 => ?_)
              obtain rfl : (iI ((v468.toInt + (v469.toInt * 16)) + 1)) = y472 := (hy472.trans (iI_add2 rfl (by decide : (1 : Int32) = iI 1))).symm
              refine lv_istore (lv' := [(5, .int (iI ((v468.toInt + (v469.toInt * 16)) + 1))), (4, .int l4_x35), (2, .int l2_x35), (3, .int l3_x20), (0, .ref (hN 0)), (1, .int p1)]) hx hb dX2_measureBack_69 hl (by decide) rfl (fun ls hl => ?_)
              refine lv_aload_n hx hb dX2_measureBack_71 rfl (lv_at hl 4 rfl) ?_
              refine va_get (D := (dC, dI)) (ci := 2) (v := .ref (aN 7)) (C := RX2) (T := TX2) (N := 14) hx hb hts iwsMX2_measureBack_in2 hown hK hP 0 rfl rfl 9 (by decide) (hts (.fieldLink RX2 33 "OptimaWorks$NetDesk" "length" "[I") (by decide +kernel)) (fun _ h9 => h9) rfl dX2_measureBack_72 ?_
              refine lv_aload_n hx hb dX2_measureBack_75 rfl (lv_at hl 4 rfl) ?_
              refine va_get (D := (dC, dI)) (ci := 2) (v := .ref (aN 1)) (C := RX2) (T := TX2) (N := 14) hx hb hts iwsMX2_measureBack_in2 hown hK hP 0 rfl rfl 2 (by decide) (hts (.fieldLink RX2 15 "OptimaWorks$NetDesk" "to" "[I") (by decide +kernel)) (fun _ h9 => h9) rfl dX2_measureBack_76 ?_
              refine lv_iload hx hb dX2_measureBack_79 (lv_at hl 1 rfl) ?_
              refine va_iald (cA := kN 1) (n := 40) (f := fN_to) hx hb hK hP 2 1 rfl rfl (vp_in_iff.mpr ⟨by omega, by omega⟩) dX2_measureBack_81 ?_
              refine lv_topi (fun v473 hv473 => ?_)
              have b_v473 : 0 ≤ v473.toInt ∧ v473.toInt ≤ 11 := by rw [hv473]; exact b_fN_to _
              clear hv473
              refine va_iald (cA := kN 7) (n := 12) (f := fN_length_x35) hx hb hK hP 8 7 rfl rfl (vp_in_iff.mpr ⟨by omega, by omega⟩) dX2_measureBack_82 ?_
              refine lv_topi (fun v474 hv474 => ?_)
              clear hv474
              refine lv_ldc (v := 536870912) hx hb hown (hts (.constant RX2 60 536870912) (by decide +kernel)) dX2_measureBack_83 ?_
              refine W.cut (pc := 121) (fun H locs ls stk => ∃ (fN_length_j64 : Nat → Int32) (l2_j64 : Int32),  stk = [] ∧ va_P (dC, dI) vwCl (WN hN aN kN iN_arcs fN_from fN_to fN_room fN_cost iN_reached fN_free fN_before fN_flow fN_length_j64 fN_stop iN_stops fN_price fN_rest) H ∧ va_D A (WN hN aN kN iN_arcs fN_from fN_to fN_room fN_cost iN_reached fN_free fN_before fN_flow fN_length_j64 fN_stop iN_stops fN_price fN_rest) ∧ va_S A s.heap H locs ∧ lv_has ls 6 [(5, .int (iI ((v468.toInt + (v469.toInt * 16)) + 1))), (4, .int l4_x35), (2, .int l2_j64), (3, .int l3_x20), (0, .ref (hN 0)), (1, .int p1)]) (fun join64 => ?_) ?_
              · refine lv_icmp_ge (tgt := 121) hx hb dX2_measureBack_85 (by decide) (fun c_85 => ?_) (fun c_85 => ?_)
                · have t_85 : v474.toInt ≥ 536870912 := toI_ge c_85 rfl (by decide : (536870912 : Int32).toInt = 536870912)
                  have hl := lv_sub hl [0, 1, 2, 3, 4, 5] (l' := [(5, .int (iI ((v468.toInt + (v469.toInt * 16)) + 1))), (4, .int l4_x35), (2, .int l2_x35), (3, .int l3_x20), (0, .ref (hN 0)), (1, .int p1)]) rfl
                  exact join64 _ _ _ _ ⟨fN_length_x35, l2_x35, rfl, hP, hD, hS, hl⟩
                · have t_85 : ¬ v474.toInt ≥ 536870912 := toI_nge c_85 rfl (by decide : (536870912 : Int32).toInt = 536870912)
                  refine lv_iload hx hb dX2_measureBack_88 (lv_at hl 0 rfl) ?_
                  refine lv_aload_n hx hb dX2_measureBack_90 rfl (lv_at hl 4 rfl) ?_
                  refine va_get (D := (dC, dI)) (ci := 2) (v := .ref (aN 7)) (C := RX2) (T := TX2) (N := 14) hx hb hts iwsMX2_measureBack_in2 hown hK hP 0 rfl rfl 9 (by decide) (hts (.fieldLink RX2 33 "OptimaWorks$NetDesk" "length" "[I") (by decide +kernel)) (fun _ h9 => h9) rfl dX2_measureBack_91 ?_
                  refine lv_aload_n hx hb dX2_measureBack_94 rfl (lv_at hl 4 rfl) ?_
                  refine va_get (D := (dC, dI)) (ci := 2) (v := .ref (aN 0)) (C := RX2) (T := TX2) (N := 14) hx hb hts iwsMX2_measureBack_in2 hown hK hP 0 rfl rfl 1 (by decide) (hts (.fieldLink RX2 11 "OptimaWorks$NetDesk" "from" "[I") (by decide +kernel)) (fun _ h9 => h9) rfl dX2_measureBack_95 ?_
                  refine lv_iload hx hb dX2_measureBack_98 (lv_at hl 1 rfl) ?_
                  refine va_iald (cA := kN 0) (n := 40) (f := fN_from) hx hb hK hP 1 0 rfl rfl (vp_in_iff.mpr ⟨by omega, by omega⟩) dX2_measureBack_100 ?_
                  refine lv_topi (fun v479 hv479 => ?_)
                  have b_v479 : 0 ≤ v479.toInt ∧ v479.toInt ≤ 11 := by rw [hv479]; exact b_fN_from _
                  clear hv479
                  refine va_iald (cA := kN 7) (n := 12) (f := fN_length_x35) hx hb hK hP 8 7 rfl rfl (vp_in_iff.mpr ⟨by omega, by omega⟩) dX2_measureBack_101 ?_
                  refine lv_topi (fun v480 hv480 => ?_)
                  clear hv480
                  refine lv_icmp_ge (tgt := 121) hx hb dX2_measureBack_102 (by decide) (fun c_102 => ?_) (fun c_102 => ?_)
                  · first | (have t_102 : ((v468.toInt + (v469.toInt * 16)) + 1) ≥ v480.toInt := toI_ge c_102 (iI_t (by omega) (by omega)) rfl) | skip
                    have hl := lv_sub hl [0, 1, 2, 3, 4, 5] (l' := [(5, .int (iI ((v468.toInt + (v469.toInt * 16)) + 1))), (4, .int l4_x35), (2, .int l2_x35), (3, .int l3_x20), (0, .ref (hN 0)), (1, .int p1)]) rfl
                    exact join64 _ _ _ _ ⟨fN_length_x35, l2_x35, rfl, hP, hD, hS, hl⟩
                  · first | (have t_102 : ¬ ((v468.toInt + (v469.toInt * 16)) + 1) ≥ v480.toInt := toI_nge c_102 (iI_t (by omega) (by omega)) rfl) | skip
                    refine lv_aload_n hx hb dX2_measureBack_105 rfl (lv_at hl 4 rfl) ?_
                    refine va_get (D := (dC, dI)) (ci := 2) (v := .ref (aN 7)) (C := RX2) (T := TX2) (N := 14) hx hb hts iwsMX2_measureBack_in2 hown hK hP 0 rfl rfl 9 (by decide) (hts (.fieldLink RX2 33 "OptimaWorks$NetDesk" "length" "[I") (by decide +kernel)) (fun _ h9 => h9) rfl dX2_measureBack_106 ?_
                    refine lv_aload_n hx hb dX2_measureBack_109 rfl (lv_at hl 4 rfl) ?_
                    refine va_get (D := (dC, dI)) (ci := 2) (v := .ref (aN 0)) (C := RX2) (T := TX2) (N := 14) hx hb hts iwsMX2_measureBack_in2 hown hK hP 0 rfl rfl 1 (by decide) (hts (.fieldLink RX2 11 "OptimaWorks$NetDesk" "from" "[I") (by decide +kernel)) (fun _ h9 => h9) rfl dX2_measureBack_110 ?_
                    refine lv_iload hx hb dX2_measureBack_113 (lv_at hl 1 rfl) ?_
                    refine va_iald (cA := kN 0) (n := 40) (f := fN_from) hx hb hK hP 1 0 rfl rfl (vp_in_iff.mpr ⟨by omega, by omega⟩) dX2_measureBack_115 ?_
                    refine lv_topi (fun v481 hv481 => ?_)
                    have b_v481 : 0 ≤ v481.toInt ∧ v481.toInt ≤ 11 := by rw [hv481]; exact b_fN_from _
                    clear hv481
                    refine lv_iload hx hb dX2_measureBack_116 (lv_at hl 0 rfl) ?_
                    refine va_iast (cA := kN 7) (n := 12) (f := fN_length_x35) hx hb hK hP hD hS 8 7 rfl rfl (vp_in_iff.mpr ⟨by omega, by omega⟩) dX2_measureBack_118 (fun H locs hP hD hS => ?_)
                    obtain ⟨u482, hu482⟩ : ∃ f9, f9 = upd fN_length_x35 (v481).toNatClampNeg (iI ((v468.toInt + (v469.toInt * 16)) + 1)) := ⟨_, rfl⟩
                    have hP : va_P (dC, dI) vwCl (WN hN aN kN iN_arcs fN_from fN_to fN_room fN_cost iN_reached fN_free fN_before fN_flow u482 fN_stop iN_stops fN_price fN_rest) H := by rw [hu482]; exact hP
                    have hD : va_D A (WN hN aN kN iN_arcs fN_from fN_to fN_room fN_cost iN_reached fN_free fN_before fN_flow u482 fN_stop iN_stops fN_price fN_rest) := by rw [hu482]; exact hD
                    clear hu482
                    refine lv_iconst (v := 1) hx hb dX2_measureBack_119 (by decide) ?_
                    refine lv_istore_n (lv' := [(2, .int 1), (5, .int (iI ((v468.toInt + (v469.toInt * 16)) + 1))), (4, .int l4_x35), (3, .int l3_x20), (0, .ref (hN 0)), (1, .int p1)]) hx hb dX2_measureBack_120 rfl hl (by decide) rfl (fun ls hl => ?_)
                    have hl := lv_sub hl [1, 2, 0, 3, 4, 5] (l' := [(5, .int (iI ((v468.toInt + (v469.toInt * 16)) + 1))), (4, .int l4_x35), (2, .int 1), (3, .int l3_x20), (0, .ref (hN 0)), (1, .int p1)]) rfl
                    exact join64 _ _ _ _ ⟨u482, 1, rfl, hP, hD, hS, hl⟩
              · rintro H locs ls stk ⟨fN_length_j64, l2_j64, rfl, hP, hD, hS, hl⟩
                refine lv_iinc (v := (iI (l4_x35.toInt + 1))) (lv' := [(4, .int (iI (l4_x35.toInt + 1))), (5, .int (iI ((v468.toInt + (v469.toInt * 16)) + 1))), (2, .int l2_j64), (3, .int l3_x20), (0, .ref (hN 0)), (1, .int p1)]) hx hb dX2_measureBack_121 hl (k := 1) rfl (iI_add2 (iI_of _) (by decide : (1 : Int32) = iI 1)) (by decide) rfl (fun ls hl => ?_)
                refine lv_goto (tgt := 35) hx hb dX2_measureBack_124 (by decide) ?_
                have hl := lv_sub hl [0, 2, 3, 4, 5] (l' := [(4, .int (iI (l4_x35.toInt + 1))), (2, .int l2_j64), (3, .int l3_x20), (0, .ref (hN 0)), (1, .int p1)]) rfl
                exact ihx35 fN_length_j64 (iI (l4_x35.toInt + 1)) l2_j64 _ _ _ (iI_rng (by omega) (by omega) (by decide) (by decide)) (by have e9 : ((iI (l4_x35.toInt + 1))).toInt = (l4_x35.toInt + 1) := (iI_t (by omega) (by omega)); omega) hP hD hS hl
    · rintro H locs ls stk ⟨rfl, hP, hD, hS, hl⟩
      refine W.widen (k := 0) (n := 0) (by decide +kernel) (by decide +kernel) ?_
      exact W.vret hx hb hr (fun t9_ ht hW => ⟨⟨fN_length_x20, rfl, trivial, by rw [ht]; exact hP, hD⟩, hS.F ht⟩) hS.2.2 dX2_measureBack_133
theorem dX2_nextNode_0 : decode cX2_nextNode 0 = .ok (.iload_n 1, 1) := by decide +kernel
theorem dX2_nextNode_1 : decode cX2_nextNode 1 = .ok (.istore_n 2, 1) := by decide +kernel
theorem dX2_nextNode_2 : decode cX2_nextNode 2 = .ok (.iconst 0, 1) := by decide +kernel
theorem dX2_nextNode_3 : decode cX2_nextNode 3 = .ok (.istore_n 3, 1) := by decide +kernel
theorem dX2_nextNode_4 : decode cX2_nextNode 4 = .ok (.iload_n 3, 1) := by decide +kernel
theorem dX2_nextNode_5 : decode cX2_nextNode 5 = .ok (.aload_n 0, 1) := by decide +kernel
theorem dX2_nextNode_6 : decode cX2_nextNode 6 = .ok (.getfield 45, 3) := by decide +kernel
theorem dX2_nextNode_9 : decode cX2_nextNode 9 = .ok (.if_icmp .ge 85, 3) := by decide +kernel
theorem dX2_nextNode_12 : decode cX2_nextNode 12 = .ok (.aload_n 0, 1) := by decide +kernel
theorem dX2_nextNode_13 : decode cX2_nextNode 13 = .ok (.getfield 11, 3) := by decide +kernel
theorem dX2_nextNode_16 : decode cX2_nextNode 16 = .ok (.iload_n 3, 1) := by decide +kernel
theorem dX2_nextNode_17 : decode cX2_nextNode 17 = .ok (.iaload, 1) := by decide +kernel
theorem dX2_nextNode_18 : decode cX2_nextNode 18 = .ok (.iload_n 1, 1) := by decide +kernel
theorem dX2_nextNode_19 : decode cX2_nextNode 19 = .ok (.if_icmp .ne 39, 3) := by decide +kernel
theorem dX2_nextNode_22 : decode cX2_nextNode 22 = .ok (.aload_n 0, 1) := by decide +kernel
theorem dX2_nextNode_23 : decode cX2_nextNode 23 = .ok (.getfield 33, 3) := by decide +kernel
theorem dX2_nextNode_26 : decode cX2_nextNode 26 = .ok (.aload_n 0, 1) := by decide +kernel
theorem dX2_nextNode_27 : decode cX2_nextNode 27 = .ok (.getfield 15, 3) := by decide +kernel
theorem dX2_nextNode_30 : decode cX2_nextNode 30 = .ok (.iload_n 3, 1) := by decide +kernel
theorem dX2_nextNode_31 : decode cX2_nextNode 31 = .ok (.iaload, 1) := by decide +kernel
theorem dX2_nextNode_32 : decode cX2_nextNode 32 = .ok (.iaload, 1) := by decide +kernel
theorem dX2_nextNode_33 : decode cX2_nextNode 33 = .ok (.aload_n 0, 1) := by decide +kernel
theorem dX2_nextNode_34 : decode cX2_nextNode 34 = .ok (.getfield 21, 3) := by decide +kernel
theorem dX2_nextNode_37 : decode cX2_nextNode 37 = .ok (.iload_n 3, 1) := by decide +kernel
theorem dX2_nextNode_38 : decode cX2_nextNode 38 = .ok (.iaload, 1) := by decide +kernel
theorem dX2_nextNode_39 : decode cX2_nextNode 39 = .ok (.bipush 16, 2) := by decide +kernel
theorem dX2_nextNode_41 : decode cX2_nextNode 41 = .ok (.imul, 1) := by decide +kernel
theorem dX2_nextNode_42 : decode cX2_nextNode 42 = .ok (.iadd, 1) := by decide +kernel
theorem dX2_nextNode_43 : decode cX2_nextNode 43 = .ok (.iconst 1, 1) := by decide +kernel
theorem dX2_nextNode_44 : decode cX2_nextNode 44 = .ok (.iadd, 1) := by decide +kernel
theorem dX2_nextNode_45 : decode cX2_nextNode 45 = .ok (.aload_n 0, 1) := by decide +kernel
theorem dX2_nextNode_46 : decode cX2_nextNode 46 = .ok (.getfield 33, 3) := by decide +kernel
theorem dX2_nextNode_49 : decode cX2_nextNode 49 = .ok (.iload_n 1, 1) := by decide +kernel
theorem dX2_nextNode_50 : decode cX2_nextNode 50 = .ok (.iaload, 1) := by decide +kernel
theorem dX2_nextNode_51 : decode cX2_nextNode 51 = .ok (.if_icmp .ne 7, 3) := by decide +kernel
theorem dX2_nextNode_54 : decode cX2_nextNode 54 = .ok (.iconst 1, 1) := by decide +kernel
theorem dX2_nextNode_55 : decode cX2_nextNode 55 = .ok (.goto 4, 3) := by decide +kernel
theorem dX2_nextNode_58 : decode cX2_nextNode 58 = .ok (.iconst 0, 1) := by decide +kernel
theorem dX2_nextNode_59 : decode cX2_nextNode 59 = .ok (.istore 4, 2) := by decide +kernel
theorem dX2_nextNode_61 : decode cX2_nextNode 61 = .ok (.iload 4, 2) := by decide +kernel
theorem dX2_nextNode_63 : decode cX2_nextNode 63 = .ok (.ifCond .eq 25, 3) := by decide +kernel
theorem dX2_nextNode_66 : decode cX2_nextNode 66 = .ok (.iload_n 2, 1) := by decide +kernel
theorem dX2_nextNode_67 : decode cX2_nextNode 67 = .ok (.iload_n 1, 1) := by decide +kernel
theorem dX2_nextNode_68 : decode cX2_nextNode 68 = .ok (.if_icmp .eq 13, 3) := by decide +kernel
theorem dX2_nextNode_71 : decode cX2_nextNode 71 = .ok (.aload_n 0, 1) := by decide +kernel
theorem dX2_nextNode_72 : decode cX2_nextNode 72 = .ok (.getfield 15, 3) := by decide +kernel
theorem dX2_nextNode_75 : decode cX2_nextNode 75 = .ok (.iload_n 3, 1) := by decide +kernel
theorem dX2_nextNode_76 : decode cX2_nextNode 76 = .ok (.iaload, 1) := by decide +kernel
theorem dX2_nextNode_77 : decode cX2_nextNode 77 = .ok (.iload_n 2, 1) := by decide +kernel
theorem dX2_nextNode_78 : decode cX2_nextNode 78 = .ok (.if_icmp .ge 10, 3) := by decide +kernel
theorem dX2_nextNode_81 : decode cX2_nextNode 81 = .ok (.aload_n 0, 1) := by decide +kernel
theorem dX2_nextNode_82 : decode cX2_nextNode 82 = .ok (.getfield 15, 3) := by decide +kernel
theorem dX2_nextNode_85 : decode cX2_nextNode 85 = .ok (.iload_n 3, 1) := by decide +kernel
theorem dX2_nextNode_86 : decode cX2_nextNode 86 = .ok (.iaload, 1) := by decide +kernel
theorem dX2_nextNode_87 : decode cX2_nextNode 87 = .ok (.istore_n 2, 1) := by decide +kernel
theorem dX2_nextNode_88 : decode cX2_nextNode 88 = .ok (.iinc 3 1, 3) := by decide +kernel
theorem dX2_nextNode_91 : decode cX2_nextNode 91 = .ok (.goto (-87), 3) := by decide +kernel
theorem dX2_nextNode_94 : decode cX2_nextNode 94 = .ok (.iload_n 2, 1) := by decide +kernel
theorem dX2_nextNode_95 : decode cX2_nextNode 95 = .ok (.ireturn, 1) := by decide +kernel
def wsMX2_nextNode : List Cond := .code yX2_nextNode cX2_nextNode 5 (some .int) :: ([.fieldLink RX2 45 "OptimaWorks$NetDesk" "arcs" "I", .fieldLink RX2 11 "OptimaWorks$NetDesk" "from" "[I", .fieldLink RX2 33 "OptimaWorks$NetDesk" "length" "[I", .fieldLink RX2 15 "OptimaWorks$NetDesk" "to" "[I", .fieldLink RX2 21 "OptimaWorks$NetDesk" "cost" "[I"] ++ wsX20)
theorem iwsMX2_nextNode_in2 : ∀ w ∈ wsX20, w ∈ wsMX2_nextNode := fun _ h => List.mem_cons_of_mem _ (List.mem_append_right _ h)
theorem gdwsMX2_nextNode : wsMX2_nextNode.all goodWord = true := gdC rfl (gdA (by decide +kernel : ([.fieldLink RX2 45 "OptimaWorks$NetDesk" "arcs" "I", .fieldLink RX2 11 "OptimaWorks$NetDesk" "from" "[I", .fieldLink RX2 33 "OptimaWorks$NetDesk" "length" "[I", .fieldLink RX2 15 "OptimaWorks$NetDesk" "to" "[I", .fieldLink RX2 21 "OptimaWorks$NetDesk" "cost" "[I"] : List Cond).all goodWord = true) gdwsX20)
set_option maxHeartbeats 4000000 in
set_option maxRecDepth 100000 in
/-- the next node -/
theorem m_X2_nextNode (l : Launch) (dC : Nat → ClassId) (dI : Nat → Nat → Nat) (hN : Nat → Nat) (aN : Nat → Nat) (kN : Nat → ClassId) (iN_arcs : Int32) (fN_from : Nat → Int32) (fN_to : Nat → Int32) (fN_room : Nat → Int32) (fN_cost : Nat → Int32) (iN_reached : Int32) (fN_free : Nat → Int32) (fN_before : Nat → Int32) (fN_flow : Nat → Int32) (fN_length : Nat → Int32) (fN_stop : Nat → Int32) (iN_stops : Int32) (fN_price : Nat → Int32) (fN_rest : Nat → Int32) (p1 : Int32) (b_iN_arcs : 0 ≤ iN_arcs.toInt ∧ iN_arcs.toInt ≤ 40) (b_fN_from : ∀ q : Nat, 0 ≤ (fN_from q).toInt ∧ (fN_from q).toInt ≤ 11) (b_fN_to : ∀ q : Nat, 0 ≤ (fN_to q).toInt ∧ (fN_to q).toInt ≤ 11) (b_fN_before : ∀ q : Nat, 0 ≤ (fN_before q).toInt ∧ (fN_before q).toInt ≤ 79) (b_fN_stop : ∀ q : Nat, 0 ≤ (fN_stop q).toInt ∧ (fN_stop q).toInt ≤ 11) (b_iN_stops : 0 ≤ iN_stops.toInt ∧ iN_stops.toInt ≤ 8) (b_p1 : 0 ≤ p1.toInt ∧ p1.toInt ≤ 11) (sz : Nat) : Met l yX2_nextNode wsMX2_nextNode ({ frames := 0, cells := 0, slots := 0, locals := 0 }) (va_Pc [.ref (hN 0), .int p1] (fun U => U.heap.size = sz ∧ va_P (dC, dI) vwCl (WN hN aN kN iN_arcs fN_from fN_to fN_room fN_cost iN_reached fN_free fN_before fN_flow fN_length fN_stop iN_stops fN_price fN_rest) U.heap ∧ va_K (dC, dI) vwCl (tN kN) U ∧ va_D (fun _ => True) (WN hN aN kN iN_arcs fN_from fN_to fN_room fN_cost iN_reached fN_free fN_before fN_flow fN_length fN_stop iN_stops fN_price fN_rest))) (va_Qi (fun (r : Int32) (u : Unit) => (0 ≤ r.toInt ∧ r.toInt ≤ 11)) (fun (u : Unit) t => va_P (dC, dI) vwCl (WN hN aN kN iN_arcs fN_from fN_to fN_room fN_cost iN_reached fN_free fN_before fN_flow fN_length fN_stop iN_stops fN_price fN_rest) t.heap ∧ va_D (va_A (WN hN aN kN iN_arcs fN_from fN_to fN_room fN_cost iN_reached fN_free fN_before fN_flow fN_length fN_stop iN_stops fN_price fN_rest) sz) (WN hN aN kN iN_arcs fN_from fN_to fN_room fN_cost iN_reached fN_free fN_before fN_flow fN_length fN_stop iN_stops fN_price fN_rest)) (va_A (WN hN aN kN iN_arcs fN_from fN_to fN_room fN_cost iN_reached fN_free fN_before fN_flow fN_length fN_stop iN_stops fN_price fN_rest) sz)) 0 0 (va_A (WN hN aN kN iN_arcs fN_from fN_to fN_room fN_cost iN_reached fN_free fN_before fN_flow fN_length fN_stop iN_stops fN_price fN_rest) sz) := by
  refine Met.ofW (cc := cX2_nextNode) (maxL := 5) (ret := (some .int)) (by decide) rfl ?_
  intro p e s m args below meth c s₁ B hml hv
  obtain ⟨rfl, hsz, hP, hK, hD0⟩ := hv
  have hx := B.exec
  have hb := B.bytes
  have hr := B.returns
  have hts := atoms_spec (ws := wsMX2_nextNode) B.pre
  have hown : s.vm.findClass RX2 = some m.cls := findClass_of_methodNamed B.named
  have hlocks := B.notSynchronized
  subst hsz
  have hD := hD0.self (sz := s.heap.size)
  generalize hAe : va_A (WN hN aN kN iN_arcs fN_from fN_to fN_room fN_cost iN_reached fN_free fN_before fN_flow fN_length fN_stop iN_stops fN_price fN_rest) s.heap.size = A at hD ⊢
  have hA : ∀ q : Nat, s.heap.size ≤ q → A q := fun q h => by rw [← hAe]; exact Or.inr h
  have hS : va_S A s.heap s.heap [] := va_S.rf
  have hl := lv_entry ([.ref (hN 0), .int p1]) (n := 5) (Nat.le_of_ble_eq_true rfl)
  rw [lg_entry_eq]
  generalize (lg_sl ([.ref (hN 0), .int p1]) ++ List.replicate (5 - (lg_sl ([.ref (hN 0), .int p1])).length) Slot.unset).toArray = ls at hl ⊢
  have hl : lv_has ls 5 [(0, .ref (hN 0)), (1, .int p1)] := hl
  refine lv_iload_n hx hb dX2_nextNode_0 rfl (lv_at hl 1 rfl) ?_
  refine lv_istore_n (lv' := [(2, .int p1), (0, .ref (hN 0)), (1, .int p1)]) hx hb dX2_nextNode_1 rfl hl (by decide) rfl (fun ls hl => ?_)
  refine lv_iconst (v := 0) hx hb dX2_nextNode_2 (by decide) ?_
  refine lv_istore_n (lv' := [(3, .int 0), (2, .int p1), (0, .ref (hN 0)), (1, .int p1)]) hx hb dX2_nextNode_3 rfl hl (by decide) rfl (fun ls hl => ?_)
  have hl := lv_sub hl [0, 1, 2, 3] (l' := [(3, .int 0), (2, .int p1), (0, .ref (hN 0)), (1, .int p1)]) rfl
  refine (fun (loop : ∀ (n9 : Nat) (l3_x4 : Int32) (l2_x4 : Int32) (H : Heap) (locs : List Loc) (ls : Array Slot), (0 ≤ l3_x4.toInt ∧ l3_x4.toInt ≤ 40) → (0 ≤ l2_x4.toInt ∧ l2_x4.toInt ≤ 11) → (40 - l3_x4.toInt < ((n9 : Nat) : Int)) → va_P (dC, dI) vwCl (WN hN aN kN iN_arcs fN_from fN_to fN_room fN_cost iN_reached fN_free fN_before fN_flow fN_length fN_stop iN_stops fN_price fN_rest) H → va_D A (WN hN aN kN iN_arcs fN_from fN_to fN_room fN_cost iN_reached fN_free fN_before fN_flow fN_length fN_stop iN_stops fN_price fN_rest) → va_S A s.heap H locs → lv_has ls 5 [(3, .int l3_x4), (2, .int l2_x4), (0, .ref (hN 0)), (1, .int p1)] → W p l e _ s m _ below meth c H locs 0 0 _ (F0 m 4 ls [])) => loop (41) 0 p1 _ _ _ (show 0 ≤ (0 : Int32).toInt ∧ (0 : Int32).toInt ≤ 40 from by decide) (by first | assumption | exact ⟨by omega, by omega⟩) ((by have e9 : (0 : Int32).toInt = 0 := (by decide : (0 : Int32).toInt = 0); omega)) hP hD hS hl) ?_
  intro n9
  induction n9 with
  | zero => intro l3_x4 l2_x4 H locs ls b_l3_x4 b_l2_x4 hf9; exact False.elim (by omega)
  | succ n9 ihx4 =>
    intro l3_x4 l2_x4 H locs ls b_l3_x4 b_l2_x4 hfx4 hP hD hS hl
    refine lv_iload_n hx hb dX2_nextNode_4 rfl (lv_at hl 0 rfl) ?_
    refine lv_aload_n hx hb dX2_nextNode_5 rfl (lv_at hl 2 rfl) ?_
    refine va_get (D := (dC, dI)) (ci := 2) (v := .int iN_arcs) (C := RX2) (T := TX2) (N := 14) hx hb hts iwsMX2_nextNode_in2 hown hK hP 0 rfl rfl 0 (by decide) (hts (.fieldLink RX2 45 "OptimaWorks$NetDesk" "arcs" "I") (by decide +kernel)) (fun _ h9 => h9) rfl dX2_nextNode_6 ?_
    refine lv_icmp_ge (tgt := 94) hx hb dX2_nextNode_9 (by decide) (fun c_9 => ?_) (fun c_9 => ?_)
    · have t_9 : l3_x4.toInt ≥ iN_arcs.toInt := toI_ge c_9 rfl rfl
      refine lv_iload_n hx hb dX2_nextNode_94 rfl (lv_at hl 1 rfl) ?_
      refine W.widen (k := 0) (n := 0) (by decide +kernel) (by decide +kernel) ?_
      exact W.iret (v := l2_x4) hx hb hr (fun t9_ ht hW => ⟨⟨l2_x4, (), rfl, (by first | assumption | exact ⟨by omega, by omega⟩), by rw [ht]; exact hP, hD⟩, hS.F ht⟩) hS.2.2 dX2_nextNode_95
    · have t_9 : ¬ l3_x4.toInt ≥ iN_arcs.toInt := toI_nge c_9 rfl rfl
      refine lv_aload_n hx hb dX2_nextNode_12 rfl (lv_at hl 2 rfl) ?_
      refine va_get (D := (dC, dI)) (ci := 2) (v := .ref (aN 0)) (C := RX2) (T := TX2) (N := 14) hx hb hts iwsMX2_nextNode_in2 hown hK hP 0 rfl rfl 1 (by decide) (hts (.fieldLink RX2 11 "OptimaWorks$NetDesk" "from" "[I") (by decide +kernel)) (fun _ h9 => h9) rfl dX2_nextNode_13 ?_
      refine lv_iload_n hx hb dX2_nextNode_16 rfl (lv_at hl 0 rfl) ?_
      refine va_iald (cA := kN 0) (n := 40) (f := fN_from) hx hb hK hP 1 0 rfl rfl (vp_in_iff.mpr ⟨by omega, by omega⟩) dX2_nextNode_17 ?_
      refine lv_topi (fun v106 hv106 => ?_)
      have b_v106 : 0 ≤ v106.toInt ∧ v106.toInt ≤ 11 := by rw [hv106]; exact b_fN_from _
      clear hv106
      refine lv_iload_n hx hb dX2_nextNode_18 rfl (lv_at hl 3 rfl) ?_
      refine W.cut (pc := 59) (fun H locs ls stk => ∃ (k0_j23 : Int32), (0 ≤ k0_j23.toInt ∧ k0_j23.toInt ≤ 1) ∧  stk = [.int k0_j23] ∧ va_P (dC, dI) vwCl (WN hN aN kN iN_arcs fN_from fN_to fN_room fN_cost iN_reached fN_free fN_before fN_flow fN_length fN_stop iN_stops fN_price fN_rest) H ∧ va_D A (WN hN aN kN iN_arcs fN_from fN_to fN_room fN_cost iN_reached fN_free fN_before fN_flow fN_length fN_stop iN_stops fN_price fN_rest) ∧ va_S A s.heap H locs ∧ lv_has ls 5 [(3, .int l3_x4), (2, .int l2_x4), (0, .ref (hN 0)), (1, .int p1)]) (fun join23 => ?_) ?_
      · refine lv_icmp_ne (tgt := 58) hx hb dX2_nextNode_19 (by decide) (fun c_19 => ?_) (fun c_19 => ?_)
        · have t_19 : v106.toInt ≠ p1.toInt := toI_ne c_19 rfl rfl
          refine lv_iconst (v := 0) hx hb dX2_nextNode_58 (by decide) ?_
          have hl := lv_sub hl [0, 1, 2, 3] (l' := [(3, .int l3_x4), (2, .int l2_x4), (0, .ref (hN 0)), (1, .int p1)]) rfl
          exact join23 _ _ _ _ ⟨0, (show 0 ≤ (0 : Int32).toInt ∧ (0 : Int32).toInt ≤ 1 from by decide), rfl, hP, hD, hS, hl⟩
        · have t_19 : v106.toInt = p1.toInt := toI_nne c_19 rfl rfl
          refine lv_aload_n hx hb dX2_nextNode_22 rfl (lv_at hl 2 rfl) ?_
          refine va_get (D := (dC, dI)) (ci := 2) (v := .ref (aN 7)) (C := RX2) (T := TX2) (N := 14) hx hb hts iwsMX2_nextNode_in2 hown hK hP 0 rfl rfl 9 (by decide) (hts (.fieldLink RX2 33 "OptimaWorks$NetDesk" "length" "[I") (by decide +kernel)) (fun _ h9 => h9) rfl dX2_nextNode_23 ?_
          refine lv_aload_n hx hb dX2_nextNode_26 rfl (lv_at hl 2 rfl) ?_
          refine va_get (D := (dC, dI)) (ci := 2) (v := .ref (aN 1)) (C := RX2) (T := TX2) (N := 14) hx hb hts iwsMX2_nextNode_in2 hown hK hP 0 rfl rfl 2 (by decide) (hts (.fieldLink RX2 15 "OptimaWorks$NetDesk" "to" "[I") (by decide +kernel)) (fun _ h9 => h9) rfl dX2_nextNode_27 ?_
          refine lv_iload_n hx hb dX2_nextNode_30 rfl (lv_at hl 0 rfl) ?_
          refine va_iald (cA := kN 1) (n := 40) (f := fN_to) hx hb hK hP 2 1 rfl rfl (vp_in_iff.mpr ⟨by omega, by omega⟩) dX2_nextNode_31 ?_
          refine lv_topi (fun v114 hv114 => ?_)
          have b_v114 : 0 ≤ v114.toInt ∧ v114.toInt ≤ 11 := by rw [hv114]; exact b_fN_to _
          clear hv114
          refine va_iald (cA := kN 7) (n := 12) (f := fN_length) hx hb hK hP 8 7 rfl rfl (vp_in_iff.mpr ⟨by omega, by omega⟩) dX2_nextNode_32 ?_
          refine lv_topi (fun v115 hv115 => ?_)
          clear hv115
          refine lv_aload_n hx hb dX2_nextNode_33 rfl (lv_at hl 2 rfl) ?_
          refine va_get (D := (dC, dI)) (ci := 2) (v := .ref (aN 3)) (C := RX2) (T := TX2) (N := 14) hx hb hts iwsMX2_nextNode_in2 hown hK hP 0 rfl rfl 4 (by decide) (hts (.fieldLink RX2 21 "OptimaWorks$NetDesk" "cost" "[I") (by decide +kernel)) (fun _ h9 => h9) rfl dX2_nextNode_34 ?_
          refine lv_iload_n hx hb dX2_nextNode_37 rfl (lv_at hl 0 rfl) ?_
          refine va_iald (cA := kN 3) (n := 40) (f := fN_cost) hx hb hK hP 4 3 rfl rfl (vp_in_iff.mpr ⟨by omega, by omega⟩) dX2_nextNode_38 ?_
          refine lv_topi (fun v116 hv116 => ?_)
          clear hv116
          refine lv_bipush (v := 16) hx hb dX2_nextNode_39 (by decide) ?_
          refine lv_imul hx hb dX2_nextNode_41 ?_
          refine lv_topi (fun y117 hy117 => ?_)
          obtain rfl : (iI (v116.toInt * 16)) = y117 := (hy117.trans (iI_mul2 (iI_of _) (by decide : (16 : Int32) = iI 16))).symm
          refine lv_iadd hx hb dX2_nextNode_42 ?_
          refine lv_topi (fun y118 hy118 => ?_)
          obtain rfl : (iI (v115.toInt + (v116.toInt * 16))) = y118 := (hy118.trans (iI_add2 (iI_of _) rfl)).symm
          refine lv_iconst (v := 1) hx hb dX2_nextNode_43 (by decide) ?_
          refine lv_iadd hx hb dX2_nextNode_44 ?_
          refine lv_topi (fun y119 hy119 => ?_)
          obtain rfl : (iI ((v115.toInt + (v116.toInt * 16)) + 1)) = y119 := (hy119.trans (iI_add2 rfl (by decide : (1 : Int32) = iI 1))).symm
          refine lv_aload_n hx hb dX2_nextNode_45 rfl (lv_at hl 2 rfl) ?_
          refine va_get (D := (dC, dI)) (ci := 2) (v := .ref (aN 7)) (C := RX2) (T := TX2) (N := 14) hx hb hts iwsMX2_nextNode_in2 hown hK hP 0 rfl rfl 9 (by decide) (hts (.fieldLink RX2 33 "OptimaWorks$NetDesk" "length" "[I") (by decide +kernel)) (fun _ h9 => h9) rfl dX2_nextNode_46 ?_
          refine lv_iload_n hx hb dX2_nextNode_49 rfl (lv_at hl 3 rfl) ?_
          refine va_iald (cA := kN 7) (n := 12) (f := fN_length) hx hb hK hP 8 7 rfl rfl (vp_in_iff.mpr ⟨by omega, by omega⟩) dX2_nextNode_50 ?_
          refine lv_topi (fun v120 hv120 => ?_)
          clear hv120
          refine lv_icmp_ne (tgt := 58) hx hb dX2_nextNode_51 (by decide) (fun c_51 => ?_) (fun c_51 => ?_)
          · first | (have t_51 : ((v115.toInt + (v116.toInt * 16)) + 1) ≠ v120.toInt := toI_ne c_51 (iI_t (by omega) (by omega)) rfl) | skip
            refine lv_iconst (v := 0) hx hb dX2_nextNode_58 (by decide) ?_
            have hl := lv_sub hl [0, 1, 2, 3] (l' := [(3, .int l3_x4), (2, .int l2_x4), (0, .ref (hN 0)), (1, .int p1)]) rfl
            exact join23 _ _ _ _ ⟨0, (show 0 ≤ (0 : Int32).toInt ∧ (0 : Int32).toInt ≤ 1 from by decide), rfl, hP, hD, hS, hl⟩
          · first | (have t_51 : ((v115.toInt + (v116.toInt * 16)) + 1) = v120.toInt := toI_nne c_51 (iI_t (by omega) (by omega)) rfl) | skip
            refine lv_iconst (v := 1) hx hb dX2_nextNode_54 (by decide) ?_
            refine lv_goto (tgt := 59) hx hb dX2_nextNode_55 (by decide) ?_
            have hl := lv_sub hl [0, 1, 2, 3] (l' := [(3, .int l3_x4), (2, .int l2_x4), (0, .ref (hN 0)), (1, .int p1)]) rfl
            exact join23 _ _ _ _ ⟨1, (show 0 ≤ (1 : Int32).toInt ∧ (1 : Int32).toInt ≤ 1 from by decide), rfl, hP, hD, hS, hl⟩
      · rintro H locs ls stk ⟨k0_j23, b_k0_j23, rfl, hP, hD, hS, hl⟩
        refine lv_istore (lv' := [(4, .int k0_j23), (3, .int l3_x4), (2, .int l2_x4), (0, .ref (hN 0)), (1, .int p1)]) hx hb dX2_nextNode_59 hl (by decide) rfl (fun ls hl => ?_)
        refine lv_iload hx hb dX2_nextNode_61 (lv_at hl 0 rfl) ?_
        refine W.cut (pc := 88) (fun H locs ls stk => ∃ (l2_j24 : Int32), (0 ≤ l2_j24.toInt ∧ l2_j24.toInt ≤ 11) ∧  stk = [] ∧ va_P (dC, dI) vwCl (WN hN aN kN iN_arcs fN_from fN_to fN_room fN_cost iN_reached fN_free fN_before fN_flow fN_length fN_stop iN_stops fN_price fN_rest) H ∧ va_D A (WN hN aN kN iN_arcs fN_from fN_to fN_room fN_cost iN_reached fN_free fN_before fN_flow fN_length fN_stop iN_stops fN_price fN_rest) ∧ va_S A s.heap H locs ∧ lv_has ls 5 [(4, .int k0_j23), (3, .int l3_x4), (2, .int l2_j24), (0, .ref (hN 0)), (1, .int p1)]) (fun join24 => ?_) ?_
        · refine lv_if_eq (tgt := 88) hx hb dX2_nextNode_63 (by decide) (fun c_63 => ?_) (fun c_63 => ?_)
          · have t_63 : k0_j23.toInt = 0 := toI_eq c_63 rfl (by decide : (0 : Int32).toInt = 0)
            have hl := lv_sub hl [0, 1, 2, 3, 4] (l' := [(4, .int k0_j23), (3, .int l3_x4), (2, .int l2_x4), (0, .ref (hN 0)), (1, .int p1)]) rfl
            exact join24 _ _ _ _ ⟨l2_x4, (by first | assumption | exact ⟨by omega, by omega⟩), rfl, hP, hD, hS, hl⟩
          · have t_63 : ¬ k0_j23.toInt = 0 := toI_neq c_63 rfl (by decide : (0 : Int32).toInt = 0)
            refine lv_iload_n hx hb dX2_nextNode_66 rfl (lv_at hl 2 rfl) ?_
            refine lv_iload_n hx hb dX2_nextNode_67 rfl (lv_at hl 4 rfl) ?_
            refine lv_icmp_eq (tgt := 81) hx hb dX2_nextNode_68 (by decide) (fun c_68 => ?_) (fun c_68 => ?_)
            · have t_68 : l2_x4.toInt = p1.toInt := toI_eq c_68 rfl rfl
              refine lv_aload_n hx hb dX2_nextNode_81 rfl (lv_at hl 3 rfl) ?_
              refine va_get (D := (dC, dI)) (ci := 2) (v := .ref (aN 1)) (C := RX2) (T := TX2) (N := 14) hx hb hts iwsMX2_nextNode_in2 hown hK hP 0 rfl rfl 2 (by decide) (hts (.fieldLink RX2 15 "OptimaWorks$NetDesk" "to" "[I") (by decide +kernel)) (fun _ h9 => h9) rfl dX2_nextNode_82 ?_
              refine lv_iload_n hx hb dX2_nextNode_85 rfl (lv_at hl 1 rfl) ?_
              refine va_iald (cA := kN 1) (n := 40) (f := fN_to) hx hb hK hP 2 1 rfl rfl (vp_in_iff.mpr ⟨by omega, by omega⟩) dX2_nextNode_86 ?_
              refine lv_topi (fun v124 hv124 => ?_)
              have b_v124 : 0 ≤ v124.toInt ∧ v124.toInt ≤ 11 := by rw [hv124]; exact b_fN_to _
              clear hv124
              refine lv_istore_n (lv' := [(2, .int v124), (4, .int k0_j23), (3, .int l3_x4), (0, .ref (hN 0)), (1, .int p1)]) hx hb dX2_nextNode_87 rfl hl (by decide) rfl (fun ls hl => ?_)
              have hl := lv_sub hl [1, 2, 0, 3, 4] (l' := [(4, .int k0_j23), (3, .int l3_x4), (2, .int v124), (0, .ref (hN 0)), (1, .int p1)]) rfl
              exact join24 _ _ _ _ ⟨v124, (by first | assumption | exact ⟨by omega, by omega⟩), rfl, hP, hD, hS, hl⟩
            · have t_68 : ¬ l2_x4.toInt = p1.toInt := toI_neq c_68 rfl rfl
              refine lv_aload_n hx hb dX2_nextNode_71 rfl (lv_at hl 3 rfl) ?_
              refine va_get (D := (dC, dI)) (ci := 2) (v := .ref (aN 1)) (C := RX2) (T := TX2) (N := 14) hx hb hts iwsMX2_nextNode_in2 hown hK hP 0 rfl rfl 2 (by decide) (hts (.fieldLink RX2 15 "OptimaWorks$NetDesk" "to" "[I") (by decide +kernel)) (fun _ h9 => h9) rfl dX2_nextNode_72 ?_
              refine lv_iload_n hx hb dX2_nextNode_75 rfl (lv_at hl 1 rfl) ?_
              refine va_iald (cA := kN 1) (n := 40) (f := fN_to) hx hb hK hP 2 1 rfl rfl (vp_in_iff.mpr ⟨by omega, by omega⟩) dX2_nextNode_76 ?_
              refine lv_topi (fun v125 hv125 => ?_)
              have b_v125 : 0 ≤ v125.toInt ∧ v125.toInt ≤ 11 := by rw [hv125]; exact b_fN_to _
              clear hv125
              refine lv_iload_n hx hb dX2_nextNode_77 rfl (lv_at hl 2 rfl) ?_
              refine lv_icmp_ge (tgt := 88) hx hb dX2_nextNode_78 (by decide) (fun c_78 => ?_) (fun c_78 => ?_)
              · have t_78 : v125.toInt ≥ l2_x4.toInt := toI_ge c_78 rfl rfl
                have hl := lv_sub hl [0, 1, 2, 3, 4] (l' := [(4, .int k0_j23), (3, .int l3_x4), (2, .int l2_x4), (0, .ref (hN 0)), (1, .int p1)]) rfl
                exact join24 _ _ _ _ ⟨l2_x4, (by first | assumption | exact ⟨by omega, by omega⟩), rfl, hP, hD, hS, hl⟩
              · have t_78 : ¬ v125.toInt ≥ l2_x4.toInt := toI_nge c_78 rfl rfl
                refine lv_aload_n hx hb dX2_nextNode_81 rfl (lv_at hl 3 rfl) ?_
                refine va_get (D := (dC, dI)) (ci := 2) (v := .ref (aN 1)) (C := RX2) (T := TX2) (N := 14) hx hb hts iwsMX2_nextNode_in2 hown hK hP 0 rfl rfl 2 (by decide) (hts (.fieldLink RX2 15 "OptimaWorks$NetDesk" "to" "[I") (by decide +kernel)) (fun _ h9 => h9) rfl dX2_nextNode_82 ?_
                refine lv_iload_n hx hb dX2_nextNode_85 rfl (lv_at hl 1 rfl) ?_
                refine va_iald (cA := kN 1) (n := 40) (f := fN_to) hx hb hK hP 2 1 rfl rfl (vp_in_iff.mpr ⟨by omega, by omega⟩) dX2_nextNode_86 ?_
                refine lv_topi (fun v126 hv126 => ?_)
                have b_v126 : 0 ≤ v126.toInt ∧ v126.toInt ≤ 11 := by rw [hv126]; exact b_fN_to _
                clear hv126
                refine lv_istore_n (lv' := [(2, .int v126), (4, .int k0_j23), (3, .int l3_x4), (0, .ref (hN 0)), (1, .int p1)]) hx hb dX2_nextNode_87 rfl hl (by decide) rfl (fun ls hl => ?_)
                have hl := lv_sub hl [1, 2, 0, 3, 4] (l' := [(4, .int k0_j23), (3, .int l3_x4), (2, .int v126), (0, .ref (hN 0)), (1, .int p1)]) rfl
                exact join24 _ _ _ _ ⟨v126, (by first | assumption | exact ⟨by omega, by omega⟩), rfl, hP, hD, hS, hl⟩
        · rintro H locs ls stk ⟨l2_j24, b_l2_j24, rfl, hP, hD, hS, hl⟩
          refine lv_iinc (v := (iI (l3_x4.toInt + 1))) (lv' := [(3, .int (iI (l3_x4.toInt + 1))), (4, .int k0_j23), (2, .int l2_j24), (0, .ref (hN 0)), (1, .int p1)]) hx hb dX2_nextNode_88 hl (k := 1) rfl (iI_add2 (iI_of _) (by decide : (1 : Int32) = iI 1)) (by decide) rfl (fun ls hl => ?_)
          refine lv_goto (tgt := 4) hx hb dX2_nextNode_91 (by decide) ?_
          have hl := lv_sub hl [0, 2, 3, 4] (l' := [(3, .int (iI (l3_x4.toInt + 1))), (2, .int l2_j24), (0, .ref (hN 0)), (1, .int p1)]) rfl
          exact ihx4 (iI (l3_x4.toInt + 1)) l2_j24 _ _ _ (iI_rng (by omega) (by omega) (by decide) (by decide)) (by first | assumption | exact ⟨by omega, by omega⟩) (by have e9 : ((iI (l3_x4.toInt + 1))).toInt = (l3_x4.toInt + 1) := (iI_t (by omega) (by omega)); omega) hP hD hS hl
theorem dX2_shortest_0 : decode cX2_shortest 0 = .ok (.aload_n 0, 1) := by decide +kernel
theorem dX2_shortest_1 : decode cX2_shortest 1 = .ok (.iload_n 2, 1) := by decide +kernel
theorem dX2_shortest_2 : decode cX2_shortest 2 = .ok (.invokevirtual 78, 3) := by decide +kernel
theorem dX2_shortest_5 : decode cX2_shortest 5 = .ok (.aload_n 0, 1) := by decide +kernel
theorem dX2_shortest_6 : decode cX2_shortest 6 = .ok (.getfield 33, 3) := by decide +kernel
theorem dX2_shortest_9 : decode cX2_shortest 9 = .ok (.iload_n 1, 1) := by decide +kernel
theorem dX2_shortest_10 : decode cX2_shortest 10 = .ok (.iaload, 1) := by decide +kernel
theorem dX2_shortest_11 : decode cX2_shortest 11 = .ok (.ldc 60, 2) := by decide +kernel
theorem dX2_shortest_13 : decode cX2_shortest 13 = .ok (.if_icmp .lt 7, 3) := by decide +kernel
theorem dX2_shortest_16 : decode cX2_shortest 16 = .ok (.iconst 1, 1) := by decide +kernel
theorem dX2_shortest_17 : decode cX2_shortest 17 = .ok (.goto 4, 3) := by decide +kernel
theorem dX2_shortest_20 : decode cX2_shortest 20 = .ok (.iconst 0, 1) := by decide +kernel
theorem dX2_shortest_21 : decode cX2_shortest 21 = .ok (.istore 4, 2) := by decide +kernel
theorem dX2_shortest_23 : decode cX2_shortest 23 = .ok (.iload_n 3, 1) := by decide +kernel
theorem dX2_shortest_24 : decode cX2_shortest 24 = .ok (.bipush (-2), 2) := by decide +kernel
theorem dX2_shortest_26 : decode cX2_shortest 26 = .ok (.if_icmp .ne 22, 3) := by decide +kernel
theorem dX2_shortest_29 : decode cX2_shortest 29 = .ok (.iload 4, 2) := by decide +kernel
theorem dX2_shortest_31 : decode cX2_shortest 31 = .ok (.ifCond .eq 7, 3) := by decide +kernel
theorem dX2_shortest_34 : decode cX2_shortest 34 = .ok (.iconst (-1), 1) := by decide +kernel
theorem dX2_shortest_35 : decode cX2_shortest 35 = .ok (.goto 12, 3) := by decide +kernel
theorem dX2_shortest_38 : decode cX2_shortest 38 = .ok (.aload_n 0, 1) := by decide +kernel
theorem dX2_shortest_39 : decode cX2_shortest 39 = .ok (.getfield 33, 3) := by decide +kernel
theorem dX2_shortest_42 : decode cX2_shortest 42 = .ok (.iload_n 1, 1) := by decide +kernel
theorem dX2_shortest_43 : decode cX2_shortest 43 = .ok (.iaload, 1) := by decide +kernel
theorem dX2_shortest_44 : decode cX2_shortest 44 = .ok (.bipush 16, 2) := by decide +kernel
theorem dX2_shortest_46 : decode cX2_shortest 46 = .ok (.idiv, 1) := by decide +kernel
theorem dX2_shortest_47 : decode cX2_shortest 47 = .ok (.ireturn, 1) := by decide +kernel
theorem dX2_shortest_48 : decode cX2_shortest 48 = .ok (.iload 4, 2) := by decide +kernel
theorem dX2_shortest_50 : decode cX2_shortest 50 = .ok (.ifCond .eq 7, 3) := by decide +kernel
theorem dX2_shortest_53 : decode cX2_shortest 53 = .ok (.iconst 0, 1) := by decide +kernel
theorem dX2_shortest_54 : decode cX2_shortest 54 = .ok (.goto 14, 3) := by decide +kernel
theorem dX2_shortest_57 : decode cX2_shortest 57 = .ok (.aload_n 0, 1) := by decide +kernel
theorem dX2_shortest_58 : decode cX2_shortest 58 = .ok (.getfield 33, 3) := by decide +kernel
theorem dX2_shortest_61 : decode cX2_shortest 61 = .ok (.iload_n 1, 1) := by decide +kernel
theorem dX2_shortest_62 : decode cX2_shortest 62 = .ok (.iaload, 1) := by decide +kernel
theorem dX2_shortest_63 : decode cX2_shortest 63 = .ok (.bipush 16, 2) := by decide +kernel
theorem dX2_shortest_65 : decode cX2_shortest 65 = .ok (.irem, 1) := by decide +kernel
theorem dX2_shortest_66 : decode cX2_shortest 66 = .ok (.iconst 1, 1) := by decide +kernel
theorem dX2_shortest_67 : decode cX2_shortest 67 = .ok (.iadd, 1) := by decide +kernel
theorem dX2_shortest_68 : decode cX2_shortest 68 = .ok (.istore 5, 2) := by decide +kernel
theorem dX2_shortest_70 : decode cX2_shortest 70 = .ok (.iload_n 3, 1) := by decide +kernel
theorem dX2_shortest_71 : decode cX2_shortest 71 = .ok (.bipush (-3), 2) := by decide +kernel
theorem dX2_shortest_73 : decode cX2_shortest 73 = .ok (.if_icmp .ne 6, 3) := by decide +kernel
theorem dX2_shortest_76 : decode cX2_shortest 76 = .ok (.iload 5, 2) := by decide +kernel
theorem dX2_shortest_78 : decode cX2_shortest 78 = .ok (.ireturn, 1) := by decide +kernel
theorem dX2_shortest_79 : decode cX2_shortest 79 = .ok (.iload_n 3, 1) := by decide +kernel
theorem dX2_shortest_80 : decode cX2_shortest 80 = .ok (.ifCond .lt 9, 3) := by decide +kernel
theorem dX2_shortest_83 : decode cX2_shortest 83 = .ok (.iload_n 3, 1) := by decide +kernel
theorem dX2_shortest_84 : decode cX2_shortest 84 = .ok (.iload 5, 2) := by decide +kernel
theorem dX2_shortest_86 : decode cX2_shortest 86 = .ok (.if_icmp .lt 5, 3) := by decide +kernel
theorem dX2_shortest_89 : decode cX2_shortest 89 = .ok (.iconst (-1), 1) := by decide +kernel
theorem dX2_shortest_90 : decode cX2_shortest 90 = .ok (.ireturn, 1) := by decide +kernel
theorem dX2_shortest_91 : decode cX2_shortest 91 = .ok (.iload_n 1, 1) := by decide +kernel
theorem dX2_shortest_92 : decode cX2_shortest 92 = .ok (.istore 6, 2) := by decide +kernel
theorem dX2_shortest_94 : decode cX2_shortest 94 = .ok (.iconst 0, 1) := by decide +kernel
theorem dX2_shortest_95 : decode cX2_shortest 95 = .ok (.istore 7, 2) := by decide +kernel
theorem dX2_shortest_97 : decode cX2_shortest 97 = .ok (.iload 7, 2) := by decide +kernel
theorem dX2_shortest_99 : decode cX2_shortest 99 = .ok (.iload_n 3, 1) := by decide +kernel
theorem dX2_shortest_100 : decode cX2_shortest 100 = .ok (.if_icmp .ge 17, 3) := by decide +kernel
theorem dX2_shortest_103 : decode cX2_shortest 103 = .ok (.aload_n 0, 1) := by decide +kernel
theorem dX2_shortest_104 : decode cX2_shortest 104 = .ok (.iload 6, 2) := by decide +kernel
theorem dX2_shortest_106 : decode cX2_shortest 106 = .ok (.invokevirtual 81, 3) := by decide +kernel
theorem dX2_shortest_109 : decode cX2_shortest 109 = .ok (.istore 6, 2) := by decide +kernel
theorem dX2_shortest_111 : decode cX2_shortest 111 = .ok (.iinc 7 1, 3) := by decide +kernel
theorem dX2_shortest_114 : decode cX2_shortest 114 = .ok (.goto (-17), 3) := by decide +kernel
theorem dX2_shortest_117 : decode cX2_shortest 117 = .ok (.iload 6, 2) := by decide +kernel
theorem dX2_shortest_119 : decode cX2_shortest 119 = .ok (.ireturn, 1) := by decide +kernel
def wsMX2_shortest : List Cond := .code yX2_shortest cX2_shortest 8 (some .int) :: ([.fieldLink RX2 33 "OptimaWorks$NetDesk" "length" "[I", .constant RX2 60 536870912] ++ wsX20 ++ (wsV RX2 78 RX2 yX2_measureBack wsMX2_measureBack) ++ (wsV RX2 81 RX2 yX2_nextNode wsMX2_nextNode))
theorem iwsMX2_shortest_in2 : ∀ w ∈ wsX20, w ∈ wsMX2_shortest := fun _ h => List.mem_cons_of_mem _ (List.mem_append_left _ (List.mem_append_left _ (List.mem_append_right _ h)))
theorem gwsMX2_shortest_0 : GoodIn wsMX2_shortest (wsV RX2 78 RX2 yX2_measureBack wsMX2_measureBack) := goodIn_sub (fun _ h => List.mem_cons_of_mem _ (List.mem_append_left _ (List.mem_append_right _ h))) (gdV (by decide +kernel) gdwsMX2_measureBack)
theorem gwsMX2_shortest_1 : GoodIn wsMX2_shortest (wsV RX2 81 RX2 yX2_nextNode wsMX2_nextNode) := goodIn_sub (fun _ h => List.mem_cons_of_mem _ (List.mem_append_right _ h)) (gdV (by decide +kernel) gdwsMX2_nextNode)
theorem gdwsMX2_shortest : wsMX2_shortest.all goodWord = true := gdC rfl (gdA (gdA (gdA (by decide +kernel : ([.fieldLink RX2 33 "OptimaWorks$NetDesk" "length" "[I", .constant RX2 60 536870912] : List Cond).all goodWord = true) gdwsX20) (gdV (by decide +kernel) gdwsMX2_measureBack)) (gdV (by decide +kernel) gdwsMX2_nextNode))
set_option maxHeartbeats 4000000 in
set_option maxRecDepth 100000 in
/-- a shortest way -/
theorem m_X2_shortest (l : Launch) (dC : Nat → ClassId) (dI : Nat → Nat → Nat) (hN : Nat → Nat) (aN : Nat → Nat) (kN : Nat → ClassId) (iN_arcs : Int32) (fN_from : Nat → Int32) (fN_to : Nat → Int32) (fN_room : Nat → Int32) (fN_cost : Nat → Int32) (iN_reached : Int32) (fN_free : Nat → Int32) (fN_before : Nat → Int32) (fN_flow : Nat → Int32) (fN_length : Nat → Int32) (fN_stop : Nat → Int32) (iN_stops : Int32) (fN_price : Nat → Int32) (fN_rest : Nat → Int32) (p1 : Int32) (p2 : Int32) (p3 : Int32) (b_iN_arcs : 0 ≤ iN_arcs.toInt ∧ iN_arcs.toInt ≤ 40) (b_fN_from : ∀ q : Nat, 0 ≤ (fN_from q).toInt ∧ (fN_from q).toInt ≤ 11) (b_fN_to : ∀ q : Nat, 0 ≤ (fN_to q).toInt ∧ (fN_to q).toInt ≤ 11) (b_fN_before : ∀ q : Nat, 0 ≤ (fN_before q).toInt ∧ (fN_before q).toInt ≤ 79) (b_fN_stop : ∀ q : Nat, 0 ≤ (fN_stop q).toInt ∧ (fN_stop q).toInt ≤ 11) (b_iN_stops : 0 ≤ iN_stops.toInt ∧ iN_stops.toInt ≤ 8) (b_p1 : 0 ≤ p1.toInt ∧ p1.toInt ≤ 11) (b_p2 : 0 ≤ p2.toInt ∧ p2.toInt ≤ 11) (sz : Nat) : Met l yX2_shortest wsMX2_shortest ({ frames := 2, cells := 0, slots := 0, locals := 48 }) (va_Pc [.ref (hN 0), .int p1, .int p2, .int p3] (fun U => U.heap.size = sz ∧ va_P (dC, dI) vwCl (WN hN aN kN iN_arcs fN_from fN_to fN_room fN_cost iN_reached fN_free fN_before fN_flow fN_length fN_stop iN_stops fN_price fN_rest) U.heap ∧ va_K (dC, dI) vwCl (tN kN) U ∧ va_D (fun _ => True) (WN hN aN kN iN_arcs fN_from fN_to fN_room fN_cost iN_reached fN_free fN_before fN_flow fN_length fN_stop iN_stops fN_price fN_rest))) (va_Qi (fun (r : Int32) (u : Nat → Int32) => True) (fun (u : Nat → Int32) t => va_P (dC, dI) vwCl (WN hN aN kN iN_arcs fN_from fN_to fN_room fN_cost iN_reached fN_free fN_before fN_flow u fN_stop iN_stops fN_price fN_rest) t.heap ∧ va_D (va_A (WN hN aN kN iN_arcs fN_from fN_to fN_room fN_cost iN_reached fN_free fN_before fN_flow fN_length fN_stop iN_stops fN_price fN_rest) sz) (WN hN aN kN iN_arcs fN_from fN_to fN_room fN_cost iN_reached fN_free fN_before fN_flow u fN_stop iN_stops fN_price fN_rest)) (va_A (WN hN aN kN iN_arcs fN_from fN_to fN_room fN_cost iN_reached fN_free fN_before fN_flow fN_length fN_stop iN_stops fN_price fN_rest) sz)) 0 0 (va_A (WN hN aN kN iN_arcs fN_from fN_to fN_room fN_cost iN_reached fN_free fN_before fN_flow fN_length fN_stop iN_stops fN_price fN_rest) sz) := by
  refine Met.ofW (cc := cX2_shortest) (maxL := 8) (ret := (some .int)) (by decide) rfl ?_
  intro p e s m args below meth c s₁ B hml hv
  obtain ⟨rfl, hsz, hP, hK, hD0⟩ := hv
  have hx := B.exec
  have hb := B.bytes
  have hr := B.returns
  have hts := atoms_spec (ws := wsMX2_shortest) B.pre
  have hown : s.vm.findClass RX2 = some m.cls := findClass_of_methodNamed B.named
  have hlocks := B.notSynchronized
  subst hsz
  have hD := hD0.self (sz := s.heap.size)
  generalize hAe : va_A (WN hN aN kN iN_arcs fN_from fN_to fN_room fN_cost iN_reached fN_free fN_before fN_flow fN_length fN_stop iN_stops fN_price fN_rest) s.heap.size = A at hD ⊢
  have hA : ∀ q : Nat, s.heap.size ≤ q → A q := fun q h => by rw [← hAe]; exact Or.inr h
  have hS : va_S A s.heap s.heap [] := va_S.rf
  have hl := lv_entry ([.ref (hN 0), .int p1, .int p2, .int p3]) (n := 8) (Nat.le_of_ble_eq_true rfl)
  rw [lg_entry_eq]
  generalize (lg_sl ([.ref (hN 0), .int p1, .int p2, .int p3]) ++ List.replicate (8 - (lg_sl ([.ref (hN 0), .int p1, .int p2, .int p3])).length) Slot.unset).toArray = ls at hl ⊢
  have hl : lv_has ls 8 [(0, .ref (hN 0)), (1, .int p1), (2, .int p2), (3, .int p3)] := hl
  have w_p3 := i32_r p3
  refine lv_aload_n hx hb dX2_shortest_0 rfl (lv_at hl 0 rfl) ?_
  refine lv_iload_n hx hb dX2_shortest_1 rfl (lv_at hl 2 rfl) ?_
  have hFc := allFree hD hS hA
  refine va_callv (va_runV (As := [.int p2]) (rest := []) ⟨hx, hb, hml, hown, hts⟩ (m_X2_measureBack l dC dI hN aN kN iN_arcs fN_from fN_to fN_room fN_cost iN_reached fN_free fN_before fN_flow fN_length fN_stop iN_stops fN_price fN_rest p2 (by first | assumption | exact ⟨by omega, by omega⟩) b_fN_from b_fN_to b_fN_before b_fN_stop (by first | assumption | exact ⟨by omega, by omega⟩) (by first | assumption | exact ⟨by omega, by omega⟩) s.heap.size) (cwV 1 hts gwsMX2_shortest_0 rfl rfl rfl (by decide +kernel) ⟨by decide +kernel, by decide +kernel⟩) ⟨fun a U g mk q => by obtain ⟨q0, q1, qP, qK, qD⟩ := q; exact ⟨q0, q1, qP, va_K.moved (u := U) (U := U.calling g mk a) (Vm.Alike.refl U.vm) qK, qD⟩, va_recv hK hP (ci := 2) (q0 := 0) rfl rfl, fun U hU9 hW => ⟨rfl, by rw [hU9], by rw [hU9]; exact hP, va_K.moved hW.alike hK, hD.weaken (fun _ _ _ _ => trivial)⟩⟩ rfl rfl hl.1 rfl (lv_room (Nat.le_of_ble_eq_true rfl)) dX2_shortest_2 ⟨by decide +kernel, by decide +kernel⟩) hS (fun q _ h => hFc q h) hFc (fun u t9_ H1 locs ht hvm hw9 hB9 hz1 hk1 hS => ?_)
  obtain ⟨fN_length_1, hwit1⟩ : ∃ w9, w9 = u := ⟨u, rfl⟩
  subst hwit1
  clear hw9
  obtain ⟨hP1, hD1⟩ := hB9
  rw [ht] at hP1
  have hP := hP1
  have hD := hD1.weaken (fun _ q _ h => hFc q.1 h)
  generalize H1 = H at hP hS ⊢
  have hP : va_P (dC, dI) vwCl (WN hN aN kN iN_arcs fN_from fN_to fN_room fN_cost iN_reached fN_free fN_before fN_flow fN_length_1 fN_stop iN_stops fN_price fN_rest) H := hP
  have hD : va_D A (WN hN aN kN iN_arcs fN_from fN_to fN_room fN_cost iN_reached fN_free fN_before fN_flow fN_length_1 fN_stop iN_stops fN_price fN_rest) := hD
  refine lv_aload_n hx hb dX2_shortest_5 rfl (lv_at hl 0 rfl) ?_
  refine va_get (D := (dC, dI)) (ci := 2) (v := .ref (aN 7)) (C := RX2) (T := TX2) (N := 14) hx hb hts iwsMX2_shortest_in2 hown hK hP 0 rfl rfl 9 (by decide) (hts (.fieldLink RX2 33 "OptimaWorks$NetDesk" "length" "[I") (by decide +kernel)) (fun _ h9 => h9) rfl dX2_shortest_6 ?_
  refine lv_iload_n hx hb dX2_shortest_9 rfl (lv_at hl 1 rfl) ?_
  refine va_iald (cA := kN 7) (n := 12) (f := fN_length_1) hx hb hK hP 8 7 rfl rfl (vp_in_iff.mpr ⟨by omega, by omega⟩) dX2_shortest_10 ?_
  refine lv_topi (fun v2 hv2 => ?_)
  clear hv2
  refine lv_ldc (v := 536870912) hx hb hown (hts (.constant RX2 60 536870912) (by decide +kernel)) dX2_shortest_11 ?_
  refine W.cut (pc := 21) (fun H locs ls stk => ∃ (k0_j4 : Int32), (0 ≤ k0_j4.toInt ∧ k0_j4.toInt ≤ 1) ∧  stk = [.int k0_j4] ∧ va_P (dC, dI) vwCl (WN hN aN kN iN_arcs fN_from fN_to fN_room fN_cost iN_reached fN_free fN_before fN_flow fN_length_1 fN_stop iN_stops fN_price fN_rest) H ∧ va_D A (WN hN aN kN iN_arcs fN_from fN_to fN_room fN_cost iN_reached fN_free fN_before fN_flow fN_length_1 fN_stop iN_stops fN_price fN_rest) ∧ va_S A s.heap H locs ∧ lv_has ls 8 [(0, .ref (hN 0)), (1, .int p1), (2, .int p2), (3, .int p3)]) (fun join4 => ?_) ?_
  · refine lv_icmp_lt (tgt := 20) hx hb dX2_shortest_13 (by decide) (fun c_13 => ?_) (fun c_13 => ?_)
    · have t_13 : v2.toInt < 536870912 := toI_lt c_13 rfl (by decide : (536870912 : Int32).toInt = 536870912)
      refine lv_iconst (v := 0) hx hb dX2_shortest_20 (by decide) ?_
      have hl := lv_sub hl [0, 1, 2, 3] (l' := [(0, .ref (hN 0)), (1, .int p1), (2, .int p2), (3, .int p3)]) rfl
      exact join4 _ _ _ _ ⟨0, (show 0 ≤ (0 : Int32).toInt ∧ (0 : Int32).toInt ≤ 1 from by decide), rfl, hP, hD, hS, hl⟩
    · have t_13 : ¬ v2.toInt < 536870912 := toI_nlt c_13 rfl (by decide : (536870912 : Int32).toInt = 536870912)
      refine lv_iconst (v := 1) hx hb dX2_shortest_16 (by decide) ?_
      refine lv_goto (tgt := 21) hx hb dX2_shortest_17 (by decide) ?_
      have hl := lv_sub hl [0, 1, 2, 3] (l' := [(0, .ref (hN 0)), (1, .int p1), (2, .int p2), (3, .int p3)]) rfl
      exact join4 _ _ _ _ ⟨1, (show 0 ≤ (1 : Int32).toInt ∧ (1 : Int32).toInt ≤ 1 from by decide), rfl, hP, hD, hS, hl⟩
  · rintro H locs ls stk ⟨k0_j4, b_k0_j4, rfl, hP, hD, hS, hl⟩
    refine lv_istore (lv' := [(4, .int k0_j4), (0, .ref (hN 0)), (1, .int p1), (2, .int p2), (3, .int p3)]) hx hb dX2_shortest_21 hl (by decide) rfl (fun ls hl => ?_)
    refine lv_iload_n hx hb dX2_shortest_23 rfl (lv_at hl 4 rfl) ?_
    refine lv_bipush (v := (-2)) hx hb dX2_shortest_24 (by decide) ?_
    refine lv_icmp_ne (tgt := 48) hx hb dX2_shortest_26 (by decide) (fun c_26 => ?_) (fun c_26 => ?_)
    · have t_26 : p3.toInt ≠ (-2) := toI_ne c_26 rfl (by decide : ((-2) : Int32).toInt = (-2))
      refine lv_iload hx hb dX2_shortest_48 (lv_at hl 0 rfl) ?_
      refine W.cut (pc := 68) (fun H locs ls stk => ∃ (k0_j5 : Int32),  stk = [.int k0_j5] ∧ va_P (dC, dI) vwCl (WN hN aN kN iN_arcs fN_from fN_to fN_room fN_cost iN_reached fN_free fN_before fN_flow fN_length_1 fN_stop iN_stops fN_price fN_rest) H ∧ va_D A (WN hN aN kN iN_arcs fN_from fN_to fN_room fN_cost iN_reached fN_free fN_before fN_flow fN_length_1 fN_stop iN_stops fN_price fN_rest) ∧ va_S A s.heap H locs ∧ lv_has ls 8 [(4, .int k0_j4), (0, .ref (hN 0)), (1, .int p1), (2, .int p2), (3, .int p3)]) (fun join5 => ?_) ?_
      · refine lv_if_eq (tgt := 57) hx hb dX2_shortest_50 (by decide) (fun c_50 => ?_) (fun c_50 => ?_)
        · have t_50 : k0_j4.toInt = 0 := toI_eq c_50 rfl (by decide : (0 : Int32).toInt = 0)
          refine lv_aload_n hx hb dX2_shortest_57 rfl (lv_at hl 1 rfl) ?_
          refine va_get (D := (dC, dI)) (ci := 2) (v := .ref (aN 7)) (C := RX2) (T := TX2) (N := 14) hx hb hts iwsMX2_shortest_in2 hown hK hP 0 rfl rfl 9 (by decide) (hts (.fieldLink RX2 33 "OptimaWorks$NetDesk" "length" "[I") (by decide +kernel)) (fun _ h9 => h9) rfl dX2_shortest_58 ?_
          refine lv_iload_n hx hb dX2_shortest_61 rfl (lv_at hl 2 rfl) ?_
          refine va_iald (cA := kN 7) (n := 12) (f := fN_length_1) hx hb hK hP 8 7 rfl rfl (vp_in_iff.mpr ⟨by omega, by omega⟩) dX2_shortest_62 ?_
          refine lv_topi (fun v6 hv6 => ?_)
          clear hv6
          refine lv_bipush (v := 16) hx hb dX2_shortest_63 (by decide) ?_
          refine lv_irem hx hb dX2_shortest_65 (by decide) ?_
          refine lv_topi (fun v7 hv7 => ?_)
          clear hv7
          refine lv_iconst (v := 1) hx hb dX2_shortest_66 (by decide) ?_
          refine lv_iadd hx hb dX2_shortest_67 ?_
          refine lv_topi (fun y8 hy8 => ?_)
          obtain rfl : (iI (v7.toInt + 1)) = y8 := (hy8.trans (iI_add2 (iI_of _) (by decide : (1 : Int32) = iI 1))).symm
          have hl := lv_sub hl [0, 1, 2, 3, 4] (l' := [(4, .int k0_j4), (0, .ref (hN 0)), (1, .int p1), (2, .int p2), (3, .int p3)]) rfl
          exact join5 _ _ _ _ ⟨(iI (v7.toInt + 1)), rfl, hP, hD, hS, hl⟩
        · have t_50 : ¬ k0_j4.toInt = 0 := toI_neq c_50 rfl (by decide : (0 : Int32).toInt = 0)
          refine lv_iconst (v := 0) hx hb dX2_shortest_53 (by decide) ?_
          refine lv_goto (tgt := 68) hx hb dX2_shortest_54 (by decide) ?_
          have hl := lv_sub hl [0, 1, 2, 3, 4] (l' := [(4, .int k0_j4), (0, .ref (hN 0)), (1, .int p1), (2, .int p2), (3, .int p3)]) rfl
          exact join5 _ _ _ _ ⟨0, rfl, hP, hD, hS, hl⟩
      · rintro H locs ls stk ⟨k0_j5, rfl, hP, hD, hS, hl⟩
        refine lv_istore (lv' := [(5, .int k0_j5), (4, .int k0_j4), (0, .ref (hN 0)), (1, .int p1), (2, .int p2), (3, .int p3)]) hx hb dX2_shortest_68 hl (by decide) rfl (fun ls hl => ?_)
        refine lv_iload_n hx hb dX2_shortest_70 rfl (lv_at hl 5 rfl) ?_
        refine lv_bipush (v := (-3)) hx hb dX2_shortest_71 (by decide) ?_
        refine lv_icmp_ne (tgt := 79) hx hb dX2_shortest_73 (by decide) (fun c_73 => ?_) (fun c_73 => ?_)
        · have t_73 : p3.toInt ≠ (-3) := toI_ne c_73 rfl (by decide : ((-3) : Int32).toInt = (-3))
          refine lv_iload_n hx hb dX2_shortest_79 rfl (lv_at hl 5 rfl) ?_
          refine lv_if_lt (tgt := 89) hx hb dX2_shortest_80 (by decide) (fun c_80 => ?_) (fun c_80 => ?_)
          · have t_80 : p3.toInt < 0 := toI_lt c_80 rfl (by decide : (0 : Int32).toInt = 0)
            refine lv_iconst (v := (-1)) hx hb dX2_shortest_89 (by decide) ?_
            refine W.widen (k := 0) (n := 0) (by decide +kernel) (by decide +kernel) ?_
            exact W.iret (v := (-1)) hx hb hr (fun t9_ ht hW => ⟨⟨((-1) : Int32), fN_length_1, rfl, trivial, by rw [ht]; exact hP, hD⟩, hS.F ht⟩) hS.2.2 dX2_shortest_90
          · have t_80 : ¬ p3.toInt < 0 := toI_nlt c_80 rfl (by decide : (0 : Int32).toInt = 0)
            refine lv_iload_n hx hb dX2_shortest_83 rfl (lv_at hl 5 rfl) ?_
            refine lv_iload hx hb dX2_shortest_84 (lv_at hl 0 rfl) ?_
            refine lv_icmp_lt (tgt := 91) hx hb dX2_shortest_86 (by decide) (fun c_86 => ?_) (fun c_86 => ?_)
            · have t_86 : p3.toInt < k0_j5.toInt := toI_lt c_86 rfl rfl
              refine lv_iload_n hx hb dX2_shortest_91 rfl (lv_at hl 3 rfl) ?_
              refine lv_istore (lv' := [(6, .int p1), (5, .int k0_j5), (4, .int k0_j4), (0, .ref (hN 0)), (1, .int p1), (2, .int p2), (3, .int p3)]) hx hb dX2_shortest_92 hl (by decide) rfl (fun ls hl => ?_)
              refine lv_iconst (v := 0) hx hb dX2_shortest_94 (by decide) ?_
              refine lv_istore (lv' := [(7, .int 0), (6, .int p1), (5, .int k0_j5), (4, .int k0_j4), (0, .ref (hN 0)), (1, .int p1), (2, .int p2), (3, .int p3)]) hx hb dX2_shortest_95 hl (by decide) rfl (fun ls hl => ?_)
              have hl := lv_sub hl [0, 1, 2, 3, 4, 5, 6, 7] (l' := [(7, .int 0), (6, .int p1), (5, .int k0_j5), (4, .int k0_j4), (0, .ref (hN 0)), (1, .int p1), (2, .int p2), (3, .int p3)]) rfl
              refine (fun (loop : ∀ (n9 : Nat) (l7_x97 : Int32) (l6_x97 : Int32) (H : Heap) (locs : List Loc) (ls : Array Slot), (0 ≤ l7_x97.toInt ∧ l7_x97.toInt ≤ 2147483647) → (0 ≤ l6_x97.toInt ∧ l6_x97.toInt ≤ 11) → (2147483647 - l7_x97.toInt < ((n9 : Nat) : Int)) → va_P (dC, dI) vwCl (WN hN aN kN iN_arcs fN_from fN_to fN_room fN_cost iN_reached fN_free fN_before fN_flow fN_length_1 fN_stop iN_stops fN_price fN_rest) H → va_D A (WN hN aN kN iN_arcs fN_from fN_to fN_room fN_cost iN_reached fN_free fN_before fN_flow fN_length_1 fN_stop iN_stops fN_price fN_rest) → va_S A s.heap H locs → lv_has ls 8 [(7, .int l7_x97), (6, .int l6_x97), (5, .int k0_j5), (4, .int k0_j4), (0, .ref (hN 0)), (1, .int p1), (2, .int p2), (3, .int p3)] → W p l e _ s m _ below meth c H locs 0 0 _ (F0 m 97 ls [])) => loop (2147483648) 0 p1 _ _ _ (show 0 ≤ (0 : Int32).toInt ∧ (0 : Int32).toInt ≤ 2147483647 from by decide) (by first | assumption | exact ⟨by omega, by omega⟩) ((by have e9 : (0 : Int32).toInt = 0 := (by decide : (0 : Int32).toInt = 0); omega)) hP hD hS hl) ?_
              intro n9
              induction n9 with
              | zero => intro l7_x97 l6_x97 H locs ls b_l7_x97 b_l6_x97 hf9; exact False.elim (by omega)
              | succ n9 ihx97 =>
                intro l7_x97 l6_x97 H locs ls b_l7_x97 b_l6_x97 hfx97 hP hD hS hl
                refine lv_iload hx hb dX2_shortest_97 (lv_at hl 0 rfl) ?_
                refine lv_iload_n hx hb dX2_shortest_99 rfl (lv_at hl 7 rfl) ?_
                refine lv_icmp_ge (tgt := 117) hx hb dX2_shortest_100 (by decide) (fun c_100 => ?_) (fun c_100 => ?_)
                · have t_100 : l7_x97.toInt ≥ p3.toInt := toI_ge c_100 rfl rfl
                  refine lv_iload hx hb dX2_shortest_117 (lv_at hl 1 rfl) ?_
                  refine W.widen (k := 0) (n := 0) (by decide +kernel) (by decide +kernel) ?_
                  exact W.iret (v := l6_x97) hx hb hr (fun t9_ ht hW => ⟨⟨l6_x97, fN_length_1, rfl, trivial, by rw [ht]; exact hP, hD⟩, hS.F ht⟩) hS.2.2 dX2_shortest_119
                · have t_100 : ¬ l7_x97.toInt ≥ p3.toInt := toI_nge c_100 rfl rfl
                  refine lv_aload_n hx hb dX2_shortest_103 rfl (lv_at hl 4 rfl) ?_
                  refine lv_iload hx hb dX2_shortest_104 (lv_at hl 1 rfl) ?_
                  have hFc := allFree hD hS hA
                  refine va_calli (va_runV (As := [.int l6_x97]) (rest := []) ⟨hx, hb, hml, hown, hts⟩ (m_X2_nextNode l dC dI hN aN kN iN_arcs fN_from fN_to fN_room fN_cost iN_reached fN_free fN_before fN_flow fN_length_1 fN_stop iN_stops fN_price fN_rest l6_x97 (by first | assumption | exact ⟨by omega, by omega⟩) b_fN_from b_fN_to b_fN_before b_fN_stop (by first | assumption | exact ⟨by omega, by omega⟩) (by first | assumption | exact ⟨by omega, by omega⟩) H.size) (cwV 1 hts gwsMX2_shortest_1 rfl rfl rfl (by decide +kernel) ⟨by decide +kernel, by decide +kernel⟩) ⟨fun a U g mk q => by obtain ⟨q0, q1, qP, qK, qD⟩ := q; exact ⟨q0, q1, qP, va_K.moved (u := U) (U := U.calling g mk a) (Vm.Alike.refl U.vm) qK, qD⟩, va_recv hK hP (ci := 2) (q0 := 0) rfl rfl, fun U hU9 hW => ⟨rfl, by rw [hU9], by rw [hU9]; exact hP, va_K.moved hW.alike hK, hD.weaken (fun _ _ _ _ => trivial)⟩⟩ rfl rfl hl.1 rfl (lv_room (Nat.le_of_ble_eq_true rfl)) dX2_shortest_106 ⟨by decide +kernel, by decide +kernel⟩) hS (fun q _ h => hFc q h) hFc (fun r14 u t9_ H1 locs ht hvm hw9 hB9 hz1 hk1 hS => ?_)
                  have b_r14 := hw9
                  try dsimp only at b_r14
                  obtain ⟨hP1, hD1⟩ := hB9
                  rw [ht] at hP1
                  have hP := hP1
                  have hD := hD1.weaken (fun _ q _ h => hFc q.1 h)
                  generalize H1 = H at hP hS ⊢
                  have hP : va_P (dC, dI) vwCl (WN hN aN kN iN_arcs fN_from fN_to fN_room fN_cost iN_reached fN_free fN_before fN_flow fN_length_1 fN_stop iN_stops fN_price fN_rest) H := hP
                  have hD : va_D A (WN hN aN kN iN_arcs fN_from fN_to fN_room fN_cost iN_reached fN_free fN_before fN_flow fN_length_1 fN_stop iN_stops fN_price fN_rest) := hD
                  refine lv_istore (lv' := [(6, .int r14), (7, .int l7_x97), (5, .int k0_j5), (4, .int k0_j4), (0, .ref (hN 0)), (1, .int p1), (2, .int p2), (3, .int p3)]) hx hb dX2_shortest_109 hl (by decide) rfl (fun ls hl => ?_)
                  refine lv_iinc (v := (iI (l7_x97.toInt + 1))) (lv' := [(7, .int (iI (l7_x97.toInt + 1))), (6, .int r14), (5, .int k0_j5), (4, .int k0_j4), (0, .ref (hN 0)), (1, .int p1), (2, .int p2), (3, .int p3)]) hx hb dX2_shortest_111 hl (k := 1) rfl (iI_add2 (iI_of _) (by decide : (1 : Int32) = iI 1)) (by decide) rfl (fun ls hl => ?_)
                  refine lv_goto (tgt := 97) hx hb dX2_shortest_114 (by decide) ?_
                  have hl := lv_sub hl [0, 1, 2, 3, 4, 5, 6, 7] (l' := [(7, .int (iI (l7_x97.toInt + 1))), (6, .int r14), (5, .int k0_j5), (4, .int k0_j4), (0, .ref (hN 0)), (1, .int p1), (2, .int p2), (3, .int p3)]) rfl
                  exact ihx97 (iI (l7_x97.toInt + 1)) r14 _ _ _ (iI_rng (by omega) (by omega) (by decide) (by decide)) (by first | assumption | exact ⟨by omega, by omega⟩) (by have e9 : ((iI (l7_x97.toInt + 1))).toInt = (l7_x97.toInt + 1) := (iI_t (by omega) (by omega)); omega) hP hD hS hl
            · have t_86 : ¬ p3.toInt < k0_j5.toInt := toI_nlt c_86 rfl rfl
              refine lv_iconst (v := (-1)) hx hb dX2_shortest_89 (by decide) ?_
              refine W.widen (k := 0) (n := 0) (by decide +kernel) (by decide +kernel) ?_
              exact W.iret (v := (-1)) hx hb hr (fun t9_ ht hW => ⟨⟨((-1) : Int32), fN_length_1, rfl, trivial, by rw [ht]; exact hP, hD⟩, hS.F ht⟩) hS.2.2 dX2_shortest_90
        · have t_73 : p3.toInt = (-3) := toI_nne c_73 rfl (by decide : ((-3) : Int32).toInt = (-3))
          refine lv_iload hx hb dX2_shortest_76 (lv_at hl 0 rfl) ?_
          refine W.widen (k := 0) (n := 0) (by decide +kernel) (by decide +kernel) ?_
          exact W.iret (v := k0_j5) hx hb hr (fun t9_ ht hW => ⟨⟨k0_j5, fN_length_1, rfl, trivial, by rw [ht]; exact hP, hD⟩, hS.F ht⟩) hS.2.2 dX2_shortest_78
    · have t_26 : p3.toInt = (-2) := toI_nne c_26 rfl (by decide : ((-2) : Int32).toInt = (-2))
      refine lv_iload hx hb dX2_shortest_29 (lv_at hl 0 rfl) ?_
      refine W.cut (pc := 47) (fun H locs ls stk => ∃ (k0_j6 : Int32),  stk = [.int k0_j6] ∧ va_P (dC, dI) vwCl (WN hN aN kN iN_arcs fN_from fN_to fN_room fN_cost iN_reached fN_free fN_before fN_flow fN_length_1 fN_stop iN_stops fN_price fN_rest) H ∧ va_D A (WN hN aN kN iN_arcs fN_from fN_to fN_room fN_cost iN_reached fN_free fN_before fN_flow fN_length_1 fN_stop iN_stops fN_price fN_rest) ∧ va_S A s.heap H locs ∧ lv_has ls 8 [(4, .int k0_j4), (0, .ref (hN 0)), (1, .int p1), (2, .int p2), (3, .int p3)]) (fun join6 => ?_) ?_
      · refine lv_if_eq (tgt := 38) hx hb dX2_shortest_31 (by decide) (fun c_31 => ?_) (fun c_31 => ?_)
        · have t_31 : k0_j4.toInt = 0 := toI_eq c_31 rfl (by decide : (0 : Int32).toInt = 0)
          refine lv_aload_n hx hb dX2_shortest_38 rfl (lv_at hl 1 rfl) ?_
          refine va_get (D := (dC, dI)) (ci := 2) (v := .ref (aN 7)) (C := RX2) (T := TX2) (N := 14) hx hb hts iwsMX2_shortest_in2 hown hK hP 0 rfl rfl 9 (by decide) (hts (.fieldLink RX2 33 "OptimaWorks$NetDesk" "length" "[I") (by decide +kernel)) (fun _ h9 => h9) rfl dX2_shortest_39 ?_
          refine lv_iload_n hx hb dX2_shortest_42 rfl (lv_at hl 2 rfl) ?_
          refine va_iald (cA := kN 7) (n := 12) (f := fN_length_1) hx hb hK hP 8 7 rfl rfl (vp_in_iff.mpr ⟨by omega, by omega⟩) dX2_shortest_43 ?_
          refine lv_topi (fun v17 hv17 => ?_)
          clear hv17
          refine lv_bipush (v := 16) hx hb dX2_shortest_44 (by decide) ?_
          refine lv_idiv hx hb dX2_shortest_46 (by decide) ?_
          refine lv_topi (fun v18 hv18 => ?_)
          clear hv18
          have hl := lv_sub hl [0, 1, 2, 3, 4] (l' := [(4, .int k0_j4), (0, .ref (hN 0)), (1, .int p1), (2, .int p2), (3, .int p3)]) rfl
          exact join6 _ _ _ _ ⟨v18, rfl, hP, hD, hS, hl⟩
        · have t_31 : ¬ k0_j4.toInt = 0 := toI_neq c_31 rfl (by decide : (0 : Int32).toInt = 0)
          refine lv_iconst (v := (-1)) hx hb dX2_shortest_34 (by decide) ?_
          refine lv_goto (tgt := 47) hx hb dX2_shortest_35 (by decide) ?_
          have hl := lv_sub hl [0, 1, 2, 3, 4] (l' := [(4, .int k0_j4), (0, .ref (hN 0)), (1, .int p1), (2, .int p2), (3, .int p3)]) rfl
          exact join6 _ _ _ _ ⟨(-1), rfl, hP, hD, hS, hl⟩
      · rintro H locs ls stk ⟨k0_j6, rfl, hP, hD, hS, hl⟩
        refine W.widen (k := 0) (n := 0) (by decide +kernel) (by decide +kernel) ?_
        exact W.iret (v := k0_j6) hx hb hr (fun t9_ ht hW => ⟨⟨k0_j6, fN_length_1, rfl, trivial, by rw [ht]; exact hP, hD⟩, hS.F ht⟩) hS.2.2 dX2_shortest_47
theorem dX2_cheapestUnseen_0 : decode cX2_cheapestUnseen 0 = .ok (.iconst (-1), 1) := by decide +kernel
theorem dX2_cheapestUnseen_1 : decode cX2_cheapestUnseen 1 = .ok (.istore_n 3, 1) := by decide +kernel
theorem dX2_cheapestUnseen_2 : decode cX2_cheapestUnseen 2 = .ok (.iconst 0, 1) := by decide +kernel
theorem dX2_cheapestUnseen_3 : decode cX2_cheapestUnseen 3 = .ok (.istore 4, 2) := by decide +kernel
theorem dX2_cheapestUnseen_5 : decode cX2_cheapestUnseen 5 = .ok (.iload 4, 2) := by decide +kernel
theorem dX2_cheapestUnseen_7 : decode cX2_cheapestUnseen 7 = .ok (.aload_n 0, 1) := by decide +kernel
theorem dX2_cheapestUnseen_8 : decode cX2_cheapestUnseen 8 = .ok (.getfield 45, 3) := by decide +kernel
theorem dX2_cheapestUnseen_11 : decode cX2_cheapestUnseen 11 = .ok (.if_icmp .ge 44, 3) := by decide +kernel
theorem dX2_cheapestUnseen_14 : decode cX2_cheapestUnseen 14 = .ok (.lload_n 1, 1) := by decide +kernel
theorem dX2_cheapestUnseen_15 : decode cX2_cheapestUnseen 15 = .ok (.iload 4, 2) := by decide +kernel
theorem dX2_cheapestUnseen_17 : decode cX2_cheapestUnseen 17 = .ok (.lshr, 1) := by decide +kernel
theorem dX2_cheapestUnseen_18 : decode cX2_cheapestUnseen 18 = .ok (.lconst 1, 1) := by decide +kernel
theorem dX2_cheapestUnseen_19 : decode cX2_cheapestUnseen 19 = .ok (.land, 1) := by decide +kernel
theorem dX2_cheapestUnseen_20 : decode cX2_cheapestUnseen 20 = .ok (.lconst 0, 1) := by decide +kernel
theorem dX2_cheapestUnseen_21 : decode cX2_cheapestUnseen 21 = .ok (.lcmp, 1) := by decide +kernel
theorem dX2_cheapestUnseen_22 : decode cX2_cheapestUnseen 22 = .ok (.ifCond .ne 27, 3) := by decide +kernel
theorem dX2_cheapestUnseen_25 : decode cX2_cheapestUnseen 25 = .ok (.iload_n 3, 1) := by decide +kernel
theorem dX2_cheapestUnseen_26 : decode cX2_cheapestUnseen 26 = .ok (.iconst (-1), 1) := by decide +kernel
theorem dX2_cheapestUnseen_27 : decode cX2_cheapestUnseen 27 = .ok (.if_icmp .eq 19, 3) := by decide +kernel
theorem dX2_cheapestUnseen_30 : decode cX2_cheapestUnseen 30 = .ok (.aload_n 0, 1) := by decide +kernel
theorem dX2_cheapestUnseen_31 : decode cX2_cheapestUnseen 31 = .ok (.getfield 21, 3) := by decide +kernel
theorem dX2_cheapestUnseen_34 : decode cX2_cheapestUnseen 34 = .ok (.iload 4, 2) := by decide +kernel
theorem dX2_cheapestUnseen_36 : decode cX2_cheapestUnseen 36 = .ok (.iaload, 1) := by decide +kernel
theorem dX2_cheapestUnseen_37 : decode cX2_cheapestUnseen 37 = .ok (.aload_n 0, 1) := by decide +kernel
theorem dX2_cheapestUnseen_38 : decode cX2_cheapestUnseen 38 = .ok (.getfield 21, 3) := by decide +kernel
theorem dX2_cheapestUnseen_41 : decode cX2_cheapestUnseen 41 = .ok (.iload_n 3, 1) := by decide +kernel
theorem dX2_cheapestUnseen_42 : decode cX2_cheapestUnseen 42 = .ok (.iaload, 1) := by decide +kernel
theorem dX2_cheapestUnseen_43 : decode cX2_cheapestUnseen 43 = .ok (.if_icmp .ge 6, 3) := by decide +kernel
theorem dX2_cheapestUnseen_46 : decode cX2_cheapestUnseen 46 = .ok (.iload 4, 2) := by decide +kernel
theorem dX2_cheapestUnseen_48 : decode cX2_cheapestUnseen 48 = .ok (.istore_n 3, 1) := by decide +kernel
theorem dX2_cheapestUnseen_49 : decode cX2_cheapestUnseen 49 = .ok (.iinc 4 1, 3) := by decide +kernel
theorem dX2_cheapestUnseen_52 : decode cX2_cheapestUnseen 52 = .ok (.goto (-47), 3) := by decide +kernel
theorem dX2_cheapestUnseen_55 : decode cX2_cheapestUnseen 55 = .ok (.iconst 0, 1) := by decide +kernel
theorem dX2_cheapestUnseen_56 : decode cX2_cheapestUnseen 56 = .ok (.iload_n 3, 1) := by decide +kernel
theorem dX2_cheapestUnseen_57 : decode cX2_cheapestUnseen 57 = .ok (.invokestatic 89, 3) := by decide +kernel
theorem dX2_cheapestUnseen_60 : decode cX2_cheapestUnseen 60 = .ok (.ireturn, 1) := by decide +kernel
def wsMX2_cheapestUnseen : List Cond := .code yX2_cheapestUnseen cX2_cheapestUnseen 5 (some .int) :: ([.fieldLink RX2 45 "OptimaWorks$NetDesk" "arcs" "I", .methodLink RX2 89 Lib.Math.max.name, .static Lib.Math.max.name, .initialized "java/lang/Math", .code Lib.Math.max.name Lib.Math.max.code 2 (some .int), .fieldLink RX2 21 "OptimaWorks$NetDesk" "cost" "[I"] ++ wsX20)
theorem iwsMX2_cheapestUnseen_in2 : ∀ w ∈ wsX20, w ∈ wsMX2_cheapestUnseen := fun _ h => List.mem_cons_of_mem _ (List.mem_append_right _ h)
theorem gdwsMX2_cheapestUnseen : wsMX2_cheapestUnseen.all goodWord = true := gdC rfl (gdA (by decide +kernel : ([.fieldLink RX2 45 "OptimaWorks$NetDesk" "arcs" "I", .methodLink RX2 89 Lib.Math.max.name, .static Lib.Math.max.name, .initialized "java/lang/Math", .code Lib.Math.max.name Lib.Math.max.code 2 (some .int), .fieldLink RX2 21 "OptimaWorks$NetDesk" "cost" "[I"] : List Cond).all goodWord = true) gdwsX20)
set_option maxHeartbeats 4000000 in
set_option maxRecDepth 100000 in
/-- the cheapest arc -/
theorem m_X2_cheapestUnseen (l : Launch) (dC : Nat → ClassId) (dI : Nat → Nat → Nat) (hN : Nat → Nat) (aN : Nat → Nat) (kN : Nat → ClassId) (iN_arcs : Int32) (fN_from : Nat → Int32) (fN_to : Nat → Int32) (fN_room : Nat → Int32) (fN_cost : Nat → Int32) (iN_reached : Int32) (fN_free : Nat → Int32) (fN_before : Nat → Int32) (fN_flow : Nat → Int32) (fN_length : Nat → Int32) (fN_stop : Nat → Int32) (iN_stops : Int32) (fN_price : Nat → Int32) (fN_rest : Nat → Int32) (p1 : Int64) (b_iN_arcs : 0 ≤ iN_arcs.toInt ∧ iN_arcs.toInt ≤ 40) (b_fN_from : ∀ q : Nat, 0 ≤ (fN_from q).toInt ∧ (fN_from q).toInt ≤ 11) (b_fN_to : ∀ q : Nat, 0 ≤ (fN_to q).toInt ∧ (fN_to q).toInt ≤ 11) (b_fN_before : ∀ q : Nat, 0 ≤ (fN_before q).toInt ∧ (fN_before q).toInt ≤ 79) (b_fN_stop : ∀ q : Nat, 0 ≤ (fN_stop q).toInt ∧ (fN_stop q).toInt ≤ 11) (b_iN_stops : 0 ≤ iN_stops.toInt ∧ iN_stops.toInt ≤ 8) (sz : Nat) : Met l yX2_cheapestUnseen wsMX2_cheapestUnseen ({ frames := 1, cells := 0, slots := 0, locals := 13 }) (va_Pc [.ref (hN 0), .long p1] (fun U => U.heap.size = sz ∧ va_P (dC, dI) vwCl (WN hN aN kN iN_arcs fN_from fN_to fN_room fN_cost iN_reached fN_free fN_before fN_flow fN_length fN_stop iN_stops fN_price fN_rest) U.heap ∧ va_K (dC, dI) vwCl (tN kN) U ∧ va_D (fun _ => True) (WN hN aN kN iN_arcs fN_from fN_to fN_room fN_cost iN_reached fN_free fN_before fN_flow fN_length fN_stop iN_stops fN_price fN_rest))) (va_Qi (fun (r : Int32) (u : Unit) => (0 ≤ r.toInt ∧ r.toInt ≤ 39)) (fun (u : Unit) t => va_P (dC, dI) vwCl (WN hN aN kN iN_arcs fN_from fN_to fN_room fN_cost iN_reached fN_free fN_before fN_flow fN_length fN_stop iN_stops fN_price fN_rest) t.heap ∧ va_D (va_A (WN hN aN kN iN_arcs fN_from fN_to fN_room fN_cost iN_reached fN_free fN_before fN_flow fN_length fN_stop iN_stops fN_price fN_rest) sz) (WN hN aN kN iN_arcs fN_from fN_to fN_room fN_cost iN_reached fN_free fN_before fN_flow fN_length fN_stop iN_stops fN_price fN_rest)) (va_A (WN hN aN kN iN_arcs fN_from fN_to fN_room fN_cost iN_reached fN_free fN_before fN_flow fN_length fN_stop iN_stops fN_price fN_rest) sz)) 0 0 (va_A (WN hN aN kN iN_arcs fN_from fN_to fN_room fN_cost iN_reached fN_free fN_before fN_flow fN_length fN_stop iN_stops fN_price fN_rest) sz) := by
  refine Met.ofW (cc := cX2_cheapestUnseen) (maxL := 5) (ret := (some .int)) (by decide) rfl ?_
  intro p e s m args below meth c s₁ B hml hv
  obtain ⟨rfl, hsz, hP, hK, hD0⟩ := hv
  have hx := B.exec
  have hb := B.bytes
  have hr := B.returns
  have hts := atoms_spec (ws := wsMX2_cheapestUnseen) B.pre
  have hown : s.vm.findClass RX2 = some m.cls := findClass_of_methodNamed B.named
  have hlocks := B.notSynchronized
  subst hsz
  have hD := hD0.self (sz := s.heap.size)
  generalize hAe : va_A (WN hN aN kN iN_arcs fN_from fN_to fN_room fN_cost iN_reached fN_free fN_before fN_flow fN_length fN_stop iN_stops fN_price fN_rest) s.heap.size = A at hD ⊢
  have hA : ∀ q : Nat, s.heap.size ≤ q → A q := fun q h => by rw [← hAe]; exact Or.inr h
  have hS : va_S A s.heap s.heap [] := va_S.rf
  have hl := lv_entry ([.ref (hN 0), .long p1]) (n := 5) (Nat.le_of_ble_eq_true rfl)
  rw [lg_entry_eq]
  generalize (lg_sl ([.ref (hN 0), .long p1]) ++ List.replicate (5 - (lg_sl ([.ref (hN 0), .long p1])).length) Slot.unset).toArray = ls at hl ⊢
  have hl : lv_has ls 5 [(0, .ref (hN 0)), (1, .long p1)] := hl
  refine lv_iconst (v := (-1)) hx hb dX2_cheapestUnseen_0 (by decide) ?_
  refine lv_istore_n (lv' := [(3, .int (-1)), (0, .ref (hN 0)), (1, .long p1)]) hx hb dX2_cheapestUnseen_1 rfl hl (by decide) rfl (fun ls hl => ?_)
  refine lv_iconst (v := 0) hx hb dX2_cheapestUnseen_2 (by decide) ?_
  refine lv_istore (lv' := [(4, .int 0), (3, .int (-1)), (0, .ref (hN 0)), (1, .long p1)]) hx hb dX2_cheapestUnseen_3 hl (by decide) rfl (fun ls hl => ?_)
  have hl := lv_sub hl [0, 1, 2, 3] (l' := [(4, .int 0), (3, .int (-1)), (0, .ref (hN 0)), (1, .long p1)]) rfl
  refine (fun (loop : ∀ (n9 : Nat) (l4_x5 : Int32) (l3_x5 : Int32) (H : Heap) (locs : List Loc) (ls : Array Slot), (0 ≤ l4_x5.toInt ∧ l4_x5.toInt ≤ 40) → ((-1) ≤ l3_x5.toInt ∧ l3_x5.toInt ≤ 39) → (40 - l4_x5.toInt < ((n9 : Nat) : Int)) → va_P (dC, dI) vwCl (WN hN aN kN iN_arcs fN_from fN_to fN_room fN_cost iN_reached fN_free fN_before fN_flow fN_length fN_stop iN_stops fN_price fN_rest) H → va_D A (WN hN aN kN iN_arcs fN_from fN_to fN_room fN_cost iN_reached fN_free fN_before fN_flow fN_length fN_stop iN_stops fN_price fN_rest) → va_S A s.heap H locs → lv_has ls 5 [(4, .int l4_x5), (3, .int l3_x5), (0, .ref (hN 0)), (1, .long p1)] → W p l e _ s m _ below meth c H locs 0 0 _ (F0 m 5 ls [])) => loop (41) 0 (-1) _ _ _ (show 0 ≤ (0 : Int32).toInt ∧ (0 : Int32).toInt ≤ 40 from by decide) (show (-1) ≤ ((-1) : Int32).toInt ∧ ((-1) : Int32).toInt ≤ 39 from by decide) ((by have e9 : (0 : Int32).toInt = 0 := (by decide : (0 : Int32).toInt = 0); omega)) hP hD hS hl) ?_
  intro n9
  induction n9 with
  | zero => intro l4_x5 l3_x5 H locs ls b_l4_x5 b_l3_x5 hf9; exact False.elim (by omega)
  | succ n9 ihx5 =>
    intro l4_x5 l3_x5 H locs ls b_l4_x5 b_l3_x5 hfx5 hP hD hS hl
    refine lv_iload hx hb dX2_cheapestUnseen_5 (lv_at hl 0 rfl) ?_
    refine lv_aload_n hx hb dX2_cheapestUnseen_7 rfl (lv_at hl 2 rfl) ?_
    refine va_get (D := (dC, dI)) (ci := 2) (v := .int iN_arcs) (C := RX2) (T := TX2) (N := 14) hx hb hts iwsMX2_cheapestUnseen_in2 hown hK hP 0 rfl rfl 0 (by decide) (hts (.fieldLink RX2 45 "OptimaWorks$NetDesk" "arcs" "I") (by decide +kernel)) (fun _ h9 => h9) rfl dX2_cheapestUnseen_8 ?_
    refine lv_icmp_ge (tgt := 55) hx hb dX2_cheapestUnseen_11 (by decide) (fun c_11 => ?_) (fun c_11 => ?_)
    · have t_11 : l4_x5.toInt ≥ iN_arcs.toInt := toI_ge c_11 rfl rfl
      refine lv_iconst (v := 0) hx hb dX2_cheapestUnseen_55 (by decide) ?_
      refine lv_iload_n hx hb dX2_cheapestUnseen_56 rfl (lv_at hl 1 rfl) ?_
      refine va_mmax hx hb (by rw [hml]; exact hl.1.symm) hown (hts (.methodLink RX2 89 Lib.Math.max.name) (by decide +kernel)) (hts (.static Lib.Math.max.name) (by decide +kernel)) (hts (.initialized "java/lang/Math") (by decide +kernel)) (hts (.code Lib.Math.max.name Lib.Math.max.code 2 (some .int)) (by decide +kernel)) (by decide +kernel) (Nat.le_of_ble_eq_true rfl) (by decide +kernel) (by decide +kernel) dX2_cheapestUnseen_57 ?_
      refine lv_topi (fun v25 hv25 => ?_)
      have b_v25 : (0 ≤ v25.toInt ∧ l3_x5.toInt ≤ v25.toInt) ∧ (v25.toInt = 0 ∨ v25.toInt = l3_x5.toInt) := by rw [hv25]; exact max_t (by decide : (0 : Int32).toInt = 0) rfl
      clear hv25
      refine W.widen (k := 0) (n := 0) (by decide +kernel) (by decide +kernel) ?_
      exact W.iret (v := v25) hx hb hr (fun t9_ ht hW => ⟨⟨v25, (), rfl, (by first | assumption | exact ⟨by omega, by omega⟩), by rw [ht]; exact hP, hD⟩, hS.F ht⟩) hS.2.2 dX2_cheapestUnseen_60
    · have t_11 : ¬ l4_x5.toInt ≥ iN_arcs.toInt := toI_nge c_11 rfl rfl
      refine lv_lload_n hx hb dX2_cheapestUnseen_14 rfl (lv_at hl 3 rfl) ?_
      refine lv_iload hx hb dX2_cheapestUnseen_15 (lv_at hl 0 rfl) ?_
      refine lv_lshr hx hb dX2_cheapestUnseen_17 rfl ?_
      refine lv_topl (fun v26 hv26 => ?_)
      clear hv26
      refine lv_lconst (v := 1) hx hb dX2_cheapestUnseen_18 (by decide) ?_
      refine lv_land hx hb dX2_cheapestUnseen_19 ?_
      refine lv_topl (fun v27 hv27 => ?_)
      clear hv27
      refine lv_lconst (v := 0) hx hb dX2_cheapestUnseen_20 (by decide) ?_
      refine W.lcmp hx hb dX2_cheapestUnseen_21 ?_
      refine W.cut (pc := 49) (fun H locs ls stk => ∃ (l3_j12 : Int32), ((-1) ≤ l3_j12.toInt ∧ l3_j12.toInt ≤ 39) ∧  stk = [] ∧ va_P (dC, dI) vwCl (WN hN aN kN iN_arcs fN_from fN_to fN_room fN_cost iN_reached fN_free fN_before fN_flow fN_length fN_stop iN_stops fN_price fN_rest) H ∧ va_D A (WN hN aN kN iN_arcs fN_from fN_to fN_room fN_cost iN_reached fN_free fN_before fN_flow fN_length fN_stop iN_stops fN_price fN_rest) ∧ va_S A s.heap H locs ∧ lv_has ls 5 [(4, .int l4_x5), (3, .int l3_j12), (0, .ref (hN 0)), (1, .long p1)]) (fun join12 => ?_) ?_
      · refine lv_if_ne (tgt := 49) hx hb dX2_cheapestUnseen_22 (by decide) (fun c_22 => ?_) (fun c_22 => ?_)
        · have t_22 : v27.toInt ≠ 0 := toL_ne c_22 rfl (by decide : (0 : Int64).toInt = 0)
          have hl := lv_sub hl [0, 1, 2, 3] (l' := [(4, .int l4_x5), (3, .int l3_x5), (0, .ref (hN 0)), (1, .long p1)]) rfl
          exact join12 _ _ _ _ ⟨l3_x5, (by first | assumption | exact ⟨by omega, by omega⟩), rfl, hP, hD, hS, hl⟩
        · have t_22 : v27.toInt = 0 := toL_nne c_22 rfl (by decide : (0 : Int64).toInt = 0)
          refine lv_iload_n hx hb dX2_cheapestUnseen_25 rfl (lv_at hl 1 rfl) ?_
          refine lv_iconst (v := (-1)) hx hb dX2_cheapestUnseen_26 (by decide) ?_
          refine lv_icmp_eq (tgt := 46) hx hb dX2_cheapestUnseen_27 (by decide) (fun c_27 => ?_) (fun c_27 => ?_)
          · have t_27 : l3_x5.toInt = (-1) := toI_eq c_27 rfl (by decide : ((-1) : Int32).toInt = (-1))
            refine lv_iload hx hb dX2_cheapestUnseen_46 (lv_at hl 0 rfl) ?_
            refine lv_istore_n (lv' := [(3, .int l4_x5), (4, .int l4_x5), (0, .ref (hN 0)), (1, .long p1)]) hx hb dX2_cheapestUnseen_48 rfl hl (by decide) rfl (fun ls hl => ?_)
            have hl := lv_sub hl [1, 0, 2, 3] (l' := [(4, .int l4_x5), (3, .int l4_x5), (0, .ref (hN 0)), (1, .long p1)]) rfl
            exact join12 _ _ _ _ ⟨l4_x5, (by first | assumption | exact ⟨by omega, by omega⟩), rfl, hP, hD, hS, hl⟩
          · have t_27 : ¬ l3_x5.toInt = (-1) := toI_neq c_27 rfl (by decide : ((-1) : Int32).toInt = (-1))
            refine lv_aload_n hx hb dX2_cheapestUnseen_30 rfl (lv_at hl 2 rfl) ?_
            refine va_get (D := (dC, dI)) (ci := 2) (v := .ref (aN 3)) (C := RX2) (T := TX2) (N := 14) hx hb hts iwsMX2_cheapestUnseen_in2 hown hK hP 0 rfl rfl 4 (by decide) (hts (.fieldLink RX2 21 "OptimaWorks$NetDesk" "cost" "[I") (by decide +kernel)) (fun _ h9 => h9) rfl dX2_cheapestUnseen_31 ?_
            refine lv_iload hx hb dX2_cheapestUnseen_34 (lv_at hl 0 rfl) ?_
            refine va_iald (cA := kN 3) (n := 40) (f := fN_cost) hx hb hK hP 4 3 rfl rfl (vp_in_iff.mpr ⟨by omega, by omega⟩) dX2_cheapestUnseen_36 ?_
            refine lv_topi (fun v30 hv30 => ?_)
            clear hv30
            refine lv_aload_n hx hb dX2_cheapestUnseen_37 rfl (lv_at hl 2 rfl) ?_
            refine va_get (D := (dC, dI)) (ci := 2) (v := .ref (aN 3)) (C := RX2) (T := TX2) (N := 14) hx hb hts iwsMX2_cheapestUnseen_in2 hown hK hP 0 rfl rfl 4 (by decide) (hts (.fieldLink RX2 21 "OptimaWorks$NetDesk" "cost" "[I") (by decide +kernel)) (fun _ h9 => h9) rfl dX2_cheapestUnseen_38 ?_
            refine lv_iload_n hx hb dX2_cheapestUnseen_41 rfl (lv_at hl 1 rfl) ?_
            refine va_iald (cA := kN 3) (n := 40) (f := fN_cost) hx hb hK hP 4 3 rfl rfl (vp_in_iff.mpr ⟨by omega, by omega⟩) dX2_cheapestUnseen_42 ?_
            refine lv_topi (fun v31 hv31 => ?_)
            clear hv31
            refine lv_icmp_ge (tgt := 49) hx hb dX2_cheapestUnseen_43 (by decide) (fun c_43 => ?_) (fun c_43 => ?_)
            · have t_43 : v30.toInt ≥ v31.toInt := toI_ge c_43 rfl rfl
              have hl := lv_sub hl [0, 1, 2, 3] (l' := [(4, .int l4_x5), (3, .int l3_x5), (0, .ref (hN 0)), (1, .long p1)]) rfl
              exact join12 _ _ _ _ ⟨l3_x5, (by first | assumption | exact ⟨by omega, by omega⟩), rfl, hP, hD, hS, hl⟩
            · have t_43 : ¬ v30.toInt ≥ v31.toInt := toI_nge c_43 rfl rfl
              refine lv_iload hx hb dX2_cheapestUnseen_46 (lv_at hl 0 rfl) ?_
              refine lv_istore_n (lv' := [(3, .int l4_x5), (4, .int l4_x5), (0, .ref (hN 0)), (1, .long p1)]) hx hb dX2_cheapestUnseen_48 rfl hl (by decide) rfl (fun ls hl => ?_)
              have hl := lv_sub hl [1, 0, 2, 3] (l' := [(4, .int l4_x5), (3, .int l4_x5), (0, .ref (hN 0)), (1, .long p1)]) rfl
              exact join12 _ _ _ _ ⟨l4_x5, (by first | assumption | exact ⟨by omega, by omega⟩), rfl, hP, hD, hS, hl⟩
      · rintro H locs ls stk ⟨l3_j12, b_l3_j12, rfl, hP, hD, hS, hl⟩
        refine lv_iinc (v := (iI (l4_x5.toInt + 1))) (lv' := [(4, .int (iI (l4_x5.toInt + 1))), (3, .int l3_j12), (0, .ref (hN 0)), (1, .long p1)]) hx hb dX2_cheapestUnseen_49 hl (k := 0) rfl (iI_add2 (iI_of _) (by decide : (1 : Int32) = iI 1)) (by decide) rfl (fun ls hl => ?_)
        refine lv_goto (tgt := 5) hx hb dX2_cheapestUnseen_52 (by decide) ?_
        have hl := lv_sub hl [0, 1, 2, 3] (l' := [(4, .int (iI (l4_x5.toInt + 1))), (3, .int l3_j12), (0, .ref (hN 0)), (1, .long p1)]) rfl
        exact ihx5 (iI (l4_x5.toInt + 1)) l3_j12 _ _ _ (iI_rng (by omega) (by omega) (by decide) (by decide)) (by first | assumption | exact ⟨by omega, by omega⟩) (by have e9 : ((iI (l4_x5.toInt + 1))).toInt = (l4_x5.toInt + 1) := (iI_t (by omega) (by omega)); omega) hP hD hS hl
theorem dX2_treeArcs_0 : decode cX2_treeArcs 0 = .ok (.lconst 0, 1) := by decide +kernel
theorem dX2_treeArcs_1 : decode cX2_treeArcs 1 = .ok (.lstore_n 1, 1) := by decide +kernel
theorem dX2_treeArcs_2 : decode cX2_treeArcs 2 = .ok (.lconst 0, 1) := by decide +kernel
theorem dX2_treeArcs_3 : decode cX2_treeArcs 3 = .ok (.lstore_n 3, 1) := by decide +kernel
theorem dX2_treeArcs_4 : decode cX2_treeArcs 4 = .ok (.aload_n 0, 1) := by decide +kernel
theorem dX2_treeArcs_5 : decode cX2_treeArcs 5 = .ok (.getfield 27, 3) := by decide +kernel
theorem dX2_treeArcs_8 : decode cX2_treeArcs 8 = .ok (.astore 5, 2) := by decide +kernel
theorem dX2_treeArcs_10 : decode cX2_treeArcs 10 = .ok (.iconst 0, 1) := by decide +kernel
theorem dX2_treeArcs_11 : decode cX2_treeArcs 11 = .ok (.istore 6, 2) := by decide +kernel
theorem dX2_treeArcs_13 : decode cX2_treeArcs 13 = .ok (.iload 6, 2) := by decide +kernel
theorem dX2_treeArcs_15 : decode cX2_treeArcs 15 = .ok (.bipush 12, 2) := by decide +kernel
theorem dX2_treeArcs_17 : decode cX2_treeArcs 17 = .ok (.if_icmp .ge 16, 3) := by decide +kernel
theorem dX2_treeArcs_20 : decode cX2_treeArcs 20 = .ok (.aload 5, 2) := by decide +kernel
theorem dX2_treeArcs_22 : decode cX2_treeArcs 22 = .ok (.iload 6, 2) := by decide +kernel
theorem dX2_treeArcs_24 : decode cX2_treeArcs 24 = .ok (.iload 6, 2) := by decide +kernel
theorem dX2_treeArcs_26 : decode cX2_treeArcs 26 = .ok (.iastore, 1) := by decide +kernel
theorem dX2_treeArcs_27 : decode cX2_treeArcs 27 = .ok (.iinc 6 1, 3) := by decide +kernel
theorem dX2_treeArcs_30 : decode cX2_treeArcs 30 = .ok (.goto (-17), 3) := by decide +kernel
theorem dX2_treeArcs_33 : decode cX2_treeArcs 33 = .ok (.iconst 0, 1) := by decide +kernel
theorem dX2_treeArcs_34 : decode cX2_treeArcs 34 = .ok (.istore 6, 2) := by decide +kernel
theorem dX2_treeArcs_36 : decode cX2_treeArcs 36 = .ok (.iload 6, 2) := by decide +kernel
theorem dX2_treeArcs_38 : decode cX2_treeArcs 38 = .ok (.aload_n 0, 1) := by decide +kernel
theorem dX2_treeArcs_39 : decode cX2_treeArcs 39 = .ok (.getfield 45, 3) := by decide +kernel
theorem dX2_treeArcs_42 : decode cX2_treeArcs 42 = .ok (.if_icmp .ge 102, 3) := by decide +kernel
theorem dX2_treeArcs_45 : decode cX2_treeArcs 45 = .ok (.aload_n 0, 1) := by decide +kernel
theorem dX2_treeArcs_46 : decode cX2_treeArcs 46 = .ok (.lload_n 3, 1) := by decide +kernel
theorem dX2_treeArcs_47 : decode cX2_treeArcs 47 = .ok (.invokevirtual 85, 3) := by decide +kernel
theorem dX2_treeArcs_50 : decode cX2_treeArcs 50 = .ok (.istore 7, 2) := by decide +kernel
theorem dX2_treeArcs_52 : decode cX2_treeArcs 52 = .ok (.lload_n 3, 1) := by decide +kernel
theorem dX2_treeArcs_53 : decode cX2_treeArcs 53 = .ok (.lconst 1, 1) := by decide +kernel
theorem dX2_treeArcs_54 : decode cX2_treeArcs 54 = .ok (.iload 7, 2) := by decide +kernel
theorem dX2_treeArcs_56 : decode cX2_treeArcs 56 = .ok (.lshl, 1) := by decide +kernel
theorem dX2_treeArcs_57 : decode cX2_treeArcs 57 = .ok (.lor, 1) := by decide +kernel
theorem dX2_treeArcs_58 : decode cX2_treeArcs 58 = .ok (.lstore_n 3, 1) := by decide +kernel
theorem dX2_treeArcs_59 : decode cX2_treeArcs 59 = .ok (.aload 5, 2) := by decide +kernel
theorem dX2_treeArcs_61 : decode cX2_treeArcs 61 = .ok (.aload_n 0, 1) := by decide +kernel
theorem dX2_treeArcs_62 : decode cX2_treeArcs 62 = .ok (.getfield 11, 3) := by decide +kernel
theorem dX2_treeArcs_65 : decode cX2_treeArcs 65 = .ok (.iload 7, 2) := by decide +kernel
theorem dX2_treeArcs_67 : decode cX2_treeArcs 67 = .ok (.iaload, 1) := by decide +kernel
theorem dX2_treeArcs_68 : decode cX2_treeArcs 68 = .ok (.iaload, 1) := by decide +kernel
theorem dX2_treeArcs_69 : decode cX2_treeArcs 69 = .ok (.istore 8, 2) := by decide +kernel
theorem dX2_treeArcs_71 : decode cX2_treeArcs 71 = .ok (.aload 5, 2) := by decide +kernel
theorem dX2_treeArcs_73 : decode cX2_treeArcs 73 = .ok (.aload_n 0, 1) := by decide +kernel
theorem dX2_treeArcs_74 : decode cX2_treeArcs 74 = .ok (.getfield 15, 3) := by decide +kernel
theorem dX2_treeArcs_77 : decode cX2_treeArcs 77 = .ok (.iload 7, 2) := by decide +kernel
theorem dX2_treeArcs_79 : decode cX2_treeArcs 79 = .ok (.iaload, 1) := by decide +kernel
theorem dX2_treeArcs_80 : decode cX2_treeArcs 80 = .ok (.iaload, 1) := by decide +kernel
theorem dX2_treeArcs_81 : decode cX2_treeArcs 81 = .ok (.istore 9, 2) := by decide +kernel
theorem dX2_treeArcs_83 : decode cX2_treeArcs 83 = .ok (.iload 8, 2) := by decide +kernel
theorem dX2_treeArcs_85 : decode cX2_treeArcs 85 = .ok (.iload 9, 2) := by decide +kernel
theorem dX2_treeArcs_87 : decode cX2_treeArcs 87 = .ok (.if_icmp .eq 51, 3) := by decide +kernel
theorem dX2_treeArcs_90 : decode cX2_treeArcs 90 = .ok (.lload_n 1, 1) := by decide +kernel
theorem dX2_treeArcs_91 : decode cX2_treeArcs 91 = .ok (.lconst 1, 1) := by decide +kernel
theorem dX2_treeArcs_92 : decode cX2_treeArcs 92 = .ok (.iload 7, 2) := by decide +kernel
theorem dX2_treeArcs_94 : decode cX2_treeArcs 94 = .ok (.lshl, 1) := by decide +kernel
theorem dX2_treeArcs_95 : decode cX2_treeArcs 95 = .ok (.lor, 1) := by decide +kernel
theorem dX2_treeArcs_96 : decode cX2_treeArcs 96 = .ok (.lstore_n 1, 1) := by decide +kernel
theorem dX2_treeArcs_97 : decode cX2_treeArcs 97 = .ok (.iconst 0, 1) := by decide +kernel
theorem dX2_treeArcs_98 : decode cX2_treeArcs 98 = .ok (.istore 10, 2) := by decide +kernel
theorem dX2_treeArcs_100 : decode cX2_treeArcs 100 = .ok (.iload 10, 2) := by decide +kernel
theorem dX2_treeArcs_102 : decode cX2_treeArcs 102 = .ok (.bipush 12, 2) := by decide +kernel
theorem dX2_treeArcs_104 : decode cX2_treeArcs 104 = .ok (.if_icmp .ge 34, 3) := by decide +kernel
theorem dX2_treeArcs_107 : decode cX2_treeArcs 107 = .ok (.aload 5, 2) := by decide +kernel
theorem dX2_treeArcs_109 : decode cX2_treeArcs 109 = .ok (.iload 10, 2) := by decide +kernel
theorem dX2_treeArcs_111 : decode cX2_treeArcs 111 = .ok (.aload 5, 2) := by decide +kernel
theorem dX2_treeArcs_113 : decode cX2_treeArcs 113 = .ok (.iload 10, 2) := by decide +kernel
theorem dX2_treeArcs_115 : decode cX2_treeArcs 115 = .ok (.iaload, 1) := by decide +kernel
theorem dX2_treeArcs_116 : decode cX2_treeArcs 116 = .ok (.iload 8, 2) := by decide +kernel
theorem dX2_treeArcs_118 : decode cX2_treeArcs 118 = .ok (.if_icmp .ne 8, 3) := by decide +kernel
theorem dX2_treeArcs_121 : decode cX2_treeArcs 121 = .ok (.iload 9, 2) := by decide +kernel
theorem dX2_treeArcs_123 : decode cX2_treeArcs 123 = .ok (.goto 8, 3) := by decide +kernel
theorem dX2_treeArcs_126 : decode cX2_treeArcs 126 = .ok (.aload 5, 2) := by decide +kernel
theorem dX2_treeArcs_128 : decode cX2_treeArcs 128 = .ok (.iload 10, 2) := by decide +kernel
theorem dX2_treeArcs_130 : decode cX2_treeArcs 130 = .ok (.iaload, 1) := by decide +kernel
theorem dX2_treeArcs_131 : decode cX2_treeArcs 131 = .ok (.iastore, 1) := by decide +kernel
theorem dX2_treeArcs_132 : decode cX2_treeArcs 132 = .ok (.iinc 10 1, 3) := by decide +kernel
theorem dX2_treeArcs_135 : decode cX2_treeArcs 135 = .ok (.goto (-35), 3) := by decide +kernel
theorem dX2_treeArcs_138 : decode cX2_treeArcs 138 = .ok (.iinc 6 1, 3) := by decide +kernel
theorem dX2_treeArcs_141 : decode cX2_treeArcs 141 = .ok (.goto (-105), 3) := by decide +kernel
theorem dX2_treeArcs_144 : decode cX2_treeArcs 144 = .ok (.lload_n 1, 1) := by decide +kernel
theorem dX2_treeArcs_145 : decode cX2_treeArcs 145 = .ok (.lreturn, 1) := by decide +kernel
def wsMX2_treeArcs : List Cond := .code yX2_treeArcs cX2_treeArcs 11 (some .long) :: ([.fieldLink RX2 27 "OptimaWorks$NetDesk" "before" "[I", .fieldLink RX2 45 "OptimaWorks$NetDesk" "arcs" "I", .fieldLink RX2 11 "OptimaWorks$NetDesk" "from" "[I", .fieldLink RX2 15 "OptimaWorks$NetDesk" "to" "[I"] ++ wsX20 ++ (wsV RX2 85 RX2 yX2_cheapestUnseen wsMX2_cheapestUnseen))
theorem iwsMX2_treeArcs_in2 : ∀ w ∈ wsX20, w ∈ wsMX2_treeArcs := fun _ h => List.mem_cons_of_mem _ (List.mem_append_left _ (List.mem_append_right _ h))
theorem gwsMX2_treeArcs_0 : GoodIn wsMX2_treeArcs (wsV RX2 85 RX2 yX2_cheapestUnseen wsMX2_cheapestUnseen) := goodIn_sub (fun _ h => List.mem_cons_of_mem _ (List.mem_append_right _ h)) (gdV (by decide +kernel) gdwsMX2_cheapestUnseen)
theorem gdwsMX2_treeArcs : wsMX2_treeArcs.all goodWord = true := gdC rfl (gdA (gdA (by decide +kernel : ([.fieldLink RX2 27 "OptimaWorks$NetDesk" "before" "[I", .fieldLink RX2 45 "OptimaWorks$NetDesk" "arcs" "I", .fieldLink RX2 11 "OptimaWorks$NetDesk" "from" "[I", .fieldLink RX2 15 "OptimaWorks$NetDesk" "to" "[I"] : List Cond).all goodWord = true) gdwsX20) (gdV (by decide +kernel) gdwsMX2_cheapestUnseen))
set_option maxHeartbeats 4000000 in
set_option maxRecDepth 100000 in
/-- a tree -/
theorem m_X2_treeArcs (l : Launch) (dC : Nat → ClassId) (dI : Nat → Nat → Nat) (hN : Nat → Nat) (aN : Nat → Nat) (kN : Nat → ClassId) (iN_arcs : Int32) (fN_from : Nat → Int32) (fN_to : Nat → Int32) (fN_room : Nat → Int32) (fN_cost : Nat → Int32) (iN_reached : Int32) (fN_free : Nat → Int32) (fN_before : Nat → Int32) (fN_flow : Nat → Int32) (fN_length : Nat → Int32) (fN_stop : Nat → Int32) (iN_stops : Int32) (fN_price : Nat → Int32) (fN_rest : Nat → Int32) (b_iN_arcs : 0 ≤ iN_arcs.toInt ∧ iN_arcs.toInt ≤ 40) (b_fN_from : ∀ q : Nat, 0 ≤ (fN_from q).toInt ∧ (fN_from q).toInt ≤ 11) (b_fN_to : ∀ q : Nat, 0 ≤ (fN_to q).toInt ∧ (fN_to q).toInt ≤ 11) (b_fN_before : ∀ q : Nat, 0 ≤ (fN_before q).toInt ∧ (fN_before q).toInt ≤ 79) (b_fN_stop : ∀ q : Nat, 0 ≤ (fN_stop q).toInt ∧ (fN_stop q).toInt ≤ 11) (b_iN_stops : 0 ≤ iN_stops.toInt ∧ iN_stops.toInt ≤ 8) (sz : Nat) : Met l yX2_treeArcs wsMX2_treeArcs ({ frames := 2, cells := 0, slots := 0, locals := 37 }) (va_Pc [.ref (hN 0)] (fun U => U.heap.size = sz ∧ va_P (dC, dI) vwCl (WN hN aN kN iN_arcs fN_from fN_to fN_room fN_cost iN_reached fN_free fN_before fN_flow fN_length fN_stop iN_stops fN_price fN_rest) U.heap ∧ va_K (dC, dI) vwCl (tN kN) U ∧ va_D (fun _ => True) (WN hN aN kN iN_arcs fN_from fN_to fN_room fN_cost iN_reached fN_free fN_before fN_flow fN_length fN_stop iN_stops fN_price fN_rest))) (va_Ql (fun (r : Int64) (u : Nat → Int32) => (∀ q : Nat, 0 ≤ (u q).toInt ∧ (u q).toInt ≤ 79)) (fun (u : Nat → Int32) t => va_P (dC, dI) vwCl (WN hN aN kN iN_arcs fN_from fN_to fN_room fN_cost iN_reached fN_free u fN_flow fN_length fN_stop iN_stops fN_price fN_rest) t.heap ∧ va_D (va_A (WN hN aN kN iN_arcs fN_from fN_to fN_room fN_cost iN_reached fN_free fN_before fN_flow fN_length fN_stop iN_stops fN_price fN_rest) sz) (WN hN aN kN iN_arcs fN_from fN_to fN_room fN_cost iN_reached fN_free u fN_flow fN_length fN_stop iN_stops fN_price fN_rest)) (va_A (WN hN aN kN iN_arcs fN_from fN_to fN_room fN_cost iN_reached fN_free fN_before fN_flow fN_length fN_stop iN_stops fN_price fN_rest) sz)) 0 0 (va_A (WN hN aN kN iN_arcs fN_from fN_to fN_room fN_cost iN_reached fN_free fN_before fN_flow fN_length fN_stop iN_stops fN_price fN_rest) sz) := by
  refine Met.ofW (cc := cX2_treeArcs) (maxL := 11) (ret := (some .long)) (by decide) rfl ?_
  intro p e s m args below meth c s₁ B hml hv
  obtain ⟨rfl, hsz, hP, hK, hD0⟩ := hv
  have hx := B.exec
  have hb := B.bytes
  have hr := B.returns
  have hts := atoms_spec (ws := wsMX2_treeArcs) B.pre
  have hown : s.vm.findClass RX2 = some m.cls := findClass_of_methodNamed B.named
  have hlocks := B.notSynchronized
  subst hsz
  have hD := hD0.self (sz := s.heap.size)
  generalize hAe : va_A (WN hN aN kN iN_arcs fN_from fN_to fN_room fN_cost iN_reached fN_free fN_before fN_flow fN_length fN_stop iN_stops fN_price fN_rest) s.heap.size = A at hD ⊢
  have hA : ∀ q : Nat, s.heap.size ≤ q → A q := fun q h => by rw [← hAe]; exact Or.inr h
  have hS : va_S A s.heap s.heap [] := va_S.rf
  have hl := lv_entry ([.ref (hN 0)]) (n := 11) (Nat.le_of_ble_eq_true rfl)
  rw [lg_entry_eq]
  generalize (lg_sl ([.ref (hN 0)]) ++ List.replicate (11 - (lg_sl ([.ref (hN 0)])).length) Slot.unset).toArray = ls at hl ⊢
  have hl : lv_has ls 11 [(0, .ref (hN 0))] := hl
  refine lv_lconst (v := 0) hx hb dX2_treeArcs_0 (by decide) ?_
  refine lv_lstore_n (lv' := [(1, .long 0), (0, .ref (hN 0))]) hx hb dX2_treeArcs_1 rfl hl (by decide) rfl (fun ls hl => ?_)
  refine lv_lconst (v := 0) hx hb dX2_treeArcs_2 (by decide) ?_
  refine lv_lstore_n (lv' := [(3, .long 0), (1, .long 0), (0, .ref (hN 0))]) hx hb dX2_treeArcs_3 rfl hl (by decide) rfl (fun ls hl => ?_)
  refine lv_aload_n hx hb dX2_treeArcs_4 rfl (lv_at hl 2 rfl) ?_
  refine va_get (D := (dC, dI)) (ci := 2) (v := .ref (aN 5)) (C := RX2) (T := TX2) (N := 14) hx hb hts iwsMX2_treeArcs_in2 hown hK hP 0 rfl rfl 7 (by decide) (hts (.fieldLink RX2 27 "OptimaWorks$NetDesk" "before" "[I") (by decide +kernel)) (fun _ h9 => h9) rfl dX2_treeArcs_5 ?_
  refine lv_astore (lv' := [(5, .ref (aN 5)), (3, .long 0), (1, .long 0), (0, .ref (hN 0))]) hx hb dX2_treeArcs_8 hl (by decide) rfl (fun ls hl => ?_)
  refine lv_iconst (v := 0) hx hb dX2_treeArcs_10 (by decide) ?_
  refine lv_istore (lv' := [(6, .int 0), (5, .ref (aN 5)), (3, .long 0), (1, .long 0), (0, .ref (hN 0))]) hx hb dX2_treeArcs_11 hl (by decide) rfl (fun ls hl => ?_)
  have hl := lv_sub hl [0, 1, 2, 3, 4] (l' := [(6, .int 0), (5, .ref (aN 5)), (3, .long 0), (1, .long 0), (0, .ref (hN 0))]) rfl
  refine (fun (loop : ∀ (n9 : Nat) (fN_before_x13 : Nat → Int32) (l6_x13 : Int32) (H : Heap) (locs : List Loc) (ls : Array Slot), (∀ q : Nat, 0 ≤ (fN_before_x13 q).toInt ∧ (fN_before_x13 q).toInt ≤ 79) → (0 ≤ l6_x13.toInt ∧ l6_x13.toInt ≤ 40) → (40 - l6_x13.toInt < ((n9 : Nat) : Int)) → va_P (dC, dI) vwCl (WN hN aN kN iN_arcs fN_from fN_to fN_room fN_cost iN_reached fN_free fN_before_x13 fN_flow fN_length fN_stop iN_stops fN_price fN_rest) H → va_D A (WN hN aN kN iN_arcs fN_from fN_to fN_room fN_cost iN_reached fN_free fN_before_x13 fN_flow fN_length fN_stop iN_stops fN_price fN_rest) → va_S A s.heap H locs → lv_has ls 11 [(6, .int l6_x13), (5, .ref (aN 5)), (3, .long 0), (1, .long 0), (0, .ref (hN 0))] → W p l e _ s m _ below meth c H locs 0 0 _ (F0 m 13 ls [])) => loop (41) fN_before 0 _ _ _ b_fN_before (show 0 ≤ (0 : Int32).toInt ∧ (0 : Int32).toInt ≤ 40 from by decide) ((by have e9 : (0 : Int32).toInt = 0 := (by decide : (0 : Int32).toInt = 0); omega)) hP hD hS hl) ?_
  intro n9
  induction n9 with
  | zero => intro fN_before_x13 l6_x13 H locs ls b_fN_before_x13 b_l6_x13 hf9; exact False.elim (by omega)
  | succ n9 ihx13 =>
    intro fN_before_x13 l6_x13 H locs ls b_fN_before_x13 b_l6_x13 hfx13 hP hD hS hl
    refine lv_iload hx hb dX2_treeArcs_13 (lv_at hl 0 rfl) ?_
    refine lv_bipush (v := 12) hx hb dX2_treeArcs_15 (by decide) ?_
    refine lv_icmp_ge (tgt := 33) hx hb dX2_treeArcs_17 (by decide) (fun c_17 => ?_) (fun c_17 => ?_)
    · have t_17 : l6_x13.toInt ≥ 12 := toI_ge c_17 rfl (by decide : (12 : Int32).toInt = 12)
      refine lv_iconst (v := 0) hx hb dX2_treeArcs_33 (by decide) ?_
      refine lv_istore (lv' := [(6, .int 0), (5, .ref (aN 5)), (3, .long 0), (1, .long 0), (0, .ref (hN 0))]) hx hb dX2_treeArcs_34 hl (by decide) rfl (fun ls hl => ?_)
      have hl := lv_sub hl [0, 1, 2, 3, 4] (l' := [(6, .int 0), (5, .ref (aN 5)), (3, .long 0), (1, .long 0), (0, .ref (hN 0))]) rfl
      refine (fun (loop : ∀ (n9 : Nat) (fN_before_x36 : Nat → Int32) (l6_x36 : Int32) (l3_x36 : Int64) (l1_x36 : Int64) (H : Heap) (locs : List Loc) (ls : Array Slot), (∀ q : Nat, 0 ≤ (fN_before_x36 q).toInt ∧ (fN_before_x36 q).toInt ≤ 79) → (0 ≤ l6_x36.toInt ∧ l6_x36.toInt ≤ 40) → (40 - l6_x36.toInt < ((n9 : Nat) : Int)) → va_P (dC, dI) vwCl (WN hN aN kN iN_arcs fN_from fN_to fN_room fN_cost iN_reached fN_free fN_before_x36 fN_flow fN_length fN_stop iN_stops fN_price fN_rest) H → va_D A (WN hN aN kN iN_arcs fN_from fN_to fN_room fN_cost iN_reached fN_free fN_before_x36 fN_flow fN_length fN_stop iN_stops fN_price fN_rest) → va_S A s.heap H locs → lv_has ls 11 [(6, .int l6_x36), (5, .ref (aN 5)), (3, .long l3_x36), (1, .long l1_x36), (0, .ref (hN 0))] → W p l e _ s m _ below meth c H locs 0 0 _ (F0 m 36 ls [])) => loop (41) fN_before_x13 0 0 0 _ _ _ b_fN_before_x13 (show 0 ≤ (0 : Int32).toInt ∧ (0 : Int32).toInt ≤ 40 from by decide) ((by have e9 : (0 : Int32).toInt = 0 := (by decide : (0 : Int32).toInt = 0); omega)) hP hD hS hl) ?_
      intro n9
      induction n9 with
      | zero => intro fN_before_x36 l6_x36 l3_x36 l1_x36 H locs ls b_fN_before_x36 b_l6_x36 hf9; exact False.elim (by omega)
      | succ n9 ihx36 =>
        intro fN_before_x36 l6_x36 l3_x36 l1_x36 H locs ls b_fN_before_x36 b_l6_x36 hfx36 hP hD hS hl
        refine lv_iload hx hb dX2_treeArcs_36 (lv_at hl 0 rfl) ?_
        refine lv_aload_n hx hb dX2_treeArcs_38 rfl (lv_at hl 4 rfl) ?_
        refine va_get (D := (dC, dI)) (ci := 2) (v := .int iN_arcs) (C := RX2) (T := TX2) (N := 14) hx hb hts iwsMX2_treeArcs_in2 hown hK hP 0 rfl rfl 0 (by decide) (hts (.fieldLink RX2 45 "OptimaWorks$NetDesk" "arcs" "I") (by decide +kernel)) (fun _ h9 => h9) rfl dX2_treeArcs_39 ?_
        refine lv_icmp_ge (tgt := 144) hx hb dX2_treeArcs_42 (by decide) (fun c_42 => ?_) (fun c_42 => ?_)
        · have t_42 : l6_x36.toInt ≥ iN_arcs.toInt := toI_ge c_42 rfl rfl
          refine lv_lload_n hx hb dX2_treeArcs_144 rfl (lv_at hl 3 rfl) ?_
          refine W.widen (k := 0) (n := 0) (by decide +kernel) (by decide +kernel) ?_
          exact W.lret (v := l1_x36) hx hb hr (fun t9_ ht hW => ⟨⟨l1_x36, fN_before_x36, rfl, b_fN_before_x36, by rw [ht]; exact hP, hD⟩, hS.F ht⟩) hS.2.2 dX2_treeArcs_145
        · have t_42 : ¬ l6_x36.toInt ≥ iN_arcs.toInt := toI_nge c_42 rfl rfl
          refine lv_aload_n hx hb dX2_treeArcs_45 rfl (lv_at hl 4 rfl) ?_
          refine lv_lload_n hx hb dX2_treeArcs_46 rfl (lv_at hl 2 rfl) ?_
          have hFc := allFree hD hS hA
          refine va_calli (va_runV (As := [.long l3_x36]) (rest := []) ⟨hx, hb, hml, hown, hts⟩ (m_X2_cheapestUnseen l dC dI hN aN kN iN_arcs fN_from fN_to fN_room fN_cost iN_reached fN_free fN_before_x36 fN_flow fN_length fN_stop iN_stops fN_price fN_rest l3_x36 (by first | assumption | exact ⟨by omega, by omega⟩) b_fN_from b_fN_to b_fN_before_x36 b_fN_stop (by first | assumption | exact ⟨by omega, by omega⟩) H.size) (cwV 1 hts gwsMX2_treeArcs_0 rfl rfl rfl (by decide +kernel) ⟨by decide +kernel, by decide +kernel⟩) ⟨fun a U g mk q => by obtain ⟨q0, q1, qP, qK, qD⟩ := q; exact ⟨q0, q1, qP, va_K.moved (u := U) (U := U.calling g mk a) (Vm.Alike.refl U.vm) qK, qD⟩, va_recv hK hP (ci := 2) (q0 := 0) rfl rfl, fun U hU9 hW => ⟨rfl, by rw [hU9], by rw [hU9]; exact hP, va_K.moved hW.alike hK, hD.weaken (fun _ _ _ _ => trivial)⟩⟩ rfl rfl hl.1 rfl (lv_room (Nat.le_of_ble_eq_true rfl)) dX2_treeArcs_47 ⟨by decide +kernel, by decide +kernel⟩) hS (fun q _ h => hFc q h) hFc (fun r390 u t9_ H1 locs ht hvm hw9 hB9 hz1 hk1 hS => ?_)
          have b_r390 := hw9
          try dsimp only at b_r390
          obtain ⟨hP1, hD1⟩ := hB9
          rw [ht] at hP1
          have hP := hP1
          have hD := hD1.weaken (fun _ q _ h => hFc q.1 h)
          generalize H1 = H at hP hS ⊢
          have hP : va_P (dC, dI) vwCl (WN hN aN kN iN_arcs fN_from fN_to fN_room fN_cost iN_reached fN_free fN_before_x36 fN_flow fN_length fN_stop iN_stops fN_price fN_rest) H := hP
          have hD : va_D A (WN hN aN kN iN_arcs fN_from fN_to fN_room fN_cost iN_reached fN_free fN_before_x36 fN_flow fN_length fN_stop iN_stops fN_price fN_rest) := hD
          refine lv_istore (lv' := [(7, .int r390), (6, .int l6_x36), (5, .ref (aN 5)), (3, .long l3_x36), (1, .long l1_x36), (0, .ref (hN 0))]) hx hb dX2_treeArcs_50 hl (by decide) rfl (fun ls hl => ?_)
          refine lv_lload_n hx hb dX2_treeArcs_52 rfl (lv_at hl 3 rfl) ?_
          refine lv_lconst (v := 1) hx hb dX2_treeArcs_53 (by decide) ?_
          refine lv_iload hx hb dX2_treeArcs_54 (lv_at hl 0 rfl) ?_
          refine lv_lshl hx hb dX2_treeArcs_56 rfl ?_
          refine lv_topl (fun v391 hv391 => ?_)
          clear hv391
          refine lv_lor hx hb dX2_treeArcs_57 ?_
          refine lv_topl (fun v392 hv392 => ?_)
          clear hv392
          refine lv_lstore_n (lv' := [(3, .long v392), (7, .int r390), (6, .int l6_x36), (5, .ref (aN 5)), (1, .long l1_x36), (0, .ref (hN 0))]) hx hb dX2_treeArcs_58 rfl hl (by decide) rfl (fun ls hl => ?_)
          refine lv_aload hx hb dX2_treeArcs_59 (lv_at hl 3 rfl) ?_
          refine lv_aload_n hx hb dX2_treeArcs_61 rfl (lv_at hl 5 rfl) ?_
          refine va_get (D := (dC, dI)) (ci := 2) (v := .ref (aN 0)) (C := RX2) (T := TX2) (N := 14) hx hb hts iwsMX2_treeArcs_in2 hown hK hP 0 rfl rfl 1 (by decide) (hts (.fieldLink RX2 11 "OptimaWorks$NetDesk" "from" "[I") (by decide +kernel)) (fun _ h9 => h9) rfl dX2_treeArcs_62 ?_
          refine lv_iload hx hb dX2_treeArcs_65 (lv_at hl 1 rfl) ?_
          refine va_iald (cA := kN 0) (n := 40) (f := fN_from) hx hb hK hP 1 0 rfl rfl (vp_in_iff.mpr ⟨by omega, by omega⟩) dX2_treeArcs_67 ?_
          refine lv_topi (fun v393 hv393 => ?_)
          have b_v393 : 0 ≤ v393.toInt ∧ v393.toInt ≤ 11 := by rw [hv393]; exact b_fN_from _
          clear hv393
          refine va_iald (cA := kN 5) (n := 12) (f := fN_before_x36) hx hb hK hP 6 5 rfl rfl (vp_in_iff.mpr ⟨by omega, by omega⟩) dX2_treeArcs_68 ?_
          refine lv_topi (fun v394 hv394 => ?_)
          have b_v394 : 0 ≤ v394.toInt ∧ v394.toInt ≤ 79 := by rw [hv394]; exact b_fN_before_x36 _
          clear hv394
          refine lv_istore (lv' := [(8, .int v394), (3, .long v392), (7, .int r390), (6, .int l6_x36), (5, .ref (aN 5)), (1, .long l1_x36), (0, .ref (hN 0))]) hx hb dX2_treeArcs_69 hl (by decide) rfl (fun ls hl => ?_)
          refine lv_aload hx hb dX2_treeArcs_71 (lv_at hl 4 rfl) ?_
          refine lv_aload_n hx hb dX2_treeArcs_73 rfl (lv_at hl 6 rfl) ?_
          refine va_get (D := (dC, dI)) (ci := 2) (v := .ref (aN 1)) (C := RX2) (T := TX2) (N := 14) hx hb hts iwsMX2_treeArcs_in2 hown hK hP 0 rfl rfl 2 (by decide) (hts (.fieldLink RX2 15 "OptimaWorks$NetDesk" "to" "[I") (by decide +kernel)) (fun _ h9 => h9) rfl dX2_treeArcs_74 ?_
          refine lv_iload hx hb dX2_treeArcs_77 (lv_at hl 2 rfl) ?_
          refine va_iald (cA := kN 1) (n := 40) (f := fN_to) hx hb hK hP 2 1 rfl rfl (vp_in_iff.mpr ⟨by omega, by omega⟩) dX2_treeArcs_79 ?_
          refine lv_topi (fun v395 hv395 => ?_)
          have b_v395 : 0 ≤ v395.toInt ∧ v395.toInt ≤ 11 := by rw [hv395]; exact b_fN_to _
          clear hv395
          refine va_iald (cA := kN 5) (n := 12) (f := fN_before_x36) hx hb hK hP 6 5 rfl rfl (vp_in_iff.mpr ⟨by omega, by omega⟩) dX2_treeArcs_80 ?_
          refine lv_topi (fun v396 hv396 => ?_)
          have b_v396 : 0 ≤ v396.toInt ∧ v396.toInt ≤ 79 := by rw [hv396]; exact b_fN_before_x36 _
          clear hv396
          refine lv_istore (lv' := [(9, .int v396), (8, .int v394), (3, .long v392), (7, .int r390), (6, .int l6_x36), (5, .ref (aN 5)), (1, .long l1_x36), (0, .ref (hN 0))]) hx hb dX2_treeArcs_81 hl (by decide) rfl (fun ls hl => ?_)
          refine lv_iload hx hb dX2_treeArcs_83 (lv_at hl 1 rfl) ?_
          refine lv_iload hx hb dX2_treeArcs_85 (lv_at hl 0 rfl) ?_
          refine W.cut (pc := 138) (fun H locs ls stk => ∃ (fN_before_j165 : Nat → Int32) (l1_j165 : Int64), (∀ q : Nat, 0 ≤ (fN_before_j165 q).toInt ∧ (fN_before_j165 q).toInt ≤ 79) ∧  stk = [] ∧ va_P (dC, dI) vwCl (WN hN aN kN iN_arcs fN_from fN_to fN_room fN_cost iN_reached fN_free fN_before_j165 fN_flow fN_length fN_stop iN_stops fN_price fN_rest) H ∧ va_D A (WN hN aN kN iN_arcs fN_from fN_to fN_room fN_cost iN_reached fN_free fN_before_j165 fN_flow fN_length fN_stop iN_stops fN_price fN_rest) ∧ va_S A s.heap H locs ∧ lv_has ls 11 [(9, .int v396), (8, .int v394), (3, .long v392), (7, .int r390), (6, .int l6_x36), (5, .ref (aN 5)), (1, .long l1_j165), (0, .ref (hN 0))]) (fun join165 => ?_) ?_
          · refine lv_icmp_eq (tgt := 138) hx hb dX2_treeArcs_87 (by decide) (fun c_87 => ?_) (fun c_87 => ?_)
            · have t_87 : v394.toInt = v396.toInt := toI_eq c_87 rfl rfl
              have hl := lv_sub hl [0, 1, 2, 3, 4, 5, 6, 7] (l' := [(9, .int v396), (8, .int v394), (3, .long v392), (7, .int r390), (6, .int l6_x36), (5, .ref (aN 5)), (1, .long l1_x36), (0, .ref (hN 0))]) rfl
              exact join165 _ _ _ _ ⟨fN_before_x36, l1_x36, b_fN_before_x36, rfl, hP, hD, hS, hl⟩
            · have t_87 : ¬ v394.toInt = v396.toInt := toI_neq c_87 rfl rfl
              refine lv_lload_n hx hb dX2_treeArcs_90 rfl (lv_at hl 6 rfl) ?_
              refine lv_lconst (v := 1) hx hb dX2_treeArcs_91 (by decide) ?_
              refine lv_iload hx hb dX2_treeArcs_92 (lv_at hl 3 rfl) ?_
              refine lv_lshl hx hb dX2_treeArcs_94 rfl ?_
              refine lv_topl (fun v411 hv411 => ?_)
              clear hv411
              refine lv_lor hx hb dX2_treeArcs_95 ?_
              refine lv_topl (fun v412 hv412 => ?_)
              clear hv412
              refine lv_lstore_n (lv' := [(1, .long v412), (9, .int v396), (8, .int v394), (3, .long v392), (7, .int r390), (6, .int l6_x36), (5, .ref (aN 5)), (0, .ref (hN 0))]) hx hb dX2_treeArcs_96 rfl hl (by decide) rfl (fun ls hl => ?_)
              refine lv_iconst (v := 0) hx hb dX2_treeArcs_97 (by decide) ?_
              refine lv_istore (lv' := [(10, .int 0), (1, .long v412), (9, .int v396), (8, .int v394), (3, .long v392), (7, .int r390), (6, .int l6_x36), (5, .ref (aN 5)), (0, .ref (hN 0))]) hx hb dX2_treeArcs_98 hl (by decide) rfl (fun ls hl => ?_)
              have hl := lv_sub hl [0, 1, 2, 3, 4, 5, 6, 7, 8] (l' := [(10, .int 0), (1, .long v412), (9, .int v396), (8, .int v394), (3, .long v392), (7, .int r390), (6, .int l6_x36), (5, .ref (aN 5)), (0, .ref (hN 0))]) rfl
              refine (fun (loop : ∀ (n9 : Nat) (fN_before_x100 : Nat → Int32) (l10_x100 : Int32) (H : Heap) (locs : List Loc) (ls : Array Slot), (∀ q : Nat, 0 ≤ (fN_before_x100 q).toInt ∧ (fN_before_x100 q).toInt ≤ 79) → (0 ≤ l10_x100.toInt ∧ l10_x100.toInt ≤ 12) → (12 - l10_x100.toInt < ((n9 : Nat) : Int)) → va_P (dC, dI) vwCl (WN hN aN kN iN_arcs fN_from fN_to fN_room fN_cost iN_reached fN_free fN_before_x100 fN_flow fN_length fN_stop iN_stops fN_price fN_rest) H → va_D A (WN hN aN kN iN_arcs fN_from fN_to fN_room fN_cost iN_reached fN_free fN_before_x100 fN_flow fN_length fN_stop iN_stops fN_price fN_rest) → va_S A s.heap H locs → lv_has ls 11 [(10, .int l10_x100), (1, .long v412), (9, .int v396), (8, .int v394), (3, .long v392), (7, .int r390), (6, .int l6_x36), (5, .ref (aN 5)), (0, .ref (hN 0))] → W p l e _ s m _ below meth c H locs 0 0 _ (F0 m 100 ls [])) => loop (13) fN_before_x36 0 _ _ _ b_fN_before_x36 (show 0 ≤ (0 : Int32).toInt ∧ (0 : Int32).toInt ≤ 12 from by decide) ((by have e9 : (0 : Int32).toInt = 0 := (by decide : (0 : Int32).toInt = 0); omega)) hP hD hS hl) ?_
              intro n9
              induction n9 with
              | zero => intro fN_before_x100 l10_x100 H locs ls b_fN_before_x100 b_l10_x100 hf9; exact False.elim (by omega)
              | succ n9 ihx100 =>
                intro fN_before_x100 l10_x100 H locs ls b_fN_before_x100 b_l10_x100 hfx100 hP hD hS hl
                refine lv_iload hx hb dX2_treeArcs_100 (lv_at hl 0 rfl) ?_
                refine lv_bipush (v := 12) hx hb dX2_treeArcs_102 (by decide) ?_
                refine lv_icmp_ge (tgt := 138) hx hb dX2_treeArcs_104 (by decide) (fun c_104 => ?_) (fun c_104 => ?_)
                · have t_104 : l10_x100.toInt ≥ 12 := toI_ge c_104 rfl (by decide : (12 : Int32).toInt = 12)
                  have hl := lv_sub hl [2, 3, 4, 5, 6, 7, 1, 8] (l' := [(9, .int v396), (8, .int v394), (3, .long v392), (7, .int r390), (6, .int l6_x36), (5, .ref (aN 5)), (1, .long v412), (0, .ref (hN 0))]) rfl
                  exact join165 _ _ _ _ ⟨fN_before_x100, v412, b_fN_before_x100, rfl, hP, hD, hS, hl⟩
                · have t_104 : ¬ l10_x100.toInt ≥ 12 := toI_nge c_104 rfl (by decide : (12 : Int32).toInt = 12)
                  refine lv_aload hx hb dX2_treeArcs_107 (lv_at hl 7 rfl) ?_
                  refine lv_iload hx hb dX2_treeArcs_109 (lv_at hl 0 rfl) ?_
                  refine lv_aload hx hb dX2_treeArcs_111 (lv_at hl 7 rfl) ?_
                  refine lv_iload hx hb dX2_treeArcs_113 (lv_at hl 0 rfl) ?_
                  refine va_iald (cA := kN 5) (n := 12) (f := fN_before_x100) hx hb hK hP 6 5 rfl rfl (vp_in_iff.mpr ⟨by omega, by omega⟩) dX2_treeArcs_115 ?_
                  refine lv_topi (fun v421 hv421 => ?_)
                  have b_v421 : 0 ≤ v421.toInt ∧ v421.toInt ≤ 79 := by rw [hv421]; exact b_fN_before_x100 _
                  clear hv421
                  refine lv_iload hx hb dX2_treeArcs_116 (lv_at hl 3 rfl) ?_
                  refine W.cut (pc := 131) (fun H locs ls stk => ∃ (k0_j168 : Int32), (0 ≤ k0_j168.toInt ∧ k0_j168.toInt ≤ 79) ∧  stk = [.int k0_j168, .int l10_x100, .ref (aN 5)] ∧ va_P (dC, dI) vwCl (WN hN aN kN iN_arcs fN_from fN_to fN_room fN_cost iN_reached fN_free fN_before_x100 fN_flow fN_length fN_stop iN_stops fN_price fN_rest) H ∧ va_D A (WN hN aN kN iN_arcs fN_from fN_to fN_room fN_cost iN_reached fN_free fN_before_x100 fN_flow fN_length fN_stop iN_stops fN_price fN_rest) ∧ va_S A s.heap H locs ∧ lv_has ls 11 [(10, .int l10_x100), (1, .long v412), (9, .int v396), (8, .int v394), (3, .long v392), (7, .int r390), (6, .int l6_x36), (5, .ref (aN 5)), (0, .ref (hN 0))]) (fun join168 => ?_) ?_
                  · refine lv_icmp_ne (tgt := 126) hx hb dX2_treeArcs_118 (by decide) (fun c_118 => ?_) (fun c_118 => ?_)
                    · have t_118 : v421.toInt ≠ v394.toInt := toI_ne c_118 rfl rfl
                      refine lv_aload hx hb dX2_treeArcs_126 (lv_at hl 7 rfl) ?_
                      refine lv_iload hx hb dX2_treeArcs_128 (lv_at hl 0 rfl) ?_
                      refine va_iald (cA := kN 5) (n := 12) (f := fN_before_x100) hx hb hK hP 6 5 rfl rfl (vp_in_iff.mpr ⟨by omega, by omega⟩) dX2_treeArcs_130 ?_
                      refine lv_topi (fun v423 hv423 => ?_)
                      have b_v423 : 0 ≤ v423.toInt ∧ v423.toInt ≤ 79 := by rw [hv423]; exact b_fN_before_x100 _
                      clear hv423
                      have hl := lv_sub hl [0, 1, 2, 3, 4, 5, 6, 7, 8] (l' := [(10, .int l10_x100), (1, .long v412), (9, .int v396), (8, .int v394), (3, .long v392), (7, .int r390), (6, .int l6_x36), (5, .ref (aN 5)), (0, .ref (hN 0))]) rfl
                      exact join168 _ _ _ _ ⟨v423, (by first | assumption | exact ⟨by omega, by omega⟩), rfl, hP, hD, hS, hl⟩
                    · have t_118 : v421.toInt = v394.toInt := toI_nne c_118 rfl rfl
                      refine lv_iload hx hb dX2_treeArcs_121 (lv_at hl 2 rfl) ?_
                      refine lv_goto (tgt := 131) hx hb dX2_treeArcs_123 (by decide) ?_
                      have hl := lv_sub hl [0, 1, 2, 3, 4, 5, 6, 7, 8] (l' := [(10, .int l10_x100), (1, .long v412), (9, .int v396), (8, .int v394), (3, .long v392), (7, .int r390), (6, .int l6_x36), (5, .ref (aN 5)), (0, .ref (hN 0))]) rfl
                      exact join168 _ _ _ _ ⟨v396, (by first | assumption | exact ⟨by omega, by omega⟩), rfl, hP, hD, hS, hl⟩
                  · rintro H locs ls stk ⟨k0_j168, b_k0_j168, rfl, hP, hD, hS, hl⟩
                    refine va_iast (cA := kN 5) (n := 12) (f := fN_before_x100) hx hb hK hP hD hS 6 5 rfl rfl (vp_in_iff.mpr ⟨by omega, by omega⟩) dX2_treeArcs_131 (fun H locs hP hD hS => ?_)
                    obtain ⟨u424, hu424⟩ : ∃ f9, f9 = upd fN_before_x100 (l10_x100).toNatClampNeg k0_j168 := ⟨_, rfl⟩
                    have hP : va_P (dC, dI) vwCl (WN hN aN kN iN_arcs fN_from fN_to fN_room fN_cost iN_reached fN_free u424 fN_flow fN_length fN_stop iN_stops fN_price fN_rest) H := by rw [hu424]; exact hP
                    have hD : va_D A (WN hN aN kN iN_arcs fN_from fN_to fN_room fN_cost iN_reached fN_free u424 fN_flow fN_length fN_stop iN_stops fN_price fN_rest) := by rw [hu424]; exact hD
                    have b_u424 : ∀ q : Nat, 0 ≤ (u424 q).toInt ∧ (u424 q).toInt ≤ 79 := by rw [hu424]; exact upd_r b_fN_before_x100 (by first | assumption | exact ⟨by omega, by omega⟩)
                    clear hu424
                    refine lv_iinc (v := (iI (l10_x100.toInt + 1))) (lv' := [(10, .int (iI (l10_x100.toInt + 1))), (1, .long v412), (9, .int v396), (8, .int v394), (3, .long v392), (7, .int r390), (6, .int l6_x36), (5, .ref (aN 5)), (0, .ref (hN 0))]) hx hb dX2_treeArcs_132 hl (k := 0) rfl (iI_add2 (iI_of _) (by decide : (1 : Int32) = iI 1)) (by decide) rfl (fun ls hl => ?_)
                    refine lv_goto (tgt := 100) hx hb dX2_treeArcs_135 (by decide) ?_
                    have hl := lv_sub hl [0, 1, 2, 3, 4, 5, 6, 7, 8] (l' := [(10, .int (iI (l10_x100.toInt + 1))), (1, .long v412), (9, .int v396), (8, .int v394), (3, .long v392), (7, .int r390), (6, .int l6_x36), (5, .ref (aN 5)), (0, .ref (hN 0))]) rfl
                    exact ihx100 u424 (iI (l10_x100.toInt + 1)) _ _ _ b_u424 (iI_rng (by omega) (by omega) (by decide) (by decide)) (by have e9 : ((iI (l10_x100.toInt + 1))).toInt = (l10_x100.toInt + 1) := (iI_t (by omega) (by omega)); omega) hP hD hS hl
          · rintro H locs ls stk ⟨fN_before_j165, l1_j165, b_fN_before_j165, rfl, hP, hD, hS, hl⟩
            refine lv_iinc (v := (iI (l6_x36.toInt + 1))) (lv' := [(6, .int (iI (l6_x36.toInt + 1))), (9, .int v396), (8, .int v394), (3, .long v392), (7, .int r390), (5, .ref (aN 5)), (1, .long l1_j165), (0, .ref (hN 0))]) hx hb dX2_treeArcs_138 hl (k := 4) rfl (iI_add2 (iI_of _) (by decide : (1 : Int32) = iI 1)) (by decide) rfl (fun ls hl => ?_)
            refine lv_goto (tgt := 36) hx hb dX2_treeArcs_141 (by decide) ?_
            have hl := lv_sub hl [0, 5, 3, 6, 7] (l' := [(6, .int (iI (l6_x36.toInt + 1))), (5, .ref (aN 5)), (3, .long v392), (1, .long l1_j165), (0, .ref (hN 0))]) rfl
            exact ihx36 fN_before_j165 (iI (l6_x36.toInt + 1)) v392 l1_j165 _ _ _ b_fN_before_j165 (iI_rng (by omega) (by omega) (by decide) (by decide)) (by have e9 : ((iI (l6_x36.toInt + 1))).toInt = (l6_x36.toInt + 1) := (iI_t (by omega) (by omega)); omega) hP hD hS hl
    · have t_17 : ¬ l6_x13.toInt ≥ 12 := toI_nge c_17 rfl (by decide : (12 : Int32).toInt = 12)
      refine lv_aload hx hb dX2_treeArcs_20 (lv_at hl 1 rfl) ?_
      refine lv_iload hx hb dX2_treeArcs_22 (lv_at hl 0 rfl) ?_
      refine lv_iload hx hb dX2_treeArcs_24 (lv_at hl 0 rfl) ?_
      refine va_iast (cA := kN 5) (n := 12) (f := fN_before_x13) hx hb hK hP hD hS 6 5 rfl rfl (vp_in_iff.mpr ⟨by omega, by omega⟩) dX2_treeArcs_26 (fun H locs hP hD hS => ?_)
      obtain ⟨u425, hu425⟩ : ∃ f9, f9 = upd fN_before_x13 (l6_x13).toNatClampNeg l6_x13 := ⟨_, rfl⟩
      have hP : va_P (dC, dI) vwCl (WN hN aN kN iN_arcs fN_from fN_to fN_room fN_cost iN_reached fN_free u425 fN_flow fN_length fN_stop iN_stops fN_price fN_rest) H := by rw [hu425]; exact hP
      have hD : va_D A (WN hN aN kN iN_arcs fN_from fN_to fN_room fN_cost iN_reached fN_free u425 fN_flow fN_length fN_stop iN_stops fN_price fN_rest) := by rw [hu425]; exact hD
      have b_u425 : ∀ q : Nat, 0 ≤ (u425 q).toInt ∧ (u425 q).toInt ≤ 79 := by rw [hu425]; exact upd_r b_fN_before_x13 (by first | assumption | exact ⟨by omega, by omega⟩)
      clear hu425
      refine lv_iinc (v := (iI (l6_x13.toInt + 1))) (lv' := [(6, .int (iI (l6_x13.toInt + 1))), (5, .ref (aN 5)), (3, .long 0), (1, .long 0), (0, .ref (hN 0))]) hx hb dX2_treeArcs_27 hl (k := 0) rfl (iI_add2 (iI_of _) (by decide : (1 : Int32) = iI 1)) (by decide) rfl (fun ls hl => ?_)
      refine lv_goto (tgt := 13) hx hb dX2_treeArcs_30 (by decide) ?_
      have hl := lv_sub hl [0, 1, 2, 3, 4] (l' := [(6, .int (iI (l6_x13.toInt + 1))), (5, .ref (aN 5)), (3, .long 0), (1, .long 0), (0, .ref (hN 0))]) rfl
      exact ihx13 u425 (iI (l6_x13.toInt + 1)) _ _ _ b_u425 (iI_rng (by omega) (by omega) (by decide) (by decide)) (by have e9 : ((iI (l6_x13.toInt + 1))).toInt = (l6_x13.toInt + 1) := (iI_t (by omega) (by omega)); omega) hP hD hS hl

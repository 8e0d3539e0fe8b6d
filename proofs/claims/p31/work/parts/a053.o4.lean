theorem hd_yX11_theNets_RX11 : yX11_theNets.cls = RX11 ∧ yX11_theNets.cls ≠ "java/lang/invoke/MethodHandle" ∧ yX11_theNets.cls ≠ "java/lang/invoke/VarHandle" ∧ (parseMethodDescriptor yX11_theNets.desc).map (fun d => d.parameters.length) = some 0 := by decide +kernel
theorem hd_yX2_addArc_RX2 : yX2_addArc.cls = RX2 ∧ yX2_addArc.cls ≠ "java/lang/invoke/MethodHandle" ∧ yX2_addArc.cls ≠ "java/lang/invoke/VarHandle" ∧ (parseMethodDescriptor yX2_addArc.desc).map (fun d => d.parameters.length) = some 4 := by decide +kernel
theorem hd_yX2_dropArc_RX2 : yX2_dropArc.cls = RX2 ∧ yX2_dropArc.cls ≠ "java/lang/invoke/MethodHandle" ∧ yX2_dropArc.cls ≠ "java/lang/invoke/VarHandle" ∧ (parseMethodDescriptor yX2_dropArc.desc).map (fun d => d.parameters.length) = some 0 := by decide +kernel
theorem hd_yX2_fill_RX2 : yX2_fill.cls = RX2 ∧ yX2_fill.cls ≠ "java/lang/invoke/MethodHandle" ∧ yX2_fill.cls ≠ "java/lang/invoke/VarHandle" ∧ (parseMethodDescriptor yX2_fill.desc).map (fun d => d.parameters.length) = some 2 := by decide +kernel
theorem hd_yX2_leastCost_RX2 : yX2_leastCost.cls = RX2 ∧ yX2_leastCost.cls ≠ "java/lang/invoke/MethodHandle" ∧ yX2_leastCost.cls ≠ "java/lang/invoke/VarHandle" ∧ (parseMethodDescriptor yX2_leastCost.desc).map (fun d => d.parameters.length) = some 3 := by decide +kernel
theorem hd_yX2_shortest_RX2 : yX2_shortest.cls = RX2 ∧ yX2_shortest.cls ≠ "java/lang/invoke/MethodHandle" ∧ yX2_shortest.cls ≠ "java/lang/invoke/VarHandle" ∧ (parseMethodDescriptor yX2_shortest.desc).map (fun d => d.parameters.length) = some 3 := by decide +kernel
theorem hd_yX2_treeArcs_RX2 : yX2_treeArcs.cls = RX2 ∧ yX2_treeArcs.cls ≠ "java/lang/invoke/MethodHandle" ∧ yX2_treeArcs.cls ≠ "java/lang/invoke/VarHandle" ∧ (parseMethodDescriptor yX2_treeArcs.desc).map (fun d => d.parameters.length) = some 0 := by decide +kernel
theorem hd_yX2_round_RX2 : yX2_round.cls = RX2 ∧ yX2_round.cls ≠ "java/lang/invoke/MethodHandle" ∧ yX2_round.cls ≠ "java/lang/invoke/VarHandle" ∧ (parseMethodDescriptor yX2_round.desc).map (fun d => d.parameters.length) = some 2 := by decide +kernel
theorem hd_yX11_theClauses_RX11 : yX11_theClauses.cls = RX11 ∧ yX11_theClauses.cls ≠ "java/lang/invoke/MethodHandle" ∧ yX11_theClauses.cls ≠ "java/lang/invoke/VarHandle" ∧ (parseMethodDescriptor yX11_theClauses.desc).map (fun d => d.parameters.length) = some 0 := by decide +kernel
theorem hd_yX0_addClause_RX0 : yX0_addClause.cls = RX0 ∧ yX0_addClause.cls ≠ "java/lang/invoke/MethodHandle" ∧ yX0_addClause.cls ≠ "java/lang/invoke/VarHandle" ∧ (parseMethodDescriptor yX0_addClause.desc).map (fun d => d.parameters.length) = some 3 := by decide +kernel
theorem hd_yX0_dropClause_RX0 : yX0_dropClause.cls = RX0 ∧ yX0_dropClause.cls ≠ "java/lang/invoke/MethodHandle" ∧ yX0_dropClause.cls ≠ "java/lang/invoke/VarHandle" ∧ (parseMethodDescriptor yX0_dropClause.desc).map (fun d => d.parameters.length) = some 0 := by decide +kernel
theorem hd_yX0_least_RX0 : yX0_least.cls = RX0 ∧ yX0_least.cls ≠ "java/lang/invoke/MethodHandle" ∧ yX0_least.cls ≠ "java/lang/invoke/VarHandle" ∧ (parseMethodDescriptor yX0_least.desc).map (fun d => d.parameters.length) = some 1 := by decide +kernel
theorem hd_yX0_models_RX0 : yX0_models.cls = RX0 ∧ yX0_models.cls ≠ "java/lang/invoke/MethodHandle" ∧ yX0_models.cls ≠ "java/lang/invoke/VarHandle" ∧ (parseMethodDescriptor yX0_models.desc).map (fun d => d.parameters.length) = some 0 := by decide +kernel
theorem hd_yX0_core_RX0 : yX0_core.cls = RX0 ∧ yX0_core.cls ≠ "java/lang/invoke/MethodHandle" ∧ yX0_core.cls ≠ "java/lang/invoke/VarHandle" ∧ (parseMethodDescriptor yX0_core.desc).map (fun d => d.parameters.length) = some 0 := by decide +kernel
theorem dX11_theNets_0 : decode cX11_theNets 0 = .ok (.aload_n 0, 1) := dk_42 (by decide +kernel)
theorem dX11_theNets_1 : decode cX11_theNets 1 = .ok (.getfield 415, 3) := dk_180 (by decide +kernel)
theorem dX11_theNets_4 : decode cX11_theNets 4 = .ok (.ifnonnull 14, 3) := dk_199 (by decide +kernel)
theorem dX11_theNets_18 : decode cX11_theNets 18 = .ok (.aload_n 0, 1) := dk_42 (by decide +kernel)
theorem dX11_theNets_19 : decode cX11_theNets 19 = .ok (.getfield 415, 3) := dk_180 (by decide +kernel)
theorem dX11_theNets_22 : decode cX11_theNets 22 = .ok (.areturn, 1) := dk_176 (by decide +kernel)
def wsMX11_theNets_1 : List Cond := .code yX11_theNets cX11_theNets 1 (some (.object "OptimaWorks$NetDesk")) :: ([.fieldLink RX11 415 "OptimaWorks" "nets" "LOptimaWorks$NetDesk;"] ++ wsX110)
theorem iwsMX11_theNets_1_in11 : ∀ w ∈ wsX110, w ∈ wsMX11_theNets_1 := fun _ h => List.mem_cons_of_mem _ (List.mem_append_right _ h)
theorem gdwsMX11_theNets_1 : wsMX11_theNets_1.all goodWord = true := gdC rfl (gdA (by decide +kernel : ([.fieldLink RX11 415 "OptimaWorks" "nets" "LOptimaWorks$NetDesk;"] : List Cond).all goodWord = true) gdwsX110)
theorem hm_m_X11_theNets_1_0 : (.fieldLink RX11 415 "OptimaWorks" "nets" "LOptimaWorks$NetDesk;" : Cond) ∈ wsMX11_theNets_1 := by decide +kernel
set_option maxHeartbeats 4000000 in
set_option maxRecDepth 100000 in
/-- the desk of nets stands -/
theorem m_X11_theNets_1 (l : Launch) (dC : Nat → ClassId) (dI : Nat → Nat → Nat) (hX : Nat → Nat) (aX : Nat → Nat) (kX : Nat → ClassId) (hT : Nat → Nat) (hM : Nat → Nat) (fX_ready : Nat → Int32) (fX_sheet : Nat → Int32) (dX_sheet : Nat) (nX_sheet : Nat) (iX_sheetLength : Int32) (xX_reader : Value) (xX_solver : Value) (xX_prover : Value) (xX_values : Value) (xX_clauses : Value) (hN : Nat → Nat) (aN : Nat → Nat) (kN : Nat → ClassId) (iN_arcs : Int32) (fN_from : Nat → Int32) (fN_to : Nat → Int32) (fN_room : Nat → Int32) (fN_cost : Nat → Int32) (iN_reached : Int32) (fN_free : Nat → Int32) (fN_before : Nat → Int32) (fN_flow : Nat → Int32) (fN_length : Nat → Int32) (fN_stop : Nat → Int32) (iN_stops : Int32) (fN_price : Nat → Int32) (fN_rest : Nat → Int32) (b_fX_sheet : ∀ q : Nat, (-128) ≤ (fX_sheet q).toInt ∧ (fX_sheet q).toInt ≤ 127) (b_nX_sheet : 64 ≤ nX_sheet ∧ nX_sheet ≤ 60000) (b_iX_sheetLength : 0 ≤ iX_sheetLength.toInt ∧ iX_sheetLength.toInt ≤ 30000) (b_shl : iX_sheetLength.toInt ≤ ((nX_sheet : Nat) : Int)) (b_iN_arcs : 0 ≤ iN_arcs.toInt ∧ iN_arcs.toInt ≤ 40) (b_fN_from : ∀ q : Nat, 0 ≤ (fN_from q).toInt ∧ (fN_from q).toInt ≤ 11) (b_fN_to : ∀ q : Nat, 0 ≤ (fN_to q).toInt ∧ (fN_to q).toInt ≤ 11) (b_fN_before : ∀ q : Nat, 0 ≤ (fN_before q).toInt ∧ (fN_before q).toInt ≤ 79) (b_fN_stop : ∀ q : Nat, 0 ≤ (fN_stop q).toInt ∧ (fN_stop q).toInt ≤ 11) (b_iN_stops : 0 ≤ iN_stops.toInt ∧ iN_stops.toInt ≤ 8) (sz : Nat) : Met l yX11_theNets wsMX11_theNets_1 ({ frames := 0, cells := 0, slots := 0, locals := 0 }) (va_Pc [.ref (hX 0)] (fun U => U.heap.size = sz ∧ va_P (dC, dI) vwCl (WX hX aX kX hT hM fX_ready fX_sheet dX_sheet nX_sheet iX_sheetLength xX_reader xX_solver xX_prover xX_values xX_clauses (.ref (hN 0)) ++ (WN hN aN kN iN_arcs fN_from fN_to fN_room fN_cost iN_reached fN_free fN_before fN_flow fN_length fN_stop iN_stops fN_price fN_rest)) U.heap ∧ va_K (dC, dI) vwCl (tX kX ++ (tN kN)) U ∧ va_D (fun _ => True) (WX hX aX kX hT hM fX_ready fX_sheet dX_sheet nX_sheet iX_sheetLength xX_reader xX_solver xX_prover xX_values xX_clauses (.ref (hN 0)) ++ (WN hN aN kN iN_arcs fN_from fN_to fN_room fN_cost iN_reached fN_free fN_before fN_flow fN_length fN_stop iN_stops fN_price fN_rest)))) (va_Qr (fun (u : Unit) => True) (fun (u : Unit) ra t => ra = (hN 0) ∧ va_P (dC, dI) vwCl (WX hX aX kX hT hM fX_ready fX_sheet dX_sheet nX_sheet iX_sheetLength xX_reader xX_solver xX_prover xX_values xX_clauses (.ref (hN 0)) ++ (WN hN aN kN iN_arcs fN_from fN_to fN_room fN_cost iN_reached fN_free fN_before fN_flow fN_length fN_stop iN_stops fN_price fN_rest)) t.heap ∧ va_D (va_A (WX hX aX kX hT hM fX_ready fX_sheet dX_sheet nX_sheet iX_sheetLength xX_reader xX_solver xX_prover xX_values xX_clauses (.ref (hN 0)) ++ (WN hN aN kN iN_arcs fN_from fN_to fN_room fN_cost iN_reached fN_free fN_before fN_flow fN_length fN_stop iN_stops fN_price fN_rest)) sz) (WX hX aX kX hT hM fX_ready fX_sheet dX_sheet nX_sheet iX_sheetLength xX_reader xX_solver xX_prover xX_values xX_clauses (.ref (hN 0)) ++ (WN hN aN kN iN_arcs fN_from fN_to fN_room fN_cost iN_reached fN_free fN_before fN_flow fN_length fN_stop iN_stops fN_price fN_rest))) (va_A (WX hX aX kX hT hM fX_ready fX_sheet dX_sheet nX_sheet iX_sheetLength xX_reader xX_solver xX_prover xX_values xX_clauses (.ref (hN 0)) ++ (WN hN aN kN iN_arcs fN_from fN_to fN_room fN_cost iN_reached fN_free fN_before fN_flow fN_length fN_stop iN_stops fN_price fN_rest)) sz)) 0 0 (va_A (WX hX aX kX hT hM fX_ready fX_sheet dX_sheet nX_sheet iX_sheetLength xX_reader xX_solver xX_prover xX_values xX_clauses (.ref (hN 0)) ++ (WN hN aN kN iN_arcs fN_from fN_to fN_room fN_cost iN_reached fN_free fN_before fN_flow fN_length fN_stop iN_stops fN_price fN_rest)) sz) := by
  refine Met.ofW (cc := cX11_theNets) (maxL := 1) (ret := (some (.object "OptimaWorks$NetDesk"))) (by decide) rfl ?_
  intro p e s m args below meth c s₁ B hml hv
  obtain ⟨rfl, hsz, hP, hK, hD0⟩ := hv
  have hx := B.exec
  have hb := B.bytes
  have hr := B.returns
  have hts := atoms_spec (ws := wsMX11_theNets_1) B.pre
  have hown : s.vm.findClass RX11 = some m.cls := findClass_of_methodNamed B.named
  have hlocks := B.notSynchronized
  subst hsz
  have hD := hD0.self (sz := s.heap.size)
  generalize hAe : va_A (WX hX aX kX hT hM fX_ready fX_sheet dX_sheet nX_sheet iX_sheetLength xX_reader xX_solver xX_prover xX_values xX_clauses (.ref (hN 0)) ++ (WN hN aN kN iN_arcs fN_from fN_to fN_room fN_cost iN_reached fN_free fN_before fN_flow fN_length fN_stop iN_stops fN_price fN_rest)) s.heap.size = A at hD ⊢
  have hA : ∀ q : Nat, s.heap.size ≤ q → A q := fun q h => by rw [← hAe]; exact Or.inr h
  have hS : va_S A s.heap s.heap [] := va_S.rf
  have hl := lv_entry ([.ref (hX 0)]) (n := 1) (Nat.le_of_ble_eq_true rfl)
  rw [lg_entry_eq]
  generalize (lg_sl ([.ref (hX 0)]) ++ List.replicate (1 - (lg_sl ([.ref (hX 0)])).length) Slot.unset).toArray = ls at hl ⊢
  have hl : lv_has ls 1 [(0, .ref (hX 0))] := hl
  refine lv_aload_n hx hb dX11_theNets_0 rfl (lv_at hl 0 rfl) ?_
  refine va_get (D := (dC, dI)) (ci := 11) (v := .ref (hN 0)) (C := RX11) (T := TX11) (N := 11) hx hb hts iwsMX11_theNets_1_in11 hown hK hP 0 rfl rfl 10 (by decide) (hts _ hm_m_X11_theNets_1_0) (fun _ h9 => h9) rfl dX11_theNets_1 ?_
  refine lv_ifnonnull (tgt := 18) hx hb dX11_theNets_4 (by decide) ?_
  refine lv_aload_n hx hb dX11_theNets_18 rfl (lv_at hl 0 rfl) ?_
  refine va_get (D := (dC, dI)) (ci := 11) (v := .ref (hN 0)) (C := RX11) (T := TX11) (N := 11) hx hb hts iwsMX11_theNets_1_in11 hown hK hP 0 rfl rfl 10 (by decide) (hts _ hm_m_X11_theNets_1_0) (fun _ h9 => h9) rfl dX11_theNets_19 ?_
  refine W.widen (k := 0) (n := 0) (by decide +kernel) (by decide +kernel) ?_
  exact W.aret hx hb hr (Or.inl ⟨_, rfl⟩) (Or.inr ⟨_, rfl⟩) (fun t9_ ht hW => ⟨⟨(), _, rfl, trivial, rfl, by rw [ht]; exact hP, hD⟩, hS.F ht⟩) hS.2.2 dX11_theNets_22
theorem dX11_arc_0 : decode cX11_arc 0 = .ok (.iload_n 3, 1) := dk_29 (by decide +kernel)
theorem dX11_arc_1 : decode cX11_arc 1 = .ok (.ifCond .lt 27, 3) := dk_155 (by decide +kernel)
theorem dX11_arc_4 : decode cX11_arc 4 = .ok (.iload_n 3, 1) := dk_29 (by decide +kernel)
theorem dX11_arc_5 : decode cX11_arc 5 = .ok (.sipush 1000, 3) := dk_17 (by decide +kernel)
theorem dX11_arc_8 : decode cX11_arc 8 = .ok (.if_icmp .gt 20, 3) := dk_163 (by decide +kernel)
theorem dX11_arc_11 : decode cX11_arc 11 = .ok (.iload 4, 2) := dk_21 (by decide +kernel)
theorem dX11_arc_13 : decode cX11_arc 13 = .ok (.ifCond .lt 15, 3) := dk_155 (by decide +kernel)
theorem dX11_arc_16 : decode cX11_arc 16 = .ok (.iload 4, 2) := dk_21 (by decide +kernel)
theorem dX11_arc_18 : decode cX11_arc 18 = .ok (.sipush 1000, 3) := dk_17 (by decide +kernel)
theorem dX11_arc_21 : decode cX11_arc 21 = .ok (.if_icmp .gt 7, 3) := dk_163 (by decide +kernel)
theorem dX11_arc_24 : decode cX11_arc 24 = .ok (.iconst 1, 1) := dk_4 (by decide +kernel)
theorem dX11_arc_25 : decode cX11_arc 25 = .ok (.goto 4, 3) := dk_167 (by decide +kernel)
theorem dX11_arc_28 : decode cX11_arc 28 = .ok (.iconst 0, 1) := dk_3 (by decide +kernel)
theorem dX11_arc_29 : decode cX11_arc 29 = .ok (.istore 5, 2) := dk_54 (by decide +kernel)
theorem dX11_arc_31 : decode cX11_arc 31 = .ok (.iload_n 1, 1) := dk_27 (by decide +kernel)
theorem dX11_arc_32 : decode cX11_arc 32 = .ok (.invokestatic 422, 3) := dk_184 (by decide +kernel)
theorem dX11_arc_35 : decode cX11_arc 35 = .ok (.ifCond .eq 20, 3) := dk_153 (by decide +kernel)
theorem dX11_arc_38 : decode cX11_arc 38 = .ok (.iload_n 2, 1) := dk_28 (by decide +kernel)
theorem dX11_arc_39 : decode cX11_arc 39 = .ok (.invokestatic 422, 3) := dk_184 (by decide +kernel)
theorem dX11_arc_42 : decode cX11_arc 42 = .ok (.ifCond .eq 13, 3) := dk_153 (by decide +kernel)
theorem dX11_arc_45 : decode cX11_arc 45 = .ok (.iload 5, 2) := dk_21 (by decide +kernel)
theorem dX11_arc_47 : decode cX11_arc 47 = .ok (.ifCond .eq 8, 3) := dk_153 (by decide +kernel)
theorem dX11_arc_50 : decode cX11_arc 50 = .ok (.iload_n 1, 1) := dk_27 (by decide +kernel)
theorem dX11_arc_51 : decode cX11_arc 51 = .ok (.iload_n 2, 1) := dk_28 (by decide +kernel)
theorem dX11_arc_52 : decode cX11_arc 52 = .ok (.if_icmp .ne 11, 3) := dk_160 (by decide +kernel)
theorem dX11_arc_55 : decode cX11_arc 55 = .ok (.new 77, 3) := dk_187 (by decide +kernel)
theorem dX11_arc_58 : decode cX11_arc 58 = .ok (.dup, 1) := dk_89 (by decide +kernel)
theorem dX11_arc_59 : decode cX11_arc 59 = .ok (.invokespecial 79, 3) := dk_183 (by decide +kernel)
theorem dX11_arc_62 : decode cX11_arc 62 = .ok (.athrow, 1) := dk_191 (by decide +kernel)
theorem dX11_arc_63 : decode cX11_arc 63 = .ok (.aload_n 0, 1) := dk_42 (by decide +kernel)
theorem dX11_arc_64 : decode cX11_arc 64 = .ok (.invokevirtual 425, 3) := dk_182 (by decide +kernel)
theorem dX11_arc_67 : decode cX11_arc 67 = .ok (.getfield 429, 3) := dk_180 (by decide +kernel)
theorem dX11_arc_70 : decode cX11_arc 70 = .ok (.bipush 40, 2) := dk_16 (by decide +kernel)
theorem dX11_arc_72 : decode cX11_arc 72 = .ok (.if_icmp .lt 11, 3) := dk_161 (by decide +kernel)
theorem dX11_arc_75 : decode cX11_arc 75 = .ok (.new 159, 3) := dk_187 (by decide +kernel)
theorem dX11_arc_78 : decode cX11_arc 78 = .ok (.dup, 1) := dk_89 (by decide +kernel)
theorem dX11_arc_79 : decode cX11_arc 79 = .ok (.invokespecial 161, 3) := dk_183 (by decide +kernel)
theorem dX11_arc_82 : decode cX11_arc 82 = .ok (.athrow, 1) := dk_191 (by decide +kernel)
theorem dX11_arc_83 : decode cX11_arc 83 = .ok (.aload_n 0, 1) := dk_42 (by decide +kernel)
theorem dX11_arc_84 : decode cX11_arc 84 = .ok (.getfield 415, 3) := dk_180 (by decide +kernel)
theorem dX11_arc_87 : decode cX11_arc 87 = .ok (.iload_n 1, 1) := dk_27 (by decide +kernel)
theorem dX11_arc_88 : decode cX11_arc 88 = .ok (.iload_n 2, 1) := dk_28 (by decide +kernel)
theorem dX11_arc_89 : decode cX11_arc 89 = .ok (.iload_n 3, 1) := dk_29 (by decide +kernel)
theorem dX11_arc_90 : decode cX11_arc 90 = .ok (.iload 4, 2) := dk_21 (by decide +kernel)
theorem dX11_arc_92 : decode cX11_arc 92 = .ok (.invokevirtual 432, 3) := dk_182 (by decide +kernel)
theorem dX11_arc_95 : decode cX11_arc 95 = .ok (.ireturn, 1) := dk_172 (by decide +kernel)
def wsMX11_arc_1 : List Cond := .code yX11_arc cX11_arc 6 (some .int) :: ([.classLink RX11 77 "java/lang/IllegalArgumentException", .initialized "java/lang/IllegalArgumentException", .fieldLink RX11 429 "OptimaWorks$NetDesk" "arcs" "I", .fieldLink RX11 415 "OptimaWorks" "nets" "LOptimaWorks$NetDesk;", .classLink RX11 159 "java/lang/IllegalStateException", .initialized "java/lang/IllegalStateException"] ++ wsX20 ++ wsX110 ++ (va_wsS RX11 422 yX11_isNode wsMX11_isNode) ++ ((vx_at0 RX11 79 "java/lang/IllegalArgumentException" ["java/lang/RuntimeException", "java/lang/Exception"]).filter goodWord) ++ (wsV RX11 425 RX11 yX11_theNets wsMX11_theNets_1) ++ (wsV RX11 432 RX2 yX2_addArc wsMX2_addArc) ++ ((vx_at0 RX11 161 "java/lang/IllegalStateException" ["java/lang/RuntimeException", "java/lang/Exception"]).filter goodWord))
theorem iwsMX11_arc_1_in2 : ∀ w ∈ wsX20, w ∈ wsMX11_arc_1 := fun _ h => List.mem_cons_of_mem _ (List.mem_append_left _ (List.mem_append_left _ (List.mem_append_left _ (List.mem_append_left _ (List.mem_append_left _ (List.mem_append_left _ (List.mem_append_right _ h)))))))
theorem iwsMX11_arc_1_in11 : ∀ w ∈ wsX110, w ∈ wsMX11_arc_1 := fun _ h => List.mem_cons_of_mem _ (List.mem_append_left _ (List.mem_append_left _ (List.mem_append_left _ (List.mem_append_left _ (List.mem_append_left _ (List.mem_append_right _ h))))))
theorem gwsMX11_arc_1_0 : GoodIn wsMX11_arc_1 (va_wsS RX11 422 yX11_isNode wsMX11_isNode) := goodIn_sub (fun _ h => List.mem_cons_of_mem _ (List.mem_append_left _ (List.mem_append_left _ (List.mem_append_left _ (List.mem_append_left _ (List.mem_append_right _ h)))))) (gdS (by decide +kernel) gdwsMX11_isNode)
theorem gwsMX11_arc_1_2 : GoodIn wsMX11_arc_1 (wsV RX11 425 RX11 yX11_theNets wsMX11_theNets_1) := goodIn_sub (fun _ h => List.mem_cons_of_mem _ (List.mem_append_left _ (List.mem_append_left _ (List.mem_append_right _ h)))) (gdV (by decide +kernel) gdwsMX11_theNets_1)
theorem gwsMX11_arc_1_3 : GoodIn wsMX11_arc_1 (wsV RX11 432 RX2 yX2_addArc wsMX2_addArc) := goodIn_sub (fun _ h => List.mem_cons_of_mem _ (List.mem_append_left _ (List.mem_append_right _ h))) (gdV (by decide +kernel) gdwsMX2_addArc)
theorem gdwsMX11_arc_1 : wsMX11_arc_1.all goodWord = true := gdC rfl (gdA (gdA (gdA (gdA (gdA (gdA (gdA (by decide +kernel : ([.classLink RX11 77 "java/lang/IllegalArgumentException", .initialized "java/lang/IllegalArgumentException", .fieldLink RX11 429 "OptimaWorks$NetDesk" "arcs" "I", .fieldLink RX11 415 "OptimaWorks" "nets" "LOptimaWorks$NetDesk;", .classLink RX11 159 "java/lang/IllegalStateException", .initialized "java/lang/IllegalStateException"] : List Cond).all goodWord = true) gdwsX20) gdwsX110) (gdS (by decide +kernel) gdwsMX11_isNode)) (gdF _)) (gdV (by decide +kernel) gdwsMX11_theNets_1)) (gdV (by decide +kernel) gdwsMX2_addArc)) (gdF _))
theorem hm_m_X11_arc_1_0 : (.classLink RX11 77 "java/lang/IllegalArgumentException" : Cond) ∈ wsMX11_arc_1 := by decide +kernel
theorem hm_m_X11_arc_1_1 : (.initialized "java/lang/IllegalArgumentException" : Cond) ∈ wsMX11_arc_1 := by decide +kernel
set_option maxHeartbeats 4000000 in
set_option maxRecDepth 100000 in
/-- an arc -/
theorem m_X11_arc_1 (l : Launch) (hst : l.stackTraces = false) (dC : Nat → ClassId) (dI : Nat → Nat → Nat) (hX : Nat → Nat) (aX : Nat → Nat) (kX : Nat → ClassId) (hT : Nat → Nat) (hM : Nat → Nat) (fX_ready : Nat → Int32) (fX_sheet : Nat → Int32) (dX_sheet : Nat) (nX_sheet : Nat) (iX_sheetLength : Int32) (xX_reader : Value) (xX_solver : Value) (xX_prover : Value) (xX_values : Value) (xX_clauses : Value) (hN : Nat → Nat) (aN : Nat → Nat) (kN : Nat → ClassId) (iN_arcs : Int32) (fN_from : Nat → Int32) (fN_to : Nat → Int32) (fN_room : Nat → Int32) (fN_cost : Nat → Int32) (iN_reached : Int32) (fN_free : Nat → Int32) (fN_before : Nat → Int32) (fN_flow : Nat → Int32) (fN_length : Nat → Int32) (fN_stop : Nat → Int32) (iN_stops : Int32) (fN_price : Nat → Int32) (fN_rest : Nat → Int32) (p1 : Int32) (p2 : Int32) (p3 : Int32) (p4 : Int32) (b_fX_sheet : ∀ q : Nat, (-128) ≤ (fX_sheet q).toInt ∧ (fX_sheet q).toInt ≤ 127) (b_nX_sheet : 64 ≤ nX_sheet ∧ nX_sheet ≤ 60000) (b_iX_sheetLength : 0 ≤ iX_sheetLength.toInt ∧ iX_sheetLength.toInt ≤ 30000) (b_shl : iX_sheetLength.toInt ≤ ((nX_sheet : Nat) : Int)) (b_iN_arcs : 0 ≤ iN_arcs.toInt ∧ iN_arcs.toInt ≤ 40) (b_fN_from : ∀ q : Nat, 0 ≤ (fN_from q).toInt ∧ (fN_from q).toInt ≤ 11) (b_fN_to : ∀ q : Nat, 0 ≤ (fN_to q).toInt ∧ (fN_to q).toInt ≤ 11) (b_fN_before : ∀ q : Nat, 0 ≤ (fN_before q).toInt ∧ (fN_before q).toInt ≤ 79) (b_fN_stop : ∀ q : Nat, 0 ≤ (fN_stop q).toInt ∧ (fN_stop q).toInt ≤ 11) (b_iN_stops : 0 ≤ iN_stops.toInt ∧ iN_stops.toInt ≤ 8) (sz : Nat) : vx_Met l yX11_arc wsMX11_arc_1 ({ frames := 6, cells := 1, slots := 6, locals := 81 }) (va_Pc [.ref (hX 0), .int p1, .int p2, .int p3, .int p4] (fun U => U.heap.size = sz ∧ va_P (dC, dI) vwCl (WX hX aX kX hT hM fX_ready fX_sheet dX_sheet nX_sheet iX_sheetLength xX_reader xX_solver xX_prover xX_values xX_clauses (.ref (hN 0)) ++ (WN hN aN kN iN_arcs fN_from fN_to fN_room fN_cost iN_reached fN_free fN_before fN_flow fN_length fN_stop iN_stops fN_price fN_rest)) U.heap ∧ va_K (dC, dI) vwCl (tX kX ++ (tN kN)) U ∧ va_D (fun _ => True) (WX hX aX kX hT hM fX_ready fX_sheet dX_sheet nX_sheet iX_sheetLength xX_reader xX_solver xX_prover xX_values xX_clauses (.ref (hN 0)) ++ (WN hN aN kN iN_arcs fN_from fN_to fN_room fN_cost iN_reached fN_free fN_before fN_flow fN_length fN_stop iN_stops fN_price fN_rest)) ∧ CE (va_A (WX hX aX kX hT hM fX_ready fX_sheet dX_sheet nX_sheet iX_sheetLength xX_reader xX_solver xX_prover xX_values xX_clauses (.ref (hN 0)) ++ (WN hN aN kN iN_arcs fN_from fN_to fN_room fN_cost iN_reached fN_free fN_before fN_flow fN_length fN_stop iN_stops fN_price fN_rest)) sz) U U.heap)) (va_Qi (fun (r : Int32) (u : (Int32) × (Nat → Int32) × (Nat → Int32) × (Nat → Int32) × (Nat → Int32)) => (0 ≤ (u.1).toInt ∧ (u.1).toInt ≤ 40) ∧ (∀ q : Nat, 0 ≤ ((u.2.1) q).toInt ∧ ((u.2.1) q).toInt ≤ 11) ∧ (∀ q : Nat, 0 ≤ ((u.2.2.1) q).toInt ∧ ((u.2.2.1) q).toInt ≤ 11) ∧ ((u.1).toInt = iN_arcs.toInt + 1) ∧ (r.toInt = iN_arcs.toInt) ∧ ((u.2.1) = upd fN_from iN_arcs.toInt.toNat p1) ∧ ((u.2.2.1) = upd fN_to iN_arcs.toInt.toNat p2) ∧ ((u.2.2.2.1) = upd fN_room iN_arcs.toInt.toNat p3) ∧ ((u.2.2.2.2) = upd fN_cost iN_arcs.toInt.toNat p4) ∧ ((0 ≤ p1.toInt ∧ p1.toInt ≤ 11 ∧ 0 ≤ p2.toInt ∧ p2.toInt ≤ 11 ∧ p1.toInt ≠ p2.toInt ∧ 0 ≤ p3.toInt ∧ p3.toInt ≤ 1000 ∧ 0 ≤ p4.toInt ∧ p4.toInt ≤ 1000) ∧ iN_arcs.toInt < 40)) (fun (u : (Int32) × (Nat → Int32) × (Nat → Int32) × (Nat → Int32) × (Nat → Int32)) t => va_P (dC, dI) vwCl (WX hX aX kX hT hM fX_ready fX_sheet dX_sheet nX_sheet iX_sheetLength xX_reader xX_solver xX_prover xX_values xX_clauses (.ref (hN 0)) ++ (WN hN aN kN (u.1) (u.2.1) (u.2.2.1) (u.2.2.2.1) (u.2.2.2.2) iN_reached fN_free fN_before fN_flow fN_length fN_stop iN_stops fN_price fN_rest)) t.heap ∧ va_D (va_A (WX hX aX kX hT hM fX_ready fX_sheet dX_sheet nX_sheet iX_sheetLength xX_reader xX_solver xX_prover xX_values xX_clauses (.ref (hN 0)) ++ (WN hN aN kN iN_arcs fN_from fN_to fN_room fN_cost iN_reached fN_free fN_before fN_flow fN_length fN_stop iN_stops fN_price fN_rest)) sz) (WX hX aX kX hT hM fX_ready fX_sheet dX_sheet nX_sheet iX_sheetLength xX_reader xX_solver xX_prover xX_values xX_clauses (.ref (hN 0)) ++ (WN hN aN kN (u.1) (u.2.1) (u.2.2.1) (u.2.2.2.1) (u.2.2.2.2) iN_reached fN_free fN_before fN_flow fN_length fN_stop iN_stops fN_price fN_rest)) ∧ t.heap.size = sz) (va_A (WX hX aX kX hT hM fX_ready fX_sheet dX_sheet nX_sheet iX_sheetLength xX_reader xX_solver xX_prover xX_values xX_clauses (.ref (hN 0)) ++ (WN hN aN kN iN_arcs fN_from fN_to fN_room fN_cost iN_reached fN_free fN_before fN_flow fN_length fN_stop iN_stops fN_price fN_rest)) sz)) (vx_X (fun (u : (Int32) × (Nat → Int32) × (Nat → Int32) × (Nat → Int32) × (Nat → Int32)) => (0 ≤ (u.1).toInt ∧ (u.1).toInt ≤ 40) ∧ (∀ q : Nat, 0 ≤ ((u.2.1) q).toInt ∧ ((u.2.1) q).toInt ≤ 11) ∧ (∀ q : Nat, 0 ≤ ((u.2.2.1) q).toInt ∧ ((u.2.2.1) q).toInt ≤ 11) ∧ ((u.1).toInt = iN_arcs.toInt ∧ (u.2.1) = fN_from ∧ (u.2.2.1) = fN_to ∧ (u.2.2.2.1) = fN_room ∧ (u.2.2.2.2) = fN_cost)) (fun E (u : (Int32) × (Nat → Int32) × (Nat → Int32) × (Nat → Int32) × (Nat → Int32)) t => ((E = "java/lang/IllegalArgumentException" ∧ (¬ (0 ≤ p1.toInt ∧ p1.toInt ≤ 11 ∧ 0 ≤ p2.toInt ∧ p2.toInt ≤ 11 ∧ p1.toInt ≠ p2.toInt ∧ 0 ≤ p3.toInt ∧ p3.toInt ≤ 1000 ∧ 0 ≤ p4.toInt ∧ p4.toInt ≤ 1000))) ∨ (E = "java/lang/IllegalStateException" ∧ ((0 ≤ p1.toInt ∧ p1.toInt ≤ 11 ∧ 0 ≤ p2.toInt ∧ p2.toInt ≤ 11 ∧ p1.toInt ≠ p2.toInt ∧ 0 ≤ p3.toInt ∧ p3.toInt ≤ 1000 ∧ 0 ≤ p4.toInt ∧ p4.toInt ≤ 1000) ∧ iN_arcs.toInt = 40))) ∧ va_P (dC, dI) vwCl (WX hX aX kX hT hM fX_ready fX_sheet dX_sheet nX_sheet iX_sheetLength xX_reader xX_solver xX_prover xX_values xX_clauses (.ref (hN 0)) ++ (WN hN aN kN (u.1) (u.2.1) (u.2.2.1) (u.2.2.2.1) (u.2.2.2.2) iN_reached fN_free fN_before fN_flow fN_length fN_stop iN_stops fN_price fN_rest)) t.heap ∧ va_D (va_A (WX hX aX kX hT hM fX_ready fX_sheet dX_sheet nX_sheet iX_sheetLength xX_reader xX_solver xX_prover xX_values xX_clauses (.ref (hN 0)) ++ (WN hN aN kN iN_arcs fN_from fN_to fN_room fN_cost iN_reached fN_free fN_before fN_flow fN_length fN_stop iN_stops fN_price fN_rest)) sz) (WX hX aX kX hT hM fX_ready fX_sheet dX_sheet nX_sheet iX_sheetLength xX_reader xX_solver xX_prover xX_values xX_clauses (.ref (hN 0)) ++ (WN hN aN kN (u.1) (u.2.1) (u.2.2.1) (u.2.2.2.1) (u.2.2.2.2) iN_reached fN_free fN_before fN_flow fN_length fN_stop iN_stops fN_price fN_rest))) (va_A (WX hX aX kX hT hM fX_ready fX_sheet dX_sheet nX_sheet iX_sheetLength xX_reader xX_solver xX_prover xX_values xX_clauses (.ref (hN 0)) ++ (WN hN aN kN iN_arcs fN_from fN_to fN_room fN_cost iN_reached fN_free fN_before fN_flow fN_length fN_stop iN_stops fN_price fN_rest)) sz)) 1 6 (va_A (WX hX aX kX hT hM fX_ready fX_sheet dX_sheet nX_sheet iX_sheetLength xX_reader xX_solver xX_prover xX_values xX_clauses (.ref (hN 0)) ++ (WN hN aN kN iN_arcs fN_from fN_to fN_room fN_cost iN_reached fN_free fN_before fN_flow fN_length fN_stop iN_stops fN_price fN_rest)) sz) := by
  refine vx_ofW (cc := cX11_arc) (maxL := 6) (ret := (some .int)) (by decide) rfl ?_
  intro p e s m args below meth c s₁ B hml htab hv
  obtain ⟨rfl, hsz, hP, hK, hD0, hE⟩ := hv
  have hx := B.exec
  have hb := B.bytes
  have hr := B.returns
  have hts := atoms_spec (ws := wsMX11_arc_1) B.pre
  have hown : s.vm.findClass RX11 = some m.cls := findClass_of_methodNamed B.named
  have hlocks := B.notSynchronized
  subst hsz
  have hD := hD0.self (sz := s.heap.size)
  generalize hAe : va_A (WX hX aX kX hT hM fX_ready fX_sheet dX_sheet nX_sheet iX_sheetLength xX_reader xX_solver xX_prover xX_values xX_clauses (.ref (hN 0)) ++ (WN hN aN kN iN_arcs fN_from fN_to fN_room fN_cost iN_reached fN_free fN_before fN_flow fN_length fN_stop iN_stops fN_price fN_rest)) s.heap.size = A at hD hE ⊢
  have hA : ∀ q : Nat, s.heap.size ≤ q → A q := fun q h => by rw [← hAe]; exact Or.inr h
  have hS : va_S A s.heap s.heap [] := va_S.rf
  have hl := lv_entry ([.ref (hX 0), .int p1, .int p2, .int p3, .int p4]) (n := 6) (Nat.le_of_ble_eq_true rfl)
  rw [lg_entry_eq]
  generalize (lg_sl ([.ref (hX 0), .int p1, .int p2, .int p3, .int p4]) ++ List.replicate (6 - (lg_sl ([.ref (hX 0), .int p1, .int p2, .int p3, .int p4])).length) Slot.unset).toArray = ls at hl ⊢
  have hl : lv_has ls 6 [(0, .ref (hX 0)), (1, .int p1), (2, .int p2), (3, .int p3), (4, .int p4)] := hl
  refine lv_iload_n hx hb dX11_arc_0 rfl (lv_at hl 3 rfl) ?_
  refine W.cut (pc := 29) (fun H locs ls stk => ∃ (k0_j2 : Int32), (0 ≤ k0_j2.toInt ∧ k0_j2.toInt ≤ 1) ∧ ((k0_j2.toInt = 1 ∧ (0 ≤ p3.toInt ∧ p3.toInt ≤ 1000 ∧ 0 ≤ p4.toInt ∧ p4.toInt ≤ 1000)) ∨ (k0_j2.toInt = 0 ∧ ¬ (0 ≤ p3.toInt ∧ p3.toInt ≤ 1000 ∧ 0 ≤ p4.toInt ∧ p4.toInt ≤ 1000))) ∧  stk = [.int k0_j2] ∧ va_P (dC, dI) vwCl (WX hX aX kX hT hM fX_ready fX_sheet dX_sheet nX_sheet iX_sheetLength xX_reader xX_solver xX_prover xX_values xX_clauses (.ref (hN 0)) ++ (WN hN aN kN iN_arcs fN_from fN_to fN_room fN_cost iN_reached fN_free fN_before fN_flow fN_length fN_stop iN_stops fN_price fN_rest)) H ∧ va_D A (WX hX aX kX hT hM fX_ready fX_sheet dX_sheet nX_sheet iX_sheetLength xX_reader xX_solver xX_prover xX_values xX_clauses (.ref (hN 0)) ++ (WN hN aN kN iN_arcs fN_from fN_to fN_room fN_cost iN_reached fN_free fN_before fN_flow fN_length fN_stop iN_stops fN_price fN_rest)) ∧ va_S A s.heap H locs ∧ lv_has ls 6 [(0, .ref (hX 0)), (1, .int p1), (2, .int p2), (3, .int p3), (4, .int p4)]) (fun join2 => ?_) ?_
  · refine lv_if_lt (tgt := 28) hx hb dX11_arc_1 (by decide) (fun c_1 => ?_) (fun c_1 => ?_)
    · have t_1 : p3.toInt < 0 := toI_lt c_1 rfl (by decide : (0 : Int32).toInt = 0)
      refine lv_iconst (v := 0) hx hb dX11_arc_28 (by decide) ?_
      have hl : lv_has _ _ ([(0, .ref (hX 0)), (1, .int p1), (2, .int p2), (3, .int p3), (4, .int p4)]) := lv_sub hl [0, 1, 2, 3, 4] rfl
      exact join2 _ _ _ _ ⟨0, (show 0 ≤ (0 : Int32).toInt ∧ (0 : Int32).toInt ≤ 1 from by decide), (show ((0 : Int32).toInt = 1 ∧ (0 ≤ p3.toInt ∧ p3.toInt ≤ 1000 ∧ 0 ≤ p4.toInt ∧ p4.toInt ≤ 1000)) ∨ ((0 : Int32).toInt = 0 ∧ ¬ (0 ≤ p3.toInt ∧ p3.toInt ≤ 1000 ∧ 0 ≤ p4.toInt ∧ p4.toInt ≤ 1000)) from by first | exact Or.inl ⟨by decide, by omega⟩ | exact Or.inr ⟨by decide, by omega⟩), rfl, hP, hD, hS, hl⟩
    · have t_1 : ¬ p3.toInt < 0 := toI_nlt c_1 rfl (by decide : (0 : Int32).toInt = 0)
      refine lv_iload_n hx hb dX11_arc_4 rfl (lv_at hl 3 rfl) ?_
      refine lv_sipush (v := 1000) hx hb dX11_arc_5 (by decide) ?_
      refine lv_icmp_gt (tgt := 28) hx hb dX11_arc_8 (by decide) (fun c_8 => ?_) (fun c_8 => ?_)
      · have t_8 : p3.toInt > 1000 := toI_gt c_8 rfl (by decide : (1000 : Int32).toInt = 1000)
        refine lv_iconst (v := 0) hx hb dX11_arc_28 (by decide) ?_
        have hl : lv_has _ _ ([(0, .ref (hX 0)), (1, .int p1), (2, .int p2), (3, .int p3), (4, .int p4)]) := lv_sub hl [0, 1, 2, 3, 4] rfl
        exact join2 _ _ _ _ ⟨0, (show 0 ≤ (0 : Int32).toInt ∧ (0 : Int32).toInt ≤ 1 from by decide), (show ((0 : Int32).toInt = 1 ∧ (0 ≤ p3.toInt ∧ p3.toInt ≤ 1000 ∧ 0 ≤ p4.toInt ∧ p4.toInt ≤ 1000)) ∨ ((0 : Int32).toInt = 0 ∧ ¬ (0 ≤ p3.toInt ∧ p3.toInt ≤ 1000 ∧ 0 ≤ p4.toInt ∧ p4.toInt ≤ 1000)) from by first | exact Or.inl ⟨by decide, by omega⟩ | exact Or.inr ⟨by decide, by omega⟩), rfl, hP, hD, hS, hl⟩
      · have t_8 : ¬ p3.toInt > 1000 := toI_ngt c_8 rfl (by decide : (1000 : Int32).toInt = 1000)
        refine lv_iload hx hb dX11_arc_11 (lv_at hl 4 rfl) ?_
        refine lv_if_lt (tgt := 28) hx hb dX11_arc_13 (by decide) (fun c_13 => ?_) (fun c_13 => ?_)
        · have t_13 : p4.toInt < 0 := toI_lt c_13 rfl (by decide : (0 : Int32).toInt = 0)
          refine lv_iconst (v := 0) hx hb dX11_arc_28 (by decide) ?_
          have hl : lv_has _ _ ([(0, .ref (hX 0)), (1, .int p1), (2, .int p2), (3, .int p3), (4, .int p4)]) := lv_sub hl [0, 1, 2, 3, 4] rfl
          exact join2 _ _ _ _ ⟨0, (show 0 ≤ (0 : Int32).toInt ∧ (0 : Int32).toInt ≤ 1 from by decide), (show ((0 : Int32).toInt = 1 ∧ (0 ≤ p3.toInt ∧ p3.toInt ≤ 1000 ∧ 0 ≤ p4.toInt ∧ p4.toInt ≤ 1000)) ∨ ((0 : Int32).toInt = 0 ∧ ¬ (0 ≤ p3.toInt ∧ p3.toInt ≤ 1000 ∧ 0 ≤ p4.toInt ∧ p4.toInt ≤ 1000)) from by first | exact Or.inl ⟨by decide, by omega⟩ | exact Or.inr ⟨by decide, by omega⟩), rfl, hP, hD, hS, hl⟩
        · have t_13 : ¬ p4.toInt < 0 := toI_nlt c_13 rfl (by decide : (0 : Int32).toInt = 0)
          refine lv_iload hx hb dX11_arc_16 (lv_at hl 4 rfl) ?_
          refine lv_sipush (v := 1000) hx hb dX11_arc_18 (by decide) ?_
          refine lv_icmp_gt (tgt := 28) hx hb dX11_arc_21 (by decide) (fun c_21 => ?_) (fun c_21 => ?_)
          · have t_21 : p4.toInt > 1000 := toI_gt c_21 rfl (by decide : (1000 : Int32).toInt = 1000)
            refine lv_iconst (v := 0) hx hb dX11_arc_28 (by decide) ?_
            have hl : lv_has _ _ ([(0, .ref (hX 0)), (1, .int p1), (2, .int p2), (3, .int p3), (4, .int p4)]) := lv_sub hl [0, 1, 2, 3, 4] rfl
            exact join2 _ _ _ _ ⟨0, (show 0 ≤ (0 : Int32).toInt ∧ (0 : Int32).toInt ≤ 1 from by decide), (show ((0 : Int32).toInt = 1 ∧ (0 ≤ p3.toInt ∧ p3.toInt ≤ 1000 ∧ 0 ≤ p4.toInt ∧ p4.toInt ≤ 1000)) ∨ ((0 : Int32).toInt = 0 ∧ ¬ (0 ≤ p3.toInt ∧ p3.toInt ≤ 1000 ∧ 0 ≤ p4.toInt ∧ p4.toInt ≤ 1000)) from by first | exact Or.inl ⟨by decide, by omega⟩ | exact Or.inr ⟨by decide, by omega⟩), rfl, hP, hD, hS, hl⟩
          · have t_21 : ¬ p4.toInt > 1000 := toI_ngt c_21 rfl (by decide : (1000 : Int32).toInt = 1000)
            refine lv_iconst (v := 1) hx hb dX11_arc_24 (by decide) ?_
            refine lv_goto (tgt := 29) hx hb dX11_arc_25 (by decide) ?_
            have hl : lv_has _ _ ([(0, .ref (hX 0)), (1, .int p1), (2, .int p2), (3, .int p3), (4, .int p4)]) := lv_sub hl [0, 1, 2, 3, 4] rfl
            exact join2 _ _ _ _ ⟨1, (show 0 ≤ (1 : Int32).toInt ∧ (1 : Int32).toInt ≤ 1 from by decide), (show ((1 : Int32).toInt = 1 ∧ (0 ≤ p3.toInt ∧ p3.toInt ≤ 1000 ∧ 0 ≤ p4.toInt ∧ p4.toInt ≤ 1000)) ∨ ((1 : Int32).toInt = 0 ∧ ¬ (0 ≤ p3.toInt ∧ p3.toInt ≤ 1000 ∧ 0 ≤ p4.toInt ∧ p4.toInt ≤ 1000)) from by first | exact Or.inl ⟨by decide, by omega⟩ | exact Or.inr ⟨by decide, by omega⟩), rfl, hP, hD, hS, hl⟩
  · rintro H locs ls stk ⟨k0_j2, b_k0_j2, hlen, rfl, hP, hD, hS, hl⟩
    refine lv_istore hx hb dX11_arc_29 hl (by decide) rfl (fun ls (hl : lv_has ls _ ([(5, .int k0_j2), (0, .ref (hX 0)), (1, .int p1), (2, .int p2), (3, .int p3), (4, .int p4)])) => ?_)
    refine lv_iload_n hx hb dX11_arc_31 rfl (lv_at hl 2 rfl) ?_
    have hFc := noneFree hS hA
    refine va_calli (va_runS (As := [.int p1]) (rest := []) ⟨hx, hb, hml, hown, hts⟩ (m_X11_isNode l dC dI p1 H.size) (va_cwS 1 hts gwsMX11_arc_1_0 rfl rfl rfl (by decide +kernel) ⟨by decide +kernel, by decide +kernel⟩) ⟨fun a U g mk q => by obtain ⟨q0, q1, qP, qK, qD⟩ := q; exact ⟨q0, q1, qP, va_K.moved (u := U) (U := U.calling g mk a) (Vm.Alike.refl U.vm) qK, qD⟩, fun U hU9 hW => ⟨rfl, by rw [hU9], by rw [hU9]; exact nilP, va_K.moved hW.alike (hK.sub (tys' := []) [] rfl), nilD⟩⟩ rfl rfl hl.1 rfl (lv_room (Nat.le_of_ble_eq_true rfl)) dX11_arc_32 (by decide +kernel)) hS (fun q _ h => hFc q h) hFc (fun r1 u t9_ H1 locs ht hvm hw9 hB9 hz1 hk1 hS => ?_)
    revert hw9
    refine fz_a3 ?_
    intro b_r1 f1_0 f1_1
    clear hB9
    have hP := keepAll hP hk1
    generalize H1 = H at hP hS ⊢
    have hP : va_P (dC, dI) vwCl (WX hX aX kX hT hM fX_ready fX_sheet dX_sheet nX_sheet iX_sheetLength xX_reader xX_solver xX_prover xX_values xX_clauses (.ref (hN 0)) ++ (WN hN aN kN iN_arcs fN_from fN_to fN_room fN_cost iN_reached fN_free fN_before fN_flow fN_length fN_stop iN_stops fN_price fN_rest)) H := hP
    have hD : va_D A (WX hX aX kX hT hM fX_ready fX_sheet dX_sheet nX_sheet iX_sheetLength xX_reader xX_solver xX_prover xX_values xX_clauses (.ref (hN 0)) ++ (WN hN aN kN iN_arcs fN_from fN_to fN_room fN_cost iN_reached fN_free fN_before fN_flow fN_length fN_stop iN_stops fN_price fN_rest)) := hD
    have hn1 := f1_0
    have hy1 := f1_1
    refine lv_if_eq (tgt := 55) hx hb dX11_arc_35 (by decide) (fun c_35 => ?_) (fun c_35 => ?_)
    · have t_35 : r1.toInt = 0 := toI_eq c_35 rfl (by decide : (0 : Int32).toInt = 0)
      exact vx_throw0 (own := RX11) (cls := "java/lang/IllegalArgumentException") (names := ["java/lang/RuntimeException", "java/lang/Exception"]) (ik := 77) (ic := 79) (A := A) hx hb hst hown (by decide +kernel) (by decide +kernel) (hts _ hm_m_X11_arc_1_0) (hts _ hm_m_X11_arc_1_1) (vx_hat (B := ngX11_79) (fun w h => hts w (List.mem_cons_of_mem _ (List.mem_append_left _ (List.mem_append_left _ (List.mem_append_left _ (List.mem_append_right _ h)))))) (fun _ h => h) (fun w h => va_Nw.use (ngX11_79_ot w h) (hE.2.2.1.2.2.1 w h))) (by decide +kernel) hE.2.1.1 hE.2.1.2 hS (by rw [hml]; exact hl.1) dX11_arc_55 dX11_arc_58 dX11_arc_59 dX11_arc_62 (fun x hx9 => (htab x hx9).elim) (by decide +kernel) (Nat.le_of_ble_eq_true rfl) (by decide +kernel) (by decide +kernel) hlocks (fun t hvm hz hk => ⟨(iN_arcs, fN_from, fN_to, fN_room, fN_cost), ⟨(b_iN_arcs), b_fN_from, b_fN_to, (by first | exact ⟨rfl, rfl, rfl, rfl, rfl⟩ | ((try dsimp only); exact ⟨rfl, rfl, rfl, rfl, rfl⟩))⟩, ⟨Or.inl ⟨rfl, by omega⟩, hP.kept (fun k q h => hk q.1 ((hP k q h).lt)), hD⟩, ⟨Nat.le_trans hS.1 hz, fun q h1 h2 => (hk q (Nat.lt_of_lt_of_le h1 hS.1)).trans (hS.2.1 q h1 h2)⟩⟩) hS.2.2 (by decide +kernel) (by decide +kernel)
    · have t_35 : ¬ r1.toInt = 0 := toI_neq c_35 rfl (by decide : (0 : Int32).toInt = 0)
      refine lv_iload_n hx hb dX11_arc_38 rfl (lv_at hl 3 rfl) ?_
      have hFc := noneFree hS hA
      refine va_calli (va_runS (As := [.int p2]) (rest := []) ⟨hx, hb, hml, hown, hts⟩ (m_X11_isNode l dC dI p2 H.size) (va_cwS 1 hts gwsMX11_arc_1_0 rfl rfl rfl (by decide +kernel) ⟨by decide +kernel, by decide +kernel⟩) ⟨fun a U g mk q => by obtain ⟨q0, q1, qP, qK, qD⟩ := q; exact ⟨q0, q1, qP, va_K.moved (u := U) (U := U.calling g mk a) (Vm.Alike.refl U.vm) qK, qD⟩, fun U hU9 hW => ⟨rfl, by rw [hU9], by rw [hU9]; exact nilP, va_K.moved hW.alike (hK.sub (tys' := []) [] rfl), nilD⟩⟩ rfl rfl hl.1 rfl (lv_room (Nat.le_of_ble_eq_true rfl)) dX11_arc_39 (by decide +kernel)) hS (fun q _ h => hFc q h) hFc (fun r2 u t9_ H1 locs ht hvm hw9 hB9 hz1 hk1 hS => ?_)
      revert hw9
      refine fz_a3 ?_
      intro b_r2 f2_0 f2_1
      clear hB9
      have hP := keepAll hP hk1
      generalize H1 = H at hP hS ⊢
      have hP : va_P (dC, dI) vwCl (WX hX aX kX hT hM fX_ready fX_sheet dX_sheet nX_sheet iX_sheetLength xX_reader xX_solver xX_prover xX_values xX_clauses (.ref (hN 0)) ++ (WN hN aN kN iN_arcs fN_from fN_to fN_room fN_cost iN_reached fN_free fN_before fN_flow fN_length fN_stop iN_stops fN_price fN_rest)) H := hP
      have hD : va_D A (WX hX aX kX hT hM fX_ready fX_sheet dX_sheet nX_sheet iX_sheetLength xX_reader xX_solver xX_prover xX_values xX_clauses (.ref (hN 0)) ++ (WN hN aN kN iN_arcs fN_from fN_to fN_room fN_cost iN_reached fN_free fN_before fN_flow fN_length fN_stop iN_stops fN_price fN_rest)) := hD
      have hn2 := f2_0
      have hy2 := f2_1
      refine lv_if_eq (tgt := 55) hx hb dX11_arc_42 (by decide) (fun c_42 => ?_) (fun c_42 => ?_)
      · have t_42 : r2.toInt = 0 := toI_eq c_42 rfl (by decide : (0 : Int32).toInt = 0)
        exact vx_throw0 (own := RX11) (cls := "java/lang/IllegalArgumentException") (names := ["java/lang/RuntimeException", "java/lang/Exception"]) (ik := 77) (ic := 79) (A := A) hx hb hst hown (by decide +kernel) (by decide +kernel) (hts _ hm_m_X11_arc_1_0) (hts _ hm_m_X11_arc_1_1) (vx_hat (B := ngX11_79) (fun w h => hts w (List.mem_cons_of_mem _ (List.mem_append_left _ (List.mem_append_left _ (List.mem_append_left _ (List.mem_append_right _ h)))))) (fun _ h => h) (fun w h => va_Nw.use (ngX11_79_ot w h) (hE.2.2.1.2.2.1 w h))) (by decide +kernel) hE.2.1.1 hE.2.1.2 hS (by rw [hml]; exact hl.1) dX11_arc_55 dX11_arc_58 dX11_arc_59 dX11_arc_62 (fun x hx9 => (htab x hx9).elim) (by decide +kernel) (Nat.le_of_ble_eq_true rfl) (by decide +kernel) (by decide +kernel) hlocks (fun t hvm hz hk => ⟨(iN_arcs, fN_from, fN_to, fN_room, fN_cost), ⟨(b_iN_arcs), b_fN_from, b_fN_to, (by first | exact ⟨rfl, rfl, rfl, rfl, rfl⟩ | ((try dsimp only); exact ⟨rfl, rfl, rfl, rfl, rfl⟩))⟩, ⟨Or.inl ⟨rfl, by omega⟩, hP.kept (fun k q h => hk q.1 ((hP k q h).lt)), hD⟩, ⟨Nat.le_trans hS.1 hz, fun q h1 h2 => (hk q (Nat.lt_of_lt_of_le h1 hS.1)).trans (hS.2.1 q h1 h2)⟩⟩) hS.2.2 (by decide +kernel) (by decide +kernel)
      · have t_42 : ¬ r2.toInt = 0 := toI_neq c_42 rfl (by decide : (0 : Int32).toInt = 0)
        refine lv_iload hx hb dX11_arc_45 (lv_at hl 0 rfl) ?_
        refine lv_if_eq (tgt := 55) hx hb dX11_arc_47 (by decide) (fun c_47 => ?_) (fun c_47 => ?_)
        · have t_47 : k0_j2.toInt = 0 := toI_eq c_47 rfl (by decide : (0 : Int32).toInt = 0)
          exact vx_throw0 (own := RX11) (cls := "java/lang/IllegalArgumentException") (names := ["java/lang/RuntimeException", "java/lang/Exception"]) (ik := 77) (ic := 79) (A := A) hx hb hst hown (by decide +kernel) (by decide +kernel) (hts _ hm_m_X11_arc_1_0) (hts _ hm_m_X11_arc_1_1) (vx_hat (B := ngX11_79) (fun w h => hts w (List.mem_cons_of_mem _ (List.mem_append_left _ (List.mem_append_left _ (List.mem_append_left _ (List.mem_append_right _ h)))))) (fun _ h => h) (fun w h => va_Nw.use (ngX11_79_ot w h) (hE.2.2.1.2.2.1 w h))) (by decide +kernel) hE.2.1.1 hE.2.1.2 hS (by rw [hml]; exact hl.1) dX11_arc_55 dX11_arc_58 dX11_arc_59 dX11_arc_62 (fun x hx9 => (htab x hx9).elim) (by decide +kernel) (Nat.le_of_ble_eq_true rfl) (by decide +kernel) (by decide +kernel) hlocks (fun t hvm hz hk => ⟨(iN_arcs, fN_from, fN_to, fN_room, fN_cost), ⟨(b_iN_arcs), b_fN_from, b_fN_to, (by first | exact ⟨rfl, rfl, rfl, rfl, rfl⟩ | ((try dsimp only); exact ⟨rfl, rfl, rfl, rfl, rfl⟩))⟩, ⟨Or.inl ⟨rfl, by omega⟩, hP.kept (fun k q h => hk q.1 ((hP k q h).lt)), hD⟩, ⟨Nat.le_trans hS.1 hz, fun q h1 h2 => (hk q (Nat.lt_of_lt_of_le h1 hS.1)).trans (hS.2.1 q h1 h2)⟩⟩) hS.2.2 (by decide +kernel) (by decide +kernel)
        · have t_47 : ¬ k0_j2.toInt = 0 := toI_neq c_47 rfl (by decide : (0 : Int32).toInt = 0)
          refine lv_iload_n hx hb dX11_arc_50 rfl (lv_at hl 2 rfl) ?_
          refine lv_iload_n hx hb dX11_arc_51 rfl (lv_at hl 3 rfl) ?_
          refine lv_icmp_ne (tgt := 63) hx hb dX11_arc_52 (by decide) (fun c_52 => ?_) (fun c_52 => ?_)
          · have t_52 : p1.toInt ≠ p2.toInt := toI_ne c_52 rfl rfl
            refine lv_aload_n hx hb dX11_arc_63 rfl (lv_at hl 1 rfl) ?_
            have hFc := allFree hD hS hA
            refine va_callr (va_runV (As := []) (rest := []) ⟨hx, hb, hml, hown, hts⟩ (m_X11_theNets_1 l dC dI hX aX kX hT hM fX_ready fX_sheet dX_sheet nX_sheet iX_sheetLength xX_reader xX_solver xX_prover xX_values xX_clauses hN aN kN iN_arcs fN_from fN_to fN_room fN_cost iN_reached fN_free fN_before fN_flow fN_length fN_stop iN_stops fN_price fN_rest b_fX_sheet (by first | exact b_nX_sheet | with_reducible assumption | exact ⟨by omega, by omega⟩ | assumption) (b_iX_sheetLength) (by first | with_reducible assumption | omega | assumption) (b_iN_arcs) b_fN_from b_fN_to b_fN_before b_fN_stop (b_iN_stops) H.size) (cwV 0 hts gwsMX11_arc_1_2 rfl rfl rfl hd_yX11_theNets_RX11 (by decide +kernel)) (fz_pre (va_recv hK hP (ci := 11) (q0 := 0) rfl rfl) hP hK hD) rfl rfl hl.1 rfl (lv_room (Nat.le_of_ble_eq_true rfl)) dX11_arc_64 (by decide +kernel)) hS (fun q _ h => hFc q h) hFc (fun u ra3 t9_ H locs ht hvm hw9 hB9 hz1 hk1 hS => ?_)
            revert hB9
            refine fz_a2 ?_
            intro hra hB9
            subst hra
            clear hw9
            have hP : va_P (dC, dI) vwCl (WX hX aX kX hT hM fX_ready fX_sheet dX_sheet nX_sheet iX_sheetLength xX_reader xX_solver xX_prover xX_values xX_clauses (.ref (hN 0)) ++ (WN hN aN kN iN_arcs fN_from fN_to fN_room fN_cost iN_reached fN_free fN_before fN_flow fN_length fN_stop iN_stops fN_price fN_rest)) H := fz_P ht hB9.1
            have hD : va_D A (WX hX aX kX hT hM fX_ready fX_sheet dX_sheet nX_sheet iX_sheetLength xX_reader xX_solver xX_prover xX_values xX_clauses (.ref (hN 0)) ++ (WN hN aN kN iN_arcs fN_from fN_to fN_room fN_cost iN_reached fN_free fN_before fN_flow fN_length fN_stop iN_stops fN_price fN_rest)) := hB9.2.weaken (fun _ q _ h => hFc q.1 h)
            refine va_get (D := (dC, dI)) (ci := 2) (v := .int iN_arcs) (C := RX2) (T := TX2) (N := 14) hx hb hts iwsMX11_arc_1_in2 hown hK hP 3 rfl rfl 0 (by decide) (hts (.fieldLink RX11 429 "OptimaWorks$NetDesk" "arcs" "I") (by decide +kernel)) (fun _ h9 => h9) rfl dX11_arc_67 ?_
            refine lv_bipush (v := 40) hx hb dX11_arc_70 (by decide) ?_
            refine lv_icmp_lt (tgt := 83) hx hb dX11_arc_72 (by decide) (fun c_72 => ?_) (fun c_72 => ?_)
            · have t_72 : iN_arcs.toInt < 40 := toI_lt c_72 rfl (by decide : (40 : Int32).toInt = 40)
              refine lv_aload_n hx hb dX11_arc_83 rfl (lv_at hl 1 rfl) ?_
              refine va_get (D := (dC, dI)) (ci := 11) (v := .ref (hN 0)) (C := RX11) (T := TX11) (N := 11) hx hb hts iwsMX11_arc_1_in11 hown hK hP 0 rfl rfl 10 (by decide) (hts (.fieldLink RX11 415 "OptimaWorks" "nets" "LOptimaWorks$NetDesk;") (by decide +kernel)) (fun _ h9 => h9) rfl dX11_arc_84 ?_
              refine lv_iload_n hx hb dX11_arc_87 rfl (lv_at hl 2 rfl) ?_
              refine lv_iload_n hx hb dX11_arc_88 rfl (lv_at hl 3 rfl) ?_
              refine lv_iload_n hx hb dX11_arc_89 rfl (lv_at hl 4 rfl) ?_
              refine lv_iload hx hb dX11_arc_90 (lv_at hl 5 rfl) ?_
              have hPc : va_P (dC, dI) vwCl (WN hN aN kN iN_arcs fN_from fN_to fN_room fN_cost iN_reached fN_free fN_before fN_flow fN_length fN_stop iN_stops fN_price fN_rest) _ := hP.sub [3, 4, 5, 6, 7, 8, 9, 10, 11, 12, 13, 14] rfl
              have hDc : va_D _ (WN hN aN kN iN_arcs fN_from fN_to fN_room fN_cost iN_reached fN_free fN_before fN_flow fN_length fN_stop iN_stops fN_price fN_rest) := hD.sub [3, 4, 5, 6, 7, 8, 9, 10, 11, 12, 13, 14] (by decide) rfl
              have hKc : va_K (dC, dI) vwCl (tN kN) _ := hK.sub [2, 3, 4, 5, 6, 7, 8, 9, 10, 11, 12] rfl
              have hFc := va_free (wc := WN hN aN kN iN_arcs fN_from fN_to fN_room fN_cost iN_reached fN_free fN_before fN_flow fN_length fN_stop iN_stops fN_price fN_rest) hD hS hA [3, 4, 5, 6, 7, 8, 9, 10, 11, 12, 13, 14] rfl
              refine va_calli (va_runV (As := [.int p1, .int p2, .int p3, .int p4]) (rest := []) ⟨hx, hb, hml, hown, hts⟩ (m_X2_addArc l dC dI hN aN kN iN_arcs fN_from fN_to fN_room fN_cost iN_reached fN_free fN_before fN_flow fN_length fN_stop iN_stops fN_price fN_rest p1 p2 p3 p4 (b_iN_arcs) b_fN_from b_fN_to b_fN_before b_fN_stop (b_iN_stops) (by first | exact b_p1 | with_reducible assumption | exact ⟨by omega, by omega⟩ | assumption) (by first | exact b_p2 | with_reducible assumption | exact ⟨by omega, by omega⟩ | assumption) (by first | with_reducible assumption | omega | (rw [iI_t (by omega) (by omega)]; omega) | decide | assumption) H.size) (cwV 4 hts gwsMX11_arc_1_3 rfl rfl rfl hd_yX2_addArc_RX2 (by decide +kernel)) (fz_pre (va_recv hK hP (ci := 2) (q0 := 3) rfl rfl) hPc hKc hDc) rfl rfl hl.1 rfl (lv_room (Nat.le_of_ble_eq_true rfl)) dX11_arc_92 (by decide +kernel)) hS (fun q _ h => hFc q h) hFc (fun r4 u t9_ H locs ht hvm hw9 hB9 hz1 hk1 hS => ?_)
              revert u hw9 hB9
              refine fz_p5 ?_
              intro iN_arcs_4 fN_from_4 fN_to_4 fN_room_4 fN_cost_4 hw9 hB9
              try dsimp only at hw9 hB9
              revert hw9
              refine fz_a9 ?_
              intro b_iN_arcs_4 b_fN_from_4 b_fN_to_4 f4_0 f4_1 f4_2 f4_3 f4_4 f4_5
              obtain ⟨hP, hD⟩ := va_join (wr := [(hX 0, .inr (11, [.ref (aX 0), .ref (hT 0), .ref (hM 0), .ref dX_sheet, .int iX_sheetLength, xX_reader, xX_solver, xX_prover, xX_values, xX_clauses, (.ref (hN 0))])), (aX 0, .inl (kX 0, 5, .inl fX_ready)), (dX_sheet, .inl (kX 1, nX_sheet, .inl fX_sheet))]) (w1 := WN hN aN kN iN_arcs_4 fN_from_4 fN_to_4 fN_room_4 fN_cost_4 iN_reached fN_free fN_before fN_flow fN_length fN_stop iN_stops fN_price fN_rest) hP hD [3, 4, 5, 6, 7, 8, 9, 10, 11, 12, 13, 14] [0, 1, 2] rfl rfl (by decide) (by decide) hk1 hFc (fz_P ht hB9.1) hB9.2
              have hP : va_P (dC, dI) vwCl (WX hX aX kX hT hM fX_ready fX_sheet dX_sheet nX_sheet iX_sheetLength xX_reader xX_solver xX_prover xX_values xX_clauses (.ref (hN 0)) ++ (WN hN aN kN iN_arcs_4 fN_from_4 fN_to_4 fN_room_4 fN_cost_4 iN_reached fN_free fN_before fN_flow fN_length fN_stop iN_stops fN_price fN_rest)) H := hP.sub [0, 1, 2, 3, 4, 5, 6, 7, 8, 9, 10, 11, 12, 13, 14] rfl
              have hD : va_D A (WX hX aX kX hT hM fX_ready fX_sheet dX_sheet nX_sheet iX_sheetLength xX_reader xX_solver xX_prover xX_values xX_clauses (.ref (hN 0)) ++ (WN hN aN kN iN_arcs_4 fN_from_4 fN_to_4 fN_room_4 fN_cost_4 iN_reached fN_free fN_before fN_flow fN_length fN_stop iN_stops fN_price fN_rest)) := hD.sub [0, 1, 2, 3, 4, 5, 6, 7, 8, 9, 10, 11, 12, 13, 14] (by decide) rfl
              refine vx_ret ?_
              refine W.known (fun hz9 _ => ?_)
              refine W.widen (k := 1) (n := 6) (by decide +kernel) (by decide +kernel) ?_
              exact W.iret (v := r4) hx hb hr (fun t9_ ht hW => ⟨⟨r4, (iN_arcs_4, fN_from_4, fN_to_4, fN_room_4, fN_cost_4), rfl, ⟨b_iN_arcs_4, b_fN_from_4, b_fN_to_4, (by (try dsimp only); first | assumption | omega), (by (try dsimp only); first | assumption | omega), (by (try dsimp only); assumption), (by (try dsimp only); assumption), (by (try dsimp only); assumption), (by (try dsimp only); assumption), (by (try dsimp only); omega)⟩, by rw [ht]; exact hP, hD, by rw [ht]; first | done | exact Nat.le_antisymm hz9 hS.1⟩, hS.F ht⟩) hS.2.2 dX11_arc_95
            · have t_72 : ¬ iN_arcs.toInt < 40 := toI_nlt c_72 rfl (by decide : (40 : Int32).toInt = 40)
              exact vx_throw0 (own := RX11) (cls := "java/lang/IllegalStateException") (names := ["java/lang/RuntimeException", "java/lang/Exception"]) (ik := 159) (ic := 161) (A := A) hx hb hst hown (by decide +kernel) (by decide +kernel) (hts (.classLink RX11 159 "java/lang/IllegalStateException") (by decide +kernel)) (hts (.initialized "java/lang/IllegalStateException") (by decide +kernel)) (vx_hat (B := ngX11_161) (fun w h => hts w (List.mem_cons_of_mem _ (List.mem_append_right _ h))) (fun _ h => h) (fun w h => va_Nw.use (ngX11_161_ot w h) (hE.2.2.1.2.1 w h))) (by decide +kernel) hE.2.1.1 hE.2.1.2 hS (by rw [hml]; exact hl.1) dX11_arc_75 dX11_arc_78 dX11_arc_79 dX11_arc_82 (fun x hx9 => (htab x hx9).elim) (by decide +kernel) (Nat.le_of_ble_eq_true rfl) (by decide +kernel) (by decide +kernel) hlocks (fun t hvm hz hk => ⟨(iN_arcs, fN_from, fN_to, fN_room, fN_cost), ⟨(b_iN_arcs), b_fN_from, b_fN_to, (by first | exact ⟨rfl, rfl, rfl, rfl, rfl⟩ | ((try dsimp only); exact ⟨rfl, rfl, rfl, rfl, rfl⟩))⟩, ⟨Or.inr (⟨rfl, by omega⟩), hP.kept (fun k q h => hk q.1 ((hP k q h).lt)), hD⟩, ⟨Nat.le_trans hS.1 hz, fun q h1 h2 => (hk q (Nat.lt_of_lt_of_le h1 hS.1)).trans (hS.2.1 q h1 h2)⟩⟩) hS.2.2 (by decide +kernel) (by decide +kernel)
          · have t_52 : p1.toInt = p2.toInt := toI_nne c_52 rfl rfl
            exact vx_throw0 (own := RX11) (cls := "java/lang/IllegalArgumentException") (names := ["java/lang/RuntimeException", "java/lang/Exception"]) (ik := 77) (ic := 79) (A := A) hx hb hst hown (by decide +kernel) (by decide +kernel) (hts _ hm_m_X11_arc_1_0) (hts _ hm_m_X11_arc_1_1) (vx_hat (B := ngX11_79) (fun w h => hts w (List.mem_cons_of_mem _ (List.mem_append_left _ (List.mem_append_left _ (List.mem_append_left _ (List.mem_append_right _ h)))))) (fun _ h => h) (fun w h => va_Nw.use (ngX11_79_ot w h) (hE.2.2.1.2.2.1 w h))) (by decide +kernel) hE.2.1.1 hE.2.1.2 hS (by rw [hml]; exact hl.1) dX11_arc_55 dX11_arc_58 dX11_arc_59 dX11_arc_62 (fun x hx9 => (htab x hx9).elim) (by decide +kernel) (Nat.le_of_ble_eq_true rfl) (by decide +kernel) (by decide +kernel) hlocks (fun t hvm hz hk => ⟨(iN_arcs, fN_from, fN_to, fN_room, fN_cost), ⟨(b_iN_arcs), b_fN_from, b_fN_to, (by first | exact ⟨rfl, rfl, rfl, rfl, rfl⟩ | ((try dsimp only); exact ⟨rfl, rfl, rfl, rfl, rfl⟩))⟩, ⟨Or.inl ⟨rfl, by omega⟩, hP.kept (fun k q h => hk q.1 ((hP k q h).lt)), hD⟩, ⟨Nat.le_trans hS.1 hz, fun q h1 h2 => (hk q (Nat.lt_of_lt_of_le h1 hS.1)).trans (hS.2.1 q h1 h2)⟩⟩) hS.2.2 (by decide +kernel) (by decide +kernel)
theorem dX11_unarc_0 : decode cX11_unarc 0 = .ok (.aload_n 0, 1) := dk_42 (by decide +kernel)
theorem dX11_unarc_1 : decode cX11_unarc 1 = .ok (.invokevirtual 425, 3) := dk_182 (by decide +kernel)
theorem dX11_unarc_4 : decode cX11_unarc 4 = .ok (.invokevirtual 435, 3) := dk_182 (by decide +kernel)
theorem dX11_unarc_7 : decode cX11_unarc 7 = .ok (.ireturn, 1) := dk_172 (by decide +kernel)
def wsMX11_unarc_1 : List Cond := .code yX11_unarc cX11_unarc 1 (some .boolean) :: ([] ++ (wsV RX11 425 RX11 yX11_theNets wsMX11_theNets_1) ++ (wsV RX11 435 RX2 yX2_dropArc wsMX2_dropArc))
theorem gwsMX11_unarc_1_0 : GoodIn wsMX11_unarc_1 (wsV RX11 425 RX11 yX11_theNets wsMX11_theNets_1) := goodIn_sub (fun _ h => List.mem_cons_of_mem _ (List.mem_append_left _ (List.mem_append_right _ h))) (gdV (by decide +kernel) gdwsMX11_theNets_1)
theorem gwsMX11_unarc_1_1 : GoodIn wsMX11_unarc_1 (wsV RX11 435 RX2 yX2_dropArc wsMX2_dropArc) := goodIn_sub (fun _ h => List.mem_cons_of_mem _ (List.mem_append_right _ h)) (gdV (by decide +kernel) gdwsMX2_dropArc)
theorem gdwsMX11_unarc_1 : wsMX11_unarc_1.all goodWord = true := gdC rfl (gdA (gdA (by decide +kernel : ([] : List Cond).all goodWord = true) (gdV (by decide +kernel) gdwsMX11_theNets_1)) (gdV (by decide +kernel) gdwsMX2_dropArc))
set_option maxHeartbeats 4000000 in
set_option maxRecDepth 100000 in
/-- an arc less -/
theorem m_X11_unarc_1 (l : Launch) (dC : Nat → ClassId) (dI : Nat → Nat → Nat) (hX : Nat → Nat) (aX : Nat → Nat) (kX : Nat → ClassId) (hT : Nat → Nat) (hM : Nat → Nat) (fX_ready : Nat → Int32) (fX_sheet : Nat → Int32) (dX_sheet : Nat) (nX_sheet : Nat) (iX_sheetLength : Int32) (xX_reader : Value) (xX_solver : Value) (xX_prover : Value) (xX_values : Value) (xX_clauses : Value) (hN : Nat → Nat) (aN : Nat → Nat) (kN : Nat → ClassId) (iN_arcs : Int32) (fN_from : Nat → Int32) (fN_to : Nat → Int32) (fN_room : Nat → Int32) (fN_cost : Nat → Int32) (iN_reached : Int32) (fN_free : Nat → Int32) (fN_before : Nat → Int32) (fN_flow : Nat → Int32) (fN_length : Nat → Int32) (fN_stop : Nat → Int32) (iN_stops : Int32) (fN_price : Nat → Int32) (fN_rest : Nat → Int32) (b_fX_sheet : ∀ q : Nat, (-128) ≤ (fX_sheet q).toInt ∧ (fX_sheet q).toInt ≤ 127) (b_nX_sheet : 64 ≤ nX_sheet ∧ nX_sheet ≤ 60000) (b_iX_sheetLength : 0 ≤ iX_sheetLength.toInt ∧ iX_sheetLength.toInt ≤ 30000) (b_shl : iX_sheetLength.toInt ≤ ((nX_sheet : Nat) : Int)) (b_iN_arcs : 0 ≤ iN_arcs.toInt ∧ iN_arcs.toInt ≤ 40) (b_fN_from : ∀ q : Nat, 0 ≤ (fN_from q).toInt ∧ (fN_from q).toInt ≤ 11) (b_fN_to : ∀ q : Nat, 0 ≤ (fN_to q).toInt ∧ (fN_to q).toInt ≤ 11) (b_fN_before : ∀ q : Nat, 0 ≤ (fN_before q).toInt ∧ (fN_before q).toInt ≤ 79) (b_fN_stop : ∀ q : Nat, 0 ≤ (fN_stop q).toInt ∧ (fN_stop q).toInt ≤ 11) (b_iN_stops : 0 ≤ iN_stops.toInt ∧ iN_stops.toInt ≤ 8) (sz : Nat) : Met l yX11_unarc wsMX11_unarc_1 ({ frames := 1, cells := 0, slots := 0, locals := 20 }) (va_Pc [.ref (hX 0)] (fun U => U.heap.size = sz ∧ va_P (dC, dI) vwCl (WX hX aX kX hT hM fX_ready fX_sheet dX_sheet nX_sheet iX_sheetLength xX_reader xX_solver xX_prover xX_values xX_clauses (.ref (hN 0)) ++ (WN hN aN kN iN_arcs fN_from fN_to fN_room fN_cost iN_reached fN_free fN_before fN_flow fN_length fN_stop iN_stops fN_price fN_rest)) U.heap ∧ va_K (dC, dI) vwCl (tX kX ++ (tN kN)) U ∧ va_D (fun _ => True) (WX hX aX kX hT hM fX_ready fX_sheet dX_sheet nX_sheet iX_sheetLength xX_reader xX_solver xX_prover xX_values xX_clauses (.ref (hN 0)) ++ (WN hN aN kN iN_arcs fN_from fN_to fN_room fN_cost iN_reached fN_free fN_before fN_flow fN_length fN_stop iN_stops fN_price fN_rest)))) (va_Qi (fun (r : Int32) (u : Int32) => (0 ≤ u.toInt ∧ u.toInt ≤ 40) ∧ (0 ≤ r.toInt ∧ r.toInt ≤ 1) ∧ ((iN_arcs.toInt = 0 ∧ r.toInt = 0 ∧ u.toInt = 0) ∨ (0 < iN_arcs.toInt ∧ r.toInt = 1 ∧ u.toInt = iN_arcs.toInt - 1))) (fun (u : Int32) t => va_P (dC, dI) vwCl (WX hX aX kX hT hM fX_ready fX_sheet dX_sheet nX_sheet iX_sheetLength xX_reader xX_solver xX_prover xX_values xX_clauses (.ref (hN 0)) ++ (WN hN aN kN u fN_from fN_to fN_room fN_cost iN_reached fN_free fN_before fN_flow fN_length fN_stop iN_stops fN_price fN_rest)) t.heap ∧ va_D (va_A (WX hX aX kX hT hM fX_ready fX_sheet dX_sheet nX_sheet iX_sheetLength xX_reader xX_solver xX_prover xX_values xX_clauses (.ref (hN 0)) ++ (WN hN aN kN iN_arcs fN_from fN_to fN_room fN_cost iN_reached fN_free fN_before fN_flow fN_length fN_stop iN_stops fN_price fN_rest)) sz) (WX hX aX kX hT hM fX_ready fX_sheet dX_sheet nX_sheet iX_sheetLength xX_reader xX_solver xX_prover xX_values xX_clauses (.ref (hN 0)) ++ (WN hN aN kN u fN_from fN_to fN_room fN_cost iN_reached fN_free fN_before fN_flow fN_length fN_stop iN_stops fN_price fN_rest))) (va_A (WX hX aX kX hT hM fX_ready fX_sheet dX_sheet nX_sheet iX_sheetLength xX_reader xX_solver xX_prover xX_values xX_clauses (.ref (hN 0)) ++ (WN hN aN kN iN_arcs fN_from fN_to fN_room fN_cost iN_reached fN_free fN_before fN_flow fN_length fN_stop iN_stops fN_price fN_rest)) sz)) 0 0 (va_A (WX hX aX kX hT hM fX_ready fX_sheet dX_sheet nX_sheet iX_sheetLength xX_reader xX_solver xX_prover xX_values xX_clauses (.ref (hN 0)) ++ (WN hN aN kN iN_arcs fN_from fN_to fN_room fN_cost iN_reached fN_free fN_before fN_flow fN_length fN_stop iN_stops fN_price fN_rest)) sz) := by
  refine Met.ofW (cc := cX11_unarc) (maxL := 1) (ret := (some .boolean)) (by decide) rfl ?_
  intro p e s m args below meth c s₁ B hml hv
  obtain ⟨rfl, hsz, hP, hK, hD0⟩ := hv
  have hx := B.exec
  have hb := B.bytes
  have hr := B.returns
  have hts := atoms_spec (ws := wsMX11_unarc_1) B.pre
  have hown : s.vm.findClass RX11 = some m.cls := findClass_of_methodNamed B.named
  have hlocks := B.notSynchronized
  subst hsz
  have hD := hD0.self (sz := s.heap.size)
  generalize hAe : va_A (WX hX aX kX hT hM fX_ready fX_sheet dX_sheet nX_sheet iX_sheetLength xX_reader xX_solver xX_prover xX_values xX_clauses (.ref (hN 0)) ++ (WN hN aN kN iN_arcs fN_from fN_to fN_room fN_cost iN_reached fN_free fN_before fN_flow fN_length fN_stop iN_stops fN_price fN_rest)) s.heap.size = A at hD ⊢
  have hA : ∀ q : Nat, s.heap.size ≤ q → A q := fun q h => by rw [← hAe]; exact Or.inr h
  have hS : va_S A s.heap s.heap [] := va_S.rf
  have hl := lv_entry ([.ref (hX 0)]) (n := 1) (Nat.le_of_ble_eq_true rfl)
  rw [lg_entry_eq]
  generalize (lg_sl ([.ref (hX 0)]) ++ List.replicate (1 - (lg_sl ([.ref (hX 0)])).length) Slot.unset).toArray = ls at hl ⊢
  have hl : lv_has ls 1 [(0, .ref (hX 0))] := hl
  refine lv_aload_n hx hb dX11_unarc_0 rfl (lv_at hl 0 rfl) ?_
  have hFc := allFree hD hS hA
  refine va_callr (va_runV (As := []) (rest := []) ⟨hx, hb, hml, hown, hts⟩ (m_X11_theNets_1 l dC dI hX aX kX hT hM fX_ready fX_sheet dX_sheet nX_sheet iX_sheetLength xX_reader xX_solver xX_prover xX_values xX_clauses hN aN kN iN_arcs fN_from fN_to fN_room fN_cost iN_reached fN_free fN_before fN_flow fN_length fN_stop iN_stops fN_price fN_rest b_fX_sheet (by first | exact b_nX_sheet | with_reducible assumption | exact ⟨by omega, by omega⟩ | assumption) (b_iX_sheetLength) (by first | with_reducible assumption | omega | assumption) (b_iN_arcs) b_fN_from b_fN_to b_fN_before b_fN_stop (b_iN_stops) s.heap.size) (cwV 0 hts gwsMX11_unarc_1_0 rfl rfl rfl hd_yX11_theNets_RX11 (by decide +kernel)) (fz_pre (va_recv hK hP (ci := 11) (q0 := 0) rfl rfl) hP hK hD) rfl rfl hl.1 rfl (lv_room (Nat.le_of_ble_eq_true rfl)) dX11_unarc_1 (by decide +kernel)) hS (fun q _ h => hFc q h) hFc (fun u ra1 t9_ H locs ht hvm hw9 hB9 hz1 hk1 hS => ?_)
  revert hB9
  refine fz_a2 ?_
  intro hra hB9
  subst hra
  clear hw9
  have hP : va_P (dC, dI) vwCl (WX hX aX kX hT hM fX_ready fX_sheet dX_sheet nX_sheet iX_sheetLength xX_reader xX_solver xX_prover xX_values xX_clauses (.ref (hN 0)) ++ (WN hN aN kN iN_arcs fN_from fN_to fN_room fN_cost iN_reached fN_free fN_before fN_flow fN_length fN_stop iN_stops fN_price fN_rest)) H := fz_P ht hB9.1
  have hD : va_D A (WX hX aX kX hT hM fX_ready fX_sheet dX_sheet nX_sheet iX_sheetLength xX_reader xX_solver xX_prover xX_values xX_clauses (.ref (hN 0)) ++ (WN hN aN kN iN_arcs fN_from fN_to fN_room fN_cost iN_reached fN_free fN_before fN_flow fN_length fN_stop iN_stops fN_price fN_rest)) := hB9.2.weaken (fun _ q _ h => hFc q.1 h)
  have hPc : va_P (dC, dI) vwCl (WN hN aN kN iN_arcs fN_from fN_to fN_room fN_cost iN_reached fN_free fN_before fN_flow fN_length fN_stop iN_stops fN_price fN_rest) _ := hP.sub [3, 4, 5, 6, 7, 8, 9, 10, 11, 12, 13, 14] rfl
  have hDc : va_D _ (WN hN aN kN iN_arcs fN_from fN_to fN_room fN_cost iN_reached fN_free fN_before fN_flow fN_length fN_stop iN_stops fN_price fN_rest) := hD.sub [3, 4, 5, 6, 7, 8, 9, 10, 11, 12, 13, 14] (by decide) rfl
  have hKc : va_K (dC, dI) vwCl (tN kN) _ := hK.sub [2, 3, 4, 5, 6, 7, 8, 9, 10, 11, 12] rfl
  have hFc := va_free (wc := WN hN aN kN iN_arcs fN_from fN_to fN_room fN_cost iN_reached fN_free fN_before fN_flow fN_length fN_stop iN_stops fN_price fN_rest) hD hS hA [3, 4, 5, 6, 7, 8, 9, 10, 11, 12, 13, 14] rfl
  refine va_calli (va_runV (As := []) (rest := []) ⟨hx, hb, hml, hown, hts⟩ (m_X2_dropArc l dC dI hN aN kN iN_arcs fN_from fN_to fN_room fN_cost iN_reached fN_free fN_before fN_flow fN_length fN_stop iN_stops fN_price fN_rest (b_iN_arcs) b_fN_from b_fN_to b_fN_before b_fN_stop (b_iN_stops) H.size) (cwV 0 hts gwsMX11_unarc_1_1 rfl rfl rfl hd_yX2_dropArc_RX2 (by decide +kernel)) (fz_pre (va_recv hK hP (ci := 2) (q0 := 3) rfl rfl) hPc hKc hDc) rfl rfl hl.1 rfl (lv_room (Nat.le_of_ble_eq_true rfl)) dX11_unarc_4 (by decide +kernel)) hS (fun q _ h => hFc q h) hFc (fun r2 iN_arcs_2 t9_ H locs ht hvm hw9 hB9 hz1 hk1 hS => ?_)
  revert hw9
  refine fz_a3 ?_
  intro b_iN_arcs_2 b_r2 f2_0
  obtain ⟨hP, hD⟩ := va_join (wr := [(hX 0, .inr (11, [.ref (aX 0), .ref (hT 0), .ref (hM 0), .ref dX_sheet, .int iX_sheetLength, xX_reader, xX_solver, xX_prover, xX_values, xX_clauses, (.ref (hN 0))])), (aX 0, .inl (kX 0, 5, .inl fX_ready)), (dX_sheet, .inl (kX 1, nX_sheet, .inl fX_sheet))]) (w1 := WN hN aN kN iN_arcs_2 fN_from fN_to fN_room fN_cost iN_reached fN_free fN_before fN_flow fN_length fN_stop iN_stops fN_price fN_rest) hP hD [3, 4, 5, 6, 7, 8, 9, 10, 11, 12, 13, 14] [0, 1, 2] rfl rfl (by decide) (by decide) hk1 hFc (fz_P ht hB9.1) hB9.2
  have hP : va_P (dC, dI) vwCl (WX hX aX kX hT hM fX_ready fX_sheet dX_sheet nX_sheet iX_sheetLength xX_reader xX_solver xX_prover xX_values xX_clauses (.ref (hN 0)) ++ (WN hN aN kN iN_arcs_2 fN_from fN_to fN_room fN_cost iN_reached fN_free fN_before fN_flow fN_length fN_stop iN_stops fN_price fN_rest)) H := hP.sub [0, 1, 2, 3, 4, 5, 6, 7, 8, 9, 10, 11, 12, 13, 14] rfl
  have hD : va_D A (WX hX aX kX hT hM fX_ready fX_sheet dX_sheet nX_sheet iX_sheetLength xX_reader xX_solver xX_prover xX_values xX_clauses (.ref (hN 0)) ++ (WN hN aN kN iN_arcs_2 fN_from fN_to fN_room fN_cost iN_reached fN_free fN_before fN_flow fN_length fN_stop iN_stops fN_price fN_rest)) := hD.sub [0, 1, 2, 3, 4, 5, 6, 7, 8, 9, 10, 11, 12, 13, 14] (by decide) rfl
  refine W.widen (k := 0) (n := 0) (by decide +kernel) (by decide +kernel) ?_
  exact W.zret (v := r2) hx hb hr (by rcases z01 (x := r2) (by first | exact b_r2 | with_reducible assumption | exact ⟨by omega, by omega⟩ | assumption) with h9 | h9 <;> rw [h9] <;> rfl) (fun t9_ ht hW => ⟨⟨r2, iN_arcs_2, rfl, ⟨b_iN_arcs_2, (by first | exact b_r2 | with_reducible assumption | exact ⟨by omega, by omega⟩ | assumption), (by (try dsimp only); assumption)⟩, by rw [ht]; exact hP, hD⟩, hS.F ht⟩) hS.2.2 dX11_unarc_7
theorem dX11_greatest_0 : decode cX11_greatest 0 = .ok (.iload_n 1, 1) := dk_27 (by decide +kernel)
theorem dX11_greatest_1 : decode cX11_greatest 1 = .ok (.iload_n 2, 1) := dk_28 (by decide +kernel)
theorem dX11_greatest_2 : decode cX11_greatest 2 = .ok (.invokestatic 438, 3) := dk_184 (by decide +kernel)
theorem dX11_greatest_5 : decode cX11_greatest 5 = .ok (.aload_n 0, 1) := dk_42 (by decide +kernel)
theorem dX11_greatest_6 : decode cX11_greatest 6 = .ok (.invokevirtual 425, 3) := dk_182 (by decide +kernel)
theorem dX11_greatest_9 : decode cX11_greatest 9 = .ok (.iload_n 1, 1) := dk_27 (by decide +kernel)
theorem dX11_greatest_10 : decode cX11_greatest 10 = .ok (.iload_n 2, 1) := dk_28 (by decide +kernel)
theorem dX11_greatest_11 : decode cX11_greatest 11 = .ok (.invokevirtual 441, 3) := dk_182 (by decide +kernel)
theorem dX11_greatest_14 : decode cX11_greatest 14 = .ok (.ireturn, 1) := dk_172 (by decide +kernel)
def wsMX11_greatest_1 : List Cond := .code yX11_greatest cX11_greatest 3 (some .int) :: ([] ++ (va_wsS RX11 438 yX11_needNodes wsMX11_needNodes) ++ (wsV RX11 425 RX11 yX11_theNets wsMX11_theNets_1) ++ (wsV RX11 441 RX2 yX2_fill wsMX2_fill))
theorem gwsMX11_greatest_1_0 : GoodIn wsMX11_greatest_1 (va_wsS RX11 438 yX11_needNodes wsMX11_needNodes) := goodIn_sub (fun _ h => List.mem_cons_of_mem _ (List.mem_append_left _ (List.mem_append_left _ (List.mem_append_right _ h)))) (gdS (by decide +kernel) gdwsMX11_needNodes)
theorem gwsMX11_greatest_1_1 : GoodIn wsMX11_greatest_1 (wsV RX11 425 RX11 yX11_theNets wsMX11_theNets_1) := goodIn_sub (fun _ h => List.mem_cons_of_mem _ (List.mem_append_left _ (List.mem_append_right _ h))) (gdV (by decide +kernel) gdwsMX11_theNets_1)
theorem gwsMX11_greatest_1_2 : GoodIn wsMX11_greatest_1 (wsV RX11 441 RX2 yX2_fill wsMX2_fill) := goodIn_sub (fun _ h => List.mem_cons_of_mem _ (List.mem_append_right _ h)) (gdV (by decide +kernel) gdwsMX2_fill)
theorem gdwsMX11_greatest_1 : wsMX11_greatest_1.all goodWord = true := gdC rfl (gdA (gdA (gdA (by decide +kernel : ([] : List Cond).all goodWord = true) (gdS (by decide +kernel) gdwsMX11_needNodes)) (gdV (by decide +kernel) gdwsMX11_theNets_1)) (gdV (by decide +kernel) gdwsMX2_fill))
set_option maxHeartbeats 4000000 in
set_option maxRecDepth 100000 in
/-- a greatest flow -/
theorem m_X11_greatest_1 (l : Launch) (hst : l.stackTraces = false) (dC : Nat → ClassId) (dI : Nat → Nat → Nat) (hX : Nat → Nat) (aX : Nat → Nat) (kX : Nat → ClassId) (hT : Nat → Nat) (hM : Nat → Nat) (fX_ready : Nat → Int32) (fX_sheet : Nat → Int32) (dX_sheet : Nat) (nX_sheet : Nat) (iX_sheetLength : Int32) (xX_reader : Value) (xX_solver : Value) (xX_prover : Value) (xX_values : Value) (xX_clauses : Value) (hN : Nat → Nat) (aN : Nat → Nat) (kN : Nat → ClassId) (iN_arcs : Int32) (fN_from : Nat → Int32) (fN_to : Nat → Int32) (fN_room : Nat → Int32) (fN_cost : Nat → Int32) (iN_reached : Int32) (fN_free : Nat → Int32) (fN_before : Nat → Int32) (fN_flow : Nat → Int32) (fN_length : Nat → Int32) (fN_stop : Nat → Int32) (iN_stops : Int32) (fN_price : Nat → Int32) (fN_rest : Nat → Int32) (p1 : Int32) (p2 : Int32) (b_fX_sheet : ∀ q : Nat, (-128) ≤ (fX_sheet q).toInt ∧ (fX_sheet q).toInt ≤ 127) (b_nX_sheet : 64 ≤ nX_sheet ∧ nX_sheet ≤ 60000) (b_iX_sheetLength : 0 ≤ iX_sheetLength.toInt ∧ iX_sheetLength.toInt ≤ 30000) (b_shl : iX_sheetLength.toInt ≤ ((nX_sheet : Nat) : Int)) (b_iN_arcs : 0 ≤ iN_arcs.toInt ∧ iN_arcs.toInt ≤ 40) (b_fN_from : ∀ q : Nat, 0 ≤ (fN_from q).toInt ∧ (fN_from q).toInt ≤ 11) (b_fN_to : ∀ q : Nat, 0 ≤ (fN_to q).toInt ∧ (fN_to q).toInt ≤ 11) (b_fN_before : ∀ q : Nat, 0 ≤ (fN_before q).toInt ∧ (fN_before q).toInt ≤ 79) (b_fN_stop : ∀ q : Nat, 0 ≤ (fN_stop q).toInt ∧ (fN_stop q).toInt ≤ 11) (b_iN_stops : 0 ≤ iN_stops.toInt ∧ iN_stops.toInt ≤ 8) (hVal : tVal (iN_arcs.toInt, fN_from, fN_to, fN_room, fN_cost)) (hRm : tRm (iN_arcs.toInt, fN_from, fN_to, fN_room, fN_cost)) (sz : Nat) : vx_Met l yX11_greatest wsMX11_greatest_1 ({ frames := 7, cells := 1, slots := 6, locals := 102 }) (va_Pc [.ref (hX 0), .int p1, .int p2] (fun U => U.heap.size = sz ∧ va_P (dC, dI) vwCl (WX hX aX kX hT hM fX_ready fX_sheet dX_sheet nX_sheet iX_sheetLength xX_reader xX_solver xX_prover xX_values xX_clauses (.ref (hN 0)) ++ (WN hN aN kN iN_arcs fN_from fN_to fN_room fN_cost iN_reached fN_free fN_before fN_flow fN_length fN_stop iN_stops fN_price fN_rest)) U.heap ∧ va_K (dC, dI) vwCl (tX kX ++ (tN kN)) U ∧ va_D (fun _ => True) (WX hX aX kX hT hM fX_ready fX_sheet dX_sheet nX_sheet iX_sheetLength xX_reader xX_solver xX_prover xX_values xX_clauses (.ref (hN 0)) ++ (WN hN aN kN iN_arcs fN_from fN_to fN_room fN_cost iN_reached fN_free fN_before fN_flow fN_length fN_stop iN_stops fN_price fN_rest)) ∧ CE (va_A (WX hX aX kX hT hM fX_ready fX_sheet dX_sheet nX_sheet iX_sheetLength xX_reader xX_solver xX_prover xX_values xX_clauses (.ref (hN 0)) ++ (WN hN aN kN iN_arcs fN_from fN_to fN_room fN_cost iN_reached fN_free fN_before fN_flow fN_length fN_stop iN_stops fN_price fN_rest)) sz) U U.heap)) (va_Qi (fun (r : Int32) (u : (Int32) × (Nat → Int32) × (Nat → Int32)) => (∀ q : Nat, 0 ≤ ((u.2.2) q).toInt ∧ ((u.2.2) q).toInt ≤ 79) ∧ (((0 ≤ p1.toInt ∧ p1.toInt ≤ 11) ∧ 0 ≤ p2.toInt ∧ p2.toInt ≤ 11) ∧ p1.toInt ≠ p2.toInt) ∧ (mxF (iN_arcs.toInt, fN_from, fN_to, fN_room, fN_cost) p1.toInt.toNat p2.toInt.toNat r.toInt)) (fun (u : (Int32) × (Nat → Int32) × (Nat → Int32)) t => va_P (dC, dI) vwCl (WX hX aX kX hT hM fX_ready fX_sheet dX_sheet nX_sheet iX_sheetLength xX_reader xX_solver xX_prover xX_values xX_clauses (.ref (hN 0)) ++ (WN hN aN kN iN_arcs fN_from fN_to fN_room fN_cost (u.1) (u.2.1) (u.2.2) fN_flow fN_length fN_stop iN_stops fN_price fN_rest)) t.heap ∧ va_D (va_A (WX hX aX kX hT hM fX_ready fX_sheet dX_sheet nX_sheet iX_sheetLength xX_reader xX_solver xX_prover xX_values xX_clauses (.ref (hN 0)) ++ (WN hN aN kN iN_arcs fN_from fN_to fN_room fN_cost iN_reached fN_free fN_before fN_flow fN_length fN_stop iN_stops fN_price fN_rest)) sz) (WX hX aX kX hT hM fX_ready fX_sheet dX_sheet nX_sheet iX_sheetLength xX_reader xX_solver xX_prover xX_values xX_clauses (.ref (hN 0)) ++ (WN hN aN kN iN_arcs fN_from fN_to fN_room fN_cost (u.1) (u.2.1) (u.2.2) fN_flow fN_length fN_stop iN_stops fN_price fN_rest)) ∧ t.heap.size = sz) (va_A (WX hX aX kX hT hM fX_ready fX_sheet dX_sheet nX_sheet iX_sheetLength xX_reader xX_solver xX_prover xX_values xX_clauses (.ref (hN 0)) ++ (WN hN aN kN iN_arcs fN_from fN_to fN_room fN_cost iN_reached fN_free fN_before fN_flow fN_length fN_stop iN_stops fN_price fN_rest)) sz)) (vx_X (fun (u : (Int32) × (Nat → Int32) × (Nat → Int32)) => (∀ q : Nat, 0 ≤ ((u.2.2) q).toInt ∧ ((u.2.2) q).toInt ≤ 79)) (fun E (u : (Int32) × (Nat → Int32) × (Nat → Int32)) t => ((E = "java/lang/IndexOutOfBoundsException" ∧ (¬ ((0 ≤ p1.toInt ∧ p1.toInt ≤ 11) ∧ 0 ≤ p2.toInt ∧ p2.toInt ≤ 11))) ∨ (E = "java/lang/IllegalArgumentException" ∧ (((0 ≤ p1.toInt ∧ p1.toInt ≤ 11) ∧ 0 ≤ p2.toInt ∧ p2.toInt ≤ 11) ∧ p1.toInt = p2.toInt))) ∧ va_P (dC, dI) vwCl (WX hX aX kX hT hM fX_ready fX_sheet dX_sheet nX_sheet iX_sheetLength xX_reader xX_solver xX_prover xX_values xX_clauses (.ref (hN 0)) ++ (WN hN aN kN iN_arcs fN_from fN_to fN_room fN_cost (u.1) (u.2.1) (u.2.2) fN_flow fN_length fN_stop iN_stops fN_price fN_rest)) t.heap ∧ va_D (va_A (WX hX aX kX hT hM fX_ready fX_sheet dX_sheet nX_sheet iX_sheetLength xX_reader xX_solver xX_prover xX_values xX_clauses (.ref (hN 0)) ++ (WN hN aN kN iN_arcs fN_from fN_to fN_room fN_cost iN_reached fN_free fN_before fN_flow fN_length fN_stop iN_stops fN_price fN_rest)) sz) (WX hX aX kX hT hM fX_ready fX_sheet dX_sheet nX_sheet iX_sheetLength xX_reader xX_solver xX_prover xX_values xX_clauses (.ref (hN 0)) ++ (WN hN aN kN iN_arcs fN_from fN_to fN_room fN_cost (u.1) (u.2.1) (u.2.2) fN_flow fN_length fN_stop iN_stops fN_price fN_rest))) (va_A (WX hX aX kX hT hM fX_ready fX_sheet dX_sheet nX_sheet iX_sheetLength xX_reader xX_solver xX_prover xX_values xX_clauses (.ref (hN 0)) ++ (WN hN aN kN iN_arcs fN_from fN_to fN_room fN_cost iN_reached fN_free fN_before fN_flow fN_length fN_stop iN_stops fN_price fN_rest)) sz)) 1 6 (va_A (WX hX aX kX hT hM fX_ready fX_sheet dX_sheet nX_sheet iX_sheetLength xX_reader xX_solver xX_prover xX_values xX_clauses (.ref (hN 0)) ++ (WN hN aN kN iN_arcs fN_from fN_to fN_room fN_cost iN_reached fN_free fN_before fN_flow fN_length fN_stop iN_stops fN_price fN_rest)) sz) := by
  refine vx_ofW (cc := cX11_greatest) (maxL := 3) (ret := (some .int)) (by decide) rfl ?_
  intro p e s m args below meth c s₁ B hml htab hv
  obtain ⟨rfl, hsz, hP, hK, hD0, hE⟩ := hv
  have hx := B.exec
  have hb := B.bytes
  have hr := B.returns
  have hts := atoms_spec (ws := wsMX11_greatest_1) B.pre
  have hown : s.vm.findClass RX11 = some m.cls := findClass_of_methodNamed B.named
  have hlocks := B.notSynchronized
  subst hsz
  have hD := hD0.self (sz := s.heap.size)
  generalize hAe : va_A (WX hX aX kX hT hM fX_ready fX_sheet dX_sheet nX_sheet iX_sheetLength xX_reader xX_solver xX_prover xX_values xX_clauses (.ref (hN 0)) ++ (WN hN aN kN iN_arcs fN_from fN_to fN_room fN_cost iN_reached fN_free fN_before fN_flow fN_length fN_stop iN_stops fN_price fN_rest)) s.heap.size = A at hD hE ⊢
  have hA : ∀ q : Nat, s.heap.size ≤ q → A q := fun q h => by rw [← hAe]; exact Or.inr h
  have hS : va_S A s.heap s.heap [] := va_S.rf
  have hl := lv_entry ([.ref (hX 0), .int p1, .int p2]) (n := 3) (Nat.le_of_ble_eq_true rfl)
  rw [lg_entry_eq]
  generalize (lg_sl ([.ref (hX 0), .int p1, .int p2]) ++ List.replicate (3 - (lg_sl ([.ref (hX 0), .int p1, .int p2])).length) Slot.unset).toArray = ls at hl ⊢
  have hl : lv_has ls 3 [(0, .ref (hX 0)), (1, .int p1), (2, .int p2)] := hl
  refine lv_iload_n hx hb dX11_greatest_0 rfl (lv_at hl 1 rfl) ?_
  refine lv_iload_n hx hb dX11_greatest_1 rfl (lv_at hl 2 rfl) ?_
  refine W.known (fun hz0 _ => ?_)
  have hFc := noneFree hS hA
  refine vx_callv (vx_runS (As := [.int p1, .int p2]) (rest := []) ⟨hx, hb, hml, hown, hts⟩ (m_X11_needNodes l hst dC dI p1 p2 s.heap.size) (va_cwS 2 hts gwsMX11_greatest_1_0 rfl rfl rfl (by decide +kernel) ⟨by decide +kernel, by decide +kernel⟩) ⟨fun a U g mk q => by obtain ⟨q0, q1, qP, qK, qD, qE⟩ := q; exact ⟨q0, q1, qP, va_K.moved (u := U) (U := U.calling g mk a) (Vm.Alike.refl U.vm) qK, qD, qE.call⟩, fun U hU9 hW => ⟨rfl, by rw [hU9], by rw [hU9]; exact nilP, va_K.moved hW.alike (hK.sub (tys' := []) [] rfl), nilD, by rw [hU9]; exact (((hE : CE A s s.heap).kept hS.2.1).narrow (fun q h => hFc q h)).warm hW⟩⟩ rfl rfl hl.1 rfl (lv_room (Nat.le_of_ble_eq_true rfl)) dX11_greatest_2 (by decide +kernel)) hS (fun q _ h => hFc q h) hFc (fun q _ h => hFc q h) (fun E ce q9 u t9_ H1 locs ht hvm hw9 hB9 hz1 hk1 hS hc1 hc2 hc3 => ?_) (fun u t9_ H1 locs ht hvm hw9 hB9 hz1 hk1 hS => ?_)
  · revert hB9
    refine fz_a2 ?_
    intro hEx hB9
    clear hw9
    clear hB9
    have hP := keepAll hP hk1
    generalize H1 = H at hP hS hc1 ⊢
    have hP : va_P (dC, dI) vwCl (WX hX aX kX hT hM fX_ready fX_sheet dX_sheet nX_sheet iX_sheetLength xX_reader xX_solver xX_prover xX_values xX_clauses (.ref (hN 0)) ++ (WN hN aN kN iN_arcs fN_from fN_to fN_room fN_cost iN_reached fN_free fN_before fN_flow fN_length fN_stop iN_stops fN_price fN_rest)) H := hP
    have hD : va_D A (WX hX aX kX hT hM fX_ready fX_sheet dX_sheet nX_sheet iX_sheetLength xX_reader xX_solver xX_prover xX_values xX_clauses (.ref (hN 0)) ++ (WN hN aN kN iN_arcs fN_from fN_to fN_room fN_cost iN_reached fN_free fN_before fN_flow fN_length fN_stop iN_stops fN_price fN_rest)) := hD
    exact vx_out (fun x hx9 => (htab x hx9).elim) hlocks hc1 hc2 hc3 (fun t9_ ht hvm => ⟨(iN_reached, fN_free, fN_before), b_fN_before, ⟨(by rcases hEx with h9 | h9; exact Or.inl ⟨h9.1, (by have h8 := h9.2; omega)⟩; exact Or.inr (⟨h9.1, (by have h8 := h9.2; omega)⟩)), by rw [ht]; exact hP, hD⟩, hS.F ht⟩) hS.2.2 (by decide +kernel) (by decide +kernel)
  have f1_0 := hw9
  try dsimp only at f1_0
  obtain ⟨_, hz8⟩ := hB9
  rw [ht] at hz8
  have hz9 : H1.size ≤ s.heap.size + 0 := by rw [hz8]; exact hz0
  refine W.tight (cells2 := 0) (slots2 := 0) hz9 (nS_0 hz9) ?_
  clear hz8 hz9
  have hP := keepAll hP hk1
  generalize H1 = H at hP hS ⊢
  have hP : va_P (dC, dI) vwCl (WX hX aX kX hT hM fX_ready fX_sheet dX_sheet nX_sheet iX_sheetLength xX_reader xX_solver xX_prover xX_values xX_clauses (.ref (hN 0)) ++ (WN hN aN kN iN_arcs fN_from fN_to fN_room fN_cost iN_reached fN_free fN_before fN_flow fN_length fN_stop iN_stops fN_price fN_rest)) H := hP
  have hD : va_D A (WX hX aX kX hT hM fX_ready fX_sheet dX_sheet nX_sheet iX_sheetLength xX_reader xX_solver xX_prover xX_values xX_clauses (.ref (hN 0)) ++ (WN hN aN kN iN_arcs fN_from fN_to fN_room fN_cost iN_reached fN_free fN_before fN_flow fN_length fN_stop iN_stops fN_price fN_rest)) := hD
  have hnn := f1_0
  refine lv_aload_n hx hb dX11_greatest_5 rfl (lv_at hl 0 rfl) ?_
  have hFc := allFree hD hS hA
  refine va_callr (va_runV (As := []) (rest := []) ⟨hx, hb, hml, hown, hts⟩ (m_X11_theNets_1 l dC dI hX aX kX hT hM fX_ready fX_sheet dX_sheet nX_sheet iX_sheetLength xX_reader xX_solver xX_prover xX_values xX_clauses hN aN kN iN_arcs fN_from fN_to fN_room fN_cost iN_reached fN_free fN_before fN_flow fN_length fN_stop iN_stops fN_price fN_rest b_fX_sheet (by first | exact b_nX_sheet | with_reducible assumption | exact ⟨by omega, by omega⟩ | assumption) (b_iX_sheetLength) (by first | with_reducible assumption | omega | assumption) (b_iN_arcs) b_fN_from b_fN_to b_fN_before b_fN_stop (b_iN_stops) H.size) (cwV 0 hts gwsMX11_greatest_1_1 rfl rfl rfl hd_yX11_theNets_RX11 (by decide +kernel)) (fz_pre (va_recv hK hP (ci := 11) (q0 := 0) rfl rfl) hP hK hD) rfl rfl hl.1 rfl (lv_room (Nat.le_of_ble_eq_true rfl)) dX11_greatest_6 (by decide +kernel)) hS (fun q _ h => hFc q h) hFc (fun u ra2 t9_ H locs ht hvm hw9 hB9 hz1 hk1 hS => ?_)
  revert hB9
  refine fz_a2 ?_
  intro hra hB9
  subst hra
  clear hw9
  have hP : va_P (dC, dI) vwCl (WX hX aX kX hT hM fX_ready fX_sheet dX_sheet nX_sheet iX_sheetLength xX_reader xX_solver xX_prover xX_values xX_clauses (.ref (hN 0)) ++ (WN hN aN kN iN_arcs fN_from fN_to fN_room fN_cost iN_reached fN_free fN_before fN_flow fN_length fN_stop iN_stops fN_price fN_rest)) H := fz_P ht hB9.1
  have hD : va_D A (WX hX aX kX hT hM fX_ready fX_sheet dX_sheet nX_sheet iX_sheetLength xX_reader xX_solver xX_prover xX_values xX_clauses (.ref (hN 0)) ++ (WN hN aN kN iN_arcs fN_from fN_to fN_room fN_cost iN_reached fN_free fN_before fN_flow fN_length fN_stop iN_stops fN_price fN_rest)) := hB9.2.weaken (fun _ q _ h => hFc q.1 h)
  refine lv_iload_n hx hb dX11_greatest_9 rfl (lv_at hl 1 rfl) ?_
  refine lv_iload_n hx hb dX11_greatest_10 rfl (lv_at hl 2 rfl) ?_
  have hPc : va_P (dC, dI) vwCl (WN hN aN kN iN_arcs fN_from fN_to fN_room fN_cost iN_reached fN_free fN_before fN_flow fN_length fN_stop iN_stops fN_price fN_rest) _ := hP.sub [3, 4, 5, 6, 7, 8, 9, 10, 11, 12, 13, 14] rfl
  have hDc : va_D _ (WN hN aN kN iN_arcs fN_from fN_to fN_room fN_cost iN_reached fN_free fN_before fN_flow fN_length fN_stop iN_stops fN_price fN_rest) := hD.sub [3, 4, 5, 6, 7, 8, 9, 10, 11, 12, 13, 14] (by decide) rfl
  have hKc : va_K (dC, dI) vwCl (tN kN) _ := hK.sub [2, 3, 4, 5, 6, 7, 8, 9, 10, 11, 12] rfl
  have hFc := va_free (wc := WN hN aN kN iN_arcs fN_from fN_to fN_room fN_cost iN_reached fN_free fN_before fN_flow fN_length fN_stop iN_stops fN_price fN_rest) hD hS hA [3, 4, 5, 6, 7, 8, 9, 10, 11, 12, 13, 14] rfl
  refine va_calli (va_runV (As := [.int p1, .int p2]) (rest := []) ⟨hx, hb, hml, hown, hts⟩ (m_X2_fill l dC dI hN aN kN iN_arcs fN_from fN_to fN_room fN_cost iN_reached fN_free fN_before fN_flow fN_length fN_stop iN_stops fN_price fN_rest p1 p2 (b_iN_arcs) b_fN_from b_fN_to b_fN_before b_fN_stop (b_iN_stops) (by first | exact b_p1 | with_reducible assumption | exact ⟨by omega, by omega⟩ | assumption) (by first | exact b_p2 | with_reducible assumption | exact ⟨by omega, by omega⟩ | assumption) (hVal) (hRm) (by omega) H.size) (cwV 2 hts gwsMX11_greatest_1_2 rfl rfl rfl hd_yX2_fill_RX2 (by decide +kernel)) (fz_pre (va_recv hK hP (ci := 2) (q0 := 3) rfl rfl) hPc hKc hDc) rfl rfl hl.1 rfl (lv_room (Nat.le_of_ble_eq_true rfl)) dX11_greatest_11 (by decide +kernel)) hS (fun q _ h => hFc q h) hFc (fun r3 u t9_ H locs ht hvm hw9 hB9 hz1 hk1 hS => ?_)
  revert u hw9 hB9
  refine fz_p3 ?_
  intro iN_reached_3 fN_free_3 fN_before_3 hw9 hB9
  try dsimp only at hw9 hB9
  revert hw9
  refine fz_a3 ?_
  intro b_fN_before_3 f3_0 f3_1
  obtain ⟨hP, hD⟩ := va_join (wr := [(hX 0, .inr (11, [.ref (aX 0), .ref (hT 0), .ref (hM 0), .ref dX_sheet, .int iX_sheetLength, xX_reader, xX_solver, xX_prover, xX_values, xX_clauses, (.ref (hN 0))])), (aX 0, .inl (kX 0, 5, .inl fX_ready)), (dX_sheet, .inl (kX 1, nX_sheet, .inl fX_sheet))]) (w1 := WN hN aN kN iN_arcs fN_from fN_to fN_room fN_cost iN_reached_3 fN_free_3 fN_before_3 fN_flow fN_length fN_stop iN_stops fN_price fN_rest) hP hD [3, 4, 5, 6, 7, 8, 9, 10, 11, 12, 13, 14] [0, 1, 2] rfl rfl (by decide) (by decide) hk1 hFc (fz_P ht hB9.1) hB9.2
  have hP : va_P (dC, dI) vwCl (WX hX aX kX hT hM fX_ready fX_sheet dX_sheet nX_sheet iX_sheetLength xX_reader xX_solver xX_prover xX_values xX_clauses (.ref (hN 0)) ++ (WN hN aN kN iN_arcs fN_from fN_to fN_room fN_cost iN_reached_3 fN_free_3 fN_before_3 fN_flow fN_length fN_stop iN_stops fN_price fN_rest)) H := hP.sub [0, 1, 2, 3, 4, 5, 6, 7, 8, 9, 10, 11, 12, 13, 14] rfl
  have hD : va_D A (WX hX aX kX hT hM fX_ready fX_sheet dX_sheet nX_sheet iX_sheetLength xX_reader xX_solver xX_prover xX_values xX_clauses (.ref (hN 0)) ++ (WN hN aN kN iN_arcs fN_from fN_to fN_room fN_cost iN_reached_3 fN_free_3 fN_before_3 fN_flow fN_length fN_stop iN_stops fN_price fN_rest)) := hD.sub [0, 1, 2, 3, 4, 5, 6, 7, 8, 9, 10, 11, 12, 13, 14] (by decide) rfl
  refine vx_ret ?_
  refine W.known (fun hz9 _ => ?_)
  refine W.widen (k := 1) (n := 6) (by decide +kernel) (by decide +kernel) ?_
  exact W.iret (v := r3) hx hb hr (fun t9_ ht hW => ⟨⟨r3, (iN_reached_3, fN_free_3, fN_before_3), rfl, ⟨b_fN_before_3, (by (try dsimp only); omega), (by (try dsimp only); assumption)⟩, by rw [ht]; exact hP, hD, by rw [ht]; first | done | exact Nat.le_antisymm hz9 hS.1⟩, hS.F ht⟩) hS.2.2 dX11_greatest_14
theorem dX11_cut_0 : decode cX11_cut 0 = .ok (.iload_n 1, 1) := dk_27 (by decide +kernel)
theorem dX11_cut_1 : decode cX11_cut 1 = .ok (.iload_n 2, 1) := dk_28 (by decide +kernel)
theorem dX11_cut_2 : decode cX11_cut 2 = .ok (.invokestatic 438, 3) := dk_184 (by decide +kernel)
theorem dX11_cut_5 : decode cX11_cut 5 = .ok (.aload_n 0, 1) := dk_42 (by decide +kernel)
theorem dX11_cut_6 : decode cX11_cut 6 = .ok (.invokevirtual 425, 3) := dk_182 (by decide +kernel)
theorem dX11_cut_9 : decode cX11_cut 9 = .ok (.iload_n 1, 1) := dk_27 (by decide +kernel)
theorem dX11_cut_10 : decode cX11_cut 10 = .ok (.iload_n 2, 1) := dk_28 (by decide +kernel)
theorem dX11_cut_11 : decode cX11_cut 11 = .ok (.invokevirtual 441, 3) := dk_182 (by decide +kernel)
theorem dX11_cut_14 : decode cX11_cut 14 = .ok (.pop, 1) := dk_87 (by decide +kernel)
theorem dX11_cut_15 : decode cX11_cut 15 = .ok (.aload_n 0, 1) := dk_42 (by decide +kernel)
theorem dX11_cut_16 : decode cX11_cut 16 = .ok (.getfield 415, 3) := dk_180 (by decide +kernel)
theorem dX11_cut_19 : decode cX11_cut 19 = .ok (.getfield 443, 3) := dk_180 (by decide +kernel)
theorem dX11_cut_22 : decode cX11_cut 22 = .ok (.ireturn, 1) := dk_172 (by decide +kernel)
def wsMX11_cut_1 : List Cond := .code yX11_cut cX11_cut 3 (some .int) :: ([.fieldLink RX11 415 "OptimaWorks" "nets" "LOptimaWorks$NetDesk;", .fieldLink RX11 443 "OptimaWorks$NetDesk" "reached" "I"] ++ wsX20 ++ wsX110 ++ (va_wsS RX11 438 yX11_needNodes wsMX11_needNodes) ++ (wsV RX11 425 RX11 yX11_theNets wsMX11_theNets_1) ++ (wsV RX11 441 RX2 yX2_fill wsMX2_fill))
theorem iwsMX11_cut_1_in2 : ∀ w ∈ wsX20, w ∈ wsMX11_cut_1 := fun _ h => List.mem_cons_of_mem _ (List.mem_append_left _ (List.mem_append_left _ (List.mem_append_left _ (List.mem_append_left _ (List.mem_append_right _ h)))))
theorem iwsMX11_cut_1_in11 : ∀ w ∈ wsX110, w ∈ wsMX11_cut_1 := fun _ h => List.mem_cons_of_mem _ (List.mem_append_left _ (List.mem_append_left _ (List.mem_append_left _ (List.mem_append_right _ h))))
theorem gwsMX11_cut_1_0 : GoodIn wsMX11_cut_1 (va_wsS RX11 438 yX11_needNodes wsMX11_needNodes) := goodIn_sub (fun _ h => List.mem_cons_of_mem _ (List.mem_append_left _ (List.mem_append_left _ (List.mem_append_right _ h)))) (gdS (by decide +kernel) gdwsMX11_needNodes)
theorem gwsMX11_cut_1_1 : GoodIn wsMX11_cut_1 (wsV RX11 425 RX11 yX11_theNets wsMX11_theNets_1) := goodIn_sub (fun _ h => List.mem_cons_of_mem _ (List.mem_append_left _ (List.mem_append_right _ h))) (gdV (by decide +kernel) gdwsMX11_theNets_1)
theorem gwsMX11_cut_1_2 : GoodIn wsMX11_cut_1 (wsV RX11 441 RX2 yX2_fill wsMX2_fill) := goodIn_sub (fun _ h => List.mem_cons_of_mem _ (List.mem_append_right _ h)) (gdV (by decide +kernel) gdwsMX2_fill)
theorem gdwsMX11_cut_1 : wsMX11_cut_1.all goodWord = true := gdC rfl (gdA (gdA (gdA (gdA (gdA (by decide +kernel : ([.fieldLink RX11 415 "OptimaWorks" "nets" "LOptimaWorks$NetDesk;", .fieldLink RX11 443 "OptimaWorks$NetDesk" "reached" "I"] : List Cond).all goodWord = true) gdwsX20) gdwsX110) (gdS (by decide +kernel) gdwsMX11_needNodes)) (gdV (by decide +kernel) gdwsMX11_theNets_1)) (gdV (by decide +kernel) gdwsMX2_fill))
set_option maxHeartbeats 4000000 in
set_option maxRecDepth 100000 in
/-- a cut -/
theorem m_X11_cut_1 (l : Launch) (hst : l.stackTraces = false) (dC : Nat → ClassId) (dI : Nat → Nat → Nat) (hX : Nat → Nat) (aX : Nat → Nat) (kX : Nat → ClassId) (hT : Nat → Nat) (hM : Nat → Nat) (fX_ready : Nat → Int32) (fX_sheet : Nat → Int32) (dX_sheet : Nat) (nX_sheet : Nat) (iX_sheetLength : Int32) (xX_reader : Value) (xX_solver : Value) (xX_prover : Value) (xX_values : Value) (xX_clauses : Value) (hN : Nat → Nat) (aN : Nat → Nat) (kN : Nat → ClassId) (iN_arcs : Int32) (fN_from : Nat → Int32) (fN_to : Nat → Int32) (fN_room : Nat → Int32) (fN_cost : Nat → Int32) (iN_reached : Int32) (fN_free : Nat → Int32) (fN_before : Nat → Int32) (fN_flow : Nat → Int32) (fN_length : Nat → Int32) (fN_stop : Nat → Int32) (iN_stops : Int32) (fN_price : Nat → Int32) (fN_rest : Nat → Int32) (p1 : Int32) (p2 : Int32) (b_fX_sheet : ∀ q : Nat, (-128) ≤ (fX_sheet q).toInt ∧ (fX_sheet q).toInt ≤ 127) (b_nX_sheet : 64 ≤ nX_sheet ∧ nX_sheet ≤ 60000) (b_iX_sheetLength : 0 ≤ iX_sheetLength.toInt ∧ iX_sheetLength.toInt ≤ 30000) (b_shl : iX_sheetLength.toInt ≤ ((nX_sheet : Nat) : Int)) (b_iN_arcs : 0 ≤ iN_arcs.toInt ∧ iN_arcs.toInt ≤ 40) (b_fN_from : ∀ q : Nat, 0 ≤ (fN_from q).toInt ∧ (fN_from q).toInt ≤ 11) (b_fN_to : ∀ q : Nat, 0 ≤ (fN_to q).toInt ∧ (fN_to q).toInt ≤ 11) (b_fN_before : ∀ q : Nat, 0 ≤ (fN_before q).toInt ∧ (fN_before q).toInt ≤ 79) (b_fN_stop : ∀ q : Nat, 0 ≤ (fN_stop q).toInt ∧ (fN_stop q).toInt ≤ 11) (b_iN_stops : 0 ≤ iN_stops.toInt ∧ iN_stops.toInt ≤ 8) (hVal : tVal (iN_arcs.toInt, fN_from, fN_to, fN_room, fN_cost)) (hRm : tRm (iN_arcs.toInt, fN_from, fN_to, fN_room, fN_cost)) (sz : Nat) : vx_Met l yX11_cut wsMX11_cut_1 ({ frames := 7, cells := 1, slots := 6, locals := 102 }) (va_Pc [.ref (hX 0), .int p1, .int p2] (fun U => U.heap.size = sz ∧ va_P (dC, dI) vwCl (WX hX aX kX hT hM fX_ready fX_sheet dX_sheet nX_sheet iX_sheetLength xX_reader xX_solver xX_prover xX_values xX_clauses (.ref (hN 0)) ++ (WN hN aN kN iN_arcs fN_from fN_to fN_room fN_cost iN_reached fN_free fN_before fN_flow fN_length fN_stop iN_stops fN_price fN_rest)) U.heap ∧ va_K (dC, dI) vwCl (tX kX ++ (tN kN)) U ∧ va_D (fun _ => True) (WX hX aX kX hT hM fX_ready fX_sheet dX_sheet nX_sheet iX_sheetLength xX_reader xX_solver xX_prover xX_values xX_clauses (.ref (hN 0)) ++ (WN hN aN kN iN_arcs fN_from fN_to fN_room fN_cost iN_reached fN_free fN_before fN_flow fN_length fN_stop iN_stops fN_price fN_rest)) ∧ CE (va_A (WX hX aX kX hT hM fX_ready fX_sheet dX_sheet nX_sheet iX_sheetLength xX_reader xX_solver xX_prover xX_values xX_clauses (.ref (hN 0)) ++ (WN hN aN kN iN_arcs fN_from fN_to fN_room fN_cost iN_reached fN_free fN_before fN_flow fN_length fN_stop iN_stops fN_price fN_rest)) sz) U U.heap)) (va_Qi (fun (r : Int32) (u : (Int32) × (Nat → Int32) × (Nat → Int32)) => (∀ q : Nat, 0 ≤ ((u.2.2) q).toInt ∧ ((u.2.2) q).toInt ≤ 79) ∧ (((0 ≤ p1.toInt ∧ p1.toInt ≤ 11) ∧ 0 ≤ p2.toInt ∧ p2.toInt ≤ 11) ∧ p1.toInt ≠ p2.toInt) ∧ (mxC (iN_arcs.toInt, fN_from, fN_to, fN_room, fN_cost) p1.toInt.toNat p2.toInt.toNat r)) (fun (u : (Int32) × (Nat → Int32) × (Nat → Int32)) t => va_P (dC, dI) vwCl (WX hX aX kX hT hM fX_ready fX_sheet dX_sheet nX_sheet iX_sheetLength xX_reader xX_solver xX_prover xX_values xX_clauses (.ref (hN 0)) ++ (WN hN aN kN iN_arcs fN_from fN_to fN_room fN_cost (u.1) (u.2.1) (u.2.2) fN_flow fN_length fN_stop iN_stops fN_price fN_rest)) t.heap ∧ va_D (va_A (WX hX aX kX hT hM fX_ready fX_sheet dX_sheet nX_sheet iX_sheetLength xX_reader xX_solver xX_prover xX_values xX_clauses (.ref (hN 0)) ++ (WN hN aN kN iN_arcs fN_from fN_to fN_room fN_cost iN_reached fN_free fN_before fN_flow fN_length fN_stop iN_stops fN_price fN_rest)) sz) (WX hX aX kX hT hM fX_ready fX_sheet dX_sheet nX_sheet iX_sheetLength xX_reader xX_solver xX_prover xX_values xX_clauses (.ref (hN 0)) ++ (WN hN aN kN iN_arcs fN_from fN_to fN_room fN_cost (u.1) (u.2.1) (u.2.2) fN_flow fN_length fN_stop iN_stops fN_price fN_rest)) ∧ t.heap.size = sz) (va_A (WX hX aX kX hT hM fX_ready fX_sheet dX_sheet nX_sheet iX_sheetLength xX_reader xX_solver xX_prover xX_values xX_clauses (.ref (hN 0)) ++ (WN hN aN kN iN_arcs fN_from fN_to fN_room fN_cost iN_reached fN_free fN_before fN_flow fN_length fN_stop iN_stops fN_price fN_rest)) sz)) (vx_X (fun (u : (Int32) × (Nat → Int32) × (Nat → Int32)) => (∀ q : Nat, 0 ≤ ((u.2.2) q).toInt ∧ ((u.2.2) q).toInt ≤ 79)) (fun E (u : (Int32) × (Nat → Int32) × (Nat → Int32)) t => ((E = "java/lang/IndexOutOfBoundsException" ∧ (¬ ((0 ≤ p1.toInt ∧ p1.toInt ≤ 11) ∧ 0 ≤ p2.toInt ∧ p2.toInt ≤ 11))) ∨ (E = "java/lang/IllegalArgumentException" ∧ (((0 ≤ p1.toInt ∧ p1.toInt ≤ 11) ∧ 0 ≤ p2.toInt ∧ p2.toInt ≤ 11) ∧ p1.toInt = p2.toInt))) ∧ va_P (dC, dI) vwCl (WX hX aX kX hT hM fX_ready fX_sheet dX_sheet nX_sheet iX_sheetLength xX_reader xX_solver xX_prover xX_values xX_clauses (.ref (hN 0)) ++ (WN hN aN kN iN_arcs fN_from fN_to fN_room fN_cost (u.1) (u.2.1) (u.2.2) fN_flow fN_length fN_stop iN_stops fN_price fN_rest)) t.heap ∧ va_D (va_A (WX hX aX kX hT hM fX_ready fX_sheet dX_sheet nX_sheet iX_sheetLength xX_reader xX_solver xX_prover xX_values xX_clauses (.ref (hN 0)) ++ (WN hN aN kN iN_arcs fN_from fN_to fN_room fN_cost iN_reached fN_free fN_before fN_flow fN_length fN_stop iN_stops fN_price fN_rest)) sz) (WX hX aX kX hT hM fX_ready fX_sheet dX_sheet nX_sheet iX_sheetLength xX_reader xX_solver xX_prover xX_values xX_clauses (.ref (hN 0)) ++ (WN hN aN kN iN_arcs fN_from fN_to fN_room fN_cost (u.1) (u.2.1) (u.2.2) fN_flow fN_length fN_stop iN_stops fN_price fN_rest))) (va_A (WX hX aX kX hT hM fX_ready fX_sheet dX_sheet nX_sheet iX_sheetLength xX_reader xX_solver xX_prover xX_values xX_clauses (.ref (hN 0)) ++ (WN hN aN kN iN_arcs fN_from fN_to fN_room fN_cost iN_reached fN_free fN_before fN_flow fN_length fN_stop iN_stops fN_price fN_rest)) sz)) 1 6 (va_A (WX hX aX kX hT hM fX_ready fX_sheet dX_sheet nX_sheet iX_sheetLength xX_reader xX_solver xX_prover xX_values xX_clauses (.ref (hN 0)) ++ (WN hN aN kN iN_arcs fN_from fN_to fN_room fN_cost iN_reached fN_free fN_before fN_flow fN_length fN_stop iN_stops fN_price fN_rest)) sz) := by
  refine vx_ofW (cc := cX11_cut) (maxL := 3) (ret := (some .int)) (by decide) rfl ?_
  intro p e s m args below meth c s₁ B hml htab hv
  obtain ⟨rfl, hsz, hP, hK, hD0, hE⟩ := hv
  have hx := B.exec
  have hb := B.bytes
  have hr := B.returns
  have hts := atoms_spec (ws := wsMX11_cut_1) B.pre
  have hown : s.vm.findClass RX11 = some m.cls := findClass_of_methodNamed B.named
  have hlocks := B.notSynchronized
  subst hsz
  have hD := hD0.self (sz := s.heap.size)
  generalize hAe : va_A (WX hX aX kX hT hM fX_ready fX_sheet dX_sheet nX_sheet iX_sheetLength xX_reader xX_solver xX_prover xX_values xX_clauses (.ref (hN 0)) ++ (WN hN aN kN iN_arcs fN_from fN_to fN_room fN_cost iN_reached fN_free fN_before fN_flow fN_length fN_stop iN_stops fN_price fN_rest)) s.heap.size = A at hD hE ⊢
  have hA : ∀ q : Nat, s.heap.size ≤ q → A q := fun q h => by rw [← hAe]; exact Or.inr h
  have hS : va_S A s.heap s.heap [] := va_S.rf
  have hl := lv_entry ([.ref (hX 0), .int p1, .int p2]) (n := 3) (Nat.le_of_ble_eq_true rfl)
  rw [lg_entry_eq]
  generalize (lg_sl ([.ref (hX 0), .int p1, .int p2]) ++ List.replicate (3 - (lg_sl ([.ref (hX 0), .int p1, .int p2])).length) Slot.unset).toArray = ls at hl ⊢
  have hl : lv_has ls 3 [(0, .ref (hX 0)), (1, .int p1), (2, .int p2)] := hl
  refine lv_iload_n hx hb dX11_cut_0 rfl (lv_at hl 1 rfl) ?_
  refine lv_iload_n hx hb dX11_cut_1 rfl (lv_at hl 2 rfl) ?_
  refine W.known (fun hz0 _ => ?_)
  have hFc := noneFree hS hA
  refine vx_callv (vx_runS (As := [.int p1, .int p2]) (rest := []) ⟨hx, hb, hml, hown, hts⟩ (m_X11_needNodes l hst dC dI p1 p2 s.heap.size) (va_cwS 2 hts gwsMX11_cut_1_0 rfl rfl rfl (by decide +kernel) ⟨by decide +kernel, by decide +kernel⟩) ⟨fun a U g mk q => by obtain ⟨q0, q1, qP, qK, qD, qE⟩ := q; exact ⟨q0, q1, qP, va_K.moved (u := U) (U := U.calling g mk a) (Vm.Alike.refl U.vm) qK, qD, qE.call⟩, fun U hU9 hW => ⟨rfl, by rw [hU9], by rw [hU9]; exact nilP, va_K.moved hW.alike (hK.sub (tys' := []) [] rfl), nilD, by rw [hU9]; exact (((hE : CE A s s.heap).kept hS.2.1).narrow (fun q h => hFc q h)).warm hW⟩⟩ rfl rfl hl.1 rfl (lv_room (Nat.le_of_ble_eq_true rfl)) dX11_cut_2 (by decide +kernel)) hS (fun q _ h => hFc q h) hFc (fun q _ h => hFc q h) (fun E ce q9 u t9_ H1 locs ht hvm hw9 hB9 hz1 hk1 hS hc1 hc2 hc3 => ?_) (fun u t9_ H1 locs ht hvm hw9 hB9 hz1 hk1 hS => ?_)
  · revert hB9
    refine fz_a2 ?_
    intro hEx hB9
    clear hw9
    clear hB9
    have hP := keepAll hP hk1
    generalize H1 = H at hP hS hc1 ⊢
    have hP : va_P (dC, dI) vwCl (WX hX aX kX hT hM fX_ready fX_sheet dX_sheet nX_sheet iX_sheetLength xX_reader xX_solver xX_prover xX_values xX_clauses (.ref (hN 0)) ++ (WN hN aN kN iN_arcs fN_from fN_to fN_room fN_cost iN_reached fN_free fN_before fN_flow fN_length fN_stop iN_stops fN_price fN_rest)) H := hP
    have hD : va_D A (WX hX aX kX hT hM fX_ready fX_sheet dX_sheet nX_sheet iX_sheetLength xX_reader xX_solver xX_prover xX_values xX_clauses (.ref (hN 0)) ++ (WN hN aN kN iN_arcs fN_from fN_to fN_room fN_cost iN_reached fN_free fN_before fN_flow fN_length fN_stop iN_stops fN_price fN_rest)) := hD
    exact vx_out (fun x hx9 => (htab x hx9).elim) hlocks hc1 hc2 hc3 (fun t9_ ht hvm => ⟨(iN_reached, fN_free, fN_before), b_fN_before, ⟨(by rcases hEx with h9 | h9; exact Or.inl ⟨h9.1, (by have h8 := h9.2; omega)⟩; exact Or.inr (⟨h9.1, (by have h8 := h9.2; omega)⟩)), by rw [ht]; exact hP, hD⟩, hS.F ht⟩) hS.2.2 (by decide +kernel) (by decide +kernel)
  have f1_0 := hw9
  try dsimp only at f1_0
  obtain ⟨_, hz8⟩ := hB9
  rw [ht] at hz8
  have hz9 : H1.size ≤ s.heap.size + 0 := by rw [hz8]; exact hz0
  refine W.tight (cells2 := 0) (slots2 := 0) hz9 (nS_0 hz9) ?_
  clear hz8 hz9
  have hP := keepAll hP hk1
  generalize H1 = H at hP hS ⊢
  have hP : va_P (dC, dI) vwCl (WX hX aX kX hT hM fX_ready fX_sheet dX_sheet nX_sheet iX_sheetLength xX_reader xX_solver xX_prover xX_values xX_clauses (.ref (hN 0)) ++ (WN hN aN kN iN_arcs fN_from fN_to fN_room fN_cost iN_reached fN_free fN_before fN_flow fN_length fN_stop iN_stops fN_price fN_rest)) H := hP
  have hD : va_D A (WX hX aX kX hT hM fX_ready fX_sheet dX_sheet nX_sheet iX_sheetLength xX_reader xX_solver xX_prover xX_values xX_clauses (.ref (hN 0)) ++ (WN hN aN kN iN_arcs fN_from fN_to fN_room fN_cost iN_reached fN_free fN_before fN_flow fN_length fN_stop iN_stops fN_price fN_rest)) := hD
  have hnn := f1_0
  refine lv_aload_n hx hb dX11_cut_5 rfl (lv_at hl 0 rfl) ?_
  have hFc := allFree hD hS hA
  refine va_callr (va_runV (As := []) (rest := []) ⟨hx, hb, hml, hown, hts⟩ (m_X11_theNets_1 l dC dI hX aX kX hT hM fX_ready fX_sheet dX_sheet nX_sheet iX_sheetLength xX_reader xX_solver xX_prover xX_values xX_clauses hN aN kN iN_arcs fN_from fN_to fN_room fN_cost iN_reached fN_free fN_before fN_flow fN_length fN_stop iN_stops fN_price fN_rest b_fX_sheet (by first | exact b_nX_sheet | with_reducible assumption | exact ⟨by omega, by omega⟩ | assumption) (b_iX_sheetLength) (by first | with_reducible assumption | omega | assumption) (b_iN_arcs) b_fN_from b_fN_to b_fN_before b_fN_stop (b_iN_stops) H.size) (cwV 0 hts gwsMX11_cut_1_1 rfl rfl rfl hd_yX11_theNets_RX11 (by decide +kernel)) (fz_pre (va_recv hK hP (ci := 11) (q0 := 0) rfl rfl) hP hK hD) rfl rfl hl.1 rfl (lv_room (Nat.le_of_ble_eq_true rfl)) dX11_cut_6 (by decide +kernel)) hS (fun q _ h => hFc q h) hFc (fun u ra2 t9_ H locs ht hvm hw9 hB9 hz1 hk1 hS => ?_)
  revert hB9
  refine fz_a2 ?_
  intro hra hB9
  subst hra
  clear hw9
  have hP : va_P (dC, dI) vwCl (WX hX aX kX hT hM fX_ready fX_sheet dX_sheet nX_sheet iX_sheetLength xX_reader xX_solver xX_prover xX_values xX_clauses (.ref (hN 0)) ++ (WN hN aN kN iN_arcs fN_from fN_to fN_room fN_cost iN_reached fN_free fN_before fN_flow fN_length fN_stop iN_stops fN_price fN_rest)) H := fz_P ht hB9.1
  have hD : va_D A (WX hX aX kX hT hM fX_ready fX_sheet dX_sheet nX_sheet iX_sheetLength xX_reader xX_solver xX_prover xX_values xX_clauses (.ref (hN 0)) ++ (WN hN aN kN iN_arcs fN_from fN_to fN_room fN_cost iN_reached fN_free fN_before fN_flow fN_length fN_stop iN_stops fN_price fN_rest)) := hB9.2.weaken (fun _ q _ h => hFc q.1 h)
  refine lv_iload_n hx hb dX11_cut_9 rfl (lv_at hl 1 rfl) ?_
  refine lv_iload_n hx hb dX11_cut_10 rfl (lv_at hl 2 rfl) ?_
  have hPc : va_P (dC, dI) vwCl (WN hN aN kN iN_arcs fN_from fN_to fN_room fN_cost iN_reached fN_free fN_before fN_flow fN_length fN_stop iN_stops fN_price fN_rest) _ := hP.sub [3, 4, 5, 6, 7, 8, 9, 10, 11, 12, 13, 14] rfl
  have hDc : va_D _ (WN hN aN kN iN_arcs fN_from fN_to fN_room fN_cost iN_reached fN_free fN_before fN_flow fN_length fN_stop iN_stops fN_price fN_rest) := hD.sub [3, 4, 5, 6, 7, 8, 9, 10, 11, 12, 13, 14] (by decide) rfl
  have hKc : va_K (dC, dI) vwCl (tN kN) _ := hK.sub [2, 3, 4, 5, 6, 7, 8, 9, 10, 11, 12] rfl
  have hFc := va_free (wc := WN hN aN kN iN_arcs fN_from fN_to fN_room fN_cost iN_reached fN_free fN_before fN_flow fN_length fN_stop iN_stops fN_price fN_rest) hD hS hA [3, 4, 5, 6, 7, 8, 9, 10, 11, 12, 13, 14] rfl
  refine va_calli (va_runV (As := [.int p1, .int p2]) (rest := []) ⟨hx, hb, hml, hown, hts⟩ (m_X2_fill l dC dI hN aN kN iN_arcs fN_from fN_to fN_room fN_cost iN_reached fN_free fN_before fN_flow fN_length fN_stop iN_stops fN_price fN_rest p1 p2 (b_iN_arcs) b_fN_from b_fN_to b_fN_before b_fN_stop (b_iN_stops) (by first | exact b_p1 | with_reducible assumption | exact ⟨by omega, by omega⟩ | assumption) (by first | exact b_p2 | with_reducible assumption | exact ⟨by omega, by omega⟩ | assumption) (hVal) (hRm) (by omega) H.size) (cwV 2 hts gwsMX11_cut_1_2 rfl rfl rfl hd_yX2_fill_RX2 (by decide +kernel)) (fz_pre (va_recv hK hP (ci := 2) (q0 := 3) rfl rfl) hPc hKc hDc) rfl rfl hl.1 rfl (lv_room (Nat.le_of_ble_eq_true rfl)) dX11_cut_11 (by decide +kernel)) hS (fun q _ h => hFc q h) hFc (fun r3 u t9_ H locs ht hvm hw9 hB9 hz1 hk1 hS => ?_)
  revert u hw9 hB9
  refine fz_p3 ?_
  intro iN_reached_3 fN_free_3 fN_before_3 hw9 hB9
  try dsimp only at hw9 hB9
  revert hw9
  refine fz_a3 ?_
  intro b_fN_before_3 f3_0 f3_1
  obtain ⟨hP, hD⟩ := va_join (wr := [(hX 0, .inr (11, [.ref (aX 0), .ref (hT 0), .ref (hM 0), .ref dX_sheet, .int iX_sheetLength, xX_reader, xX_solver, xX_prover, xX_values, xX_clauses, (.ref (hN 0))])), (aX 0, .inl (kX 0, 5, .inl fX_ready)), (dX_sheet, .inl (kX 1, nX_sheet, .inl fX_sheet))]) (w1 := WN hN aN kN iN_arcs fN_from fN_to fN_room fN_cost iN_reached_3 fN_free_3 fN_before_3 fN_flow fN_length fN_stop iN_stops fN_price fN_rest) hP hD [3, 4, 5, 6, 7, 8, 9, 10, 11, 12, 13, 14] [0, 1, 2] rfl rfl (by decide) (by decide) hk1 hFc (fz_P ht hB9.1) hB9.2
  have hP : va_P (dC, dI) vwCl (WX hX aX kX hT hM fX_ready fX_sheet dX_sheet nX_sheet iX_sheetLength xX_reader xX_solver xX_prover xX_values xX_clauses (.ref (hN 0)) ++ (WN hN aN kN iN_arcs fN_from fN_to fN_room fN_cost iN_reached_3 fN_free_3 fN_before_3 fN_flow fN_length fN_stop iN_stops fN_price fN_rest)) H := hP.sub [0, 1, 2, 3, 4, 5, 6, 7, 8, 9, 10, 11, 12, 13, 14] rfl
  have hD : va_D A (WX hX aX kX hT hM fX_ready fX_sheet dX_sheet nX_sheet iX_sheetLength xX_reader xX_solver xX_prover xX_values xX_clauses (.ref (hN 0)) ++ (WN hN aN kN iN_arcs fN_from fN_to fN_room fN_cost iN_reached_3 fN_free_3 fN_before_3 fN_flow fN_length fN_stop iN_stops fN_price fN_rest)) := hD.sub [0, 1, 2, 3, 4, 5, 6, 7, 8, 9, 10, 11, 12, 13, 14] (by decide) rfl
  refine lv_pop hx hb dX11_cut_14 rfl ?_
  refine lv_aload_n hx hb dX11_cut_15 rfl (lv_at hl 0 rfl) ?_
  refine va_get (D := (dC, dI)) (ci := 11) (v := .ref (hN 0)) (C := RX11) (T := TX11) (N := 11) hx hb hts iwsMX11_cut_1_in11 hown hK hP 0 rfl rfl 10 (by decide) (hts (.fieldLink RX11 415 "OptimaWorks" "nets" "LOptimaWorks$NetDesk;") (by decide +kernel)) (fun _ h9 => h9) rfl dX11_cut_16 ?_
  refine va_get (D := (dC, dI)) (ci := 2) (v := .int iN_reached_3) (C := RX2) (T := TX2) (N := 14) hx hb hts iwsMX11_cut_1_in2 hown hK hP 3 rfl rfl 5 (by decide) (hts (.fieldLink RX11 443 "OptimaWorks$NetDesk" "reached" "I") (by decide +kernel)) (fun _ h9 => h9) rfl dX11_cut_19 ?_
  refine vx_ret ?_
  refine W.known (fun hz9 _ => ?_)
  refine W.widen (k := 1) (n := 6) (by decide +kernel) (by decide +kernel) ?_
  exact W.iret (v := iN_reached_3) hx hb hr (fun t9_ ht hW => ⟨⟨iN_reached_3, (iN_reached_3, fN_free_3, fN_before_3), rfl, ⟨b_fN_before_3, (by (try dsimp only); omega), (by (try dsimp only); assumption)⟩, by rw [ht]; exact hP, hD, by rw [ht]; first | done | exact Nat.le_antisymm hz9 hS.1⟩, hS.F ht⟩) hS.2.2 dX11_cut_22
theorem dX11_cheapest_0 : decode cX11_cheapest 0 = .ok (.iload_n 1, 1) := dk_27 (by decide +kernel)
theorem dX11_cheapest_1 : decode cX11_cheapest 1 = .ok (.iload_n 2, 1) := dk_28 (by decide +kernel)
theorem dX11_cheapest_2 : decode cX11_cheapest 2 = .ok (.invokestatic 438, 3) := dk_184 (by decide +kernel)
theorem dX11_cheapest_5 : decode cX11_cheapest 5 = .ok (.aload_n 0, 1) := dk_42 (by decide +kernel)
theorem dX11_cheapest_6 : decode cX11_cheapest 6 = .ok (.invokevirtual 425, 3) := dk_182 (by decide +kernel)
theorem dX11_cheapest_9 : decode cX11_cheapest 9 = .ok (.iload_n 1, 1) := dk_27 (by decide +kernel)
theorem dX11_cheapest_10 : decode cX11_cheapest 10 = .ok (.iload_n 2, 1) := dk_28 (by decide +kernel)
theorem dX11_cheapest_11 : decode cX11_cheapest 11 = .ok (.iload_n 3, 1) := dk_29 (by decide +kernel)
theorem dX11_cheapest_12 : decode cX11_cheapest 12 = .ok (.invokevirtual 446, 3) := dk_182 (by decide +kernel)
theorem dX11_cheapest_15 : decode cX11_cheapest 15 = .ok (.ireturn, 1) := dk_172 (by decide +kernel)
def wsMX11_cheapest_1 : List Cond := .code yX11_cheapest cX11_cheapest 4 (some .int) :: ([] ++ (va_wsS RX11 438 yX11_needNodes wsMX11_needNodes) ++ (wsV RX11 425 RX11 yX11_theNets wsMX11_theNets_1) ++ (wsV RX11 446 RX2 yX2_leastCost wsMX2_leastCost))
theorem gwsMX11_cheapest_1_0 : GoodIn wsMX11_cheapest_1 (va_wsS RX11 438 yX11_needNodes wsMX11_needNodes) := goodIn_sub (fun _ h => List.mem_cons_of_mem _ (List.mem_append_left _ (List.mem_append_left _ (List.mem_append_right _ h)))) (gdS (by decide +kernel) gdwsMX11_needNodes)
theorem gwsMX11_cheapest_1_1 : GoodIn wsMX11_cheapest_1 (wsV RX11 425 RX11 yX11_theNets wsMX11_theNets_1) := goodIn_sub (fun _ h => List.mem_cons_of_mem _ (List.mem_append_left _ (List.mem_append_right _ h))) (gdV (by decide +kernel) gdwsMX11_theNets_1)
theorem gwsMX11_cheapest_1_2 : GoodIn wsMX11_cheapest_1 (wsV RX11 446 RX2 yX2_leastCost wsMX2_leastCost) := goodIn_sub (fun _ h => List.mem_cons_of_mem _ (List.mem_append_right _ h)) (gdV (by decide +kernel) gdwsMX2_leastCost)
theorem gdwsMX11_cheapest_1 : wsMX11_cheapest_1.all goodWord = true := gdC rfl (gdA (gdA (gdA (by decide +kernel : ([] : List Cond).all goodWord = true) (gdS (by decide +kernel) gdwsMX11_needNodes)) (gdV (by decide +kernel) gdwsMX11_theNets_1)) (gdV (by decide +kernel) gdwsMX2_leastCost))
set_option maxHeartbeats 4000000 in
set_option maxRecDepth 100000 in
/-- the cheapest -/
theorem m_X11_cheapest_1 (l : Launch) (hst : l.stackTraces = false) (dC : Nat → ClassId) (dI : Nat → Nat → Nat) (hX : Nat → Nat) (aX : Nat → Nat) (kX : Nat → ClassId) (hT : Nat → Nat) (hM : Nat → Nat) (fX_ready : Nat → Int32) (fX_sheet : Nat → Int32) (dX_sheet : Nat) (nX_sheet : Nat) (iX_sheetLength : Int32) (xX_reader : Value) (xX_solver : Value) (xX_prover : Value) (xX_values : Value) (xX_clauses : Value) (hN : Nat → Nat) (aN : Nat → Nat) (kN : Nat → ClassId) (iN_arcs : Int32) (fN_from : Nat → Int32) (fN_to : Nat → Int32) (fN_room : Nat → Int32) (fN_cost : Nat → Int32) (iN_reached : Int32) (fN_free : Nat → Int32) (fN_before : Nat → Int32) (fN_flow : Nat → Int32) (fN_length : Nat → Int32) (fN_stop : Nat → Int32) (iN_stops : Int32) (fN_price : Nat → Int32) (fN_rest : Nat → Int32) (p1 : Int32) (p2 : Int32) (p3 : Int32) (b_fX_sheet : ∀ q : Nat, (-128) ≤ (fX_sheet q).toInt ∧ (fX_sheet q).toInt ≤ 127) (b_nX_sheet : 64 ≤ nX_sheet ∧ nX_sheet ≤ 60000) (b_iX_sheetLength : 0 ≤ iX_sheetLength.toInt ∧ iX_sheetLength.toInt ≤ 30000) (b_shl : iX_sheetLength.toInt ≤ ((nX_sheet : Nat) : Int)) (b_iN_arcs : 0 ≤ iN_arcs.toInt ∧ iN_arcs.toInt ≤ 40) (b_fN_from : ∀ q : Nat, 0 ≤ (fN_from q).toInt ∧ (fN_from q).toInt ≤ 11) (b_fN_to : ∀ q : Nat, 0 ≤ (fN_to q).toInt ∧ (fN_to q).toInt ≤ 11) (b_fN_before : ∀ q : Nat, 0 ≤ (fN_before q).toInt ∧ (fN_before q).toInt ≤ 79) (b_fN_stop : ∀ q : Nat, 0 ≤ (fN_stop q).toInt ∧ (fN_stop q).toInt ≤ 11) (b_iN_stops : 0 ≤ iN_stops.toInt ∧ iN_stops.toInt ≤ 8) (hAr : ArO fN_from fN_to fN_room fN_cost iN_arcs.toInt.toNat) (sz : Nat) : vx_Met l yX11_cheapest wsMX11_cheapest_1 ({ frames := 7, cells := 1, slots := 6, locals := 102 }) (va_Pc [.ref (hX 0), .int p1, .int p2, .int p3] (fun U => U.heap.size = sz ∧ va_P (dC, dI) vwCl (WX hX aX kX hT hM fX_ready fX_sheet dX_sheet nX_sheet iX_sheetLength xX_reader xX_solver xX_prover xX_values xX_clauses (.ref (hN 0)) ++ (WN hN aN kN iN_arcs fN_from fN_to fN_room fN_cost iN_reached fN_free fN_before fN_flow fN_length fN_stop iN_stops fN_price fN_rest)) U.heap ∧ va_K (dC, dI) vwCl (tX kX ++ (tN kN)) U ∧ va_D (fun _ => True) (WX hX aX kX hT hM fX_ready fX_sheet dX_sheet nX_sheet iX_sheetLength xX_reader xX_solver xX_prover xX_values xX_clauses (.ref (hN 0)) ++ (WN hN aN kN iN_arcs fN_from fN_to fN_room fN_cost iN_reached fN_free fN_before fN_flow fN_length fN_stop iN_stops fN_price fN_rest)) ∧ CE (va_A (WX hX aX kX hT hM fX_ready fX_sheet dX_sheet nX_sheet iX_sheetLength xX_reader xX_solver xX_prover xX_values xX_clauses (.ref (hN 0)) ++ (WN hN aN kN iN_arcs fN_from fN_to fN_room fN_cost iN_reached fN_free fN_before fN_flow fN_length fN_stop iN_stops fN_price fN_rest)) sz) U U.heap)) (va_Qi (fun (r : Int32) (u : (Nat → Int32) × (Nat → Int32) × (Nat → Int32)) => (∀ q : Nat, 0 ≤ ((u.1) q).toInt ∧ ((u.1) q).toInt ≤ 79) ∧ (((0 ≤ p1.toInt ∧ p1.toInt ≤ 11) ∧ 0 ≤ p2.toInt ∧ p2.toInt ≤ 11) ∧ p1.toInt ≠ p2.toInt) ∧ (mnC (iN_arcs.toInt, fN_from, fN_to, fN_room, fN_cost) p1.toInt.toNat p2.toInt.toNat p3.toInt r.toInt)) (fun (u : (Nat → Int32) × (Nat → Int32) × (Nat → Int32)) t => va_P (dC, dI) vwCl (WX hX aX kX hT hM fX_ready fX_sheet dX_sheet nX_sheet iX_sheetLength xX_reader xX_solver xX_prover xX_values xX_clauses (.ref (hN 0)) ++ (WN hN aN kN iN_arcs fN_from fN_to fN_room fN_cost iN_reached fN_free (u.1) (u.2.1) (u.2.2) fN_stop iN_stops fN_price fN_rest)) t.heap ∧ va_D (va_A (WX hX aX kX hT hM fX_ready fX_sheet dX_sheet nX_sheet iX_sheetLength xX_reader xX_solver xX_prover xX_values xX_clauses (.ref (hN 0)) ++ (WN hN aN kN iN_arcs fN_from fN_to fN_room fN_cost iN_reached fN_free fN_before fN_flow fN_length fN_stop iN_stops fN_price fN_rest)) sz) (WX hX aX kX hT hM fX_ready fX_sheet dX_sheet nX_sheet iX_sheetLength xX_reader xX_solver xX_prover xX_values xX_clauses (.ref (hN 0)) ++ (WN hN aN kN iN_arcs fN_from fN_to fN_room fN_cost iN_reached fN_free (u.1) (u.2.1) (u.2.2) fN_stop iN_stops fN_price fN_rest)) ∧ t.heap.size = sz) (va_A (WX hX aX kX hT hM fX_ready fX_sheet dX_sheet nX_sheet iX_sheetLength xX_reader xX_solver xX_prover xX_values xX_clauses (.ref (hN 0)) ++ (WN hN aN kN iN_arcs fN_from fN_to fN_room fN_cost iN_reached fN_free fN_before fN_flow fN_length fN_stop iN_stops fN_price fN_rest)) sz)) (vx_X (fun (u : (Nat → Int32) × (Nat → Int32) × (Nat → Int32)) => (∀ q : Nat, 0 ≤ ((u.1) q).toInt ∧ ((u.1) q).toInt ≤ 79)) (fun E (u : (Nat → Int32) × (Nat → Int32) × (Nat → Int32)) t => ((E = "java/lang/IndexOutOfBoundsException" ∧ (¬ ((0 ≤ p1.toInt ∧ p1.toInt ≤ 11) ∧ 0 ≤ p2.toInt ∧ p2.toInt ≤ 11))) ∨ (E = "java/lang/IllegalArgumentException" ∧ (((0 ≤ p1.toInt ∧ p1.toInt ≤ 11) ∧ 0 ≤ p2.toInt ∧ p2.toInt ≤ 11) ∧ p1.toInt = p2.toInt))) ∧ va_P (dC, dI) vwCl (WX hX aX kX hT hM fX_ready fX_sheet dX_sheet nX_sheet iX_sheetLength xX_reader xX_solver xX_prover xX_values xX_clauses (.ref (hN 0)) ++ (WN hN aN kN iN_arcs fN_from fN_to fN_room fN_cost iN_reached fN_free (u.1) (u.2.1) (u.2.2) fN_stop iN_stops fN_price fN_rest)) t.heap ∧ va_D (va_A (WX hX aX kX hT hM fX_ready fX_sheet dX_sheet nX_sheet iX_sheetLength xX_reader xX_solver xX_prover xX_values xX_clauses (.ref (hN 0)) ++ (WN hN aN kN iN_arcs fN_from fN_to fN_room fN_cost iN_reached fN_free fN_before fN_flow fN_length fN_stop iN_stops fN_price fN_rest)) sz) (WX hX aX kX hT hM fX_ready fX_sheet dX_sheet nX_sheet iX_sheetLength xX_reader xX_solver xX_prover xX_values xX_clauses (.ref (hN 0)) ++ (WN hN aN kN iN_arcs fN_from fN_to fN_room fN_cost iN_reached fN_free (u.1) (u.2.1) (u.2.2) fN_stop iN_stops fN_price fN_rest))) (va_A (WX hX aX kX hT hM fX_ready fX_sheet dX_sheet nX_sheet iX_sheetLength xX_reader xX_solver xX_prover xX_values xX_clauses (.ref (hN 0)) ++ (WN hN aN kN iN_arcs fN_from fN_to fN_room fN_cost iN_reached fN_free fN_before fN_flow fN_length fN_stop iN_stops fN_price fN_rest)) sz)) 1 6 (va_A (WX hX aX kX hT hM fX_ready fX_sheet dX_sheet nX_sheet iX_sheetLength xX_reader xX_solver xX_prover xX_values xX_clauses (.ref (hN 0)) ++ (WN hN aN kN iN_arcs fN_from fN_to fN_room fN_cost iN_reached fN_free fN_before fN_flow fN_length fN_stop iN_stops fN_price fN_rest)) sz) := by
  refine vx_ofW (cc := cX11_cheapest) (maxL := 4) (ret := (some .int)) (by decide) rfl ?_
  intro p e s m args below meth c s₁ B hml htab hv
  obtain ⟨rfl, hsz, hP, hK, hD0, hE⟩ := hv
  have hx := B.exec
  have hb := B.bytes
  have hr := B.returns
  have hts := atoms_spec (ws := wsMX11_cheapest_1) B.pre
  have hown : s.vm.findClass RX11 = some m.cls := findClass_of_methodNamed B.named
  have hlocks := B.notSynchronized
  subst hsz
  have hD := hD0.self (sz := s.heap.size)
  generalize hAe : va_A (WX hX aX kX hT hM fX_ready fX_sheet dX_sheet nX_sheet iX_sheetLength xX_reader xX_solver xX_prover xX_values xX_clauses (.ref (hN 0)) ++ (WN hN aN kN iN_arcs fN_from fN_to fN_room fN_cost iN_reached fN_free fN_before fN_flow fN_length fN_stop iN_stops fN_price fN_rest)) s.heap.size = A at hD hE ⊢
  have hA : ∀ q : Nat, s.heap.size ≤ q → A q := fun q h => by rw [← hAe]; exact Or.inr h
  have hS : va_S A s.heap s.heap [] := va_S.rf
  have hl := lv_entry ([.ref (hX 0), .int p1, .int p2, .int p3]) (n := 4) (Nat.le_of_ble_eq_true rfl)
  rw [lg_entry_eq]
  generalize (lg_sl ([.ref (hX 0), .int p1, .int p2, .int p3]) ++ List.replicate (4 - (lg_sl ([.ref (hX 0), .int p1, .int p2, .int p3])).length) Slot.unset).toArray = ls at hl ⊢
  have hl : lv_has ls 4 [(0, .ref (hX 0)), (1, .int p1), (2, .int p2), (3, .int p3)] := hl
  refine lv_iload_n hx hb dX11_cheapest_0 rfl (lv_at hl 1 rfl) ?_
  refine lv_iload_n hx hb dX11_cheapest_1 rfl (lv_at hl 2 rfl) ?_
  refine W.known (fun hz0 _ => ?_)
  have hFc := noneFree hS hA
  refine vx_callv (vx_runS (As := [.int p1, .int p2]) (rest := []) ⟨hx, hb, hml, hown, hts⟩ (m_X11_needNodes l hst dC dI p1 p2 s.heap.size) (va_cwS 2 hts gwsMX11_cheapest_1_0 rfl rfl rfl (by decide +kernel) ⟨by decide +kernel, by decide +kernel⟩) ⟨fun a U g mk q => by obtain ⟨q0, q1, qP, qK, qD, qE⟩ := q; exact ⟨q0, q1, qP, va_K.moved (u := U) (U := U.calling g mk a) (Vm.Alike.refl U.vm) qK, qD, qE.call⟩, fun U hU9 hW => ⟨rfl, by rw [hU9], by rw [hU9]; exact nilP, va_K.moved hW.alike (hK.sub (tys' := []) [] rfl), nilD, by rw [hU9]; exact (((hE : CE A s s.heap).kept hS.2.1).narrow (fun q h => hFc q h)).warm hW⟩⟩ rfl rfl hl.1 rfl (lv_room (Nat.le_of_ble_eq_true rfl)) dX11_cheapest_2 (by decide +kernel)) hS (fun q _ h => hFc q h) hFc (fun q _ h => hFc q h) (fun E ce q9 u t9_ H1 locs ht hvm hw9 hB9 hz1 hk1 hS hc1 hc2 hc3 => ?_) (fun u t9_ H1 locs ht hvm hw9 hB9 hz1 hk1 hS => ?_)
  · revert hB9
    refine fz_a2 ?_
    intro hEx hB9
    clear hw9
    clear hB9
    have hP := keepAll hP hk1
    generalize H1 = H at hP hS hc1 ⊢
    have hP : va_P (dC, dI) vwCl (WX hX aX kX hT hM fX_ready fX_sheet dX_sheet nX_sheet iX_sheetLength xX_reader xX_solver xX_prover xX_values xX_clauses (.ref (hN 0)) ++ (WN hN aN kN iN_arcs fN_from fN_to fN_room fN_cost iN_reached fN_free fN_before fN_flow fN_length fN_stop iN_stops fN_price fN_rest)) H := hP
    have hD : va_D A (WX hX aX kX hT hM fX_ready fX_sheet dX_sheet nX_sheet iX_sheetLength xX_reader xX_solver xX_prover xX_values xX_clauses (.ref (hN 0)) ++ (WN hN aN kN iN_arcs fN_from fN_to fN_room fN_cost iN_reached fN_free fN_before fN_flow fN_length fN_stop iN_stops fN_price fN_rest)) := hD
    exact vx_out (fun x hx9 => (htab x hx9).elim) hlocks hc1 hc2 hc3 (fun t9_ ht hvm => ⟨(fN_before, fN_flow, fN_length), b_fN_before, ⟨(by rcases hEx with h9 | h9; exact Or.inl ⟨h9.1, (by have h8 := h9.2; omega)⟩; exact Or.inr (⟨h9.1, (by have h8 := h9.2; omega)⟩)), by rw [ht]; exact hP, hD⟩, hS.F ht⟩) hS.2.2 (by decide +kernel) (by decide +kernel)
  have f1_0 := hw9
  try dsimp only at f1_0
  obtain ⟨_, hz8⟩ := hB9
  rw [ht] at hz8
  have hz9 : H1.size ≤ s.heap.size + 0 := by rw [hz8]; exact hz0
  refine W.tight (cells2 := 0) (slots2 := 0) hz9 (nS_0 hz9) ?_
  clear hz8 hz9
  have hP := keepAll hP hk1
  generalize H1 = H at hP hS ⊢
  have hP : va_P (dC, dI) vwCl (WX hX aX kX hT hM fX_ready fX_sheet dX_sheet nX_sheet iX_sheetLength xX_reader xX_solver xX_prover xX_values xX_clauses (.ref (hN 0)) ++ (WN hN aN kN iN_arcs fN_from fN_to fN_room fN_cost iN_reached fN_free fN_before fN_flow fN_length fN_stop iN_stops fN_price fN_rest)) H := hP
  have hD : va_D A (WX hX aX kX hT hM fX_ready fX_sheet dX_sheet nX_sheet iX_sheetLength xX_reader xX_solver xX_prover xX_values xX_clauses (.ref (hN 0)) ++ (WN hN aN kN iN_arcs fN_from fN_to fN_room fN_cost iN_reached fN_free fN_before fN_flow fN_length fN_stop iN_stops fN_price fN_rest)) := hD
  have hnn := f1_0
  refine lv_aload_n hx hb dX11_cheapest_5 rfl (lv_at hl 0 rfl) ?_
  have hFc := allFree hD hS hA
  refine va_callr (va_runV (As := []) (rest := []) ⟨hx, hb, hml, hown, hts⟩ (m_X11_theNets_1 l dC dI hX aX kX hT hM fX_ready fX_sheet dX_sheet nX_sheet iX_sheetLength xX_reader xX_solver xX_prover xX_values xX_clauses hN aN kN iN_arcs fN_from fN_to fN_room fN_cost iN_reached fN_free fN_before fN_flow fN_length fN_stop iN_stops fN_price fN_rest b_fX_sheet (by first | exact b_nX_sheet | with_reducible assumption | exact ⟨by omega, by omega⟩ | assumption) (b_iX_sheetLength) (by first | with_reducible assumption | omega | assumption) (b_iN_arcs) b_fN_from b_fN_to b_fN_before b_fN_stop (b_iN_stops) H.size) (cwV 0 hts gwsMX11_cheapest_1_1 rfl rfl rfl hd_yX11_theNets_RX11 (by decide +kernel)) (fz_pre (va_recv hK hP (ci := 11) (q0 := 0) rfl rfl) hP hK hD) rfl rfl hl.1 rfl (lv_room (Nat.le_of_ble_eq_true rfl)) dX11_cheapest_6 (by decide +kernel)) hS (fun q _ h => hFc q h) hFc (fun u ra2 t9_ H locs ht hvm hw9 hB9 hz1 hk1 hS => ?_)
  revert hB9
  refine fz_a2 ?_
  intro hra hB9
  subst hra
  clear hw9
  have hP : va_P (dC, dI) vwCl (WX hX aX kX hT hM fX_ready fX_sheet dX_sheet nX_sheet iX_sheetLength xX_reader xX_solver xX_prover xX_values xX_clauses (.ref (hN 0)) ++ (WN hN aN kN iN_arcs fN_from fN_to fN_room fN_cost iN_reached fN_free fN_before fN_flow fN_length fN_stop iN_stops fN_price fN_rest)) H := fz_P ht hB9.1
  have hD : va_D A (WX hX aX kX hT hM fX_ready fX_sheet dX_sheet nX_sheet iX_sheetLength xX_reader xX_solver xX_prover xX_values xX_clauses (.ref (hN 0)) ++ (WN hN aN kN iN_arcs fN_from fN_to fN_room fN_cost iN_reached fN_free fN_before fN_flow fN_length fN_stop iN_stops fN_price fN_rest)) := hB9.2.weaken (fun _ q _ h => hFc q.1 h)
  refine lv_iload_n hx hb dX11_cheapest_9 rfl (lv_at hl 1 rfl) ?_
  refine lv_iload_n hx hb dX11_cheapest_10 rfl (lv_at hl 2 rfl) ?_
  refine lv_iload_n hx hb dX11_cheapest_11 rfl (lv_at hl 3 rfl) ?_
  have hPc : va_P (dC, dI) vwCl (WN hN aN kN iN_arcs fN_from fN_to fN_room fN_cost iN_reached fN_free fN_before fN_flow fN_length fN_stop iN_stops fN_price fN_rest) _ := hP.sub [3, 4, 5, 6, 7, 8, 9, 10, 11, 12, 13, 14] rfl
  have hDc : va_D _ (WN hN aN kN iN_arcs fN_from fN_to fN_room fN_cost iN_reached fN_free fN_before fN_flow fN_length fN_stop iN_stops fN_price fN_rest) := hD.sub [3, 4, 5, 6, 7, 8, 9, 10, 11, 12, 13, 14] (by decide) rfl
  have hKc : va_K (dC, dI) vwCl (tN kN) _ := hK.sub [2, 3, 4, 5, 6, 7, 8, 9, 10, 11, 12] rfl
  have hFc := va_free (wc := WN hN aN kN iN_arcs fN_from fN_to fN_room fN_cost iN_reached fN_free fN_before fN_flow fN_length fN_stop iN_stops fN_price fN_rest) hD hS hA [3, 4, 5, 6, 7, 8, 9, 10, 11, 12, 13, 14] rfl
  refine va_calli (va_runV (As := [.int p1, .int p2, .int p3]) (rest := []) ⟨hx, hb, hml, hown, hts⟩ (m_X2_leastCost l dC dI hN aN kN iN_arcs fN_from fN_to fN_room fN_cost iN_reached fN_free fN_before fN_flow fN_length fN_stop iN_stops fN_price fN_rest p1 p2 p3 (b_iN_arcs) b_fN_from b_fN_to b_fN_before b_fN_stop (b_iN_stops) (by first | exact b_p1 | with_reducible assumption | exact ⟨by omega, by omega⟩ | assumption) (by first | exact b_p2 | with_reducible assumption | exact ⟨by omega, by omega⟩ | assumption) (hAr) (by omega) H.size) (cwV 3 hts gwsMX11_cheapest_1_2 rfl rfl rfl hd_yX2_leastCost_RX2 (by decide +kernel)) (fz_pre (va_recv hK hP (ci := 2) (q0 := 3) rfl rfl) hPc hKc hDc) rfl rfl hl.1 rfl (lv_room (Nat.le_of_ble_eq_true rfl)) dX11_cheapest_12 (by decide +kernel)) hS (fun q _ h => hFc q h) hFc (fun r3 u t9_ H locs ht hvm hw9 hB9 hz1 hk1 hS => ?_)
  revert u hw9 hB9
  refine fz_p3 ?_
  intro fN_before_3 fN_flow_3 fN_length_3 hw9 hB9
  try dsimp only at hw9 hB9
  revert hw9
  refine fz_a2 ?_
  intro b_fN_before_3 f3_0
  obtain ⟨hP, hD⟩ := va_join (wr := [(hX 0, .inr (11, [.ref (aX 0), .ref (hT 0), .ref (hM 0), .ref dX_sheet, .int iX_sheetLength, xX_reader, xX_solver, xX_prover, xX_values, xX_clauses, (.ref (hN 0))])), (aX 0, .inl (kX 0, 5, .inl fX_ready)), (dX_sheet, .inl (kX 1, nX_sheet, .inl fX_sheet))]) (w1 := WN hN aN kN iN_arcs fN_from fN_to fN_room fN_cost iN_reached fN_free fN_before_3 fN_flow_3 fN_length_3 fN_stop iN_stops fN_price fN_rest) hP hD [3, 4, 5, 6, 7, 8, 9, 10, 11, 12, 13, 14] [0, 1, 2] rfl rfl (by decide) (by decide) hk1 hFc (fz_P ht hB9.1) hB9.2
  have hP : va_P (dC, dI) vwCl (WX hX aX kX hT hM fX_ready fX_sheet dX_sheet nX_sheet iX_sheetLength xX_reader xX_solver xX_prover xX_values xX_clauses (.ref (hN 0)) ++ (WN hN aN kN iN_arcs fN_from fN_to fN_room fN_cost iN_reached fN_free fN_before_3 fN_flow_3 fN_length_3 fN_stop iN_stops fN_price fN_rest)) H := hP.sub [0, 1, 2, 3, 4, 5, 6, 7, 8, 9, 10, 11, 12, 13, 14] rfl
  have hD : va_D A (WX hX aX kX hT hM fX_ready fX_sheet dX_sheet nX_sheet iX_sheetLength xX_reader xX_solver xX_prover xX_values xX_clauses (.ref (hN 0)) ++ (WN hN aN kN iN_arcs fN_from fN_to fN_room fN_cost iN_reached fN_free fN_before_3 fN_flow_3 fN_length_3 fN_stop iN_stops fN_price fN_rest)) := hD.sub [0, 1, 2, 3, 4, 5, 6, 7, 8, 9, 10, 11, 12, 13, 14] (by decide) rfl
  refine vx_ret ?_
  refine W.known (fun hz9 _ => ?_)
  refine W.widen (k := 1) (n := 6) (by decide +kernel) (by decide +kernel) ?_
  exact W.iret (v := r3) hx hb hr (fun t9_ ht hW => ⟨⟨r3, (fN_before_3, fN_flow_3, fN_length_3), rfl, ⟨b_fN_before_3, (by (try dsimp only); omega), (by (try dsimp only); assumption)⟩, by rw [ht]; exact hP, hD, by rw [ht]; first | done | exact Nat.le_antisymm hz9 hS.1⟩, hS.F ht⟩) hS.2.2 dX11_cheapest_15
theorem dX11_path_0 : decode cX11_path 0 = .ok (.iload_n 1, 1) := dk_27 (by decide +kernel)
theorem dX11_path_1 : decode cX11_path 1 = .ok (.iload_n 2, 1) := dk_28 (by decide +kernel)
theorem dX11_path_2 : decode cX11_path 2 = .ok (.invokestatic 438, 3) := dk_184 (by decide +kernel)
theorem dX11_path_5 : decode cX11_path 5 = .ok (.aload_n 0, 1) := dk_42 (by decide +kernel)
theorem dX11_path_6 : decode cX11_path 6 = .ok (.invokevirtual 425, 3) := dk_182 (by decide +kernel)
theorem dX11_path_9 : decode cX11_path 9 = .ok (.iload_n 1, 1) := dk_27 (by decide +kernel)
theorem dX11_path_10 : decode cX11_path 10 = .ok (.iload_n 2, 1) := dk_28 (by decide +kernel)
theorem dX11_path_11 : decode cX11_path 11 = .ok (.iload_n 3, 1) := dk_29 (by decide +kernel)
theorem dX11_path_12 : decode cX11_path 12 = .ok (.invokevirtual 449, 3) := dk_182 (by decide +kernel)
theorem dX11_path_15 : decode cX11_path 15 = .ok (.ireturn, 1) := dk_172 (by decide +kernel)
def wsMX11_path_1 : List Cond := .code yX11_path cX11_path 4 (some .int) :: ([] ++ (va_wsS RX11 438 yX11_needNodes wsMX11_needNodes) ++ (wsV RX11 425 RX11 yX11_theNets wsMX11_theNets_1) ++ (wsV RX11 449 RX2 yX2_shortest wsMX2_shortest))
theorem gwsMX11_path_1_0 : GoodIn wsMX11_path_1 (va_wsS RX11 438 yX11_needNodes wsMX11_needNodes) := goodIn_sub (fun _ h => List.mem_cons_of_mem _ (List.mem_append_left _ (List.mem_append_left _ (List.mem_append_right _ h)))) (gdS (by decide +kernel) gdwsMX11_needNodes)
theorem gwsMX11_path_1_1 : GoodIn wsMX11_path_1 (wsV RX11 425 RX11 yX11_theNets wsMX11_theNets_1) := goodIn_sub (fun _ h => List.mem_cons_of_mem _ (List.mem_append_left _ (List.mem_append_right _ h))) (gdV (by decide +kernel) gdwsMX11_theNets_1)
theorem gwsMX11_path_1_2 : GoodIn wsMX11_path_1 (wsV RX11 449 RX2 yX2_shortest wsMX2_shortest) := goodIn_sub (fun _ h => List.mem_cons_of_mem _ (List.mem_append_right _ h)) (gdV (by decide +kernel) gdwsMX2_shortest)
theorem gdwsMX11_path_1 : wsMX11_path_1.all goodWord = true := gdC rfl (gdA (gdA (gdA (by decide +kernel : ([] : List Cond).all goodWord = true) (gdS (by decide +kernel) gdwsMX11_needNodes)) (gdV (by decide +kernel) gdwsMX11_theNets_1)) (gdV (by decide +kernel) gdwsMX2_shortest))
set_option maxHeartbeats 4000000 in
set_option maxRecDepth 100000 in
/-- a path -/
theorem m_X11_path_1 (l : Launch) (hst : l.stackTraces = false) (dC : Nat → ClassId) (dI : Nat → Nat → Nat) (hX : Nat → Nat) (aX : Nat → Nat) (kX : Nat → ClassId) (hT : Nat → Nat) (hM : Nat → Nat) (fX_ready : Nat → Int32) (fX_sheet : Nat → Int32) (dX_sheet : Nat) (nX_sheet : Nat) (iX_sheetLength : Int32) (xX_reader : Value) (xX_solver : Value) (xX_prover : Value) (xX_values : Value) (xX_clauses : Value) (hN : Nat → Nat) (aN : Nat → Nat) (kN : Nat → ClassId) (iN_arcs : Int32) (fN_from : Nat → Int32) (fN_to : Nat → Int32) (fN_room : Nat → Int32) (fN_cost : Nat → Int32) (iN_reached : Int32) (fN_free : Nat → Int32) (fN_before : Nat → Int32) (fN_flow : Nat → Int32) (fN_length : Nat → Int32) (fN_stop : Nat → Int32) (iN_stops : Int32) (fN_price : Nat → Int32) (fN_rest : Nat → Int32) (p1 : Int32) (p2 : Int32) (p3 : Int32) (b_fX_sheet : ∀ q : Nat, (-128) ≤ (fX_sheet q).toInt ∧ (fX_sheet q).toInt ≤ 127) (b_nX_sheet : 64 ≤ nX_sheet ∧ nX_sheet ≤ 60000) (b_iX_sheetLength : 0 ≤ iX_sheetLength.toInt ∧ iX_sheetLength.toInt ≤ 30000) (b_shl : iX_sheetLength.toInt ≤ ((nX_sheet : Nat) : Int)) (b_iN_arcs : 0 ≤ iN_arcs.toInt ∧ iN_arcs.toInt ≤ 40) (b_fN_from : ∀ q : Nat, 0 ≤ (fN_from q).toInt ∧ (fN_from q).toInt ≤ 11) (b_fN_to : ∀ q : Nat, 0 ≤ (fN_to q).toInt ∧ (fN_to q).toInt ≤ 11) (b_fN_before : ∀ q : Nat, 0 ≤ (fN_before q).toInt ∧ (fN_before q).toInt ≤ 79) (b_fN_stop : ∀ q : Nat, 0 ≤ (fN_stop q).toInt ∧ (fN_stop q).toInt ≤ 11) (b_iN_stops : 0 ≤ iN_stops.toInt ∧ iN_stops.toInt ≤ 8) (hVal : tVal (iN_arcs.toInt, fN_from, fN_to, fN_room, fN_cost)) (sz : Nat) : vx_Met l yX11_path wsMX11_path_1 ({ frames := 7, cells := 1, slots := 6, locals := 102 }) (va_Pc [.ref (hX 0), .int p1, .int p2, .int p3] (fun U => U.heap.size = sz ∧ va_P (dC, dI) vwCl (WX hX aX kX hT hM fX_ready fX_sheet dX_sheet nX_sheet iX_sheetLength xX_reader xX_solver xX_prover xX_values xX_clauses (.ref (hN 0)) ++ (WN hN aN kN iN_arcs fN_from fN_to fN_room fN_cost iN_reached fN_free fN_before fN_flow fN_length fN_stop iN_stops fN_price fN_rest)) U.heap ∧ va_K (dC, dI) vwCl (tX kX ++ (tN kN)) U ∧ va_D (fun _ => True) (WX hX aX kX hT hM fX_ready fX_sheet dX_sheet nX_sheet iX_sheetLength xX_reader xX_solver xX_prover xX_values xX_clauses (.ref (hN 0)) ++ (WN hN aN kN iN_arcs fN_from fN_to fN_room fN_cost iN_reached fN_free fN_before fN_flow fN_length fN_stop iN_stops fN_price fN_rest)) ∧ CE (va_A (WX hX aX kX hT hM fX_ready fX_sheet dX_sheet nX_sheet iX_sheetLength xX_reader xX_solver xX_prover xX_values xX_clauses (.ref (hN 0)) ++ (WN hN aN kN iN_arcs fN_from fN_to fN_room fN_cost iN_reached fN_free fN_before fN_flow fN_length fN_stop iN_stops fN_price fN_rest)) sz) U U.heap)) (va_Qi (fun (r : Int32) (u : Nat → Int32) => (((0 ≤ p1.toInt ∧ p1.toInt ≤ 11) ∧ 0 ≤ p2.toInt ∧ p2.toInt ≤ 11) ∧ p1.toInt ≠ p2.toInt) ∧ (pAns (iN_arcs.toInt, fN_from, fN_to, fN_room, fN_cost) p1.toInt.toNat p2.toInt.toNat p3.toInt r.toInt)) (fun (u : Nat → Int32) t => va_P (dC, dI) vwCl (WX hX aX kX hT hM fX_ready fX_sheet dX_sheet nX_sheet iX_sheetLength xX_reader xX_solver xX_prover xX_values xX_clauses (.ref (hN 0)) ++ (WN hN aN kN iN_arcs fN_from fN_to fN_room fN_cost iN_reached fN_free fN_before fN_flow u fN_stop iN_stops fN_price fN_rest)) t.heap ∧ va_D (va_A (WX hX aX kX hT hM fX_ready fX_sheet dX_sheet nX_sheet iX_sheetLength xX_reader xX_solver xX_prover xX_values xX_clauses (.ref (hN 0)) ++ (WN hN aN kN iN_arcs fN_from fN_to fN_room fN_cost iN_reached fN_free fN_before fN_flow fN_length fN_stop iN_stops fN_price fN_rest)) sz) (WX hX aX kX hT hM fX_ready fX_sheet dX_sheet nX_sheet iX_sheetLength xX_reader xX_solver xX_prover xX_values xX_clauses (.ref (hN 0)) ++ (WN hN aN kN iN_arcs fN_from fN_to fN_room fN_cost iN_reached fN_free fN_before fN_flow u fN_stop iN_stops fN_price fN_rest)) ∧ t.heap.size = sz) (va_A (WX hX aX kX hT hM fX_ready fX_sheet dX_sheet nX_sheet iX_sheetLength xX_reader xX_solver xX_prover xX_values xX_clauses (.ref (hN 0)) ++ (WN hN aN kN iN_arcs fN_from fN_to fN_room fN_cost iN_reached fN_free fN_before fN_flow fN_length fN_stop iN_stops fN_price fN_rest)) sz)) (vx_X (fun (u : Nat → Int32) => True) (fun E (u : Nat → Int32) t => ((E = "java/lang/IndexOutOfBoundsException" ∧ (¬ ((0 ≤ p1.toInt ∧ p1.toInt ≤ 11) ∧ 0 ≤ p2.toInt ∧ p2.toInt ≤ 11))) ∨ (E = "java/lang/IllegalArgumentException" ∧ (((0 ≤ p1.toInt ∧ p1.toInt ≤ 11) ∧ 0 ≤ p2.toInt ∧ p2.toInt ≤ 11) ∧ p1.toInt = p2.toInt))) ∧ va_P (dC, dI) vwCl (WX hX aX kX hT hM fX_ready fX_sheet dX_sheet nX_sheet iX_sheetLength xX_reader xX_solver xX_prover xX_values xX_clauses (.ref (hN 0)) ++ (WN hN aN kN iN_arcs fN_from fN_to fN_room fN_cost iN_reached fN_free fN_before fN_flow u fN_stop iN_stops fN_price fN_rest)) t.heap ∧ va_D (va_A (WX hX aX kX hT hM fX_ready fX_sheet dX_sheet nX_sheet iX_sheetLength xX_reader xX_solver xX_prover xX_values xX_clauses (.ref (hN 0)) ++ (WN hN aN kN iN_arcs fN_from fN_to fN_room fN_cost iN_reached fN_free fN_before fN_flow fN_length fN_stop iN_stops fN_price fN_rest)) sz) (WX hX aX kX hT hM fX_ready fX_sheet dX_sheet nX_sheet iX_sheetLength xX_reader xX_solver xX_prover xX_values xX_clauses (.ref (hN 0)) ++ (WN hN aN kN iN_arcs fN_from fN_to fN_room fN_cost iN_reached fN_free fN_before fN_flow u fN_stop iN_stops fN_price fN_rest))) (va_A (WX hX aX kX hT hM fX_ready fX_sheet dX_sheet nX_sheet iX_sheetLength xX_reader xX_solver xX_prover xX_values xX_clauses (.ref (hN 0)) ++ (WN hN aN kN iN_arcs fN_from fN_to fN_room fN_cost iN_reached fN_free fN_before fN_flow fN_length fN_stop iN_stops fN_price fN_rest)) sz)) 1 6 (va_A (WX hX aX kX hT hM fX_ready fX_sheet dX_sheet nX_sheet iX_sheetLength xX_reader xX_solver xX_prover xX_values xX_clauses (.ref (hN 0)) ++ (WN hN aN kN iN_arcs fN_from fN_to fN_room fN_cost iN_reached fN_free fN_before fN_flow fN_length fN_stop iN_stops fN_price fN_rest)) sz) := by
  refine vx_ofW (cc := cX11_path) (maxL := 4) (ret := (some .int)) (by decide) rfl ?_
  intro p e s m args below meth c s₁ B hml htab hv
  obtain ⟨rfl, hsz, hP, hK, hD0, hE⟩ := hv
  have hx := B.exec
  have hb := B.bytes
  have hr := B.returns
  have hts := atoms_spec (ws := wsMX11_path_1) B.pre
  have hown : s.vm.findClass RX11 = some m.cls := findClass_of_methodNamed B.named
  have hlocks := B.notSynchronized
  subst hsz
  have hD := hD0.self (sz := s.heap.size)
  generalize hAe : va_A (WX hX aX kX hT hM fX_ready fX_sheet dX_sheet nX_sheet iX_sheetLength xX_reader xX_solver xX_prover xX_values xX_clauses (.ref (hN 0)) ++ (WN hN aN kN iN_arcs fN_from fN_to fN_room fN_cost iN_reached fN_free fN_before fN_flow fN_length fN_stop iN_stops fN_price fN_rest)) s.heap.size = A at hD hE ⊢
  have hA : ∀ q : Nat, s.heap.size ≤ q → A q := fun q h => by rw [← hAe]; exact Or.inr h
  have hS : va_S A s.heap s.heap [] := va_S.rf
  have hl := lv_entry ([.ref (hX 0), .int p1, .int p2, .int p3]) (n := 4) (Nat.le_of_ble_eq_true rfl)
  rw [lg_entry_eq]
  generalize (lg_sl ([.ref (hX 0), .int p1, .int p2, .int p3]) ++ List.replicate (4 - (lg_sl ([.ref (hX 0), .int p1, .int p2, .int p3])).length) Slot.unset).toArray = ls at hl ⊢
  have hl : lv_has ls 4 [(0, .ref (hX 0)), (1, .int p1), (2, .int p2), (3, .int p3)] := hl
  refine lv_iload_n hx hb dX11_path_0 rfl (lv_at hl 1 rfl) ?_
  refine lv_iload_n hx hb dX11_path_1 rfl (lv_at hl 2 rfl) ?_
  refine W.known (fun hz0 _ => ?_)
  have hFc := noneFree hS hA
  refine vx_callv (vx_runS (As := [.int p1, .int p2]) (rest := []) ⟨hx, hb, hml, hown, hts⟩ (m_X11_needNodes l hst dC dI p1 p2 s.heap.size) (va_cwS 2 hts gwsMX11_path_1_0 rfl rfl rfl (by decide +kernel) ⟨by decide +kernel, by decide +kernel⟩) ⟨fun a U g mk q => by obtain ⟨q0, q1, qP, qK, qD, qE⟩ := q; exact ⟨q0, q1, qP, va_K.moved (u := U) (U := U.calling g mk a) (Vm.Alike.refl U.vm) qK, qD, qE.call⟩, fun U hU9 hW => ⟨rfl, by rw [hU9], by rw [hU9]; exact nilP, va_K.moved hW.alike (hK.sub (tys' := []) [] rfl), nilD, by rw [hU9]; exact (((hE : CE A s s.heap).kept hS.2.1).narrow (fun q h => hFc q h)).warm hW⟩⟩ rfl rfl hl.1 rfl (lv_room (Nat.le_of_ble_eq_true rfl)) dX11_path_2 (by decide +kernel)) hS (fun q _ h => hFc q h) hFc (fun q _ h => hFc q h) (fun E ce q9 u t9_ H1 locs ht hvm hw9 hB9 hz1 hk1 hS hc1 hc2 hc3 => ?_) (fun u t9_ H1 locs ht hvm hw9 hB9 hz1 hk1 hS => ?_)
  · revert hB9
    refine fz_a2 ?_
    intro hEx hB9
    clear hw9
    clear hB9
    have hP := keepAll hP hk1
    generalize H1 = H at hP hS hc1 ⊢
    have hP : va_P (dC, dI) vwCl (WX hX aX kX hT hM fX_ready fX_sheet dX_sheet nX_sheet iX_sheetLength xX_reader xX_solver xX_prover xX_values xX_clauses (.ref (hN 0)) ++ (WN hN aN kN iN_arcs fN_from fN_to fN_room fN_cost iN_reached fN_free fN_before fN_flow fN_length fN_stop iN_stops fN_price fN_rest)) H := hP
    have hD : va_D A (WX hX aX kX hT hM fX_ready fX_sheet dX_sheet nX_sheet iX_sheetLength xX_reader xX_solver xX_prover xX_values xX_clauses (.ref (hN 0)) ++ (WN hN aN kN iN_arcs fN_from fN_to fN_room fN_cost iN_reached fN_free fN_before fN_flow fN_length fN_stop iN_stops fN_price fN_rest)) := hD
    exact vx_out (fun x hx9 => (htab x hx9).elim) hlocks hc1 hc2 hc3 (fun t9_ ht hvm => ⟨fN_length, trivial, ⟨(by rcases hEx with h9 | h9; exact Or.inl ⟨h9.1, (by have h8 := h9.2; omega)⟩; exact Or.inr (⟨h9.1, (by have h8 := h9.2; omega)⟩)), by rw [ht]; exact hP, hD⟩, hS.F ht⟩) hS.2.2 (by decide +kernel) (by decide +kernel)
  have f1_0 := hw9
  try dsimp only at f1_0
  obtain ⟨_, hz8⟩ := hB9
  rw [ht] at hz8
  have hz9 : H1.size ≤ s.heap.size + 0 := by rw [hz8]; exact hz0
  refine W.tight (cells2 := 0) (slots2 := 0) hz9 (nS_0 hz9) ?_
  clear hz8 hz9
  have hP := keepAll hP hk1
  generalize H1 = H at hP hS ⊢
  have hP : va_P (dC, dI) vwCl (WX hX aX kX hT hM fX_ready fX_sheet dX_sheet nX_sheet iX_sheetLength xX_reader xX_solver xX_prover xX_values xX_clauses (.ref (hN 0)) ++ (WN hN aN kN iN_arcs fN_from fN_to fN_room fN_cost iN_reached fN_free fN_before fN_flow fN_length fN_stop iN_stops fN_price fN_rest)) H := hP
  have hD : va_D A (WX hX aX kX hT hM fX_ready fX_sheet dX_sheet nX_sheet iX_sheetLength xX_reader xX_solver xX_prover xX_values xX_clauses (.ref (hN 0)) ++ (WN hN aN kN iN_arcs fN_from fN_to fN_room fN_cost iN_reached fN_free fN_before fN_flow fN_length fN_stop iN_stops fN_price fN_rest)) := hD
  have hnn := f1_0
  refine lv_aload_n hx hb dX11_path_5 rfl (lv_at hl 0 rfl) ?_
  have hFc := allFree hD hS hA
  refine va_callr (va_runV (As := []) (rest := []) ⟨hx, hb, hml, hown, hts⟩ (m_X11_theNets_1 l dC dI hX aX kX hT hM fX_ready fX_sheet dX_sheet nX_sheet iX_sheetLength xX_reader xX_solver xX_prover xX_values xX_clauses hN aN kN iN_arcs fN_from fN_to fN_room fN_cost iN_reached fN_free fN_before fN_flow fN_length fN_stop iN_stops fN_price fN_rest b_fX_sheet (by first | exact b_nX_sheet | with_reducible assumption | exact ⟨by omega, by omega⟩ | assumption) (b_iX_sheetLength) (by first | with_reducible assumption | omega | assumption) (b_iN_arcs) b_fN_from b_fN_to b_fN_before b_fN_stop (b_iN_stops) H.size) (cwV 0 hts gwsMX11_path_1_1 rfl rfl rfl hd_yX11_theNets_RX11 (by decide +kernel)) (fz_pre (va_recv hK hP (ci := 11) (q0 := 0) rfl rfl) hP hK hD) rfl rfl hl.1 rfl (lv_room (Nat.le_of_ble_eq_true rfl)) dX11_path_6 (by decide +kernel)) hS (fun q _ h => hFc q h) hFc (fun u ra2 t9_ H locs ht hvm hw9 hB9 hz1 hk1 hS => ?_)
  revert hB9
  refine fz_a2 ?_
  intro hra hB9
  subst hra
  clear hw9
  have hP : va_P (dC, dI) vwCl (WX hX aX kX hT hM fX_ready fX_sheet dX_sheet nX_sheet iX_sheetLength xX_reader xX_solver xX_prover xX_values xX_clauses (.ref (hN 0)) ++ (WN hN aN kN iN_arcs fN_from fN_to fN_room fN_cost iN_reached fN_free fN_before fN_flow fN_length fN_stop iN_stops fN_price fN_rest)) H := fz_P ht hB9.1
  have hD : va_D A (WX hX aX kX hT hM fX_ready fX_sheet dX_sheet nX_sheet iX_sheetLength xX_reader xX_solver xX_prover xX_values xX_clauses (.ref (hN 0)) ++ (WN hN aN kN iN_arcs fN_from fN_to fN_room fN_cost iN_reached fN_free fN_before fN_flow fN_length fN_stop iN_stops fN_price fN_rest)) := hB9.2.weaken (fun _ q _ h => hFc q.1 h)
  refine lv_iload_n hx hb dX11_path_9 rfl (lv_at hl 1 rfl) ?_
  refine lv_iload_n hx hb dX11_path_10 rfl (lv_at hl 2 rfl) ?_
  refine lv_iload_n hx hb dX11_path_11 rfl (lv_at hl 3 rfl) ?_
  have hPc : va_P (dC, dI) vwCl (WN hN aN kN iN_arcs fN_from fN_to fN_room fN_cost iN_reached fN_free fN_before fN_flow fN_length fN_stop iN_stops fN_price fN_rest) _ := hP.sub [3, 4, 5, 6, 7, 8, 9, 10, 11, 12, 13, 14] rfl
  have hDc : va_D _ (WN hN aN kN iN_arcs fN_from fN_to fN_room fN_cost iN_reached fN_free fN_before fN_flow fN_length fN_stop iN_stops fN_price fN_rest) := hD.sub [3, 4, 5, 6, 7, 8, 9, 10, 11, 12, 13, 14] (by decide) rfl
  have hKc : va_K (dC, dI) vwCl (tN kN) _ := hK.sub [2, 3, 4, 5, 6, 7, 8, 9, 10, 11, 12] rfl
  have hFc := va_free (wc := WN hN aN kN iN_arcs fN_from fN_to fN_room fN_cost iN_reached fN_free fN_before fN_flow fN_length fN_stop iN_stops fN_price fN_rest) hD hS hA [3, 4, 5, 6, 7, 8, 9, 10, 11, 12, 13, 14] rfl
  refine va_calli (va_runV (As := [.int p1, .int p2, .int p3]) (rest := []) ⟨hx, hb, hml, hown, hts⟩ (m_X2_shortest l dC dI hN aN kN iN_arcs fN_from fN_to fN_room fN_cost iN_reached fN_free fN_before fN_flow fN_length fN_stop iN_stops fN_price fN_rest p1 p2 p3 (b_iN_arcs) b_fN_from b_fN_to b_fN_before b_fN_stop (b_iN_stops) (by first | exact b_p1 | with_reducible assumption | exact ⟨by omega, by omega⟩ | assumption) (by first | exact b_p2 | with_reducible assumption | exact ⟨by omega, by omega⟩ | assumption) (hVal) H.size) (cwV 3 hts gwsMX11_path_1_2 rfl rfl rfl hd_yX2_shortest_RX2 (by decide +kernel)) (fz_pre (va_recv hK hP (ci := 2) (q0 := 3) rfl rfl) hPc hKc hDc) rfl rfl hl.1 rfl (lv_room (Nat.le_of_ble_eq_true rfl)) dX11_path_12 (by decide +kernel)) hS (fun q _ h => hFc q h) hFc (fun r3 fN_length_3 t9_ H locs ht hvm hw9 hB9 hz1 hk1 hS => ?_)
  have f3_0 := hw9
  try dsimp only at f3_0
  obtain ⟨hP, hD⟩ := va_join (wr := [(hX 0, .inr (11, [.ref (aX 0), .ref (hT 0), .ref (hM 0), .ref dX_sheet, .int iX_sheetLength, xX_reader, xX_solver, xX_prover, xX_values, xX_clauses, (.ref (hN 0))])), (aX 0, .inl (kX 0, 5, .inl fX_ready)), (dX_sheet, .inl (kX 1, nX_sheet, .inl fX_sheet))]) (w1 := WN hN aN kN iN_arcs fN_from fN_to fN_room fN_cost iN_reached fN_free fN_before fN_flow fN_length_3 fN_stop iN_stops fN_price fN_rest) hP hD [3, 4, 5, 6, 7, 8, 9, 10, 11, 12, 13, 14] [0, 1, 2] rfl rfl (by decide) (by decide) hk1 hFc (fz_P ht hB9.1) hB9.2
  have hP : va_P (dC, dI) vwCl (WX hX aX kX hT hM fX_ready fX_sheet dX_sheet nX_sheet iX_sheetLength xX_reader xX_solver xX_prover xX_values xX_clauses (.ref (hN 0)) ++ (WN hN aN kN iN_arcs fN_from fN_to fN_room fN_cost iN_reached fN_free fN_before fN_flow fN_length_3 fN_stop iN_stops fN_price fN_rest)) H := hP.sub [0, 1, 2, 3, 4, 5, 6, 7, 8, 9, 10, 11, 12, 13, 14] rfl
  have hD : va_D A (WX hX aX kX hT hM fX_ready fX_sheet dX_sheet nX_sheet iX_sheetLength xX_reader xX_solver xX_prover xX_values xX_clauses (.ref (hN 0)) ++ (WN hN aN kN iN_arcs fN_from fN_to fN_room fN_cost iN_reached fN_free fN_before fN_flow fN_length_3 fN_stop iN_stops fN_price fN_rest)) := hD.sub [0, 1, 2, 3, 4, 5, 6, 7, 8, 9, 10, 11, 12, 13, 14] (by decide) rfl
  refine vx_ret ?_
  refine W.known (fun hz9 _ => ?_)
  refine W.widen (k := 1) (n := 6) (by decide +kernel) (by decide +kernel) ?_
  exact W.iret (v := r3) hx hb hr (fun t9_ ht hW => ⟨⟨r3, fN_length_3, rfl, ⟨(by (try dsimp only); omega), (by (try dsimp only); assumption)⟩, by rw [ht]; exact hP, hD, by rw [ht]; first | done | exact Nat.le_antisymm hz9 hS.1⟩, hS.F ht⟩) hS.2.2 dX11_path_15
theorem dX11_tree_0 : decode cX11_tree 0 = .ok (.aload_n 0, 1) := dk_42 (by decide +kernel)
theorem dX11_tree_1 : decode cX11_tree 1 = .ok (.invokevirtual 425, 3) := dk_182 (by decide +kernel)
theorem dX11_tree_4 : decode cX11_tree 4 = .ok (.invokevirtual 452, 3) := dk_182 (by decide +kernel)
theorem dX11_tree_7 : decode cX11_tree 7 = .ok (.lreturn, 1) := dk_173 (by decide +kernel)
def wsMX11_tree_1 : List Cond := .code yX11_tree cX11_tree 1 (some .long) :: ([] ++ (wsV RX11 425 RX11 yX11_theNets wsMX11_theNets_1) ++ (wsV RX11 452 RX2 yX2_treeArcs wsMX2_treeArcs))
theorem gwsMX11_tree_1_0 : GoodIn wsMX11_tree_1 (wsV RX11 425 RX11 yX11_theNets wsMX11_theNets_1) := goodIn_sub (fun _ h => List.mem_cons_of_mem _ (List.mem_append_left _ (List.mem_append_right _ h))) (gdV (by decide +kernel) gdwsMX11_theNets_1)
theorem gwsMX11_tree_1_1 : GoodIn wsMX11_tree_1 (wsV RX11 452 RX2 yX2_treeArcs wsMX2_treeArcs) := goodIn_sub (fun _ h => List.mem_cons_of_mem _ (List.mem_append_right _ h)) (gdV (by decide +kernel) gdwsMX2_treeArcs)
theorem gdwsMX11_tree_1 : wsMX11_tree_1.all goodWord = true := gdC rfl (gdA (gdA (by decide +kernel : ([] : List Cond).all goodWord = true) (gdV (by decide +kernel) gdwsMX11_theNets_1)) (gdV (by decide +kernel) gdwsMX2_treeArcs))
set_option maxHeartbeats 4000000 in
set_option maxRecDepth 100000 in
/-- a tree -/
theorem m_X11_tree_1 (l : Launch) (dC : Nat → ClassId) (dI : Nat → Nat → Nat) (hX : Nat → Nat) (aX : Nat → Nat) (kX : Nat → ClassId) (hT : Nat → Nat) (hM : Nat → Nat) (fX_ready : Nat → Int32) (fX_sheet : Nat → Int32) (dX_sheet : Nat) (nX_sheet : Nat) (iX_sheetLength : Int32) (xX_reader : Value) (xX_solver : Value) (xX_prover : Value) (xX_values : Value) (xX_clauses : Value) (hN : Nat → Nat) (aN : Nat → Nat) (kN : Nat → ClassId) (iN_arcs : Int32) (fN_from : Nat → Int32) (fN_to : Nat → Int32) (fN_room : Nat → Int32) (fN_cost : Nat → Int32) (iN_reached : Int32) (fN_free : Nat → Int32) (fN_before : Nat → Int32) (fN_flow : Nat → Int32) (fN_length : Nat → Int32) (fN_stop : Nat → Int32) (iN_stops : Int32) (fN_price : Nat → Int32) (fN_rest : Nat → Int32) (b_fX_sheet : ∀ q : Nat, (-128) ≤ (fX_sheet q).toInt ∧ (fX_sheet q).toInt ≤ 127) (b_nX_sheet : 64 ≤ nX_sheet ∧ nX_sheet ≤ 60000) (b_iX_sheetLength : 0 ≤ iX_sheetLength.toInt ∧ iX_sheetLength.toInt ≤ 30000) (b_shl : iX_sheetLength.toInt ≤ ((nX_sheet : Nat) : Int)) (b_iN_arcs : 0 ≤ iN_arcs.toInt ∧ iN_arcs.toInt ≤ 40) (b_fN_from : ∀ q : Nat, 0 ≤ (fN_from q).toInt ∧ (fN_from q).toInt ≤ 11) (b_fN_to : ∀ q : Nat, 0 ≤ (fN_to q).toInt ∧ (fN_to q).toInt ≤ 11) (b_fN_before : ∀ q : Nat, 0 ≤ (fN_before q).toInt ∧ (fN_before q).toInt ≤ 79) (b_fN_stop : ∀ q : Nat, 0 ≤ (fN_stop q).toInt ∧ (fN_stop q).toInt ≤ 11) (b_iN_stops : 0 ≤ iN_stops.toInt ∧ iN_stops.toInt ≤ 8) (hVal : tVal (iN_arcs.toInt, fN_from, fN_to, fN_room, fN_cost)) (sz : Nat) : Met l yX11_tree wsMX11_tree_1 ({ frames := 3, cells := 0, slots := 0, locals := 67 }) (va_Pc [.ref (hX 0)] (fun U => U.heap.size = sz ∧ va_P (dC, dI) vwCl (WX hX aX kX hT hM fX_ready fX_sheet dX_sheet nX_sheet iX_sheetLength xX_reader xX_solver xX_prover xX_values xX_clauses (.ref (hN 0)) ++ (WN hN aN kN iN_arcs fN_from fN_to fN_room fN_cost iN_reached fN_free fN_before fN_flow fN_length fN_stop iN_stops fN_price fN_rest)) U.heap ∧ va_K (dC, dI) vwCl (tX kX ++ (tN kN)) U ∧ va_D (fun _ => True) (WX hX aX kX hT hM fX_ready fX_sheet dX_sheet nX_sheet iX_sheetLength xX_reader xX_solver xX_prover xX_values xX_clauses (.ref (hN 0)) ++ (WN hN aN kN iN_arcs fN_from fN_to fN_room fN_cost iN_reached fN_free fN_before fN_flow fN_length fN_stop iN_stops fN_price fN_rest)))) (va_Ql (fun (r : Int64) (u : Nat → Int32) => (∀ q : Nat, 0 ≤ (u q).toInt ∧ (u q).toInt ≤ 79) ∧ (tAll (iN_arcs.toInt, fN_from, fN_to, fN_room, fN_cost) r)) (fun (u : Nat → Int32) t => va_P (dC, dI) vwCl (WX hX aX kX hT hM fX_ready fX_sheet dX_sheet nX_sheet iX_sheetLength xX_reader xX_solver xX_prover xX_values xX_clauses (.ref (hN 0)) ++ (WN hN aN kN iN_arcs fN_from fN_to fN_room fN_cost iN_reached fN_free u fN_flow fN_length fN_stop iN_stops fN_price fN_rest)) t.heap ∧ va_D (va_A (WX hX aX kX hT hM fX_ready fX_sheet dX_sheet nX_sheet iX_sheetLength xX_reader xX_solver xX_prover xX_values xX_clauses (.ref (hN 0)) ++ (WN hN aN kN iN_arcs fN_from fN_to fN_room fN_cost iN_reached fN_free fN_before fN_flow fN_length fN_stop iN_stops fN_price fN_rest)) sz) (WX hX aX kX hT hM fX_ready fX_sheet dX_sheet nX_sheet iX_sheetLength xX_reader xX_solver xX_prover xX_values xX_clauses (.ref (hN 0)) ++ (WN hN aN kN iN_arcs fN_from fN_to fN_room fN_cost iN_reached fN_free u fN_flow fN_length fN_stop iN_stops fN_price fN_rest))) (va_A (WX hX aX kX hT hM fX_ready fX_sheet dX_sheet nX_sheet iX_sheetLength xX_reader xX_solver xX_prover xX_values xX_clauses (.ref (hN 0)) ++ (WN hN aN kN iN_arcs fN_from fN_to fN_room fN_cost iN_reached fN_free fN_before fN_flow fN_length fN_stop iN_stops fN_price fN_rest)) sz)) 0 0 (va_A (WX hX aX kX hT hM fX_ready fX_sheet dX_sheet nX_sheet iX_sheetLength xX_reader xX_solver xX_prover xX_values xX_clauses (.ref (hN 0)) ++ (WN hN aN kN iN_arcs fN_from fN_to fN_room fN_cost iN_reached fN_free fN_before fN_flow fN_length fN_stop iN_stops fN_price fN_rest)) sz) := by
  refine Met.ofW (cc := cX11_tree) (maxL := 1) (ret := (some .long)) (by decide) rfl ?_
  intro p e s m args below meth c s₁ B hml hv
  obtain ⟨rfl, hsz, hP, hK, hD0⟩ := hv
  have hx := B.exec
  have hb := B.bytes
  have hr := B.returns
  have hts := atoms_spec (ws := wsMX11_tree_1) B.pre
  have hown : s.vm.findClass RX11 = some m.cls := findClass_of_methodNamed B.named
  have hlocks := B.notSynchronized
  subst hsz
  have hD := hD0.self (sz := s.heap.size)
  generalize hAe : va_A (WX hX aX kX hT hM fX_ready fX_sheet dX_sheet nX_sheet iX_sheetLength xX_reader xX_solver xX_prover xX_values xX_clauses (.ref (hN 0)) ++ (WN hN aN kN iN_arcs fN_from fN_to fN_room fN_cost iN_reached fN_free fN_before fN_flow fN_length fN_stop iN_stops fN_price fN_rest)) s.heap.size = A at hD ⊢
  have hA : ∀ q : Nat, s.heap.size ≤ q → A q := fun q h => by rw [← hAe]; exact Or.inr h
  have hS : va_S A s.heap s.heap [] := va_S.rf
  have hl := lv_entry ([.ref (hX 0)]) (n := 1) (Nat.le_of_ble_eq_true rfl)
  rw [lg_entry_eq]
  generalize (lg_sl ([.ref (hX 0)]) ++ List.replicate (1 - (lg_sl ([.ref (hX 0)])).length) Slot.unset).toArray = ls at hl ⊢
  have hl : lv_has ls 1 [(0, .ref (hX 0))] := hl
  refine lv_aload_n hx hb dX11_tree_0 rfl (lv_at hl 0 rfl) ?_
  have hFc := allFree hD hS hA
  refine va_callr (va_runV (As := []) (rest := []) ⟨hx, hb, hml, hown, hts⟩ (m_X11_theNets_1 l dC dI hX aX kX hT hM fX_ready fX_sheet dX_sheet nX_sheet iX_sheetLength xX_reader xX_solver xX_prover xX_values xX_clauses hN aN kN iN_arcs fN_from fN_to fN_room fN_cost iN_reached fN_free fN_before fN_flow fN_length fN_stop iN_stops fN_price fN_rest b_fX_sheet (by first | exact b_nX_sheet | with_reducible assumption | exact ⟨by omega, by omega⟩ | assumption) (b_iX_sheetLength) (by first | with_reducible assumption | omega | assumption) (b_iN_arcs) b_fN_from b_fN_to b_fN_before b_fN_stop (b_iN_stops) s.heap.size) (cwV 0 hts gwsMX11_tree_1_0 rfl rfl rfl hd_yX11_theNets_RX11 (by decide +kernel)) (fz_pre (va_recv hK hP (ci := 11) (q0 := 0) rfl rfl) hP hK hD) rfl rfl hl.1 rfl (lv_room (Nat.le_of_ble_eq_true rfl)) dX11_tree_1 (by decide +kernel)) hS (fun q _ h => hFc q h) hFc (fun u ra1 t9_ H locs ht hvm hw9 hB9 hz1 hk1 hS => ?_)
  revert hB9
  refine fz_a2 ?_
  intro hra hB9
  subst hra
  clear hw9
  have hP : va_P (dC, dI) vwCl (WX hX aX kX hT hM fX_ready fX_sheet dX_sheet nX_sheet iX_sheetLength xX_reader xX_solver xX_prover xX_values xX_clauses (.ref (hN 0)) ++ (WN hN aN kN iN_arcs fN_from fN_to fN_room fN_cost iN_reached fN_free fN_before fN_flow fN_length fN_stop iN_stops fN_price fN_rest)) H := fz_P ht hB9.1
  have hD : va_D A (WX hX aX kX hT hM fX_ready fX_sheet dX_sheet nX_sheet iX_sheetLength xX_reader xX_solver xX_prover xX_values xX_clauses (.ref (hN 0)) ++ (WN hN aN kN iN_arcs fN_from fN_to fN_room fN_cost iN_reached fN_free fN_before fN_flow fN_length fN_stop iN_stops fN_price fN_rest)) := hB9.2.weaken (fun _ q _ h => hFc q.1 h)
  have hPc : va_P (dC, dI) vwCl (WN hN aN kN iN_arcs fN_from fN_to fN_room fN_cost iN_reached fN_free fN_before fN_flow fN_length fN_stop iN_stops fN_price fN_rest) _ := hP.sub [3, 4, 5, 6, 7, 8, 9, 10, 11, 12, 13, 14] rfl
  have hDc : va_D _ (WN hN aN kN iN_arcs fN_from fN_to fN_room fN_cost iN_reached fN_free fN_before fN_flow fN_length fN_stop iN_stops fN_price fN_rest) := hD.sub [3, 4, 5, 6, 7, 8, 9, 10, 11, 12, 13, 14] (by decide) rfl
  have hKc : va_K (dC, dI) vwCl (tN kN) _ := hK.sub [2, 3, 4, 5, 6, 7, 8, 9, 10, 11, 12] rfl
  have hFc := va_free (wc := WN hN aN kN iN_arcs fN_from fN_to fN_room fN_cost iN_reached fN_free fN_before fN_flow fN_length fN_stop iN_stops fN_price fN_rest) hD hS hA [3, 4, 5, 6, 7, 8, 9, 10, 11, 12, 13, 14] rfl
  refine va_calll (va_runV (As := []) (rest := []) ⟨hx, hb, hml, hown, hts⟩ (m_X2_treeArcs l dC dI hN aN kN iN_arcs fN_from fN_to fN_room fN_cost iN_reached fN_free fN_before fN_flow fN_length fN_stop iN_stops fN_price fN_rest (b_iN_arcs) b_fN_from b_fN_to b_fN_before b_fN_stop (b_iN_stops) (hVal) H.size) (cwV 0 hts gwsMX11_tree_1_1 rfl rfl rfl hd_yX2_treeArcs_RX2 (by decide +kernel)) (fz_pre (va_recv hK hP (ci := 2) (q0 := 3) rfl rfl) hPc hKc hDc) rfl rfl hl.1 rfl (lv_room (Nat.le_of_ble_eq_true rfl)) dX11_tree_4 (by decide +kernel)) hS (fun q _ h => hFc q h) hFc (fun r2 fN_before_2 t9_ H locs ht hvm hw9 hB9 hz1 hk1 hS => ?_)
  revert hw9
  refine fz_a2 ?_
  intro b_fN_before_2 f2_0
  obtain ⟨hP, hD⟩ := va_join (wr := [(hX 0, .inr (11, [.ref (aX 0), .ref (hT 0), .ref (hM 0), .ref dX_sheet, .int iX_sheetLength, xX_reader, xX_solver, xX_prover, xX_values, xX_clauses, (.ref (hN 0))])), (aX 0, .inl (kX 0, 5, .inl fX_ready)), (dX_sheet, .inl (kX 1, nX_sheet, .inl fX_sheet))]) (w1 := WN hN aN kN iN_arcs fN_from fN_to fN_room fN_cost iN_reached fN_free fN_before_2 fN_flow fN_length fN_stop iN_stops fN_price fN_rest) hP hD [3, 4, 5, 6, 7, 8, 9, 10, 11, 12, 13, 14] [0, 1, 2] rfl rfl (by decide) (by decide) hk1 hFc (fz_P ht hB9.1) hB9.2
  have hP : va_P (dC, dI) vwCl (WX hX aX kX hT hM fX_ready fX_sheet dX_sheet nX_sheet iX_sheetLength xX_reader xX_solver xX_prover xX_values xX_clauses (.ref (hN 0)) ++ (WN hN aN kN iN_arcs fN_from fN_to fN_room fN_cost iN_reached fN_free fN_before_2 fN_flow fN_length fN_stop iN_stops fN_price fN_rest)) H := hP.sub [0, 1, 2, 3, 4, 5, 6, 7, 8, 9, 10, 11, 12, 13, 14] rfl
  have hD : va_D A (WX hX aX kX hT hM fX_ready fX_sheet dX_sheet nX_sheet iX_sheetLength xX_reader xX_solver xX_prover xX_values xX_clauses (.ref (hN 0)) ++ (WN hN aN kN iN_arcs fN_from fN_to fN_room fN_cost iN_reached fN_free fN_before_2 fN_flow fN_length fN_stop iN_stops fN_price fN_rest)) := hD.sub [0, 1, 2, 3, 4, 5, 6, 7, 8, 9, 10, 11, 12, 13, 14] (by decide) rfl
  refine W.widen (k := 0) (n := 0) (by decide +kernel) (by decide +kernel) ?_
  exact W.lret (v := r2) hx hb hr (fun t9_ ht hW => ⟨⟨r2, fN_before_2, rfl, ⟨b_fN_before_2, (by (try dsimp only); assumption)⟩, by rw [ht]; exact hP, hD⟩, hS.F ht⟩) hS.2.2 dX11_tree_7
theorem dX11_tour_0 : decode cX11_tour 0 = .ok (.iload_n 1, 1) := dk_27 (by decide +kernel)
theorem dX11_tour_1 : decode cX11_tour 1 = .ok (.invokestatic 456, 3) := dk_184 (by decide +kernel)
theorem dX11_tour_4 : decode cX11_tour 4 = .ok (.istore_n 3, 1) := dk_62 (by decide +kernel)
theorem dX11_tour_5 : decode cX11_tour 5 = .ok (.iload_n 1, 1) := dk_27 (by decide +kernel)
theorem dX11_tour_6 : decode cX11_tour 6 = .ok (.ifCond .lt 21, 3) := dk_155 (by decide +kernel)
theorem dX11_tour_9 : decode cX11_tour 9 = .ok (.iload_n 1, 1) := dk_27 (by decide +kernel)
theorem dX11_tour_10 : decode cX11_tour 10 = .ok (.sipush 4096, 3) := dk_17 (by decide +kernel)
theorem dX11_tour_13 : decode cX11_tour 13 = .ok (.if_icmp .ge 14, 3) := dk_162 (by decide +kernel)
theorem dX11_tour_16 : decode cX11_tour 16 = .ok (.iload_n 3, 1) := dk_29 (by decide +kernel)
theorem dX11_tour_17 : decode cX11_tour 17 = .ok (.iconst 2, 1) := dk_5 (by decide +kernel)
theorem dX11_tour_18 : decode cX11_tour 18 = .ok (.if_icmp .lt 9, 3) := dk_161 (by decide +kernel)
theorem dX11_tour_21 : decode cX11_tour 21 = .ok (.iload_n 3, 1) := dk_29 (by decide +kernel)
theorem dX11_tour_22 : decode cX11_tour 22 = .ok (.bipush 8, 2) := dk_16 (by decide +kernel)
theorem dX11_tour_24 : decode cX11_tour 24 = .ok (.if_icmp .le 11, 3) := dk_164 (by decide +kernel)
theorem dX11_tour_27 : decode cX11_tour 27 = .ok (.new 77, 3) := dk_187 (by decide +kernel)
theorem dX11_tour_30 : decode cX11_tour 30 = .ok (.dup, 1) := dk_89 (by decide +kernel)
theorem dX11_tour_31 : decode cX11_tour 31 = .ok (.invokespecial 79, 3) := dk_183 (by decide +kernel)
theorem dX11_tour_34 : decode cX11_tour 34 = .ok (.athrow, 1) := dk_191 (by decide +kernel)
theorem dX11_tour_35 : decode cX11_tour 35 = .ok (.aload_n 0, 1) := dk_42 (by decide +kernel)
theorem dX11_tour_36 : decode cX11_tour 36 = .ok (.invokevirtual 425, 3) := dk_182 (by decide +kernel)
theorem dX11_tour_39 : decode cX11_tour 39 = .ok (.iload_n 1, 1) := dk_27 (by decide +kernel)
theorem dX11_tour_40 : decode cX11_tour 40 = .ok (.iload_n 2, 1) := dk_28 (by decide +kernel)
theorem dX11_tour_41 : decode cX11_tour 41 = .ok (.invokevirtual 461, 3) := dk_182 (by decide +kernel)
theorem dX11_tour_44 : decode cX11_tour 44 = .ok (.ireturn, 1) := dk_172 (by decide +kernel)
def wsMX11_tour_1 : List Cond := .code yX11_tour cX11_tour 4 (some .int) :: ([.classLink RX11 77 "java/lang/IllegalArgumentException", .initialized "java/lang/IllegalArgumentException"] ++ (va_wsS RX11 456 yJ6_bitCount_0f7a4 wsMJ6_bitCount_0f7a4) ++ ((vx_at0 RX11 79 "java/lang/IllegalArgumentException" ["java/lang/RuntimeException", "java/lang/Exception"]).filter goodWord) ++ (wsV RX11 425 RX11 yX11_theNets wsMX11_theNets_1) ++ (wsV RX11 461 RX2 yX2_round wsMX2_round))
theorem gwsMX11_tour_1_0 : GoodIn wsMX11_tour_1 (va_wsS RX11 456 yJ6_bitCount_0f7a4 wsMJ6_bitCount_0f7a4) := goodIn_sub (fun _ h => List.mem_cons_of_mem _ (List.mem_append_left _ (List.mem_append_left _ (List.mem_append_left _ (List.mem_append_right _ h))))) (gdS (by decide +kernel) gdwsMJ6_bitCount_0f7a4)
theorem gwsMX11_tour_1_2 : GoodIn wsMX11_tour_1 (wsV RX11 425 RX11 yX11_theNets wsMX11_theNets_1) := goodIn_sub (fun _ h => List.mem_cons_of_mem _ (List.mem_append_left _ (List.mem_append_right _ h))) (gdV (by decide +kernel) gdwsMX11_theNets_1)
theorem gwsMX11_tour_1_3 : GoodIn wsMX11_tour_1 (wsV RX11 461 RX2 yX2_round wsMX2_round) := goodIn_sub (fun _ h => List.mem_cons_of_mem _ (List.mem_append_right _ h)) (gdV (by decide +kernel) gdwsMX2_round)
theorem gdwsMX11_tour_1 : wsMX11_tour_1.all goodWord = true := gdC rfl (gdA (gdA (gdA (gdA (by decide +kernel : ([.classLink RX11 77 "java/lang/IllegalArgumentException", .initialized "java/lang/IllegalArgumentException"] : List Cond).all goodWord = true) (gdS (by decide +kernel) gdwsMJ6_bitCount_0f7a4)) (gdF _)) (gdV (by decide +kernel) gdwsMX11_theNets_1)) (gdV (by decide +kernel) gdwsMX2_round))
theorem hm_m_X11_tour_1_0 : (.classLink RX11 77 "java/lang/IllegalArgumentException" : Cond) ∈ wsMX11_tour_1 := by decide +kernel
theorem hm_m_X11_tour_1_1 : (.initialized "java/lang/IllegalArgumentException" : Cond) ∈ wsMX11_tour_1 := by decide +kernel
set_option maxHeartbeats 4000000 in
set_option maxRecDepth 100000 in
/-- a tour -/
theorem m_X11_tour_1 (l : Launch) (hst : l.stackTraces = false) (dC : Nat → ClassId) (dI : Nat → Nat → Nat) (hX : Nat → Nat) (aX : Nat → Nat) (kX : Nat → ClassId) (hT : Nat → Nat) (hM : Nat → Nat) (fX_ready : Nat → Int32) (fX_sheet : Nat → Int32) (dX_sheet : Nat) (nX_sheet : Nat) (iX_sheetLength : Int32) (xX_reader : Value) (xX_solver : Value) (xX_prover : Value) (xX_values : Value) (xX_clauses : Value) (hN : Nat → Nat) (aN : Nat → Nat) (kN : Nat → ClassId) (iN_arcs : Int32) (fN_from : Nat → Int32) (fN_to : Nat → Int32) (fN_room : Nat → Int32) (fN_cost : Nat → Int32) (iN_reached : Int32) (fN_free : Nat → Int32) (fN_before : Nat → Int32) (fN_flow : Nat → Int32) (fN_length : Nat → Int32) (fN_stop : Nat → Int32) (iN_stops : Int32) (fN_price : Nat → Int32) (fN_rest : Nat → Int32) (p1 : Int32) (p2 : Int32) (b_fX_sheet : ∀ q : Nat, (-128) ≤ (fX_sheet q).toInt ∧ (fX_sheet q).toInt ≤ 127) (b_nX_sheet : 64 ≤ nX_sheet ∧ nX_sheet ≤ 60000) (b_iX_sheetLength : 0 ≤ iX_sheetLength.toInt ∧ iX_sheetLength.toInt ≤ 30000) (b_shl : iX_sheetLength.toInt ≤ ((nX_sheet : Nat) : Int)) (b_iN_arcs : 0 ≤ iN_arcs.toInt ∧ iN_arcs.toInt ≤ 40) (b_fN_from : ∀ q : Nat, 0 ≤ (fN_from q).toInt ∧ (fN_from q).toInt ≤ 11) (b_fN_to : ∀ q : Nat, 0 ≤ (fN_to q).toInt ∧ (fN_to q).toInt ≤ 11) (b_fN_before : ∀ q : Nat, 0 ≤ (fN_before q).toInt ∧ (fN_before q).toInt ≤ 79) (b_fN_stop : ∀ q : Nat, 0 ≤ (fN_stop q).toInt ∧ (fN_stop q).toInt ≤ 11) (b_iN_stops : 0 ≤ iN_stops.toInt ∧ iN_stops.toInt ≤ 8) (hVal : tVal (iN_arcs.toInt, fN_from, fN_to, fN_room, fN_cost)) (sz : Nat) : vx_Met l yX11_tour wsMX11_tour_1 ({ frames := 6, cells := 1, slots := 6, locals := 87 }) (va_Pc [.ref (hX 0), .int p1, .int p2] (fun U => U.heap.size = sz ∧ va_P (dC, dI) vwCl (WX hX aX kX hT hM fX_ready fX_sheet dX_sheet nX_sheet iX_sheetLength xX_reader xX_solver xX_prover xX_values xX_clauses (.ref (hN 0)) ++ (WN hN aN kN iN_arcs fN_from fN_to fN_room fN_cost iN_reached fN_free fN_before fN_flow fN_length fN_stop iN_stops fN_price fN_rest)) U.heap ∧ va_K (dC, dI) vwCl (tX kX ++ (tN kN)) U ∧ va_D (fun _ => True) (WX hX aX kX hT hM fX_ready fX_sheet dX_sheet nX_sheet iX_sheetLength xX_reader xX_solver xX_prover xX_values xX_clauses (.ref (hN 0)) ++ (WN hN aN kN iN_arcs fN_from fN_to fN_room fN_cost iN_reached fN_free fN_before fN_flow fN_length fN_stop iN_stops fN_price fN_rest)) ∧ CE (va_A (WX hX aX kX hT hM fX_ready fX_sheet dX_sheet nX_sheet iX_sheetLength xX_reader xX_solver xX_prover xX_values xX_clauses (.ref (hN 0)) ++ (WN hN aN kN iN_arcs fN_from fN_to fN_room fN_cost iN_reached fN_free fN_before fN_flow fN_length fN_stop iN_stops fN_price fN_rest)) sz) U U.heap)) (va_Qi (fun (r : Int32) (u : (Nat → Int32) × (Int32) × (Nat → Int32) × (Nat → Int32)) => (∀ q : Nat, 0 ≤ ((u.1) q).toInt ∧ ((u.1) q).toInt ≤ 11) ∧ (0 ≤ (u.2.1).toInt ∧ (u.2.1).toInt ≤ 8) ∧ ((0 ≤ p1.toInt ∧ p1.toInt ≤ 4095 ∧ 2 ≤ cntB (bI p1) 12 ∧ cntB (bI p1) 12 ≤ 8)) ∧ (tuA (iN_arcs.toInt, fN_from, fN_to, fN_room, fN_cost) (bI p1) p2.toInt r.toInt)) (fun (u : (Nat → Int32) × (Int32) × (Nat → Int32) × (Nat → Int32)) t => va_P (dC, dI) vwCl (WX hX aX kX hT hM fX_ready fX_sheet dX_sheet nX_sheet iX_sheetLength xX_reader xX_solver xX_prover xX_values xX_clauses (.ref (hN 0)) ++ (WN hN aN kN iN_arcs fN_from fN_to fN_room fN_cost iN_reached fN_free fN_before fN_flow fN_length (u.1) (u.2.1) (u.2.2.1) (u.2.2.2))) t.heap ∧ va_D (va_A (WX hX aX kX hT hM fX_ready fX_sheet dX_sheet nX_sheet iX_sheetLength xX_reader xX_solver xX_prover xX_values xX_clauses (.ref (hN 0)) ++ (WN hN aN kN iN_arcs fN_from fN_to fN_room fN_cost iN_reached fN_free fN_before fN_flow fN_length fN_stop iN_stops fN_price fN_rest)) sz) (WX hX aX kX hT hM fX_ready fX_sheet dX_sheet nX_sheet iX_sheetLength xX_reader xX_solver xX_prover xX_values xX_clauses (.ref (hN 0)) ++ (WN hN aN kN iN_arcs fN_from fN_to fN_room fN_cost iN_reached fN_free fN_before fN_flow fN_length (u.1) (u.2.1) (u.2.2.1) (u.2.2.2))) ∧ t.heap.size = sz) (va_A (WX hX aX kX hT hM fX_ready fX_sheet dX_sheet nX_sheet iX_sheetLength xX_reader xX_solver xX_prover xX_values xX_clauses (.ref (hN 0)) ++ (WN hN aN kN iN_arcs fN_from fN_to fN_room fN_cost iN_reached fN_free fN_before fN_flow fN_length fN_stop iN_stops fN_price fN_rest)) sz)) (vx_X (fun (u : (Nat → Int32) × (Int32) × (Nat → Int32) × (Nat → Int32)) => (∀ q : Nat, 0 ≤ ((u.1) q).toInt ∧ ((u.1) q).toInt ≤ 11) ∧ (0 ≤ (u.2.1).toInt ∧ (u.2.1).toInt ≤ 8)) (fun E (u : (Nat → Int32) × (Int32) × (Nat → Int32) × (Nat → Int32)) t => ((E = "java/lang/IllegalArgumentException" ∧ (¬ (0 ≤ p1.toInt ∧ p1.toInt ≤ 4095 ∧ 2 ≤ cntB (bI p1) 12 ∧ cntB (bI p1) 12 ≤ 8)))) ∧ va_P (dC, dI) vwCl (WX hX aX kX hT hM fX_ready fX_sheet dX_sheet nX_sheet iX_sheetLength xX_reader xX_solver xX_prover xX_values xX_clauses (.ref (hN 0)) ++ (WN hN aN kN iN_arcs fN_from fN_to fN_room fN_cost iN_reached fN_free fN_before fN_flow fN_length (u.1) (u.2.1) (u.2.2.1) (u.2.2.2))) t.heap ∧ va_D (va_A (WX hX aX kX hT hM fX_ready fX_sheet dX_sheet nX_sheet iX_sheetLength xX_reader xX_solver xX_prover xX_values xX_clauses (.ref (hN 0)) ++ (WN hN aN kN iN_arcs fN_from fN_to fN_room fN_cost iN_reached fN_free fN_before fN_flow fN_length fN_stop iN_stops fN_price fN_rest)) sz) (WX hX aX kX hT hM fX_ready fX_sheet dX_sheet nX_sheet iX_sheetLength xX_reader xX_solver xX_prover xX_values xX_clauses (.ref (hN 0)) ++ (WN hN aN kN iN_arcs fN_from fN_to fN_room fN_cost iN_reached fN_free fN_before fN_flow fN_length (u.1) (u.2.1) (u.2.2.1) (u.2.2.2)))) (va_A (WX hX aX kX hT hM fX_ready fX_sheet dX_sheet nX_sheet iX_sheetLength xX_reader xX_solver xX_prover xX_values xX_clauses (.ref (hN 0)) ++ (WN hN aN kN iN_arcs fN_from fN_to fN_room fN_cost iN_reached fN_free fN_before fN_flow fN_length fN_stop iN_stops fN_price fN_rest)) sz)) 1 6 (va_A (WX hX aX kX hT hM fX_ready fX_sheet dX_sheet nX_sheet iX_sheetLength xX_reader xX_solver xX_prover xX_values xX_clauses (.ref (hN 0)) ++ (WN hN aN kN iN_arcs fN_from fN_to fN_room fN_cost iN_reached fN_free fN_before fN_flow fN_length fN_stop iN_stops fN_price fN_rest)) sz) := by
  refine vx_ofW (cc := cX11_tour) (maxL := 4) (ret := (some .int)) (by decide) rfl ?_
  intro p e s m args below meth c s₁ B hml htab hv
  obtain ⟨rfl, hsz, hP, hK, hD0, hE⟩ := hv
  have hx := B.exec
  have hb := B.bytes
  have hr := B.returns
  have hts := atoms_spec (ws := wsMX11_tour_1) B.pre
  have hown : s.vm.findClass RX11 = some m.cls := findClass_of_methodNamed B.named
  have hlocks := B.notSynchronized
  subst hsz
  have hD := hD0.self (sz := s.heap.size)
  generalize hAe : va_A (WX hX aX kX hT hM fX_ready fX_sheet dX_sheet nX_sheet iX_sheetLength xX_reader xX_solver xX_prover xX_values xX_clauses (.ref (hN 0)) ++ (WN hN aN kN iN_arcs fN_from fN_to fN_room fN_cost iN_reached fN_free fN_before fN_flow fN_length fN_stop iN_stops fN_price fN_rest)) s.heap.size = A at hD hE ⊢
  have hA : ∀ q : Nat, s.heap.size ≤ q → A q := fun q h => by rw [← hAe]; exact Or.inr h
  have hS : va_S A s.heap s.heap [] := va_S.rf
  have hl := lv_entry ([.ref (hX 0), .int p1, .int p2]) (n := 4) (Nat.le_of_ble_eq_true rfl)
  rw [lg_entry_eq]
  generalize (lg_sl ([.ref (hX 0), .int p1, .int p2]) ++ List.replicate (4 - (lg_sl ([.ref (hX 0), .int p1, .int p2])).length) Slot.unset).toArray = ls at hl ⊢
  have hl : lv_has ls 4 [(0, .ref (hX 0)), (1, .int p1), (2, .int p2)] := hl
  refine lv_iload_n hx hb dX11_tour_0 rfl (lv_at hl 1 rfl) ?_
  have hFc := noneFree hS hA
  refine va_calli (va_runS (As := [.int p1]) (rest := []) ⟨hx, hb, hml, hown, hts⟩ (m_J6_bitCount_0f7a4 l dC dI p1 s.heap.size) (va_cwS 1 hts gwsMX11_tour_1_0 rfl rfl rfl (by decide +kernel) ⟨by decide +kernel, by decide +kernel⟩) ⟨fun a U g mk q => by obtain ⟨q0, q1, qP, qK, qD⟩ := q; exact ⟨q0, q1, qP, va_K.moved (u := U) (U := U.calling g mk a) (Vm.Alike.refl U.vm) qK, qD⟩, fun U hU9 hW => ⟨rfl, by rw [hU9], by rw [hU9]; exact nilP, va_K.moved hW.alike (hK.sub (tys' := []) [] rfl), nilD⟩⟩ rfl rfl hl.1 rfl (lv_room (Nat.le_of_ble_eq_true rfl)) dX11_tour_1 (by decide +kernel)) hS (fun q _ h => hFc q h) hFc (fun r1 u t9_ H1 locs ht hvm hw9 hB9 hz1 hk1 hS => ?_)
  revert hw9
  refine fz_a2 ?_
  intro b_r1 f1_0
  clear hB9
  have hP := keepAll hP hk1
  generalize H1 = H at hP hS ⊢
  have hP : va_P (dC, dI) vwCl (WX hX aX kX hT hM fX_ready fX_sheet dX_sheet nX_sheet iX_sheetLength xX_reader xX_solver xX_prover xX_values xX_clauses (.ref (hN 0)) ++ (WN hN aN kN iN_arcs fN_from fN_to fN_room fN_cost iN_reached fN_free fN_before fN_flow fN_length fN_stop iN_stops fN_price fN_rest)) H := hP
  have hD : va_D A (WX hX aX kX hT hM fX_ready fX_sheet dX_sheet nX_sheet iX_sheetLength xX_reader xX_solver xX_prover xX_values xX_clauses (.ref (hN 0)) ++ (WN hN aN kN iN_arcs fN_from fN_to fN_room fN_cost iN_reached fN_free fN_before fN_flow fN_length fN_stop iN_stops fN_price fN_rest)) := hD
  have hbc := f1_0
  refine lv_istore_n hx hb dX11_tour_4 rfl hl (by decide) rfl (fun ls (hl : lv_has ls _ ([(3, .int r1), (0, .ref (hX 0)), (1, .int p1), (2, .int p2)])) => ?_)
  refine lv_iload_n hx hb dX11_tour_5 rfl (lv_at hl 2 rfl) ?_
  refine lv_if_lt (tgt := 27) hx hb dX11_tour_6 (by decide) (fun c_6 => ?_) (fun c_6 => ?_)
  · have t_6 : p1.toInt < 0 := toI_lt c_6 rfl (by decide : (0 : Int32).toInt = 0)
    exact vx_throw0 (own := RX11) (cls := "java/lang/IllegalArgumentException") (names := ["java/lang/RuntimeException", "java/lang/Exception"]) (ik := 77) (ic := 79) (A := A) hx hb hst hown (by decide +kernel) (by decide +kernel) (hts _ hm_m_X11_tour_1_0) (hts _ hm_m_X11_tour_1_1) (vx_hat (B := ngX11_79) (fun w h => hts w (List.mem_cons_of_mem _ (List.mem_append_left _ (List.mem_append_left _ (List.mem_append_right _ h))))) (fun _ h => h) (fun w h => va_Nw.use (ngX11_79_ot w h) (hE.2.2.1.2.2.1 w h))) (by decide +kernel) hE.2.1.1 hE.2.1.2 hS (by rw [hml]; exact hl.1) dX11_tour_27 dX11_tour_30 dX11_tour_31 dX11_tour_34 (fun x hx9 => (htab x hx9).elim) (by decide +kernel) (Nat.le_of_ble_eq_true rfl) (by decide +kernel) (by decide +kernel) hlocks (fun t hvm hz hk => ⟨(fN_stop, iN_stops, fN_price, fN_rest), ⟨b_fN_stop, (b_iN_stops)⟩, ⟨⟨rfl, by first | omega | (have h8 := hbc (by omega) (by omega); omega)⟩, hP.kept (fun k q h => hk q.1 ((hP k q h).lt)), hD⟩, ⟨Nat.le_trans hS.1 hz, fun q h1 h2 => (hk q (Nat.lt_of_lt_of_le h1 hS.1)).trans (hS.2.1 q h1 h2)⟩⟩) hS.2.2 (by decide +kernel) (by decide +kernel)
  · have t_6 : ¬ p1.toInt < 0 := toI_nlt c_6 rfl (by decide : (0 : Int32).toInt = 0)
    refine lv_iload_n hx hb dX11_tour_9 rfl (lv_at hl 2 rfl) ?_
    refine lv_sipush (v := 4096) hx hb dX11_tour_10 (by decide) ?_
    refine lv_icmp_ge (tgt := 27) hx hb dX11_tour_13 (by decide) (fun c_13 => ?_) (fun c_13 => ?_)
    · have t_13 : p1.toInt ≥ 4096 := toI_ge c_13 rfl (by decide : (4096 : Int32).toInt = 4096)
      exact vx_throw0 (own := RX11) (cls := "java/lang/IllegalArgumentException") (names := ["java/lang/RuntimeException", "java/lang/Exception"]) (ik := 77) (ic := 79) (A := A) hx hb hst hown (by decide +kernel) (by decide +kernel) (hts _ hm_m_X11_tour_1_0) (hts _ hm_m_X11_tour_1_1) (vx_hat (B := ngX11_79) (fun w h => hts w (List.mem_cons_of_mem _ (List.mem_append_left _ (List.mem_append_left _ (List.mem_append_right _ h))))) (fun _ h => h) (fun w h => va_Nw.use (ngX11_79_ot w h) (hE.2.2.1.2.2.1 w h))) (by decide +kernel) hE.2.1.1 hE.2.1.2 hS (by rw [hml]; exact hl.1) dX11_tour_27 dX11_tour_30 dX11_tour_31 dX11_tour_34 (fun x hx9 => (htab x hx9).elim) (by decide +kernel) (Nat.le_of_ble_eq_true rfl) (by decide +kernel) (by decide +kernel) hlocks (fun t hvm hz hk => ⟨(fN_stop, iN_stops, fN_price, fN_rest), ⟨b_fN_stop, (b_iN_stops)⟩, ⟨⟨rfl, by first | omega | (have h8 := hbc (by omega) (by omega); omega)⟩, hP.kept (fun k q h => hk q.1 ((hP k q h).lt)), hD⟩, ⟨Nat.le_trans hS.1 hz, fun q h1 h2 => (hk q (Nat.lt_of_lt_of_le h1 hS.1)).trans (hS.2.1 q h1 h2)⟩⟩) hS.2.2 (by decide +kernel) (by decide +kernel)
    · have t_13 : ¬ p1.toInt ≥ 4096 := toI_nge c_13 rfl (by decide : (4096 : Int32).toInt = 4096)
      refine lv_iload_n hx hb dX11_tour_16 rfl (lv_at hl 0 rfl) ?_
      refine lv_iconst (v := 2) hx hb dX11_tour_17 (by decide) ?_
      refine lv_icmp_lt (tgt := 27) hx hb dX11_tour_18 (by decide) (fun c_18 => ?_) (fun c_18 => ?_)
      · have t_18 : r1.toInt < 2 := toI_lt c_18 rfl (by decide : (2 : Int32).toInt = 2)
        exact vx_throw0 (own := RX11) (cls := "java/lang/IllegalArgumentException") (names := ["java/lang/RuntimeException", "java/lang/Exception"]) (ik := 77) (ic := 79) (A := A) hx hb hst hown (by decide +kernel) (by decide +kernel) (hts _ hm_m_X11_tour_1_0) (hts _ hm_m_X11_tour_1_1) (vx_hat (B := ngX11_79) (fun w h => hts w (List.mem_cons_of_mem _ (List.mem_append_left _ (List.mem_append_left _ (List.mem_append_right _ h))))) (fun _ h => h) (fun w h => va_Nw.use (ngX11_79_ot w h) (hE.2.2.1.2.2.1 w h))) (by decide +kernel) hE.2.1.1 hE.2.1.2 hS (by rw [hml]; exact hl.1) dX11_tour_27 dX11_tour_30 dX11_tour_31 dX11_tour_34 (fun x hx9 => (htab x hx9).elim) (by decide +kernel) (Nat.le_of_ble_eq_true rfl) (by decide +kernel) (by decide +kernel) hlocks (fun t hvm hz hk => ⟨(fN_stop, iN_stops, fN_price, fN_rest), ⟨b_fN_stop, (b_iN_stops)⟩, ⟨⟨rfl, by first | omega | (have h8 := hbc (by omega) (by omega); omega)⟩, hP.kept (fun k q h => hk q.1 ((hP k q h).lt)), hD⟩, ⟨Nat.le_trans hS.1 hz, fun q h1 h2 => (hk q (Nat.lt_of_lt_of_le h1 hS.1)).trans (hS.2.1 q h1 h2)⟩⟩) hS.2.2 (by decide +kernel) (by decide +kernel)
      · have t_18 : ¬ r1.toInt < 2 := toI_nlt c_18 rfl (by decide : (2 : Int32).toInt = 2)
        refine lv_iload_n hx hb dX11_tour_21 rfl (lv_at hl 0 rfl) ?_
        refine lv_bipush (v := 8) hx hb dX11_tour_22 (by decide) ?_
        refine lv_icmp_le (tgt := 35) hx hb dX11_tour_24 (by decide) (fun c_24 => ?_) (fun c_24 => ?_)
        · have t_24 : r1.toInt ≤ 8 := toI_le c_24 rfl (by decide : (8 : Int32).toInt = 8)
          refine lv_aload_n hx hb dX11_tour_35 rfl (lv_at hl 1 rfl) ?_
          have hp1 : 1 ≤ p1.toInt := tuNz (by omega) (by have h8 := hbc (by omega) (by omega); omega)
          have hFc := allFree hD hS hA
          refine va_callr (va_runV (As := []) (rest := []) ⟨hx, hb, hml, hown, hts⟩ (m_X11_theNets_1 l dC dI hX aX kX hT hM fX_ready fX_sheet dX_sheet nX_sheet iX_sheetLength xX_reader xX_solver xX_prover xX_values xX_clauses hN aN kN iN_arcs fN_from fN_to fN_room fN_cost iN_reached fN_free fN_before fN_flow fN_length fN_stop iN_stops fN_price fN_rest b_fX_sheet (by first | exact b_nX_sheet | with_reducible assumption | exact ⟨by omega, by omega⟩ | assumption) (b_iX_sheetLength) (by first | with_reducible assumption | omega | assumption) (b_iN_arcs) b_fN_from b_fN_to b_fN_before b_fN_stop (b_iN_stops) H.size) (cwV 0 hts gwsMX11_tour_1_2 rfl rfl rfl hd_yX11_theNets_RX11 (by decide +kernel)) (fz_pre (va_recv hK hP (ci := 11) (q0 := 0) rfl rfl) hP hK hD) rfl rfl hl.1 rfl (lv_room (Nat.le_of_ble_eq_true rfl)) dX11_tour_36 (by decide +kernel)) hS (fun q _ h => hFc q h) hFc (fun u ra2 t9_ H locs ht hvm hw9 hB9 hz1 hk1 hS => ?_)
          revert hB9
          refine fz_a2 ?_
          intro hra hB9
          subst hra
          clear hw9
          have hP : va_P (dC, dI) vwCl (WX hX aX kX hT hM fX_ready fX_sheet dX_sheet nX_sheet iX_sheetLength xX_reader xX_solver xX_prover xX_values xX_clauses (.ref (hN 0)) ++ (WN hN aN kN iN_arcs fN_from fN_to fN_room fN_cost iN_reached fN_free fN_before fN_flow fN_length fN_stop iN_stops fN_price fN_rest)) H := fz_P ht hB9.1
          have hD : va_D A (WX hX aX kX hT hM fX_ready fX_sheet dX_sheet nX_sheet iX_sheetLength xX_reader xX_solver xX_prover xX_values xX_clauses (.ref (hN 0)) ++ (WN hN aN kN iN_arcs fN_from fN_to fN_room fN_cost iN_reached fN_free fN_before fN_flow fN_length fN_stop iN_stops fN_price fN_rest)) := hB9.2.weaken (fun _ q _ h => hFc q.1 h)
          refine lv_iload_n hx hb dX11_tour_39 rfl (lv_at hl 2 rfl) ?_
          refine lv_iload_n hx hb dX11_tour_40 rfl (lv_at hl 3 rfl) ?_
          have hPc : va_P (dC, dI) vwCl (WN hN aN kN iN_arcs fN_from fN_to fN_room fN_cost iN_reached fN_free fN_before fN_flow fN_length fN_stop iN_stops fN_price fN_rest) _ := hP.sub [3, 4, 5, 6, 7, 8, 9, 10, 11, 12, 13, 14] rfl
          have hDc : va_D _ (WN hN aN kN iN_arcs fN_from fN_to fN_room fN_cost iN_reached fN_free fN_before fN_flow fN_length fN_stop iN_stops fN_price fN_rest) := hD.sub [3, 4, 5, 6, 7, 8, 9, 10, 11, 12, 13, 14] (by decide) rfl
          have hKc : va_K (dC, dI) vwCl (tN kN) _ := hK.sub [2, 3, 4, 5, 6, 7, 8, 9, 10, 11, 12] rfl
          have hFc := va_free (wc := WN hN aN kN iN_arcs fN_from fN_to fN_room fN_cost iN_reached fN_free fN_before fN_flow fN_length fN_stop iN_stops fN_price fN_rest) hD hS hA [3, 4, 5, 6, 7, 8, 9, 10, 11, 12, 13, 14] rfl
          refine va_calli (va_runV (As := [.int p1, .int p2]) (rest := []) ⟨hx, hb, hml, hown, hts⟩ (m_X2_round l dC dI hN aN kN iN_arcs fN_from fN_to fN_room fN_cost iN_reached fN_free fN_before fN_flow fN_length fN_stop iN_stops fN_price fN_rest p1 p2 (b_iN_arcs) b_fN_from b_fN_to b_fN_before b_fN_stop (b_iN_stops) (by first | exact b_p1 | with_reducible assumption | exact ⟨by omega, by omega⟩ | assumption) (hVal) ((by have h8 := hbc (by omega) (by omega); omega)) H.size) (cwV 2 hts gwsMX11_tour_1_3 rfl rfl rfl hd_yX2_round_RX2 (by decide +kernel)) (fz_pre (va_recv hK hP (ci := 2) (q0 := 3) rfl rfl) hPc hKc hDc) rfl rfl hl.1 rfl (lv_room (Nat.le_of_ble_eq_true rfl)) dX11_tour_41 (by decide +kernel)) hS (fun q _ h => hFc q h) hFc (fun r3 u t9_ H locs ht hvm hw9 hB9 hz1 hk1 hS => ?_)
          revert u hw9 hB9
          refine fz_p4 ?_
          intro fN_stop_3 iN_stops_3 fN_price_3 fN_rest_3 hw9 hB9
          try dsimp only at hw9 hB9
          revert hw9
          refine fz_a3 ?_
          intro b_fN_stop_3 b_iN_stops_3 f3_0
          obtain ⟨hP, hD⟩ := va_join (wr := [(hX 0, .inr (11, [.ref (aX 0), .ref (hT 0), .ref (hM 0), .ref dX_sheet, .int iX_sheetLength, xX_reader, xX_solver, xX_prover, xX_values, xX_clauses, (.ref (hN 0))])), (aX 0, .inl (kX 0, 5, .inl fX_ready)), (dX_sheet, .inl (kX 1, nX_sheet, .inl fX_sheet))]) (w1 := WN hN aN kN iN_arcs fN_from fN_to fN_room fN_cost iN_reached fN_free fN_before fN_flow fN_length fN_stop_3 iN_stops_3 fN_price_3 fN_rest_3) hP hD [3, 4, 5, 6, 7, 8, 9, 10, 11, 12, 13, 14] [0, 1, 2] rfl rfl (by decide) (by decide) hk1 hFc (fz_P ht hB9.1) hB9.2
          have hP : va_P (dC, dI) vwCl (WX hX aX kX hT hM fX_ready fX_sheet dX_sheet nX_sheet iX_sheetLength xX_reader xX_solver xX_prover xX_values xX_clauses (.ref (hN 0)) ++ (WN hN aN kN iN_arcs fN_from fN_to fN_room fN_cost iN_reached fN_free fN_before fN_flow fN_length fN_stop_3 iN_stops_3 fN_price_3 fN_rest_3)) H := hP.sub [0, 1, 2, 3, 4, 5, 6, 7, 8, 9, 10, 11, 12, 13, 14] rfl
          have hD : va_D A (WX hX aX kX hT hM fX_ready fX_sheet dX_sheet nX_sheet iX_sheetLength xX_reader xX_solver xX_prover xX_values xX_clauses (.ref (hN 0)) ++ (WN hN aN kN iN_arcs fN_from fN_to fN_room fN_cost iN_reached fN_free fN_before fN_flow fN_length fN_stop_3 iN_stops_3 fN_price_3 fN_rest_3)) := hD.sub [0, 1, 2, 3, 4, 5, 6, 7, 8, 9, 10, 11, 12, 13, 14] (by decide) rfl
          refine vx_ret ?_
          refine W.known (fun hz9 _ => ?_)
          refine W.widen (k := 1) (n := 6) (by decide +kernel) (by decide +kernel) ?_
          exact W.iret (v := r3) hx hb hr (fun t9_ ht hW => ⟨⟨r3, (fN_stop_3, iN_stops_3, fN_price_3, fN_rest_3), rfl, ⟨b_fN_stop_3, b_iN_stops_3, (by (try dsimp only); have h8 := hbc (by omega) (by omega); omega), (by (try dsimp only); assumption)⟩, by rw [ht]; exact hP, hD, by rw [ht]; first | done | exact Nat.le_antisymm hz9 hS.1⟩, hS.F ht⟩) hS.2.2 dX11_tour_44
        · have t_24 : ¬ r1.toInt ≤ 8 := toI_nle c_24 rfl (by decide : (8 : Int32).toInt = 8)
          exact vx_throw0 (own := RX11) (cls := "java/lang/IllegalArgumentException") (names := ["java/lang/RuntimeException", "java/lang/Exception"]) (ik := 77) (ic := 79) (A := A) hx hb hst hown (by decide +kernel) (by decide +kernel) (hts _ hm_m_X11_tour_1_0) (hts _ hm_m_X11_tour_1_1) (vx_hat (B := ngX11_79) (fun w h => hts w (List.mem_cons_of_mem _ (List.mem_append_left _ (List.mem_append_left _ (List.mem_append_right _ h))))) (fun _ h => h) (fun w h => va_Nw.use (ngX11_79_ot w h) (hE.2.2.1.2.2.1 w h))) (by decide +kernel) hE.2.1.1 hE.2.1.2 hS (by rw [hml]; exact hl.1) dX11_tour_27 dX11_tour_30 dX11_tour_31 dX11_tour_34 (fun x hx9 => (htab x hx9).elim) (by decide +kernel) (Nat.le_of_ble_eq_true rfl) (by decide +kernel) (by decide +kernel) hlocks (fun t hvm hz hk => ⟨(fN_stop, iN_stops, fN_price, fN_rest), ⟨b_fN_stop, (b_iN_stops)⟩, ⟨⟨rfl, by first | omega | (have h8 := hbc (by omega) (by omega); omega)⟩, hP.kept (fun k q h => hk q.1 ((hP k q h).lt)), hD⟩, ⟨Nat.le_trans hS.1 hz, fun q h1 h2 => (hk q (Nat.lt_of_lt_of_le h1 hS.1)).trans (hS.2.1 q h1 h2)⟩⟩) hS.2.2 (by decide +kernel) (by decide +kernel)
theorem dX11_theClauses_0 : decode cX11_theClauses 0 = .ok (.aload_n 0, 1) := dk_42 (by decide +kernel)
theorem dX11_theClauses_1 : decode cX11_theClauses 1 = .ok (.getfield 386, 3) := dk_180 (by decide +kernel)
theorem dX11_theClauses_4 : decode cX11_theClauses 4 = .ok (.ifnonnull 14, 3) := dk_199 (by decide +kernel)
theorem dX11_theClauses_18 : decode cX11_theClauses 18 = .ok (.aload_n 0, 1) := dk_42 (by decide +kernel)
theorem dX11_theClauses_19 : decode cX11_theClauses 19 = .ok (.getfield 386, 3) := dk_180 (by decide +kernel)
theorem dX11_theClauses_22 : decode cX11_theClauses 22 = .ok (.areturn, 1) := dk_176 (by decide +kernel)
def wsMX11_theClauses_1 : List Cond := .code yX11_theClauses cX11_theClauses 1 (some (.object "OptimaWorks$ClauseDesk")) :: ([.fieldLink RX11 386 "OptimaWorks" "clauses" "LOptimaWorks$ClauseDesk;"] ++ wsX110)
theorem iwsMX11_theClauses_1_in11 : ∀ w ∈ wsX110, w ∈ wsMX11_theClauses_1 := fun _ h => List.mem_cons_of_mem _ (List.mem_append_right _ h)
theorem gdwsMX11_theClauses_1 : wsMX11_theClauses_1.all goodWord = true := gdC rfl (gdA (by decide +kernel : ([.fieldLink RX11 386 "OptimaWorks" "clauses" "LOptimaWorks$ClauseDesk;"] : List Cond).all goodWord = true) gdwsX110)
theorem hm_m_X11_theClauses_1_0 : (.fieldLink RX11 386 "OptimaWorks" "clauses" "LOptimaWorks$ClauseDesk;" : Cond) ∈ wsMX11_theClauses_1 := by decide +kernel
set_option maxHeartbeats 4000000 in
set_option maxRecDepth 100000 in
/-- the desk of clauses stands -/
theorem m_X11_theClauses_1 (l : Launch) (dC : Nat → ClassId) (dI : Nat → Nat → Nat) (hX : Nat → Nat) (aX : Nat → Nat) (kX : Nat → ClassId) (hT : Nat → Nat) (hM : Nat → Nat) (fX_ready : Nat → Int32) (fX_sheet : Nat → Int32) (dX_sheet : Nat) (nX_sheet : Nat) (iX_sheetLength : Int32) (xX_reader : Value) (xX_solver : Value) (xX_prover : Value) (xX_values : Value) (xX_nets : Value) (hC : Nat → Nat) (aC : Nat → Nat) (kC : Nat → ClassId) (iC_clauses : Int32) (fC_wants : Nat → Int32) (fC_wantsNot : Nat → Int32) (fC_weight : Nat → Int32) (fC_broken : Nat → Int32) (fC_loss : Nat → Int32) (iC_musts : Int32) (b_fX_sheet : ∀ q : Nat, (-128) ≤ (fX_sheet q).toInt ∧ (fX_sheet q).toInt ≤ 127) (b_nX_sheet : 64 ≤ nX_sheet ∧ nX_sheet ≤ 60000) (b_iX_sheetLength : 0 ≤ iX_sheetLength.toInt ∧ iX_sheetLength.toInt ≤ 30000) (b_shl : iX_sheetLength.toInt ≤ ((nX_sheet : Nat) : Int)) (b_iC_clauses : 0 ≤ iC_clauses.toInt ∧ iC_clauses.toInt ≤ 24) (sz : Nat) : Met l yX11_theClauses wsMX11_theClauses_1 ({ frames := 0, cells := 0, slots := 0, locals := 0 }) (va_Pc [.ref (hX 0)] (fun U => U.heap.size = sz ∧ va_P (dC, dI) vwCl (WX hX aX kX hT hM fX_ready fX_sheet dX_sheet nX_sheet iX_sheetLength xX_reader xX_solver xX_prover xX_values (.ref (hC 0)) xX_nets ++ (WC hC aC kC iC_clauses fC_wants fC_wantsNot fC_weight fC_broken fC_loss iC_musts)) U.heap ∧ va_K (dC, dI) vwCl (tX kX ++ (tC kC)) U ∧ va_D (fun _ => True) (WX hX aX kX hT hM fX_ready fX_sheet dX_sheet nX_sheet iX_sheetLength xX_reader xX_solver xX_prover xX_values (.ref (hC 0)) xX_nets ++ (WC hC aC kC iC_clauses fC_wants fC_wantsNot fC_weight fC_broken fC_loss iC_musts)))) (va_Qr (fun (u : Unit) => True) (fun (u : Unit) ra t => ra = (hC 0) ∧ va_P (dC, dI) vwCl (WX hX aX kX hT hM fX_ready fX_sheet dX_sheet nX_sheet iX_sheetLength xX_reader xX_solver xX_prover xX_values (.ref (hC 0)) xX_nets ++ (WC hC aC kC iC_clauses fC_wants fC_wantsNot fC_weight fC_broken fC_loss iC_musts)) t.heap ∧ va_D (va_A (WX hX aX kX hT hM fX_ready fX_sheet dX_sheet nX_sheet iX_sheetLength xX_reader xX_solver xX_prover xX_values (.ref (hC 0)) xX_nets ++ (WC hC aC kC iC_clauses fC_wants fC_wantsNot fC_weight fC_broken fC_loss iC_musts)) sz) (WX hX aX kX hT hM fX_ready fX_sheet dX_sheet nX_sheet iX_sheetLength xX_reader xX_solver xX_prover xX_values (.ref (hC 0)) xX_nets ++ (WC hC aC kC iC_clauses fC_wants fC_wantsNot fC_weight fC_broken fC_loss iC_musts))) (va_A (WX hX aX kX hT hM fX_ready fX_sheet dX_sheet nX_sheet iX_sheetLength xX_reader xX_solver xX_prover xX_values (.ref (hC 0)) xX_nets ++ (WC hC aC kC iC_clauses fC_wants fC_wantsNot fC_weight fC_broken fC_loss iC_musts)) sz)) 0 0 (va_A (WX hX aX kX hT hM fX_ready fX_sheet dX_sheet nX_sheet iX_sheetLength xX_reader xX_solver xX_prover xX_values (.ref (hC 0)) xX_nets ++ (WC hC aC kC iC_clauses fC_wants fC_wantsNot fC_weight fC_broken fC_loss iC_musts)) sz) := by
  refine Met.ofW (cc := cX11_theClauses) (maxL := 1) (ret := (some (.object "OptimaWorks$ClauseDesk"))) (by decide) rfl ?_
  intro p e s m args below meth c s₁ B hml hv
  obtain ⟨rfl, hsz, hP, hK, hD0⟩ := hv
  have hx := B.exec
  have hb := B.bytes
  have hr := B.returns
  have hts := atoms_spec (ws := wsMX11_theClauses_1) B.pre
  have hown : s.vm.findClass RX11 = some m.cls := findClass_of_methodNamed B.named
  have hlocks := B.notSynchronized
  subst hsz
  have hD := hD0.self (sz := s.heap.size)
  generalize hAe : va_A (WX hX aX kX hT hM fX_ready fX_sheet dX_sheet nX_sheet iX_sheetLength xX_reader xX_solver xX_prover xX_values (.ref (hC 0)) xX_nets ++ (WC hC aC kC iC_clauses fC_wants fC_wantsNot fC_weight fC_broken fC_loss iC_musts)) s.heap.size = A at hD ⊢
  have hA : ∀ q : Nat, s.heap.size ≤ q → A q := fun q h => by rw [← hAe]; exact Or.inr h
  have hS : va_S A s.heap s.heap [] := va_S.rf
  have hl := lv_entry ([.ref (hX 0)]) (n := 1) (Nat.le_of_ble_eq_true rfl)
  rw [lg_entry_eq]
  generalize (lg_sl ([.ref (hX 0)]) ++ List.replicate (1 - (lg_sl ([.ref (hX 0)])).length) Slot.unset).toArray = ls at hl ⊢
  have hl : lv_has ls 1 [(0, .ref (hX 0))] := hl
  refine lv_aload_n hx hb dX11_theClauses_0 rfl (lv_at hl 0 rfl) ?_
  refine va_get (D := (dC, dI)) (ci := 11) (v := .ref (hC 0)) (C := RX11) (T := TX11) (N := 11) hx hb hts iwsMX11_theClauses_1_in11 hown hK hP 0 rfl rfl 9 (by decide) (hts _ hm_m_X11_theClauses_1_0) (fun _ h9 => h9) rfl dX11_theClauses_1 ?_
  refine lv_ifnonnull (tgt := 18) hx hb dX11_theClauses_4 (by decide) ?_
  refine lv_aload_n hx hb dX11_theClauses_18 rfl (lv_at hl 0 rfl) ?_
  refine va_get (D := (dC, dI)) (ci := 11) (v := .ref (hC 0)) (C := RX11) (T := TX11) (N := 11) hx hb hts iwsMX11_theClauses_1_in11 hown hK hP 0 rfl rfl 9 (by decide) (hts _ hm_m_X11_theClauses_1_0) (fun _ h9 => h9) rfl dX11_theClauses_19 ?_
  refine W.widen (k := 0) (n := 0) (by decide +kernel) (by decide +kernel) ?_
  exact W.aret hx hb hr (Or.inl ⟨_, rfl⟩) (Or.inr ⟨_, rfl⟩) (fun t9_ ht hW => ⟨⟨(), _, rfl, trivial, rfl, by rw [ht]; exact hP, hD⟩, hS.F ht⟩) hS.2.2 dX11_theClauses_22
theorem dX11_clause_0 : decode cX11_clause 0 = .ok (.iload_n 1, 1) := dk_27 (by decide +kernel)
theorem dX11_clause_1 : decode cX11_clause 1 = .ok (.ifCond .lt 25, 3) := dk_155 (by decide +kernel)
theorem dX11_clause_4 : decode cX11_clause 4 = .ok (.iload_n 1, 1) := dk_27 (by decide +kernel)
theorem dX11_clause_5 : decode cX11_clause 5 = .ok (.sipush 4096, 3) := dk_17 (by decide +kernel)
theorem dX11_clause_8 : decode cX11_clause 8 = .ok (.if_icmp .ge 18, 3) := dk_162 (by decide +kernel)
theorem dX11_clause_11 : decode cX11_clause 11 = .ok (.iload_n 2, 1) := dk_28 (by decide +kernel)
theorem dX11_clause_12 : decode cX11_clause 12 = .ok (.ifCond .lt 14, 3) := dk_155 (by decide +kernel)
theorem dX11_clause_15 : decode cX11_clause 15 = .ok (.iload_n 2, 1) := dk_28 (by decide +kernel)
theorem dX11_clause_16 : decode cX11_clause 16 = .ok (.sipush 4096, 3) := dk_17 (by decide +kernel)
theorem dX11_clause_19 : decode cX11_clause 19 = .ok (.if_icmp .ge 7, 3) := dk_162 (by decide +kernel)
theorem dX11_clause_22 : decode cX11_clause 22 = .ok (.iconst 1, 1) := dk_4 (by decide +kernel)
theorem dX11_clause_23 : decode cX11_clause 23 = .ok (.goto 4, 3) := dk_167 (by decide +kernel)
theorem dX11_clause_26 : decode cX11_clause 26 = .ok (.iconst 0, 1) := dk_3 (by decide +kernel)
theorem dX11_clause_27 : decode cX11_clause 27 = .ok (.istore 4, 2) := dk_54 (by decide +kernel)
theorem dX11_clause_29 : decode cX11_clause 29 = .ok (.iload 4, 2) := dk_21 (by decide +kernel)
theorem dX11_clause_31 : decode cX11_clause 31 = .ok (.ifCond .eq 26, 3) := dk_153 (by decide +kernel)
theorem dX11_clause_34 : decode cX11_clause 34 = .ok (.iload_n 1, 1) := dk_27 (by decide +kernel)
theorem dX11_clause_35 : decode cX11_clause 35 = .ok (.iload_n 2, 1) := dk_28 (by decide +kernel)
theorem dX11_clause_36 : decode cX11_clause 36 = .ok (.ior, 1) := dk_128 (by decide +kernel)
theorem dX11_clause_37 : decode cX11_clause 37 = .ok (.ifCond .eq 20, 3) := dk_153 (by decide +kernel)
theorem dX11_clause_40 : decode cX11_clause 40 = .ok (.iload_n 1, 1) := dk_27 (by decide +kernel)
theorem dX11_clause_41 : decode cX11_clause 41 = .ok (.iload_n 2, 1) := dk_28 (by decide +kernel)
theorem dX11_clause_42 : decode cX11_clause 42 = .ok (.iand, 1) := dk_126 (by decide +kernel)
theorem dX11_clause_43 : decode cX11_clause 43 = .ok (.ifCond .ne 14, 3) := dk_154 (by decide +kernel)
theorem dX11_clause_46 : decode cX11_clause 46 = .ok (.iload_n 3, 1) := dk_29 (by decide +kernel)
theorem dX11_clause_47 : decode cX11_clause 47 = .ok (.ifCond .lt 10, 3) := dk_155 (by decide +kernel)
theorem dX11_clause_50 : decode cX11_clause 50 = .ok (.iload_n 3, 1) := dk_29 (by decide +kernel)
theorem dX11_clause_51 : decode cX11_clause 51 = .ok (.sipush 1000, 3) := dk_17 (by decide +kernel)
theorem dX11_clause_54 : decode cX11_clause 54 = .ok (.if_icmp .le 11, 3) := dk_164 (by decide +kernel)
theorem dX11_clause_57 : decode cX11_clause 57 = .ok (.new 77, 3) := dk_187 (by decide +kernel)
theorem dX11_clause_60 : decode cX11_clause 60 = .ok (.dup, 1) := dk_89 (by decide +kernel)
theorem dX11_clause_61 : decode cX11_clause 61 = .ok (.invokespecial 79, 3) := dk_183 (by decide +kernel)
theorem dX11_clause_64 : decode cX11_clause 64 = .ok (.athrow, 1) := dk_191 (by decide +kernel)
theorem dX11_clause_65 : decode cX11_clause 65 = .ok (.aload_n 0, 1) := dk_42 (by decide +kernel)
theorem dX11_clause_66 : decode cX11_clause 66 = .ok (.invokevirtual 393, 3) := dk_182 (by decide +kernel)
theorem dX11_clause_69 : decode cX11_clause 69 = .ok (.getfield 397, 3) := dk_180 (by decide +kernel)
theorem dX11_clause_72 : decode cX11_clause 72 = .ok (.bipush 24, 2) := dk_16 (by decide +kernel)
theorem dX11_clause_74 : decode cX11_clause 74 = .ok (.if_icmp .lt 11, 3) := dk_161 (by decide +kernel)
theorem dX11_clause_77 : decode cX11_clause 77 = .ok (.new 159, 3) := dk_187 (by decide +kernel)
theorem dX11_clause_80 : decode cX11_clause 80 = .ok (.dup, 1) := dk_89 (by decide +kernel)
theorem dX11_clause_81 : decode cX11_clause 81 = .ok (.invokespecial 161, 3) := dk_183 (by decide +kernel)
theorem dX11_clause_84 : decode cX11_clause 84 = .ok (.athrow, 1) := dk_191 (by decide +kernel)
theorem dX11_clause_85 : decode cX11_clause 85 = .ok (.aload_n 0, 1) := dk_42 (by decide +kernel)
theorem dX11_clause_86 : decode cX11_clause 86 = .ok (.getfield 386, 3) := dk_180 (by decide +kernel)
theorem dX11_clause_89 : decode cX11_clause 89 = .ok (.iload_n 1, 1) := dk_27 (by decide +kernel)
theorem dX11_clause_90 : decode cX11_clause 90 = .ok (.iload_n 2, 1) := dk_28 (by decide +kernel)
theorem dX11_clause_91 : decode cX11_clause 91 = .ok (.iload_n 3, 1) := dk_29 (by decide +kernel)
theorem dX11_clause_92 : decode cX11_clause 92 = .ok (.invokevirtual 399, 3) := dk_182 (by decide +kernel)
theorem dX11_clause_95 : decode cX11_clause 95 = .ok (.ireturn, 1) := dk_172 (by decide +kernel)
def wsMX11_clause_1 : List Cond := .code yX11_clause cX11_clause 5 (some .int) :: ([.classLink RX11 77 "java/lang/IllegalArgumentException", .initialized "java/lang/IllegalArgumentException", .fieldLink RX11 397 "OptimaWorks$ClauseDesk" "clauses" "I", .fieldLink RX11 386 "OptimaWorks" "clauses" "LOptimaWorks$ClauseDesk;", .classLink RX11 159 "java/lang/IllegalStateException", .initialized "java/lang/IllegalStateException"] ++ wsX00 ++ wsX110 ++ ((vx_at0 RX11 79 "java/lang/IllegalArgumentException" ["java/lang/RuntimeException", "java/lang/Exception"]).filter goodWord) ++ (wsV RX11 393 RX11 yX11_theClauses wsMX11_theClauses_1) ++ (wsV RX11 399 RX0 yX0_addClause wsMX0_addClause) ++ ((vx_at0 RX11 161 "java/lang/IllegalStateException" ["java/lang/RuntimeException", "java/lang/Exception"]).filter goodWord))
theorem iwsMX11_clause_1_in0 : ∀ w ∈ wsX00, w ∈ wsMX11_clause_1 := fun _ h => List.mem_cons_of_mem _ (List.mem_append_left _ (List.mem_append_left _ (List.mem_append_left _ (List.mem_append_left _ (List.mem_append_left _ (List.mem_append_right _ h))))))
theorem iwsMX11_clause_1_in11 : ∀ w ∈ wsX110, w ∈ wsMX11_clause_1 := fun _ h => List.mem_cons_of_mem _ (List.mem_append_left _ (List.mem_append_left _ (List.mem_append_left _ (List.mem_append_left _ (List.mem_append_right _ h)))))
theorem gwsMX11_clause_1_1 : GoodIn wsMX11_clause_1 (wsV RX11 393 RX11 yX11_theClauses wsMX11_theClauses_1) := goodIn_sub (fun _ h => List.mem_cons_of_mem _ (List.mem_append_left _ (List.mem_append_left _ (List.mem_append_right _ h)))) (gdV (by decide +kernel) gdwsMX11_theClauses_1)
theorem gwsMX11_clause_1_2 : GoodIn wsMX11_clause_1 (wsV RX11 399 RX0 yX0_addClause wsMX0_addClause) := goodIn_sub (fun _ h => List.mem_cons_of_mem _ (List.mem_append_left _ (List.mem_append_right _ h))) (gdV (by decide +kernel) gdwsMX0_addClause)
theorem gdwsMX11_clause_1 : wsMX11_clause_1.all goodWord = true := gdC rfl (gdA (gdA (gdA (gdA (gdA (gdA (by decide +kernel : ([.classLink RX11 77 "java/lang/IllegalArgumentException", .initialized "java/lang/IllegalArgumentException", .fieldLink RX11 397 "OptimaWorks$ClauseDesk" "clauses" "I", .fieldLink RX11 386 "OptimaWorks" "clauses" "LOptimaWorks$ClauseDesk;", .classLink RX11 159 "java/lang/IllegalStateException", .initialized "java/lang/IllegalStateException"] : List Cond).all goodWord = true) gdwsX00) gdwsX110) (gdF _)) (gdV (by decide +kernel) gdwsMX11_theClauses_1)) (gdV (by decide +kernel) gdwsMX0_addClause)) (gdF _))
theorem hm_m_X11_clause_1_0 : (.classLink RX11 77 "java/lang/IllegalArgumentException" : Cond) ∈ wsMX11_clause_1 := by decide +kernel
theorem hm_m_X11_clause_1_1 : (.initialized "java/lang/IllegalArgumentException" : Cond) ∈ wsMX11_clause_1 := by decide +kernel
set_option maxHeartbeats 4000000 in
set_option maxRecDepth 100000 in
/-- a clause -/
theorem m_X11_clause_1 (l : Launch) (hst : l.stackTraces = false) (dC : Nat → ClassId) (dI : Nat → Nat → Nat) (hX : Nat → Nat) (aX : Nat → Nat) (kX : Nat → ClassId) (hT : Nat → Nat) (hM : Nat → Nat) (fX_ready : Nat → Int32) (fX_sheet : Nat → Int32) (dX_sheet : Nat) (nX_sheet : Nat) (iX_sheetLength : Int32) (xX_reader : Value) (xX_solver : Value) (xX_prover : Value) (xX_values : Value) (xX_nets : Value) (hC : Nat → Nat) (aC : Nat → Nat) (kC : Nat → ClassId) (iC_clauses : Int32) (fC_wants : Nat → Int32) (fC_wantsNot : Nat → Int32) (fC_weight : Nat → Int32) (fC_broken : Nat → Int32) (fC_loss : Nat → Int32) (iC_musts : Int32) (p1 : Int32) (p2 : Int32) (p3 : Int32) (b_fX_sheet : ∀ q : Nat, (-128) ≤ (fX_sheet q).toInt ∧ (fX_sheet q).toInt ≤ 127) (b_nX_sheet : 64 ≤ nX_sheet ∧ nX_sheet ≤ 60000) (b_iX_sheetLength : 0 ≤ iX_sheetLength.toInt ∧ iX_sheetLength.toInt ≤ 30000) (b_shl : iX_sheetLength.toInt ≤ ((nX_sheet : Nat) : Int)) (b_iC_clauses : 0 ≤ iC_clauses.toInt ∧ iC_clauses.toInt ≤ 24) (hCv : cVal (iC_clauses.toInt, fC_wants, fC_wantsNot, fC_weight)) (hCI : ClI (iC_clauses.toInt, fC_wants, fC_wantsNot, fC_weight) fC_broken fC_loss iC_musts) (sz : Nat) : vx_Met l yX11_clause wsMX11_clause_1 ({ frames := 6, cells := 1, slots := 6, locals := 81 }) (va_Pc [.ref (hX 0), .int p1, .int p2, .int p3] (fun U => U.heap.size = sz ∧ va_P (dC, dI) vwCl (WX hX aX kX hT hM fX_ready fX_sheet dX_sheet nX_sheet iX_sheetLength xX_reader xX_solver xX_prover xX_values (.ref (hC 0)) xX_nets ++ (WC hC aC kC iC_clauses fC_wants fC_wantsNot fC_weight fC_broken fC_loss iC_musts)) U.heap ∧ va_K (dC, dI) vwCl (tX kX ++ (tC kC)) U ∧ va_D (fun _ => True) (WX hX aX kX hT hM fX_ready fX_sheet dX_sheet nX_sheet iX_sheetLength xX_reader xX_solver xX_prover xX_values (.ref (hC 0)) xX_nets ++ (WC hC aC kC iC_clauses fC_wants fC_wantsNot fC_weight fC_broken fC_loss iC_musts)) ∧ CE (va_A (WX hX aX kX hT hM fX_ready fX_sheet dX_sheet nX_sheet iX_sheetLength xX_reader xX_solver xX_prover xX_values (.ref (hC 0)) xX_nets ++ (WC hC aC kC iC_clauses fC_wants fC_wantsNot fC_weight fC_broken fC_loss iC_musts)) sz) U U.heap)) (va_Qi (fun (r : Int32) (u : (Int32) × (Nat → Int32) × (Nat → Int32) × (Nat → Int32) × (Nat → Int32) × (Nat → Int32) × (Int32)) => (0 ≤ (u.1).toInt ∧ (u.1).toInt ≤ 24) ∧ ((u.1).toInt = iC_clauses.toInt + 1) ∧ (r.toInt = iC_clauses.toInt) ∧ ((u.2.1) = upd fC_wants iC_clauses.toInt.toNat p1) ∧ ((u.2.2.1) = upd fC_wantsNot iC_clauses.toInt.toNat p2) ∧ ((u.2.2.2.1) = upd fC_weight iC_clauses.toInt.toNat p3) ∧ ((0 ≤ p1.toInt ∧ p1.toInt ≤ 4095 ∧ 0 ≤ p2.toInt ∧ p2.toInt ≤ 4095 ∧ (p1 ||| p2).toInt ≠ 0 ∧ (p1 &&& p2).toInt = 0 ∧ 0 ≤ p3.toInt ∧ p3.toInt ≤ 1000) ∧ iC_clauses.toInt < 24) ∧ (ClI ((u.1).toInt, (u.2.1), (u.2.2.1), (u.2.2.2.1)) (u.2.2.2.2.1) (u.2.2.2.2.2.1) (u.2.2.2.2.2.2)) ∧ (cVal ((u.1).toInt, (u.2.1), (u.2.2.1), (u.2.2.2.1)))) (fun (u : (Int32) × (Nat → Int32) × (Nat → Int32) × (Nat → Int32) × (Nat → Int32) × (Nat → Int32) × (Int32)) t => va_P (dC, dI) vwCl (WX hX aX kX hT hM fX_ready fX_sheet dX_sheet nX_sheet iX_sheetLength xX_reader xX_solver xX_prover xX_values (.ref (hC 0)) xX_nets ++ (WC hC aC kC (u.1) (u.2.1) (u.2.2.1) (u.2.2.2.1) (u.2.2.2.2.1) (u.2.2.2.2.2.1) (u.2.2.2.2.2.2))) t.heap ∧ va_D (va_A (WX hX aX kX hT hM fX_ready fX_sheet dX_sheet nX_sheet iX_sheetLength xX_reader xX_solver xX_prover xX_values (.ref (hC 0)) xX_nets ++ (WC hC aC kC iC_clauses fC_wants fC_wantsNot fC_weight fC_broken fC_loss iC_musts)) sz) (WX hX aX kX hT hM fX_ready fX_sheet dX_sheet nX_sheet iX_sheetLength xX_reader xX_solver xX_prover xX_values (.ref (hC 0)) xX_nets ++ (WC hC aC kC (u.1) (u.2.1) (u.2.2.1) (u.2.2.2.1) (u.2.2.2.2.1) (u.2.2.2.2.2.1) (u.2.2.2.2.2.2))) ∧ t.heap.size = sz) (va_A (WX hX aX kX hT hM fX_ready fX_sheet dX_sheet nX_sheet iX_sheetLength xX_reader xX_solver xX_prover xX_values (.ref (hC 0)) xX_nets ++ (WC hC aC kC iC_clauses fC_wants fC_wantsNot fC_weight fC_broken fC_loss iC_musts)) sz)) (vx_X (fun (u : (Int32) × (Nat → Int32) × (Nat → Int32) × (Nat → Int32) × (Nat → Int32) × (Nat → Int32) × (Int32)) => (0 ≤ (u.1).toInt ∧ (u.1).toInt ≤ 24) ∧ ((u.1).toInt = iC_clauses.toInt ∧ (u.2.1) = fC_wants ∧ (u.2.2.1) = fC_wantsNot ∧ (u.2.2.2.1) = fC_weight) ∧ (ClI ((u.1).toInt, (u.2.1), (u.2.2.1), (u.2.2.2.1)) (u.2.2.2.2.1) (u.2.2.2.2.2.1) (u.2.2.2.2.2.2)) ∧ (cVal ((u.1).toInt, (u.2.1), (u.2.2.1), (u.2.2.2.1)))) (fun E (u : (Int32) × (Nat → Int32) × (Nat → Int32) × (Nat → Int32) × (Nat → Int32) × (Nat → Int32) × (Int32)) t => ((E = "java/lang/IllegalArgumentException" ∧ (¬ (0 ≤ p1.toInt ∧ p1.toInt ≤ 4095 ∧ 0 ≤ p2.toInt ∧ p2.toInt ≤ 4095 ∧ (p1 ||| p2).toInt ≠ 0 ∧ (p1 &&& p2).toInt = 0 ∧ 0 ≤ p3.toInt ∧ p3.toInt ≤ 1000))) ∨ (E = "java/lang/IllegalStateException" ∧ ((0 ≤ p1.toInt ∧ p1.toInt ≤ 4095 ∧ 0 ≤ p2.toInt ∧ p2.toInt ≤ 4095 ∧ (p1 ||| p2).toInt ≠ 0 ∧ (p1 &&& p2).toInt = 0 ∧ 0 ≤ p3.toInt ∧ p3.toInt ≤ 1000) ∧ iC_clauses.toInt = 24))) ∧ va_P (dC, dI) vwCl (WX hX aX kX hT hM fX_ready fX_sheet dX_sheet nX_sheet iX_sheetLength xX_reader xX_solver xX_prover xX_values (.ref (hC 0)) xX_nets ++ (WC hC aC kC (u.1) (u.2.1) (u.2.2.1) (u.2.2.2.1) (u.2.2.2.2.1) (u.2.2.2.2.2.1) (u.2.2.2.2.2.2))) t.heap ∧ va_D (va_A (WX hX aX kX hT hM fX_ready fX_sheet dX_sheet nX_sheet iX_sheetLength xX_reader xX_solver xX_prover xX_values (.ref (hC 0)) xX_nets ++ (WC hC aC kC iC_clauses fC_wants fC_wantsNot fC_weight fC_broken fC_loss iC_musts)) sz) (WX hX aX kX hT hM fX_ready fX_sheet dX_sheet nX_sheet iX_sheetLength xX_reader xX_solver xX_prover xX_values (.ref (hC 0)) xX_nets ++ (WC hC aC kC (u.1) (u.2.1) (u.2.2.1) (u.2.2.2.1) (u.2.2.2.2.1) (u.2.2.2.2.2.1) (u.2.2.2.2.2.2)))) (va_A (WX hX aX kX hT hM fX_ready fX_sheet dX_sheet nX_sheet iX_sheetLength xX_reader xX_solver xX_prover xX_values (.ref (hC 0)) xX_nets ++ (WC hC aC kC iC_clauses fC_wants fC_wantsNot fC_weight fC_broken fC_loss iC_musts)) sz)) 1 6 (va_A (WX hX aX kX hT hM fX_ready fX_sheet dX_sheet nX_sheet iX_sheetLength xX_reader xX_solver xX_prover xX_values (.ref (hC 0)) xX_nets ++ (WC hC aC kC iC_clauses fC_wants fC_wantsNot fC_weight fC_broken fC_loss iC_musts)) sz) := by
  refine vx_ofW (cc := cX11_clause) (maxL := 5) (ret := (some .int)) (by decide) rfl ?_
  intro p e s m args below meth c s₁ B hml htab hv
  obtain ⟨rfl, hsz, hP, hK, hD0, hE⟩ := hv
  have hx := B.exec
  have hb := B.bytes
  have hr := B.returns
  have hts := atoms_spec (ws := wsMX11_clause_1) B.pre
  have hown : s.vm.findClass RX11 = some m.cls := findClass_of_methodNamed B.named
  have hlocks := B.notSynchronized
  subst hsz
  have hD := hD0.self (sz := s.heap.size)
  generalize hAe : va_A (WX hX aX kX hT hM fX_ready fX_sheet dX_sheet nX_sheet iX_sheetLength xX_reader xX_solver xX_prover xX_values (.ref (hC 0)) xX_nets ++ (WC hC aC kC iC_clauses fC_wants fC_wantsNot fC_weight fC_broken fC_loss iC_musts)) s.heap.size = A at hD hE ⊢
  have hA : ∀ q : Nat, s.heap.size ≤ q → A q := fun q h => by rw [← hAe]; exact Or.inr h
  have hS : va_S A s.heap s.heap [] := va_S.rf
  have hl := lv_entry ([.ref (hX 0), .int p1, .int p2, .int p3]) (n := 5) (Nat.le_of_ble_eq_true rfl)
  rw [lg_entry_eq]
  generalize (lg_sl ([.ref (hX 0), .int p1, .int p2, .int p3]) ++ List.replicate (5 - (lg_sl ([.ref (hX 0), .int p1, .int p2, .int p3])).length) Slot.unset).toArray = ls at hl ⊢
  have hl : lv_has ls 5 [(0, .ref (hX 0)), (1, .int p1), (2, .int p2), (3, .int p3)] := hl
  refine lv_iload_n hx hb dX11_clause_0 rfl (lv_at hl 1 rfl) ?_
  refine W.cut (pc := 27) (fun H locs ls stk => ∃ (k0_j2 : Int32), (0 ≤ k0_j2.toInt ∧ k0_j2.toInt ≤ 1) ∧ ((k0_j2.toInt = 1 ∧ (0 ≤ p1.toInt ∧ p1.toInt ≤ 4095 ∧ 0 ≤ p2.toInt ∧ p2.toInt ≤ 4095)) ∨ (k0_j2.toInt = 0 ∧ ¬ (0 ≤ p1.toInt ∧ p1.toInt ≤ 4095 ∧ 0 ≤ p2.toInt ∧ p2.toInt ≤ 4095))) ∧  stk = [.int k0_j2] ∧ va_P (dC, dI) vwCl (WX hX aX kX hT hM fX_ready fX_sheet dX_sheet nX_sheet iX_sheetLength xX_reader xX_solver xX_prover xX_values (.ref (hC 0)) xX_nets ++ (WC hC aC kC iC_clauses fC_wants fC_wantsNot fC_weight fC_broken fC_loss iC_musts)) H ∧ va_D A (WX hX aX kX hT hM fX_ready fX_sheet dX_sheet nX_sheet iX_sheetLength xX_reader xX_solver xX_prover xX_values (.ref (hC 0)) xX_nets ++ (WC hC aC kC iC_clauses fC_wants fC_wantsNot fC_weight fC_broken fC_loss iC_musts)) ∧ va_S A s.heap H locs ∧ lv_has ls 5 [(0, .ref (hX 0)), (1, .int p1), (2, .int p2), (3, .int p3)]) (fun join2 => ?_) ?_
  · refine lv_if_lt (tgt := 26) hx hb dX11_clause_1 (by decide) (fun c_1 => ?_) (fun c_1 => ?_)
    · have t_1 : p1.toInt < 0 := toI_lt c_1 rfl (by decide : (0 : Int32).toInt = 0)
      refine lv_iconst (v := 0) hx hb dX11_clause_26 (by decide) ?_
      have hl : lv_has _ _ ([(0, .ref (hX 0)), (1, .int p1), (2, .int p2), (3, .int p3)]) := lv_sub hl [0, 1, 2, 3] rfl
      exact join2 _ _ _ _ ⟨0, (show 0 ≤ (0 : Int32).toInt ∧ (0 : Int32).toInt ≤ 1 from by decide), (show ((0 : Int32).toInt = 1 ∧ (0 ≤ p1.toInt ∧ p1.toInt ≤ 4095 ∧ 0 ≤ p2.toInt ∧ p2.toInt ≤ 4095)) ∨ ((0 : Int32).toInt = 0 ∧ ¬ (0 ≤ p1.toInt ∧ p1.toInt ≤ 4095 ∧ 0 ≤ p2.toInt ∧ p2.toInt ≤ 4095)) from by first | exact Or.inl ⟨by decide, by omega⟩ | exact Or.inr ⟨by decide, by omega⟩), rfl, hP, hD, hS, hl⟩
    · have t_1 : ¬ p1.toInt < 0 := toI_nlt c_1 rfl (by decide : (0 : Int32).toInt = 0)
      refine lv_iload_n hx hb dX11_clause_4 rfl (lv_at hl 1 rfl) ?_
      refine lv_sipush (v := 4096) hx hb dX11_clause_5 (by decide) ?_
      refine lv_icmp_ge (tgt := 26) hx hb dX11_clause_8 (by decide) (fun c_8 => ?_) (fun c_8 => ?_)
      · have t_8 : p1.toInt ≥ 4096 := toI_ge c_8 rfl (by decide : (4096 : Int32).toInt = 4096)
        refine lv_iconst (v := 0) hx hb dX11_clause_26 (by decide) ?_
        have hl : lv_has _ _ ([(0, .ref (hX 0)), (1, .int p1), (2, .int p2), (3, .int p3)]) := lv_sub hl [0, 1, 2, 3] rfl
        exact join2 _ _ _ _ ⟨0, (show 0 ≤ (0 : Int32).toInt ∧ (0 : Int32).toInt ≤ 1 from by decide), (show ((0 : Int32).toInt = 1 ∧ (0 ≤ p1.toInt ∧ p1.toInt ≤ 4095 ∧ 0 ≤ p2.toInt ∧ p2.toInt ≤ 4095)) ∨ ((0 : Int32).toInt = 0 ∧ ¬ (0 ≤ p1.toInt ∧ p1.toInt ≤ 4095 ∧ 0 ≤ p2.toInt ∧ p2.toInt ≤ 4095)) from by first | exact Or.inl ⟨by decide, by omega⟩ | exact Or.inr ⟨by decide, by omega⟩), rfl, hP, hD, hS, hl⟩
      · have t_8 : ¬ p1.toInt ≥ 4096 := toI_nge c_8 rfl (by decide : (4096 : Int32).toInt = 4096)
        refine lv_iload_n hx hb dX11_clause_11 rfl (lv_at hl 2 rfl) ?_
        refine lv_if_lt (tgt := 26) hx hb dX11_clause_12 (by decide) (fun c_12 => ?_) (fun c_12 => ?_)
        · have t_12 : p2.toInt < 0 := toI_lt c_12 rfl (by decide : (0 : Int32).toInt = 0)
          refine lv_iconst (v := 0) hx hb dX11_clause_26 (by decide) ?_
          have hl : lv_has _ _ ([(0, .ref (hX 0)), (1, .int p1), (2, .int p2), (3, .int p3)]) := lv_sub hl [0, 1, 2, 3] rfl
          exact join2 _ _ _ _ ⟨0, (show 0 ≤ (0 : Int32).toInt ∧ (0 : Int32).toInt ≤ 1 from by decide), (show ((0 : Int32).toInt = 1 ∧ (0 ≤ p1.toInt ∧ p1.toInt ≤ 4095 ∧ 0 ≤ p2.toInt ∧ p2.toInt ≤ 4095)) ∨ ((0 : Int32).toInt = 0 ∧ ¬ (0 ≤ p1.toInt ∧ p1.toInt ≤ 4095 ∧ 0 ≤ p2.toInt ∧ p2.toInt ≤ 4095)) from by first | exact Or.inl ⟨by decide, by omega⟩ | exact Or.inr ⟨by decide, by omega⟩), rfl, hP, hD, hS, hl⟩
        · have t_12 : ¬ p2.toInt < 0 := toI_nlt c_12 rfl (by decide : (0 : Int32).toInt = 0)
          refine lv_iload_n hx hb dX11_clause_15 rfl (lv_at hl 2 rfl) ?_
          refine lv_sipush (v := 4096) hx hb dX11_clause_16 (by decide) ?_
          refine lv_icmp_ge (tgt := 26) hx hb dX11_clause_19 (by decide) (fun c_19 => ?_) (fun c_19 => ?_)
          · have t_19 : p2.toInt ≥ 4096 := toI_ge c_19 rfl (by decide : (4096 : Int32).toInt = 4096)
            refine lv_iconst (v := 0) hx hb dX11_clause_26 (by decide) ?_
            have hl : lv_has _ _ ([(0, .ref (hX 0)), (1, .int p1), (2, .int p2), (3, .int p3)]) := lv_sub hl [0, 1, 2, 3] rfl
            exact join2 _ _ _ _ ⟨0, (show 0 ≤ (0 : Int32).toInt ∧ (0 : Int32).toInt ≤ 1 from by decide), (show ((0 : Int32).toInt = 1 ∧ (0 ≤ p1.toInt ∧ p1.toInt ≤ 4095 ∧ 0 ≤ p2.toInt ∧ p2.toInt ≤ 4095)) ∨ ((0 : Int32).toInt = 0 ∧ ¬ (0 ≤ p1.toInt ∧ p1.toInt ≤ 4095 ∧ 0 ≤ p2.toInt ∧ p2.toInt ≤ 4095)) from by first | exact Or.inl ⟨by decide, by omega⟩ | exact Or.inr ⟨by decide, by omega⟩), rfl, hP, hD, hS, hl⟩
          · have t_19 : ¬ p2.toInt ≥ 4096 := toI_nge c_19 rfl (by decide : (4096 : Int32).toInt = 4096)
            refine lv_iconst (v := 1) hx hb dX11_clause_22 (by decide) ?_
            refine lv_goto (tgt := 27) hx hb dX11_clause_23 (by decide) ?_
            have hl : lv_has _ _ ([(0, .ref (hX 0)), (1, .int p1), (2, .int p2), (3, .int p3)]) := lv_sub hl [0, 1, 2, 3] rfl
            exact join2 _ _ _ _ ⟨1, (show 0 ≤ (1 : Int32).toInt ∧ (1 : Int32).toInt ≤ 1 from by decide), (show ((1 : Int32).toInt = 1 ∧ (0 ≤ p1.toInt ∧ p1.toInt ≤ 4095 ∧ 0 ≤ p2.toInt ∧ p2.toInt ≤ 4095)) ∨ ((1 : Int32).toInt = 0 ∧ ¬ (0 ≤ p1.toInt ∧ p1.toInt ≤ 4095 ∧ 0 ≤ p2.toInt ∧ p2.toInt ≤ 4095)) from by first | exact Or.inl ⟨by decide, by omega⟩ | exact Or.inr ⟨by decide, by omega⟩), rfl, hP, hD, hS, hl⟩
  · rintro H locs ls stk ⟨k0_j2, b_k0_j2, hsg, rfl, hP, hD, hS, hl⟩
    refine lv_istore hx hb dX11_clause_27 hl (by decide) rfl (fun ls (hl : lv_has ls _ ([(4, .int k0_j2), (0, .ref (hX 0)), (1, .int p1), (2, .int p2), (3, .int p3)])) => ?_)
    refine lv_iload hx hb dX11_clause_29 (lv_at hl 0 rfl) ?_
    refine lv_if_eq (tgt := 57) hx hb dX11_clause_31 (by decide) (fun c_31 => ?_) (fun c_31 => ?_)
    · have t_31 : k0_j2.toInt = 0 := toI_eq c_31 rfl (by decide : (0 : Int32).toInt = 0)
      exact vx_throw0 (own := RX11) (cls := "java/lang/IllegalArgumentException") (names := ["java/lang/RuntimeException", "java/lang/Exception"]) (ik := 77) (ic := 79) (A := A) hx hb hst hown (by decide +kernel) (by decide +kernel) (hts _ hm_m_X11_clause_1_0) (hts _ hm_m_X11_clause_1_1) (vx_hat (B := ngX11_79) (fun w h => hts w (List.mem_cons_of_mem _ (List.mem_append_left _ (List.mem_append_left _ (List.mem_append_left _ (List.mem_append_right _ h)))))) (fun _ h => h) (fun w h => va_Nw.use (ngX11_79_ot w h) (hE.2.2.1.2.2.1 w h))) (by decide +kernel) hE.2.1.1 hE.2.1.2 hS (by rw [hml]; exact hl.1) dX11_clause_57 dX11_clause_60 dX11_clause_61 dX11_clause_64 (fun x hx9 => (htab x hx9).elim) (by decide +kernel) (Nat.le_of_ble_eq_true rfl) (by decide +kernel) (by decide +kernel) hlocks (fun t hvm hz hk => ⟨(iC_clauses, fC_wants, fC_wantsNot, fC_weight, fC_broken, fC_loss, iC_musts), ⟨(b_iC_clauses), (by first | exact ⟨rfl, rfl, rfl, rfl⟩ | ((try dsimp only); exact ⟨rfl, rfl, rfl, rfl⟩)), (by first | exact by assumption | ((try dsimp only); exact by assumption)), (by first | exact by assumption | ((try dsimp only); exact by assumption))⟩, ⟨Or.inl ⟨rfl, by omega⟩, hP.kept (fun k q h => hk q.1 ((hP k q h).lt)), hD⟩, ⟨Nat.le_trans hS.1 hz, fun q h1 h2 => (hk q (Nat.lt_of_lt_of_le h1 hS.1)).trans (hS.2.1 q h1 h2)⟩⟩) hS.2.2 (by decide +kernel) (by decide +kernel)
    · have t_31 : ¬ k0_j2.toInt = 0 := toI_neq c_31 rfl (by decide : (0 : Int32).toInt = 0)
      refine lv_iload_n hx hb dX11_clause_34 rfl (lv_at hl 2 rfl) ?_
      refine lv_iload_n hx hb dX11_clause_35 rfl (lv_at hl 3 rfl) ?_
      refine lv_ior hx hb dX11_clause_36 ?_
      refine lv_topi (fun v1 hv1 => ?_)
      have b_v1 : v1.toInt ≤ (p1 ||| p2).toInt ∧ (p1 ||| p2).toInt ≤ v1.toInt := by rw [hv1]; exact ⟨Int.le_refl _, Int.le_refl _⟩
      clear hv1
      refine lv_if_eq (tgt := 57) hx hb dX11_clause_37 (by decide) (fun c_37 => ?_) (fun c_37 => ?_)
      · have t_37 : v1.toInt = 0 := toI_eq c_37 rfl (by decide : (0 : Int32).toInt = 0)
        exact vx_throw0 (own := RX11) (cls := "java/lang/IllegalArgumentException") (names := ["java/lang/RuntimeException", "java/lang/Exception"]) (ik := 77) (ic := 79) (A := A) hx hb hst hown (by decide +kernel) (by decide +kernel) (hts _ hm_m_X11_clause_1_0) (hts _ hm_m_X11_clause_1_1) (vx_hat (B := ngX11_79) (fun w h => hts w (List.mem_cons_of_mem _ (List.mem_append_left _ (List.mem_append_left _ (List.mem_append_left _ (List.mem_append_right _ h)))))) (fun _ h => h) (fun w h => va_Nw.use (ngX11_79_ot w h) (hE.2.2.1.2.2.1 w h))) (by decide +kernel) hE.2.1.1 hE.2.1.2 hS (by rw [hml]; exact hl.1) dX11_clause_57 dX11_clause_60 dX11_clause_61 dX11_clause_64 (fun x hx9 => (htab x hx9).elim) (by decide +kernel) (Nat.le_of_ble_eq_true rfl) (by decide +kernel) (by decide +kernel) hlocks (fun t hvm hz hk => ⟨(iC_clauses, fC_wants, fC_wantsNot, fC_weight, fC_broken, fC_loss, iC_musts), ⟨(b_iC_clauses), (by first | exact ⟨rfl, rfl, rfl, rfl⟩ | ((try dsimp only); exact ⟨rfl, rfl, rfl, rfl⟩)), (by first | exact by assumption | ((try dsimp only); exact by assumption)), (by first | exact by assumption | ((try dsimp only); exact by assumption))⟩, ⟨Or.inl ⟨rfl, by omega⟩, hP.kept (fun k q h => hk q.1 ((hP k q h).lt)), hD⟩, ⟨Nat.le_trans hS.1 hz, fun q h1 h2 => (hk q (Nat.lt_of_lt_of_le h1 hS.1)).trans (hS.2.1 q h1 h2)⟩⟩) hS.2.2 (by decide +kernel) (by decide +kernel)
      · have t_37 : ¬ v1.toInt = 0 := toI_neq c_37 rfl (by decide : (0 : Int32).toInt = 0)
        refine lv_iload_n hx hb dX11_clause_40 rfl (lv_at hl 2 rfl) ?_
        refine lv_iload_n hx hb dX11_clause_41 rfl (lv_at hl 3 rfl) ?_
        refine lv_iand hx hb dX11_clause_42 ?_
        refine lv_topi (fun v2 hv2 => ?_)
        have b_v2 : v2.toInt ≤ (p1 &&& p2).toInt ∧ (p1 &&& p2).toInt ≤ v2.toInt := by rw [hv2]; exact ⟨Int.le_refl _, Int.le_refl _⟩
        clear hv2
        refine lv_if_ne (tgt := 57) hx hb dX11_clause_43 (by decide) (fun c_43 => ?_) (fun c_43 => ?_)
        · have t_43 : v2.toInt ≠ 0 := toI_ne c_43 rfl (by decide : (0 : Int32).toInt = 0)
          exact vx_throw0 (own := RX11) (cls := "java/lang/IllegalArgumentException") (names := ["java/lang/RuntimeException", "java/lang/Exception"]) (ik := 77) (ic := 79) (A := A) hx hb hst hown (by decide +kernel) (by decide +kernel) (hts _ hm_m_X11_clause_1_0) (hts _ hm_m_X11_clause_1_1) (vx_hat (B := ngX11_79) (fun w h => hts w (List.mem_cons_of_mem _ (List.mem_append_left _ (List.mem_append_left _ (List.mem_append_left _ (List.mem_append_right _ h)))))) (fun _ h => h) (fun w h => va_Nw.use (ngX11_79_ot w h) (hE.2.2.1.2.2.1 w h))) (by decide +kernel) hE.2.1.1 hE.2.1.2 hS (by rw [hml]; exact hl.1) dX11_clause_57 dX11_clause_60 dX11_clause_61 dX11_clause_64 (fun x hx9 => (htab x hx9).elim) (by decide +kernel) (Nat.le_of_ble_eq_true rfl) (by decide +kernel) (by decide +kernel) hlocks (fun t hvm hz hk => ⟨(iC_clauses, fC_wants, fC_wantsNot, fC_weight, fC_broken, fC_loss, iC_musts), ⟨(b_iC_clauses), (by first | exact ⟨rfl, rfl, rfl, rfl⟩ | ((try dsimp only); exact ⟨rfl, rfl, rfl, rfl⟩)), (by first | exact by assumption | ((try dsimp only); exact by assumption)), (by first | exact by assumption | ((try dsimp only); exact by assumption))⟩, ⟨Or.inl ⟨rfl, by omega⟩, hP.kept (fun k q h => hk q.1 ((hP k q h).lt)), hD⟩, ⟨Nat.le_trans hS.1 hz, fun q h1 h2 => (hk q (Nat.lt_of_lt_of_le h1 hS.1)).trans (hS.2.1 q h1 h2)⟩⟩) hS.2.2 (by decide +kernel) (by decide +kernel)
        · have t_43 : v2.toInt = 0 := toI_nne c_43 rfl (by decide : (0 : Int32).toInt = 0)
          refine lv_iload_n hx hb dX11_clause_46 rfl (lv_at hl 4 rfl) ?_
          refine lv_if_lt (tgt := 57) hx hb dX11_clause_47 (by decide) (fun c_47 => ?_) (fun c_47 => ?_)
          · have t_47 : p3.toInt < 0 := toI_lt c_47 rfl (by decide : (0 : Int32).toInt = 0)
            exact vx_throw0 (own := RX11) (cls := "java/lang/IllegalArgumentException") (names := ["java/lang/RuntimeException", "java/lang/Exception"]) (ik := 77) (ic := 79) (A := A) hx hb hst hown (by decide +kernel) (by decide +kernel) (hts _ hm_m_X11_clause_1_0) (hts _ hm_m_X11_clause_1_1) (vx_hat (B := ngX11_79) (fun w h => hts w (List.mem_cons_of_mem _ (List.mem_append_left _ (List.mem_append_left _ (List.mem_append_left _ (List.mem_append_right _ h)))))) (fun _ h => h) (fun w h => va_Nw.use (ngX11_79_ot w h) (hE.2.2.1.2.2.1 w h))) (by decide +kernel) hE.2.1.1 hE.2.1.2 hS (by rw [hml]; exact hl.1) dX11_clause_57 dX11_clause_60 dX11_clause_61 dX11_clause_64 (fun x hx9 => (htab x hx9).elim) (by decide +kernel) (Nat.le_of_ble_eq_true rfl) (by decide +kernel) (by decide +kernel) hlocks (fun t hvm hz hk => ⟨(iC_clauses, fC_wants, fC_wantsNot, fC_weight, fC_broken, fC_loss, iC_musts), ⟨(b_iC_clauses), (by first | exact ⟨rfl, rfl, rfl, rfl⟩ | ((try dsimp only); exact ⟨rfl, rfl, rfl, rfl⟩)), (by first | exact by assumption | ((try dsimp only); exact by assumption)), (by first | exact by assumption | ((try dsimp only); exact by assumption))⟩, ⟨Or.inl ⟨rfl, by omega⟩, hP.kept (fun k q h => hk q.1 ((hP k q h).lt)), hD⟩, ⟨Nat.le_trans hS.1 hz, fun q h1 h2 => (hk q (Nat.lt_of_lt_of_le h1 hS.1)).trans (hS.2.1 q h1 h2)⟩⟩) hS.2.2 (by decide +kernel) (by decide +kernel)
          · have t_47 : ¬ p3.toInt < 0 := toI_nlt c_47 rfl (by decide : (0 : Int32).toInt = 0)
            refine lv_iload_n hx hb dX11_clause_50 rfl (lv_at hl 4 rfl) ?_
            refine lv_sipush (v := 1000) hx hb dX11_clause_51 (by decide) ?_
            refine lv_icmp_le (tgt := 65) hx hb dX11_clause_54 (by decide) (fun c_54 => ?_) (fun c_54 => ?_)
            · have t_54 : p3.toInt ≤ 1000 := toI_le c_54 rfl (by decide : (1000 : Int32).toInt = 1000)
              refine lv_aload_n hx hb dX11_clause_65 rfl (lv_at hl 1 rfl) ?_
              have hFc := allFree hD hS hA
              refine va_callr (va_runV (As := []) (rest := []) ⟨hx, hb, hml, hown, hts⟩ (m_X11_theClauses_1 l dC dI hX aX kX hT hM fX_ready fX_sheet dX_sheet nX_sheet iX_sheetLength xX_reader xX_solver xX_prover xX_values xX_nets hC aC kC iC_clauses fC_wants fC_wantsNot fC_weight fC_broken fC_loss iC_musts b_fX_sheet (by first | exact b_nX_sheet | with_reducible assumption | exact ⟨by omega, by omega⟩ | assumption) (b_iX_sheetLength) (by first | with_reducible assumption | omega | assumption) (b_iC_clauses) H.size) (cwV 0 hts gwsMX11_clause_1_1 rfl rfl rfl hd_yX11_theClauses_RX11 (by decide +kernel)) (fz_pre (va_recv hK hP (ci := 11) (q0 := 0) rfl rfl) hP hK hD) rfl rfl hl.1 rfl (lv_room (Nat.le_of_ble_eq_true rfl)) dX11_clause_66 (by decide +kernel)) hS (fun q _ h => hFc q h) hFc (fun u ra3 t9_ H locs ht hvm hw9 hB9 hz1 hk1 hS => ?_)
              revert hB9
              refine fz_a2 ?_
              intro hra hB9
              subst hra
              clear hw9
              have hP : va_P (dC, dI) vwCl (WX hX aX kX hT hM fX_ready fX_sheet dX_sheet nX_sheet iX_sheetLength xX_reader xX_solver xX_prover xX_values (.ref (hC 0)) xX_nets ++ (WC hC aC kC iC_clauses fC_wants fC_wantsNot fC_weight fC_broken fC_loss iC_musts)) H := fz_P ht hB9.1
              have hD : va_D A (WX hX aX kX hT hM fX_ready fX_sheet dX_sheet nX_sheet iX_sheetLength xX_reader xX_solver xX_prover xX_values (.ref (hC 0)) xX_nets ++ (WC hC aC kC iC_clauses fC_wants fC_wantsNot fC_weight fC_broken fC_loss iC_musts)) := hB9.2.weaken (fun _ q _ h => hFc q.1 h)
              refine va_get (D := (dC, dI)) (ci := 0) (v := .int iC_clauses) (C := RX0) (T := TX0) (N := 7) hx hb hts iwsMX11_clause_1_in0 hown hK hP 3 rfl rfl 0 (by decide) (hts (.fieldLink RX11 397 "OptimaWorks$ClauseDesk" "clauses" "I") (by decide +kernel)) (fun _ h9 => h9) rfl dX11_clause_69 ?_
              refine lv_bipush (v := 24) hx hb dX11_clause_72 (by decide) ?_
              refine lv_icmp_lt (tgt := 85) hx hb dX11_clause_74 (by decide) (fun c_74 => ?_) (fun c_74 => ?_)
              · have t_74 : iC_clauses.toInt < 24 := toI_lt c_74 rfl (by decide : (24 : Int32).toInt = 24)
                refine lv_aload_n hx hb dX11_clause_85 rfl (lv_at hl 1 rfl) ?_
                refine va_get (D := (dC, dI)) (ci := 11) (v := .ref (hC 0)) (C := RX11) (T := TX11) (N := 11) hx hb hts iwsMX11_clause_1_in11 hown hK hP 0 rfl rfl 9 (by decide) (hts (.fieldLink RX11 386 "OptimaWorks" "clauses" "LOptimaWorks$ClauseDesk;") (by decide +kernel)) (fun _ h9 => h9) rfl dX11_clause_86 ?_
                refine lv_iload_n hx hb dX11_clause_89 rfl (lv_at hl 2 rfl) ?_
                refine lv_iload_n hx hb dX11_clause_90 rfl (lv_at hl 3 rfl) ?_
                refine lv_iload_n hx hb dX11_clause_91 rfl (lv_at hl 4 rfl) ?_
                have hPc : va_P (dC, dI) vwCl (WC hC aC kC iC_clauses fC_wants fC_wantsNot fC_weight fC_broken fC_loss iC_musts) _ := hP.sub [3, 4, 5, 6, 7, 8] rfl
                have hDc : va_D _ (WC hC aC kC iC_clauses fC_wants fC_wantsNot fC_weight fC_broken fC_loss iC_musts) := hD.sub [3, 4, 5, 6, 7, 8] (by decide) rfl
                have hKc : va_K (dC, dI) vwCl (tC kC) _ := hK.sub [2, 3, 4, 5, 6] rfl
                have hFc := va_free (wc := WC hC aC kC iC_clauses fC_wants fC_wantsNot fC_weight fC_broken fC_loss iC_musts) hD hS hA [3, 4, 5, 6, 7, 8] rfl
                refine va_calli (va_runV (As := [.int p1, .int p2, .int p3]) (rest := []) ⟨hx, hb, hml, hown, hts⟩ (m_X0_addClause l dC dI hC aC kC iC_clauses fC_wants fC_wantsNot fC_weight fC_broken fC_loss iC_musts p1 p2 p3 (b_iC_clauses) (by first | exact b_p3 | with_reducible assumption | exact ⟨by omega, by omega⟩ | assumption) (by first | with_reducible assumption | omega | (rw [iI_t (by omega) (by omega)]; omega) | decide | assumption) (hCv) (hCI) H.size) (cwV 3 hts gwsMX11_clause_1_2 rfl rfl rfl hd_yX0_addClause_RX0 (by decide +kernel)) (fz_pre (va_recv hK hP (ci := 0) (q0 := 3) rfl rfl) hPc hKc hDc) rfl rfl hl.1 rfl (lv_room (Nat.le_of_ble_eq_true rfl)) dX11_clause_92 (by decide +kernel)) hS (fun q _ h => hFc q h) hFc (fun r4 u t9_ H locs ht hvm hw9 hB9 hz1 hk1 hS => ?_)
                revert u hw9 hB9
                refine fz_p7 ?_
                intro iC_clauses_4 fC_wants_4 fC_wantsNot_4 fC_weight_4 fC_broken_4 fC_loss_4 iC_musts_4 hw9 hB9
                try dsimp only at hw9 hB9
                revert hw9
                refine fz_a8 ?_
                intro b_iC_clauses_4 f4_0 f4_1 f4_2 f4_3 f4_4 f4_5 f4_6
                obtain ⟨hP, hD⟩ := va_join (wr := [(hX 0, .inr (11, [.ref (aX 0), .ref (hT 0), .ref (hM 0), .ref dX_sheet, .int iX_sheetLength, xX_reader, xX_solver, xX_prover, xX_values, (.ref (hC 0)), xX_nets])), (aX 0, .inl (kX 0, 5, .inl fX_ready)), (dX_sheet, .inl (kX 1, nX_sheet, .inl fX_sheet))]) (w1 := WC hC aC kC iC_clauses_4 fC_wants_4 fC_wantsNot_4 fC_weight_4 fC_broken_4 fC_loss_4 iC_musts_4) hP hD [3, 4, 5, 6, 7, 8] [0, 1, 2] rfl rfl (by decide) (by decide) hk1 hFc (fz_P ht hB9.1) hB9.2
                have hP : va_P (dC, dI) vwCl (WX hX aX kX hT hM fX_ready fX_sheet dX_sheet nX_sheet iX_sheetLength xX_reader xX_solver xX_prover xX_values (.ref (hC 0)) xX_nets ++ (WC hC aC kC iC_clauses_4 fC_wants_4 fC_wantsNot_4 fC_weight_4 fC_broken_4 fC_loss_4 iC_musts_4)) H := hP.sub [0, 1, 2, 3, 4, 5, 6, 7, 8] rfl
                have hD : va_D A (WX hX aX kX hT hM fX_ready fX_sheet dX_sheet nX_sheet iX_sheetLength xX_reader xX_solver xX_prover xX_values (.ref (hC 0)) xX_nets ++ (WC hC aC kC iC_clauses_4 fC_wants_4 fC_wantsNot_4 fC_weight_4 fC_broken_4 fC_loss_4 iC_musts_4)) := hD.sub [0, 1, 2, 3, 4, 5, 6, 7, 8] (by decide) rfl
                refine vx_ret ?_
                refine W.known (fun hz9 _ => ?_)
                refine W.widen (k := 1) (n := 6) (by decide +kernel) (by decide +kernel) ?_
                exact W.iret (v := r4) hx hb hr (fun t9_ ht hW => ⟨⟨r4, (iC_clauses_4, fC_wants_4, fC_wantsNot_4, fC_weight_4, fC_broken_4, fC_loss_4, iC_musts_4), rfl, ⟨b_iC_clauses_4, (by (try dsimp only); first | assumption | omega), (by (try dsimp only); first | assumption | omega), (by (try dsimp only); assumption), (by (try dsimp only); assumption), (by (try dsimp only); assumption), (by (try dsimp only); omega), (by (try dsimp only); assumption), (by (try dsimp only); assumption)⟩, by rw [ht]; exact hP, hD, by rw [ht]; first | done | exact Nat.le_antisymm hz9 hS.1⟩, hS.F ht⟩) hS.2.2 dX11_clause_95
              · have t_74 : ¬ iC_clauses.toInt < 24 := toI_nlt c_74 rfl (by decide : (24 : Int32).toInt = 24)
                exact vx_throw0 (own := RX11) (cls := "java/lang/IllegalStateException") (names := ["java/lang/RuntimeException", "java/lang/Exception"]) (ik := 159) (ic := 161) (A := A) hx hb hst hown (by decide +kernel) (by decide +kernel) (hts (.classLink RX11 159 "java/lang/IllegalStateException") (by decide +kernel)) (hts (.initialized "java/lang/IllegalStateException") (by decide +kernel)) (vx_hat (B := ngX11_161) (fun w h => hts w (List.mem_cons_of_mem _ (List.mem_append_right _ h))) (fun _ h => h) (fun w h => va_Nw.use (ngX11_161_ot w h) (hE.2.2.1.2.1 w h))) (by decide +kernel) hE.2.1.1 hE.2.1.2 hS (by rw [hml]; exact hl.1) dX11_clause_77 dX11_clause_80 dX11_clause_81 dX11_clause_84 (fun x hx9 => (htab x hx9).elim) (by decide +kernel) (Nat.le_of_ble_eq_true rfl) (by decide +kernel) (by decide +kernel) hlocks (fun t hvm hz hk => ⟨(iC_clauses, fC_wants, fC_wantsNot, fC_weight, fC_broken, fC_loss, iC_musts), ⟨(b_iC_clauses), (by first | exact ⟨rfl, rfl, rfl, rfl⟩ | ((try dsimp only); exact ⟨rfl, rfl, rfl, rfl⟩)), (by first | exact by assumption | ((try dsimp only); exact by assumption)), (by first | exact by assumption | ((try dsimp only); exact by assumption))⟩, ⟨Or.inr (⟨rfl, by omega⟩), hP.kept (fun k q h => hk q.1 ((hP k q h).lt)), hD⟩, ⟨Nat.le_trans hS.1 hz, fun q h1 h2 => (hk q (Nat.lt_of_lt_of_le h1 hS.1)).trans (hS.2.1 q h1 h2)⟩⟩) hS.2.2 (by decide +kernel) (by decide +kernel)
            · have t_54 : ¬ p3.toInt ≤ 1000 := toI_nle c_54 rfl (by decide : (1000 : Int32).toInt = 1000)
              exact vx_throw0 (own := RX11) (cls := "java/lang/IllegalArgumentException") (names := ["java/lang/RuntimeException", "java/lang/Exception"]) (ik := 77) (ic := 79) (A := A) hx hb hst hown (by decide +kernel) (by decide +kernel) (hts _ hm_m_X11_clause_1_0) (hts _ hm_m_X11_clause_1_1) (vx_hat (B := ngX11_79) (fun w h => hts w (List.mem_cons_of_mem _ (List.mem_append_left _ (List.mem_append_left _ (List.mem_append_left _ (List.mem_append_right _ h)))))) (fun _ h => h) (fun w h => va_Nw.use (ngX11_79_ot w h) (hE.2.2.1.2.2.1 w h))) (by decide +kernel) hE.2.1.1 hE.2.1.2 hS (by rw [hml]; exact hl.1) dX11_clause_57 dX11_clause_60 dX11_clause_61 dX11_clause_64 (fun x hx9 => (htab x hx9).elim) (by decide +kernel) (Nat.le_of_ble_eq_true rfl) (by decide +kernel) (by decide +kernel) hlocks (fun t hvm hz hk => ⟨(iC_clauses, fC_wants, fC_wantsNot, fC_weight, fC_broken, fC_loss, iC_musts), ⟨(b_iC_clauses), (by first | exact ⟨rfl, rfl, rfl, rfl⟩ | ((try dsimp only); exact ⟨rfl, rfl, rfl, rfl⟩)), (by first | exact by assumption | ((try dsimp only); exact by assumption)), (by first | exact by assumption | ((try dsimp only); exact by assumption))⟩, ⟨Or.inl ⟨rfl, by omega⟩, hP.kept (fun k q h => hk q.1 ((hP k q h).lt)), hD⟩, ⟨Nat.le_trans hS.1 hz, fun q h1 h2 => (hk q (Nat.lt_of_lt_of_le h1 hS.1)).trans (hS.2.1 q h1 h2)⟩⟩) hS.2.2 (by decide +kernel) (by decide +kernel)
theorem dX11_unsay_0 : decode cX11_unsay 0 = .ok (.aload_n 0, 1) := dk_42 (by decide +kernel)
theorem dX11_unsay_1 : decode cX11_unsay 1 = .ok (.invokevirtual 393, 3) := dk_182 (by decide +kernel)
theorem dX11_unsay_4 : decode cX11_unsay 4 = .ok (.invokevirtual 402, 3) := dk_182 (by decide +kernel)
theorem dX11_unsay_7 : decode cX11_unsay 7 = .ok (.ireturn, 1) := dk_172 (by decide +kernel)
def wsMX11_unsay_1 : List Cond := .code yX11_unsay cX11_unsay 1 (some .boolean) :: ([] ++ (wsV RX11 393 RX11 yX11_theClauses wsMX11_theClauses_1) ++ (wsV RX11 402 RX0 yX0_dropClause wsMX0_dropClause))
theorem gwsMX11_unsay_1_0 : GoodIn wsMX11_unsay_1 (wsV RX11 393 RX11 yX11_theClauses wsMX11_theClauses_1) := goodIn_sub (fun _ h => List.mem_cons_of_mem _ (List.mem_append_left _ (List.mem_append_right _ h))) (gdV (by decide +kernel) gdwsMX11_theClauses_1)
theorem gwsMX11_unsay_1_1 : GoodIn wsMX11_unsay_1 (wsV RX11 402 RX0 yX0_dropClause wsMX0_dropClause) := goodIn_sub (fun _ h => List.mem_cons_of_mem _ (List.mem_append_right _ h)) (gdV (by decide +kernel) gdwsMX0_dropClause)
theorem gdwsMX11_unsay_1 : wsMX11_unsay_1.all goodWord = true := gdC rfl (gdA (gdA (by decide +kernel : ([] : List Cond).all goodWord = true) (gdV (by decide +kernel) gdwsMX11_theClauses_1)) (gdV (by decide +kernel) gdwsMX0_dropClause))
set_option maxHeartbeats 4000000 in
set_option maxRecDepth 100000 in
/-- a clause less -/
theorem m_X11_unsay_1 (l : Launch) (dC : Nat → ClassId) (dI : Nat → Nat → Nat) (hX : Nat → Nat) (aX : Nat → Nat) (kX : Nat → ClassId) (hT : Nat → Nat) (hM : Nat → Nat) (fX_ready : Nat → Int32) (fX_sheet : Nat → Int32) (dX_sheet : Nat) (nX_sheet : Nat) (iX_sheetLength : Int32) (xX_reader : Value) (xX_solver : Value) (xX_prover : Value) (xX_values : Value) (xX_nets : Value) (hC : Nat → Nat) (aC : Nat → Nat) (kC : Nat → ClassId) (iC_clauses : Int32) (fC_wants : Nat → Int32) (fC_wantsNot : Nat → Int32) (fC_weight : Nat → Int32) (fC_broken : Nat → Int32) (fC_loss : Nat → Int32) (iC_musts : Int32) (b_fX_sheet : ∀ q : Nat, (-128) ≤ (fX_sheet q).toInt ∧ (fX_sheet q).toInt ≤ 127) (b_nX_sheet : 64 ≤ nX_sheet ∧ nX_sheet ≤ 60000) (b_iX_sheetLength : 0 ≤ iX_sheetLength.toInt ∧ iX_sheetLength.toInt ≤ 30000) (b_shl : iX_sheetLength.toInt ≤ ((nX_sheet : Nat) : Int)) (b_iC_clauses : 0 ≤ iC_clauses.toInt ∧ iC_clauses.toInt ≤ 24) (hCv : cVal (iC_clauses.toInt, fC_wants, fC_wantsNot, fC_weight)) (hCI : ClI (iC_clauses.toInt, fC_wants, fC_wantsNot, fC_weight) fC_broken fC_loss iC_musts) (sz : Nat) : Met l yX11_unsay wsMX11_unsay_1 ({ frames := 2, cells := 0, slots := 0, locals := 43 }) (va_Pc [.ref (hX 0)] (fun U => U.heap.size = sz ∧ va_P (dC, dI) vwCl (WX hX aX kX hT hM fX_ready fX_sheet dX_sheet nX_sheet iX_sheetLength xX_reader xX_solver xX_prover xX_values (.ref (hC 0)) xX_nets ++ (WC hC aC kC iC_clauses fC_wants fC_wantsNot fC_weight fC_broken fC_loss iC_musts)) U.heap ∧ va_K (dC, dI) vwCl (tX kX ++ (tC kC)) U ∧ va_D (fun _ => True) (WX hX aX kX hT hM fX_ready fX_sheet dX_sheet nX_sheet iX_sheetLength xX_reader xX_solver xX_prover xX_values (.ref (hC 0)) xX_nets ++ (WC hC aC kC iC_clauses fC_wants fC_wantsNot fC_weight fC_broken fC_loss iC_musts)))) (va_Qi (fun (r : Int32) (u : (Int32) × (Nat → Int32) × (Nat → Int32) × (Int32)) => (0 ≤ (u.1).toInt ∧ (u.1).toInt ≤ 24) ∧ (0 ≤ r.toInt ∧ r.toInt ≤ 1) ∧ ((iC_clauses.toInt = 0 ∧ r.toInt = 0 ∧ (u.1).toInt = 0) ∨ (0 < iC_clauses.toInt ∧ r.toInt = 1 ∧ (u.1).toInt = iC_clauses.toInt - 1)) ∧ (ClI ((u.1).toInt, fC_wants, fC_wantsNot, fC_weight) (u.2.1) (u.2.2.1) (u.2.2.2)) ∧ (cVal ((u.1).toInt, fC_wants, fC_wantsNot, fC_weight))) (fun (u : (Int32) × (Nat → Int32) × (Nat → Int32) × (Int32)) t => va_P (dC, dI) vwCl (WX hX aX kX hT hM fX_ready fX_sheet dX_sheet nX_sheet iX_sheetLength xX_reader xX_solver xX_prover xX_values (.ref (hC 0)) xX_nets ++ (WC hC aC kC (u.1) fC_wants fC_wantsNot fC_weight (u.2.1) (u.2.2.1) (u.2.2.2))) t.heap ∧ va_D (va_A (WX hX aX kX hT hM fX_ready fX_sheet dX_sheet nX_sheet iX_sheetLength xX_reader xX_solver xX_prover xX_values (.ref (hC 0)) xX_nets ++ (WC hC aC kC iC_clauses fC_wants fC_wantsNot fC_weight fC_broken fC_loss iC_musts)) sz) (WX hX aX kX hT hM fX_ready fX_sheet dX_sheet nX_sheet iX_sheetLength xX_reader xX_solver xX_prover xX_values (.ref (hC 0)) xX_nets ++ (WC hC aC kC (u.1) fC_wants fC_wantsNot fC_weight (u.2.1) (u.2.2.1) (u.2.2.2)))) (va_A (WX hX aX kX hT hM fX_ready fX_sheet dX_sheet nX_sheet iX_sheetLength xX_reader xX_solver xX_prover xX_values (.ref (hC 0)) xX_nets ++ (WC hC aC kC iC_clauses fC_wants fC_wantsNot fC_weight fC_broken fC_loss iC_musts)) sz)) 0 0 (va_A (WX hX aX kX hT hM fX_ready fX_sheet dX_sheet nX_sheet iX_sheetLength xX_reader xX_solver xX_prover xX_values (.ref (hC 0)) xX_nets ++ (WC hC aC kC iC_clauses fC_wants fC_wantsNot fC_weight fC_broken fC_loss iC_musts)) sz) := by
  refine Met.ofW (cc := cX11_unsay) (maxL := 1) (ret := (some .boolean)) (by decide) rfl ?_
  intro p e s m args below meth c s₁ B hml hv
  obtain ⟨rfl, hsz, hP, hK, hD0⟩ := hv
  have hx := B.exec
  have hb := B.bytes
  have hr := B.returns
  have hts := atoms_spec (ws := wsMX11_unsay_1) B.pre
  have hown : s.vm.findClass RX11 = some m.cls := findClass_of_methodNamed B.named
  have hlocks := B.notSynchronized
  subst hsz
  have hD := hD0.self (sz := s.heap.size)
  generalize hAe : va_A (WX hX aX kX hT hM fX_ready fX_sheet dX_sheet nX_sheet iX_sheetLength xX_reader xX_solver xX_prover xX_values (.ref (hC 0)) xX_nets ++ (WC hC aC kC iC_clauses fC_wants fC_wantsNot fC_weight fC_broken fC_loss iC_musts)) s.heap.size = A at hD ⊢
  have hA : ∀ q : Nat, s.heap.size ≤ q → A q := fun q h => by rw [← hAe]; exact Or.inr h
  have hS : va_S A s.heap s.heap [] := va_S.rf
  have hl := lv_entry ([.ref (hX 0)]) (n := 1) (Nat.le_of_ble_eq_true rfl)
  rw [lg_entry_eq]
  generalize (lg_sl ([.ref (hX 0)]) ++ List.replicate (1 - (lg_sl ([.ref (hX 0)])).length) Slot.unset).toArray = ls at hl ⊢
  have hl : lv_has ls 1 [(0, .ref (hX 0))] := hl
  refine lv_aload_n hx hb dX11_unsay_0 rfl (lv_at hl 0 rfl) ?_
  have hFc := allFree hD hS hA
  refine va_callr (va_runV (As := []) (rest := []) ⟨hx, hb, hml, hown, hts⟩ (m_X11_theClauses_1 l dC dI hX aX kX hT hM fX_ready fX_sheet dX_sheet nX_sheet iX_sheetLength xX_reader xX_solver xX_prover xX_values xX_nets hC aC kC iC_clauses fC_wants fC_wantsNot fC_weight fC_broken fC_loss iC_musts b_fX_sheet (by first | exact b_nX_sheet | with_reducible assumption | exact ⟨by omega, by omega⟩ | assumption) (b_iX_sheetLength) (by first | with_reducible assumption | omega | assumption) (b_iC_clauses) s.heap.size) (cwV 0 hts gwsMX11_unsay_1_0 rfl rfl rfl hd_yX11_theClauses_RX11 (by decide +kernel)) (fz_pre (va_recv hK hP (ci := 11) (q0 := 0) rfl rfl) hP hK hD) rfl rfl hl.1 rfl (lv_room (Nat.le_of_ble_eq_true rfl)) dX11_unsay_1 (by decide +kernel)) hS (fun q _ h => hFc q h) hFc (fun u ra1 t9_ H locs ht hvm hw9 hB9 hz1 hk1 hS => ?_)
  revert hB9
  refine fz_a2 ?_
  intro hra hB9
  subst hra
  clear hw9
  have hP : va_P (dC, dI) vwCl (WX hX aX kX hT hM fX_ready fX_sheet dX_sheet nX_sheet iX_sheetLength xX_reader xX_solver xX_prover xX_values (.ref (hC 0)) xX_nets ++ (WC hC aC kC iC_clauses fC_wants fC_wantsNot fC_weight fC_broken fC_loss iC_musts)) H := fz_P ht hB9.1
  have hD : va_D A (WX hX aX kX hT hM fX_ready fX_sheet dX_sheet nX_sheet iX_sheetLength xX_reader xX_solver xX_prover xX_values (.ref (hC 0)) xX_nets ++ (WC hC aC kC iC_clauses fC_wants fC_wantsNot fC_weight fC_broken fC_loss iC_musts)) := hB9.2.weaken (fun _ q _ h => hFc q.1 h)
  have hPc : va_P (dC, dI) vwCl (WC hC aC kC iC_clauses fC_wants fC_wantsNot fC_weight fC_broken fC_loss iC_musts) _ := hP.sub [3, 4, 5, 6, 7, 8] rfl
  have hDc : va_D _ (WC hC aC kC iC_clauses fC_wants fC_wantsNot fC_weight fC_broken fC_loss iC_musts) := hD.sub [3, 4, 5, 6, 7, 8] (by decide) rfl
  have hKc : va_K (dC, dI) vwCl (tC kC) _ := hK.sub [2, 3, 4, 5, 6] rfl
  have hFc := va_free (wc := WC hC aC kC iC_clauses fC_wants fC_wantsNot fC_weight fC_broken fC_loss iC_musts) hD hS hA [3, 4, 5, 6, 7, 8] rfl
  refine va_calli (va_runV (As := []) (rest := []) ⟨hx, hb, hml, hown, hts⟩ (m_X0_dropClause l dC dI hC aC kC iC_clauses fC_wants fC_wantsNot fC_weight fC_broken fC_loss iC_musts (b_iC_clauses) (hCv) (hCI) H.size) (cwV 0 hts gwsMX11_unsay_1_1 rfl rfl rfl hd_yX0_dropClause_RX0 (by decide +kernel)) (fz_pre (va_recv hK hP (ci := 0) (q0 := 3) rfl rfl) hPc hKc hDc) rfl rfl hl.1 rfl (lv_room (Nat.le_of_ble_eq_true rfl)) dX11_unsay_4 (by decide +kernel)) hS (fun q _ h => hFc q h) hFc (fun r2 u t9_ H locs ht hvm hw9 hB9 hz1 hk1 hS => ?_)
  revert u hw9 hB9
  refine fz_p4 ?_
  intro iC_clauses_2 fC_broken_2 fC_loss_2 iC_musts_2 hw9 hB9
  try dsimp only at hw9 hB9
  revert hw9
  refine fz_a5 ?_
  intro b_iC_clauses_2 b_r2 f2_0 f2_1 f2_2
  obtain ⟨hP, hD⟩ := va_join (wr := [(hX 0, .inr (11, [.ref (aX 0), .ref (hT 0), .ref (hM 0), .ref dX_sheet, .int iX_sheetLength, xX_reader, xX_solver, xX_prover, xX_values, (.ref (hC 0)), xX_nets])), (aX 0, .inl (kX 0, 5, .inl fX_ready)), (dX_sheet, .inl (kX 1, nX_sheet, .inl fX_sheet))]) (w1 := WC hC aC kC iC_clauses_2 fC_wants fC_wantsNot fC_weight fC_broken_2 fC_loss_2 iC_musts_2) hP hD [3, 4, 5, 6, 7, 8] [0, 1, 2] rfl rfl (by decide) (by decide) hk1 hFc (fz_P ht hB9.1) hB9.2
  have hP : va_P (dC, dI) vwCl (WX hX aX kX hT hM fX_ready fX_sheet dX_sheet nX_sheet iX_sheetLength xX_reader xX_solver xX_prover xX_values (.ref (hC 0)) xX_nets ++ (WC hC aC kC iC_clauses_2 fC_wants fC_wantsNot fC_weight fC_broken_2 fC_loss_2 iC_musts_2)) H := hP.sub [0, 1, 2, 3, 4, 5, 6, 7, 8] rfl
  have hD : va_D A (WX hX aX kX hT hM fX_ready fX_sheet dX_sheet nX_sheet iX_sheetLength xX_reader xX_solver xX_prover xX_values (.ref (hC 0)) xX_nets ++ (WC hC aC kC iC_clauses_2 fC_wants fC_wantsNot fC_weight fC_broken_2 fC_loss_2 iC_musts_2)) := hD.sub [0, 1, 2, 3, 4, 5, 6, 7, 8] (by decide) rfl
  refine W.widen (k := 0) (n := 0) (by decide +kernel) (by decide +kernel) ?_
  exact W.zret (v := r2) hx hb hr (by rcases z01 (x := r2) (by first | exact b_r2 | with_reducible assumption | exact ⟨by omega, by omega⟩ | assumption) with h9 | h9 <;> rw [h9] <;> rfl) (fun t9_ ht hW => ⟨⟨r2, (iC_clauses_2, fC_broken_2, fC_loss_2, iC_musts_2), rfl, ⟨b_iC_clauses_2, (by first | exact b_r2 | with_reducible assumption | exact ⟨by omega, by omega⟩ | assumption), (by (try dsimp only); assumption), (by (try dsimp only); assumption), (by (try dsimp only); assumption)⟩, by rw [ht]; exact hP, hD⟩, hS.F ht⟩) hS.2.2 dX11_unsay_7
theorem dX11_truth_0 : decode cX11_truth 0 = .ok (.iload_n 1, 1) := dk_27 (by decide +kernel)
theorem dX11_truth_1 : decode cX11_truth 1 = .ok (.tableswitch 77 0 4 #[35, 44, 53, 61, 69], 35) := by decide +kernel
theorem dX11_truth_36 : decode cX11_truth 36 = .ok (.aload_n 0, 1) := dk_42 (by decide +kernel)
theorem dX11_truth_37 : decode cX11_truth 37 = .ok (.invokevirtual 393, 3) := dk_182 (by decide +kernel)
theorem dX11_truth_40 : decode cX11_truth 40 = .ok (.iconst 1, 1) := dk_4 (by decide +kernel)
theorem dX11_truth_41 : decode cX11_truth 41 = .ok (.invokevirtual 405, 3) := dk_182 (by decide +kernel)
theorem dX11_truth_44 : decode cX11_truth 44 = .ok (.ireturn, 1) := dk_172 (by decide +kernel)
theorem dX11_truth_45 : decode cX11_truth 45 = .ok (.aload_n 0, 1) := dk_42 (by decide +kernel)
theorem dX11_truth_46 : decode cX11_truth 46 = .ok (.invokevirtual 393, 3) := dk_182 (by decide +kernel)
theorem dX11_truth_49 : decode cX11_truth 49 = .ok (.iconst 0, 1) := dk_3 (by decide +kernel)
theorem dX11_truth_50 : decode cX11_truth 50 = .ok (.invokevirtual 405, 3) := dk_182 (by decide +kernel)
theorem dX11_truth_53 : decode cX11_truth 53 = .ok (.ireturn, 1) := dk_172 (by decide +kernel)
theorem dX11_truth_54 : decode cX11_truth 54 = .ok (.aload_n 0, 1) := dk_42 (by decide +kernel)
theorem dX11_truth_55 : decode cX11_truth 55 = .ok (.invokevirtual 393, 3) := dk_182 (by decide +kernel)
theorem dX11_truth_58 : decode cX11_truth 58 = .ok (.invokevirtual 409, 3) := dk_182 (by decide +kernel)
theorem dX11_truth_61 : decode cX11_truth 61 = .ok (.ireturn, 1) := dk_172 (by decide +kernel)
theorem dX11_truth_62 : decode cX11_truth 62 = .ok (.aload_n 0, 1) := dk_42 (by decide +kernel)
theorem dX11_truth_63 : decode cX11_truth 63 = .ok (.invokevirtual 393, 3) := dk_182 (by decide +kernel)
theorem dX11_truth_66 : decode cX11_truth 66 = .ok (.invokevirtual 412, 3) := dk_182 (by decide +kernel)
theorem dX11_truth_69 : decode cX11_truth 69 = .ok (.ireturn, 1) := dk_172 (by decide +kernel)
theorem dX11_truth_70 : decode cX11_truth 70 = .ok (.aload_n 0, 1) := dk_42 (by decide +kernel)
theorem dX11_truth_71 : decode cX11_truth 71 = .ok (.invokevirtual 393, 3) := dk_182 (by decide +kernel)
theorem dX11_truth_74 : decode cX11_truth 74 = .ok (.getfield 397, 3) := dk_180 (by decide +kernel)
theorem dX11_truth_77 : decode cX11_truth 77 = .ok (.ireturn, 1) := dk_172 (by decide +kernel)
theorem dX11_truth_78 : decode cX11_truth 78 = .ok (.iconst (-1), 1) := dk_2 (by decide +kernel)
theorem dX11_truth_79 : decode cX11_truth 79 = .ok (.ireturn, 1) := dk_172 (by decide +kernel)
def wsMX11_truth_1 : List Cond := .code yX11_truth cX11_truth 2 (some .int) :: ([.fieldLink RX11 397 "OptimaWorks$ClauseDesk" "clauses" "I"] ++ wsX00 ++ (wsV RX11 393 RX11 yX11_theClauses wsMX11_theClauses_1) ++ (wsV RX11 405 RX0 yX0_least wsMX0_least) ++ (wsV RX11 409 RX0 yX0_models wsMX0_models) ++ (wsV RX11 412 RX0 yX0_core wsMX0_core))
theorem iwsMX11_truth_1_in0 : ∀ w ∈ wsX00, w ∈ wsMX11_truth_1 := fun _ h => List.mem_cons_of_mem _ (List.mem_append_left _ (List.mem_append_left _ (List.mem_append_left _ (List.mem_append_left _ (List.mem_append_right _ h)))))
theorem gwsMX11_truth_1_0 : GoodIn wsMX11_truth_1 (wsV RX11 393 RX11 yX11_theClauses wsMX11_theClauses_1) := goodIn_sub (fun _ h => List.mem_cons_of_mem _ (List.mem_append_left _ (List.mem_append_left _ (List.mem_append_left _ (List.mem_append_right _ h))))) (gdV (by decide +kernel) gdwsMX11_theClauses_1)
theorem gwsMX11_truth_1_1 : GoodIn wsMX11_truth_1 (wsV RX11 405 RX0 yX0_least wsMX0_least) := goodIn_sub (fun _ h => List.mem_cons_of_mem _ (List.mem_append_left _ (List.mem_append_left _ (List.mem_append_right _ h)))) (gdV (by decide +kernel) gdwsMX0_least)
theorem gwsMX11_truth_1_2 : GoodIn wsMX11_truth_1 (wsV RX11 409 RX0 yX0_models wsMX0_models) := goodIn_sub (fun _ h => List.mem_cons_of_mem _ (List.mem_append_left _ (List.mem_append_right _ h))) (gdV (by decide +kernel) gdwsMX0_models)
theorem gwsMX11_truth_1_3 : GoodIn wsMX11_truth_1 (wsV RX11 412 RX0 yX0_core wsMX0_core) := goodIn_sub (fun _ h => List.mem_cons_of_mem _ (List.mem_append_right _ h)) (gdV (by decide +kernel) gdwsMX0_core)
theorem gdwsMX11_truth_1 : wsMX11_truth_1.all goodWord = true := gdC rfl (gdA (gdA (gdA (gdA (gdA (by decide +kernel : ([.fieldLink RX11 397 "OptimaWorks$ClauseDesk" "clauses" "I"] : List Cond).all goodWord = true) gdwsX00) (gdV (by decide +kernel) gdwsMX11_theClauses_1)) (gdV (by decide +kernel) gdwsMX0_least)) (gdV (by decide +kernel) gdwsMX0_models)) (gdV (by decide +kernel) gdwsMX0_core))
set_option maxHeartbeats 4000000 in
set_option maxRecDepth 100000 in
/-- truths -/
theorem m_X11_truth_1 (l : Launch) (dC : Nat → ClassId) (dI : Nat → Nat → Nat) (hX : Nat → Nat) (aX : Nat → Nat) (kX : Nat → ClassId) (hT : Nat → Nat) (hM : Nat → Nat) (fX_ready : Nat → Int32) (fX_sheet : Nat → Int32) (dX_sheet : Nat) (nX_sheet : Nat) (iX_sheetLength : Int32) (xX_reader : Value) (xX_solver : Value) (xX_prover : Value) (xX_values : Value) (xX_nets : Value) (hC : Nat → Nat) (aC : Nat → Nat) (kC : Nat → ClassId) (iC_clauses : Int32) (fC_wants : Nat → Int32) (fC_wantsNot : Nat → Int32) (fC_weight : Nat → Int32) (fC_broken : Nat → Int32) (fC_loss : Nat → Int32) (iC_musts : Int32) (p1 : Int32) (b_fX_sheet : ∀ q : Nat, (-128) ≤ (fX_sheet q).toInt ∧ (fX_sheet q).toInt ≤ 127) (b_nX_sheet : 64 ≤ nX_sheet ∧ nX_sheet ≤ 60000) (b_iX_sheetLength : 0 ≤ iX_sheetLength.toInt ∧ iX_sheetLength.toInt ≤ 30000) (b_shl : iX_sheetLength.toInt ≤ ((nX_sheet : Nat) : Int)) (b_iC_clauses : 0 ≤ iC_clauses.toInt ∧ iC_clauses.toInt ≤ 24) (hCv : cVal (iC_clauses.toInt, fC_wants, fC_wantsNot, fC_weight)) (hCI : ClI (iC_clauses.toInt, fC_wants, fC_wantsNot, fC_weight) fC_broken fC_loss iC_musts) (sz : Nat) : Met l yX11_truth wsMX11_truth_1 ({ frames := 2, cells := 0, slots := 0, locals := 45 }) (va_Pc [.ref (hX 0), .int p1] (fun U => U.heap.size = sz ∧ va_P (dC, dI) vwCl (WX hX aX kX hT hM fX_ready fX_sheet dX_sheet nX_sheet iX_sheetLength xX_reader xX_solver xX_prover xX_values (.ref (hC 0)) xX_nets ++ (WC hC aC kC iC_clauses fC_wants fC_wantsNot fC_weight fC_broken fC_loss iC_musts)) U.heap ∧ va_K (dC, dI) vwCl (tX kX ++ (tC kC)) U ∧ va_D (fun _ => True) (WX hX aX kX hT hM fX_ready fX_sheet dX_sheet nX_sheet iX_sheetLength xX_reader xX_solver xX_prover xX_values (.ref (hC 0)) xX_nets ++ (WC hC aC kC iC_clauses fC_wants fC_wantsNot fC_weight fC_broken fC_loss iC_musts)))) (va_Qi (fun (r : Int32) (u : Unit) => (cTru (iC_clauses.toInt, fC_wants, fC_wantsNot, fC_weight) p1.toInt r)) (fun (u : Unit) t => va_P (dC, dI) vwCl (WX hX aX kX hT hM fX_ready fX_sheet dX_sheet nX_sheet iX_sheetLength xX_reader xX_solver xX_prover xX_values (.ref (hC 0)) xX_nets ++ (WC hC aC kC iC_clauses fC_wants fC_wantsNot fC_weight fC_broken fC_loss iC_musts)) t.heap ∧ va_D (va_A (WX hX aX kX hT hM fX_ready fX_sheet dX_sheet nX_sheet iX_sheetLength xX_reader xX_solver xX_prover xX_values (.ref (hC 0)) xX_nets ++ (WC hC aC kC iC_clauses fC_wants fC_wantsNot fC_weight fC_broken fC_loss iC_musts)) sz) (WX hX aX kX hT hM fX_ready fX_sheet dX_sheet nX_sheet iX_sheetLength xX_reader xX_solver xX_prover xX_values (.ref (hC 0)) xX_nets ++ (WC hC aC kC iC_clauses fC_wants fC_wantsNot fC_weight fC_broken fC_loss iC_musts))) (va_A (WX hX aX kX hT hM fX_ready fX_sheet dX_sheet nX_sheet iX_sheetLength xX_reader xX_solver xX_prover xX_values (.ref (hC 0)) xX_nets ++ (WC hC aC kC iC_clauses fC_wants fC_wantsNot fC_weight fC_broken fC_loss iC_musts)) sz)) 0 0 (va_A (WX hX aX kX hT hM fX_ready fX_sheet dX_sheet nX_sheet iX_sheetLength xX_reader xX_solver xX_prover xX_values (.ref (hC 0)) xX_nets ++ (WC hC aC kC iC_clauses fC_wants fC_wantsNot fC_weight fC_broken fC_loss iC_musts)) sz) := by
  refine Met.ofW (cc := cX11_truth) (maxL := 2) (ret := (some .int)) (by decide) rfl ?_
  intro p e s m args below meth c s₁ B hml hv
  obtain ⟨rfl, hsz, hP, hK, hD0⟩ := hv
  have hx := B.exec
  have hb := B.bytes
  have hr := B.returns
  have hts := atoms_spec (ws := wsMX11_truth_1) B.pre
  have hown : s.vm.findClass RX11 = some m.cls := findClass_of_methodNamed B.named
  have hlocks := B.notSynchronized
  subst hsz
  have hD := hD0.self (sz := s.heap.size)
  generalize hAe : va_A (WX hX aX kX hT hM fX_ready fX_sheet dX_sheet nX_sheet iX_sheetLength xX_reader xX_solver xX_prover xX_values (.ref (hC 0)) xX_nets ++ (WC hC aC kC iC_clauses fC_wants fC_wantsNot fC_weight fC_broken fC_loss iC_musts)) s.heap.size = A at hD ⊢
  have hA : ∀ q : Nat, s.heap.size ≤ q → A q := fun q h => by rw [← hAe]; exact Or.inr h
  have hS : va_S A s.heap s.heap [] := va_S.rf
  have hl := lv_entry ([.ref (hX 0), .int p1]) (n := 2) (Nat.le_of_ble_eq_true rfl)
  rw [lg_entry_eq]
  generalize (lg_sl ([.ref (hX 0), .int p1]) ++ List.replicate (2 - (lg_sl ([.ref (hX 0), .int p1])).length) Slot.unset).toArray = ls at hl ⊢
  have hl : lv_has ls 2 [(0, .ref (hX 0)), (1, .int p1)] := hl
  refine lv_iload_n hx hb dX11_truth_0 rfl (lv_at hl 1 rfl) ?_
  by_cases s_1_0 : p1 = 0
  · have ts_1_0 : p1.toInt = 0 := toI_eq s_1_0 rfl (by decide)
    refine lv_tableIn (off := 35) (tgt := 36) hx hb dX11_truth_1 (by rw [s_1_0]; decide) (by rw [s_1_0]; decide) (by rw [s_1_0]; decide) (by decide) ?_
    refine lv_aload_n hx hb dX11_truth_36 rfl (lv_at hl 0 rfl) ?_
    have hFc := allFree hD hS hA
    refine va_callr (va_runV (As := []) (rest := []) ⟨hx, hb, hml, hown, hts⟩ (m_X11_theClauses_1 l dC dI hX aX kX hT hM fX_ready fX_sheet dX_sheet nX_sheet iX_sheetLength xX_reader xX_solver xX_prover xX_values xX_nets hC aC kC iC_clauses fC_wants fC_wantsNot fC_weight fC_broken fC_loss iC_musts b_fX_sheet (by first | exact b_nX_sheet | with_reducible assumption | exact ⟨by omega, by omega⟩ | assumption) (b_iX_sheetLength) (by first | with_reducible assumption | omega | assumption) (b_iC_clauses) s.heap.size) (cwV 0 hts gwsMX11_truth_1_0 rfl rfl rfl hd_yX11_theClauses_RX11 (by decide +kernel)) (fz_pre (va_recv hK hP (ci := 11) (q0 := 0) rfl rfl) hP hK hD) rfl rfl hl.1 rfl (lv_room (Nat.le_of_ble_eq_true rfl)) dX11_truth_37 (by decide +kernel)) hS (fun q _ h => hFc q h) hFc (fun u ra1 t9_ H locs ht hvm hw9 hB9 hz1 hk1 hS => ?_)
    revert hB9
    refine fz_a2 ?_
    intro hra hB9
    subst hra
    clear hw9
    have hP : va_P (dC, dI) vwCl (WX hX aX kX hT hM fX_ready fX_sheet dX_sheet nX_sheet iX_sheetLength xX_reader xX_solver xX_prover xX_values (.ref (hC 0)) xX_nets ++ (WC hC aC kC iC_clauses fC_wants fC_wantsNot fC_weight fC_broken fC_loss iC_musts)) H := fz_P ht hB9.1
    have hD : va_D A (WX hX aX kX hT hM fX_ready fX_sheet dX_sheet nX_sheet iX_sheetLength xX_reader xX_solver xX_prover xX_values (.ref (hC 0)) xX_nets ++ (WC hC aC kC iC_clauses fC_wants fC_wantsNot fC_weight fC_broken fC_loss iC_musts)) := hB9.2.weaken (fun _ q _ h => hFc q.1 h)
    refine lv_iconst (v := 1) hx hb dX11_truth_40 (by decide) ?_
    have hPc : va_P (dC, dI) vwCl (WC hC aC kC iC_clauses fC_wants fC_wantsNot fC_weight fC_broken fC_loss iC_musts) _ := hP.sub [3, 4, 5, 6, 7, 8] rfl
    have hDc : va_D _ (WC hC aC kC iC_clauses fC_wants fC_wantsNot fC_weight fC_broken fC_loss iC_musts) := hD.sub [3, 4, 5, 6, 7, 8] (by decide) rfl
    have hKc : va_K (dC, dI) vwCl (tC kC) _ := hK.sub [2, 3, 4, 5, 6] rfl
    have hFc := va_free (wc := WC hC aC kC iC_clauses fC_wants fC_wantsNot fC_weight fC_broken fC_loss iC_musts) hD hS hA [3, 4, 5, 6, 7, 8] rfl
    refine va_calli (va_runV (As := [.int 1]) (rest := []) ⟨hx, hb, hml, hown, hts⟩ (m_X0_least l dC dI hC aC kC iC_clauses fC_wants fC_wantsNot fC_weight fC_broken fC_loss iC_musts 1 (b_iC_clauses) (hCv) (hCI) H.size) (cwV 1 hts gwsMX11_truth_1_1 rfl rfl rfl hd_yX0_least_RX0 (by decide +kernel)) (fz_pre (va_recv hK hP (ci := 0) (q0 := 3) rfl rfl) hPc hKc hDc) rfl rfl hl.1 rfl (lv_room (Nat.le_of_ble_eq_true rfl)) dX11_truth_41 (by decide +kernel)) hS (fun q _ h => hFc q h) hFc (fun r2 u t9_ H locs ht hvm hw9 hB9 hz1 hk1 hS => ?_)
    have f2_0 := hw9
    try dsimp only at f2_0
    obtain ⟨hP, hD⟩ := va_join (wr := [(hX 0, .inr (11, [.ref (aX 0), .ref (hT 0), .ref (hM 0), .ref dX_sheet, .int iX_sheetLength, xX_reader, xX_solver, xX_prover, xX_values, (.ref (hC 0)), xX_nets])), (aX 0, .inl (kX 0, 5, .inl fX_ready)), (dX_sheet, .inl (kX 1, nX_sheet, .inl fX_sheet))]) (w1 := WC hC aC kC iC_clauses fC_wants fC_wantsNot fC_weight fC_broken fC_loss iC_musts) hP hD [3, 4, 5, 6, 7, 8] [0, 1, 2] rfl rfl (by decide) (by decide) hk1 hFc (fz_P ht hB9.1) hB9.2
    have hP : va_P (dC, dI) vwCl (WX hX aX kX hT hM fX_ready fX_sheet dX_sheet nX_sheet iX_sheetLength xX_reader xX_solver xX_prover xX_values (.ref (hC 0)) xX_nets ++ (WC hC aC kC iC_clauses fC_wants fC_wantsNot fC_weight fC_broken fC_loss iC_musts)) H := hP.sub [0, 1, 2, 3, 4, 5, 6, 7, 8] rfl
    have hD : va_D A (WX hX aX kX hT hM fX_ready fX_sheet dX_sheet nX_sheet iX_sheetLength xX_reader xX_solver xX_prover xX_values (.ref (hC 0)) xX_nets ++ (WC hC aC kC iC_clauses fC_wants fC_wantsNot fC_weight fC_broken fC_loss iC_musts)) := hD.sub [0, 1, 2, 3, 4, 5, 6, 7, 8] (by decide) rfl
    have hls := f2_0
    refine W.widen (k := 0) (n := 0) (by decide +kernel) (by decide +kernel) ?_
    exact W.iret (v := r2) hx hb hr (fun t9_ ht hW => ⟨⟨r2, (), rfl, (by (try dsimp only); exact Or.inl ⟨ts_1_0, hls.2 (by decide)⟩), by rw [ht]; exact hP, hD⟩, hS.F ht⟩) hS.2.2 dX11_truth_44
  · have ts_1_0 : ¬ p1.toInt = 0 := toI_neq s_1_0 rfl (by decide)
    by_cases s_1_1 : p1 = 1
    · have ts_1_1 : p1.toInt = 1 := toI_eq s_1_1 rfl (by decide)
      refine lv_tableIn (off := 44) (tgt := 45) hx hb dX11_truth_1 (by rw [s_1_1]; decide) (by rw [s_1_1]; decide) (by rw [s_1_1]; decide) (by decide) ?_
      refine lv_aload_n hx hb dX11_truth_45 rfl (lv_at hl 0 rfl) ?_
      have hFc := allFree hD hS hA
      refine va_callr (va_runV (As := []) (rest := []) ⟨hx, hb, hml, hown, hts⟩ (m_X11_theClauses_1 l dC dI hX aX kX hT hM fX_ready fX_sheet dX_sheet nX_sheet iX_sheetLength xX_reader xX_solver xX_prover xX_values xX_nets hC aC kC iC_clauses fC_wants fC_wantsNot fC_weight fC_broken fC_loss iC_musts b_fX_sheet (by first | exact b_nX_sheet | with_reducible assumption | exact ⟨by omega, by omega⟩ | assumption) (b_iX_sheetLength) (by first | with_reducible assumption | omega | assumption) (b_iC_clauses) s.heap.size) (cwV 0 hts gwsMX11_truth_1_0 rfl rfl rfl hd_yX11_theClauses_RX11 (by decide +kernel)) (fz_pre (va_recv hK hP (ci := 11) (q0 := 0) rfl rfl) hP hK hD) rfl rfl hl.1 rfl (lv_room (Nat.le_of_ble_eq_true rfl)) dX11_truth_46 (by decide +kernel)) hS (fun q _ h => hFc q h) hFc (fun u ra3 t9_ H locs ht hvm hw9 hB9 hz1 hk1 hS => ?_)
      revert hB9
      refine fz_a2 ?_
      intro hra hB9
      subst hra
      clear hw9
      have hP : va_P (dC, dI) vwCl (WX hX aX kX hT hM fX_ready fX_sheet dX_sheet nX_sheet iX_sheetLength xX_reader xX_solver xX_prover xX_values (.ref (hC 0)) xX_nets ++ (WC hC aC kC iC_clauses fC_wants fC_wantsNot fC_weight fC_broken fC_loss iC_musts)) H := fz_P ht hB9.1
      have hD : va_D A (WX hX aX kX hT hM fX_ready fX_sheet dX_sheet nX_sheet iX_sheetLength xX_reader xX_solver xX_prover xX_values (.ref (hC 0)) xX_nets ++ (WC hC aC kC iC_clauses fC_wants fC_wantsNot fC_weight fC_broken fC_loss iC_musts)) := hB9.2.weaken (fun _ q _ h => hFc q.1 h)
      refine lv_iconst (v := 0) hx hb dX11_truth_49 (by decide) ?_
      have hPc : va_P (dC, dI) vwCl (WC hC aC kC iC_clauses fC_wants fC_wantsNot fC_weight fC_broken fC_loss iC_musts) _ := hP.sub [3, 4, 5, 6, 7, 8] rfl
      have hDc : va_D _ (WC hC aC kC iC_clauses fC_wants fC_wantsNot fC_weight fC_broken fC_loss iC_musts) := hD.sub [3, 4, 5, 6, 7, 8] (by decide) rfl
      have hKc : va_K (dC, dI) vwCl (tC kC) _ := hK.sub [2, 3, 4, 5, 6] rfl
      have hFc := va_free (wc := WC hC aC kC iC_clauses fC_wants fC_wantsNot fC_weight fC_broken fC_loss iC_musts) hD hS hA [3, 4, 5, 6, 7, 8] rfl
      refine va_calli (va_runV (As := [.int 0]) (rest := []) ⟨hx, hb, hml, hown, hts⟩ (m_X0_least l dC dI hC aC kC iC_clauses fC_wants fC_wantsNot fC_weight fC_broken fC_loss iC_musts 0 (b_iC_clauses) (hCv) (hCI) H.size) (cwV 1 hts gwsMX11_truth_1_1 rfl rfl rfl hd_yX0_least_RX0 (by decide +kernel)) (fz_pre (va_recv hK hP (ci := 0) (q0 := 3) rfl rfl) hPc hKc hDc) rfl rfl hl.1 rfl (lv_room (Nat.le_of_ble_eq_true rfl)) dX11_truth_50 (by decide +kernel)) hS (fun q _ h => hFc q h) hFc (fun r4 u t9_ H locs ht hvm hw9 hB9 hz1 hk1 hS => ?_)
      have f4_0 := hw9
      try dsimp only at f4_0
      obtain ⟨hP, hD⟩ := va_join (wr := [(hX 0, .inr (11, [.ref (aX 0), .ref (hT 0), .ref (hM 0), .ref dX_sheet, .int iX_sheetLength, xX_reader, xX_solver, xX_prover, xX_values, (.ref (hC 0)), xX_nets])), (aX 0, .inl (kX 0, 5, .inl fX_ready)), (dX_sheet, .inl (kX 1, nX_sheet, .inl fX_sheet))]) (w1 := WC hC aC kC iC_clauses fC_wants fC_wantsNot fC_weight fC_broken fC_loss iC_musts) hP hD [3, 4, 5, 6, 7, 8] [0, 1, 2] rfl rfl (by decide) (by decide) hk1 hFc (fz_P ht hB9.1) hB9.2
      have hP : va_P (dC, dI) vwCl (WX hX aX kX hT hM fX_ready fX_sheet dX_sheet nX_sheet iX_sheetLength xX_reader xX_solver xX_prover xX_values (.ref (hC 0)) xX_nets ++ (WC hC aC kC iC_clauses fC_wants fC_wantsNot fC_weight fC_broken fC_loss iC_musts)) H := hP.sub [0, 1, 2, 3, 4, 5, 6, 7, 8] rfl
      have hD : va_D A (WX hX aX kX hT hM fX_ready fX_sheet dX_sheet nX_sheet iX_sheetLength xX_reader xX_solver xX_prover xX_values (.ref (hC 0)) xX_nets ++ (WC hC aC kC iC_clauses fC_wants fC_wantsNot fC_weight fC_broken fC_loss iC_musts)) := hD.sub [0, 1, 2, 3, 4, 5, 6, 7, 8] (by decide) rfl
      have hls := f4_0
      refine W.widen (k := 0) (n := 0) (by decide +kernel) (by decide +kernel) ?_
      exact W.iret (v := r4) hx hb hr (fun t9_ ht hW => ⟨⟨r4, (), rfl, (by (try dsimp only); exact Or.inr (Or.inl ⟨ts_1_1, hls.1 (by decide)⟩)), by rw [ht]; exact hP, hD⟩, hS.F ht⟩) hS.2.2 dX11_truth_53
    · have ts_1_1 : ¬ p1.toInt = 1 := toI_neq s_1_1 rfl (by decide)
      by_cases s_1_2 : p1 = 2
      · have ts_1_2 : p1.toInt = 2 := toI_eq s_1_2 rfl (by decide)
        refine lv_tableIn (off := 53) (tgt := 54) hx hb dX11_truth_1 (by rw [s_1_2]; decide) (by rw [s_1_2]; decide) (by rw [s_1_2]; decide) (by decide) ?_
        refine lv_aload_n hx hb dX11_truth_54 rfl (lv_at hl 0 rfl) ?_
        have hFc := allFree hD hS hA
        refine va_callr (va_runV (As := []) (rest := []) ⟨hx, hb, hml, hown, hts⟩ (m_X11_theClauses_1 l dC dI hX aX kX hT hM fX_ready fX_sheet dX_sheet nX_sheet iX_sheetLength xX_reader xX_solver xX_prover xX_values xX_nets hC aC kC iC_clauses fC_wants fC_wantsNot fC_weight fC_broken fC_loss iC_musts b_fX_sheet (by first | exact b_nX_sheet | with_reducible assumption | exact ⟨by omega, by omega⟩ | assumption) (b_iX_sheetLength) (by first | with_reducible assumption | omega | assumption) (b_iC_clauses) s.heap.size) (cwV 0 hts gwsMX11_truth_1_0 rfl rfl rfl hd_yX11_theClauses_RX11 (by decide +kernel)) (fz_pre (va_recv hK hP (ci := 11) (q0 := 0) rfl rfl) hP hK hD) rfl rfl hl.1 rfl (lv_room (Nat.le_of_ble_eq_true rfl)) dX11_truth_55 (by decide +kernel)) hS (fun q _ h => hFc q h) hFc (fun u ra5 t9_ H locs ht hvm hw9 hB9 hz1 hk1 hS => ?_)
        revert hB9
        refine fz_a2 ?_
        intro hra hB9
        subst hra
        clear hw9
        have hP : va_P (dC, dI) vwCl (WX hX aX kX hT hM fX_ready fX_sheet dX_sheet nX_sheet iX_sheetLength xX_reader xX_solver xX_prover xX_values (.ref (hC 0)) xX_nets ++ (WC hC aC kC iC_clauses fC_wants fC_wantsNot fC_weight fC_broken fC_loss iC_musts)) H := fz_P ht hB9.1
        have hD : va_D A (WX hX aX kX hT hM fX_ready fX_sheet dX_sheet nX_sheet iX_sheetLength xX_reader xX_solver xX_prover xX_values (.ref (hC 0)) xX_nets ++ (WC hC aC kC iC_clauses fC_wants fC_wantsNot fC_weight fC_broken fC_loss iC_musts)) := hB9.2.weaken (fun _ q _ h => hFc q.1 h)
        have hPc : va_P (dC, dI) vwCl (WC hC aC kC iC_clauses fC_wants fC_wantsNot fC_weight fC_broken fC_loss iC_musts) _ := hP.sub [3, 4, 5, 6, 7, 8] rfl
        have hDc : va_D _ (WC hC aC kC iC_clauses fC_wants fC_wantsNot fC_weight fC_broken fC_loss iC_musts) := hD.sub [3, 4, 5, 6, 7, 8] (by decide) rfl
        have hKc : va_K (dC, dI) vwCl (tC kC) _ := hK.sub [2, 3, 4, 5, 6] rfl
        have hFc := va_free (wc := WC hC aC kC iC_clauses fC_wants fC_wantsNot fC_weight fC_broken fC_loss iC_musts) hD hS hA [3, 4, 5, 6, 7, 8] rfl
        refine va_calli (va_runV (As := []) (rest := []) ⟨hx, hb, hml, hown, hts⟩ (m_X0_models l dC dI hC aC kC iC_clauses fC_wants fC_wantsNot fC_weight fC_broken fC_loss iC_musts (b_iC_clauses) (hCv) (hCI) H.size) (cwV 0 hts gwsMX11_truth_1_2 rfl rfl rfl hd_yX0_models_RX0 (by decide +kernel)) (fz_pre (va_recv hK hP (ci := 0) (q0 := 3) rfl rfl) hPc hKc hDc) rfl rfl hl.1 rfl (lv_room (Nat.le_of_ble_eq_true rfl)) dX11_truth_58 (by decide +kernel)) hS (fun q _ h => hFc q h) hFc (fun r6 u t9_ H locs ht hvm hw9 hB9 hz1 hk1 hS => ?_)
        have f6_0 := hw9
        try dsimp only at f6_0
        obtain ⟨hP, hD⟩ := va_join (wr := [(hX 0, .inr (11, [.ref (aX 0), .ref (hT 0), .ref (hM 0), .ref dX_sheet, .int iX_sheetLength, xX_reader, xX_solver, xX_prover, xX_values, (.ref (hC 0)), xX_nets])), (aX 0, .inl (kX 0, 5, .inl fX_ready)), (dX_sheet, .inl (kX 1, nX_sheet, .inl fX_sheet))]) (w1 := WC hC aC kC iC_clauses fC_wants fC_wantsNot fC_weight fC_broken fC_loss iC_musts) hP hD [3, 4, 5, 6, 7, 8] [0, 1, 2] rfl rfl (by decide) (by decide) hk1 hFc (fz_P ht hB9.1) hB9.2
        have hP : va_P (dC, dI) vwCl (WX hX aX kX hT hM fX_ready fX_sheet dX_sheet nX_sheet iX_sheetLength xX_reader xX_solver xX_prover xX_values (.ref (hC 0)) xX_nets ++ (WC hC aC kC iC_clauses fC_wants fC_wantsNot fC_weight fC_broken fC_loss iC_musts)) H := hP.sub [0, 1, 2, 3, 4, 5, 6, 7, 8] rfl
        have hD : va_D A (WX hX aX kX hT hM fX_ready fX_sheet dX_sheet nX_sheet iX_sheetLength xX_reader xX_solver xX_prover xX_values (.ref (hC 0)) xX_nets ++ (WC hC aC kC iC_clauses fC_wants fC_wantsNot fC_weight fC_broken fC_loss iC_musts)) := hD.sub [0, 1, 2, 3, 4, 5, 6, 7, 8] (by decide) rfl
        have hls := f6_0
        refine W.widen (k := 0) (n := 0) (by decide +kernel) (by decide +kernel) ?_
        exact W.iret (v := r6) hx hb hr (fun t9_ ht hW => ⟨⟨r6, (), rfl, (by (try dsimp only); exact Or.inr (Or.inr (Or.inl ⟨ts_1_2, hls⟩))), by rw [ht]; exact hP, hD⟩, hS.F ht⟩) hS.2.2 dX11_truth_61
      · have ts_1_2 : ¬ p1.toInt = 2 := toI_neq s_1_2 rfl (by decide)
        by_cases s_1_3 : p1 = 3
        · have ts_1_3 : p1.toInt = 3 := toI_eq s_1_3 rfl (by decide)
          refine lv_tableIn (off := 61) (tgt := 62) hx hb dX11_truth_1 (by rw [s_1_3]; decide) (by rw [s_1_3]; decide) (by rw [s_1_3]; decide) (by decide) ?_
          refine lv_aload_n hx hb dX11_truth_62 rfl (lv_at hl 0 rfl) ?_
          have hFc := allFree hD hS hA
          refine va_callr (va_runV (As := []) (rest := []) ⟨hx, hb, hml, hown, hts⟩ (m_X11_theClauses_1 l dC dI hX aX kX hT hM fX_ready fX_sheet dX_sheet nX_sheet iX_sheetLength xX_reader xX_solver xX_prover xX_values xX_nets hC aC kC iC_clauses fC_wants fC_wantsNot fC_weight fC_broken fC_loss iC_musts b_fX_sheet (by first | exact b_nX_sheet | with_reducible assumption | exact ⟨by omega, by omega⟩ | assumption) (b_iX_sheetLength) (by first | with_reducible assumption | omega | assumption) (b_iC_clauses) s.heap.size) (cwV 0 hts gwsMX11_truth_1_0 rfl rfl rfl hd_yX11_theClauses_RX11 (by decide +kernel)) (fz_pre (va_recv hK hP (ci := 11) (q0 := 0) rfl rfl) hP hK hD) rfl rfl hl.1 rfl (lv_room (Nat.le_of_ble_eq_true rfl)) dX11_truth_63 (by decide +kernel)) hS (fun q _ h => hFc q h) hFc (fun u ra7 t9_ H locs ht hvm hw9 hB9 hz1 hk1 hS => ?_)
          revert hB9
          refine fz_a2 ?_
          intro hra hB9
          subst hra
          clear hw9
          have hP : va_P (dC, dI) vwCl (WX hX aX kX hT hM fX_ready fX_sheet dX_sheet nX_sheet iX_sheetLength xX_reader xX_solver xX_prover xX_values (.ref (hC 0)) xX_nets ++ (WC hC aC kC iC_clauses fC_wants fC_wantsNot fC_weight fC_broken fC_loss iC_musts)) H := fz_P ht hB9.1
          have hD : va_D A (WX hX aX kX hT hM fX_ready fX_sheet dX_sheet nX_sheet iX_sheetLength xX_reader xX_solver xX_prover xX_values (.ref (hC 0)) xX_nets ++ (WC hC aC kC iC_clauses fC_wants fC_wantsNot fC_weight fC_broken fC_loss iC_musts)) := hB9.2.weaken (fun _ q _ h => hFc q.1 h)
          have hPc : va_P (dC, dI) vwCl (WC hC aC kC iC_clauses fC_wants fC_wantsNot fC_weight fC_broken fC_loss iC_musts) _ := hP.sub [3, 4, 5, 6, 7, 8] rfl
          have hDc : va_D _ (WC hC aC kC iC_clauses fC_wants fC_wantsNot fC_weight fC_broken fC_loss iC_musts) := hD.sub [3, 4, 5, 6, 7, 8] (by decide) rfl
          have hKc : va_K (dC, dI) vwCl (tC kC) _ := hK.sub [2, 3, 4, 5, 6] rfl
          have hFc := va_free (wc := WC hC aC kC iC_clauses fC_wants fC_wantsNot fC_weight fC_broken fC_loss iC_musts) hD hS hA [3, 4, 5, 6, 7, 8] rfl
          refine va_calli (va_runV (As := []) (rest := []) ⟨hx, hb, hml, hown, hts⟩ (m_X0_core l dC dI hC aC kC iC_clauses fC_wants fC_wantsNot fC_weight fC_broken fC_loss iC_musts (b_iC_clauses) (hCv) (hCI) H.size) (cwV 0 hts gwsMX11_truth_1_3 rfl rfl rfl hd_yX0_core_RX0 (by decide +kernel)) (fz_pre (va_recv hK hP (ci := 0) (q0 := 3) rfl rfl) hPc hKc hDc) rfl rfl hl.1 rfl (lv_room (Nat.le_of_ble_eq_true rfl)) dX11_truth_66 (by decide +kernel)) hS (fun q _ h => hFc q h) hFc (fun r8 u t9_ H locs ht hvm hw9 hB9 hz1 hk1 hS => ?_)
          have f8_0 := hw9
          try dsimp only at f8_0
          obtain ⟨hP, hD⟩ := va_join (wr := [(hX 0, .inr (11, [.ref (aX 0), .ref (hT 0), .ref (hM 0), .ref dX_sheet, .int iX_sheetLength, xX_reader, xX_solver, xX_prover, xX_values, (.ref (hC 0)), xX_nets])), (aX 0, .inl (kX 0, 5, .inl fX_ready)), (dX_sheet, .inl (kX 1, nX_sheet, .inl fX_sheet))]) (w1 := WC hC aC kC iC_clauses fC_wants fC_wantsNot fC_weight fC_broken fC_loss iC_musts) hP hD [3, 4, 5, 6, 7, 8] [0, 1, 2] rfl rfl (by decide) (by decide) hk1 hFc (fz_P ht hB9.1) hB9.2
          have hP : va_P (dC, dI) vwCl (WX hX aX kX hT hM fX_ready fX_sheet dX_sheet nX_sheet iX_sheetLength xX_reader xX_solver xX_prover xX_values (.ref (hC 0)) xX_nets ++ (WC hC aC kC iC_clauses fC_wants fC_wantsNot fC_weight fC_broken fC_loss iC_musts)) H := hP.sub [0, 1, 2, 3, 4, 5, 6, 7, 8] rfl
          have hD : va_D A (WX hX aX kX hT hM fX_ready fX_sheet dX_sheet nX_sheet iX_sheetLength xX_reader xX_solver xX_prover xX_values (.ref (hC 0)) xX_nets ++ (WC hC aC kC iC_clauses fC_wants fC_wantsNot fC_weight fC_broken fC_loss iC_musts)) := hD.sub [0, 1, 2, 3, 4, 5, 6, 7, 8] (by decide) rfl
          have hls := f8_0
          refine W.widen (k := 0) (n := 0) (by decide +kernel) (by decide +kernel) ?_
          exact W.iret (v := r8) hx hb hr (fun t9_ ht hW => ⟨⟨r8, (), rfl, (by (try dsimp only); exact Or.inr (Or.inr (Or.inr (Or.inl ⟨ts_1_3, hls⟩)))), by rw [ht]; exact hP, hD⟩, hS.F ht⟩) hS.2.2 dX11_truth_69
        · have ts_1_3 : ¬ p1.toInt = 3 := toI_neq s_1_3 rfl (by decide)
          by_cases s_1_4 : p1 = 4
          · have ts_1_4 : p1.toInt = 4 := toI_eq s_1_4 rfl (by decide)
            refine lv_tableIn (off := 69) (tgt := 70) hx hb dX11_truth_1 (by rw [s_1_4]; decide) (by rw [s_1_4]; decide) (by rw [s_1_4]; decide) (by decide) ?_
            refine lv_aload_n hx hb dX11_truth_70 rfl (lv_at hl 0 rfl) ?_
            have hFc := allFree hD hS hA
            refine va_callr (va_runV (As := []) (rest := []) ⟨hx, hb, hml, hown, hts⟩ (m_X11_theClauses_1 l dC dI hX aX kX hT hM fX_ready fX_sheet dX_sheet nX_sheet iX_sheetLength xX_reader xX_solver xX_prover xX_values xX_nets hC aC kC iC_clauses fC_wants fC_wantsNot fC_weight fC_broken fC_loss iC_musts b_fX_sheet (by first | exact b_nX_sheet | with_reducible assumption | exact ⟨by omega, by omega⟩ | assumption) (b_iX_sheetLength) (by first | with_reducible assumption | omega | assumption) (b_iC_clauses) s.heap.size) (cwV 0 hts gwsMX11_truth_1_0 rfl rfl rfl hd_yX11_theClauses_RX11 (by decide +kernel)) (fz_pre (va_recv hK hP (ci := 11) (q0 := 0) rfl rfl) hP hK hD) rfl rfl hl.1 rfl (lv_room (Nat.le_of_ble_eq_true rfl)) dX11_truth_71 (by decide +kernel)) hS (fun q _ h => hFc q h) hFc (fun u ra9 t9_ H locs ht hvm hw9 hB9 hz1 hk1 hS => ?_)
            revert hB9
            refine fz_a2 ?_
            intro hra hB9
            subst hra
            clear hw9
            have hP : va_P (dC, dI) vwCl (WX hX aX kX hT hM fX_ready fX_sheet dX_sheet nX_sheet iX_sheetLength xX_reader xX_solver xX_prover xX_values (.ref (hC 0)) xX_nets ++ (WC hC aC kC iC_clauses fC_wants fC_wantsNot fC_weight fC_broken fC_loss iC_musts)) H := fz_P ht hB9.1
            have hD : va_D A (WX hX aX kX hT hM fX_ready fX_sheet dX_sheet nX_sheet iX_sheetLength xX_reader xX_solver xX_prover xX_values (.ref (hC 0)) xX_nets ++ (WC hC aC kC iC_clauses fC_wants fC_wantsNot fC_weight fC_broken fC_loss iC_musts)) := hB9.2.weaken (fun _ q _ h => hFc q.1 h)
            refine va_get (D := (dC, dI)) (ci := 0) (v := .int iC_clauses) (C := RX0) (T := TX0) (N := 7) hx hb hts iwsMX11_truth_1_in0 hown hK hP 3 rfl rfl 0 (by decide) (hts (.fieldLink RX11 397 "OptimaWorks$ClauseDesk" "clauses" "I") (by decide +kernel)) (fun _ h9 => h9) rfl dX11_truth_74 ?_
            refine W.widen (k := 0) (n := 0) (by decide +kernel) (by decide +kernel) ?_
            exact W.iret (v := iC_clauses) hx hb hr (fun t9_ ht hW => ⟨⟨iC_clauses, (), rfl, (by (try dsimp only); exact Or.inr (Or.inr (Or.inr (Or.inr (Or.inl ⟨ts_1_4, rfl⟩))))), by rw [ht]; exact hP, hD⟩, hS.F ht⟩) hS.2.2 dX11_truth_77
          · have ts_1_4 : ¬ p1.toInt = 4 := toI_neq s_1_4 rfl (by decide)
            refine lv_tableOut (tgt := 78) hx hb dX11_truth_1 (by have := lv_neT s_1_0 (show Int32.toInt 0 = 0 by decide); have := lv_neT s_1_1 (show Int32.toInt 1 = 1 by decide); have := lv_neT s_1_2 (show Int32.toInt 2 = 2 by decide); have := lv_neT s_1_3 (show Int32.toInt 3 = 3 by decide); have := lv_neT s_1_4 (show Int32.toInt 4 = 4 by decide); omega) (by decide) ?_
            refine lv_iconst (v := (-1)) hx hb dX11_truth_78 (by decide) ?_
            refine W.widen (k := 0) (n := 0) (by decide +kernel) (by decide +kernel) ?_
            exact W.iret (v := (-1)) hx hb hr (fun t9_ ht hW => ⟨⟨((-1) : Int32), (), rfl, (by (try dsimp only); exact Or.inr (Or.inr (Or.inr (Or.inr (Or.inr ⟨by omega, rfl⟩))))), by rw [ht]; exact hP, hD⟩, hS.F ht⟩) hS.2.2 dX11_truth_79

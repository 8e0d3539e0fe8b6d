theorem dX11_theNets_7 : decode cX11_theNets 7 = .ok (.aload_n 0, 1) := dk_42 (by decide +kernel)
theorem dX11_theNets_8 : decode cX11_theNets 8 = .ok (.new 419, 3) := dk_187 (by decide +kernel)
theorem dX11_theNets_11 : decode cX11_theNets 11 = .ok (.dup, 1) := dk_89 (by decide +kernel)
theorem dX11_theNets_12 : decode cX11_theNets 12 = .ok (.invokespecial 421, 3) := dk_183 (by decide +kernel)
theorem dX11_theNets_15 : decode cX11_theNets 15 = .ok (.putfield 415, 3) := dk_181 (by decide +kernel)
def wsMX11_theNets_0 : List Cond := .code yX11_theNets cX11_theNets 1 (some (.object "OptimaWorks$NetDesk")) :: ([.fieldLink RX11 415 "OptimaWorks" "nets" "LOptimaWorks$NetDesk;", .classLink RX11 419 RX2, .instantiable RX2 14, .initialized RX2, .instanceMethod yX2_init] ++ wsX20 ++ wsX110 ++ (wsX2_init))
theorem iwsMX11_theNets_0_in2 : ∀ w ∈ wsX20, w ∈ wsMX11_theNets_0 := fun _ h => List.mem_cons_of_mem _ (List.mem_append_left _ (List.mem_append_left _ (List.mem_append_right _ h)))
theorem iwsMX11_theNets_0_in11 : ∀ w ∈ wsX110, w ∈ wsMX11_theNets_0 := fun _ h => List.mem_cons_of_mem _ (List.mem_append_left _ (List.mem_append_right _ h))
theorem gwsMX11_theNets_0_0 : GoodIn wsMX11_theNets_0 (wsX2_init) := goodIn_sub (fun _ h => List.mem_cons_of_mem _ (List.mem_append_right _ h)) (by decide +kernel)
theorem gdwsMX11_theNets_0 : wsMX11_theNets_0.all goodWord = true := gdC rfl (gdA (gdA (gdA (by decide +kernel : ([.fieldLink RX11 415 "OptimaWorks" "nets" "LOptimaWorks$NetDesk;", .classLink RX11 419 RX2, .instantiable RX2 14, .initialized RX2, .instanceMethod yX2_init] : List Cond).all goodWord = true) gdwsX20) gdwsX110) (by decide +kernel))
set_option maxHeartbeats 4000000 in
set_option maxRecDepth 100000 in
/-- the desk of nets is made -/
theorem m_X11_theNets_0 (l : Launch) (hst : l.stackTraces = false) (dC : Nat → ClassId) (dI : Nat → Nat → Nat) (hX : Nat → Nat) (aX : Nat → Nat) (kX : Nat → ClassId) (hT : Nat → Nat) (hM : Nat → Nat) (fX_ready : Nat → Int32) (fX_sheet : Nat → Int32) (dX_sheet : Nat) (nX_sheet : Nat) (iX_sheetLength : Int32) (xX_reader : Value) (xX_solver : Value) (xX_prover : Value) (xX_values : Value) (xX_clauses : Value) (kN : Nat → ClassId) (b_fX_sheet : ∀ q : Nat, (-128) ≤ (fX_sheet q).toInt ∧ (fX_sheet q).toInt ≤ 127) (b_nX_sheet : 64 ≤ nX_sheet ∧ nX_sheet ≤ 60000) (b_iX_sheetLength : 0 ≤ iX_sheetLength.toInt ∧ iX_sheetLength.toInt ≤ 30000) (b_shl : iX_sheetLength.toInt ≤ ((nX_sheet : Nat) : Int)) (sz : Nat) : Met l yX11_theNets wsMX11_theNets_0 ({ frames := 2, cells := 12, slots := 1478, locals := 32 }) (va_Pc [.ref (hX 0)] (fun U => U.heap.size = sz ∧ va_P (dC, dI) vwCl (WX hX aX kX hT hM fX_ready fX_sheet dX_sheet nX_sheet iX_sheetLength xX_reader xX_solver xX_prover xX_values xX_clauses .null) U.heap ∧ va_K (dC, dI) vwCl (tX kX ++ (tN kN)) U ∧ va_D (fun _ => True) (WX hX aX kX hT hM fX_ready fX_sheet dX_sheet nX_sheet iX_sheetLength xX_reader xX_solver xX_prover xX_values xX_clauses .null) ∧ CE (va_A (WX hX aX kX hT hM fX_ready fX_sheet dX_sheet nX_sheet iX_sheetLength xX_reader xX_solver xX_prover xX_values xX_clauses .null) sz) U U.heap)) (va_Qr (fun (u : (Nat → Nat) × (Nat → Nat)) => True) (fun (u : (Nat → Nat) × (Nat → Nat)) ra t => ra = ((u.1) 0) ∧ va_P (dC, dI) vwCl (WX hX aX kX hT hM fX_ready fX_sheet dX_sheet nX_sheet iX_sheetLength xX_reader xX_solver xX_prover xX_values xX_clauses (.ref ((u.1) 0)) ++ (WN (u.1) (u.2) kN 0 (fun _ => 0) (fun _ => 0) (fun _ => 0) (fun _ => 0) 0 (fun _ => 0) (fun _ => 0) (fun _ => 0) (fun _ => 0) (fun _ => 0) 0 (fun _ => 0) (fun _ => 0))) t.heap ∧ va_D (va_A (WX hX aX kX hT hM fX_ready fX_sheet dX_sheet nX_sheet iX_sheetLength xX_reader xX_solver xX_prover xX_values xX_clauses .null) sz) (WX hX aX kX hT hM fX_ready fX_sheet dX_sheet nX_sheet iX_sheetLength xX_reader xX_solver xX_prover xX_values xX_clauses (.ref ((u.1) 0)) ++ (WN (u.1) (u.2) kN 0 (fun _ => 0) (fun _ => 0) (fun _ => 0) (fun _ => 0) 0 (fun _ => 0) (fun _ => 0) (fun _ => 0) (fun _ => 0) (fun _ => 0) 0 (fun _ => 0) (fun _ => 0)))) (va_A (WX hX aX kX hT hM fX_ready fX_sheet dX_sheet nX_sheet iX_sheetLength xX_reader xX_solver xX_prover xX_values xX_clauses .null) sz)) 12 1478 (va_A (WX hX aX kX hT hM fX_ready fX_sheet dX_sheet nX_sheet iX_sheetLength xX_reader xX_solver xX_prover xX_values xX_clauses .null) sz) := by
  refine Met.ofW (cc := cX11_theNets) (maxL := 1) (ret := (some (.object "OptimaWorks$NetDesk"))) (by decide) rfl ?_
  intro p e s m args below meth c s₁ B hml hv
  obtain ⟨rfl, hsz, hP, hK, hD0, hE⟩ := hv
  have hx := B.exec
  have hb := B.bytes
  have hr := B.returns
  have hts := atoms_spec (ws := wsMX11_theNets_0) B.pre
  have hown : s.vm.findClass RX11 = some m.cls := findClass_of_methodNamed B.named
  have hlocks := B.notSynchronized
  subst hsz
  have hD := hD0.self (sz := s.heap.size)
  generalize hAe : va_A (WX hX aX kX hT hM fX_ready fX_sheet dX_sheet nX_sheet iX_sheetLength xX_reader xX_solver xX_prover xX_values xX_clauses .null) s.heap.size = A at hD hE ⊢
  have hA : ∀ q : Nat, s.heap.size ≤ q → A q := fun q h => by rw [← hAe]; exact Or.inr h
  have hS : va_S A s.heap s.heap [] := va_S.rf
  have hl := lv_entry ([.ref (hX 0)]) (n := 1) (Nat.le_of_ble_eq_true rfl)
  rw [lg_entry_eq]
  generalize (lg_sl ([.ref (hX 0)]) ++ List.replicate (1 - (lg_sl ([.ref (hX 0)])).length) Slot.unset).toArray = ls at hl ⊢
  have hl : lv_has ls 1 [(0, .ref (hX 0))] := hl
  refine lv_aload_n hx hb dX11_theNets_0 rfl (lv_at hl 0 rfl) ?_
  refine va_get (D := (dC, dI)) (ci := 11) (v := .null) (C := RX11) (T := TX11) (N := 11) hx hb hts iwsMX11_theNets_0_in11 hown hK hP 0 rfl rfl 10 (by decide) (hts (.fieldLink RX11 415 "OptimaWorks" "nets" "LOptimaWorks$NetDesk;") (by decide +kernel)) (fun _ h9 => h9) rfl dX11_theNets_1 ?_
  refine lv_ifnonnullN hx hb dX11_theNets_4 ?_
  refine lv_aload_n hx hb dX11_theNets_7 rfl (lv_at hl 0 rfl) ?_
  refine va_new (ci := 2) (fs := [.int 0, .null, .null, .null, .null, .int 0, .null, .null, .null, .null, .null, .int 0, .null, .null]) (C := RX2) (T := TX2) (N := 14) hx hb hts iwsMX11_theNets_0_in2 tyX2 tyX2_ok hown (hts (.classLink RX11 419 RX2) (by decide +kernel)) (hts (.instantiable RX2 14) (by decide +kernel)) (hts (.initialized RX2) (by decide +kernel)) hK hP hD hS hA rfl (by decide +kernel) (by decide +kernel) (by decide +kernel) dX11_theNets_8 (fun qo1 H hP hD hS => ?_)
  obtain ⟨hN, rfl⟩ : ∃ h9 : Nat → Nat, qo1 = h9 0 := ⟨fun _ => qo1, rfl⟩
  have hP : va_P (dC, dI) vwCl (WX hX aX kX hT hM fX_ready fX_sheet dX_sheet nX_sheet iX_sheetLength xX_reader xX_solver xX_prover xX_values xX_clauses .null ++ ([(hN 0, .inr (2, [.int 0, .null, .null, .null, .null, .int 0, .null, .null, .null, .null, .null, .int 0, .null, .null]))])) H := by first | exact hP | (simp only [List.append_assoc] at hP ⊢; exact hP)
  have hD : va_D A (WX hX aX kX hT hM fX_ready fX_sheet dX_sheet nX_sheet iX_sheetLength xX_reader xX_solver xX_prover xX_values xX_clauses .null ++ ([(hN 0, .inr (2, [.int 0, .null, .null, .null, .null, .int 0, .null, .null, .null, .null, .null, .int 0, .null, .null]))])) := by first | exact hD | (simp only [List.append_assoc] at hD ⊢; exact hD)
  refine W.widen (k := 1) (n := 14) (by decide +kernel) (by decide +kernel) ?_
  refine lv_dup hx hb dX11_theNets_11 rfl ?_
  have p9 : List.Perm (α := Nat × va_E) (WX hX aX kX hT hM fX_ready fX_sheet dX_sheet nX_sheet iX_sheetLength xX_reader xX_solver xX_prover xX_values xX_clauses .null ++ ([(hN 0, .inr (2, [.int 0, .null, .null, .null, .null, .int 0, .null, .null, .null, .null, .null, .int 0, .null, .null]))])) (([(hN 0, .inr (2, [.int 0, .null, .null, .null, .null, .int 0, .null, .null, .null, .null, .null, .int 0, .null, .null]))]) ++ (WX hX aX kX hT hM fX_ready fX_sheet dX_sheet nX_sheet iX_sheetLength xX_reader xX_solver xX_prover xX_values xX_clauses .null)) := (List.perm_append_comm)
  have hPc := hP.mem (fun q h => p9.mem_iff.mpr (List.mem_append_left _ h))
  have hDc := (hD.perm p9).left
  have hKc : va_K (dC, dI) vwCl (tN kN) _ := hK.sub [2, 3, 4, 5, 6, 7, 8, 9, 10, 11, 12] rfl
  have hFc := freeG p9 hD hS hA
  refine va_callv (va_runIN (As := []) (rest := [.ref (hN 0), .ref (hX 0)]) ⟨hx, hb, hml, hown, hts⟩ (k_X2_init l dC dI hN kN H.size) ⟨va_cnB 0 hts gwsMX11_theNets_0_0 rfl rfl rfl (hE.2.2.1.2.2.2.2.1 (.methodLinkNest RX11 421 yX2_init RX11) (by decide +kernel)) (hts (.initialized RX2) (by decide +kernel)) (by decide +kernel) ⟨by decide +kernel, by decide +kernel⟩, rfl, (hts (.instanceMethod yX2_init) (by decide +kernel))⟩ ⟨fun a U g mk q => by obtain ⟨q0, q1, qP, qK, qD⟩ := q; exact ⟨q0, q1, qP, va_K.moved (u := U) (U := U.calling g mk a) (Vm.Alike.refl U.vm) qK, qD⟩, fun U hU9 hW => ⟨rfl, by rw [hU9], by rw [hU9]; exact hPc, va_K.moved hW.alike hKc, hDc.weaken (fun _ _ _ _ => trivial)⟩⟩ rfl rfl hl.1 rfl (lv_room (Nat.le_of_ble_eq_true rfl)) dX11_theNets_12 (by decide +kernel)) hS (fun q _ h => hFc q h) hFc (fun u t9_ H1 locs ht hvm hw9 hB9 hz1 hk1 hS => ?_)
  obtain ⟨aN, hwu⟩ : ∃ w9, w9 = u := ⟨u, rfl⟩
  subst hwu
  clear hw9
  obtain ⟨hP1, hD1⟩ := hB9
  rw [ht] at hP1
  have p8 : List.Perm (α := Nat × va_E) (WX hX aX kX hT hM fX_ready fX_sheet dX_sheet nX_sheet iX_sheetLength xX_reader xX_solver xX_prover xX_values xX_clauses .null ++ (WN hN aN kN 0 (fun _ => 0) (fun _ => 0) (fun _ => 0) (fun _ => 0) 0 (fun _ => 0) (fun _ => 0) (fun _ => 0) (fun _ => 0) (fun _ => 0) 0 (fun _ => 0) (fun _ => 0))) ((WN hN aN kN 0 (fun _ => 0) (fun _ => 0) (fun _ => 0) (fun _ => 0) 0 (fun _ => 0) (fun _ => 0) (fun _ => 0) (fun _ => 0) (fun _ => 0) 0 (fun _ => 0) (fun _ => 0)) ++ (WX hX aX kX hT hM fX_ready fX_sheet dX_sheet nX_sheet iX_sheetLength xX_reader xX_solver xX_prover xX_values xX_clauses .null)) := (List.perm_append_comm)
  obtain ⟨hP, hD⟩ := frameG p9 p8 hP hD hk1 hFc hP1 hD1
  generalize H1 = H at hP hS ⊢
  clear p9 p8 hPc hDc hKc hFc
  have hP : va_P (dC, dI) vwCl (WX hX aX kX hT hM fX_ready fX_sheet dX_sheet nX_sheet iX_sheetLength xX_reader xX_solver xX_prover xX_values xX_clauses .null ++ (WN hN aN kN 0 (fun _ => 0) (fun _ => 0) (fun _ => 0) (fun _ => 0) 0 (fun _ => 0) (fun _ => 0) (fun _ => 0) (fun _ => 0) (fun _ => 0) 0 (fun _ => 0) (fun _ => 0))) H := hP
  have hD : va_D A (WX hX aX kX hT hM fX_ready fX_sheet dX_sheet nX_sheet iX_sheetLength xX_reader xX_solver xX_prover xX_values xX_clauses .null ++ (WN hN aN kN 0 (fun _ => 0) (fun _ => 0) (fun _ => 0) (fun _ => 0) 0 (fun _ => 0) (fun _ => 0) (fun _ => 0) (fun _ => 0) (fun _ => 0) 0 (fun _ => 0) (fun _ => 0))) := hD
  refine W.widen (k := 12) (n := 1478) (by decide +kernel) (by decide +kernel) ?_
  refine va_put (D := (dC, dI)) (ci := 11) (v := .ref (hN 0)) (ty := .object "OptimaWorks$NetDesk") (C := RX11) (T := TX11) (N := 11) hx hb hts iwsMX11_theNets_0_in11 tyX11 tyX11_ok nmX11 hown hK hP hD hS 0 rfl rfl 10 (by decide) (hts (.fieldLink RX11 415 "OptimaWorks" "nets" "LOptimaWorks$NetDesk;") (by decide +kernel)) (fun _ h9 => h9) rfl (by decide +kernel) rfl rfl (Nat.le_of_ble_eq_true rfl) dX11_theNets_15 (fun H locs hP hD hS => ?_)
  have hP : va_P (dC, dI) vwCl (WX hX aX kX hT hM fX_ready fX_sheet dX_sheet nX_sheet iX_sheetLength xX_reader xX_solver xX_prover xX_values xX_clauses (.ref (hN 0)) ++ (WN hN aN kN 0 (fun _ => 0) (fun _ => 0) (fun _ => 0) (fun _ => 0) 0 (fun _ => 0) (fun _ => 0) (fun _ => 0) (fun _ => 0) (fun _ => 0) 0 (fun _ => 0) (fun _ => 0))) H := hP
  have hD : va_D A (WX hX aX kX hT hM fX_ready fX_sheet dX_sheet nX_sheet iX_sheetLength xX_reader xX_solver xX_prover xX_values xX_clauses (.ref (hN 0)) ++ (WN hN aN kN 0 (fun _ => 0) (fun _ => 0) (fun _ => 0) (fun _ => 0) 0 (fun _ => 0) (fun _ => 0) (fun _ => 0) (fun _ => 0) (fun _ => 0) 0 (fun _ => 0) (fun _ => 0))) := hD
  refine lv_aload_n hx hb dX11_theNets_18 rfl (lv_at hl 0 rfl) ?_
  refine va_get (D := (dC, dI)) (ci := 11) (v := .ref (hN 0)) (C := RX11) (T := TX11) (N := 11) hx hb hts iwsMX11_theNets_0_in11 hown hK hP 0 rfl rfl 10 (by decide) (hts (.fieldLink RX11 415 "OptimaWorks" "nets" "LOptimaWorks$NetDesk;") (by decide +kernel)) (fun _ h9 => h9) rfl dX11_theNets_19 ?_
  refine W.widen (k := 12) (n := 1478) (by decide +kernel) (by decide +kernel) ?_
  exact W.aret hx hb hr (Or.inl ⟨_, rfl⟩) (Or.inr ⟨_, rfl⟩) (fun t9_ ht hW => ⟨⟨(hN, aN), _, rfl, trivial, rfl, by rw [ht]; exact hP, hD⟩, hS.F ht⟩) hS.2.2 dX11_theNets_22
theorem dX11_theClauses_7 : decode cX11_theClauses 7 = .ok (.aload_n 0, 1) := dk_42 (by decide +kernel)
theorem dX11_theClauses_8 : decode cX11_theClauses 8 = .ok (.new 390, 3) := dk_187 (by decide +kernel)
theorem dX11_theClauses_11 : decode cX11_theClauses 11 = .ok (.dup, 1) := dk_89 (by decide +kernel)
theorem dX11_theClauses_12 : decode cX11_theClauses 12 = .ok (.invokespecial 392, 3) := dk_183 (by decide +kernel)
theorem dX11_theClauses_15 : decode cX11_theClauses 15 = .ok (.putfield 386, 3) := dk_181 (by decide +kernel)
def wsMX11_theClauses_0 : List Cond := .code yX11_theClauses cX11_theClauses 1 (some (.object "OptimaWorks$ClauseDesk")) :: ([.fieldLink RX11 386 "OptimaWorks" "clauses" "LOptimaWorks$ClauseDesk;", .classLink RX11 390 RX0, .instantiable RX0 7, .initialized RX0, .instanceMethod yX0_init] ++ wsX00 ++ wsX110 ++ (wsX0_init))
theorem iwsMX11_theClauses_0_in0 : ∀ w ∈ wsX00, w ∈ wsMX11_theClauses_0 := fun _ h => List.mem_cons_of_mem _ (List.mem_append_left _ (List.mem_append_left _ (List.mem_append_right _ h)))
theorem iwsMX11_theClauses_0_in11 : ∀ w ∈ wsX110, w ∈ wsMX11_theClauses_0 := fun _ h => List.mem_cons_of_mem _ (List.mem_append_left _ (List.mem_append_right _ h))
theorem gwsMX11_theClauses_0_0 : GoodIn wsMX11_theClauses_0 (wsX0_init) := goodIn_sub (fun _ h => List.mem_cons_of_mem _ (List.mem_append_right _ h)) (by decide +kernel)
theorem gdwsMX11_theClauses_0 : wsMX11_theClauses_0.all goodWord = true := gdC rfl (gdA (gdA (gdA (by decide +kernel : ([.fieldLink RX11 386 "OptimaWorks" "clauses" "LOptimaWorks$ClauseDesk;", .classLink RX11 390 RX0, .instantiable RX0 7, .initialized RX0, .instanceMethod yX0_init] : List Cond).all goodWord = true) gdwsX00) gdwsX110) (by decide +kernel))
set_option maxHeartbeats 4000000 in
set_option maxRecDepth 100000 in
/-- the desk of clauses is made -/
theorem m_X11_theClauses_0 (l : Launch) (hst : l.stackTraces = false) (dC : Nat → ClassId) (dI : Nat → Nat → Nat) (hX : Nat → Nat) (aX : Nat → Nat) (kX : Nat → ClassId) (hT : Nat → Nat) (hM : Nat → Nat) (fX_ready : Nat → Int32) (fX_sheet : Nat → Int32) (dX_sheet : Nat) (nX_sheet : Nat) (iX_sheetLength : Int32) (xX_reader : Value) (xX_solver : Value) (xX_prover : Value) (xX_values : Value) (xX_nets : Value) (kC : Nat → ClassId) (b_fX_sheet : ∀ q : Nat, (-128) ≤ (fX_sheet q).toInt ∧ (fX_sheet q).toInt ≤ 127) (b_nX_sheet : 64 ≤ nX_sheet ∧ nX_sheet ≤ 60000) (b_iX_sheetLength : 0 ≤ iX_sheetLength.toInt ∧ iX_sheetLength.toInt ≤ 30000) (b_shl : iX_sheetLength.toInt ≤ ((nX_sheet : Nat) : Int)) (sz : Nat) : Met l yX11_theClauses wsMX11_theClauses_0 ({ frames := 2, cells := 6, slots := 8271, locals := 32 }) (va_Pc [.ref (hX 0)] (fun U => U.heap.size = sz ∧ va_P (dC, dI) vwCl (WX hX aX kX hT hM fX_ready fX_sheet dX_sheet nX_sheet iX_sheetLength xX_reader xX_solver xX_prover xX_values .null xX_nets) U.heap ∧ va_K (dC, dI) vwCl (tX kX ++ (tC kC)) U ∧ va_D (fun _ => True) (WX hX aX kX hT hM fX_ready fX_sheet dX_sheet nX_sheet iX_sheetLength xX_reader xX_solver xX_prover xX_values .null xX_nets) ∧ CE (va_A (WX hX aX kX hT hM fX_ready fX_sheet dX_sheet nX_sheet iX_sheetLength xX_reader xX_solver xX_prover xX_values .null xX_nets) sz) U U.heap)) (va_Qr (fun (u : (Nat → Nat) × (Nat → Nat)) => True) (fun (u : (Nat → Nat) × (Nat → Nat)) ra t => ra = ((u.1) 0) ∧ va_P (dC, dI) vwCl (WX hX aX kX hT hM fX_ready fX_sheet dX_sheet nX_sheet iX_sheetLength xX_reader xX_solver xX_prover xX_values (.ref ((u.1) 0)) xX_nets ++ (WC (u.1) (u.2) kC 0 (fun _ => 0) (fun _ => 0) (fun _ => 0) (fun _ => 0) (fun _ => 0) 0)) t.heap ∧ va_D (va_A (WX hX aX kX hT hM fX_ready fX_sheet dX_sheet nX_sheet iX_sheetLength xX_reader xX_solver xX_prover xX_values .null xX_nets) sz) (WX hX aX kX hT hM fX_ready fX_sheet dX_sheet nX_sheet iX_sheetLength xX_reader xX_solver xX_prover xX_values (.ref ((u.1) 0)) xX_nets ++ (WC (u.1) (u.2) kC 0 (fun _ => 0) (fun _ => 0) (fun _ => 0) (fun _ => 0) (fun _ => 0) 0))) (va_A (WX hX aX kX hT hM fX_ready fX_sheet dX_sheet nX_sheet iX_sheetLength xX_reader xX_solver xX_prover xX_values .null xX_nets) sz)) 6 8271 (va_A (WX hX aX kX hT hM fX_ready fX_sheet dX_sheet nX_sheet iX_sheetLength xX_reader xX_solver xX_prover xX_values .null xX_nets) sz) := by
  refine Met.ofW (cc := cX11_theClauses) (maxL := 1) (ret := (some (.object "OptimaWorks$ClauseDesk"))) (by decide) rfl ?_
  intro p e s m args below meth c s₁ B hml hv
  obtain ⟨rfl, hsz, hP, hK, hD0, hE⟩ := hv
  have hx := B.exec
  have hb := B.bytes
  have hr := B.returns
  have hts := atoms_spec (ws := wsMX11_theClauses_0) B.pre
  have hown : s.vm.findClass RX11 = some m.cls := findClass_of_methodNamed B.named
  have hlocks := B.notSynchronized
  subst hsz
  have hD := hD0.self (sz := s.heap.size)
  generalize hAe : va_A (WX hX aX kX hT hM fX_ready fX_sheet dX_sheet nX_sheet iX_sheetLength xX_reader xX_solver xX_prover xX_values .null xX_nets) s.heap.size = A at hD hE ⊢
  have hA : ∀ q : Nat, s.heap.size ≤ q → A q := fun q h => by rw [← hAe]; exact Or.inr h
  have hS : va_S A s.heap s.heap [] := va_S.rf
  have hl := lv_entry ([.ref (hX 0)]) (n := 1) (Nat.le_of_ble_eq_true rfl)
  rw [lg_entry_eq]
  generalize (lg_sl ([.ref (hX 0)]) ++ List.replicate (1 - (lg_sl ([.ref (hX 0)])).length) Slot.unset).toArray = ls at hl ⊢
  have hl : lv_has ls 1 [(0, .ref (hX 0))] := hl
  refine lv_aload_n hx hb dX11_theClauses_0 rfl (lv_at hl 0 rfl) ?_
  refine va_get (D := (dC, dI)) (ci := 11) (v := .null) (C := RX11) (T := TX11) (N := 11) hx hb hts iwsMX11_theClauses_0_in11 hown hK hP 0 rfl rfl 9 (by decide) (hts (.fieldLink RX11 386 "OptimaWorks" "clauses" "LOptimaWorks$ClauseDesk;") (by decide +kernel)) (fun _ h9 => h9) rfl dX11_theClauses_1 ?_
  refine lv_ifnonnullN hx hb dX11_theClauses_4 ?_
  refine lv_aload_n hx hb dX11_theClauses_7 rfl (lv_at hl 0 rfl) ?_
  refine va_new (ci := 0) (fs := [.int 0, .null, .null, .null, .null, .null, .int 0]) (C := RX0) (T := TX0) (N := 7) hx hb hts iwsMX11_theClauses_0_in0 tyX0 tyX0_ok hown (hts (.classLink RX11 390 RX0) (by decide +kernel)) (hts (.instantiable RX0 7) (by decide +kernel)) (hts (.initialized RX0) (by decide +kernel)) hK hP hD hS hA rfl (by decide +kernel) (by decide +kernel) (by decide +kernel) dX11_theClauses_8 (fun qo1 H hP hD hS => ?_)
  obtain ⟨hC, rfl⟩ : ∃ h9 : Nat → Nat, qo1 = h9 0 := ⟨fun _ => qo1, rfl⟩
  have hP : va_P (dC, dI) vwCl (WX hX aX kX hT hM fX_ready fX_sheet dX_sheet nX_sheet iX_sheetLength xX_reader xX_solver xX_prover xX_values .null xX_nets ++ ([(hC 0, .inr (0, [.int 0, .null, .null, .null, .null, .null, .int 0]))])) H := by first | exact hP | (simp only [List.append_assoc] at hP ⊢; exact hP)
  have hD : va_D A (WX hX aX kX hT hM fX_ready fX_sheet dX_sheet nX_sheet iX_sheetLength xX_reader xX_solver xX_prover xX_values .null xX_nets ++ ([(hC 0, .inr (0, [.int 0, .null, .null, .null, .null, .null, .int 0]))])) := by first | exact hD | (simp only [List.append_assoc] at hD ⊢; exact hD)
  refine W.widen (k := 1) (n := 7) (by decide +kernel) (by decide +kernel) ?_
  refine lv_dup hx hb dX11_theClauses_11 rfl ?_
  have p9 : List.Perm (α := Nat × va_E) (WX hX aX kX hT hM fX_ready fX_sheet dX_sheet nX_sheet iX_sheetLength xX_reader xX_solver xX_prover xX_values .null xX_nets ++ ([(hC 0, .inr (0, [.int 0, .null, .null, .null, .null, .null, .int 0]))])) (([(hC 0, .inr (0, [.int 0, .null, .null, .null, .null, .null, .int 0]))]) ++ (WX hX aX kX hT hM fX_ready fX_sheet dX_sheet nX_sheet iX_sheetLength xX_reader xX_solver xX_prover xX_values .null xX_nets)) := (List.perm_append_comm)
  have hPc := hP.mem (fun q h => p9.mem_iff.mpr (List.mem_append_left _ h))
  have hDc := (hD.perm p9).left
  have hKc : va_K (dC, dI) vwCl (tC kC) _ := hK.sub [2, 3, 4, 5, 6] rfl
  have hFc := freeG p9 hD hS hA
  refine va_callv (va_runIN (As := []) (rest := [.ref (hC 0), .ref (hX 0)]) ⟨hx, hb, hml, hown, hts⟩ (k_X0_init l dC dI hC kC H.size) ⟨va_cnB 0 hts gwsMX11_theClauses_0_0 rfl rfl rfl (hE.2.2.1.2.2.2.2.1 (.methodLinkNest RX11 392 yX0_init RX11) (by decide +kernel)) (hts (.initialized RX0) (by decide +kernel)) (by decide +kernel) ⟨by decide +kernel, by decide +kernel⟩, rfl, (hts (.instanceMethod yX0_init) (by decide +kernel))⟩ ⟨fun a U g mk q => by obtain ⟨q0, q1, qP, qK, qD⟩ := q; exact ⟨q0, q1, qP, va_K.moved (u := U) (U := U.calling g mk a) (Vm.Alike.refl U.vm) qK, qD⟩, fun U hU9 hW => ⟨rfl, by rw [hU9], by rw [hU9]; exact hPc, va_K.moved hW.alike hKc, hDc.weaken (fun _ _ _ _ => trivial)⟩⟩ rfl rfl hl.1 rfl (lv_room (Nat.le_of_ble_eq_true rfl)) dX11_theClauses_12 (by decide +kernel)) hS (fun q _ h => hFc q h) hFc (fun u t9_ H1 locs ht hvm hw9 hB9 hz1 hk1 hS => ?_)
  obtain ⟨aC, hwu⟩ : ∃ w9, w9 = u := ⟨u, rfl⟩
  subst hwu
  clear hw9
  obtain ⟨hP1, hD1⟩ := hB9
  rw [ht] at hP1
  have p8 : List.Perm (α := Nat × va_E) (WX hX aX kX hT hM fX_ready fX_sheet dX_sheet nX_sheet iX_sheetLength xX_reader xX_solver xX_prover xX_values .null xX_nets ++ (WC hC aC kC 0 (fun _ => 0) (fun _ => 0) (fun _ => 0) (fun _ => 0) (fun _ => 0) 0)) ((WC hC aC kC 0 (fun _ => 0) (fun _ => 0) (fun _ => 0) (fun _ => 0) (fun _ => 0) 0) ++ (WX hX aX kX hT hM fX_ready fX_sheet dX_sheet nX_sheet iX_sheetLength xX_reader xX_solver xX_prover xX_values .null xX_nets)) := (List.perm_append_comm)
  obtain ⟨hP, hD⟩ := frameG p9 p8 hP hD hk1 hFc hP1 hD1
  generalize H1 = H at hP hS ⊢
  clear p9 p8 hPc hDc hKc hFc
  have hP : va_P (dC, dI) vwCl (WX hX aX kX hT hM fX_ready fX_sheet dX_sheet nX_sheet iX_sheetLength xX_reader xX_solver xX_prover xX_values .null xX_nets ++ (WC hC aC kC 0 (fun _ => 0) (fun _ => 0) (fun _ => 0) (fun _ => 0) (fun _ => 0) 0)) H := hP
  have hD : va_D A (WX hX aX kX hT hM fX_ready fX_sheet dX_sheet nX_sheet iX_sheetLength xX_reader xX_solver xX_prover xX_values .null xX_nets ++ (WC hC aC kC 0 (fun _ => 0) (fun _ => 0) (fun _ => 0) (fun _ => 0) (fun _ => 0) 0)) := hD
  refine W.widen (k := 6) (n := 8271) (by decide +kernel) (by decide +kernel) ?_
  refine va_put (D := (dC, dI)) (ci := 11) (v := .ref (hC 0)) (ty := .object "OptimaWorks$ClauseDesk") (C := RX11) (T := TX11) (N := 11) hx hb hts iwsMX11_theClauses_0_in11 tyX11 tyX11_ok nmX11 hown hK hP hD hS 0 rfl rfl 9 (by decide) (hts (.fieldLink RX11 386 "OptimaWorks" "clauses" "LOptimaWorks$ClauseDesk;") (by decide +kernel)) (fun _ h9 => h9) rfl (by decide +kernel) rfl rfl (Nat.le_of_ble_eq_true rfl) dX11_theClauses_15 (fun H locs hP hD hS => ?_)
  have hP : va_P (dC, dI) vwCl (WX hX aX kX hT hM fX_ready fX_sheet dX_sheet nX_sheet iX_sheetLength xX_reader xX_solver xX_prover xX_values (.ref (hC 0)) xX_nets ++ (WC hC aC kC 0 (fun _ => 0) (fun _ => 0) (fun _ => 0) (fun _ => 0) (fun _ => 0) 0)) H := hP
  have hD : va_D A (WX hX aX kX hT hM fX_ready fX_sheet dX_sheet nX_sheet iX_sheetLength xX_reader xX_solver xX_prover xX_values (.ref (hC 0)) xX_nets ++ (WC hC aC kC 0 (fun _ => 0) (fun _ => 0) (fun _ => 0) (fun _ => 0) (fun _ => 0) 0)) := hD
  refine lv_aload_n hx hb dX11_theClauses_18 rfl (lv_at hl 0 rfl) ?_
  refine va_get (D := (dC, dI)) (ci := 11) (v := .ref (hC 0)) (C := RX11) (T := TX11) (N := 11) hx hb hts iwsMX11_theClauses_0_in11 hown hK hP 0 rfl rfl 9 (by decide) (hts (.fieldLink RX11 386 "OptimaWorks" "clauses" "LOptimaWorks$ClauseDesk;") (by decide +kernel)) (fun _ h9 => h9) rfl dX11_theClauses_19 ?_
  refine W.widen (k := 6) (n := 8271) (by decide +kernel) (by decide +kernel) ?_
  exact W.aret hx hb hr (Or.inl ⟨_, rfl⟩) (Or.inr ⟨_, rfl⟩) (fun t9_ ht hW => ⟨⟨(hC, aC), _, rfl, trivial, rfl, by rw [ht]; exact hP, hD⟩, hS.F ht⟩) hS.2.2 dX11_theClauses_22
theorem dX11_theValues_7 : decode cX11_theValues 7 = .ok (.aload_n 0, 1) := dk_42 (by decide +kernel)
theorem dX11_theValues_8 : decode cX11_theValues 8 = .ok (.new 341, 3) := dk_187 (by decide +kernel)
theorem dX11_theValues_11 : decode cX11_theValues 11 = .ok (.dup, 1) := dk_89 (by decide +kernel)
theorem dX11_theValues_12 : decode cX11_theValues 12 = .ok (.invokespecial 343, 3) := dk_183 (by decide +kernel)
theorem dX11_theValues_15 : decode cX11_theValues 15 = .ok (.putfield 337, 3) := dk_181 (by decide +kernel)
def wsMX11_theValues_0 : List Cond := .code yX11_theValues cX11_theValues 1 (some (.object "OptimaWorks$ValueDesk")) :: ([.fieldLink RX11 337 "OptimaWorks" "values" "LOptimaWorks$ValueDesk;", .classLink RX11 341 RX7, .instantiable RX7 20, .initialized RX7, .instanceMethod yX7_init] ++ wsX70 ++ wsX110 ++ (wsX7_init))
theorem iwsMX11_theValues_0_in7 : ∀ w ∈ wsX70, w ∈ wsMX11_theValues_0 := fun _ h => List.mem_cons_of_mem _ (List.mem_append_left _ (List.mem_append_left _ (List.mem_append_right _ h)))
theorem iwsMX11_theValues_0_in11 : ∀ w ∈ wsX110, w ∈ wsMX11_theValues_0 := fun _ h => List.mem_cons_of_mem _ (List.mem_append_left _ (List.mem_append_right _ h))
theorem gwsMX11_theValues_0_0 : GoodIn wsMX11_theValues_0 (wsX7_init) := goodIn_sub (fun _ h => List.mem_cons_of_mem _ (List.mem_append_right _ h)) (by decide +kernel)
theorem gdwsMX11_theValues_0 : wsMX11_theValues_0.all goodWord = true := gdC rfl (gdA (gdA (gdA (by decide +kernel : ([.fieldLink RX11 337 "OptimaWorks" "values" "LOptimaWorks$ValueDesk;", .classLink RX11 341 RX7, .instantiable RX7 20, .initialized RX7, .instanceMethod yX7_init] : List Cond).all goodWord = true) gdwsX70) gdwsX110) (by decide +kernel))
set_option maxHeartbeats 4000000 in
set_option maxRecDepth 100000 in
/-- the desk of values is made -/
theorem m_X11_theValues_0 (l : Launch) (hst : l.stackTraces = false) (dC : Nat → ClassId) (dI : Nat → Nat → Nat) (hX : Nat → Nat) (aX : Nat → Nat) (kX : Nat → ClassId) (hT : Nat → Nat) (hM : Nat → Nat) (fX_ready : Nat → Int32) (fX_sheet : Nat → Int32) (dX_sheet : Nat) (nX_sheet : Nat) (iX_sheetLength : Int32) (xX_reader : Value) (xX_solver : Value) (xX_prover : Value) (xX_clauses : Value) (xX_nets : Value) (kV : Nat → ClassId) (b_fX_sheet : ∀ q : Nat, (-128) ≤ (fX_sheet q).toInt ∧ (fX_sheet q).toInt ≤ 127) (b_nX_sheet : 64 ≤ nX_sheet ∧ nX_sheet ≤ 60000) (b_iX_sheetLength : 0 ≤ iX_sheetLength.toInt ∧ iX_sheetLength.toInt ≤ 30000) (b_shl : iX_sheetLength.toInt ≤ ((nX_sheet : Nat) : Int)) (sz : Nat) : Met l yX11_theValues wsMX11_theValues_0 ({ frames := 2, cells := 15, slots := 1408, locals := 32 }) (va_Pc [.ref (hX 0)] (fun U => U.heap.size = sz ∧ va_P (dC, dI) vwCl (WX hX aX kX hT hM fX_ready fX_sheet dX_sheet nX_sheet iX_sheetLength xX_reader xX_solver xX_prover .null xX_clauses xX_nets) U.heap ∧ va_K (dC, dI) vwCl (tX kX ++ (tV kV)) U ∧ va_D (fun _ => True) (WX hX aX kX hT hM fX_ready fX_sheet dX_sheet nX_sheet iX_sheetLength xX_reader xX_solver xX_prover .null xX_clauses xX_nets) ∧ CE (va_A (WX hX aX kX hT hM fX_ready fX_sheet dX_sheet nX_sheet iX_sheetLength xX_reader xX_solver xX_prover .null xX_clauses xX_nets) sz) U U.heap)) (va_Qr (fun (u : (Nat → Nat) × (Nat → Nat)) => True) (fun (u : (Nat → Nat) × (Nat → Nat)) ra t => ra = ((u.1) 0) ∧ va_P (dC, dI) vwCl (WX hX aX kX hT hM fX_ready fX_sheet dX_sheet nX_sheet iX_sheetLength xX_reader xX_solver xX_prover (.ref ((u.1) 0)) xX_clauses xX_nets ++ (WV (u.1) (u.2) kV 0 0 (fun _ => 0) (fun _ => 0) (fun _ => 0) (fun _ => 0) (fun _ => 0) (fun _ => 0) (fun _ => 0) (fun _ => 0) (fun _ => 0) (-1) 0 (fun _ => 0) (fun _ => 0) (fun _ => 0) (fun _ => 0) (fun _ => 0) ((u.2) 13) 0 0 0)) t.heap ∧ va_D (va_A (WX hX aX kX hT hM fX_ready fX_sheet dX_sheet nX_sheet iX_sheetLength xX_reader xX_solver xX_prover .null xX_clauses xX_nets) sz) (WX hX aX kX hT hM fX_ready fX_sheet dX_sheet nX_sheet iX_sheetLength xX_reader xX_solver xX_prover (.ref ((u.1) 0)) xX_clauses xX_nets ++ (WV (u.1) (u.2) kV 0 0 (fun _ => 0) (fun _ => 0) (fun _ => 0) (fun _ => 0) (fun _ => 0) (fun _ => 0) (fun _ => 0) (fun _ => 0) (fun _ => 0) (-1) 0 (fun _ => 0) (fun _ => 0) (fun _ => 0) (fun _ => 0) (fun _ => 0) ((u.2) 13) 0 0 0))) (va_A (WX hX aX kX hT hM fX_ready fX_sheet dX_sheet nX_sheet iX_sheetLength xX_reader xX_solver xX_prover .null xX_clauses xX_nets) sz)) 15 1408 (va_A (WX hX aX kX hT hM fX_ready fX_sheet dX_sheet nX_sheet iX_sheetLength xX_reader xX_solver xX_prover .null xX_clauses xX_nets) sz) := by
  refine Met.ofW (cc := cX11_theValues) (maxL := 1) (ret := (some (.object "OptimaWorks$ValueDesk"))) (by decide) rfl ?_
  intro p e s m args below meth c s₁ B hml hv
  obtain ⟨rfl, hsz, hP, hK, hD0, hE⟩ := hv
  have hx := B.exec
  have hb := B.bytes
  have hr := B.returns
  have hts := atoms_spec (ws := wsMX11_theValues_0) B.pre
  have hown : s.vm.findClass RX11 = some m.cls := findClass_of_methodNamed B.named
  have hlocks := B.notSynchronized
  subst hsz
  have hD := hD0.self (sz := s.heap.size)
  generalize hAe : va_A (WX hX aX kX hT hM fX_ready fX_sheet dX_sheet nX_sheet iX_sheetLength xX_reader xX_solver xX_prover .null xX_clauses xX_nets) s.heap.size = A at hD hE ⊢
  have hA : ∀ q : Nat, s.heap.size ≤ q → A q := fun q h => by rw [← hAe]; exact Or.inr h
  have hS : va_S A s.heap s.heap [] := va_S.rf
  have hl := lv_entry ([.ref (hX 0)]) (n := 1) (Nat.le_of_ble_eq_true rfl)
  rw [lg_entry_eq]
  generalize (lg_sl ([.ref (hX 0)]) ++ List.replicate (1 - (lg_sl ([.ref (hX 0)])).length) Slot.unset).toArray = ls at hl ⊢
  have hl : lv_has ls 1 [(0, .ref (hX 0))] := hl
  refine lv_aload_n hx hb dX11_theValues_0 rfl (lv_at hl 0 rfl) ?_
  refine va_get (D := (dC, dI)) (ci := 11) (v := .null) (C := RX11) (T := TX11) (N := 11) hx hb hts iwsMX11_theValues_0_in11 hown hK hP 0 rfl rfl 8 (by decide) (hts (.fieldLink RX11 337 "OptimaWorks" "values" "LOptimaWorks$ValueDesk;") (by decide +kernel)) (fun _ h9 => h9) rfl dX11_theValues_1 ?_
  refine lv_ifnonnullN hx hb dX11_theValues_4 ?_
  refine lv_aload_n hx hb dX11_theValues_7 rfl (lv_at hl 0 rfl) ?_
  refine va_new (ci := 7) (fs := [.int 0, .int 0, .null, .null, .null, .null, .null, .null, .null, .null, .null, .int 0, .int 0, .null, .null, .null, .null, .null, .int 0, .int 0]) (C := RX7) (T := TX7) (N := 20) hx hb hts iwsMX11_theValues_0_in7 tyX7 tyX7_ok hown (hts (.classLink RX11 341 RX7) (by decide +kernel)) (hts (.instantiable RX7 20) (by decide +kernel)) (hts (.initialized RX7) (by decide +kernel)) hK hP hD hS hA rfl (by decide +kernel) (by decide +kernel) (by decide +kernel) dX11_theValues_8 (fun qo1 H hP hD hS => ?_)
  obtain ⟨hV, rfl⟩ : ∃ h9 : Nat → Nat, qo1 = h9 0 := ⟨fun _ => qo1, rfl⟩
  have hP : va_P (dC, dI) vwCl (WX hX aX kX hT hM fX_ready fX_sheet dX_sheet nX_sheet iX_sheetLength xX_reader xX_solver xX_prover .null xX_clauses xX_nets ++ ([(hV 0, .inr (7, [.int 0, .int 0, .null, .null, .null, .null, .null, .null, .null, .null, .null, .int 0, .int 0, .null, .null, .null, .null, .null, .int 0, .int 0]))])) H := by first | exact hP | (simp only [List.append_assoc] at hP ⊢; exact hP)
  have hD : va_D A (WX hX aX kX hT hM fX_ready fX_sheet dX_sheet nX_sheet iX_sheetLength xX_reader xX_solver xX_prover .null xX_clauses xX_nets ++ ([(hV 0, .inr (7, [.int 0, .int 0, .null, .null, .null, .null, .null, .null, .null, .null, .null, .int 0, .int 0, .null, .null, .null, .null, .null, .int 0, .int 0]))])) := by first | exact hD | (simp only [List.append_assoc] at hD ⊢; exact hD)
  refine W.widen (k := 1) (n := 20) (by decide +kernel) (by decide +kernel) ?_
  refine lv_dup hx hb dX11_theValues_11 rfl ?_
  have p9 : List.Perm (α := Nat × va_E) (WX hX aX kX hT hM fX_ready fX_sheet dX_sheet nX_sheet iX_sheetLength xX_reader xX_solver xX_prover .null xX_clauses xX_nets ++ ([(hV 0, .inr (7, [.int 0, .int 0, .null, .null, .null, .null, .null, .null, .null, .null, .null, .int 0, .int 0, .null, .null, .null, .null, .null, .int 0, .int 0]))])) (([(hV 0, .inr (7, [.int 0, .int 0, .null, .null, .null, .null, .null, .null, .null, .null, .null, .int 0, .int 0, .null, .null, .null, .null, .null, .int 0, .int 0]))]) ++ (WX hX aX kX hT hM fX_ready fX_sheet dX_sheet nX_sheet iX_sheetLength xX_reader xX_solver xX_prover .null xX_clauses xX_nets)) := (List.perm_append_comm)
  have hPc := hP.mem (fun q h => p9.mem_iff.mpr (List.mem_append_left _ h))
  have hDc := (hD.perm p9).left
  have hKc : va_K (dC, dI) vwCl (tV kV) _ := hK.sub [2, 3, 4, 5, 6, 7, 8, 9, 10, 11, 12, 13, 14, 15] rfl
  have hFc := freeG p9 hD hS hA
  refine va_callv (va_runIN (As := []) (rest := [.ref (hV 0), .ref (hX 0)]) ⟨hx, hb, hml, hown, hts⟩ (k_X7_init l dC dI hV kV H.size) ⟨va_cnB 0 hts gwsMX11_theValues_0_0 rfl rfl rfl (hE.2.2.1.2.2.2.2.1 (.methodLinkNest RX11 343 yX7_init RX11) (by decide +kernel)) (hts (.initialized RX7) (by decide +kernel)) (by decide +kernel) ⟨by decide +kernel, by decide +kernel⟩, rfl, (hts (.instanceMethod yX7_init) (by decide +kernel))⟩ ⟨fun a U g mk q => by obtain ⟨q0, q1, qP, qK, qD⟩ := q; exact ⟨q0, q1, qP, va_K.moved (u := U) (U := U.calling g mk a) (Vm.Alike.refl U.vm) qK, qD⟩, fun U hU9 hW => ⟨rfl, by rw [hU9], by rw [hU9]; exact hPc, va_K.moved hW.alike hKc, hDc.weaken (fun _ _ _ _ => trivial)⟩⟩ rfl rfl hl.1 rfl (lv_room (Nat.le_of_ble_eq_true rfl)) dX11_theValues_12 (by decide +kernel)) hS (fun q _ h => hFc q h) hFc (fun u t9_ H1 locs ht hvm hw9 hB9 hz1 hk1 hS => ?_)
  obtain ⟨aV, hwu⟩ : ∃ w9, w9 = u := ⟨u, rfl⟩
  subst hwu
  clear hw9
  obtain ⟨hP1, hD1⟩ := hB9
  rw [ht] at hP1
  have p8 : List.Perm (α := Nat × va_E) (WX hX aX kX hT hM fX_ready fX_sheet dX_sheet nX_sheet iX_sheetLength xX_reader xX_solver xX_prover .null xX_clauses xX_nets ++ (WV hV aV kV 0 0 (fun _ => 0) (fun _ => 0) (fun _ => 0) (fun _ => 0) (fun _ => 0) (fun _ => 0) (fun _ => 0) (fun _ => 0) (fun _ => 0) (-1) 0 (fun _ => 0) (fun _ => 0) (fun _ => 0) (fun _ => 0) (fun _ => 0) (aV 13) 0 0 0)) ((WV hV aV kV 0 0 (fun _ => 0) (fun _ => 0) (fun _ => 0) (fun _ => 0) (fun _ => 0) (fun _ => 0) (fun _ => 0) (fun _ => 0) (fun _ => 0) (-1) 0 (fun _ => 0) (fun _ => 0) (fun _ => 0) (fun _ => 0) (fun _ => 0) (aV 13) 0 0 0) ++ (WX hX aX kX hT hM fX_ready fX_sheet dX_sheet nX_sheet iX_sheetLength xX_reader xX_solver xX_prover .null xX_clauses xX_nets)) := (List.perm_append_comm)
  obtain ⟨hP, hD⟩ := frameG p9 p8 hP hD hk1 hFc hP1 hD1
  generalize H1 = H at hP hS ⊢
  clear p9 p8 hPc hDc hKc hFc
  have hP : va_P (dC, dI) vwCl (WX hX aX kX hT hM fX_ready fX_sheet dX_sheet nX_sheet iX_sheetLength xX_reader xX_solver xX_prover .null xX_clauses xX_nets ++ (WV hV aV kV 0 0 (fun _ => 0) (fun _ => 0) (fun _ => 0) (fun _ => 0) (fun _ => 0) (fun _ => 0) (fun _ => 0) (fun _ => 0) (fun _ => 0) (-1) 0 (fun _ => 0) (fun _ => 0) (fun _ => 0) (fun _ => 0) (fun _ => 0) (aV 13) 0 0 0)) H := hP
  have hD : va_D A (WX hX aX kX hT hM fX_ready fX_sheet dX_sheet nX_sheet iX_sheetLength xX_reader xX_solver xX_prover .null xX_clauses xX_nets ++ (WV hV aV kV 0 0 (fun _ => 0) (fun _ => 0) (fun _ => 0) (fun _ => 0) (fun _ => 0) (fun _ => 0) (fun _ => 0) (fun _ => 0) (fun _ => 0) (-1) 0 (fun _ => 0) (fun _ => 0) (fun _ => 0) (fun _ => 0) (fun _ => 0) (aV 13) 0 0 0)) := hD
  refine W.widen (k := 15) (n := 1408) (by decide +kernel) (by decide +kernel) ?_
  refine va_put (D := (dC, dI)) (ci := 11) (v := .ref (hV 0)) (ty := .object "OptimaWorks$ValueDesk") (C := RX11) (T := TX11) (N := 11) hx hb hts iwsMX11_theValues_0_in11 tyX11 tyX11_ok nmX11 hown hK hP hD hS 0 rfl rfl 8 (by decide) (hts (.fieldLink RX11 337 "OptimaWorks" "values" "LOptimaWorks$ValueDesk;") (by decide +kernel)) (fun _ h9 => h9) rfl (by decide +kernel) rfl rfl (Nat.le_of_ble_eq_true rfl) dX11_theValues_15 (fun H locs hP hD hS => ?_)
  have hP : va_P (dC, dI) vwCl (WX hX aX kX hT hM fX_ready fX_sheet dX_sheet nX_sheet iX_sheetLength xX_reader xX_solver xX_prover (.ref (hV 0)) xX_clauses xX_nets ++ (WV hV aV kV 0 0 (fun _ => 0) (fun _ => 0) (fun _ => 0) (fun _ => 0) (fun _ => 0) (fun _ => 0) (fun _ => 0) (fun _ => 0) (fun _ => 0) (-1) 0 (fun _ => 0) (fun _ => 0) (fun _ => 0) (fun _ => 0) (fun _ => 0) (aV 13) 0 0 0)) H := hP
  have hD : va_D A (WX hX aX kX hT hM fX_ready fX_sheet dX_sheet nX_sheet iX_sheetLength xX_reader xX_solver xX_prover (.ref (hV 0)) xX_clauses xX_nets ++ (WV hV aV kV 0 0 (fun _ => 0) (fun _ => 0) (fun _ => 0) (fun _ => 0) (fun _ => 0) (fun _ => 0) (fun _ => 0) (fun _ => 0) (fun _ => 0) (-1) 0 (fun _ => 0) (fun _ => 0) (fun _ => 0) (fun _ => 0) (fun _ => 0) (aV 13) 0 0 0)) := hD
  refine lv_aload_n hx hb dX11_theValues_18 rfl (lv_at hl 0 rfl) ?_
  refine va_get (D := (dC, dI)) (ci := 11) (v := .ref (hV 0)) (C := RX11) (T := TX11) (N := 11) hx hb hts iwsMX11_theValues_0_in11 hown hK hP 0 rfl rfl 8 (by decide) (hts (.fieldLink RX11 337 "OptimaWorks" "values" "LOptimaWorks$ValueDesk;") (by decide +kernel)) (fun _ h9 => h9) rfl dX11_theValues_19 ?_
  refine W.widen (k := 15) (n := 1408) (by decide +kernel) (by decide +kernel) ?_
  exact W.aret hx hb hr (Or.inl ⟨_, rfl⟩) (Or.inr ⟨_, rfl⟩) (fun t9_ ht hW => ⟨⟨(hV, aV), _, rfl, trivial, rfl, by rw [ht]; exact hP, hD⟩, hS.F ht⟩) hS.2.2 dX11_theValues_22
def wsMX11_arc_0 : List Cond := .code yX11_arc cX11_arc 6 (some .int) :: ([.classLink RX11 77 "java/lang/IllegalArgumentException", .initialized "java/lang/IllegalArgumentException", .fieldLink RX11 429 "OptimaWorks$NetDesk" "arcs" "I", .fieldLink RX11 415 "OptimaWorks" "nets" "LOptimaWorks$NetDesk;"] ++ wsX20 ++ wsX110 ++ (va_wsS RX11 422 yX11_isNode wsMX11_isNode) ++ ((vx_at0 RX11 79 "java/lang/IllegalArgumentException" ["java/lang/RuntimeException", "java/lang/Exception"]).filter goodWord) ++ (wsV RX11 425 RX11 yX11_theNets wsMX11_theNets_0) ++ (wsV RX11 432 RX2 yX2_addArc wsMX2_addArc))
theorem iwsMX11_arc_0_in2 : ∀ w ∈ wsX20, w ∈ wsMX11_arc_0 := fun _ h => List.mem_cons_of_mem _ (List.mem_append_left _ (List.mem_append_left _ (List.mem_append_left _ (List.mem_append_left _ (List.mem_append_left _ (List.mem_append_right _ h))))))
theorem iwsMX11_arc_0_in11 : ∀ w ∈ wsX110, w ∈ wsMX11_arc_0 := fun _ h => List.mem_cons_of_mem _ (List.mem_append_left _ (List.mem_append_left _ (List.mem_append_left _ (List.mem_append_left _ (List.mem_append_right _ h)))))
theorem gwsMX11_arc_0_0 : GoodIn wsMX11_arc_0 (va_wsS RX11 422 yX11_isNode wsMX11_isNode) := goodIn_sub (fun _ h => List.mem_cons_of_mem _ (List.mem_append_left _ (List.mem_append_left _ (List.mem_append_left _ (List.mem_append_right _ h))))) (gdS (by decide +kernel) gdwsMX11_isNode)
theorem gwsMX11_arc_0_2 : GoodIn wsMX11_arc_0 (wsV RX11 425 RX11 yX11_theNets wsMX11_theNets_0) := goodIn_sub (fun _ h => List.mem_cons_of_mem _ (List.mem_append_left _ (List.mem_append_right _ h))) (gdV (by decide +kernel) gdwsMX11_theNets_0)
theorem gwsMX11_arc_0_3 : GoodIn wsMX11_arc_0 (wsV RX11 432 RX2 yX2_addArc wsMX2_addArc) := goodIn_sub (fun _ h => List.mem_cons_of_mem _ (List.mem_append_right _ h)) (gdV (by decide +kernel) gdwsMX2_addArc)
theorem gdwsMX11_arc_0 : wsMX11_arc_0.all goodWord = true := gdC rfl (gdA (gdA (gdA (gdA (gdA (gdA (by decide +kernel : ([.classLink RX11 77 "java/lang/IllegalArgumentException", .initialized "java/lang/IllegalArgumentException", .fieldLink RX11 429 "OptimaWorks$NetDesk" "arcs" "I", .fieldLink RX11 415 "OptimaWorks" "nets" "LOptimaWorks$NetDesk;"] : List Cond).all goodWord = true) gdwsX20) gdwsX110) (gdS (by decide +kernel) gdwsMX11_isNode)) (gdF _)) (gdV (by decide +kernel) gdwsMX11_theNets_0)) (gdV (by decide +kernel) gdwsMX2_addArc))
set_option maxHeartbeats 4000000 in
set_option maxRecDepth 100000 in
/-- an arc -/
theorem m_X11_arc_0 (l : Launch) (hst : l.stackTraces = false) (dC : Nat → ClassId) (dI : Nat → Nat → Nat) (hX : Nat → Nat) (aX : Nat → Nat) (kX : Nat → ClassId) (hT : Nat → Nat) (hM : Nat → Nat) (fX_ready : Nat → Int32) (fX_sheet : Nat → Int32) (dX_sheet : Nat) (nX_sheet : Nat) (iX_sheetLength : Int32) (xX_reader : Value) (xX_solver : Value) (xX_prover : Value) (xX_values : Value) (xX_clauses : Value) (kN : Nat → ClassId) (p1 : Int32) (p2 : Int32) (p3 : Int32) (p4 : Int32) (b_fX_sheet : ∀ q : Nat, (-128) ≤ (fX_sheet q).toInt ∧ (fX_sheet q).toInt ≤ 127) (b_nX_sheet : 64 ≤ nX_sheet ∧ nX_sheet ≤ 60000) (b_iX_sheetLength : 0 ≤ iX_sheetLength.toInt ∧ iX_sheetLength.toInt ≤ 30000) (b_shl : iX_sheetLength.toInt ≤ ((nX_sheet : Nat) : Int)) (sz : Nat) : vx_Met l yX11_arc wsMX11_arc_0 ({ frames := 6, cells := 13, slots := 1484, locals := 81 }) (va_Pc [.ref (hX 0), .int p1, .int p2, .int p3, .int p4] (fun U => U.heap.size = sz ∧ va_P (dC, dI) vwCl (WX hX aX kX hT hM fX_ready fX_sheet dX_sheet nX_sheet iX_sheetLength xX_reader xX_solver xX_prover xX_values xX_clauses .null) U.heap ∧ va_K (dC, dI) vwCl (tX kX ++ (tN kN)) U ∧ va_D (fun _ => True) (WX hX aX kX hT hM fX_ready fX_sheet dX_sheet nX_sheet iX_sheetLength xX_reader xX_solver xX_prover xX_values xX_clauses .null) ∧ CE (va_A (WX hX aX kX hT hM fX_ready fX_sheet dX_sheet nX_sheet iX_sheetLength xX_reader xX_solver xX_prover xX_values xX_clauses .null) sz) U U.heap)) (va_Qi (fun (r : Int32) (u : (Value) × (va_W)) => (r.toInt = 0) ∧ ((0 ≤ p1.toInt ∧ p1.toInt ≤ 11 ∧ 0 ≤ p2.toInt ∧ p2.toInt ≤ 11 ∧ p1.toInt ≠ p2.toInt ∧ 0 ≤ p3.toInt ∧ p3.toInt ≤ 1000 ∧ 0 ≤ p4.toInt ∧ p4.toInt ≤ 1000)) ∧ (NetO kN (ntAdd ntZ p1 p2 p3 p4) (u.1) (u.2))) (fun (u : (Value) × (va_W)) t => va_P (dC, dI) vwCl (WX hX aX kX hT hM fX_ready fX_sheet dX_sheet nX_sheet iX_sheetLength xX_reader xX_solver xX_prover xX_values xX_clauses (u.1) ++ ((u.2))) t.heap ∧ va_D (va_A (WX hX aX kX hT hM fX_ready fX_sheet dX_sheet nX_sheet iX_sheetLength xX_reader xX_solver xX_prover xX_values xX_clauses .null) sz) (WX hX aX kX hT hM fX_ready fX_sheet dX_sheet nX_sheet iX_sheetLength xX_reader xX_solver xX_prover xX_values xX_clauses (u.1) ++ ((u.2)))) (va_A (WX hX aX kX hT hM fX_ready fX_sheet dX_sheet nX_sheet iX_sheetLength xX_reader xX_solver xX_prover xX_values xX_clauses .null) sz)) (vx_X (fun (u : (Value) × (va_W)) => (NetO kN ntZ (u.1) (u.2))) (fun E (u : (Value) × (va_W)) t => ((E = "java/lang/IllegalArgumentException" ∧ (¬ (0 ≤ p1.toInt ∧ p1.toInt ≤ 11 ∧ 0 ≤ p2.toInt ∧ p2.toInt ≤ 11 ∧ p1.toInt ≠ p2.toInt ∧ 0 ≤ p3.toInt ∧ p3.toInt ≤ 1000 ∧ 0 ≤ p4.toInt ∧ p4.toInt ≤ 1000)))) ∧ va_P (dC, dI) vwCl (WX hX aX kX hT hM fX_ready fX_sheet dX_sheet nX_sheet iX_sheetLength xX_reader xX_solver xX_prover xX_values xX_clauses (u.1) ++ ((u.2))) t.heap ∧ va_D (va_A (WX hX aX kX hT hM fX_ready fX_sheet dX_sheet nX_sheet iX_sheetLength xX_reader xX_solver xX_prover xX_values xX_clauses .null) sz) (WX hX aX kX hT hM fX_ready fX_sheet dX_sheet nX_sheet iX_sheetLength xX_reader xX_solver xX_prover xX_values xX_clauses (u.1) ++ ((u.2)))) (va_A (WX hX aX kX hT hM fX_ready fX_sheet dX_sheet nX_sheet iX_sheetLength xX_reader xX_solver xX_prover xX_values xX_clauses .null) sz)) 13 1484 (va_A (WX hX aX kX hT hM fX_ready fX_sheet dX_sheet nX_sheet iX_sheetLength xX_reader xX_solver xX_prover xX_values xX_clauses .null) sz) := by
  refine vx_ofW (cc := cX11_arc) (maxL := 6) (ret := (some .int)) (by decide) rfl ?_
  intro p e s m args below meth c s₁ B hml htab hv
  obtain ⟨rfl, hsz, hP, hK, hD0, hE⟩ := hv
  have hx := B.exec
  have hb := B.bytes
  have hr := B.returns
  have hts := atoms_spec (ws := wsMX11_arc_0) B.pre
  have hown : s.vm.findClass RX11 = some m.cls := findClass_of_methodNamed B.named
  have hlocks := B.notSynchronized
  subst hsz
  have hD := hD0.self (sz := s.heap.size)
  generalize hAe : va_A (WX hX aX kX hT hM fX_ready fX_sheet dX_sheet nX_sheet iX_sheetLength xX_reader xX_solver xX_prover xX_values xX_clauses .null) s.heap.size = A at hD hE ⊢
  have hA : ∀ q : Nat, s.heap.size ≤ q → A q := fun q h => by rw [← hAe]; exact Or.inr h
  have hS : va_S A s.heap s.heap [] := va_S.rf
  have hl := lv_entry ([.ref (hX 0), .int p1, .int p2, .int p3, .int p4]) (n := 6) (Nat.le_of_ble_eq_true rfl)
  rw [lg_entry_eq]
  generalize (lg_sl ([.ref (hX 0), .int p1, .int p2, .int p3, .int p4]) ++ List.replicate (6 - (lg_sl ([.ref (hX 0), .int p1, .int p2, .int p3, .int p4])).length) Slot.unset).toArray = ls at hl ⊢
  have hl : lv_has ls 6 [(0, .ref (hX 0)), (1, .int p1), (2, .int p2), (3, .int p3), (4, .int p4)] := hl
  refine lv_iload_n hx hb dX11_arc_0 rfl (lv_at hl 3 rfl) ?_
  refine W.cut (pc := 29) (fun H locs ls stk => ∃ (k0_j2 : Int32), (0 ≤ k0_j2.toInt ∧ k0_j2.toInt ≤ 1) ∧ ((k0_j2.toInt = 1 ∧ (0 ≤ p3.toInt ∧ p3.toInt ≤ 1000 ∧ 0 ≤ p4.toInt ∧ p4.toInt ≤ 1000)) ∨ (k0_j2.toInt = 0 ∧ ¬ (0 ≤ p3.toInt ∧ p3.toInt ≤ 1000 ∧ 0 ≤ p4.toInt ∧ p4.toInt ≤ 1000))) ∧  stk = [.int k0_j2] ∧ va_P (dC, dI) vwCl (WX hX aX kX hT hM fX_ready fX_sheet dX_sheet nX_sheet iX_sheetLength xX_reader xX_solver xX_prover xX_values xX_clauses .null) H ∧ va_D A (WX hX aX kX hT hM fX_ready fX_sheet dX_sheet nX_sheet iX_sheetLength xX_reader xX_solver xX_prover xX_values xX_clauses .null) ∧ va_S A s.heap H locs ∧ lv_has ls 6 [(0, .ref (hX 0)), (1, .int p1), (2, .int p2), (3, .int p3), (4, .int p4)]) (fun join2 => ?_) ?_
  · refine lv_if_lt (tgt := 28) hx hb dX11_arc_1 (by decide) (fun c_1 => ?_) (fun c_1 => ?_)
    · have t_1 : p3.toInt < 0 := toI_lt c_1 rfl (by decide : (0 : Int32).toInt = 0)
      refine lv_iconst (v := 0) hx hb dX11_arc_28 (by decide) ?_
      have hl : lv_has _ _ ([(0, .ref (hX 0)), (1, .int p1), (2, .int p2), (3, .int p3), (4, .int p4)]) := lv_sub hl [0, 1, 2, 3, 4] rfl
      exact join2 _ _ _ _ ⟨0, (show 0 ≤ (0 : Int32).toInt ∧ (0 : Int32).toInt ≤ 1 from by decide), (show ((0 : Int32).toInt = 1 ∧ (0 ≤ p3.toInt ∧ p3.toInt ≤ 1000 ∧ 0 ≤ p4.toInt ∧ p4.toInt ≤ 1000)) ∨ ((0 : Int32).toInt = 0 ∧ ¬ (0 ≤ p3.toInt ∧ p3.toInt ≤ 1000 ∧ 0 ≤ p4.toInt ∧ p4.toInt ≤ 1000)) from by first | exact Or.inl ⟨by decide, by omega⟩ | exact Or.inr ⟨by decide, by omega⟩), rfl, hP, hD, hS, hl⟩
    · have t_1 : ¬ p3.toInt < 0 := toI_nlt c_1 rfl (by decide : (0 : Int32).toInt = 0)
      refine lv_iload_n hx hb dX11_arc_4 rfl (lv_at hl 3 rfl) ?_
      refine lv_sipush (v := 1000) hx hb dX11_arc_5 (by decide) ?_
      refine lv_icmp_gt (tgt := 28) hx hb dX11_arc_8 (by decide) (fun c_8 => ?_) (fun c_8 => ?_)
      · have t_8 : p3.toInt > 1000 := toI_gt c_8 rfl (by decide : (1000 : Int32).toInt = 1000)
        refine lv_iconst (v := 0) hx hb dX11_arc_28 (by decide) ?_
        have hl : lv_has _ _ ([(0, .ref (hX 0)), (1, .int p1), (2, .int p2), (3, .int p3), (4, .int p4)]) := lv_sub hl [0, 1, 2, 3, 4] rfl
        exact join2 _ _ _ _ ⟨0, (show 0 ≤ (0 : Int32).toInt ∧ (0 : Int32).toInt ≤ 1 from by decide), (show ((0 : Int32).toInt = 1 ∧ (0 ≤ p3.toInt ∧ p3.toInt ≤ 1000 ∧ 0 ≤ p4.toInt ∧ p4.toInt ≤ 1000)) ∨ ((0 : Int32).toInt = 0 ∧ ¬ (0 ≤ p3.toInt ∧ p3.toInt ≤ 1000 ∧ 0 ≤ p4.toInt ∧ p4.toInt ≤ 1000)) from by first | exact Or.inl ⟨by decide, by omega⟩ | exact Or.inr ⟨by decide, by omega⟩), rfl, hP, hD, hS, hl⟩
      · have t_8 : ¬ p3.toInt > 1000 := toI_ngt c_8 rfl (by decide : (1000 : Int32).toInt = 1000)
        refine lv_iload hx hb dX11_arc_11 (lv_at hl 4 rfl) ?_
        refine lv_if_lt (tgt := 28) hx hb dX11_arc_13 (by decide) (fun c_13 => ?_) (fun c_13 => ?_)
        · have t_13 : p4.toInt < 0 := toI_lt c_13 rfl (by decide : (0 : Int32).toInt = 0)
          refine lv_iconst (v := 0) hx hb dX11_arc_28 (by decide) ?_
          have hl : lv_has _ _ ([(0, .ref (hX 0)), (1, .int p1), (2, .int p2), (3, .int p3), (4, .int p4)]) := lv_sub hl [0, 1, 2, 3, 4] rfl
          exact join2 _ _ _ _ ⟨0, (show 0 ≤ (0 : Int32).toInt ∧ (0 : Int32).toInt ≤ 1 from by decide), (show ((0 : Int32).toInt = 1 ∧ (0 ≤ p3.toInt ∧ p3.toInt ≤ 1000 ∧ 0 ≤ p4.toInt ∧ p4.toInt ≤ 1000)) ∨ ((0 : Int32).toInt = 0 ∧ ¬ (0 ≤ p3.toInt ∧ p3.toInt ≤ 1000 ∧ 0 ≤ p4.toInt ∧ p4.toInt ≤ 1000)) from by first | exact Or.inl ⟨by decide, by omega⟩ | exact Or.inr ⟨by decide, by omega⟩), rfl, hP, hD, hS, hl⟩
        · have t_13 : ¬ p4.toInt < 0 := toI_nlt c_13 rfl (by decide : (0 : Int32).toInt = 0)
          refine lv_iload hx hb dX11_arc_16 (lv_at hl 4 rfl) ?_
          refine lv_sipush (v := 1000) hx hb dX11_arc_18 (by decide) ?_
          refine lv_icmp_gt (tgt := 28) hx hb dX11_arc_21 (by decide) (fun c_21 => ?_) (fun c_21 => ?_)
          · have t_21 : p4.toInt > 1000 := toI_gt c_21 rfl (by decide : (1000 : Int32).toInt = 1000)
            refine lv_iconst (v := 0) hx hb dX11_arc_28 (by decide) ?_
            have hl : lv_has _ _ ([(0, .ref (hX 0)), (1, .int p1), (2, .int p2), (3, .int p3), (4, .int p4)]) := lv_sub hl [0, 1, 2, 3, 4] rfl
            exact join2 _ _ _ _ ⟨0, (show 0 ≤ (0 : Int32).toInt ∧ (0 : Int32).toInt ≤ 1 from by decide), (show ((0 : Int32).toInt = 1 ∧ (0 ≤ p3.toInt ∧ p3.toInt ≤ 1000 ∧ 0 ≤ p4.toInt ∧ p4.toInt ≤ 1000)) ∨ ((0 : Int32).toInt = 0 ∧ ¬ (0 ≤ p3.toInt ∧ p3.toInt ≤ 1000 ∧ 0 ≤ p4.toInt ∧ p4.toInt ≤ 1000)) from by first | exact Or.inl ⟨by decide, by omega⟩ | exact Or.inr ⟨by decide, by omega⟩), rfl, hP, hD, hS, hl⟩
          · have t_21 : ¬ p4.toInt > 1000 := toI_ngt c_21 rfl (by decide : (1000 : Int32).toInt = 1000)
            refine lv_iconst (v := 1) hx hb dX11_arc_24 (by decide) ?_
            refine lv_goto (tgt := 29) hx hb dX11_arc_25 (by decide) ?_
            have hl : lv_has _ _ ([(0, .ref (hX 0)), (1, .int p1), (2, .int p2), (3, .int p3), (4, .int p4)]) := lv_sub hl [0, 1, 2, 3, 4] rfl
            exact join2 _ _ _ _ ⟨1, (show 0 ≤ (1 : Int32).toInt ∧ (1 : Int32).toInt ≤ 1 from by decide), (show ((1 : Int32).toInt = 1 ∧ (0 ≤ p3.toInt ∧ p3.toInt ≤ 1000 ∧ 0 ≤ p4.toInt ∧ p4.toInt ≤ 1000)) ∨ ((1 : Int32).toInt = 0 ∧ ¬ (0 ≤ p3.toInt ∧ p3.toInt ≤ 1000 ∧ 0 ≤ p4.toInt ∧ p4.toInt ≤ 1000)) from by first | exact Or.inl ⟨by decide, by omega⟩ | exact Or.inr ⟨by decide, by omega⟩), rfl, hP, hD, hS, hl⟩
  · rintro H locs ls stk ⟨k0_j2, b_k0_j2, hlen, rfl, hP, hD, hS, hl⟩
    refine lv_istore hx hb dX11_arc_29 hl (by decide) rfl (fun ls (hl : lv_has ls _ ([(5, .int k0_j2), (0, .ref (hX 0)), (1, .int p1), (2, .int p2), (3, .int p3), (4, .int p4)])) => ?_)
    refine lv_iload_n hx hb dX11_arc_31 rfl (lv_at hl 2 rfl) ?_
    have hFc := noneFree hS hA
    refine va_calli (va_runS (As := [.int p1]) (rest := []) ⟨hx, hb, hml, hown, hts⟩ (m_X11_isNode l dC dI p1 H.size) (va_cwS 1 hts gwsMX11_arc_0_0 rfl rfl rfl (by decide +kernel) ⟨by decide +kernel, by decide +kernel⟩) ⟨fun a U g mk q => by obtain ⟨q0, q1, qP, qK, qD⟩ := q; exact ⟨q0, q1, qP, va_K.moved (u := U) (U := U.calling g mk a) (Vm.Alike.refl U.vm) qK, qD⟩, fun U hU9 hW => ⟨rfl, by rw [hU9], by rw [hU9]; exact nilP, va_K.moved hW.alike (hK.sub (tys' := []) [] rfl), nilD⟩⟩ rfl rfl hl.1 rfl (lv_room (Nat.le_of_ble_eq_true rfl)) dX11_arc_32 (by decide +kernel)) hS (fun q _ h => hFc q h) hFc (fun r1 u t9_ H1 locs ht hvm hw9 hB9 hz1 hk1 hS => ?_)
    obtain ⟨b_r1, f1_0, f1_1⟩ := hw9
    clear hB9
    have hP := keepAll hP hk1
    generalize H1 = H at hP hS ⊢
    have hP : va_P (dC, dI) vwCl (WX hX aX kX hT hM fX_ready fX_sheet dX_sheet nX_sheet iX_sheetLength xX_reader xX_solver xX_prover xX_values xX_clauses .null) H := hP
    have hD : va_D A (WX hX aX kX hT hM fX_ready fX_sheet dX_sheet nX_sheet iX_sheetLength xX_reader xX_solver xX_prover xX_values xX_clauses .null) := hD
    have hn1 := f1_0
    have hy1 := f1_1
    refine lv_if_eq (tgt := 55) hx hb dX11_arc_35 (by decide) (fun c_35 => ?_) (fun c_35 => ?_)
    · have t_35 : r1.toInt = 0 := toI_eq c_35 rfl (by decide : (0 : Int32).toInt = 0)
      exact vx_throw0 (own := RX11) (cls := "java/lang/IllegalArgumentException") (names := ["java/lang/RuntimeException", "java/lang/Exception"]) (ik := 77) (ic := 79) (A := A) hx hb hst hown (by decide +kernel) (by decide +kernel) (hts (.classLink RX11 77 "java/lang/IllegalArgumentException") (by decide +kernel)) (hts (.initialized "java/lang/IllegalArgumentException") (by decide +kernel)) (vx_hat (B := ngX11_79) (fun w h => hts w (List.mem_cons_of_mem _ (List.mem_append_left _ (List.mem_append_left _ (List.mem_append_right _ h))))) (fun _ h => h) (fun w h => va_Nw.use (ngX11_79_ot w h) (hE.2.2.1.2.2.1 w h))) (by decide +kernel) hE.2.1.1 hE.2.1.2 hS (by rw [hml]; exact hl.1) dX11_arc_55 dX11_arc_58 dX11_arc_59 dX11_arc_62 (fun x hx9 => (htab x hx9).elim) (by decide +kernel) (Nat.le_of_ble_eq_true rfl) (by decide +kernel) (by decide +kernel) hlocks (fun t hvm hz hk => ⟨(.null, ([])), (by (try dsimp only); exact Or.inl ⟨rfl, rfl, rfl⟩), ⟨⟨rfl, by omega⟩, by first | exact hP.kept (fun k q h => hk q.1 ((hP k q h).lt)) | (simp only [List.append_nil]; exact hP.kept (fun k q h => hk q.1 ((hP k q h).lt))), by first | exact hD | (simp only [List.append_nil]; exact hD)⟩, ⟨Nat.le_trans hS.1 hz, fun q h1 h2 => (hk q (Nat.lt_of_lt_of_le h1 hS.1)).trans (hS.2.1 q h1 h2)⟩⟩) hS.2.2 (by decide +kernel) (by decide +kernel)
    · have t_35 : ¬ r1.toInt = 0 := toI_neq c_35 rfl (by decide : (0 : Int32).toInt = 0)
      refine lv_iload_n hx hb dX11_arc_38 rfl (lv_at hl 3 rfl) ?_
      have hFc := noneFree hS hA
      refine va_calli (va_runS (As := [.int p2]) (rest := []) ⟨hx, hb, hml, hown, hts⟩ (m_X11_isNode l dC dI p2 H.size) (va_cwS 1 hts gwsMX11_arc_0_0 rfl rfl rfl (by decide +kernel) ⟨by decide +kernel, by decide +kernel⟩) ⟨fun a U g mk q => by obtain ⟨q0, q1, qP, qK, qD⟩ := q; exact ⟨q0, q1, qP, va_K.moved (u := U) (U := U.calling g mk a) (Vm.Alike.refl U.vm) qK, qD⟩, fun U hU9 hW => ⟨rfl, by rw [hU9], by rw [hU9]; exact nilP, va_K.moved hW.alike (hK.sub (tys' := []) [] rfl), nilD⟩⟩ rfl rfl hl.1 rfl (lv_room (Nat.le_of_ble_eq_true rfl)) dX11_arc_39 (by decide +kernel)) hS (fun q _ h => hFc q h) hFc (fun r2 u t9_ H1 locs ht hvm hw9 hB9 hz1 hk1 hS => ?_)
      obtain ⟨b_r2, f2_0, f2_1⟩ := hw9
      clear hB9
      have hP := keepAll hP hk1
      generalize H1 = H at hP hS ⊢
      have hP : va_P (dC, dI) vwCl (WX hX aX kX hT hM fX_ready fX_sheet dX_sheet nX_sheet iX_sheetLength xX_reader xX_solver xX_prover xX_values xX_clauses .null) H := hP
      have hD : va_D A (WX hX aX kX hT hM fX_ready fX_sheet dX_sheet nX_sheet iX_sheetLength xX_reader xX_solver xX_prover xX_values xX_clauses .null) := hD
      have hn2 := f2_0
      have hy2 := f2_1
      refine lv_if_eq (tgt := 55) hx hb dX11_arc_42 (by decide) (fun c_42 => ?_) (fun c_42 => ?_)
      · have t_42 : r2.toInt = 0 := toI_eq c_42 rfl (by decide : (0 : Int32).toInt = 0)
        exact vx_throw0 (own := RX11) (cls := "java/lang/IllegalArgumentException") (names := ["java/lang/RuntimeException", "java/lang/Exception"]) (ik := 77) (ic := 79) (A := A) hx hb hst hown (by decide +kernel) (by decide +kernel) (hts (.classLink RX11 77 "java/lang/IllegalArgumentException") (by decide +kernel)) (hts (.initialized "java/lang/IllegalArgumentException") (by decide +kernel)) (vx_hat (B := ngX11_79) (fun w h => hts w (List.mem_cons_of_mem _ (List.mem_append_left _ (List.mem_append_left _ (List.mem_append_right _ h))))) (fun _ h => h) (fun w h => va_Nw.use (ngX11_79_ot w h) (hE.2.2.1.2.2.1 w h))) (by decide +kernel) hE.2.1.1 hE.2.1.2 hS (by rw [hml]; exact hl.1) dX11_arc_55 dX11_arc_58 dX11_arc_59 dX11_arc_62 (fun x hx9 => (htab x hx9).elim) (by decide +kernel) (Nat.le_of_ble_eq_true rfl) (by decide +kernel) (by decide +kernel) hlocks (fun t hvm hz hk => ⟨(.null, ([])), (by (try dsimp only); exact Or.inl ⟨rfl, rfl, rfl⟩), ⟨⟨rfl, by omega⟩, by first | exact hP.kept (fun k q h => hk q.1 ((hP k q h).lt)) | (simp only [List.append_nil]; exact hP.kept (fun k q h => hk q.1 ((hP k q h).lt))), by first | exact hD | (simp only [List.append_nil]; exact hD)⟩, ⟨Nat.le_trans hS.1 hz, fun q h1 h2 => (hk q (Nat.lt_of_lt_of_le h1 hS.1)).trans (hS.2.1 q h1 h2)⟩⟩) hS.2.2 (by decide +kernel) (by decide +kernel)
      · have t_42 : ¬ r2.toInt = 0 := toI_neq c_42 rfl (by decide : (0 : Int32).toInt = 0)
        refine lv_iload hx hb dX11_arc_45 (lv_at hl 0 rfl) ?_
        refine lv_if_eq (tgt := 55) hx hb dX11_arc_47 (by decide) (fun c_47 => ?_) (fun c_47 => ?_)
        · have t_47 : k0_j2.toInt = 0 := toI_eq c_47 rfl (by decide : (0 : Int32).toInt = 0)
          exact vx_throw0 (own := RX11) (cls := "java/lang/IllegalArgumentException") (names := ["java/lang/RuntimeException", "java/lang/Exception"]) (ik := 77) (ic := 79) (A := A) hx hb hst hown (by decide +kernel) (by decide +kernel) (hts (.classLink RX11 77 "java/lang/IllegalArgumentException") (by decide +kernel)) (hts (.initialized "java/lang/IllegalArgumentException") (by decide +kernel)) (vx_hat (B := ngX11_79) (fun w h => hts w (List.mem_cons_of_mem _ (List.mem_append_left _ (List.mem_append_left _ (List.mem_append_right _ h))))) (fun _ h => h) (fun w h => va_Nw.use (ngX11_79_ot w h) (hE.2.2.1.2.2.1 w h))) (by decide +kernel) hE.2.1.1 hE.2.1.2 hS (by rw [hml]; exact hl.1) dX11_arc_55 dX11_arc_58 dX11_arc_59 dX11_arc_62 (fun x hx9 => (htab x hx9).elim) (by decide +kernel) (Nat.le_of_ble_eq_true rfl) (by decide +kernel) (by decide +kernel) hlocks (fun t hvm hz hk => ⟨(.null, ([])), (by (try dsimp only); exact Or.inl ⟨rfl, rfl, rfl⟩), ⟨⟨rfl, by omega⟩, by first | exact hP.kept (fun k q h => hk q.1 ((hP k q h).lt)) | (simp only [List.append_nil]; exact hP.kept (fun k q h => hk q.1 ((hP k q h).lt))), by first | exact hD | (simp only [List.append_nil]; exact hD)⟩, ⟨Nat.le_trans hS.1 hz, fun q h1 h2 => (hk q (Nat.lt_of_lt_of_le h1 hS.1)).trans (hS.2.1 q h1 h2)⟩⟩) hS.2.2 (by decide +kernel) (by decide +kernel)
        · have t_47 : ¬ k0_j2.toInt = 0 := toI_neq c_47 rfl (by decide : (0 : Int32).toInt = 0)
          refine lv_iload_n hx hb dX11_arc_50 rfl (lv_at hl 2 rfl) ?_
          refine lv_iload_n hx hb dX11_arc_51 rfl (lv_at hl 3 rfl) ?_
          refine lv_icmp_ne (tgt := 63) hx hb dX11_arc_52 (by decide) (fun c_52 => ?_) (fun c_52 => ?_)
          · have t_52 : p1.toInt ≠ p2.toInt := toI_ne c_52 rfl rfl
            refine lv_aload_n hx hb dX11_arc_63 rfl (lv_at hl 1 rfl) ?_
            have hFc := allFree hD hS hA
            refine va_callr (va_runV (As := []) (rest := []) ⟨hx, hb, hml, hown, hts⟩ (m_X11_theNets_0 l hst dC dI hX aX kX hT hM fX_ready fX_sheet dX_sheet nX_sheet iX_sheetLength xX_reader xX_solver xX_prover xX_values xX_clauses kN b_fX_sheet (by first | exact b_nX_sheet | assumption | exact ⟨by omega, by omega⟩) (b_iX_sheetLength) (by first | assumption | omega) H.size) (cwV 0 hts gwsMX11_arc_0_2 rfl rfl rfl hd_yX11_theNets_RX11 (by decide +kernel)) (fz_preE (va_recv hK hP (ci := 11) (q0 := 0) rfl rfl) hP hK hD (fun a U g mk qE => qE.call) (fun U hU9 hW => by rw [hU9]; exact (((hE : CE A s s.heap).kept hS.2.1).narrow (fun q h => hFc q h)).warm hW)) rfl rfl hl.1 rfl (lv_room (Nat.le_of_ble_eq_true rfl)) dX11_arc_64 (by decide +kernel)) hS (fun q _ h => hFc q h) hFc (fun u ra3 t9_ H locs ht hvm hw9 hB9 hz1 hk1 hS => ?_)
            obtain ⟨hN, aN⟩ := u
            try dsimp only at hw9 hB9
            obtain ⟨hra, hB9⟩ := hB9
            subst hra
            clear hw9
            have hP : va_P (dC, dI) vwCl (WX hX aX kX hT hM fX_ready fX_sheet dX_sheet nX_sheet iX_sheetLength xX_reader xX_solver xX_prover xX_values xX_clauses (.ref (hN 0)) ++ (WN hN aN kN 0 (fun _ => 0) (fun _ => 0) (fun _ => 0) (fun _ => 0) 0 (fun _ => 0) (fun _ => 0) (fun _ => 0) (fun _ => 0) (fun _ => 0) 0 (fun _ => 0) (fun _ => 0))) H := fz_P ht hB9.1
            have hD : va_D A (WX hX aX kX hT hM fX_ready fX_sheet dX_sheet nX_sheet iX_sheetLength xX_reader xX_solver xX_prover xX_values xX_clauses (.ref (hN 0)) ++ (WN hN aN kN 0 (fun _ => 0) (fun _ => 0) (fun _ => 0) (fun _ => 0) 0 (fun _ => 0) (fun _ => 0) (fun _ => 0) (fun _ => 0) (fun _ => 0) 0 (fun _ => 0) (fun _ => 0))) := hB9.2.weaken (fun _ q _ h => hFc q.1 h)
            refine W.widen (k := 12) (n := 1478) (by decide +kernel) (by decide +kernel) ?_
            refine va_get (D := (dC, dI)) (ci := 2) (v := .int 0) (C := RX2) (T := TX2) (N := 14) hx hb hts iwsMX11_arc_0_in2 hown hK hP 3 rfl rfl 0 (by decide) (hts (.fieldLink RX11 429 "OptimaWorks$NetDesk" "arcs" "I") (by decide +kernel)) (fun _ h9 => h9) rfl dX11_arc_67 ?_
            refine lv_bipush (v := 40) hx hb dX11_arc_70 (by decide) ?_
            refine lv_icmp_lt (tgt := 83) hx hb dX11_arc_72 (by decide) (fun _ => ?_) (fun c9 => absurd (by decide) c9)
            refine lv_aload_n hx hb dX11_arc_83 rfl (lv_at hl 1 rfl) ?_
            refine va_get (D := (dC, dI)) (ci := 11) (v := .ref (hN 0)) (C := RX11) (T := TX11) (N := 11) hx hb hts iwsMX11_arc_0_in11 hown hK hP 0 rfl rfl 10 (by decide) (hts (.fieldLink RX11 415 "OptimaWorks" "nets" "LOptimaWorks$NetDesk;") (by decide +kernel)) (fun _ h9 => h9) rfl dX11_arc_84 ?_
            refine lv_iload_n hx hb dX11_arc_87 rfl (lv_at hl 2 rfl) ?_
            refine lv_iload_n hx hb dX11_arc_88 rfl (lv_at hl 3 rfl) ?_
            refine lv_iload_n hx hb dX11_arc_89 rfl (lv_at hl 4 rfl) ?_
            refine lv_iload hx hb dX11_arc_90 (lv_at hl 5 rfl) ?_
            have hPc : va_P (dC, dI) vwCl (WN hN aN kN 0 (fun _ => 0) (fun _ => 0) (fun _ => 0) (fun _ => 0) 0 (fun _ => 0) (fun _ => 0) (fun _ => 0) (fun _ => 0) (fun _ => 0) 0 (fun _ => 0) (fun _ => 0)) _ := hP.sub [3, 4, 5, 6, 7, 8, 9, 10, 11, 12, 13, 14] rfl
            have hDc : va_D _ (WN hN aN kN 0 (fun _ => 0) (fun _ => 0) (fun _ => 0) (fun _ => 0) 0 (fun _ => 0) (fun _ => 0) (fun _ => 0) (fun _ => 0) (fun _ => 0) 0 (fun _ => 0) (fun _ => 0)) := hD.sub [3, 4, 5, 6, 7, 8, 9, 10, 11, 12, 13, 14] (by decide) rfl
            have hKc : va_K (dC, dI) vwCl (tN kN) _ := hK.sub [2, 3, 4, 5, 6, 7, 8, 9, 10, 11, 12] rfl
            have hFc := va_free (wc := WN hN aN kN 0 (fun _ => 0) (fun _ => 0) (fun _ => 0) (fun _ => 0) 0 (fun _ => 0) (fun _ => 0) (fun _ => 0) (fun _ => 0) (fun _ => 0) 0 (fun _ => 0) (fun _ => 0)) hD hS hA [3, 4, 5, 6, 7, 8, 9, 10, 11, 12, 13, 14] rfl
            refine va_calli (va_runV (As := [.int p1, .int p2, .int p3, .int p4]) (rest := []) ⟨hx, hb, hml, hown, hts⟩ (m_X2_addArc l dC dI hN aN kN 0 (fun _ => 0) (fun _ => 0) (fun _ => 0) (fun _ => 0) 0 (fun _ => 0) (fun _ => 0) (fun _ => 0) (fun _ => 0) (fun _ => 0) 0 (fun _ => 0) (fun _ => 0) p1 p2 p3 p4 (show 0 ≤ (0 : Int32).toInt ∧ (0 : Int32).toInt ≤ 40 from by decide) (zr_r (by decide) (by decide)) (zr_r (by decide) (by decide)) (zr_r (by decide) (by decide)) (zr_r (by decide) (by decide)) (show 0 ≤ (0 : Int32).toInt ∧ (0 : Int32).toInt ≤ 8 from by decide) (by first | exact b_p1 | assumption | exact ⟨by omega, by omega⟩) (by first | exact b_p2 | assumption | exact ⟨by omega, by omega⟩) (by first | assumption | omega | (rw [iI_t (by omega) (by omega)]; omega) | decide) H.size) (cwV 4 hts gwsMX11_arc_0_3 rfl rfl rfl hd_yX2_addArc_RX2 (by decide +kernel)) (fz_pre (va_recv hK hP (ci := 2) (q0 := 3) rfl rfl) hPc hKc hDc) rfl rfl hl.1 rfl (lv_room (Nat.le_of_ble_eq_true rfl)) dX11_arc_92 (by decide +kernel)) hS (fun q _ h => hFc q h) hFc (fun r4 u t9_ H locs ht hvm hw9 hB9 hz1 hk1 hS => ?_)
            obtain ⟨iN_arcs_4, fN_from_4, fN_to_4, fN_room_4, fN_cost_4⟩ := u
            try dsimp only at hw9 hB9
            obtain ⟨b_iN_arcs_4, b_fN_from_4, b_fN_to_4, f4_0, f4_1, f4_2, f4_3, f4_4, f4_5⟩ := hw9
            obtain ⟨hP, hD⟩ := va_join (wr := [(hX 0, .inr (11, [.ref (aX 0), .ref (hT 0), .ref (hM 0), .ref dX_sheet, .int iX_sheetLength, xX_reader, xX_solver, xX_prover, xX_values, xX_clauses, (.ref (hN 0))])), (aX 0, .inl (kX 0, 5, .inl fX_ready)), (dX_sheet, .inl (kX 1, nX_sheet, .inl fX_sheet))]) (w1 := WN hN aN kN iN_arcs_4 fN_from_4 fN_to_4 fN_room_4 fN_cost_4 0 (fun _ => 0) (fun _ => 0) (fun _ => 0) (fun _ => 0) (fun _ => 0) 0 (fun _ => 0) (fun _ => 0)) hP hD [3, 4, 5, 6, 7, 8, 9, 10, 11, 12, 13, 14] [0, 1, 2] rfl rfl (by decide) (by decide) hk1 hFc (fz_P ht hB9.1) hB9.2
            have hP : va_P (dC, dI) vwCl (WX hX aX kX hT hM fX_ready fX_sheet dX_sheet nX_sheet iX_sheetLength xX_reader xX_solver xX_prover xX_values xX_clauses (.ref (hN 0)) ++ (WN hN aN kN iN_arcs_4 fN_from_4 fN_to_4 fN_room_4 fN_cost_4 0 (fun _ => 0) (fun _ => 0) (fun _ => 0) (fun _ => 0) (fun _ => 0) 0 (fun _ => 0) (fun _ => 0))) H := hP.sub [0, 1, 2, 3, 4, 5, 6, 7, 8, 9, 10, 11, 12, 13, 14] rfl
            have hD : va_D A (WX hX aX kX hT hM fX_ready fX_sheet dX_sheet nX_sheet iX_sheetLength xX_reader xX_solver xX_prover xX_values xX_clauses (.ref (hN 0)) ++ (WN hN aN kN iN_arcs_4 fN_from_4 fN_to_4 fN_room_4 fN_cost_4 0 (fun _ => 0) (fun _ => 0) (fun _ => 0) (fun _ => 0) (fun _ => 0) 0 (fun _ => 0) (fun _ => 0))) := hD.sub [0, 1, 2, 3, 4, 5, 6, 7, 8, 9, 10, 11, 12, 13, 14] (by decide) rfl
            have hq0 := f4_0
            have hq1 := f4_1
            have hq2 := f4_2
            have hq3 := f4_3
            have hq4 := f4_4
            have hq5 := f4_5
            refine vx_ret ?_
            refine W.widen (k := 13) (n := 1484) (by decide +kernel) (by decide +kernel) ?_
            exact W.iret (v := r4) hx hb hr (fun t9_ ht hW => ⟨⟨r4, ((.ref (hN 0)), (WN hN aN kN iN_arcs_4 fN_from_4 fN_to_4 fN_room_4 fN_cost_4 0 (fun _ => 0) (fun _ => 0) (fun _ => 0) (fun _ => 0) (fun _ => 0) 0 (fun _ => 0) (fun _ => 0))), rfl, ⟨(by (try dsimp only); have h7 : (0 : Int32).toInt = 0 := (by decide); omega), (by (try dsimp only); omega), (by (try dsimp only); exact Or.inr ⟨hN, aN, iN_arcs_4, fN_from_4, fN_to_4, fN_room_4, fN_cost_4, 0, (fun _ => 0), (fun _ => 0), (fun _ => 0), (fun _ => 0), (fun _ => 0), 0, (fun _ => 0), (fun _ => 0), (b_iN_arcs_4), b_fN_from_4, b_fN_to_4, (zr_r (by decide) (by decide)), (zr_r (by decide) (by decide)), (show 0 ≤ (0 : Int32).toInt ∧ (0 : Int32).toInt ≤ 8 from by decide), rfl, rfl, (ntAdd_0 hq0 hq2 hq3 hq4 hq5)⟩)⟩, by rw [ht]; exact hP, hD⟩, hS.F ht⟩) hS.2.2 dX11_arc_95
          · have t_52 : p1.toInt = p2.toInt := toI_nne c_52 rfl rfl
            exact vx_throw0 (own := RX11) (cls := "java/lang/IllegalArgumentException") (names := ["java/lang/RuntimeException", "java/lang/Exception"]) (ik := 77) (ic := 79) (A := A) hx hb hst hown (by decide +kernel) (by decide +kernel) (hts (.classLink RX11 77 "java/lang/IllegalArgumentException") (by decide +kernel)) (hts (.initialized "java/lang/IllegalArgumentException") (by decide +kernel)) (vx_hat (B := ngX11_79) (fun w h => hts w (List.mem_cons_of_mem _ (List.mem_append_left _ (List.mem_append_left _ (List.mem_append_right _ h))))) (fun _ h => h) (fun w h => va_Nw.use (ngX11_79_ot w h) (hE.2.2.1.2.2.1 w h))) (by decide +kernel) hE.2.1.1 hE.2.1.2 hS (by rw [hml]; exact hl.1) dX11_arc_55 dX11_arc_58 dX11_arc_59 dX11_arc_62 (fun x hx9 => (htab x hx9).elim) (by decide +kernel) (Nat.le_of_ble_eq_true rfl) (by decide +kernel) (by decide +kernel) hlocks (fun t hvm hz hk => ⟨(.null, ([])), (by (try dsimp only); exact Or.inl ⟨rfl, rfl, rfl⟩), ⟨⟨rfl, by omega⟩, by first | exact hP.kept (fun k q h => hk q.1 ((hP k q h).lt)) | (simp only [List.append_nil]; exact hP.kept (fun k q h => hk q.1 ((hP k q h).lt))), by first | exact hD | (simp only [List.append_nil]; exact hD)⟩, ⟨Nat.le_trans hS.1 hz, fun q h1 h2 => (hk q (Nat.lt_of_lt_of_le h1 hS.1)).trans (hS.2.1 q h1 h2)⟩⟩) hS.2.2 (by decide +kernel) (by decide +kernel)
def wsMX11_unarc_0 : List Cond := .code yX11_unarc cX11_unarc 1 (some .boolean) :: ([] ++ (wsV RX11 425 RX11 yX11_theNets wsMX11_theNets_0) ++ (wsV RX11 435 RX2 yX2_dropArc wsMX2_dropArc))
theorem gwsMX11_unarc_0_0 : GoodIn wsMX11_unarc_0 (wsV RX11 425 RX11 yX11_theNets wsMX11_theNets_0) := goodIn_sub (fun _ h => List.mem_cons_of_mem _ (List.mem_append_left _ (List.mem_append_right _ h))) (gdV (by decide +kernel) gdwsMX11_theNets_0)
theorem gwsMX11_unarc_0_1 : GoodIn wsMX11_unarc_0 (wsV RX11 435 RX2 yX2_dropArc wsMX2_dropArc) := goodIn_sub (fun _ h => List.mem_cons_of_mem _ (List.mem_append_right _ h)) (gdV (by decide +kernel) gdwsMX2_dropArc)
theorem gdwsMX11_unarc_0 : wsMX11_unarc_0.all goodWord = true := gdC rfl (gdA (gdA (by decide +kernel : ([] : List Cond).all goodWord = true) (gdV (by decide +kernel) gdwsMX11_theNets_0)) (gdV (by decide +kernel) gdwsMX2_dropArc))
set_option maxHeartbeats 4000000 in
set_option maxRecDepth 100000 in
/-- an arc less -/
theorem m_X11_unarc_0 (l : Launch) (hst : l.stackTraces = false) (dC : Nat → ClassId) (dI : Nat → Nat → Nat) (hX : Nat → Nat) (aX : Nat → Nat) (kX : Nat → ClassId) (hT : Nat → Nat) (hM : Nat → Nat) (fX_ready : Nat → Int32) (fX_sheet : Nat → Int32) (dX_sheet : Nat) (nX_sheet : Nat) (iX_sheetLength : Int32) (xX_reader : Value) (xX_solver : Value) (xX_prover : Value) (xX_values : Value) (xX_clauses : Value) (kN : Nat → ClassId) (b_fX_sheet : ∀ q : Nat, (-128) ≤ (fX_sheet q).toInt ∧ (fX_sheet q).toInt ≤ 127) (b_nX_sheet : 64 ≤ nX_sheet ∧ nX_sheet ≤ 60000) (b_iX_sheetLength : 0 ≤ iX_sheetLength.toInt ∧ iX_sheetLength.toInt ≤ 30000) (b_shl : iX_sheetLength.toInt ≤ ((nX_sheet : Nat) : Int)) (sz : Nat) : Met l yX11_unarc wsMX11_unarc_0 ({ frames := 3, cells := 12, slots := 1478, locals := 52 }) (va_Pc [.ref (hX 0)] (fun U => U.heap.size = sz ∧ va_P (dC, dI) vwCl (WX hX aX kX hT hM fX_ready fX_sheet dX_sheet nX_sheet iX_sheetLength xX_reader xX_solver xX_prover xX_values xX_clauses .null) U.heap ∧ va_K (dC, dI) vwCl (tX kX ++ (tN kN)) U ∧ va_D (fun _ => True) (WX hX aX kX hT hM fX_ready fX_sheet dX_sheet nX_sheet iX_sheetLength xX_reader xX_solver xX_prover xX_values xX_clauses .null) ∧ CE (va_A (WX hX aX kX hT hM fX_ready fX_sheet dX_sheet nX_sheet iX_sheetLength xX_reader xX_solver xX_prover xX_values xX_clauses .null) sz) U U.heap)) (va_Qi (fun (r : Int32) (u : (Value) × (va_W)) => (0 ≤ r.toInt ∧ r.toInt ≤ 1) ∧ (r.toInt = 0) ∧ (NetO kN ntZ (u.1) (u.2))) (fun (u : (Value) × (va_W)) t => va_P (dC, dI) vwCl (WX hX aX kX hT hM fX_ready fX_sheet dX_sheet nX_sheet iX_sheetLength xX_reader xX_solver xX_prover xX_values xX_clauses (u.1) ++ ((u.2))) t.heap ∧ va_D (va_A (WX hX aX kX hT hM fX_ready fX_sheet dX_sheet nX_sheet iX_sheetLength xX_reader xX_solver xX_prover xX_values xX_clauses .null) sz) (WX hX aX kX hT hM fX_ready fX_sheet dX_sheet nX_sheet iX_sheetLength xX_reader xX_solver xX_prover xX_values xX_clauses (u.1) ++ ((u.2)))) (va_A (WX hX aX kX hT hM fX_ready fX_sheet dX_sheet nX_sheet iX_sheetLength xX_reader xX_solver xX_prover xX_values xX_clauses .null) sz)) 12 1478 (va_A (WX hX aX kX hT hM fX_ready fX_sheet dX_sheet nX_sheet iX_sheetLength xX_reader xX_solver xX_prover xX_values xX_clauses .null) sz) := by
  refine Met.ofW (cc := cX11_unarc) (maxL := 1) (ret := (some .boolean)) (by decide) rfl ?_
  intro p e s m args below meth c s₁ B hml hv
  obtain ⟨rfl, hsz, hP, hK, hD0, hE⟩ := hv
  have hx := B.exec
  have hb := B.bytes
  have hr := B.returns
  have hts := atoms_spec (ws := wsMX11_unarc_0) B.pre
  have hown : s.vm.findClass RX11 = some m.cls := findClass_of_methodNamed B.named
  have hlocks := B.notSynchronized
  subst hsz
  have hD := hD0.self (sz := s.heap.size)
  generalize hAe : va_A (WX hX aX kX hT hM fX_ready fX_sheet dX_sheet nX_sheet iX_sheetLength xX_reader xX_solver xX_prover xX_values xX_clauses .null) s.heap.size = A at hD hE ⊢
  have hA : ∀ q : Nat, s.heap.size ≤ q → A q := fun q h => by rw [← hAe]; exact Or.inr h
  have hS : va_S A s.heap s.heap [] := va_S.rf
  have hl := lv_entry ([.ref (hX 0)]) (n := 1) (Nat.le_of_ble_eq_true rfl)
  rw [lg_entry_eq]
  generalize (lg_sl ([.ref (hX 0)]) ++ List.replicate (1 - (lg_sl ([.ref (hX 0)])).length) Slot.unset).toArray = ls at hl ⊢
  have hl : lv_has ls 1 [(0, .ref (hX 0))] := hl
  refine lv_aload_n hx hb dX11_unarc_0 rfl (lv_at hl 0 rfl) ?_
  have hFc := allFree hD hS hA
  refine va_callr (va_runV (As := []) (rest := []) ⟨hx, hb, hml, hown, hts⟩ (m_X11_theNets_0 l hst dC dI hX aX kX hT hM fX_ready fX_sheet dX_sheet nX_sheet iX_sheetLength xX_reader xX_solver xX_prover xX_values xX_clauses kN b_fX_sheet (by first | exact b_nX_sheet | assumption | exact ⟨by omega, by omega⟩) (b_iX_sheetLength) (by first | assumption | omega) s.heap.size) (cwV 0 hts gwsMX11_unarc_0_0 rfl rfl rfl hd_yX11_theNets_RX11 (by decide +kernel)) (fz_preE (va_recv hK hP (ci := 11) (q0 := 0) rfl rfl) hP hK hD (fun a U g mk qE => qE.call) (fun U hU9 hW => by rw [hU9]; exact (((hE : CE A s s.heap).kept hS.2.1).narrow (fun q h => hFc q h)).warm hW)) rfl rfl hl.1 rfl (lv_room (Nat.le_of_ble_eq_true rfl)) dX11_unarc_1 (by decide +kernel)) hS (fun q _ h => hFc q h) hFc (fun u ra1 t9_ H locs ht hvm hw9 hB9 hz1 hk1 hS => ?_)
  obtain ⟨hN, aN⟩ := u
  try dsimp only at hw9 hB9
  obtain ⟨hra, hB9⟩ := hB9
  subst hra
  clear hw9
  have hP : va_P (dC, dI) vwCl (WX hX aX kX hT hM fX_ready fX_sheet dX_sheet nX_sheet iX_sheetLength xX_reader xX_solver xX_prover xX_values xX_clauses (.ref (hN 0)) ++ (WN hN aN kN 0 (fun _ => 0) (fun _ => 0) (fun _ => 0) (fun _ => 0) 0 (fun _ => 0) (fun _ => 0) (fun _ => 0) (fun _ => 0) (fun _ => 0) 0 (fun _ => 0) (fun _ => 0))) H := fz_P ht hB9.1
  have hD : va_D A (WX hX aX kX hT hM fX_ready fX_sheet dX_sheet nX_sheet iX_sheetLength xX_reader xX_solver xX_prover xX_values xX_clauses (.ref (hN 0)) ++ (WN hN aN kN 0 (fun _ => 0) (fun _ => 0) (fun _ => 0) (fun _ => 0) 0 (fun _ => 0) (fun _ => 0) (fun _ => 0) (fun _ => 0) (fun _ => 0) 0 (fun _ => 0) (fun _ => 0))) := hB9.2.weaken (fun _ q _ h => hFc q.1 h)
  refine W.widen (k := 12) (n := 1478) (by decide +kernel) (by decide +kernel) ?_
  have hPc : va_P (dC, dI) vwCl (WN hN aN kN 0 (fun _ => 0) (fun _ => 0) (fun _ => 0) (fun _ => 0) 0 (fun _ => 0) (fun _ => 0) (fun _ => 0) (fun _ => 0) (fun _ => 0) 0 (fun _ => 0) (fun _ => 0)) _ := hP.sub [3, 4, 5, 6, 7, 8, 9, 10, 11, 12, 13, 14] rfl
  have hDc : va_D _ (WN hN aN kN 0 (fun _ => 0) (fun _ => 0) (fun _ => 0) (fun _ => 0) 0 (fun _ => 0) (fun _ => 0) (fun _ => 0) (fun _ => 0) (fun _ => 0) 0 (fun _ => 0) (fun _ => 0)) := hD.sub [3, 4, 5, 6, 7, 8, 9, 10, 11, 12, 13, 14] (by decide) rfl
  have hKc : va_K (dC, dI) vwCl (tN kN) _ := hK.sub [2, 3, 4, 5, 6, 7, 8, 9, 10, 11, 12] rfl
  have hFc := va_free (wc := WN hN aN kN 0 (fun _ => 0) (fun _ => 0) (fun _ => 0) (fun _ => 0) 0 (fun _ => 0) (fun _ => 0) (fun _ => 0) (fun _ => 0) (fun _ => 0) 0 (fun _ => 0) (fun _ => 0)) hD hS hA [3, 4, 5, 6, 7, 8, 9, 10, 11, 12, 13, 14] rfl
  refine va_calli (va_runV (As := []) (rest := []) ⟨hx, hb, hml, hown, hts⟩ (m_X2_dropArc l dC dI hN aN kN 0 (fun _ => 0) (fun _ => 0) (fun _ => 0) (fun _ => 0) 0 (fun _ => 0) (fun _ => 0) (fun _ => 0) (fun _ => 0) (fun _ => 0) 0 (fun _ => 0) (fun _ => 0) (show 0 ≤ (0 : Int32).toInt ∧ (0 : Int32).toInt ≤ 40 from by decide) (zr_r (by decide) (by decide)) (zr_r (by decide) (by decide)) (zr_r (by decide) (by decide)) (zr_r (by decide) (by decide)) (show 0 ≤ (0 : Int32).toInt ∧ (0 : Int32).toInt ≤ 8 from by decide) H.size) (cwV 0 hts gwsMX11_unarc_0_1 rfl rfl rfl hd_yX2_dropArc_RX2 (by decide +kernel)) (fz_pre (va_recv hK hP (ci := 2) (q0 := 3) rfl rfl) hPc hKc hDc) rfl rfl hl.1 rfl (lv_room (Nat.le_of_ble_eq_true rfl)) dX11_unarc_4 (by decide +kernel)) hS (fun q _ h => hFc q h) hFc (fun r2 u t9_ H locs ht hvm hw9 hB9 hz1 hk1 hS => ?_)
  obtain ⟨iN_arcs_2, hwit2⟩ : ∃ w9, w9 = u := ⟨u, rfl⟩
  subst hwit2
  obtain ⟨b_iN_arcs_2, b_r2, f2_0⟩ := hw9
  obtain ⟨hP, hD⟩ := va_join (wr := [(hX 0, .inr (11, [.ref (aX 0), .ref (hT 0), .ref (hM 0), .ref dX_sheet, .int iX_sheetLength, xX_reader, xX_solver, xX_prover, xX_values, xX_clauses, (.ref (hN 0))])), (aX 0, .inl (kX 0, 5, .inl fX_ready)), (dX_sheet, .inl (kX 1, nX_sheet, .inl fX_sheet))]) (w1 := WN hN aN kN iN_arcs_2 (fun _ => 0) (fun _ => 0) (fun _ => 0) (fun _ => 0) 0 (fun _ => 0) (fun _ => 0) (fun _ => 0) (fun _ => 0) (fun _ => 0) 0 (fun _ => 0) (fun _ => 0)) hP hD [3, 4, 5, 6, 7, 8, 9, 10, 11, 12, 13, 14] [0, 1, 2] rfl rfl (by decide) (by decide) hk1 hFc (fz_P ht hB9.1) hB9.2
  have hP : va_P (dC, dI) vwCl (WX hX aX kX hT hM fX_ready fX_sheet dX_sheet nX_sheet iX_sheetLength xX_reader xX_solver xX_prover xX_values xX_clauses (.ref (hN 0)) ++ (WN hN aN kN iN_arcs_2 (fun _ => 0) (fun _ => 0) (fun _ => 0) (fun _ => 0) 0 (fun _ => 0) (fun _ => 0) (fun _ => 0) (fun _ => 0) (fun _ => 0) 0 (fun _ => 0) (fun _ => 0))) H := hP.sub [0, 1, 2, 3, 4, 5, 6, 7, 8, 9, 10, 11, 12, 13, 14] rfl
  have hD : va_D A (WX hX aX kX hT hM fX_ready fX_sheet dX_sheet nX_sheet iX_sheetLength xX_reader xX_solver xX_prover xX_values xX_clauses (.ref (hN 0)) ++ (WN hN aN kN iN_arcs_2 (fun _ => 0) (fun _ => 0) (fun _ => 0) (fun _ => 0) 0 (fun _ => 0) (fun _ => 0) (fun _ => 0) (fun _ => 0) (fun _ => 0) 0 (fun _ => 0) (fun _ => 0))) := hD.sub [0, 1, 2, 3, 4, 5, 6, 7, 8, 9, 10, 11, 12, 13, 14] (by decide) rfl
  refine W.widen (k := 12) (n := 1478) (by decide +kernel) (by decide +kernel) ?_
  exact W.zret (v := r2) hx hb hr (by rcases z01 (x := r2) (by first | exact b_r2 | assumption | exact ⟨by omega, by omega⟩) with h9 | h9 <;> rw [h9] <;> rfl) (fun t9_ ht hW => ⟨⟨r2, ((.ref (hN 0)), (WN hN aN kN iN_arcs_2 (fun _ => 0) (fun _ => 0) (fun _ => 0) (fun _ => 0) 0 (fun _ => 0) (fun _ => 0) (fun _ => 0) (fun _ => 0) (fun _ => 0) 0 (fun _ => 0) (fun _ => 0))), rfl, ⟨(by first | exact b_r2 | assumption | exact ⟨by omega, by omega⟩), (by (try dsimp only); have h7 : (0 : Int32).toInt = 0 := (by decide); omega), (by (try dsimp only); exact Or.inr ⟨hN, aN, iN_arcs_2, (fun _ => 0), (fun _ => 0), (fun _ => 0), (fun _ => 0), 0, (fun _ => 0), (fun _ => 0), (fun _ => 0), (fun _ => 0), (fun _ => 0), 0, (fun _ => 0), (fun _ => 0), (b_iN_arcs_2), (zr_r (by decide) (by decide)), (zr_r (by decide) (by decide)), (zr_r (by decide) (by decide)), (zr_r (by decide) (by decide)), (show 0 ≤ (0 : Int32).toInt ∧ (0 : Int32).toInt ≤ 8 from by decide), rfl, rfl, (ntZ_x (by have h7 : (0 : Int32).toInt = 0 := (by decide); omega))⟩)⟩, by rw [ht]; exact hP, hD⟩, hS.F ht⟩) hS.2.2 dX11_unarc_7
def wsMX11_greatest_0 : List Cond := .code yX11_greatest cX11_greatest 3 (some .int) :: ([] ++ (va_wsS RX11 438 yX11_needNodes wsMX11_needNodes) ++ (wsV RX11 425 RX11 yX11_theNets wsMX11_theNets_0) ++ (wsV RX11 441 RX2 yX2_fill wsMX2_fill))
theorem gwsMX11_greatest_0_0 : GoodIn wsMX11_greatest_0 (va_wsS RX11 438 yX11_needNodes wsMX11_needNodes) := goodIn_sub (fun _ h => List.mem_cons_of_mem _ (List.mem_append_left _ (List.mem_append_left _ (List.mem_append_right _ h)))) (gdS (by decide +kernel) gdwsMX11_needNodes)
theorem gwsMX11_greatest_0_1 : GoodIn wsMX11_greatest_0 (wsV RX11 425 RX11 yX11_theNets wsMX11_theNets_0) := goodIn_sub (fun _ h => List.mem_cons_of_mem _ (List.mem_append_left _ (List.mem_append_right _ h))) (gdV (by decide +kernel) gdwsMX11_theNets_0)
theorem gwsMX11_greatest_0_2 : GoodIn wsMX11_greatest_0 (wsV RX11 441 RX2 yX2_fill wsMX2_fill) := goodIn_sub (fun _ h => List.mem_cons_of_mem _ (List.mem_append_right _ h)) (gdV (by decide +kernel) gdwsMX2_fill)
theorem gdwsMX11_greatest_0 : wsMX11_greatest_0.all goodWord = true := gdC rfl (gdA (gdA (gdA (by decide +kernel : ([] : List Cond).all goodWord = true) (gdS (by decide +kernel) gdwsMX11_needNodes)) (gdV (by decide +kernel) gdwsMX11_theNets_0)) (gdV (by decide +kernel) gdwsMX2_fill))
set_option maxHeartbeats 4000000 in
set_option maxRecDepth 100000 in
/-- a greatest flow -/
theorem m_X11_greatest_0 (l : Launch) (hst : l.stackTraces = false) (dC : Nat → ClassId) (dI : Nat → Nat → Nat) (hX : Nat → Nat) (aX : Nat → Nat) (kX : Nat → ClassId) (hT : Nat → Nat) (hM : Nat → Nat) (fX_ready : Nat → Int32) (fX_sheet : Nat → Int32) (dX_sheet : Nat) (nX_sheet : Nat) (iX_sheetLength : Int32) (xX_reader : Value) (xX_solver : Value) (xX_prover : Value) (xX_values : Value) (xX_clauses : Value) (kN : Nat → ClassId) (p1 : Int32) (p2 : Int32) (b_fX_sheet : ∀ q : Nat, (-128) ≤ (fX_sheet q).toInt ∧ (fX_sheet q).toInt ≤ 127) (b_nX_sheet : 64 ≤ nX_sheet ∧ nX_sheet ≤ 60000) (b_iX_sheetLength : 0 ≤ iX_sheetLength.toInt ∧ iX_sheetLength.toInt ≤ 30000) (b_shl : iX_sheetLength.toInt ≤ ((nX_sheet : Nat) : Int)) (sz : Nat) : vx_Met l yX11_greatest wsMX11_greatest_0 ({ frames := 7, cells := 12, slots := 1478, locals := 102 }) (va_Pc [.ref (hX 0), .int p1, .int p2] (fun U => U.heap.size = sz ∧ va_P (dC, dI) vwCl (WX hX aX kX hT hM fX_ready fX_sheet dX_sheet nX_sheet iX_sheetLength xX_reader xX_solver xX_prover xX_values xX_clauses .null) U.heap ∧ va_K (dC, dI) vwCl (tX kX ++ (tN kN)) U ∧ va_D (fun _ => True) (WX hX aX kX hT hM fX_ready fX_sheet dX_sheet nX_sheet iX_sheetLength xX_reader xX_solver xX_prover xX_values xX_clauses .null) ∧ CE (va_A (WX hX aX kX hT hM fX_ready fX_sheet dX_sheet nX_sheet iX_sheetLength xX_reader xX_solver xX_prover xX_values xX_clauses .null) sz) U U.heap)) (va_Qi (fun (r : Int32) (u : (Value) × (va_W)) => (((0 ≤ p1.toInt ∧ p1.toInt ≤ 11) ∧ 0 ≤ p2.toInt ∧ p2.toInt ≤ 11) ∧ p1.toInt ≠ p2.toInt) ∧ (mxF ntZ p1.toInt.toNat p2.toInt.toNat r.toInt) ∧ (NetO kN ntZ (u.1) (u.2))) (fun (u : (Value) × (va_W)) t => va_P (dC, dI) vwCl (WX hX aX kX hT hM fX_ready fX_sheet dX_sheet nX_sheet iX_sheetLength xX_reader xX_solver xX_prover xX_values xX_clauses (u.1) ++ ((u.2))) t.heap ∧ va_D (va_A (WX hX aX kX hT hM fX_ready fX_sheet dX_sheet nX_sheet iX_sheetLength xX_reader xX_solver xX_prover xX_values xX_clauses .null) sz) (WX hX aX kX hT hM fX_ready fX_sheet dX_sheet nX_sheet iX_sheetLength xX_reader xX_solver xX_prover xX_values xX_clauses (u.1) ++ ((u.2)))) (va_A (WX hX aX kX hT hM fX_ready fX_sheet dX_sheet nX_sheet iX_sheetLength xX_reader xX_solver xX_prover xX_values xX_clauses .null) sz)) (vx_X (fun (u : (Value) × (va_W)) => (NetO kN ntZ (u.1) (u.2))) (fun E (u : (Value) × (va_W)) t => ((E = "java/lang/IndexOutOfBoundsException" ∧ (¬ ((0 ≤ p1.toInt ∧ p1.toInt ≤ 11) ∧ 0 ≤ p2.toInt ∧ p2.toInt ≤ 11))) ∨ (E = "java/lang/IllegalArgumentException" ∧ (((0 ≤ p1.toInt ∧ p1.toInt ≤ 11) ∧ 0 ≤ p2.toInt ∧ p2.toInt ≤ 11) ∧ p1.toInt = p2.toInt))) ∧ va_P (dC, dI) vwCl (WX hX aX kX hT hM fX_ready fX_sheet dX_sheet nX_sheet iX_sheetLength xX_reader xX_solver xX_prover xX_values xX_clauses (u.1) ++ ((u.2))) t.heap ∧ va_D (va_A (WX hX aX kX hT hM fX_ready fX_sheet dX_sheet nX_sheet iX_sheetLength xX_reader xX_solver xX_prover xX_values xX_clauses .null) sz) (WX hX aX kX hT hM fX_ready fX_sheet dX_sheet nX_sheet iX_sheetLength xX_reader xX_solver xX_prover xX_values xX_clauses (u.1) ++ ((u.2)))) (va_A (WX hX aX kX hT hM fX_ready fX_sheet dX_sheet nX_sheet iX_sheetLength xX_reader xX_solver xX_prover xX_values xX_clauses .null) sz)) 12 1478 (va_A (WX hX aX kX hT hM fX_ready fX_sheet dX_sheet nX_sheet iX_sheetLength xX_reader xX_solver xX_prover xX_values xX_clauses .null) sz) := by
  refine vx_ofW (cc := cX11_greatest) (maxL := 3) (ret := (some .int)) (by decide) rfl ?_
  intro p e s m args below meth c s₁ B hml htab hv
  obtain ⟨rfl, hsz, hP, hK, hD0, hE⟩ := hv
  have hx := B.exec
  have hb := B.bytes
  have hr := B.returns
  have hts := atoms_spec (ws := wsMX11_greatest_0) B.pre
  have hown : s.vm.findClass RX11 = some m.cls := findClass_of_methodNamed B.named
  have hlocks := B.notSynchronized
  subst hsz
  have hD := hD0.self (sz := s.heap.size)
  generalize hAe : va_A (WX hX aX kX hT hM fX_ready fX_sheet dX_sheet nX_sheet iX_sheetLength xX_reader xX_solver xX_prover xX_values xX_clauses .null) s.heap.size = A at hD hE ⊢
  have hA : ∀ q : Nat, s.heap.size ≤ q → A q := fun q h => by rw [← hAe]; exact Or.inr h
  have hS : va_S A s.heap s.heap [] := va_S.rf
  have hl := lv_entry ([.ref (hX 0), .int p1, .int p2]) (n := 3) (Nat.le_of_ble_eq_true rfl)
  rw [lg_entry_eq]
  generalize (lg_sl ([.ref (hX 0), .int p1, .int p2]) ++ List.replicate (3 - (lg_sl ([.ref (hX 0), .int p1, .int p2])).length) Slot.unset).toArray = ls at hl ⊢
  have hl : lv_has ls 3 [(0, .ref (hX 0)), (1, .int p1), (2, .int p2)] := hl
  refine lv_iload_n hx hb dX11_greatest_0 rfl (lv_at hl 1 rfl) ?_
  refine lv_iload_n hx hb dX11_greatest_1 rfl (lv_at hl 2 rfl) ?_
  refine W.known (fun hz0 _ => ?_)
  have hFc := noneFree hS hA
  refine vx_callv (vx_runS (As := [.int p1, .int p2]) (rest := []) ⟨hx, hb, hml, hown, hts⟩ (m_X11_needNodes l hst dC dI p1 p2 s.heap.size) (va_cwS 2 hts gwsMX11_greatest_0_0 rfl rfl rfl (by decide +kernel) ⟨by decide +kernel, by decide +kernel⟩) ⟨fun a U g mk q => by obtain ⟨q0, q1, qP, qK, qD, qE⟩ := q; exact ⟨q0, q1, qP, va_K.moved (u := U) (U := U.calling g mk a) (Vm.Alike.refl U.vm) qK, qD, qE.call⟩, fun U hU9 hW => ⟨rfl, by rw [hU9], by rw [hU9]; exact nilP, va_K.moved hW.alike (hK.sub (tys' := []) [] rfl), nilD, by rw [hU9]; exact (((hE : CE A s s.heap).kept hS.2.1).narrow (fun q h => hFc q h)).warm hW⟩⟩ rfl rfl hl.1 rfl (lv_room (Nat.le_of_ble_eq_true rfl)) dX11_greatest_2 (by decide +kernel)) hS (fun q _ h => hFc q h) hFc (fun q _ h => hFc q h) (fun E ce q9 u t9_ H1 locs ht hvm hw9 hB9 hz1 hk1 hS hc1 hc2 hc3 => ?_) (fun u t9_ H1 locs ht hvm hw9 hB9 hz1 hk1 hS => ?_)
  · obtain ⟨hEx, hB9⟩ := hB9
    clear hw9
    clear hB9
    have hP := keepAll hP hk1
    generalize H1 = H at hP hS hc1 ⊢
    have hP : va_P (dC, dI) vwCl (WX hX aX kX hT hM fX_ready fX_sheet dX_sheet nX_sheet iX_sheetLength xX_reader xX_solver xX_prover xX_values xX_clauses .null) H := hP
    have hD : va_D A (WX hX aX kX hT hM fX_ready fX_sheet dX_sheet nX_sheet iX_sheetLength xX_reader xX_solver xX_prover xX_values xX_clauses .null) := hD
    exact vx_out (fun x hx9 => (htab x hx9).elim) hlocks hc1 hc2 hc3 (fun t9_ ht hvm => ⟨(.null, ([])), (by (try dsimp only); exact Or.inl ⟨rfl, rfl, rfl⟩), ⟨(by rcases hEx with h9 | h9; exact Or.inl ⟨h9.1, (by have h8 := h9.2; omega)⟩; exact Or.inr (⟨h9.1, (by have h8 := h9.2; omega)⟩)), by rw [ht]; first | exact hP | (simp only [List.append_nil]; exact hP), by first | exact hD | (simp only [List.append_nil]; exact hD)⟩, hS.F ht⟩) hS.2.2 (by decide +kernel) (by decide +kernel)
  have f1_0 := hw9
  try dsimp only at f1_0
  obtain ⟨_, hz8⟩ := hB9
  rw [ht] at hz8
  have hz9 : H1.size ≤ s.heap.size + 0 := by rw [hz8]; exact hz0
  refine W.tight (cells2 := 0) (slots2 := 0) hz9 (nS_0 hz9) ?_
  clear hz8 hz9
  have hP := keepAll hP hk1
  generalize H1 = H at hP hS ⊢
  have hP : va_P (dC, dI) vwCl (WX hX aX kX hT hM fX_ready fX_sheet dX_sheet nX_sheet iX_sheetLength xX_reader xX_solver xX_prover xX_values xX_clauses .null) H := hP
  have hD : va_D A (WX hX aX kX hT hM fX_ready fX_sheet dX_sheet nX_sheet iX_sheetLength xX_reader xX_solver xX_prover xX_values xX_clauses .null) := hD
  have hnn := f1_0
  refine lv_aload_n hx hb dX11_greatest_5 rfl (lv_at hl 0 rfl) ?_
  have hFc := allFree hD hS hA
  refine va_callr (va_runV (As := []) (rest := []) ⟨hx, hb, hml, hown, hts⟩ (m_X11_theNets_0 l hst dC dI hX aX kX hT hM fX_ready fX_sheet dX_sheet nX_sheet iX_sheetLength xX_reader xX_solver xX_prover xX_values xX_clauses kN b_fX_sheet (by first | exact b_nX_sheet | assumption | exact ⟨by omega, by omega⟩) (b_iX_sheetLength) (by first | assumption | omega) H.size) (cwV 0 hts gwsMX11_greatest_0_1 rfl rfl rfl hd_yX11_theNets_RX11 (by decide +kernel)) (fz_preE (va_recv hK hP (ci := 11) (q0 := 0) rfl rfl) hP hK hD (fun a U g mk qE => qE.call) (fun U hU9 hW => by rw [hU9]; exact (((hE : CE A s s.heap).kept hS.2.1).narrow (fun q h => hFc q h)).warm hW)) rfl rfl hl.1 rfl (lv_room (Nat.le_of_ble_eq_true rfl)) dX11_greatest_6 (by decide +kernel)) hS (fun q _ h => hFc q h) hFc (fun u ra2 t9_ H locs ht hvm hw9 hB9 hz1 hk1 hS => ?_)
  obtain ⟨hN, aN⟩ := u
  try dsimp only at hw9 hB9
  obtain ⟨hra, hB9⟩ := hB9
  subst hra
  clear hw9
  have hP : va_P (dC, dI) vwCl (WX hX aX kX hT hM fX_ready fX_sheet dX_sheet nX_sheet iX_sheetLength xX_reader xX_solver xX_prover xX_values xX_clauses (.ref (hN 0)) ++ (WN hN aN kN 0 (fun _ => 0) (fun _ => 0) (fun _ => 0) (fun _ => 0) 0 (fun _ => 0) (fun _ => 0) (fun _ => 0) (fun _ => 0) (fun _ => 0) 0 (fun _ => 0) (fun _ => 0))) H := fz_P ht hB9.1
  have hD : va_D A (WX hX aX kX hT hM fX_ready fX_sheet dX_sheet nX_sheet iX_sheetLength xX_reader xX_solver xX_prover xX_values xX_clauses (.ref (hN 0)) ++ (WN hN aN kN 0 (fun _ => 0) (fun _ => 0) (fun _ => 0) (fun _ => 0) 0 (fun _ => 0) (fun _ => 0) (fun _ => 0) (fun _ => 0) (fun _ => 0) 0 (fun _ => 0) (fun _ => 0))) := hB9.2.weaken (fun _ q _ h => hFc q.1 h)
  refine W.widen (k := 12) (n := 1478) (by decide +kernel) (by decide +kernel) ?_
  refine lv_iload_n hx hb dX11_greatest_9 rfl (lv_at hl 1 rfl) ?_
  refine lv_iload_n hx hb dX11_greatest_10 rfl (lv_at hl 2 rfl) ?_
  have hPc : va_P (dC, dI) vwCl (WN hN aN kN 0 (fun _ => 0) (fun _ => 0) (fun _ => 0) (fun _ => 0) 0 (fun _ => 0) (fun _ => 0) (fun _ => 0) (fun _ => 0) (fun _ => 0) 0 (fun _ => 0) (fun _ => 0)) _ := hP.sub [3, 4, 5, 6, 7, 8, 9, 10, 11, 12, 13, 14] rfl
  have hDc : va_D _ (WN hN aN kN 0 (fun _ => 0) (fun _ => 0) (fun _ => 0) (fun _ => 0) 0 (fun _ => 0) (fun _ => 0) (fun _ => 0) (fun _ => 0) (fun _ => 0) 0 (fun _ => 0) (fun _ => 0)) := hD.sub [3, 4, 5, 6, 7, 8, 9, 10, 11, 12, 13, 14] (by decide) rfl
  have hKc : va_K (dC, dI) vwCl (tN kN) _ := hK.sub [2, 3, 4, 5, 6, 7, 8, 9, 10, 11, 12] rfl
  have hFc := va_free (wc := WN hN aN kN 0 (fun _ => 0) (fun _ => 0) (fun _ => 0) (fun _ => 0) 0 (fun _ => 0) (fun _ => 0) (fun _ => 0) (fun _ => 0) (fun _ => 0) 0 (fun _ => 0) (fun _ => 0)) hD hS hA [3, 4, 5, 6, 7, 8, 9, 10, 11, 12, 13, 14] rfl
  refine va_calli (va_runV (As := [.int p1, .int p2]) (rest := []) ⟨hx, hb, hml, hown, hts⟩ (m_X2_fill l dC dI hN aN kN 0 (fun _ => 0) (fun _ => 0) (fun _ => 0) (fun _ => 0) 0 (fun _ => 0) (fun _ => 0) (fun _ => 0) (fun _ => 0) (fun _ => 0) 0 (fun _ => 0) (fun _ => 0) p1 p2 (show 0 ≤ (0 : Int32).toInt ∧ (0 : Int32).toInt ≤ 40 from by decide) (zr_r (by decide) (by decide)) (zr_r (by decide) (by decide)) (zr_r (by decide) (by decide)) (zr_r (by decide) (by decide)) (show 0 ≤ (0 : Int32).toInt ∧ (0 : Int32).toInt ≤ 8 from by decide) (by first | exact b_p1 | assumption | exact ⟨by omega, by omega⟩) (by first | exact b_p2 | assumption | exact ⟨by omega, by omega⟩) (tVal.z0) (tRm.z0) (by omega) H.size) (cwV 2 hts gwsMX11_greatest_0_2 rfl rfl rfl hd_yX2_fill_RX2 (by decide +kernel)) (fz_pre (va_recv hK hP (ci := 2) (q0 := 3) rfl rfl) hPc hKc hDc) rfl rfl hl.1 rfl (lv_room (Nat.le_of_ble_eq_true rfl)) dX11_greatest_11 (by decide +kernel)) hS (fun q _ h => hFc q h) hFc (fun r3 u t9_ H locs ht hvm hw9 hB9 hz1 hk1 hS => ?_)
  obtain ⟨iN_reached_3, fN_free_3, fN_before_3⟩ := u
  try dsimp only at hw9 hB9
  obtain ⟨b_fN_before_3, f3_0, f3_1⟩ := hw9
  obtain ⟨hP, hD⟩ := va_join (wr := [(hX 0, .inr (11, [.ref (aX 0), .ref (hT 0), .ref (hM 0), .ref dX_sheet, .int iX_sheetLength, xX_reader, xX_solver, xX_prover, xX_values, xX_clauses, (.ref (hN 0))])), (aX 0, .inl (kX 0, 5, .inl fX_ready)), (dX_sheet, .inl (kX 1, nX_sheet, .inl fX_sheet))]) (w1 := WN hN aN kN 0 (fun _ => 0) (fun _ => 0) (fun _ => 0) (fun _ => 0) iN_reached_3 fN_free_3 fN_before_3 (fun _ => 0) (fun _ => 0) (fun _ => 0) 0 (fun _ => 0) (fun _ => 0)) hP hD [3, 4, 5, 6, 7, 8, 9, 10, 11, 12, 13, 14] [0, 1, 2] rfl rfl (by decide) (by decide) hk1 hFc (fz_P ht hB9.1) hB9.2
  have hP : va_P (dC, dI) vwCl (WX hX aX kX hT hM fX_ready fX_sheet dX_sheet nX_sheet iX_sheetLength xX_reader xX_solver xX_prover xX_values xX_clauses (.ref (hN 0)) ++ (WN hN aN kN 0 (fun _ => 0) (fun _ => 0) (fun _ => 0) (fun _ => 0) iN_reached_3 fN_free_3 fN_before_3 (fun _ => 0) (fun _ => 0) (fun _ => 0) 0 (fun _ => 0) (fun _ => 0))) H := hP.sub [0, 1, 2, 3, 4, 5, 6, 7, 8, 9, 10, 11, 12, 13, 14] rfl
  have hD : va_D A (WX hX aX kX hT hM fX_ready fX_sheet dX_sheet nX_sheet iX_sheetLength xX_reader xX_solver xX_prover xX_values xX_clauses (.ref (hN 0)) ++ (WN hN aN kN 0 (fun _ => 0) (fun _ => 0) (fun _ => 0) (fun _ => 0) iN_reached_3 fN_free_3 fN_before_3 (fun _ => 0) (fun _ => 0) (fun _ => 0) 0 (fun _ => 0) (fun _ => 0))) := hD.sub [0, 1, 2, 3, 4, 5, 6, 7, 8, 9, 10, 11, 12, 13, 14] (by decide) rfl
  have hpa := f3_0
  refine vx_ret ?_
  refine W.widen (k := 12) (n := 1478) (by decide +kernel) (by decide +kernel) ?_
  exact W.iret (v := r3) hx hb hr (fun t9_ ht hW => ⟨⟨r3, ((.ref (hN 0)), (WN hN aN kN 0 (fun _ => 0) (fun _ => 0) (fun _ => 0) (fun _ => 0) iN_reached_3 fN_free_3 fN_before_3 (fun _ => 0) (fun _ => 0) (fun _ => 0) 0 (fun _ => 0) (fun _ => 0))), rfl, ⟨(by (try dsimp only); omega), (by (try dsimp only); rw [ntZ_x (x := (0 : Int32).toInt) (by decide)]; exact hpa), (by (try dsimp only); exact Or.inr ⟨hN, aN, 0, (fun _ => 0), (fun _ => 0), (fun _ => 0), (fun _ => 0), iN_reached_3, fN_free_3, fN_before_3, (fun _ => 0), (fun _ => 0), (fun _ => 0), 0, (fun _ => 0), (fun _ => 0), (show 0 ≤ (0 : Int32).toInt ∧ (0 : Int32).toInt ≤ 40 from by decide), (zr_r (by decide) (by decide)), (zr_r (by decide) (by decide)), b_fN_before_3, (zr_r (by decide) (by decide)), (show 0 ≤ (0 : Int32).toInt ∧ (0 : Int32).toInt ≤ 8 from by decide), rfl, rfl, (ntZ_x (by have h7 : (0 : Int32).toInt = 0 := (by decide); omega))⟩)⟩, by rw [ht]; exact hP, hD⟩, hS.F ht⟩) hS.2.2 dX11_greatest_14
def wsMX11_cut_0 : List Cond := .code yX11_cut cX11_cut 3 (some .int) :: ([.fieldLink RX11 415 "OptimaWorks" "nets" "LOptimaWorks$NetDesk;", .fieldLink RX11 443 "OptimaWorks$NetDesk" "reached" "I"] ++ wsX20 ++ wsX110 ++ (va_wsS RX11 438 yX11_needNodes wsMX11_needNodes) ++ (wsV RX11 425 RX11 yX11_theNets wsMX11_theNets_0) ++ (wsV RX11 441 RX2 yX2_fill wsMX2_fill))
theorem iwsMX11_cut_0_in2 : ∀ w ∈ wsX20, w ∈ wsMX11_cut_0 := fun _ h => List.mem_cons_of_mem _ (List.mem_append_left _ (List.mem_append_left _ (List.mem_append_left _ (List.mem_append_left _ (List.mem_append_right _ h)))))
theorem iwsMX11_cut_0_in11 : ∀ w ∈ wsX110, w ∈ wsMX11_cut_0 := fun _ h => List.mem_cons_of_mem _ (List.mem_append_left _ (List.mem_append_left _ (List.mem_append_left _ (List.mem_append_right _ h))))
theorem gwsMX11_cut_0_0 : GoodIn wsMX11_cut_0 (va_wsS RX11 438 yX11_needNodes wsMX11_needNodes) := goodIn_sub (fun _ h => List.mem_cons_of_mem _ (List.mem_append_left _ (List.mem_append_left _ (List.mem_append_right _ h)))) (gdS (by decide +kernel) gdwsMX11_needNodes)
theorem gwsMX11_cut_0_1 : GoodIn wsMX11_cut_0 (wsV RX11 425 RX11 yX11_theNets wsMX11_theNets_0) := goodIn_sub (fun _ h => List.mem_cons_of_mem _ (List.mem_append_left _ (List.mem_append_right _ h))) (gdV (by decide +kernel) gdwsMX11_theNets_0)
theorem gwsMX11_cut_0_2 : GoodIn wsMX11_cut_0 (wsV RX11 441 RX2 yX2_fill wsMX2_fill) := goodIn_sub (fun _ h => List.mem_cons_of_mem _ (List.mem_append_right _ h)) (gdV (by decide +kernel) gdwsMX2_fill)
theorem gdwsMX11_cut_0 : wsMX11_cut_0.all goodWord = true := gdC rfl (gdA (gdA (gdA (gdA (gdA (by decide +kernel : ([.fieldLink RX11 415 "OptimaWorks" "nets" "LOptimaWorks$NetDesk;", .fieldLink RX11 443 "OptimaWorks$NetDesk" "reached" "I"] : List Cond).all goodWord = true) gdwsX20) gdwsX110) (gdS (by decide +kernel) gdwsMX11_needNodes)) (gdV (by decide +kernel) gdwsMX11_theNets_0)) (gdV (by decide +kernel) gdwsMX2_fill))
set_option maxHeartbeats 4000000 in
set_option maxRecDepth 100000 in
/-- a cut -/
theorem m_X11_cut_0 (l : Launch) (hst : l.stackTraces = false) (dC : Nat → ClassId) (dI : Nat → Nat → Nat) (hX : Nat → Nat) (aX : Nat → Nat) (kX : Nat → ClassId) (hT : Nat → Nat) (hM : Nat → Nat) (fX_ready : Nat → Int32) (fX_sheet : Nat → Int32) (dX_sheet : Nat) (nX_sheet : Nat) (iX_sheetLength : Int32) (xX_reader : Value) (xX_solver : Value) (xX_prover : Value) (xX_values : Value) (xX_clauses : Value) (kN : Nat → ClassId) (p1 : Int32) (p2 : Int32) (b_fX_sheet : ∀ q : Nat, (-128) ≤ (fX_sheet q).toInt ∧ (fX_sheet q).toInt ≤ 127) (b_nX_sheet : 64 ≤ nX_sheet ∧ nX_sheet ≤ 60000) (b_iX_sheetLength : 0 ≤ iX_sheetLength.toInt ∧ iX_sheetLength.toInt ≤ 30000) (b_shl : iX_sheetLength.toInt ≤ ((nX_sheet : Nat) : Int)) (sz : Nat) : vx_Met l yX11_cut wsMX11_cut_0 ({ frames := 7, cells := 12, slots := 1478, locals := 102 }) (va_Pc [.ref (hX 0), .int p1, .int p2] (fun U => U.heap.size = sz ∧ va_P (dC, dI) vwCl (WX hX aX kX hT hM fX_ready fX_sheet dX_sheet nX_sheet iX_sheetLength xX_reader xX_solver xX_prover xX_values xX_clauses .null) U.heap ∧ va_K (dC, dI) vwCl (tX kX ++ (tN kN)) U ∧ va_D (fun _ => True) (WX hX aX kX hT hM fX_ready fX_sheet dX_sheet nX_sheet iX_sheetLength xX_reader xX_solver xX_prover xX_values xX_clauses .null) ∧ CE (va_A (WX hX aX kX hT hM fX_ready fX_sheet dX_sheet nX_sheet iX_sheetLength xX_reader xX_solver xX_prover xX_values xX_clauses .null) sz) U U.heap)) (va_Qi (fun (r : Int32) (u : (Value) × (va_W)) => (((0 ≤ p1.toInt ∧ p1.toInt ≤ 11) ∧ 0 ≤ p2.toInt ∧ p2.toInt ≤ 11) ∧ p1.toInt ≠ p2.toInt) ∧ (mxC ntZ p1.toInt.toNat p2.toInt.toNat r) ∧ (NetO kN ntZ (u.1) (u.2))) (fun (u : (Value) × (va_W)) t => va_P (dC, dI) vwCl (WX hX aX kX hT hM fX_ready fX_sheet dX_sheet nX_sheet iX_sheetLength xX_reader xX_solver xX_prover xX_values xX_clauses (u.1) ++ ((u.2))) t.heap ∧ va_D (va_A (WX hX aX kX hT hM fX_ready fX_sheet dX_sheet nX_sheet iX_sheetLength xX_reader xX_solver xX_prover xX_values xX_clauses .null) sz) (WX hX aX kX hT hM fX_ready fX_sheet dX_sheet nX_sheet iX_sheetLength xX_reader xX_solver xX_prover xX_values xX_clauses (u.1) ++ ((u.2)))) (va_A (WX hX aX kX hT hM fX_ready fX_sheet dX_sheet nX_sheet iX_sheetLength xX_reader xX_solver xX_prover xX_values xX_clauses .null) sz)) (vx_X (fun (u : (Value) × (va_W)) => (NetO kN ntZ (u.1) (u.2))) (fun E (u : (Value) × (va_W)) t => ((E = "java/lang/IndexOutOfBoundsException" ∧ (¬ ((0 ≤ p1.toInt ∧ p1.toInt ≤ 11) ∧ 0 ≤ p2.toInt ∧ p2.toInt ≤ 11))) ∨ (E = "java/lang/IllegalArgumentException" ∧ (((0 ≤ p1.toInt ∧ p1.toInt ≤ 11) ∧ 0 ≤ p2.toInt ∧ p2.toInt ≤ 11) ∧ p1.toInt = p2.toInt))) ∧ va_P (dC, dI) vwCl (WX hX aX kX hT hM fX_ready fX_sheet dX_sheet nX_sheet iX_sheetLength xX_reader xX_solver xX_prover xX_values xX_clauses (u.1) ++ ((u.2))) t.heap ∧ va_D (va_A (WX hX aX kX hT hM fX_ready fX_sheet dX_sheet nX_sheet iX_sheetLength xX_reader xX_solver xX_prover xX_values xX_clauses .null) sz) (WX hX aX kX hT hM fX_ready fX_sheet dX_sheet nX_sheet iX_sheetLength xX_reader xX_solver xX_prover xX_values xX_clauses (u.1) ++ ((u.2)))) (va_A (WX hX aX kX hT hM fX_ready fX_sheet dX_sheet nX_sheet iX_sheetLength xX_reader xX_solver xX_prover xX_values xX_clauses .null) sz)) 12 1478 (va_A (WX hX aX kX hT hM fX_ready fX_sheet dX_sheet nX_sheet iX_sheetLength xX_reader xX_solver xX_prover xX_values xX_clauses .null) sz) := by
  refine vx_ofW (cc := cX11_cut) (maxL := 3) (ret := (some .int)) (by decide) rfl ?_
  intro p e s m args below meth c s₁ B hml htab hv
  obtain ⟨rfl, hsz, hP, hK, hD0, hE⟩ := hv
  have hx := B.exec
  have hb := B.bytes
  have hr := B.returns
  have hts := atoms_spec (ws := wsMX11_cut_0) B.pre
  have hown : s.vm.findClass RX11 = some m.cls := findClass_of_methodNamed B.named
  have hlocks := B.notSynchronized
  subst hsz
  have hD := hD0.self (sz := s.heap.size)
  generalize hAe : va_A (WX hX aX kX hT hM fX_ready fX_sheet dX_sheet nX_sheet iX_sheetLength xX_reader xX_solver xX_prover xX_values xX_clauses .null) s.heap.size = A at hD hE ⊢
  have hA : ∀ q : Nat, s.heap.size ≤ q → A q := fun q h => by rw [← hAe]; exact Or.inr h
  have hS : va_S A s.heap s.heap [] := va_S.rf
  have hl := lv_entry ([.ref (hX 0), .int p1, .int p2]) (n := 3) (Nat.le_of_ble_eq_true rfl)
  rw [lg_entry_eq]
  generalize (lg_sl ([.ref (hX 0), .int p1, .int p2]) ++ List.replicate (3 - (lg_sl ([.ref (hX 0), .int p1, .int p2])).length) Slot.unset).toArray = ls at hl ⊢
  have hl : lv_has ls 3 [(0, .ref (hX 0)), (1, .int p1), (2, .int p2)] := hl
  refine lv_iload_n hx hb dX11_cut_0 rfl (lv_at hl 1 rfl) ?_
  refine lv_iload_n hx hb dX11_cut_1 rfl (lv_at hl 2 rfl) ?_
  refine W.known (fun hz0 _ => ?_)
  have hFc := noneFree hS hA
  refine vx_callv (vx_runS (As := [.int p1, .int p2]) (rest := []) ⟨hx, hb, hml, hown, hts⟩ (m_X11_needNodes l hst dC dI p1 p2 s.heap.size) (va_cwS 2 hts gwsMX11_cut_0_0 rfl rfl rfl (by decide +kernel) ⟨by decide +kernel, by decide +kernel⟩) ⟨fun a U g mk q => by obtain ⟨q0, q1, qP, qK, qD, qE⟩ := q; exact ⟨q0, q1, qP, va_K.moved (u := U) (U := U.calling g mk a) (Vm.Alike.refl U.vm) qK, qD, qE.call⟩, fun U hU9 hW => ⟨rfl, by rw [hU9], by rw [hU9]; exact nilP, va_K.moved hW.alike (hK.sub (tys' := []) [] rfl), nilD, by rw [hU9]; exact (((hE : CE A s s.heap).kept hS.2.1).narrow (fun q h => hFc q h)).warm hW⟩⟩ rfl rfl hl.1 rfl (lv_room (Nat.le_of_ble_eq_true rfl)) dX11_cut_2 (by decide +kernel)) hS (fun q _ h => hFc q h) hFc (fun q _ h => hFc q h) (fun E ce q9 u t9_ H1 locs ht hvm hw9 hB9 hz1 hk1 hS hc1 hc2 hc3 => ?_) (fun u t9_ H1 locs ht hvm hw9 hB9 hz1 hk1 hS => ?_)
  · obtain ⟨hEx, hB9⟩ := hB9
    clear hw9
    clear hB9
    have hP := keepAll hP hk1
    generalize H1 = H at hP hS hc1 ⊢
    have hP : va_P (dC, dI) vwCl (WX hX aX kX hT hM fX_ready fX_sheet dX_sheet nX_sheet iX_sheetLength xX_reader xX_solver xX_prover xX_values xX_clauses .null) H := hP
    have hD : va_D A (WX hX aX kX hT hM fX_ready fX_sheet dX_sheet nX_sheet iX_sheetLength xX_reader xX_solver xX_prover xX_values xX_clauses .null) := hD
    exact vx_out (fun x hx9 => (htab x hx9).elim) hlocks hc1 hc2 hc3 (fun t9_ ht hvm => ⟨(.null, ([])), (by (try dsimp only); exact Or.inl ⟨rfl, rfl, rfl⟩), ⟨(by rcases hEx with h9 | h9; exact Or.inl ⟨h9.1, (by have h8 := h9.2; omega)⟩; exact Or.inr (⟨h9.1, (by have h8 := h9.2; omega)⟩)), by rw [ht]; first | exact hP | (simp only [List.append_nil]; exact hP), by first | exact hD | (simp only [List.append_nil]; exact hD)⟩, hS.F ht⟩) hS.2.2 (by decide +kernel) (by decide +kernel)
  have f1_0 := hw9
  try dsimp only at f1_0
  obtain ⟨_, hz8⟩ := hB9
  rw [ht] at hz8
  have hz9 : H1.size ≤ s.heap.size + 0 := by rw [hz8]; exact hz0
  refine W.tight (cells2 := 0) (slots2 := 0) hz9 (nS_0 hz9) ?_
  clear hz8 hz9
  have hP := keepAll hP hk1
  generalize H1 = H at hP hS ⊢
  have hP : va_P (dC, dI) vwCl (WX hX aX kX hT hM fX_ready fX_sheet dX_sheet nX_sheet iX_sheetLength xX_reader xX_solver xX_prover xX_values xX_clauses .null) H := hP
  have hD : va_D A (WX hX aX kX hT hM fX_ready fX_sheet dX_sheet nX_sheet iX_sheetLength xX_reader xX_solver xX_prover xX_values xX_clauses .null) := hD
  have hnn := f1_0
  refine lv_aload_n hx hb dX11_cut_5 rfl (lv_at hl 0 rfl) ?_
  have hFc := allFree hD hS hA
  refine va_callr (va_runV (As := []) (rest := []) ⟨hx, hb, hml, hown, hts⟩ (m_X11_theNets_0 l hst dC dI hX aX kX hT hM fX_ready fX_sheet dX_sheet nX_sheet iX_sheetLength xX_reader xX_solver xX_prover xX_values xX_clauses kN b_fX_sheet (by first | exact b_nX_sheet | assumption | exact ⟨by omega, by omega⟩) (b_iX_sheetLength) (by first | assumption | omega) H.size) (cwV 0 hts gwsMX11_cut_0_1 rfl rfl rfl hd_yX11_theNets_RX11 (by decide +kernel)) (fz_preE (va_recv hK hP (ci := 11) (q0 := 0) rfl rfl) hP hK hD (fun a U g mk qE => qE.call) (fun U hU9 hW => by rw [hU9]; exact (((hE : CE A s s.heap).kept hS.2.1).narrow (fun q h => hFc q h)).warm hW)) rfl rfl hl.1 rfl (lv_room (Nat.le_of_ble_eq_true rfl)) dX11_cut_6 (by decide +kernel)) hS (fun q _ h => hFc q h) hFc (fun u ra2 t9_ H locs ht hvm hw9 hB9 hz1 hk1 hS => ?_)
  obtain ⟨hN, aN⟩ := u
  try dsimp only at hw9 hB9
  obtain ⟨hra, hB9⟩ := hB9
  subst hra
  clear hw9
  have hP : va_P (dC, dI) vwCl (WX hX aX kX hT hM fX_ready fX_sheet dX_sheet nX_sheet iX_sheetLength xX_reader xX_solver xX_prover xX_values xX_clauses (.ref (hN 0)) ++ (WN hN aN kN 0 (fun _ => 0) (fun _ => 0) (fun _ => 0) (fun _ => 0) 0 (fun _ => 0) (fun _ => 0) (fun _ => 0) (fun _ => 0) (fun _ => 0) 0 (fun _ => 0) (fun _ => 0))) H := fz_P ht hB9.1
  have hD : va_D A (WX hX aX kX hT hM fX_ready fX_sheet dX_sheet nX_sheet iX_sheetLength xX_reader xX_solver xX_prover xX_values xX_clauses (.ref (hN 0)) ++ (WN hN aN kN 0 (fun _ => 0) (fun _ => 0) (fun _ => 0) (fun _ => 0) 0 (fun _ => 0) (fun _ => 0) (fun _ => 0) (fun _ => 0) (fun _ => 0) 0 (fun _ => 0) (fun _ => 0))) := hB9.2.weaken (fun _ q _ h => hFc q.1 h)
  refine W.widen (k := 12) (n := 1478) (by decide +kernel) (by decide +kernel) ?_
  refine lv_iload_n hx hb dX11_cut_9 rfl (lv_at hl 1 rfl) ?_
  refine lv_iload_n hx hb dX11_cut_10 rfl (lv_at hl 2 rfl) ?_
  have hPc : va_P (dC, dI) vwCl (WN hN aN kN 0 (fun _ => 0) (fun _ => 0) (fun _ => 0) (fun _ => 0) 0 (fun _ => 0) (fun _ => 0) (fun _ => 0) (fun _ => 0) (fun _ => 0) 0 (fun _ => 0) (fun _ => 0)) _ := hP.sub [3, 4, 5, 6, 7, 8, 9, 10, 11, 12, 13, 14] rfl
  have hDc : va_D _ (WN hN aN kN 0 (fun _ => 0) (fun _ => 0) (fun _ => 0) (fun _ => 0) 0 (fun _ => 0) (fun _ => 0) (fun _ => 0) (fun _ => 0) (fun _ => 0) 0 (fun _ => 0) (fun _ => 0)) := hD.sub [3, 4, 5, 6, 7, 8, 9, 10, 11, 12, 13, 14] (by decide) rfl
  have hKc : va_K (dC, dI) vwCl (tN kN) _ := hK.sub [2, 3, 4, 5, 6, 7, 8, 9, 10, 11, 12] rfl
  have hFc := va_free (wc := WN hN aN kN 0 (fun _ => 0) (fun _ => 0) (fun _ => 0) (fun _ => 0) 0 (fun _ => 0) (fun _ => 0) (fun _ => 0) (fun _ => 0) (fun _ => 0) 0 (fun _ => 0) (fun _ => 0)) hD hS hA [3, 4, 5, 6, 7, 8, 9, 10, 11, 12, 13, 14] rfl
  refine va_calli (va_runV (As := [.int p1, .int p2]) (rest := []) ⟨hx, hb, hml, hown, hts⟩ (m_X2_fill l dC dI hN aN kN 0 (fun _ => 0) (fun _ => 0) (fun _ => 0) (fun _ => 0) 0 (fun _ => 0) (fun _ => 0) (fun _ => 0) (fun _ => 0) (fun _ => 0) 0 (fun _ => 0) (fun _ => 0) p1 p2 (show 0 ≤ (0 : Int32).toInt ∧ (0 : Int32).toInt ≤ 40 from by decide) (zr_r (by decide) (by decide)) (zr_r (by decide) (by decide)) (zr_r (by decide) (by decide)) (zr_r (by decide) (by decide)) (show 0 ≤ (0 : Int32).toInt ∧ (0 : Int32).toInt ≤ 8 from by decide) (by first | exact b_p1 | assumption | exact ⟨by omega, by omega⟩) (by first | exact b_p2 | assumption | exact ⟨by omega, by omega⟩) (tVal.z0) (tRm.z0) (by omega) H.size) (cwV 2 hts gwsMX11_cut_0_2 rfl rfl rfl hd_yX2_fill_RX2 (by decide +kernel)) (fz_pre (va_recv hK hP (ci := 2) (q0 := 3) rfl rfl) hPc hKc hDc) rfl rfl hl.1 rfl (lv_room (Nat.le_of_ble_eq_true rfl)) dX11_cut_11 (by decide +kernel)) hS (fun q _ h => hFc q h) hFc (fun r3 u t9_ H locs ht hvm hw9 hB9 hz1 hk1 hS => ?_)
  obtain ⟨iN_reached_3, fN_free_3, fN_before_3⟩ := u
  try dsimp only at hw9 hB9
  obtain ⟨b_fN_before_3, f3_0, f3_1⟩ := hw9
  obtain ⟨hP, hD⟩ := va_join (wr := [(hX 0, .inr (11, [.ref (aX 0), .ref (hT 0), .ref (hM 0), .ref dX_sheet, .int iX_sheetLength, xX_reader, xX_solver, xX_prover, xX_values, xX_clauses, (.ref (hN 0))])), (aX 0, .inl (kX 0, 5, .inl fX_ready)), (dX_sheet, .inl (kX 1, nX_sheet, .inl fX_sheet))]) (w1 := WN hN aN kN 0 (fun _ => 0) (fun _ => 0) (fun _ => 0) (fun _ => 0) iN_reached_3 fN_free_3 fN_before_3 (fun _ => 0) (fun _ => 0) (fun _ => 0) 0 (fun _ => 0) (fun _ => 0)) hP hD [3, 4, 5, 6, 7, 8, 9, 10, 11, 12, 13, 14] [0, 1, 2] rfl rfl (by decide) (by decide) hk1 hFc (fz_P ht hB9.1) hB9.2
  have hP : va_P (dC, dI) vwCl (WX hX aX kX hT hM fX_ready fX_sheet dX_sheet nX_sheet iX_sheetLength xX_reader xX_solver xX_prover xX_values xX_clauses (.ref (hN 0)) ++ (WN hN aN kN 0 (fun _ => 0) (fun _ => 0) (fun _ => 0) (fun _ => 0) iN_reached_3 fN_free_3 fN_before_3 (fun _ => 0) (fun _ => 0) (fun _ => 0) 0 (fun _ => 0) (fun _ => 0))) H := hP.sub [0, 1, 2, 3, 4, 5, 6, 7, 8, 9, 10, 11, 12, 13, 14] rfl
  have hD : va_D A (WX hX aX kX hT hM fX_ready fX_sheet dX_sheet nX_sheet iX_sheetLength xX_reader xX_solver xX_prover xX_values xX_clauses (.ref (hN 0)) ++ (WN hN aN kN 0 (fun _ => 0) (fun _ => 0) (fun _ => 0) (fun _ => 0) iN_reached_3 fN_free_3 fN_before_3 (fun _ => 0) (fun _ => 0) (fun _ => 0) 0 (fun _ => 0) (fun _ => 0))) := hD.sub [0, 1, 2, 3, 4, 5, 6, 7, 8, 9, 10, 11, 12, 13, 14] (by decide) rfl
  have hpa := f3_1
  refine lv_pop hx hb dX11_cut_14 rfl ?_
  refine lv_aload_n hx hb dX11_cut_15 rfl (lv_at hl 0 rfl) ?_
  refine va_get (D := (dC, dI)) (ci := 11) (v := .ref (hN 0)) (C := RX11) (T := TX11) (N := 11) hx hb hts iwsMX11_cut_0_in11 hown hK hP 0 rfl rfl 10 (by decide) (hts (.fieldLink RX11 415 "OptimaWorks" "nets" "LOptimaWorks$NetDesk;") (by decide +kernel)) (fun _ h9 => h9) rfl dX11_cut_16 ?_
  refine va_get (D := (dC, dI)) (ci := 2) (v := .int iN_reached_3) (C := RX2) (T := TX2) (N := 14) hx hb hts iwsMX11_cut_0_in2 hown hK hP 3 rfl rfl 5 (by decide) (hts (.fieldLink RX11 443 "OptimaWorks$NetDesk" "reached" "I") (by decide +kernel)) (fun _ h9 => h9) rfl dX11_cut_19 ?_
  refine vx_ret ?_
  refine W.widen (k := 12) (n := 1478) (by decide +kernel) (by decide +kernel) ?_
  exact W.iret (v := iN_reached_3) hx hb hr (fun t9_ ht hW => ⟨⟨iN_reached_3, ((.ref (hN 0)), (WN hN aN kN 0 (fun _ => 0) (fun _ => 0) (fun _ => 0) (fun _ => 0) iN_reached_3 fN_free_3 fN_before_3 (fun _ => 0) (fun _ => 0) (fun _ => 0) 0 (fun _ => 0) (fun _ => 0))), rfl, ⟨(by (try dsimp only); omega), (by (try dsimp only); rw [ntZ_x (x := (0 : Int32).toInt) (by decide)]; exact hpa), (by (try dsimp only); exact Or.inr ⟨hN, aN, 0, (fun _ => 0), (fun _ => 0), (fun _ => 0), (fun _ => 0), iN_reached_3, fN_free_3, fN_before_3, (fun _ => 0), (fun _ => 0), (fun _ => 0), 0, (fun _ => 0), (fun _ => 0), (show 0 ≤ (0 : Int32).toInt ∧ (0 : Int32).toInt ≤ 40 from by decide), (zr_r (by decide) (by decide)), (zr_r (by decide) (by decide)), b_fN_before_3, (zr_r (by decide) (by decide)), (show 0 ≤ (0 : Int32).toInt ∧ (0 : Int32).toInt ≤ 8 from by decide), rfl, rfl, (ntZ_x (by have h7 : (0 : Int32).toInt = 0 := (by decide); omega))⟩)⟩, by rw [ht]; exact hP, hD⟩, hS.F ht⟩) hS.2.2 dX11_cut_22
def wsMX11_cheapest_0 : List Cond := .code yX11_cheapest cX11_cheapest 4 (some .int) :: ([] ++ (va_wsS RX11 438 yX11_needNodes wsMX11_needNodes) ++ (wsV RX11 425 RX11 yX11_theNets wsMX11_theNets_0) ++ (wsV RX11 446 RX2 yX2_leastCost wsMX2_leastCost))
theorem gwsMX11_cheapest_0_0 : GoodIn wsMX11_cheapest_0 (va_wsS RX11 438 yX11_needNodes wsMX11_needNodes) := goodIn_sub (fun _ h => List.mem_cons_of_mem _ (List.mem_append_left _ (List.mem_append_left _ (List.mem_append_right _ h)))) (gdS (by decide +kernel) gdwsMX11_needNodes)
theorem gwsMX11_cheapest_0_1 : GoodIn wsMX11_cheapest_0 (wsV RX11 425 RX11 yX11_theNets wsMX11_theNets_0) := goodIn_sub (fun _ h => List.mem_cons_of_mem _ (List.mem_append_left _ (List.mem_append_right _ h))) (gdV (by decide +kernel) gdwsMX11_theNets_0)
theorem gwsMX11_cheapest_0_2 : GoodIn wsMX11_cheapest_0 (wsV RX11 446 RX2 yX2_leastCost wsMX2_leastCost) := goodIn_sub (fun _ h => List.mem_cons_of_mem _ (List.mem_append_right _ h)) (gdV (by decide +kernel) gdwsMX2_leastCost)
theorem gdwsMX11_cheapest_0 : wsMX11_cheapest_0.all goodWord = true := gdC rfl (gdA (gdA (gdA (by decide +kernel : ([] : List Cond).all goodWord = true) (gdS (by decide +kernel) gdwsMX11_needNodes)) (gdV (by decide +kernel) gdwsMX11_theNets_0)) (gdV (by decide +kernel) gdwsMX2_leastCost))
set_option maxHeartbeats 4000000 in
set_option maxRecDepth 100000 in
/-- the cheapest -/
theorem m_X11_cheapest_0 (l : Launch) (hst : l.stackTraces = false) (dC : Nat → ClassId) (dI : Nat → Nat → Nat) (hX : Nat → Nat) (aX : Nat → Nat) (kX : Nat → ClassId) (hT : Nat → Nat) (hM : Nat → Nat) (fX_ready : Nat → Int32) (fX_sheet : Nat → Int32) (dX_sheet : Nat) (nX_sheet : Nat) (iX_sheetLength : Int32) (xX_reader : Value) (xX_solver : Value) (xX_prover : Value) (xX_values : Value) (xX_clauses : Value) (kN : Nat → ClassId) (p1 : Int32) (p2 : Int32) (p3 : Int32) (b_fX_sheet : ∀ q : Nat, (-128) ≤ (fX_sheet q).toInt ∧ (fX_sheet q).toInt ≤ 127) (b_nX_sheet : 64 ≤ nX_sheet ∧ nX_sheet ≤ 60000) (b_iX_sheetLength : 0 ≤ iX_sheetLength.toInt ∧ iX_sheetLength.toInt ≤ 30000) (b_shl : iX_sheetLength.toInt ≤ ((nX_sheet : Nat) : Int)) (sz : Nat) : vx_Met l yX11_cheapest wsMX11_cheapest_0 ({ frames := 7, cells := 12, slots := 1478, locals := 102 }) (va_Pc [.ref (hX 0), .int p1, .int p2, .int p3] (fun U => U.heap.size = sz ∧ va_P (dC, dI) vwCl (WX hX aX kX hT hM fX_ready fX_sheet dX_sheet nX_sheet iX_sheetLength xX_reader xX_solver xX_prover xX_values xX_clauses .null) U.heap ∧ va_K (dC, dI) vwCl (tX kX ++ (tN kN)) U ∧ va_D (fun _ => True) (WX hX aX kX hT hM fX_ready fX_sheet dX_sheet nX_sheet iX_sheetLength xX_reader xX_solver xX_prover xX_values xX_clauses .null) ∧ CE (va_A (WX hX aX kX hT hM fX_ready fX_sheet dX_sheet nX_sheet iX_sheetLength xX_reader xX_solver xX_prover xX_values xX_clauses .null) sz) U U.heap)) (va_Qi (fun (r : Int32) (u : (Value) × (va_W)) => (((0 ≤ p1.toInt ∧ p1.toInt ≤ 11) ∧ 0 ≤ p2.toInt ∧ p2.toInt ≤ 11) ∧ p1.toInt ≠ p2.toInt) ∧ (mnC ntZ p1.toInt.toNat p2.toInt.toNat p3.toInt r.toInt) ∧ (NetO kN ntZ (u.1) (u.2))) (fun (u : (Value) × (va_W)) t => va_P (dC, dI) vwCl (WX hX aX kX hT hM fX_ready fX_sheet dX_sheet nX_sheet iX_sheetLength xX_reader xX_solver xX_prover xX_values xX_clauses (u.1) ++ ((u.2))) t.heap ∧ va_D (va_A (WX hX aX kX hT hM fX_ready fX_sheet dX_sheet nX_sheet iX_sheetLength xX_reader xX_solver xX_prover xX_values xX_clauses .null) sz) (WX hX aX kX hT hM fX_ready fX_sheet dX_sheet nX_sheet iX_sheetLength xX_reader xX_solver xX_prover xX_values xX_clauses (u.1) ++ ((u.2)))) (va_A (WX hX aX kX hT hM fX_ready fX_sheet dX_sheet nX_sheet iX_sheetLength xX_reader xX_solver xX_prover xX_values xX_clauses .null) sz)) (vx_X (fun (u : (Value) × (va_W)) => (NetO kN ntZ (u.1) (u.2))) (fun E (u : (Value) × (va_W)) t => ((E = "java/lang/IndexOutOfBoundsException" ∧ (¬ ((0 ≤ p1.toInt ∧ p1.toInt ≤ 11) ∧ 0 ≤ p2.toInt ∧ p2.toInt ≤ 11))) ∨ (E = "java/lang/IllegalArgumentException" ∧ (((0 ≤ p1.toInt ∧ p1.toInt ≤ 11) ∧ 0 ≤ p2.toInt ∧ p2.toInt ≤ 11) ∧ p1.toInt = p2.toInt))) ∧ va_P (dC, dI) vwCl (WX hX aX kX hT hM fX_ready fX_sheet dX_sheet nX_sheet iX_sheetLength xX_reader xX_solver xX_prover xX_values xX_clauses (u.1) ++ ((u.2))) t.heap ∧ va_D (va_A (WX hX aX kX hT hM fX_ready fX_sheet dX_sheet nX_sheet iX_sheetLength xX_reader xX_solver xX_prover xX_values xX_clauses .null) sz) (WX hX aX kX hT hM fX_ready fX_sheet dX_sheet nX_sheet iX_sheetLength xX_reader xX_solver xX_prover xX_values xX_clauses (u.1) ++ ((u.2)))) (va_A (WX hX aX kX hT hM fX_ready fX_sheet dX_sheet nX_sheet iX_sheetLength xX_reader xX_solver xX_prover xX_values xX_clauses .null) sz)) 12 1478 (va_A (WX hX aX kX hT hM fX_ready fX_sheet dX_sheet nX_sheet iX_sheetLength xX_reader xX_solver xX_prover xX_values xX_clauses .null) sz) := by
  refine vx_ofW (cc := cX11_cheapest) (maxL := 4) (ret := (some .int)) (by decide) rfl ?_
  intro p e s m args below meth c s₁ B hml htab hv
  obtain ⟨rfl, hsz, hP, hK, hD0, hE⟩ := hv
  have hx := B.exec
  have hb := B.bytes
  have hr := B.returns
  have hts := atoms_spec (ws := wsMX11_cheapest_0) B.pre
  have hown : s.vm.findClass RX11 = some m.cls := findClass_of_methodNamed B.named
  have hlocks := B.notSynchronized
  subst hsz
  have hD := hD0.self (sz := s.heap.size)
  generalize hAe : va_A (WX hX aX kX hT hM fX_ready fX_sheet dX_sheet nX_sheet iX_sheetLength xX_reader xX_solver xX_prover xX_values xX_clauses .null) s.heap.size = A at hD hE ⊢
  have hA : ∀ q : Nat, s.heap.size ≤ q → A q := fun q h => by rw [← hAe]; exact Or.inr h
  have hS : va_S A s.heap s.heap [] := va_S.rf
  have hl := lv_entry ([.ref (hX 0), .int p1, .int p2, .int p3]) (n := 4) (Nat.le_of_ble_eq_true rfl)
  rw [lg_entry_eq]
  generalize (lg_sl ([.ref (hX 0), .int p1, .int p2, .int p3]) ++ List.replicate (4 - (lg_sl ([.ref (hX 0), .int p1, .int p2, .int p3])).length) Slot.unset).toArray = ls at hl ⊢
  have hl : lv_has ls 4 [(0, .ref (hX 0)), (1, .int p1), (2, .int p2), (3, .int p3)] := hl
  refine lv_iload_n hx hb dX11_cheapest_0 rfl (lv_at hl 1 rfl) ?_
  refine lv_iload_n hx hb dX11_cheapest_1 rfl (lv_at hl 2 rfl) ?_
  refine W.known (fun hz0 _ => ?_)
  have hFc := noneFree hS hA
  refine vx_callv (vx_runS (As := [.int p1, .int p2]) (rest := []) ⟨hx, hb, hml, hown, hts⟩ (m_X11_needNodes l hst dC dI p1 p2 s.heap.size) (va_cwS 2 hts gwsMX11_cheapest_0_0 rfl rfl rfl (by decide +kernel) ⟨by decide +kernel, by decide +kernel⟩) ⟨fun a U g mk q => by obtain ⟨q0, q1, qP, qK, qD, qE⟩ := q; exact ⟨q0, q1, qP, va_K.moved (u := U) (U := U.calling g mk a) (Vm.Alike.refl U.vm) qK, qD, qE.call⟩, fun U hU9 hW => ⟨rfl, by rw [hU9], by rw [hU9]; exact nilP, va_K.moved hW.alike (hK.sub (tys' := []) [] rfl), nilD, by rw [hU9]; exact (((hE : CE A s s.heap).kept hS.2.1).narrow (fun q h => hFc q h)).warm hW⟩⟩ rfl rfl hl.1 rfl (lv_room (Nat.le_of_ble_eq_true rfl)) dX11_cheapest_2 (by decide +kernel)) hS (fun q _ h => hFc q h) hFc (fun q _ h => hFc q h) (fun E ce q9 u t9_ H1 locs ht hvm hw9 hB9 hz1 hk1 hS hc1 hc2 hc3 => ?_) (fun u t9_ H1 locs ht hvm hw9 hB9 hz1 hk1 hS => ?_)
  · obtain ⟨hEx, hB9⟩ := hB9
    clear hw9
    clear hB9
    have hP := keepAll hP hk1
    generalize H1 = H at hP hS hc1 ⊢
    have hP : va_P (dC, dI) vwCl (WX hX aX kX hT hM fX_ready fX_sheet dX_sheet nX_sheet iX_sheetLength xX_reader xX_solver xX_prover xX_values xX_clauses .null) H := hP
    have hD : va_D A (WX hX aX kX hT hM fX_ready fX_sheet dX_sheet nX_sheet iX_sheetLength xX_reader xX_solver xX_prover xX_values xX_clauses .null) := hD
    exact vx_out (fun x hx9 => (htab x hx9).elim) hlocks hc1 hc2 hc3 (fun t9_ ht hvm => ⟨(.null, ([])), (by (try dsimp only); exact Or.inl ⟨rfl, rfl, rfl⟩), ⟨(by rcases hEx with h9 | h9; exact Or.inl ⟨h9.1, (by have h8 := h9.2; omega)⟩; exact Or.inr (⟨h9.1, (by have h8 := h9.2; omega)⟩)), by rw [ht]; first | exact hP | (simp only [List.append_nil]; exact hP), by first | exact hD | (simp only [List.append_nil]; exact hD)⟩, hS.F ht⟩) hS.2.2 (by decide +kernel) (by decide +kernel)
  have f1_0 := hw9
  try dsimp only at f1_0
  obtain ⟨_, hz8⟩ := hB9
  rw [ht] at hz8
  have hz9 : H1.size ≤ s.heap.size + 0 := by rw [hz8]; exact hz0
  refine W.tight (cells2 := 0) (slots2 := 0) hz9 (nS_0 hz9) ?_
  clear hz8 hz9
  have hP := keepAll hP hk1
  generalize H1 = H at hP hS ⊢
  have hP : va_P (dC, dI) vwCl (WX hX aX kX hT hM fX_ready fX_sheet dX_sheet nX_sheet iX_sheetLength xX_reader xX_solver xX_prover xX_values xX_clauses .null) H := hP
  have hD : va_D A (WX hX aX kX hT hM fX_ready fX_sheet dX_sheet nX_sheet iX_sheetLength xX_reader xX_solver xX_prover xX_values xX_clauses .null) := hD
  have hnn := f1_0
  refine lv_aload_n hx hb dX11_cheapest_5 rfl (lv_at hl 0 rfl) ?_
  have hFc := allFree hD hS hA
  refine va_callr (va_runV (As := []) (rest := []) ⟨hx, hb, hml, hown, hts⟩ (m_X11_theNets_0 l hst dC dI hX aX kX hT hM fX_ready fX_sheet dX_sheet nX_sheet iX_sheetLength xX_reader xX_solver xX_prover xX_values xX_clauses kN b_fX_sheet (by first | exact b_nX_sheet | assumption | exact ⟨by omega, by omega⟩) (b_iX_sheetLength) (by first | assumption | omega) H.size) (cwV 0 hts gwsMX11_cheapest_0_1 rfl rfl rfl hd_yX11_theNets_RX11 (by decide +kernel)) (fz_preE (va_recv hK hP (ci := 11) (q0 := 0) rfl rfl) hP hK hD (fun a U g mk qE => qE.call) (fun U hU9 hW => by rw [hU9]; exact (((hE : CE A s s.heap).kept hS.2.1).narrow (fun q h => hFc q h)).warm hW)) rfl rfl hl.1 rfl (lv_room (Nat.le_of_ble_eq_true rfl)) dX11_cheapest_6 (by decide +kernel)) hS (fun q _ h => hFc q h) hFc (fun u ra2 t9_ H locs ht hvm hw9 hB9 hz1 hk1 hS => ?_)
  obtain ⟨hN, aN⟩ := u
  try dsimp only at hw9 hB9
  obtain ⟨hra, hB9⟩ := hB9
  subst hra
  clear hw9
  have hP : va_P (dC, dI) vwCl (WX hX aX kX hT hM fX_ready fX_sheet dX_sheet nX_sheet iX_sheetLength xX_reader xX_solver xX_prover xX_values xX_clauses (.ref (hN 0)) ++ (WN hN aN kN 0 (fun _ => 0) (fun _ => 0) (fun _ => 0) (fun _ => 0) 0 (fun _ => 0) (fun _ => 0) (fun _ => 0) (fun _ => 0) (fun _ => 0) 0 (fun _ => 0) (fun _ => 0))) H := fz_P ht hB9.1
  have hD : va_D A (WX hX aX kX hT hM fX_ready fX_sheet dX_sheet nX_sheet iX_sheetLength xX_reader xX_solver xX_prover xX_values xX_clauses (.ref (hN 0)) ++ (WN hN aN kN 0 (fun _ => 0) (fun _ => 0) (fun _ => 0) (fun _ => 0) 0 (fun _ => 0) (fun _ => 0) (fun _ => 0) (fun _ => 0) (fun _ => 0) 0 (fun _ => 0) (fun _ => 0))) := hB9.2.weaken (fun _ q _ h => hFc q.1 h)
  refine W.widen (k := 12) (n := 1478) (by decide +kernel) (by decide +kernel) ?_
  refine lv_iload_n hx hb dX11_cheapest_9 rfl (lv_at hl 1 rfl) ?_
  refine lv_iload_n hx hb dX11_cheapest_10 rfl (lv_at hl 2 rfl) ?_
  refine lv_iload_n hx hb dX11_cheapest_11 rfl (lv_at hl 3 rfl) ?_
  have hPc : va_P (dC, dI) vwCl (WN hN aN kN 0 (fun _ => 0) (fun _ => 0) (fun _ => 0) (fun _ => 0) 0 (fun _ => 0) (fun _ => 0) (fun _ => 0) (fun _ => 0) (fun _ => 0) 0 (fun _ => 0) (fun _ => 0)) _ := hP.sub [3, 4, 5, 6, 7, 8, 9, 10, 11, 12, 13, 14] rfl
  have hDc : va_D _ (WN hN aN kN 0 (fun _ => 0) (fun _ => 0) (fun _ => 0) (fun _ => 0) 0 (fun _ => 0) (fun _ => 0) (fun _ => 0) (fun _ => 0) (fun _ => 0) 0 (fun _ => 0) (fun _ => 0)) := hD.sub [3, 4, 5, 6, 7, 8, 9, 10, 11, 12, 13, 14] (by decide) rfl
  have hKc : va_K (dC, dI) vwCl (tN kN) _ := hK.sub [2, 3, 4, 5, 6, 7, 8, 9, 10, 11, 12] rfl
  have hFc := va_free (wc := WN hN aN kN 0 (fun _ => 0) (fun _ => 0) (fun _ => 0) (fun _ => 0) 0 (fun _ => 0) (fun _ => 0) (fun _ => 0) (fun _ => 0) (fun _ => 0) 0 (fun _ => 0) (fun _ => 0)) hD hS hA [3, 4, 5, 6, 7, 8, 9, 10, 11, 12, 13, 14] rfl
  refine va_calli (va_runV (As := [.int p1, .int p2, .int p3]) (rest := []) ⟨hx, hb, hml, hown, hts⟩ (m_X2_leastCost l dC dI hN aN kN 0 (fun _ => 0) (fun _ => 0) (fun _ => 0) (fun _ => 0) 0 (fun _ => 0) (fun _ => 0) (fun _ => 0) (fun _ => 0) (fun _ => 0) 0 (fun _ => 0) (fun _ => 0) p1 p2 p3 (show 0 ≤ (0 : Int32).toInt ∧ (0 : Int32).toInt ≤ 40 from by decide) (zr_r (by decide) (by decide)) (zr_r (by decide) (by decide)) (zr_r (by decide) (by decide)) (zr_r (by decide) (by decide)) (show 0 ≤ (0 : Int32).toInt ∧ (0 : Int32).toInt ≤ 8 from by decide) (by first | exact b_p1 | assumption | exact ⟨by omega, by omega⟩) (by first | exact b_p2 | assumption | exact ⟨by omega, by omega⟩) (ArO.z0) (by omega) H.size) (cwV 3 hts gwsMX11_cheapest_0_2 rfl rfl rfl hd_yX2_leastCost_RX2 (by decide +kernel)) (fz_pre (va_recv hK hP (ci := 2) (q0 := 3) rfl rfl) hPc hKc hDc) rfl rfl hl.1 rfl (lv_room (Nat.le_of_ble_eq_true rfl)) dX11_cheapest_12 (by decide +kernel)) hS (fun q _ h => hFc q h) hFc (fun r3 u t9_ H locs ht hvm hw9 hB9 hz1 hk1 hS => ?_)
  obtain ⟨fN_before_3, fN_flow_3, fN_length_3⟩ := u
  try dsimp only at hw9 hB9
  obtain ⟨b_fN_before_3, f3_0⟩ := hw9
  obtain ⟨hP, hD⟩ := va_join (wr := [(hX 0, .inr (11, [.ref (aX 0), .ref (hT 0), .ref (hM 0), .ref dX_sheet, .int iX_sheetLength, xX_reader, xX_solver, xX_prover, xX_values, xX_clauses, (.ref (hN 0))])), (aX 0, .inl (kX 0, 5, .inl fX_ready)), (dX_sheet, .inl (kX 1, nX_sheet, .inl fX_sheet))]) (w1 := WN hN aN kN 0 (fun _ => 0) (fun _ => 0) (fun _ => 0) (fun _ => 0) 0 (fun _ => 0) fN_before_3 fN_flow_3 fN_length_3 (fun _ => 0) 0 (fun _ => 0) (fun _ => 0)) hP hD [3, 4, 5, 6, 7, 8, 9, 10, 11, 12, 13, 14] [0, 1, 2] rfl rfl (by decide) (by decide) hk1 hFc (fz_P ht hB9.1) hB9.2
  have hP : va_P (dC, dI) vwCl (WX hX aX kX hT hM fX_ready fX_sheet dX_sheet nX_sheet iX_sheetLength xX_reader xX_solver xX_prover xX_values xX_clauses (.ref (hN 0)) ++ (WN hN aN kN 0 (fun _ => 0) (fun _ => 0) (fun _ => 0) (fun _ => 0) 0 (fun _ => 0) fN_before_3 fN_flow_3 fN_length_3 (fun _ => 0) 0 (fun _ => 0) (fun _ => 0))) H := hP.sub [0, 1, 2, 3, 4, 5, 6, 7, 8, 9, 10, 11, 12, 13, 14] rfl
  have hD : va_D A (WX hX aX kX hT hM fX_ready fX_sheet dX_sheet nX_sheet iX_sheetLength xX_reader xX_solver xX_prover xX_values xX_clauses (.ref (hN 0)) ++ (WN hN aN kN 0 (fun _ => 0) (fun _ => 0) (fun _ => 0) (fun _ => 0) 0 (fun _ => 0) fN_before_3 fN_flow_3 fN_length_3 (fun _ => 0) 0 (fun _ => 0) (fun _ => 0))) := hD.sub [0, 1, 2, 3, 4, 5, 6, 7, 8, 9, 10, 11, 12, 13, 14] (by decide) rfl
  have hpa := f3_0
  refine vx_ret ?_
  refine W.widen (k := 12) (n := 1478) (by decide +kernel) (by decide +kernel) ?_
  exact W.iret (v := r3) hx hb hr (fun t9_ ht hW => ⟨⟨r3, ((.ref (hN 0)), (WN hN aN kN 0 (fun _ => 0) (fun _ => 0) (fun _ => 0) (fun _ => 0) 0 (fun _ => 0) fN_before_3 fN_flow_3 fN_length_3 (fun _ => 0) 0 (fun _ => 0) (fun _ => 0))), rfl, ⟨(by (try dsimp only); omega), (by (try dsimp only); rw [ntZ_x (x := (0 : Int32).toInt) (by decide)]; exact hpa), (by (try dsimp only); exact Or.inr ⟨hN, aN, 0, (fun _ => 0), (fun _ => 0), (fun _ => 0), (fun _ => 0), 0, (fun _ => 0), fN_before_3, fN_flow_3, fN_length_3, (fun _ => 0), 0, (fun _ => 0), (fun _ => 0), (show 0 ≤ (0 : Int32).toInt ∧ (0 : Int32).toInt ≤ 40 from by decide), (zr_r (by decide) (by decide)), (zr_r (by decide) (by decide)), b_fN_before_3, (zr_r (by decide) (by decide)), (show 0 ≤ (0 : Int32).toInt ∧ (0 : Int32).toInt ≤ 8 from by decide), rfl, rfl, (ntZ_x (by have h7 : (0 : Int32).toInt = 0 := (by decide); omega))⟩)⟩, by rw [ht]; exact hP, hD⟩, hS.F ht⟩) hS.2.2 dX11_cheapest_15
def wsMX11_path_0 : List Cond := .code yX11_path cX11_path 4 (some .int) :: ([] ++ (va_wsS RX11 438 yX11_needNodes wsMX11_needNodes) ++ (wsV RX11 425 RX11 yX11_theNets wsMX11_theNets_0) ++ (wsV RX11 449 RX2 yX2_shortest wsMX2_shortest))
theorem gwsMX11_path_0_0 : GoodIn wsMX11_path_0 (va_wsS RX11 438 yX11_needNodes wsMX11_needNodes) := goodIn_sub (fun _ h => List.mem_cons_of_mem _ (List.mem_append_left _ (List.mem_append_left _ (List.mem_append_right _ h)))) (gdS (by decide +kernel) gdwsMX11_needNodes)
theorem gwsMX11_path_0_1 : GoodIn wsMX11_path_0 (wsV RX11 425 RX11 yX11_theNets wsMX11_theNets_0) := goodIn_sub (fun _ h => List.mem_cons_of_mem _ (List.mem_append_left _ (List.mem_append_right _ h))) (gdV (by decide +kernel) gdwsMX11_theNets_0)
theorem gwsMX11_path_0_2 : GoodIn wsMX11_path_0 (wsV RX11 449 RX2 yX2_shortest wsMX2_shortest) := goodIn_sub (fun _ h => List.mem_cons_of_mem _ (List.mem_append_right _ h)) (gdV (by decide +kernel) gdwsMX2_shortest)
theorem gdwsMX11_path_0 : wsMX11_path_0.all goodWord = true := gdC rfl (gdA (gdA (gdA (by decide +kernel : ([] : List Cond).all goodWord = true) (gdS (by decide +kernel) gdwsMX11_needNodes)) (gdV (by decide +kernel) gdwsMX11_theNets_0)) (gdV (by decide +kernel) gdwsMX2_shortest))
set_option maxHeartbeats 4000000 in
set_option maxRecDepth 100000 in
/-- a path -/
theorem m_X11_path_0 (l : Launch) (hst : l.stackTraces = false) (dC : Nat → ClassId) (dI : Nat → Nat → Nat) (hX : Nat → Nat) (aX : Nat → Nat) (kX : Nat → ClassId) (hT : Nat → Nat) (hM : Nat → Nat) (fX_ready : Nat → Int32) (fX_sheet : Nat → Int32) (dX_sheet : Nat) (nX_sheet : Nat) (iX_sheetLength : Int32) (xX_reader : Value) (xX_solver : Value) (xX_prover : Value) (xX_values : Value) (xX_clauses : Value) (kN : Nat → ClassId) (p1 : Int32) (p2 : Int32) (p3 : Int32) (b_fX_sheet : ∀ q : Nat, (-128) ≤ (fX_sheet q).toInt ∧ (fX_sheet q).toInt ≤ 127) (b_nX_sheet : 64 ≤ nX_sheet ∧ nX_sheet ≤ 60000) (b_iX_sheetLength : 0 ≤ iX_sheetLength.toInt ∧ iX_sheetLength.toInt ≤ 30000) (b_shl : iX_sheetLength.toInt ≤ ((nX_sheet : Nat) : Int)) (sz : Nat) : vx_Met l yX11_path wsMX11_path_0 ({ frames := 7, cells := 12, slots := 1478, locals := 102 }) (va_Pc [.ref (hX 0), .int p1, .int p2, .int p3] (fun U => U.heap.size = sz ∧ va_P (dC, dI) vwCl (WX hX aX kX hT hM fX_ready fX_sheet dX_sheet nX_sheet iX_sheetLength xX_reader xX_solver xX_prover xX_values xX_clauses .null) U.heap ∧ va_K (dC, dI) vwCl (tX kX ++ (tN kN)) U ∧ va_D (fun _ => True) (WX hX aX kX hT hM fX_ready fX_sheet dX_sheet nX_sheet iX_sheetLength xX_reader xX_solver xX_prover xX_values xX_clauses .null) ∧ CE (va_A (WX hX aX kX hT hM fX_ready fX_sheet dX_sheet nX_sheet iX_sheetLength xX_reader xX_solver xX_prover xX_values xX_clauses .null) sz) U U.heap)) (va_Qi (fun (r : Int32) (u : (Value) × (va_W)) => (((0 ≤ p1.toInt ∧ p1.toInt ≤ 11) ∧ 0 ≤ p2.toInt ∧ p2.toInt ≤ 11) ∧ p1.toInt ≠ p2.toInt) ∧ (pAns ntZ p1.toInt.toNat p2.toInt.toNat p3.toInt r.toInt) ∧ (NetO kN ntZ (u.1) (u.2))) (fun (u : (Value) × (va_W)) t => va_P (dC, dI) vwCl (WX hX aX kX hT hM fX_ready fX_sheet dX_sheet nX_sheet iX_sheetLength xX_reader xX_solver xX_prover xX_values xX_clauses (u.1) ++ ((u.2))) t.heap ∧ va_D (va_A (WX hX aX kX hT hM fX_ready fX_sheet dX_sheet nX_sheet iX_sheetLength xX_reader xX_solver xX_prover xX_values xX_clauses .null) sz) (WX hX aX kX hT hM fX_ready fX_sheet dX_sheet nX_sheet iX_sheetLength xX_reader xX_solver xX_prover xX_values xX_clauses (u.1) ++ ((u.2)))) (va_A (WX hX aX kX hT hM fX_ready fX_sheet dX_sheet nX_sheet iX_sheetLength xX_reader xX_solver xX_prover xX_values xX_clauses .null) sz)) (vx_X (fun (u : (Value) × (va_W)) => (NetO kN ntZ (u.1) (u.2))) (fun E (u : (Value) × (va_W)) t => ((E = "java/lang/IndexOutOfBoundsException" ∧ (¬ ((0 ≤ p1.toInt ∧ p1.toInt ≤ 11) ∧ 0 ≤ p2.toInt ∧ p2.toInt ≤ 11))) ∨ (E = "java/lang/IllegalArgumentException" ∧ (((0 ≤ p1.toInt ∧ p1.toInt ≤ 11) ∧ 0 ≤ p2.toInt ∧ p2.toInt ≤ 11) ∧ p1.toInt = p2.toInt))) ∧ va_P (dC, dI) vwCl (WX hX aX kX hT hM fX_ready fX_sheet dX_sheet nX_sheet iX_sheetLength xX_reader xX_solver xX_prover xX_values xX_clauses (u.1) ++ ((u.2))) t.heap ∧ va_D (va_A (WX hX aX kX hT hM fX_ready fX_sheet dX_sheet nX_sheet iX_sheetLength xX_reader xX_solver xX_prover xX_values xX_clauses .null) sz) (WX hX aX kX hT hM fX_ready fX_sheet dX_sheet nX_sheet iX_sheetLength xX_reader xX_solver xX_prover xX_values xX_clauses (u.1) ++ ((u.2)))) (va_A (WX hX aX kX hT hM fX_ready fX_sheet dX_sheet nX_sheet iX_sheetLength xX_reader xX_solver xX_prover xX_values xX_clauses .null) sz)) 12 1478 (va_A (WX hX aX kX hT hM fX_ready fX_sheet dX_sheet nX_sheet iX_sheetLength xX_reader xX_solver xX_prover xX_values xX_clauses .null) sz) := by
  refine vx_ofW (cc := cX11_path) (maxL := 4) (ret := (some .int)) (by decide) rfl ?_
  intro p e s m args below meth c s₁ B hml htab hv
  obtain ⟨rfl, hsz, hP, hK, hD0, hE⟩ := hv
  have hx := B.exec
  have hb := B.bytes
  have hr := B.returns
  have hts := atoms_spec (ws := wsMX11_path_0) B.pre
  have hown : s.vm.findClass RX11 = some m.cls := findClass_of_methodNamed B.named
  have hlocks := B.notSynchronized
  subst hsz
  have hD := hD0.self (sz := s.heap.size)
  generalize hAe : va_A (WX hX aX kX hT hM fX_ready fX_sheet dX_sheet nX_sheet iX_sheetLength xX_reader xX_solver xX_prover xX_values xX_clauses .null) s.heap.size = A at hD hE ⊢
  have hA : ∀ q : Nat, s.heap.size ≤ q → A q := fun q h => by rw [← hAe]; exact Or.inr h
  have hS : va_S A s.heap s.heap [] := va_S.rf
  have hl := lv_entry ([.ref (hX 0), .int p1, .int p2, .int p3]) (n := 4) (Nat.le_of_ble_eq_true rfl)
  rw [lg_entry_eq]
  generalize (lg_sl ([.ref (hX 0), .int p1, .int p2, .int p3]) ++ List.replicate (4 - (lg_sl ([.ref (hX 0), .int p1, .int p2, .int p3])).length) Slot.unset).toArray = ls at hl ⊢
  have hl : lv_has ls 4 [(0, .ref (hX 0)), (1, .int p1), (2, .int p2), (3, .int p3)] := hl
  refine lv_iload_n hx hb dX11_path_0 rfl (lv_at hl 1 rfl) ?_
  refine lv_iload_n hx hb dX11_path_1 rfl (lv_at hl 2 rfl) ?_
  refine W.known (fun hz0 _ => ?_)
  have hFc := noneFree hS hA
  refine vx_callv (vx_runS (As := [.int p1, .int p2]) (rest := []) ⟨hx, hb, hml, hown, hts⟩ (m_X11_needNodes l hst dC dI p1 p2 s.heap.size) (va_cwS 2 hts gwsMX11_path_0_0 rfl rfl rfl (by decide +kernel) ⟨by decide +kernel, by decide +kernel⟩) ⟨fun a U g mk q => by obtain ⟨q0, q1, qP, qK, qD, qE⟩ := q; exact ⟨q0, q1, qP, va_K.moved (u := U) (U := U.calling g mk a) (Vm.Alike.refl U.vm) qK, qD, qE.call⟩, fun U hU9 hW => ⟨rfl, by rw [hU9], by rw [hU9]; exact nilP, va_K.moved hW.alike (hK.sub (tys' := []) [] rfl), nilD, by rw [hU9]; exact (((hE : CE A s s.heap).kept hS.2.1).narrow (fun q h => hFc q h)).warm hW⟩⟩ rfl rfl hl.1 rfl (lv_room (Nat.le_of_ble_eq_true rfl)) dX11_path_2 (by decide +kernel)) hS (fun q _ h => hFc q h) hFc (fun q _ h => hFc q h) (fun E ce q9 u t9_ H1 locs ht hvm hw9 hB9 hz1 hk1 hS hc1 hc2 hc3 => ?_) (fun u t9_ H1 locs ht hvm hw9 hB9 hz1 hk1 hS => ?_)
  · obtain ⟨hEx, hB9⟩ := hB9
    clear hw9
    clear hB9
    have hP := keepAll hP hk1
    generalize H1 = H at hP hS hc1 ⊢
    have hP : va_P (dC, dI) vwCl (WX hX aX kX hT hM fX_ready fX_sheet dX_sheet nX_sheet iX_sheetLength xX_reader xX_solver xX_prover xX_values xX_clauses .null) H := hP
    have hD : va_D A (WX hX aX kX hT hM fX_ready fX_sheet dX_sheet nX_sheet iX_sheetLength xX_reader xX_solver xX_prover xX_values xX_clauses .null) := hD
    exact vx_out (fun x hx9 => (htab x hx9).elim) hlocks hc1 hc2 hc3 (fun t9_ ht hvm => ⟨(.null, ([])), (by (try dsimp only); exact Or.inl ⟨rfl, rfl, rfl⟩), ⟨(by rcases hEx with h9 | h9; exact Or.inl ⟨h9.1, (by have h8 := h9.2; omega)⟩; exact Or.inr (⟨h9.1, (by have h8 := h9.2; omega)⟩)), by rw [ht]; first | exact hP | (simp only [List.append_nil]; exact hP), by first | exact hD | (simp only [List.append_nil]; exact hD)⟩, hS.F ht⟩) hS.2.2 (by decide +kernel) (by decide +kernel)
  have f1_0 := hw9
  try dsimp only at f1_0
  obtain ⟨_, hz8⟩ := hB9
  rw [ht] at hz8
  have hz9 : H1.size ≤ s.heap.size + 0 := by rw [hz8]; exact hz0
  refine W.tight (cells2 := 0) (slots2 := 0) hz9 (nS_0 hz9) ?_
  clear hz8 hz9
  have hP := keepAll hP hk1
  generalize H1 = H at hP hS ⊢
  have hP : va_P (dC, dI) vwCl (WX hX aX kX hT hM fX_ready fX_sheet dX_sheet nX_sheet iX_sheetLength xX_reader xX_solver xX_prover xX_values xX_clauses .null) H := hP
  have hD : va_D A (WX hX aX kX hT hM fX_ready fX_sheet dX_sheet nX_sheet iX_sheetLength xX_reader xX_solver xX_prover xX_values xX_clauses .null) := hD
  have hnn := f1_0
  refine lv_aload_n hx hb dX11_path_5 rfl (lv_at hl 0 rfl) ?_
  have hFc := allFree hD hS hA
  refine va_callr (va_runV (As := []) (rest := []) ⟨hx, hb, hml, hown, hts⟩ (m_X11_theNets_0 l hst dC dI hX aX kX hT hM fX_ready fX_sheet dX_sheet nX_sheet iX_sheetLength xX_reader xX_solver xX_prover xX_values xX_clauses kN b_fX_sheet (by first | exact b_nX_sheet | assumption | exact ⟨by omega, by omega⟩) (b_iX_sheetLength) (by first | assumption | omega) H.size) (cwV 0 hts gwsMX11_path_0_1 rfl rfl rfl hd_yX11_theNets_RX11 (by decide +kernel)) (fz_preE (va_recv hK hP (ci := 11) (q0 := 0) rfl rfl) hP hK hD (fun a U g mk qE => qE.call) (fun U hU9 hW => by rw [hU9]; exact (((hE : CE A s s.heap).kept hS.2.1).narrow (fun q h => hFc q h)).warm hW)) rfl rfl hl.1 rfl (lv_room (Nat.le_of_ble_eq_true rfl)) dX11_path_6 (by decide +kernel)) hS (fun q _ h => hFc q h) hFc (fun u ra2 t9_ H locs ht hvm hw9 hB9 hz1 hk1 hS => ?_)
  obtain ⟨hN, aN⟩ := u
  try dsimp only at hw9 hB9
  obtain ⟨hra, hB9⟩ := hB9
  subst hra
  clear hw9
  have hP : va_P (dC, dI) vwCl (WX hX aX kX hT hM fX_ready fX_sheet dX_sheet nX_sheet iX_sheetLength xX_reader xX_solver xX_prover xX_values xX_clauses (.ref (hN 0)) ++ (WN hN aN kN 0 (fun _ => 0) (fun _ => 0) (fun _ => 0) (fun _ => 0) 0 (fun _ => 0) (fun _ => 0) (fun _ => 0) (fun _ => 0) (fun _ => 0) 0 (fun _ => 0) (fun _ => 0))) H := fz_P ht hB9.1
  have hD : va_D A (WX hX aX kX hT hM fX_ready fX_sheet dX_sheet nX_sheet iX_sheetLength xX_reader xX_solver xX_prover xX_values xX_clauses (.ref (hN 0)) ++ (WN hN aN kN 0 (fun _ => 0) (fun _ => 0) (fun _ => 0) (fun _ => 0) 0 (fun _ => 0) (fun _ => 0) (fun _ => 0) (fun _ => 0) (fun _ => 0) 0 (fun _ => 0) (fun _ => 0))) := hB9.2.weaken (fun _ q _ h => hFc q.1 h)
  refine W.widen (k := 12) (n := 1478) (by decide +kernel) (by decide +kernel) ?_
  refine lv_iload_n hx hb dX11_path_9 rfl (lv_at hl 1 rfl) ?_
  refine lv_iload_n hx hb dX11_path_10 rfl (lv_at hl 2 rfl) ?_
  refine lv_iload_n hx hb dX11_path_11 rfl (lv_at hl 3 rfl) ?_
  have hPc : va_P (dC, dI) vwCl (WN hN aN kN 0 (fun _ => 0) (fun _ => 0) (fun _ => 0) (fun _ => 0) 0 (fun _ => 0) (fun _ => 0) (fun _ => 0) (fun _ => 0) (fun _ => 0) 0 (fun _ => 0) (fun _ => 0)) _ := hP.sub [3, 4, 5, 6, 7, 8, 9, 10, 11, 12, 13, 14] rfl
  have hDc : va_D _ (WN hN aN kN 0 (fun _ => 0) (fun _ => 0) (fun _ => 0) (fun _ => 0) 0 (fun _ => 0) (fun _ => 0) (fun _ => 0) (fun _ => 0) (fun _ => 0) 0 (fun _ => 0) (fun _ => 0)) := hD.sub [3, 4, 5, 6, 7, 8, 9, 10, 11, 12, 13, 14] (by decide) rfl
  have hKc : va_K (dC, dI) vwCl (tN kN) _ := hK.sub [2, 3, 4, 5, 6, 7, 8, 9, 10, 11, 12] rfl
  have hFc := va_free (wc := WN hN aN kN 0 (fun _ => 0) (fun _ => 0) (fun _ => 0) (fun _ => 0) 0 (fun _ => 0) (fun _ => 0) (fun _ => 0) (fun _ => 0) (fun _ => 0) 0 (fun _ => 0) (fun _ => 0)) hD hS hA [3, 4, 5, 6, 7, 8, 9, 10, 11, 12, 13, 14] rfl
  refine va_calli (va_runV (As := [.int p1, .int p2, .int p3]) (rest := []) ⟨hx, hb, hml, hown, hts⟩ (m_X2_shortest l dC dI hN aN kN 0 (fun _ => 0) (fun _ => 0) (fun _ => 0) (fun _ => 0) 0 (fun _ => 0) (fun _ => 0) (fun _ => 0) (fun _ => 0) (fun _ => 0) 0 (fun _ => 0) (fun _ => 0) p1 p2 p3 (show 0 ≤ (0 : Int32).toInt ∧ (0 : Int32).toInt ≤ 40 from by decide) (zr_r (by decide) (by decide)) (zr_r (by decide) (by decide)) (zr_r (by decide) (by decide)) (zr_r (by decide) (by decide)) (show 0 ≤ (0 : Int32).toInt ∧ (0 : Int32).toInt ≤ 8 from by decide) (by first | exact b_p1 | assumption | exact ⟨by omega, by omega⟩) (by first | exact b_p2 | assumption | exact ⟨by omega, by omega⟩) (tVal.z0) H.size) (cwV 3 hts gwsMX11_path_0_2 rfl rfl rfl hd_yX2_shortest_RX2 (by decide +kernel)) (fz_pre (va_recv hK hP (ci := 2) (q0 := 3) rfl rfl) hPc hKc hDc) rfl rfl hl.1 rfl (lv_room (Nat.le_of_ble_eq_true rfl)) dX11_path_12 (by decide +kernel)) hS (fun q _ h => hFc q h) hFc (fun r3 u t9_ H locs ht hvm hw9 hB9 hz1 hk1 hS => ?_)
  obtain ⟨fN_length_3, hwit3⟩ : ∃ w9, w9 = u := ⟨u, rfl⟩
  subst hwit3
  have f3_0 := hw9
  try dsimp only at f3_0
  obtain ⟨hP, hD⟩ := va_join (wr := [(hX 0, .inr (11, [.ref (aX 0), .ref (hT 0), .ref (hM 0), .ref dX_sheet, .int iX_sheetLength, xX_reader, xX_solver, xX_prover, xX_values, xX_clauses, (.ref (hN 0))])), (aX 0, .inl (kX 0, 5, .inl fX_ready)), (dX_sheet, .inl (kX 1, nX_sheet, .inl fX_sheet))]) (w1 := WN hN aN kN 0 (fun _ => 0) (fun _ => 0) (fun _ => 0) (fun _ => 0) 0 (fun _ => 0) (fun _ => 0) (fun _ => 0) fN_length_3 (fun _ => 0) 0 (fun _ => 0) (fun _ => 0)) hP hD [3, 4, 5, 6, 7, 8, 9, 10, 11, 12, 13, 14] [0, 1, 2] rfl rfl (by decide) (by decide) hk1 hFc (fz_P ht hB9.1) hB9.2
  have hP : va_P (dC, dI) vwCl (WX hX aX kX hT hM fX_ready fX_sheet dX_sheet nX_sheet iX_sheetLength xX_reader xX_solver xX_prover xX_values xX_clauses (.ref (hN 0)) ++ (WN hN aN kN 0 (fun _ => 0) (fun _ => 0) (fun _ => 0) (fun _ => 0) 0 (fun _ => 0) (fun _ => 0) (fun _ => 0) fN_length_3 (fun _ => 0) 0 (fun _ => 0) (fun _ => 0))) H := hP.sub [0, 1, 2, 3, 4, 5, 6, 7, 8, 9, 10, 11, 12, 13, 14] rfl
  have hD : va_D A (WX hX aX kX hT hM fX_ready fX_sheet dX_sheet nX_sheet iX_sheetLength xX_reader xX_solver xX_prover xX_values xX_clauses (.ref (hN 0)) ++ (WN hN aN kN 0 (fun _ => 0) (fun _ => 0) (fun _ => 0) (fun _ => 0) 0 (fun _ => 0) (fun _ => 0) (fun _ => 0) fN_length_3 (fun _ => 0) 0 (fun _ => 0) (fun _ => 0))) := hD.sub [0, 1, 2, 3, 4, 5, 6, 7, 8, 9, 10, 11, 12, 13, 14] (by decide) rfl
  have hpa := f3_0
  refine vx_ret ?_
  refine W.widen (k := 12) (n := 1478) (by decide +kernel) (by decide +kernel) ?_
  exact W.iret (v := r3) hx hb hr (fun t9_ ht hW => ⟨⟨r3, ((.ref (hN 0)), (WN hN aN kN 0 (fun _ => 0) (fun _ => 0) (fun _ => 0) (fun _ => 0) 0 (fun _ => 0) (fun _ => 0) (fun _ => 0) fN_length_3 (fun _ => 0) 0 (fun _ => 0) (fun _ => 0))), rfl, ⟨(by (try dsimp only); omega), (by (try dsimp only); rw [ntZ_x (x := (0 : Int32).toInt) (by decide)]; exact hpa), (by (try dsimp only); exact Or.inr ⟨hN, aN, 0, (fun _ => 0), (fun _ => 0), (fun _ => 0), (fun _ => 0), 0, (fun _ => 0), (fun _ => 0), (fun _ => 0), fN_length_3, (fun _ => 0), 0, (fun _ => 0), (fun _ => 0), (show 0 ≤ (0 : Int32).toInt ∧ (0 : Int32).toInt ≤ 40 from by decide), (zr_r (by decide) (by decide)), (zr_r (by decide) (by decide)), (zr_r (by decide) (by decide)), (zr_r (by decide) (by decide)), (show 0 ≤ (0 : Int32).toInt ∧ (0 : Int32).toInt ≤ 8 from by decide), rfl, rfl, (ntZ_x (by have h7 : (0 : Int32).toInt = 0 := (by decide); omega))⟩)⟩, by rw [ht]; exact hP, hD⟩, hS.F ht⟩) hS.2.2 dX11_path_15
def wsMX11_tree_0 : List Cond := .code yX11_tree cX11_tree 1 (some .long) :: ([] ++ (wsV RX11 425 RX11 yX11_theNets wsMX11_theNets_0) ++ (wsV RX11 452 RX2 yX2_treeArcs wsMX2_treeArcs))
theorem gwsMX11_tree_0_0 : GoodIn wsMX11_tree_0 (wsV RX11 425 RX11 yX11_theNets wsMX11_theNets_0) := goodIn_sub (fun _ h => List.mem_cons_of_mem _ (List.mem_append_left _ (List.mem_append_right _ h))) (gdV (by decide +kernel) gdwsMX11_theNets_0)
theorem gwsMX11_tree_0_1 : GoodIn wsMX11_tree_0 (wsV RX11 452 RX2 yX2_treeArcs wsMX2_treeArcs) := goodIn_sub (fun _ h => List.mem_cons_of_mem _ (List.mem_append_right _ h)) (gdV (by decide +kernel) gdwsMX2_treeArcs)
theorem gdwsMX11_tree_0 : wsMX11_tree_0.all goodWord = true := gdC rfl (gdA (gdA (by decide +kernel : ([] : List Cond).all goodWord = true) (gdV (by decide +kernel) gdwsMX11_theNets_0)) (gdV (by decide +kernel) gdwsMX2_treeArcs))
set_option maxHeartbeats 4000000 in
set_option maxRecDepth 100000 in
/-- a tree -/
theorem m_X11_tree_0 (l : Launch) (hst : l.stackTraces = false) (dC : Nat → ClassId) (dI : Nat → Nat → Nat) (hX : Nat → Nat) (aX : Nat → Nat) (kX : Nat → ClassId) (hT : Nat → Nat) (hM : Nat → Nat) (fX_ready : Nat → Int32) (fX_sheet : Nat → Int32) (dX_sheet : Nat) (nX_sheet : Nat) (iX_sheetLength : Int32) (xX_reader : Value) (xX_solver : Value) (xX_prover : Value) (xX_values : Value) (xX_clauses : Value) (kN : Nat → ClassId) (b_fX_sheet : ∀ q : Nat, (-128) ≤ (fX_sheet q).toInt ∧ (fX_sheet q).toInt ≤ 127) (b_nX_sheet : 64 ≤ nX_sheet ∧ nX_sheet ≤ 60000) (b_iX_sheetLength : 0 ≤ iX_sheetLength.toInt ∧ iX_sheetLength.toInt ≤ 30000) (b_shl : iX_sheetLength.toInt ≤ ((nX_sheet : Nat) : Int)) (sz : Nat) : Met l yX11_tree wsMX11_tree_0 ({ frames := 3, cells := 12, slots := 1478, locals := 67 }) (va_Pc [.ref (hX 0)] (fun U => U.heap.size = sz ∧ va_P (dC, dI) vwCl (WX hX aX kX hT hM fX_ready fX_sheet dX_sheet nX_sheet iX_sheetLength xX_reader xX_solver xX_prover xX_values xX_clauses .null) U.heap ∧ va_K (dC, dI) vwCl (tX kX ++ (tN kN)) U ∧ va_D (fun _ => True) (WX hX aX kX hT hM fX_ready fX_sheet dX_sheet nX_sheet iX_sheetLength xX_reader xX_solver xX_prover xX_values xX_clauses .null) ∧ CE (va_A (WX hX aX kX hT hM fX_ready fX_sheet dX_sheet nX_sheet iX_sheetLength xX_reader xX_solver xX_prover xX_values xX_clauses .null) sz) U U.heap)) (va_Ql (fun (r : Int64) (u : (Value) × (va_W)) => (tAll ntZ r) ∧ (NetO kN ntZ (u.1) (u.2))) (fun (u : (Value) × (va_W)) t => va_P (dC, dI) vwCl (WX hX aX kX hT hM fX_ready fX_sheet dX_sheet nX_sheet iX_sheetLength xX_reader xX_solver xX_prover xX_values xX_clauses (u.1) ++ ((u.2))) t.heap ∧ va_D (va_A (WX hX aX kX hT hM fX_ready fX_sheet dX_sheet nX_sheet iX_sheetLength xX_reader xX_solver xX_prover xX_values xX_clauses .null) sz) (WX hX aX kX hT hM fX_ready fX_sheet dX_sheet nX_sheet iX_sheetLength xX_reader xX_solver xX_prover xX_values xX_clauses (u.1) ++ ((u.2)))) (va_A (WX hX aX kX hT hM fX_ready fX_sheet dX_sheet nX_sheet iX_sheetLength xX_reader xX_solver xX_prover xX_values xX_clauses .null) sz)) 12 1478 (va_A (WX hX aX kX hT hM fX_ready fX_sheet dX_sheet nX_sheet iX_sheetLength xX_reader xX_solver xX_prover xX_values xX_clauses .null) sz) := by
  refine Met.ofW (cc := cX11_tree) (maxL := 1) (ret := (some .long)) (by decide) rfl ?_
  intro p e s m args below meth c s₁ B hml hv
  obtain ⟨rfl, hsz, hP, hK, hD0, hE⟩ := hv
  have hx := B.exec
  have hb := B.bytes
  have hr := B.returns
  have hts := atoms_spec (ws := wsMX11_tree_0) B.pre
  have hown : s.vm.findClass RX11 = some m.cls := findClass_of_methodNamed B.named
  have hlocks := B.notSynchronized
  subst hsz
  have hD := hD0.self (sz := s.heap.size)
  generalize hAe : va_A (WX hX aX kX hT hM fX_ready fX_sheet dX_sheet nX_sheet iX_sheetLength xX_reader xX_solver xX_prover xX_values xX_clauses .null) s.heap.size = A at hD hE ⊢
  have hA : ∀ q : Nat, s.heap.size ≤ q → A q := fun q h => by rw [← hAe]; exact Or.inr h
  have hS : va_S A s.heap s.heap [] := va_S.rf
  have hl := lv_entry ([.ref (hX 0)]) (n := 1) (Nat.le_of_ble_eq_true rfl)
  rw [lg_entry_eq]
  generalize (lg_sl ([.ref (hX 0)]) ++ List.replicate (1 - (lg_sl ([.ref (hX 0)])).length) Slot.unset).toArray = ls at hl ⊢
  have hl : lv_has ls 1 [(0, .ref (hX 0))] := hl
  refine lv_aload_n hx hb dX11_tree_0 rfl (lv_at hl 0 rfl) ?_
  have hFc := allFree hD hS hA
  refine va_callr (va_runV (As := []) (rest := []) ⟨hx, hb, hml, hown, hts⟩ (m_X11_theNets_0 l hst dC dI hX aX kX hT hM fX_ready fX_sheet dX_sheet nX_sheet iX_sheetLength xX_reader xX_solver xX_prover xX_values xX_clauses kN b_fX_sheet (by first | exact b_nX_sheet | assumption | exact ⟨by omega, by omega⟩) (b_iX_sheetLength) (by first | assumption | omega) s.heap.size) (cwV 0 hts gwsMX11_tree_0_0 rfl rfl rfl hd_yX11_theNets_RX11 (by decide +kernel)) (fz_preE (va_recv hK hP (ci := 11) (q0 := 0) rfl rfl) hP hK hD (fun a U g mk qE => qE.call) (fun U hU9 hW => by rw [hU9]; exact (((hE : CE A s s.heap).kept hS.2.1).narrow (fun q h => hFc q h)).warm hW)) rfl rfl hl.1 rfl (lv_room (Nat.le_of_ble_eq_true rfl)) dX11_tree_1 (by decide +kernel)) hS (fun q _ h => hFc q h) hFc (fun u ra1 t9_ H locs ht hvm hw9 hB9 hz1 hk1 hS => ?_)
  obtain ⟨hN, aN⟩ := u
  try dsimp only at hw9 hB9
  obtain ⟨hra, hB9⟩ := hB9
  subst hra
  clear hw9
  have hP : va_P (dC, dI) vwCl (WX hX aX kX hT hM fX_ready fX_sheet dX_sheet nX_sheet iX_sheetLength xX_reader xX_solver xX_prover xX_values xX_clauses (.ref (hN 0)) ++ (WN hN aN kN 0 (fun _ => 0) (fun _ => 0) (fun _ => 0) (fun _ => 0) 0 (fun _ => 0) (fun _ => 0) (fun _ => 0) (fun _ => 0) (fun _ => 0) 0 (fun _ => 0) (fun _ => 0))) H := fz_P ht hB9.1
  have hD : va_D A (WX hX aX kX hT hM fX_ready fX_sheet dX_sheet nX_sheet iX_sheetLength xX_reader xX_solver xX_prover xX_values xX_clauses (.ref (hN 0)) ++ (WN hN aN kN 0 (fun _ => 0) (fun _ => 0) (fun _ => 0) (fun _ => 0) 0 (fun _ => 0) (fun _ => 0) (fun _ => 0) (fun _ => 0) (fun _ => 0) 0 (fun _ => 0) (fun _ => 0))) := hB9.2.weaken (fun _ q _ h => hFc q.1 h)
  refine W.widen (k := 12) (n := 1478) (by decide +kernel) (by decide +kernel) ?_
  have hPc : va_P (dC, dI) vwCl (WN hN aN kN 0 (fun _ => 0) (fun _ => 0) (fun _ => 0) (fun _ => 0) 0 (fun _ => 0) (fun _ => 0) (fun _ => 0) (fun _ => 0) (fun _ => 0) 0 (fun _ => 0) (fun _ => 0)) _ := hP.sub [3, 4, 5, 6, 7, 8, 9, 10, 11, 12, 13, 14] rfl
  have hDc : va_D _ (WN hN aN kN 0 (fun _ => 0) (fun _ => 0) (fun _ => 0) (fun _ => 0) 0 (fun _ => 0) (fun _ => 0) (fun _ => 0) (fun _ => 0) (fun _ => 0) 0 (fun _ => 0) (fun _ => 0)) := hD.sub [3, 4, 5, 6, 7, 8, 9, 10, 11, 12, 13, 14] (by decide) rfl
  have hKc : va_K (dC, dI) vwCl (tN kN) _ := hK.sub [2, 3, 4, 5, 6, 7, 8, 9, 10, 11, 12] rfl
  have hFc := va_free (wc := WN hN aN kN 0 (fun _ => 0) (fun _ => 0) (fun _ => 0) (fun _ => 0) 0 (fun _ => 0) (fun _ => 0) (fun _ => 0) (fun _ => 0) (fun _ => 0) 0 (fun _ => 0) (fun _ => 0)) hD hS hA [3, 4, 5, 6, 7, 8, 9, 10, 11, 12, 13, 14] rfl
  refine va_calll (va_runV (As := []) (rest := []) ⟨hx, hb, hml, hown, hts⟩ (m_X2_treeArcs l dC dI hN aN kN 0 (fun _ => 0) (fun _ => 0) (fun _ => 0) (fun _ => 0) 0 (fun _ => 0) (fun _ => 0) (fun _ => 0) (fun _ => 0) (fun _ => 0) 0 (fun _ => 0) (fun _ => 0) (show 0 ≤ (0 : Int32).toInt ∧ (0 : Int32).toInt ≤ 40 from by decide) (zr_r (by decide) (by decide)) (zr_r (by decide) (by decide)) (zr_r (by decide) (by decide)) (zr_r (by decide) (by decide)) (show 0 ≤ (0 : Int32).toInt ∧ (0 : Int32).toInt ≤ 8 from by decide) (tVal.z0) H.size) (cwV 0 hts gwsMX11_tree_0_1 rfl rfl rfl hd_yX2_treeArcs_RX2 (by decide +kernel)) (fz_pre (va_recv hK hP (ci := 2) (q0 := 3) rfl rfl) hPc hKc hDc) rfl rfl hl.1 rfl (lv_room (Nat.le_of_ble_eq_true rfl)) dX11_tree_4 (by decide +kernel)) hS (fun q _ h => hFc q h) hFc (fun r2 u t9_ H locs ht hvm hw9 hB9 hz1 hk1 hS => ?_)
  obtain ⟨fN_before_2, hwit2⟩ : ∃ w9, w9 = u := ⟨u, rfl⟩
  subst hwit2
  obtain ⟨b_fN_before_2, f2_0⟩ := hw9
  obtain ⟨hP, hD⟩ := va_join (wr := [(hX 0, .inr (11, [.ref (aX 0), .ref (hT 0), .ref (hM 0), .ref dX_sheet, .int iX_sheetLength, xX_reader, xX_solver, xX_prover, xX_values, xX_clauses, (.ref (hN 0))])), (aX 0, .inl (kX 0, 5, .inl fX_ready)), (dX_sheet, .inl (kX 1, nX_sheet, .inl fX_sheet))]) (w1 := WN hN aN kN 0 (fun _ => 0) (fun _ => 0) (fun _ => 0) (fun _ => 0) 0 (fun _ => 0) fN_before_2 (fun _ => 0) (fun _ => 0) (fun _ => 0) 0 (fun _ => 0) (fun _ => 0)) hP hD [3, 4, 5, 6, 7, 8, 9, 10, 11, 12, 13, 14] [0, 1, 2] rfl rfl (by decide) (by decide) hk1 hFc (fz_P ht hB9.1) hB9.2
  have hP : va_P (dC, dI) vwCl (WX hX aX kX hT hM fX_ready fX_sheet dX_sheet nX_sheet iX_sheetLength xX_reader xX_solver xX_prover xX_values xX_clauses (.ref (hN 0)) ++ (WN hN aN kN 0 (fun _ => 0) (fun _ => 0) (fun _ => 0) (fun _ => 0) 0 (fun _ => 0) fN_before_2 (fun _ => 0) (fun _ => 0) (fun _ => 0) 0 (fun _ => 0) (fun _ => 0))) H := hP.sub [0, 1, 2, 3, 4, 5, 6, 7, 8, 9, 10, 11, 12, 13, 14] rfl
  have hD : va_D A (WX hX aX kX hT hM fX_ready fX_sheet dX_sheet nX_sheet iX_sheetLength xX_reader xX_solver xX_prover xX_values xX_clauses (.ref (hN 0)) ++ (WN hN aN kN 0 (fun _ => 0) (fun _ => 0) (fun _ => 0) (fun _ => 0) 0 (fun _ => 0) fN_before_2 (fun _ => 0) (fun _ => 0) (fun _ => 0) 0 (fun _ => 0) (fun _ => 0))) := hD.sub [0, 1, 2, 3, 4, 5, 6, 7, 8, 9, 10, 11, 12, 13, 14] (by decide) rfl
  have hta := f2_0
  refine W.widen (k := 12) (n := 1478) (by decide +kernel) (by decide +kernel) ?_
  exact W.lret (v := r2) hx hb hr (fun t9_ ht hW => ⟨⟨r2, ((.ref (hN 0)), (WN hN aN kN 0 (fun _ => 0) (fun _ => 0) (fun _ => 0) (fun _ => 0) 0 (fun _ => 0) fN_before_2 (fun _ => 0) (fun _ => 0) (fun _ => 0) 0 (fun _ => 0) (fun _ => 0))), rfl, ⟨(by (try dsimp only); rw [ntZ_x (x := (0 : Int32).toInt) (by decide)]; exact hta), (by (try dsimp only); exact Or.inr ⟨hN, aN, 0, (fun _ => 0), (fun _ => 0), (fun _ => 0), (fun _ => 0), 0, (fun _ => 0), fN_before_2, (fun _ => 0), (fun _ => 0), (fun _ => 0), 0, (fun _ => 0), (fun _ => 0), (show 0 ≤ (0 : Int32).toInt ∧ (0 : Int32).toInt ≤ 40 from by decide), (zr_r (by decide) (by decide)), (zr_r (by decide) (by decide)), b_fN_before_2, (zr_r (by decide) (by decide)), (show 0 ≤ (0 : Int32).toInt ∧ (0 : Int32).toInt ≤ 8 from by decide), rfl, rfl, (ntZ_x (by have h7 : (0 : Int32).toInt = 0 := (by decide); omega))⟩)⟩, by rw [ht]; exact hP, hD⟩, hS.F ht⟩) hS.2.2 dX11_tree_7
def wsMX11_tour_0 : List Cond := .code yX11_tour cX11_tour 4 (some .int) :: ([.classLink RX11 77 "java/lang/IllegalArgumentException", .initialized "java/lang/IllegalArgumentException"] ++ (va_wsS RX11 456 yJ6_bitCount_0f7a4 wsMJ6_bitCount_0f7a4) ++ ((vx_at0 RX11 79 "java/lang/IllegalArgumentException" ["java/lang/RuntimeException", "java/lang/Exception"]).filter goodWord) ++ (wsV RX11 425 RX11 yX11_theNets wsMX11_theNets_0) ++ (wsV RX11 461 RX2 yX2_round wsMX2_round))
theorem gwsMX11_tour_0_0 : GoodIn wsMX11_tour_0 (va_wsS RX11 456 yJ6_bitCount_0f7a4 wsMJ6_bitCount_0f7a4) := goodIn_sub (fun _ h => List.mem_cons_of_mem _ (List.mem_append_left _ (List.mem_append_left _ (List.mem_append_left _ (List.mem_append_right _ h))))) (gdS (by decide +kernel) gdwsMJ6_bitCount_0f7a4)
theorem gwsMX11_tour_0_2 : GoodIn wsMX11_tour_0 (wsV RX11 425 RX11 yX11_theNets wsMX11_theNets_0) := goodIn_sub (fun _ h => List.mem_cons_of_mem _ (List.mem_append_left _ (List.mem_append_right _ h))) (gdV (by decide +kernel) gdwsMX11_theNets_0)
theorem gwsMX11_tour_0_3 : GoodIn wsMX11_tour_0 (wsV RX11 461 RX2 yX2_round wsMX2_round) := goodIn_sub (fun _ h => List.mem_cons_of_mem _ (List.mem_append_right _ h)) (gdV (by decide +kernel) gdwsMX2_round)
theorem gdwsMX11_tour_0 : wsMX11_tour_0.all goodWord = true := gdC rfl (gdA (gdA (gdA (gdA (by decide +kernel : ([.classLink RX11 77 "java/lang/IllegalArgumentException", .initialized "java/lang/IllegalArgumentException"] : List Cond).all goodWord = true) (gdS (by decide +kernel) gdwsMJ6_bitCount_0f7a4)) (gdF _)) (gdV (by decide +kernel) gdwsMX11_theNets_0)) (gdV (by decide +kernel) gdwsMX2_round))
set_option maxHeartbeats 4000000 in
set_option maxRecDepth 100000 in
/-- a tour -/
theorem m_X11_tour_0 (l : Launch) (hst : l.stackTraces = false) (dC : Nat → ClassId) (dI : Nat → Nat → Nat) (hX : Nat → Nat) (aX : Nat → Nat) (kX : Nat → ClassId) (hT : Nat → Nat) (hM : Nat → Nat) (fX_ready : Nat → Int32) (fX_sheet : Nat → Int32) (dX_sheet : Nat) (nX_sheet : Nat) (iX_sheetLength : Int32) (xX_reader : Value) (xX_solver : Value) (xX_prover : Value) (xX_values : Value) (xX_clauses : Value) (kN : Nat → ClassId) (p1 : Int32) (p2 : Int32) (b_fX_sheet : ∀ q : Nat, (-128) ≤ (fX_sheet q).toInt ∧ (fX_sheet q).toInt ≤ 127) (b_nX_sheet : 64 ≤ nX_sheet ∧ nX_sheet ≤ 60000) (b_iX_sheetLength : 0 ≤ iX_sheetLength.toInt ∧ iX_sheetLength.toInt ≤ 30000) (b_shl : iX_sheetLength.toInt ≤ ((nX_sheet : Nat) : Int)) (sz : Nat) : vx_Met l yX11_tour wsMX11_tour_0 ({ frames := 6, cells := 13, slots := 1484, locals := 87 }) (va_Pc [.ref (hX 0), .int p1, .int p2] (fun U => U.heap.size = sz ∧ va_P (dC, dI) vwCl (WX hX aX kX hT hM fX_ready fX_sheet dX_sheet nX_sheet iX_sheetLength xX_reader xX_solver xX_prover xX_values xX_clauses .null) U.heap ∧ va_K (dC, dI) vwCl (tX kX ++ (tN kN)) U ∧ va_D (fun _ => True) (WX hX aX kX hT hM fX_ready fX_sheet dX_sheet nX_sheet iX_sheetLength xX_reader xX_solver xX_prover xX_values xX_clauses .null) ∧ CE (va_A (WX hX aX kX hT hM fX_ready fX_sheet dX_sheet nX_sheet iX_sheetLength xX_reader xX_solver xX_prover xX_values xX_clauses .null) sz) U U.heap)) (va_Qi (fun (r : Int32) (u : (Value) × (va_W)) => ((0 ≤ p1.toInt ∧ p1.toInt ≤ 4095 ∧ 2 ≤ cntB (bI p1) 12 ∧ cntB (bI p1) 12 ≤ 8)) ∧ (tuA ntZ (bI p1) p2.toInt r.toInt) ∧ (NetO kN ntZ (u.1) (u.2))) (fun (u : (Value) × (va_W)) t => va_P (dC, dI) vwCl (WX hX aX kX hT hM fX_ready fX_sheet dX_sheet nX_sheet iX_sheetLength xX_reader xX_solver xX_prover xX_values xX_clauses (u.1) ++ ((u.2))) t.heap ∧ va_D (va_A (WX hX aX kX hT hM fX_ready fX_sheet dX_sheet nX_sheet iX_sheetLength xX_reader xX_solver xX_prover xX_values xX_clauses .null) sz) (WX hX aX kX hT hM fX_ready fX_sheet dX_sheet nX_sheet iX_sheetLength xX_reader xX_solver xX_prover xX_values xX_clauses (u.1) ++ ((u.2)))) (va_A (WX hX aX kX hT hM fX_ready fX_sheet dX_sheet nX_sheet iX_sheetLength xX_reader xX_solver xX_prover xX_values xX_clauses .null) sz)) (vx_X (fun (u : (Value) × (va_W)) => (NetO kN ntZ (u.1) (u.2))) (fun E (u : (Value) × (va_W)) t => ((E = "java/lang/IllegalArgumentException" ∧ (¬ (0 ≤ p1.toInt ∧ p1.toInt ≤ 4095 ∧ 2 ≤ cntB (bI p1) 12 ∧ cntB (bI p1) 12 ≤ 8)))) ∧ va_P (dC, dI) vwCl (WX hX aX kX hT hM fX_ready fX_sheet dX_sheet nX_sheet iX_sheetLength xX_reader xX_solver xX_prover xX_values xX_clauses (u.1) ++ ((u.2))) t.heap ∧ va_D (va_A (WX hX aX kX hT hM fX_ready fX_sheet dX_sheet nX_sheet iX_sheetLength xX_reader xX_solver xX_prover xX_values xX_clauses .null) sz) (WX hX aX kX hT hM fX_ready fX_sheet dX_sheet nX_sheet iX_sheetLength xX_reader xX_solver xX_prover xX_values xX_clauses (u.1) ++ ((u.2)))) (va_A (WX hX aX kX hT hM fX_ready fX_sheet dX_sheet nX_sheet iX_sheetLength xX_reader xX_solver xX_prover xX_values xX_clauses .null) sz)) 13 1484 (va_A (WX hX aX kX hT hM fX_ready fX_sheet dX_sheet nX_sheet iX_sheetLength xX_reader xX_solver xX_prover xX_values xX_clauses .null) sz) := by
  refine vx_ofW (cc := cX11_tour) (maxL := 4) (ret := (some .int)) (by decide) rfl ?_
  intro p e s m args below meth c s₁ B hml htab hv
  obtain ⟨rfl, hsz, hP, hK, hD0, hE⟩ := hv
  have hx := B.exec
  have hb := B.bytes
  have hr := B.returns
  have hts := atoms_spec (ws := wsMX11_tour_0) B.pre
  have hown : s.vm.findClass RX11 = some m.cls := findClass_of_methodNamed B.named
  have hlocks := B.notSynchronized
  subst hsz
  have hD := hD0.self (sz := s.heap.size)
  generalize hAe : va_A (WX hX aX kX hT hM fX_ready fX_sheet dX_sheet nX_sheet iX_sheetLength xX_reader xX_solver xX_prover xX_values xX_clauses .null) s.heap.size = A at hD hE ⊢
  have hA : ∀ q : Nat, s.heap.size ≤ q → A q := fun q h => by rw [← hAe]; exact Or.inr h
  have hS : va_S A s.heap s.heap [] := va_S.rf
  have hl := lv_entry ([.ref (hX 0), .int p1, .int p2]) (n := 4) (Nat.le_of_ble_eq_true rfl)
  rw [lg_entry_eq]
  generalize (lg_sl ([.ref (hX 0), .int p1, .int p2]) ++ List.replicate (4 - (lg_sl ([.ref (hX 0), .int p1, .int p2])).length) Slot.unset).toArray = ls at hl ⊢
  have hl : lv_has ls 4 [(0, .ref (hX 0)), (1, .int p1), (2, .int p2)] := hl
  refine lv_iload_n hx hb dX11_tour_0 rfl (lv_at hl 1 rfl) ?_
  have hFc := noneFree hS hA
  refine va_calli (va_runS (As := [.int p1]) (rest := []) ⟨hx, hb, hml, hown, hts⟩ (m_J6_bitCount_0f7a4 l dC dI p1 s.heap.size) (va_cwS 1 hts gwsMX11_tour_0_0 rfl rfl rfl (by decide +kernel) ⟨by decide +kernel, by decide +kernel⟩) ⟨fun a U g mk q => by obtain ⟨q0, q1, qP, qK, qD⟩ := q; exact ⟨q0, q1, qP, va_K.moved (u := U) (U := U.calling g mk a) (Vm.Alike.refl U.vm) qK, qD⟩, fun U hU9 hW => ⟨rfl, by rw [hU9], by rw [hU9]; exact nilP, va_K.moved hW.alike (hK.sub (tys' := []) [] rfl), nilD⟩⟩ rfl rfl hl.1 rfl (lv_room (Nat.le_of_ble_eq_true rfl)) dX11_tour_1 (by decide +kernel)) hS (fun q _ h => hFc q h) hFc (fun r1 u t9_ H1 locs ht hvm hw9 hB9 hz1 hk1 hS => ?_)
  obtain ⟨b_r1, f1_0⟩ := hw9
  clear hB9
  have hP := keepAll hP hk1
  generalize H1 = H at hP hS ⊢
  have hP : va_P (dC, dI) vwCl (WX hX aX kX hT hM fX_ready fX_sheet dX_sheet nX_sheet iX_sheetLength xX_reader xX_solver xX_prover xX_values xX_clauses .null) H := hP
  have hD : va_D A (WX hX aX kX hT hM fX_ready fX_sheet dX_sheet nX_sheet iX_sheetLength xX_reader xX_solver xX_prover xX_values xX_clauses .null) := hD
  have hbc := f1_0
  refine lv_istore_n hx hb dX11_tour_4 rfl hl (by decide) rfl (fun ls (hl : lv_has ls _ ([(3, .int r1), (0, .ref (hX 0)), (1, .int p1), (2, .int p2)])) => ?_)
  refine lv_iload_n hx hb dX11_tour_5 rfl (lv_at hl 2 rfl) ?_
  refine lv_if_lt (tgt := 27) hx hb dX11_tour_6 (by decide) (fun c_6 => ?_) (fun c_6 => ?_)
  · have t_6 : p1.toInt < 0 := toI_lt c_6 rfl (by decide : (0 : Int32).toInt = 0)
    exact vx_throw0 (own := RX11) (cls := "java/lang/IllegalArgumentException") (names := ["java/lang/RuntimeException", "java/lang/Exception"]) (ik := 77) (ic := 79) (A := A) hx hb hst hown (by decide +kernel) (by decide +kernel) (hts (.classLink RX11 77 "java/lang/IllegalArgumentException") (by decide +kernel)) (hts (.initialized "java/lang/IllegalArgumentException") (by decide +kernel)) (vx_hat (B := ngX11_79) (fun w h => hts w (List.mem_cons_of_mem _ (List.mem_append_left _ (List.mem_append_left _ (List.mem_append_right _ h))))) (fun _ h => h) (fun w h => va_Nw.use (ngX11_79_ot w h) (hE.2.2.1.2.2.1 w h))) (by decide +kernel) hE.2.1.1 hE.2.1.2 hS (by rw [hml]; exact hl.1) dX11_tour_27 dX11_tour_30 dX11_tour_31 dX11_tour_34 (fun x hx9 => (htab x hx9).elim) (by decide +kernel) (Nat.le_of_ble_eq_true rfl) (by decide +kernel) (by decide +kernel) hlocks (fun t hvm hz hk => ⟨(.null, ([])), (by (try dsimp only); exact Or.inl ⟨rfl, rfl, rfl⟩), ⟨⟨rfl, by first | omega | (have h8 := hbc (by omega) (by omega); omega)⟩, by first | exact hP.kept (fun k q h => hk q.1 ((hP k q h).lt)) | (simp only [List.append_nil]; exact hP.kept (fun k q h => hk q.1 ((hP k q h).lt))), by first | exact hD | (simp only [List.append_nil]; exact hD)⟩, ⟨Nat.le_trans hS.1 hz, fun q h1 h2 => (hk q (Nat.lt_of_lt_of_le h1 hS.1)).trans (hS.2.1 q h1 h2)⟩⟩) hS.2.2 (by decide +kernel) (by decide +kernel)
  · have t_6 : ¬ p1.toInt < 0 := toI_nlt c_6 rfl (by decide : (0 : Int32).toInt = 0)
    refine lv_iload_n hx hb dX11_tour_9 rfl (lv_at hl 2 rfl) ?_
    refine lv_sipush (v := 4096) hx hb dX11_tour_10 (by decide) ?_
    refine lv_icmp_ge (tgt := 27) hx hb dX11_tour_13 (by decide) (fun c_13 => ?_) (fun c_13 => ?_)
    · have t_13 : p1.toInt ≥ 4096 := toI_ge c_13 rfl (by decide : (4096 : Int32).toInt = 4096)
      exact vx_throw0 (own := RX11) (cls := "java/lang/IllegalArgumentException") (names := ["java/lang/RuntimeException", "java/lang/Exception"]) (ik := 77) (ic := 79) (A := A) hx hb hst hown (by decide +kernel) (by decide +kernel) (hts (.classLink RX11 77 "java/lang/IllegalArgumentException") (by decide +kernel)) (hts (.initialized "java/lang/IllegalArgumentException") (by decide +kernel)) (vx_hat (B := ngX11_79) (fun w h => hts w (List.mem_cons_of_mem _ (List.mem_append_left _ (List.mem_append_left _ (List.mem_append_right _ h))))) (fun _ h => h) (fun w h => va_Nw.use (ngX11_79_ot w h) (hE.2.2.1.2.2.1 w h))) (by decide +kernel) hE.2.1.1 hE.2.1.2 hS (by rw [hml]; exact hl.1) dX11_tour_27 dX11_tour_30 dX11_tour_31 dX11_tour_34 (fun x hx9 => (htab x hx9).elim) (by decide +kernel) (Nat.le_of_ble_eq_true rfl) (by decide +kernel) (by decide +kernel) hlocks (fun t hvm hz hk => ⟨(.null, ([])), (by (try dsimp only); exact Or.inl ⟨rfl, rfl, rfl⟩), ⟨⟨rfl, by first | omega | (have h8 := hbc (by omega) (by omega); omega)⟩, by first | exact hP.kept (fun k q h => hk q.1 ((hP k q h).lt)) | (simp only [List.append_nil]; exact hP.kept (fun k q h => hk q.1 ((hP k q h).lt))), by first | exact hD | (simp only [List.append_nil]; exact hD)⟩, ⟨Nat.le_trans hS.1 hz, fun q h1 h2 => (hk q (Nat.lt_of_lt_of_le h1 hS.1)).trans (hS.2.1 q h1 h2)⟩⟩) hS.2.2 (by decide +kernel) (by decide +kernel)
    · have t_13 : ¬ p1.toInt ≥ 4096 := toI_nge c_13 rfl (by decide : (4096 : Int32).toInt = 4096)
      refine lv_iload_n hx hb dX11_tour_16 rfl (lv_at hl 0 rfl) ?_
      refine lv_iconst (v := 2) hx hb dX11_tour_17 (by decide) ?_
      refine lv_icmp_lt (tgt := 27) hx hb dX11_tour_18 (by decide) (fun c_18 => ?_) (fun c_18 => ?_)
      · have t_18 : r1.toInt < 2 := toI_lt c_18 rfl (by decide : (2 : Int32).toInt = 2)
        exact vx_throw0 (own := RX11) (cls := "java/lang/IllegalArgumentException") (names := ["java/lang/RuntimeException", "java/lang/Exception"]) (ik := 77) (ic := 79) (A := A) hx hb hst hown (by decide +kernel) (by decide +kernel) (hts (.classLink RX11 77 "java/lang/IllegalArgumentException") (by decide +kernel)) (hts (.initialized "java/lang/IllegalArgumentException") (by decide +kernel)) (vx_hat (B := ngX11_79) (fun w h => hts w (List.mem_cons_of_mem _ (List.mem_append_left _ (List.mem_append_left _ (List.mem_append_right _ h))))) (fun _ h => h) (fun w h => va_Nw.use (ngX11_79_ot w h) (hE.2.2.1.2.2.1 w h))) (by decide +kernel) hE.2.1.1 hE.2.1.2 hS (by rw [hml]; exact hl.1) dX11_tour_27 dX11_tour_30 dX11_tour_31 dX11_tour_34 (fun x hx9 => (htab x hx9).elim) (by decide +kernel) (Nat.le_of_ble_eq_true rfl) (by decide +kernel) (by decide +kernel) hlocks (fun t hvm hz hk => ⟨(.null, ([])), (by (try dsimp only); exact Or.inl ⟨rfl, rfl, rfl⟩), ⟨⟨rfl, by first | omega | (have h8 := hbc (by omega) (by omega); omega)⟩, by first | exact hP.kept (fun k q h => hk q.1 ((hP k q h).lt)) | (simp only [List.append_nil]; exact hP.kept (fun k q h => hk q.1 ((hP k q h).lt))), by first | exact hD | (simp only [List.append_nil]; exact hD)⟩, ⟨Nat.le_trans hS.1 hz, fun q h1 h2 => (hk q (Nat.lt_of_lt_of_le h1 hS.1)).trans (hS.2.1 q h1 h2)⟩⟩) hS.2.2 (by decide +kernel) (by decide +kernel)
      · have t_18 : ¬ r1.toInt < 2 := toI_nlt c_18 rfl (by decide : (2 : Int32).toInt = 2)
        refine lv_iload_n hx hb dX11_tour_21 rfl (lv_at hl 0 rfl) ?_
        refine lv_bipush (v := 8) hx hb dX11_tour_22 (by decide) ?_
        refine lv_icmp_le (tgt := 35) hx hb dX11_tour_24 (by decide) (fun c_24 => ?_) (fun c_24 => ?_)
        · have t_24 : r1.toInt ≤ 8 := toI_le c_24 rfl (by decide : (8 : Int32).toInt = 8)
          refine lv_aload_n hx hb dX11_tour_35 rfl (lv_at hl 1 rfl) ?_
          have hp1 : 1 ≤ p1.toInt := tuNz (by omega) (by have h8 := hbc (by omega) (by omega); omega)
          have hFc := allFree hD hS hA
          refine va_callr (va_runV (As := []) (rest := []) ⟨hx, hb, hml, hown, hts⟩ (m_X11_theNets_0 l hst dC dI hX aX kX hT hM fX_ready fX_sheet dX_sheet nX_sheet iX_sheetLength xX_reader xX_solver xX_prover xX_values xX_clauses kN b_fX_sheet (by first | exact b_nX_sheet | assumption | exact ⟨by omega, by omega⟩) (b_iX_sheetLength) (by first | assumption | omega) H.size) (cwV 0 hts gwsMX11_tour_0_2 rfl rfl rfl hd_yX11_theNets_RX11 (by decide +kernel)) (fz_preE (va_recv hK hP (ci := 11) (q0 := 0) rfl rfl) hP hK hD (fun a U g mk qE => qE.call) (fun U hU9 hW => by rw [hU9]; exact (((hE : CE A s s.heap).kept hS.2.1).narrow (fun q h => hFc q h)).warm hW)) rfl rfl hl.1 rfl (lv_room (Nat.le_of_ble_eq_true rfl)) dX11_tour_36 (by decide +kernel)) hS (fun q _ h => hFc q h) hFc (fun u ra2 t9_ H locs ht hvm hw9 hB9 hz1 hk1 hS => ?_)
          obtain ⟨hN, aN⟩ := u
          try dsimp only at hw9 hB9
          obtain ⟨hra, hB9⟩ := hB9
          subst hra
          clear hw9
          have hP : va_P (dC, dI) vwCl (WX hX aX kX hT hM fX_ready fX_sheet dX_sheet nX_sheet iX_sheetLength xX_reader xX_solver xX_prover xX_values xX_clauses (.ref (hN 0)) ++ (WN hN aN kN 0 (fun _ => 0) (fun _ => 0) (fun _ => 0) (fun _ => 0) 0 (fun _ => 0) (fun _ => 0) (fun _ => 0) (fun _ => 0) (fun _ => 0) 0 (fun _ => 0) (fun _ => 0))) H := fz_P ht hB9.1
          have hD : va_D A (WX hX aX kX hT hM fX_ready fX_sheet dX_sheet nX_sheet iX_sheetLength xX_reader xX_solver xX_prover xX_values xX_clauses (.ref (hN 0)) ++ (WN hN aN kN 0 (fun _ => 0) (fun _ => 0) (fun _ => 0) (fun _ => 0) 0 (fun _ => 0) (fun _ => 0) (fun _ => 0) (fun _ => 0) (fun _ => 0) 0 (fun _ => 0) (fun _ => 0))) := hB9.2.weaken (fun _ q _ h => hFc q.1 h)
          refine W.widen (k := 12) (n := 1478) (by decide +kernel) (by decide +kernel) ?_
          refine lv_iload_n hx hb dX11_tour_39 rfl (lv_at hl 2 rfl) ?_
          refine lv_iload_n hx hb dX11_tour_40 rfl (lv_at hl 3 rfl) ?_
          have hPc : va_P (dC, dI) vwCl (WN hN aN kN 0 (fun _ => 0) (fun _ => 0) (fun _ => 0) (fun _ => 0) 0 (fun _ => 0) (fun _ => 0) (fun _ => 0) (fun _ => 0) (fun _ => 0) 0 (fun _ => 0) (fun _ => 0)) _ := hP.sub [3, 4, 5, 6, 7, 8, 9, 10, 11, 12, 13, 14] rfl
          have hDc : va_D _ (WN hN aN kN 0 (fun _ => 0) (fun _ => 0) (fun _ => 0) (fun _ => 0) 0 (fun _ => 0) (fun _ => 0) (fun _ => 0) (fun _ => 0) (fun _ => 0) 0 (fun _ => 0) (fun _ => 0)) := hD.sub [3, 4, 5, 6, 7, 8, 9, 10, 11, 12, 13, 14] (by decide) rfl
          have hKc : va_K (dC, dI) vwCl (tN kN) _ := hK.sub [2, 3, 4, 5, 6, 7, 8, 9, 10, 11, 12] rfl
          have hFc := va_free (wc := WN hN aN kN 0 (fun _ => 0) (fun _ => 0) (fun _ => 0) (fun _ => 0) 0 (fun _ => 0) (fun _ => 0) (fun _ => 0) (fun _ => 0) (fun _ => 0) 0 (fun _ => 0) (fun _ => 0)) hD hS hA [3, 4, 5, 6, 7, 8, 9, 10, 11, 12, 13, 14] rfl
          refine va_calli (va_runV (As := [.int p1, .int p2]) (rest := []) ⟨hx, hb, hml, hown, hts⟩ (m_X2_round l dC dI hN aN kN 0 (fun _ => 0) (fun _ => 0) (fun _ => 0) (fun _ => 0) 0 (fun _ => 0) (fun _ => 0) (fun _ => 0) (fun _ => 0) (fun _ => 0) 0 (fun _ => 0) (fun _ => 0) p1 p2 (show 0 ≤ (0 : Int32).toInt ∧ (0 : Int32).toInt ≤ 40 from by decide) (zr_r (by decide) (by decide)) (zr_r (by decide) (by decide)) (zr_r (by decide) (by decide)) (zr_r (by decide) (by decide)) (show 0 ≤ (0 : Int32).toInt ∧ (0 : Int32).toInt ≤ 8 from by decide) (by first | exact b_p1 | assumption | exact ⟨by omega, by omega⟩) (tVal.z0) ((by have h8 := hbc (by omega) (by omega); omega)) H.size) (cwV 2 hts gwsMX11_tour_0_3 rfl rfl rfl hd_yX2_round_RX2 (by decide +kernel)) (fz_pre (va_recv hK hP (ci := 2) (q0 := 3) rfl rfl) hPc hKc hDc) rfl rfl hl.1 rfl (lv_room (Nat.le_of_ble_eq_true rfl)) dX11_tour_41 (by decide +kernel)) hS (fun q _ h => hFc q h) hFc (fun r3 u t9_ H locs ht hvm hw9 hB9 hz1 hk1 hS => ?_)
          obtain ⟨fN_stop_3, iN_stops_3, fN_price_3, fN_rest_3⟩ := u
          try dsimp only at hw9 hB9
          obtain ⟨b_fN_stop_3, b_iN_stops_3, f3_0⟩ := hw9
          obtain ⟨hP, hD⟩ := va_join (wr := [(hX 0, .inr (11, [.ref (aX 0), .ref (hT 0), .ref (hM 0), .ref dX_sheet, .int iX_sheetLength, xX_reader, xX_solver, xX_prover, xX_values, xX_clauses, (.ref (hN 0))])), (aX 0, .inl (kX 0, 5, .inl fX_ready)), (dX_sheet, .inl (kX 1, nX_sheet, .inl fX_sheet))]) (w1 := WN hN aN kN 0 (fun _ => 0) (fun _ => 0) (fun _ => 0) (fun _ => 0) 0 (fun _ => 0) (fun _ => 0) (fun _ => 0) (fun _ => 0) fN_stop_3 iN_stops_3 fN_price_3 fN_rest_3) hP hD [3, 4, 5, 6, 7, 8, 9, 10, 11, 12, 13, 14] [0, 1, 2] rfl rfl (by decide) (by decide) hk1 hFc (fz_P ht hB9.1) hB9.2
          have hP : va_P (dC, dI) vwCl (WX hX aX kX hT hM fX_ready fX_sheet dX_sheet nX_sheet iX_sheetLength xX_reader xX_solver xX_prover xX_values xX_clauses (.ref (hN 0)) ++ (WN hN aN kN 0 (fun _ => 0) (fun _ => 0) (fun _ => 0) (fun _ => 0) 0 (fun _ => 0) (fun _ => 0) (fun _ => 0) (fun _ => 0) fN_stop_3 iN_stops_3 fN_price_3 fN_rest_3)) H := hP.sub [0, 1, 2, 3, 4, 5, 6, 7, 8, 9, 10, 11, 12, 13, 14] rfl
          have hD : va_D A (WX hX aX kX hT hM fX_ready fX_sheet dX_sheet nX_sheet iX_sheetLength xX_reader xX_solver xX_prover xX_values xX_clauses (.ref (hN 0)) ++ (WN hN aN kN 0 (fun _ => 0) (fun _ => 0) (fun _ => 0) (fun _ => 0) 0 (fun _ => 0) (fun _ => 0) (fun _ => 0) (fun _ => 0) fN_stop_3 iN_stops_3 fN_price_3 fN_rest_3)) := hD.sub [0, 1, 2, 3, 4, 5, 6, 7, 8, 9, 10, 11, 12, 13, 14] (by decide) rfl
          have hpa := f3_0
          refine vx_ret ?_
          refine W.widen (k := 13) (n := 1484) (by decide +kernel) (by decide +kernel) ?_
          exact W.iret (v := r3) hx hb hr (fun t9_ ht hW => ⟨⟨r3, ((.ref (hN 0)), (WN hN aN kN 0 (fun _ => 0) (fun _ => 0) (fun _ => 0) (fun _ => 0) 0 (fun _ => 0) (fun _ => 0) (fun _ => 0) (fun _ => 0) fN_stop_3 iN_stops_3 fN_price_3 fN_rest_3)), rfl, ⟨(by (try dsimp only); have h8 := hbc (by omega) (by omega); omega), (by (try dsimp only); rw [ntZ_x (x := (0 : Int32).toInt) (by decide)]; exact hpa), (by (try dsimp only); exact Or.inr ⟨hN, aN, 0, (fun _ => 0), (fun _ => 0), (fun _ => 0), (fun _ => 0), 0, (fun _ => 0), (fun _ => 0), (fun _ => 0), (fun _ => 0), fN_stop_3, iN_stops_3, fN_price_3, fN_rest_3, (show 0 ≤ (0 : Int32).toInt ∧ (0 : Int32).toInt ≤ 40 from by decide), (zr_r (by decide) (by decide)), (zr_r (by decide) (by decide)), (zr_r (by decide) (by decide)), b_fN_stop_3, (b_iN_stops_3), rfl, rfl, (ntZ_x (by have h7 : (0 : Int32).toInt = 0 := (by decide); omega))⟩)⟩, by rw [ht]; exact hP, hD⟩, hS.F ht⟩) hS.2.2 dX11_tour_44
        · have t_24 : ¬ r1.toInt ≤ 8 := toI_nle c_24 rfl (by decide : (8 : Int32).toInt = 8)
          exact vx_throw0 (own := RX11) (cls := "java/lang/IllegalArgumentException") (names := ["java/lang/RuntimeException", "java/lang/Exception"]) (ik := 77) (ic := 79) (A := A) hx hb hst hown (by decide +kernel) (by decide +kernel) (hts (.classLink RX11 77 "java/lang/IllegalArgumentException") (by decide +kernel)) (hts (.initialized "java/lang/IllegalArgumentException") (by decide +kernel)) (vx_hat (B := ngX11_79) (fun w h => hts w (List.mem_cons_of_mem _ (List.mem_append_left _ (List.mem_append_left _ (List.mem_append_right _ h))))) (fun _ h => h) (fun w h => va_Nw.use (ngX11_79_ot w h) (hE.2.2.1.2.2.1 w h))) (by decide +kernel) hE.2.1.1 hE.2.1.2 hS (by rw [hml]; exact hl.1) dX11_tour_27 dX11_tour_30 dX11_tour_31 dX11_tour_34 (fun x hx9 => (htab x hx9).elim) (by decide +kernel) (Nat.le_of_ble_eq_true rfl) (by decide +kernel) (by decide +kernel) hlocks (fun t hvm hz hk => ⟨(.null, ([])), (by (try dsimp only); exact Or.inl ⟨rfl, rfl, rfl⟩), ⟨⟨rfl, by first | omega | (have h8 := hbc (by omega) (by omega); omega)⟩, by first | exact hP.kept (fun k q h => hk q.1 ((hP k q h).lt)) | (simp only [List.append_nil]; exact hP.kept (fun k q h => hk q.1 ((hP k q h).lt))), by first | exact hD | (simp only [List.append_nil]; exact hD)⟩, ⟨Nat.le_trans hS.1 hz, fun q h1 h2 => (hk q (Nat.lt_of_lt_of_le h1 hS.1)).trans (hS.2.1 q h1 h2)⟩⟩) hS.2.2 (by decide +kernel) (by decide +kernel)
def wsMX11_clause_0 : List Cond := .code yX11_clause cX11_clause 5 (some .int) :: ([.classLink RX11 77 "java/lang/IllegalArgumentException", .initialized "java/lang/IllegalArgumentException", .fieldLink RX11 397 "OptimaWorks$ClauseDesk" "clauses" "I", .fieldLink RX11 386 "OptimaWorks" "clauses" "LOptimaWorks$ClauseDesk;"] ++ wsX00 ++ wsX110 ++ ((vx_at0 RX11 79 "java/lang/IllegalArgumentException" ["java/lang/RuntimeException", "java/lang/Exception"]).filter goodWord) ++ (wsV RX11 393 RX11 yX11_theClauses wsMX11_theClauses_0) ++ (wsV RX11 399 RX0 yX0_addClause wsMX0_addClause))
theorem iwsMX11_clause_0_in0 : ∀ w ∈ wsX00, w ∈ wsMX11_clause_0 := fun _ h => List.mem_cons_of_mem _ (List.mem_append_left _ (List.mem_append_left _ (List.mem_append_left _ (List.mem_append_left _ (List.mem_append_right _ h)))))
theorem iwsMX11_clause_0_in11 : ∀ w ∈ wsX110, w ∈ wsMX11_clause_0 := fun _ h => List.mem_cons_of_mem _ (List.mem_append_left _ (List.mem_append_left _ (List.mem_append_left _ (List.mem_append_right _ h))))
theorem gwsMX11_clause_0_1 : GoodIn wsMX11_clause_0 (wsV RX11 393 RX11 yX11_theClauses wsMX11_theClauses_0) := goodIn_sub (fun _ h => List.mem_cons_of_mem _ (List.mem_append_left _ (List.mem_append_right _ h))) (gdV (by decide +kernel) gdwsMX11_theClauses_0)
theorem gwsMX11_clause_0_2 : GoodIn wsMX11_clause_0 (wsV RX11 399 RX0 yX0_addClause wsMX0_addClause) := goodIn_sub (fun _ h => List.mem_cons_of_mem _ (List.mem_append_right _ h)) (gdV (by decide +kernel) gdwsMX0_addClause)
theorem gdwsMX11_clause_0 : wsMX11_clause_0.all goodWord = true := gdC rfl (gdA (gdA (gdA (gdA (gdA (by decide +kernel : ([.classLink RX11 77 "java/lang/IllegalArgumentException", .initialized "java/lang/IllegalArgumentException", .fieldLink RX11 397 "OptimaWorks$ClauseDesk" "clauses" "I", .fieldLink RX11 386 "OptimaWorks" "clauses" "LOptimaWorks$ClauseDesk;"] : List Cond).all goodWord = true) gdwsX00) gdwsX110) (gdF _)) (gdV (by decide +kernel) gdwsMX11_theClauses_0)) (gdV (by decide +kernel) gdwsMX0_addClause))
set_option maxHeartbeats 4000000 in
set_option maxRecDepth 100000 in
/-- a clause -/
theorem m_X11_clause_0 (l : Launch) (hst : l.stackTraces = false) (dC : Nat → ClassId) (dI : Nat → Nat → Nat) (hX : Nat → Nat) (aX : Nat → Nat) (kX : Nat → ClassId) (hT : Nat → Nat) (hM : Nat → Nat) (fX_ready : Nat → Int32) (fX_sheet : Nat → Int32) (dX_sheet : Nat) (nX_sheet : Nat) (iX_sheetLength : Int32) (xX_reader : Value) (xX_solver : Value) (xX_prover : Value) (xX_values : Value) (xX_nets : Value) (kC : Nat → ClassId) (p1 : Int32) (p2 : Int32) (p3 : Int32) (b_fX_sheet : ∀ q : Nat, (-128) ≤ (fX_sheet q).toInt ∧ (fX_sheet q).toInt ≤ 127) (b_nX_sheet : 64 ≤ nX_sheet ∧ nX_sheet ≤ 60000) (b_iX_sheetLength : 0 ≤ iX_sheetLength.toInt ∧ iX_sheetLength.toInt ≤ 30000) (b_shl : iX_sheetLength.toInt ≤ ((nX_sheet : Nat) : Int)) (sz : Nat) : vx_Met l yX11_clause wsMX11_clause_0 ({ frames := 6, cells := 7, slots := 8277, locals := 81 }) (va_Pc [.ref (hX 0), .int p1, .int p2, .int p3] (fun U => U.heap.size = sz ∧ va_P (dC, dI) vwCl (WX hX aX kX hT hM fX_ready fX_sheet dX_sheet nX_sheet iX_sheetLength xX_reader xX_solver xX_prover xX_values .null xX_nets) U.heap ∧ va_K (dC, dI) vwCl (tX kX ++ (tC kC)) U ∧ va_D (fun _ => True) (WX hX aX kX hT hM fX_ready fX_sheet dX_sheet nX_sheet iX_sheetLength xX_reader xX_solver xX_prover xX_values .null xX_nets) ∧ CE (va_A (WX hX aX kX hT hM fX_ready fX_sheet dX_sheet nX_sheet iX_sheetLength xX_reader xX_solver xX_prover xX_values .null xX_nets) sz) U U.heap)) (va_Qi (fun (r : Int32) (u : (Value) × (va_W)) => (r.toInt = 0) ∧ ((0 ≤ p1.toInt ∧ p1.toInt ≤ 4095 ∧ 0 ≤ p2.toInt ∧ p2.toInt ≤ 4095 ∧ (p1 ||| p2).toInt ≠ 0 ∧ (p1 &&& p2).toInt = 0 ∧ 0 ≤ p3.toInt ∧ p3.toInt ≤ 1000)) ∧ (ClaO kC (clAdd clZ p1 p2 p3) (u.1) (u.2))) (fun (u : (Value) × (va_W)) t => va_P (dC, dI) vwCl (WX hX aX kX hT hM fX_ready fX_sheet dX_sheet nX_sheet iX_sheetLength xX_reader xX_solver xX_prover xX_values (u.1) xX_nets ++ ((u.2))) t.heap ∧ va_D (va_A (WX hX aX kX hT hM fX_ready fX_sheet dX_sheet nX_sheet iX_sheetLength xX_reader xX_solver xX_prover xX_values .null xX_nets) sz) (WX hX aX kX hT hM fX_ready fX_sheet dX_sheet nX_sheet iX_sheetLength xX_reader xX_solver xX_prover xX_values (u.1) xX_nets ++ ((u.2)))) (va_A (WX hX aX kX hT hM fX_ready fX_sheet dX_sheet nX_sheet iX_sheetLength xX_reader xX_solver xX_prover xX_values .null xX_nets) sz)) (vx_X (fun (u : (Value) × (va_W)) => (ClaO kC clZ (u.1) (u.2))) (fun E (u : (Value) × (va_W)) t => ((E = "java/lang/IllegalArgumentException" ∧ (¬ (0 ≤ p1.toInt ∧ p1.toInt ≤ 4095 ∧ 0 ≤ p2.toInt ∧ p2.toInt ≤ 4095 ∧ (p1 ||| p2).toInt ≠ 0 ∧ (p1 &&& p2).toInt = 0 ∧ 0 ≤ p3.toInt ∧ p3.toInt ≤ 1000)))) ∧ va_P (dC, dI) vwCl (WX hX aX kX hT hM fX_ready fX_sheet dX_sheet nX_sheet iX_sheetLength xX_reader xX_solver xX_prover xX_values (u.1) xX_nets ++ ((u.2))) t.heap ∧ va_D (va_A (WX hX aX kX hT hM fX_ready fX_sheet dX_sheet nX_sheet iX_sheetLength xX_reader xX_solver xX_prover xX_values .null xX_nets) sz) (WX hX aX kX hT hM fX_ready fX_sheet dX_sheet nX_sheet iX_sheetLength xX_reader xX_solver xX_prover xX_values (u.1) xX_nets ++ ((u.2)))) (va_A (WX hX aX kX hT hM fX_ready fX_sheet dX_sheet nX_sheet iX_sheetLength xX_reader xX_solver xX_prover xX_values .null xX_nets) sz)) 7 8277 (va_A (WX hX aX kX hT hM fX_ready fX_sheet dX_sheet nX_sheet iX_sheetLength xX_reader xX_solver xX_prover xX_values .null xX_nets) sz) := by
  refine vx_ofW (cc := cX11_clause) (maxL := 5) (ret := (some .int)) (by decide) rfl ?_
  intro p e s m args below meth c s₁ B hml htab hv
  obtain ⟨rfl, hsz, hP, hK, hD0, hE⟩ := hv
  have hx := B.exec
  have hb := B.bytes
  have hr := B.returns
  have hts := atoms_spec (ws := wsMX11_clause_0) B.pre
  have hown : s.vm.findClass RX11 = some m.cls := findClass_of_methodNamed B.named
  have hlocks := B.notSynchronized
  subst hsz
  have hD := hD0.self (sz := s.heap.size)
  generalize hAe : va_A (WX hX aX kX hT hM fX_ready fX_sheet dX_sheet nX_sheet iX_sheetLength xX_reader xX_solver xX_prover xX_values .null xX_nets) s.heap.size = A at hD hE ⊢
  have hA : ∀ q : Nat, s.heap.size ≤ q → A q := fun q h => by rw [← hAe]; exact Or.inr h
  have hS : va_S A s.heap s.heap [] := va_S.rf
  have hl := lv_entry ([.ref (hX 0), .int p1, .int p2, .int p3]) (n := 5) (Nat.le_of_ble_eq_true rfl)
  rw [lg_entry_eq]
  generalize (lg_sl ([.ref (hX 0), .int p1, .int p2, .int p3]) ++ List.replicate (5 - (lg_sl ([.ref (hX 0), .int p1, .int p2, .int p3])).length) Slot.unset).toArray = ls at hl ⊢
  have hl : lv_has ls 5 [(0, .ref (hX 0)), (1, .int p1), (2, .int p2), (3, .int p3)] := hl
  refine lv_iload_n hx hb dX11_clause_0 rfl (lv_at hl 1 rfl) ?_
  refine W.cut (pc := 27) (fun H locs ls stk => ∃ (k0_j2 : Int32), (0 ≤ k0_j2.toInt ∧ k0_j2.toInt ≤ 1) ∧ ((k0_j2.toInt = 1 ∧ (0 ≤ p1.toInt ∧ p1.toInt ≤ 4095 ∧ 0 ≤ p2.toInt ∧ p2.toInt ≤ 4095)) ∨ (k0_j2.toInt = 0 ∧ ¬ (0 ≤ p1.toInt ∧ p1.toInt ≤ 4095 ∧ 0 ≤ p2.toInt ∧ p2.toInt ≤ 4095))) ∧  stk = [.int k0_j2] ∧ va_P (dC, dI) vwCl (WX hX aX kX hT hM fX_ready fX_sheet dX_sheet nX_sheet iX_sheetLength xX_reader xX_solver xX_prover xX_values .null xX_nets) H ∧ va_D A (WX hX aX kX hT hM fX_ready fX_sheet dX_sheet nX_sheet iX_sheetLength xX_reader xX_solver xX_prover xX_values .null xX_nets) ∧ va_S A s.heap H locs ∧ lv_has ls 5 [(0, .ref (hX 0)), (1, .int p1), (2, .int p2), (3, .int p3)]) (fun join2 => ?_) ?_
  · refine lv_if_lt (tgt := 26) hx hb dX11_clause_1 (by decide) (fun c_1 => ?_) (fun c_1 => ?_)
    · have t_1 : p1.toInt < 0 := toI_lt c_1 rfl (by decide : (0 : Int32).toInt = 0)
      refine lv_iconst (v := 0) hx hb dX11_clause_26 (by decide) ?_
      have hl : lv_has _ _ ([(0, .ref (hX 0)), (1, .int p1), (2, .int p2), (3, .int p3)]) := lv_sub hl [0, 1, 2, 3] rfl
      exact join2 _ _ _ _ ⟨0, (show 0 ≤ (0 : Int32).toInt ∧ (0 : Int32).toInt ≤ 1 from by decide), (show ((0 : Int32).toInt = 1 ∧ (0 ≤ p1.toInt ∧ p1.toInt ≤ 4095 ∧ 0 ≤ p2.toInt ∧ p2.toInt ≤ 4095)) ∨ ((0 : Int32).toInt = 0 ∧ ¬ (0 ≤ p1.toInt ∧ p1.toInt ≤ 4095 ∧ 0 ≤ p2.toInt ∧ p2.toInt ≤ 4095)) from by first | exact Or.inl ⟨by decide, by omega⟩ | exact Or.inr ⟨by decide, by omega⟩), rfl, hP, hD, hS, hl⟩
    · have t_1 : ¬ p1.toInt < 0 := toI_nlt c_1 rfl (by decide : (0 : Int32).toInt = 0)
      refine lv_iload_n hx hb dX11_clause_4 rfl (lv_at hl 1 rfl) ?_
      refine lv_sipush (v := 4096) hx hb dX11_clause_5 (by decide) ?_
      refine lv_icmp_ge (tgt := 26) hx hb dX11_clause_8 (by decide) (fun c_8 => ?_) (fun c_8 => ?_)
      · have t_8 : p1.toInt ≥ 4096 := toI_ge c_8 rfl (by decide : (4096 : Int32).toInt = 4096)
        refine lv_iconst (v := 0) hx hb dX11_clause_26 (by decide) ?_
        have hl : lv_has _ _ ([(0, .ref (hX 0)), (1, .int p1), (2, .int p2), (3, .int p3)]) := lv_sub hl [0, 1, 2, 3] rfl
        exact join2 _ _ _ _ ⟨0, (show 0 ≤ (0 : Int32).toInt ∧ (0 : Int32).toInt ≤ 1 from by decide), (show ((0 : Int32).toInt = 1 ∧ (0 ≤ p1.toInt ∧ p1.toInt ≤ 4095 ∧ 0 ≤ p2.toInt ∧ p2.toInt ≤ 4095)) ∨ ((0 : Int32).toInt = 0 ∧ ¬ (0 ≤ p1.toInt ∧ p1.toInt ≤ 4095 ∧ 0 ≤ p2.toInt ∧ p2.toInt ≤ 4095)) from by first | exact Or.inl ⟨by decide, by omega⟩ | exact Or.inr ⟨by decide, by omega⟩), rfl, hP, hD, hS, hl⟩
      · have t_8 : ¬ p1.toInt ≥ 4096 := toI_nge c_8 rfl (by decide : (4096 : Int32).toInt = 4096)
        refine lv_iload_n hx hb dX11_clause_11 rfl (lv_at hl 2 rfl) ?_
        refine lv_if_lt (tgt := 26) hx hb dX11_clause_12 (by decide) (fun c_12 => ?_) (fun c_12 => ?_)
        · have t_12 : p2.toInt < 0 := toI_lt c_12 rfl (by decide : (0 : Int32).toInt = 0)
          refine lv_iconst (v := 0) hx hb dX11_clause_26 (by decide) ?_
          have hl : lv_has _ _ ([(0, .ref (hX 0)), (1, .int p1), (2, .int p2), (3, .int p3)]) := lv_sub hl [0, 1, 2, 3] rfl
          exact join2 _ _ _ _ ⟨0, (show 0 ≤ (0 : Int32).toInt ∧ (0 : Int32).toInt ≤ 1 from by decide), (show ((0 : Int32).toInt = 1 ∧ (0 ≤ p1.toInt ∧ p1.toInt ≤ 4095 ∧ 0 ≤ p2.toInt ∧ p2.toInt ≤ 4095)) ∨ ((0 : Int32).toInt = 0 ∧ ¬ (0 ≤ p1.toInt ∧ p1.toInt ≤ 4095 ∧ 0 ≤ p2.toInt ∧ p2.toInt ≤ 4095)) from by first | exact Or.inl ⟨by decide, by omega⟩ | exact Or.inr ⟨by decide, by omega⟩), rfl, hP, hD, hS, hl⟩
        · have t_12 : ¬ p2.toInt < 0 := toI_nlt c_12 rfl (by decide : (0 : Int32).toInt = 0)
          refine lv_iload_n hx hb dX11_clause_15 rfl (lv_at hl 2 rfl) ?_
          refine lv_sipush (v := 4096) hx hb dX11_clause_16 (by decide) ?_
          refine lv_icmp_ge (tgt := 26) hx hb dX11_clause_19 (by decide) (fun c_19 => ?_) (fun c_19 => ?_)
          · have t_19 : p2.toInt ≥ 4096 := toI_ge c_19 rfl (by decide : (4096 : Int32).toInt = 4096)
            refine lv_iconst (v := 0) hx hb dX11_clause_26 (by decide) ?_
            have hl : lv_has _ _ ([(0, .ref (hX 0)), (1, .int p1), (2, .int p2), (3, .int p3)]) := lv_sub hl [0, 1, 2, 3] rfl
            exact join2 _ _ _ _ ⟨0, (show 0 ≤ (0 : Int32).toInt ∧ (0 : Int32).toInt ≤ 1 from by decide), (show ((0 : Int32).toInt = 1 ∧ (0 ≤ p1.toInt ∧ p1.toInt ≤ 4095 ∧ 0 ≤ p2.toInt ∧ p2.toInt ≤ 4095)) ∨ ((0 : Int32).toInt = 0 ∧ ¬ (0 ≤ p1.toInt ∧ p1.toInt ≤ 4095 ∧ 0 ≤ p2.toInt ∧ p2.toInt ≤ 4095)) from by first | exact Or.inl ⟨by decide, by omega⟩ | exact Or.inr ⟨by decide, by omega⟩), rfl, hP, hD, hS, hl⟩
          · have t_19 : ¬ p2.toInt ≥ 4096 := toI_nge c_19 rfl (by decide : (4096 : Int32).toInt = 4096)
            refine lv_iconst (v := 1) hx hb dX11_clause_22 (by decide) ?_
            refine lv_goto (tgt := 27) hx hb dX11_clause_23 (by decide) ?_
            have hl : lv_has _ _ ([(0, .ref (hX 0)), (1, .int p1), (2, .int p2), (3, .int p3)]) := lv_sub hl [0, 1, 2, 3] rfl
            exact join2 _ _ _ _ ⟨1, (show 0 ≤ (1 : Int32).toInt ∧ (1 : Int32).toInt ≤ 1 from by decide), (show ((1 : Int32).toInt = 1 ∧ (0 ≤ p1.toInt ∧ p1.toInt ≤ 4095 ∧ 0 ≤ p2.toInt ∧ p2.toInt ≤ 4095)) ∨ ((1 : Int32).toInt = 0 ∧ ¬ (0 ≤ p1.toInt ∧ p1.toInt ≤ 4095 ∧ 0 ≤ p2.toInt ∧ p2.toInt ≤ 4095)) from by first | exact Or.inl ⟨by decide, by omega⟩ | exact Or.inr ⟨by decide, by omega⟩), rfl, hP, hD, hS, hl⟩
  · rintro H locs ls stk ⟨k0_j2, b_k0_j2, hsg, rfl, hP, hD, hS, hl⟩
    refine lv_istore hx hb dX11_clause_27 hl (by decide) rfl (fun ls (hl : lv_has ls _ ([(4, .int k0_j2), (0, .ref (hX 0)), (1, .int p1), (2, .int p2), (3, .int p3)])) => ?_)
    refine lv_iload hx hb dX11_clause_29 (lv_at hl 0 rfl) ?_
    refine lv_if_eq (tgt := 57) hx hb dX11_clause_31 (by decide) (fun c_31 => ?_) (fun c_31 => ?_)
    · have t_31 : k0_j2.toInt = 0 := toI_eq c_31 rfl (by decide : (0 : Int32).toInt = 0)
      exact vx_throw0 (own := RX11) (cls := "java/lang/IllegalArgumentException") (names := ["java/lang/RuntimeException", "java/lang/Exception"]) (ik := 77) (ic := 79) (A := A) hx hb hst hown (by decide +kernel) (by decide +kernel) (hts (.classLink RX11 77 "java/lang/IllegalArgumentException") (by decide +kernel)) (hts (.initialized "java/lang/IllegalArgumentException") (by decide +kernel)) (vx_hat (B := ngX11_79) (fun w h => hts w (List.mem_cons_of_mem _ (List.mem_append_left _ (List.mem_append_left _ (List.mem_append_right _ h))))) (fun _ h => h) (fun w h => va_Nw.use (ngX11_79_ot w h) (hE.2.2.1.2.2.1 w h))) (by decide +kernel) hE.2.1.1 hE.2.1.2 hS (by rw [hml]; exact hl.1) dX11_clause_57 dX11_clause_60 dX11_clause_61 dX11_clause_64 (fun x hx9 => (htab x hx9).elim) (by decide +kernel) (Nat.le_of_ble_eq_true rfl) (by decide +kernel) (by decide +kernel) hlocks (fun t hvm hz hk => ⟨(.null, ([])), (by (try dsimp only); exact Or.inl ⟨rfl, rfl, rfl⟩), ⟨⟨rfl, by omega⟩, by first | exact hP.kept (fun k q h => hk q.1 ((hP k q h).lt)) | (simp only [List.append_nil]; exact hP.kept (fun k q h => hk q.1 ((hP k q h).lt))), by first | exact hD | (simp only [List.append_nil]; exact hD)⟩, ⟨Nat.le_trans hS.1 hz, fun q h1 h2 => (hk q (Nat.lt_of_lt_of_le h1 hS.1)).trans (hS.2.1 q h1 h2)⟩⟩) hS.2.2 (by decide +kernel) (by decide +kernel)
    · have t_31 : ¬ k0_j2.toInt = 0 := toI_neq c_31 rfl (by decide : (0 : Int32).toInt = 0)
      refine lv_iload_n hx hb dX11_clause_34 rfl (lv_at hl 2 rfl) ?_
      refine lv_iload_n hx hb dX11_clause_35 rfl (lv_at hl 3 rfl) ?_
      refine lv_ior hx hb dX11_clause_36 ?_
      refine lv_topi (fun v1 hv1 => ?_)
      have b_v1 : v1.toInt ≤ (p1 ||| p2).toInt ∧ (p1 ||| p2).toInt ≤ v1.toInt := by rw [hv1]; exact ⟨Int.le_refl _, Int.le_refl _⟩
      clear hv1
      refine lv_if_eq (tgt := 57) hx hb dX11_clause_37 (by decide) (fun c_37 => ?_) (fun c_37 => ?_)
      · have t_37 : v1.toInt = 0 := toI_eq c_37 rfl (by decide : (0 : Int32).toInt = 0)
        exact vx_throw0 (own := RX11) (cls := "java/lang/IllegalArgumentException") (names := ["java/lang/RuntimeException", "java/lang/Exception"]) (ik := 77) (ic := 79) (A := A) hx hb hst hown (by decide +kernel) (by decide +kernel) (hts (.classLink RX11 77 "java/lang/IllegalArgumentException") (by decide +kernel)) (hts (.initialized "java/lang/IllegalArgumentException") (by decide +kernel)) (vx_hat (B := ngX11_79) (fun w h => hts w (List.mem_cons_of_mem _ (List.mem_append_left _ (List.mem_append_left _ (List.mem_append_right _ h))))) (fun _ h => h) (fun w h => va_Nw.use (ngX11_79_ot w h) (hE.2.2.1.2.2.1 w h))) (by decide +kernel) hE.2.1.1 hE.2.1.2 hS (by rw [hml]; exact hl.1) dX11_clause_57 dX11_clause_60 dX11_clause_61 dX11_clause_64 (fun x hx9 => (htab x hx9).elim) (by decide +kernel) (Nat.le_of_ble_eq_true rfl) (by decide +kernel) (by decide +kernel) hlocks (fun t hvm hz hk => ⟨(.null, ([])), (by (try dsimp only); exact Or.inl ⟨rfl, rfl, rfl⟩), ⟨⟨rfl, by omega⟩, by first | exact hP.kept (fun k q h => hk q.1 ((hP k q h).lt)) | (simp only [List.append_nil]; exact hP.kept (fun k q h => hk q.1 ((hP k q h).lt))), by first | exact hD | (simp only [List.append_nil]; exact hD)⟩, ⟨Nat.le_trans hS.1 hz, fun q h1 h2 => (hk q (Nat.lt_of_lt_of_le h1 hS.1)).trans (hS.2.1 q h1 h2)⟩⟩) hS.2.2 (by decide +kernel) (by decide +kernel)
      · have t_37 : ¬ v1.toInt = 0 := toI_neq c_37 rfl (by decide : (0 : Int32).toInt = 0)
        refine lv_iload_n hx hb dX11_clause_40 rfl (lv_at hl 2 rfl) ?_
        refine lv_iload_n hx hb dX11_clause_41 rfl (lv_at hl 3 rfl) ?_
        refine lv_iand hx hb dX11_clause_42 ?_
        refine lv_topi (fun v2 hv2 => ?_)
        have b_v2 : v2.toInt ≤ (p1 &&& p2).toInt ∧ (p1 &&& p2).toInt ≤ v2.toInt := by rw [hv2]; exact ⟨Int.le_refl _, Int.le_refl _⟩
        clear hv2
        refine lv_if_ne (tgt := 57) hx hb dX11_clause_43 (by decide) (fun c_43 => ?_) (fun c_43 => ?_)
        · have t_43 : v2.toInt ≠ 0 := toI_ne c_43 rfl (by decide : (0 : Int32).toInt = 0)
          exact vx_throw0 (own := RX11) (cls := "java/lang/IllegalArgumentException") (names := ["java/lang/RuntimeException", "java/lang/Exception"]) (ik := 77) (ic := 79) (A := A) hx hb hst hown (by decide +kernel) (by decide +kernel) (hts (.classLink RX11 77 "java/lang/IllegalArgumentException") (by decide +kernel)) (hts (.initialized "java/lang/IllegalArgumentException") (by decide +kernel)) (vx_hat (B := ngX11_79) (fun w h => hts w (List.mem_cons_of_mem _ (List.mem_append_left _ (List.mem_append_left _ (List.mem_append_right _ h))))) (fun _ h => h) (fun w h => va_Nw.use (ngX11_79_ot w h) (hE.2.2.1.2.2.1 w h))) (by decide +kernel) hE.2.1.1 hE.2.1.2 hS (by rw [hml]; exact hl.1) dX11_clause_57 dX11_clause_60 dX11_clause_61 dX11_clause_64 (fun x hx9 => (htab x hx9).elim) (by decide +kernel) (Nat.le_of_ble_eq_true rfl) (by decide +kernel) (by decide +kernel) hlocks (fun t hvm hz hk => ⟨(.null, ([])), (by (try dsimp only); exact Or.inl ⟨rfl, rfl, rfl⟩), ⟨⟨rfl, by omega⟩, by first | exact hP.kept (fun k q h => hk q.1 ((hP k q h).lt)) | (simp only [List.append_nil]; exact hP.kept (fun k q h => hk q.1 ((hP k q h).lt))), by first | exact hD | (simp only [List.append_nil]; exact hD)⟩, ⟨Nat.le_trans hS.1 hz, fun q h1 h2 => (hk q (Nat.lt_of_lt_of_le h1 hS.1)).trans (hS.2.1 q h1 h2)⟩⟩) hS.2.2 (by decide +kernel) (by decide +kernel)
        · have t_43 : v2.toInt = 0 := toI_nne c_43 rfl (by decide : (0 : Int32).toInt = 0)
          refine lv_iload_n hx hb dX11_clause_46 rfl (lv_at hl 4 rfl) ?_
          refine lv_if_lt (tgt := 57) hx hb dX11_clause_47 (by decide) (fun c_47 => ?_) (fun c_47 => ?_)
          · have t_47 : p3.toInt < 0 := toI_lt c_47 rfl (by decide : (0 : Int32).toInt = 0)
            exact vx_throw0 (own := RX11) (cls := "java/lang/IllegalArgumentException") (names := ["java/lang/RuntimeException", "java/lang/Exception"]) (ik := 77) (ic := 79) (A := A) hx hb hst hown (by decide +kernel) (by decide +kernel) (hts (.classLink RX11 77 "java/lang/IllegalArgumentException") (by decide +kernel)) (hts (.initialized "java/lang/IllegalArgumentException") (by decide +kernel)) (vx_hat (B := ngX11_79) (fun w h => hts w (List.mem_cons_of_mem _ (List.mem_append_left _ (List.mem_append_left _ (List.mem_append_right _ h))))) (fun _ h => h) (fun w h => va_Nw.use (ngX11_79_ot w h) (hE.2.2.1.2.2.1 w h))) (by decide +kernel) hE.2.1.1 hE.2.1.2 hS (by rw [hml]; exact hl.1) dX11_clause_57 dX11_clause_60 dX11_clause_61 dX11_clause_64 (fun x hx9 => (htab x hx9).elim) (by decide +kernel) (Nat.le_of_ble_eq_true rfl) (by decide +kernel) (by decide +kernel) hlocks (fun t hvm hz hk => ⟨(.null, ([])), (by (try dsimp only); exact Or.inl ⟨rfl, rfl, rfl⟩), ⟨⟨rfl, by omega⟩, by first | exact hP.kept (fun k q h => hk q.1 ((hP k q h).lt)) | (simp only [List.append_nil]; exact hP.kept (fun k q h => hk q.1 ((hP k q h).lt))), by first | exact hD | (simp only [List.append_nil]; exact hD)⟩, ⟨Nat.le_trans hS.1 hz, fun q h1 h2 => (hk q (Nat.lt_of_lt_of_le h1 hS.1)).trans (hS.2.1 q h1 h2)⟩⟩) hS.2.2 (by decide +kernel) (by decide +kernel)
          · have t_47 : ¬ p3.toInt < 0 := toI_nlt c_47 rfl (by decide : (0 : Int32).toInt = 0)
            refine lv_iload_n hx hb dX11_clause_50 rfl (lv_at hl 4 rfl) ?_
            refine lv_sipush (v := 1000) hx hb dX11_clause_51 (by decide) ?_
            refine lv_icmp_le (tgt := 65) hx hb dX11_clause_54 (by decide) (fun c_54 => ?_) (fun c_54 => ?_)
            · have t_54 : p3.toInt ≤ 1000 := toI_le c_54 rfl (by decide : (1000 : Int32).toInt = 1000)
              refine lv_aload_n hx hb dX11_clause_65 rfl (lv_at hl 1 rfl) ?_
              have hFc := allFree hD hS hA
              refine va_callr (va_runV (As := []) (rest := []) ⟨hx, hb, hml, hown, hts⟩ (m_X11_theClauses_0 l hst dC dI hX aX kX hT hM fX_ready fX_sheet dX_sheet nX_sheet iX_sheetLength xX_reader xX_solver xX_prover xX_values xX_nets kC b_fX_sheet (by first | exact b_nX_sheet | assumption | exact ⟨by omega, by omega⟩) (b_iX_sheetLength) (by first | assumption | omega) H.size) (cwV 0 hts gwsMX11_clause_0_1 rfl rfl rfl hd_yX11_theClauses_RX11 (by decide +kernel)) (fz_preE (va_recv hK hP (ci := 11) (q0 := 0) rfl rfl) hP hK hD (fun a U g mk qE => qE.call) (fun U hU9 hW => by rw [hU9]; exact (((hE : CE A s s.heap).kept hS.2.1).narrow (fun q h => hFc q h)).warm hW)) rfl rfl hl.1 rfl (lv_room (Nat.le_of_ble_eq_true rfl)) dX11_clause_66 (by decide +kernel)) hS (fun q _ h => hFc q h) hFc (fun u ra3 t9_ H locs ht hvm hw9 hB9 hz1 hk1 hS => ?_)
              obtain ⟨hC, aC⟩ := u
              try dsimp only at hw9 hB9
              obtain ⟨hra, hB9⟩ := hB9
              subst hra
              clear hw9
              have hP : va_P (dC, dI) vwCl (WX hX aX kX hT hM fX_ready fX_sheet dX_sheet nX_sheet iX_sheetLength xX_reader xX_solver xX_prover xX_values (.ref (hC 0)) xX_nets ++ (WC hC aC kC 0 (fun _ => 0) (fun _ => 0) (fun _ => 0) (fun _ => 0) (fun _ => 0) 0)) H := fz_P ht hB9.1
              have hD : va_D A (WX hX aX kX hT hM fX_ready fX_sheet dX_sheet nX_sheet iX_sheetLength xX_reader xX_solver xX_prover xX_values (.ref (hC 0)) xX_nets ++ (WC hC aC kC 0 (fun _ => 0) (fun _ => 0) (fun _ => 0) (fun _ => 0) (fun _ => 0) 0)) := hB9.2.weaken (fun _ q _ h => hFc q.1 h)
              refine W.widen (k := 6) (n := 8271) (by decide +kernel) (by decide +kernel) ?_
              refine va_get (D := (dC, dI)) (ci := 0) (v := .int 0) (C := RX0) (T := TX0) (N := 7) hx hb hts iwsMX11_clause_0_in0 hown hK hP 3 rfl rfl 0 (by decide) (hts (.fieldLink RX11 397 "OptimaWorks$ClauseDesk" "clauses" "I") (by decide +kernel)) (fun _ h9 => h9) rfl dX11_clause_69 ?_
              refine lv_bipush (v := 24) hx hb dX11_clause_72 (by decide) ?_
              refine lv_icmp_lt (tgt := 85) hx hb dX11_clause_74 (by decide) (fun _ => ?_) (fun c9 => absurd (by decide) c9)
              refine lv_aload_n hx hb dX11_clause_85 rfl (lv_at hl 1 rfl) ?_
              refine va_get (D := (dC, dI)) (ci := 11) (v := .ref (hC 0)) (C := RX11) (T := TX11) (N := 11) hx hb hts iwsMX11_clause_0_in11 hown hK hP 0 rfl rfl 9 (by decide) (hts (.fieldLink RX11 386 "OptimaWorks" "clauses" "LOptimaWorks$ClauseDesk;") (by decide +kernel)) (fun _ h9 => h9) rfl dX11_clause_86 ?_
              refine lv_iload_n hx hb dX11_clause_89 rfl (lv_at hl 2 rfl) ?_
              refine lv_iload_n hx hb dX11_clause_90 rfl (lv_at hl 3 rfl) ?_
              refine lv_iload_n hx hb dX11_clause_91 rfl (lv_at hl 4 rfl) ?_
              have hPc : va_P (dC, dI) vwCl (WC hC aC kC 0 (fun _ => 0) (fun _ => 0) (fun _ => 0) (fun _ => 0) (fun _ => 0) 0) _ := hP.sub [3, 4, 5, 6, 7, 8] rfl
              have hDc : va_D _ (WC hC aC kC 0 (fun _ => 0) (fun _ => 0) (fun _ => 0) (fun _ => 0) (fun _ => 0) 0) := hD.sub [3, 4, 5, 6, 7, 8] (by decide) rfl
              have hKc : va_K (dC, dI) vwCl (tC kC) _ := hK.sub [2, 3, 4, 5, 6] rfl
              have hFc := va_free (wc := WC hC aC kC 0 (fun _ => 0) (fun _ => 0) (fun _ => 0) (fun _ => 0) (fun _ => 0) 0) hD hS hA [3, 4, 5, 6, 7, 8] rfl
              refine va_calli (va_runV (As := [.int p1, .int p2, .int p3]) (rest := []) ⟨hx, hb, hml, hown, hts⟩ (m_X0_addClause l dC dI hC aC kC 0 (fun _ => 0) (fun _ => 0) (fun _ => 0) (fun _ => 0) (fun _ => 0) 0 p1 p2 p3 (show 0 ≤ (0 : Int32).toInt ∧ (0 : Int32).toInt ≤ 24 from by decide) (by first | exact b_p3 | assumption | exact ⟨by omega, by omega⟩) (by first | assumption | omega | (rw [iI_t (by omega) (by omega)]; omega) | decide) (cVal.z0) (ClI.z0) H.size) (cwV 3 hts gwsMX11_clause_0_2 rfl rfl rfl hd_yX0_addClause_RX0 (by decide +kernel)) (fz_pre (va_recv hK hP (ci := 0) (q0 := 3) rfl rfl) hPc hKc hDc) rfl rfl hl.1 rfl (lv_room (Nat.le_of_ble_eq_true rfl)) dX11_clause_92 (by decide +kernel)) hS (fun q _ h => hFc q h) hFc (fun r4 u t9_ H locs ht hvm hw9 hB9 hz1 hk1 hS => ?_)
              obtain ⟨iC_clauses_4, fC_wants_4, fC_wantsNot_4, fC_weight_4, fC_broken_4, fC_loss_4, iC_musts_4⟩ := u
              try dsimp only at hw9 hB9
              obtain ⟨b_iC_clauses_4, f4_0, f4_1, f4_2, f4_3, f4_4, f4_5, f4_6⟩ := hw9
              obtain ⟨hP, hD⟩ := va_join (wr := [(hX 0, .inr (11, [.ref (aX 0), .ref (hT 0), .ref (hM 0), .ref dX_sheet, .int iX_sheetLength, xX_reader, xX_solver, xX_prover, xX_values, (.ref (hC 0)), xX_nets])), (aX 0, .inl (kX 0, 5, .inl fX_ready)), (dX_sheet, .inl (kX 1, nX_sheet, .inl fX_sheet))]) (w1 := WC hC aC kC iC_clauses_4 fC_wants_4 fC_wantsNot_4 fC_weight_4 fC_broken_4 fC_loss_4 iC_musts_4) hP hD [3, 4, 5, 6, 7, 8] [0, 1, 2] rfl rfl (by decide) (by decide) hk1 hFc (fz_P ht hB9.1) hB9.2
              have hP : va_P (dC, dI) vwCl (WX hX aX kX hT hM fX_ready fX_sheet dX_sheet nX_sheet iX_sheetLength xX_reader xX_solver xX_prover xX_values (.ref (hC 0)) xX_nets ++ (WC hC aC kC iC_clauses_4 fC_wants_4 fC_wantsNot_4 fC_weight_4 fC_broken_4 fC_loss_4 iC_musts_4)) H := hP.sub [0, 1, 2, 3, 4, 5, 6, 7, 8] rfl
              have hD : va_D A (WX hX aX kX hT hM fX_ready fX_sheet dX_sheet nX_sheet iX_sheetLength xX_reader xX_solver xX_prover xX_values (.ref (hC 0)) xX_nets ++ (WC hC aC kC iC_clauses_4 fC_wants_4 fC_wantsNot_4 fC_weight_4 fC_broken_4 fC_loss_4 iC_musts_4)) := hD.sub [0, 1, 2, 3, 4, 5, 6, 7, 8] (by decide) rfl
              have hq0 := f4_0
              have hq1 := f4_1
              have hq2 := f4_2
              have hq3 := f4_3
              have hq4 := f4_4
              refine vx_ret ?_
              refine W.widen (k := 7) (n := 8277) (by decide +kernel) (by decide +kernel) ?_
              exact W.iret (v := r4) hx hb hr (fun t9_ ht hW => ⟨⟨r4, ((.ref (hC 0)), (WC hC aC kC iC_clauses_4 fC_wants_4 fC_wantsNot_4 fC_weight_4 fC_broken_4 fC_loss_4 iC_musts_4)), rfl, ⟨(by (try dsimp only); have h7 : (0 : Int32).toInt = 0 := (by decide); omega), (by (try dsimp only); omega), (by (try dsimp only); exact Or.inr ⟨hC, aC, iC_clauses_4, fC_wants_4, fC_wantsNot_4, fC_weight_4, fC_broken_4, fC_loss_4, iC_musts_4, (b_iC_clauses_4), (by first | assumption | exact cVal.z0), (by first | assumption | exact ClI.z0), rfl, rfl, (clAdd_0 hq0 hq2 hq3 hq4)⟩)⟩, by rw [ht]; exact hP, hD⟩, hS.F ht⟩) hS.2.2 dX11_clause_95
            · have t_54 : ¬ p3.toInt ≤ 1000 := toI_nle c_54 rfl (by decide : (1000 : Int32).toInt = 1000)
              exact vx_throw0 (own := RX11) (cls := "java/lang/IllegalArgumentException") (names := ["java/lang/RuntimeException", "java/lang/Exception"]) (ik := 77) (ic := 79) (A := A) hx hb hst hown (by decide +kernel) (by decide +kernel) (hts (.classLink RX11 77 "java/lang/IllegalArgumentException") (by decide +kernel)) (hts (.initialized "java/lang/IllegalArgumentException") (by decide +kernel)) (vx_hat (B := ngX11_79) (fun w h => hts w (List.mem_cons_of_mem _ (List.mem_append_left _ (List.mem_append_left _ (List.mem_append_right _ h))))) (fun _ h => h) (fun w h => va_Nw.use (ngX11_79_ot w h) (hE.2.2.1.2.2.1 w h))) (by decide +kernel) hE.2.1.1 hE.2.1.2 hS (by rw [hml]; exact hl.1) dX11_clause_57 dX11_clause_60 dX11_clause_61 dX11_clause_64 (fun x hx9 => (htab x hx9).elim) (by decide +kernel) (Nat.le_of_ble_eq_true rfl) (by decide +kernel) (by decide +kernel) hlocks (fun t hvm hz hk => ⟨(.null, ([])), (by (try dsimp only); exact Or.inl ⟨rfl, rfl, rfl⟩), ⟨⟨rfl, by omega⟩, by first | exact hP.kept (fun k q h => hk q.1 ((hP k q h).lt)) | (simp only [List.append_nil]; exact hP.kept (fun k q h => hk q.1 ((hP k q h).lt))), by first | exact hD | (simp only [List.append_nil]; exact hD)⟩, ⟨Nat.le_trans hS.1 hz, fun q h1 h2 => (hk q (Nat.lt_of_lt_of_le h1 hS.1)).trans (hS.2.1 q h1 h2)⟩⟩) hS.2.2 (by decide +kernel) (by decide +kernel)
def wsMX11_unsay_0 : List Cond := .code yX11_unsay cX11_unsay 1 (some .boolean) :: ([] ++ (wsV RX11 393 RX11 yX11_theClauses wsMX11_theClauses_0) ++ (wsV RX11 402 RX0 yX0_dropClause wsMX0_dropClause))
theorem gwsMX11_unsay_0_0 : GoodIn wsMX11_unsay_0 (wsV RX11 393 RX11 yX11_theClauses wsMX11_theClauses_0) := goodIn_sub (fun _ h => List.mem_cons_of_mem _ (List.mem_append_left _ (List.mem_append_right _ h))) (gdV (by decide +kernel) gdwsMX11_theClauses_0)
theorem gwsMX11_unsay_0_1 : GoodIn wsMX11_unsay_0 (wsV RX11 402 RX0 yX0_dropClause wsMX0_dropClause) := goodIn_sub (fun _ h => List.mem_cons_of_mem _ (List.mem_append_right _ h)) (gdV (by decide +kernel) gdwsMX0_dropClause)
theorem gdwsMX11_unsay_0 : wsMX11_unsay_0.all goodWord = true := gdC rfl (gdA (gdA (by decide +kernel : ([] : List Cond).all goodWord = true) (gdV (by decide +kernel) gdwsMX11_theClauses_0)) (gdV (by decide +kernel) gdwsMX0_dropClause))
set_option maxHeartbeats 4000000 in
set_option maxRecDepth 100000 in
/-- a clause less -/
theorem m_X11_unsay_0 (l : Launch) (hst : l.stackTraces = false) (dC : Nat → ClassId) (dI : Nat → Nat → Nat) (hX : Nat → Nat) (aX : Nat → Nat) (kX : Nat → ClassId) (hT : Nat → Nat) (hM : Nat → Nat) (fX_ready : Nat → Int32) (fX_sheet : Nat → Int32) (dX_sheet : Nat) (nX_sheet : Nat) (iX_sheetLength : Int32) (xX_reader : Value) (xX_solver : Value) (xX_prover : Value) (xX_values : Value) (xX_nets : Value) (kC : Nat → ClassId) (b_fX_sheet : ∀ q : Nat, (-128) ≤ (fX_sheet q).toInt ∧ (fX_sheet q).toInt ≤ 127) (b_nX_sheet : 64 ≤ nX_sheet ∧ nX_sheet ≤ 60000) (b_iX_sheetLength : 0 ≤ iX_sheetLength.toInt ∧ iX_sheetLength.toInt ≤ 30000) (b_shl : iX_sheetLength.toInt ≤ ((nX_sheet : Nat) : Int)) (sz : Nat) : Met l yX11_unsay wsMX11_unsay_0 ({ frames := 3, cells := 6, slots := 8271, locals := 52 }) (va_Pc [.ref (hX 0)] (fun U => U.heap.size = sz ∧ va_P (dC, dI) vwCl (WX hX aX kX hT hM fX_ready fX_sheet dX_sheet nX_sheet iX_sheetLength xX_reader xX_solver xX_prover xX_values .null xX_nets) U.heap ∧ va_K (dC, dI) vwCl (tX kX ++ (tC kC)) U ∧ va_D (fun _ => True) (WX hX aX kX hT hM fX_ready fX_sheet dX_sheet nX_sheet iX_sheetLength xX_reader xX_solver xX_prover xX_values .null xX_nets) ∧ CE (va_A (WX hX aX kX hT hM fX_ready fX_sheet dX_sheet nX_sheet iX_sheetLength xX_reader xX_solver xX_prover xX_values .null xX_nets) sz) U U.heap)) (va_Qi (fun (r : Int32) (u : (Value) × (va_W)) => (0 ≤ r.toInt ∧ r.toInt ≤ 1) ∧ (r.toInt = 0) ∧ (ClaO kC clZ (u.1) (u.2))) (fun (u : (Value) × (va_W)) t => va_P (dC, dI) vwCl (WX hX aX kX hT hM fX_ready fX_sheet dX_sheet nX_sheet iX_sheetLength xX_reader xX_solver xX_prover xX_values (u.1) xX_nets ++ ((u.2))) t.heap ∧ va_D (va_A (WX hX aX kX hT hM fX_ready fX_sheet dX_sheet nX_sheet iX_sheetLength xX_reader xX_solver xX_prover xX_values .null xX_nets) sz) (WX hX aX kX hT hM fX_ready fX_sheet dX_sheet nX_sheet iX_sheetLength xX_reader xX_solver xX_prover xX_values (u.1) xX_nets ++ ((u.2)))) (va_A (WX hX aX kX hT hM fX_ready fX_sheet dX_sheet nX_sheet iX_sheetLength xX_reader xX_solver xX_prover xX_values .null xX_nets) sz)) 6 8271 (va_A (WX hX aX kX hT hM fX_ready fX_sheet dX_sheet nX_sheet iX_sheetLength xX_reader xX_solver xX_prover xX_values .null xX_nets) sz) := by
  refine Met.ofW (cc := cX11_unsay) (maxL := 1) (ret := (some .boolean)) (by decide) rfl ?_
  intro p e s m args below meth c s₁ B hml hv
  obtain ⟨rfl, hsz, hP, hK, hD0, hE⟩ := hv
  have hx := B.exec
  have hb := B.bytes
  have hr := B.returns
  have hts := atoms_spec (ws := wsMX11_unsay_0) B.pre
  have hown : s.vm.findClass RX11 = some m.cls := findClass_of_methodNamed B.named
  have hlocks := B.notSynchronized
  subst hsz
  have hD := hD0.self (sz := s.heap.size)
  generalize hAe : va_A (WX hX aX kX hT hM fX_ready fX_sheet dX_sheet nX_sheet iX_sheetLength xX_reader xX_solver xX_prover xX_values .null xX_nets) s.heap.size = A at hD hE ⊢
  have hA : ∀ q : Nat, s.heap.size ≤ q → A q := fun q h => by rw [← hAe]; exact Or.inr h
  have hS : va_S A s.heap s.heap [] := va_S.rf
  have hl := lv_entry ([.ref (hX 0)]) (n := 1) (Nat.le_of_ble_eq_true rfl)
  rw [lg_entry_eq]
  generalize (lg_sl ([.ref (hX 0)]) ++ List.replicate (1 - (lg_sl ([.ref (hX 0)])).length) Slot.unset).toArray = ls at hl ⊢
  have hl : lv_has ls 1 [(0, .ref (hX 0))] := hl
  refine lv_aload_n hx hb dX11_unsay_0 rfl (lv_at hl 0 rfl) ?_
  have hFc := allFree hD hS hA
  refine va_callr (va_runV (As := []) (rest := []) ⟨hx, hb, hml, hown, hts⟩ (m_X11_theClauses_0 l hst dC dI hX aX kX hT hM fX_ready fX_sheet dX_sheet nX_sheet iX_sheetLength xX_reader xX_solver xX_prover xX_values xX_nets kC b_fX_sheet (by first | exact b_nX_sheet | assumption | exact ⟨by omega, by omega⟩) (b_iX_sheetLength) (by first | assumption | omega) s.heap.size) (cwV 0 hts gwsMX11_unsay_0_0 rfl rfl rfl hd_yX11_theClauses_RX11 (by decide +kernel)) (fz_preE (va_recv hK hP (ci := 11) (q0 := 0) rfl rfl) hP hK hD (fun a U g mk qE => qE.call) (fun U hU9 hW => by rw [hU9]; exact (((hE : CE A s s.heap).kept hS.2.1).narrow (fun q h => hFc q h)).warm hW)) rfl rfl hl.1 rfl (lv_room (Nat.le_of_ble_eq_true rfl)) dX11_unsay_1 (by decide +kernel)) hS (fun q _ h => hFc q h) hFc (fun u ra1 t9_ H locs ht hvm hw9 hB9 hz1 hk1 hS => ?_)
  obtain ⟨hC, aC⟩ := u
  try dsimp only at hw9 hB9
  obtain ⟨hra, hB9⟩ := hB9
  subst hra
  clear hw9
  have hP : va_P (dC, dI) vwCl (WX hX aX kX hT hM fX_ready fX_sheet dX_sheet nX_sheet iX_sheetLength xX_reader xX_solver xX_prover xX_values (.ref (hC 0)) xX_nets ++ (WC hC aC kC 0 (fun _ => 0) (fun _ => 0) (fun _ => 0) (fun _ => 0) (fun _ => 0) 0)) H := fz_P ht hB9.1
  have hD : va_D A (WX hX aX kX hT hM fX_ready fX_sheet dX_sheet nX_sheet iX_sheetLength xX_reader xX_solver xX_prover xX_values (.ref (hC 0)) xX_nets ++ (WC hC aC kC 0 (fun _ => 0) (fun _ => 0) (fun _ => 0) (fun _ => 0) (fun _ => 0) 0)) := hB9.2.weaken (fun _ q _ h => hFc q.1 h)
  refine W.widen (k := 6) (n := 8271) (by decide +kernel) (by decide +kernel) ?_
  have hPc : va_P (dC, dI) vwCl (WC hC aC kC 0 (fun _ => 0) (fun _ => 0) (fun _ => 0) (fun _ => 0) (fun _ => 0) 0) _ := hP.sub [3, 4, 5, 6, 7, 8] rfl
  have hDc : va_D _ (WC hC aC kC 0 (fun _ => 0) (fun _ => 0) (fun _ => 0) (fun _ => 0) (fun _ => 0) 0) := hD.sub [3, 4, 5, 6, 7, 8] (by decide) rfl
  have hKc : va_K (dC, dI) vwCl (tC kC) _ := hK.sub [2, 3, 4, 5, 6] rfl
  have hFc := va_free (wc := WC hC aC kC 0 (fun _ => 0) (fun _ => 0) (fun _ => 0) (fun _ => 0) (fun _ => 0) 0) hD hS hA [3, 4, 5, 6, 7, 8] rfl
  refine va_calli (va_runV (As := []) (rest := []) ⟨hx, hb, hml, hown, hts⟩ (m_X0_dropClause l dC dI hC aC kC 0 (fun _ => 0) (fun _ => 0) (fun _ => 0) (fun _ => 0) (fun _ => 0) 0 (show 0 ≤ (0 : Int32).toInt ∧ (0 : Int32).toInt ≤ 24 from by decide) (cVal.z0) (ClI.z0) H.size) (cwV 0 hts gwsMX11_unsay_0_1 rfl rfl rfl hd_yX0_dropClause_RX0 (by decide +kernel)) (fz_pre (va_recv hK hP (ci := 0) (q0 := 3) rfl rfl) hPc hKc hDc) rfl rfl hl.1 rfl (lv_room (Nat.le_of_ble_eq_true rfl)) dX11_unsay_4 (by decide +kernel)) hS (fun q _ h => hFc q h) hFc (fun r2 u t9_ H locs ht hvm hw9 hB9 hz1 hk1 hS => ?_)
  obtain ⟨iC_clauses_2, fC_broken_2, fC_loss_2, iC_musts_2⟩ := u
  try dsimp only at hw9 hB9
  obtain ⟨b_iC_clauses_2, b_r2, f2_0, f2_1, f2_2⟩ := hw9
  obtain ⟨hP, hD⟩ := va_join (wr := [(hX 0, .inr (11, [.ref (aX 0), .ref (hT 0), .ref (hM 0), .ref dX_sheet, .int iX_sheetLength, xX_reader, xX_solver, xX_prover, xX_values, (.ref (hC 0)), xX_nets])), (aX 0, .inl (kX 0, 5, .inl fX_ready)), (dX_sheet, .inl (kX 1, nX_sheet, .inl fX_sheet))]) (w1 := WC hC aC kC iC_clauses_2 (fun _ => 0) (fun _ => 0) (fun _ => 0) fC_broken_2 fC_loss_2 iC_musts_2) hP hD [3, 4, 5, 6, 7, 8] [0, 1, 2] rfl rfl (by decide) (by decide) hk1 hFc (fz_P ht hB9.1) hB9.2
  have hP : va_P (dC, dI) vwCl (WX hX aX kX hT hM fX_ready fX_sheet dX_sheet nX_sheet iX_sheetLength xX_reader xX_solver xX_prover xX_values (.ref (hC 0)) xX_nets ++ (WC hC aC kC iC_clauses_2 (fun _ => 0) (fun _ => 0) (fun _ => 0) fC_broken_2 fC_loss_2 iC_musts_2)) H := hP.sub [0, 1, 2, 3, 4, 5, 6, 7, 8] rfl
  have hD : va_D A (WX hX aX kX hT hM fX_ready fX_sheet dX_sheet nX_sheet iX_sheetLength xX_reader xX_solver xX_prover xX_values (.ref (hC 0)) xX_nets ++ (WC hC aC kC iC_clauses_2 (fun _ => 0) (fun _ => 0) (fun _ => 0) fC_broken_2 fC_loss_2 iC_musts_2)) := hD.sub [0, 1, 2, 3, 4, 5, 6, 7, 8] (by decide) rfl
  refine W.widen (k := 6) (n := 8271) (by decide +kernel) (by decide +kernel) ?_
  exact W.zret (v := r2) hx hb hr (by rcases z01 (x := r2) (by first | exact b_r2 | assumption | exact ⟨by omega, by omega⟩) with h9 | h9 <;> rw [h9] <;> rfl) (fun t9_ ht hW => ⟨⟨r2, ((.ref (hC 0)), (WC hC aC kC iC_clauses_2 (fun _ => 0) (fun _ => 0) (fun _ => 0) fC_broken_2 fC_loss_2 iC_musts_2)), rfl, ⟨(by first | exact b_r2 | assumption | exact ⟨by omega, by omega⟩), (by (try dsimp only); have h7 : (0 : Int32).toInt = 0 := (by decide); omega), (by (try dsimp only); exact Or.inr ⟨hC, aC, iC_clauses_2, (fun _ => 0), (fun _ => 0), (fun _ => 0), fC_broken_2, fC_loss_2, iC_musts_2, (b_iC_clauses_2), (by first | assumption | exact cVal.z0), (by first | assumption | exact ClI.z0), rfl, rfl, (clZ_x (by have h7 : (0 : Int32).toInt = 0 := (by decide); omega))⟩)⟩, by rw [ht]; exact hP, hD⟩, hS.F ht⟩) hS.2.2 dX11_unsay_7

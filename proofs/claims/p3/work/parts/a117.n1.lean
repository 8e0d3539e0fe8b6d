def WN (hN : Nat → Nat) (aN : Nat → Nat) (kN : Nat → ClassId) (iN_arcs : Int32) (fN_from : Nat → Int32) (fN_to : Nat → Int32) (fN_room : Nat → Int32) (fN_cost : Nat → Int32) (iN_reached : Int32) (fN_free : Nat → Int32) (fN_before : Nat → Int32) (fN_flow : Nat → Int32) (fN_length : Nat → Int32) (fN_stop : Nat → Int32) (iN_stops : Int32) (fN_price : Nat → Int32) (fN_rest : Nat → Int32) : va_W := [(hN 0, .inr (2, [.int iN_arcs, .ref (aN 0), .ref (aN 1), .ref (aN 2), .ref (aN 3), .int iN_reached, .ref (aN 4), .ref (aN 5), .ref (aN 6), .ref (aN 7), .ref (aN 8), .int iN_stops, .ref (aN 9), .ref (aN 10)])), (aN 0, .inl (kN 0, 40, .inl fN_from)), (aN 1, .inl (kN 1, 40, .inl fN_to)), (aN 2, .inl (kN 2, 40, .inl fN_room)), (aN 3, .inl (kN 3, 40, .inl fN_cost)), (aN 4, .inl (kN 4, 144, .inl fN_free)), (aN 5, .inl (kN 5, 12, .inl fN_before)), (aN 6, .inl (kN 6, 40, .inl fN_flow)), (aN 7, .inl (kN 7, 12, .inl fN_length)), (aN 8, .inl (kN 8, 8, .inl fN_stop)), (aN 9, .inl (kN 9, 64, .inl fN_price)), (aN 10, .inl (kN 10, 1024, .inl fN_rest))]
def tN (kN : Nat → ClassId) : List (ClassId × FieldType) := [(kN 0, .int), (kN 1, .int), (kN 2, .int), (kN 3, .int), (kN 4, .int), (kN 5, .int), (kN 6, .int), (kN 7, .int), (kN 8, .int), (kN 9, .int), (kN 10, .int)]
theorem dX2_addArc_0 : decode cX2_addArc 0 = .ok (.aload_n 0, 1) := by decide +kernel
theorem dX2_addArc_1 : decode cX2_addArc 1 = .ok (.getfield 11, 3) := by decide +kernel
theorem dX2_addArc_4 : decode cX2_addArc 4 = .ok (.aload_n 0, 1) := by decide +kernel
theorem dX2_addArc_5 : decode cX2_addArc 5 = .ok (.getfield 45, 3) := by decide +kernel
theorem dX2_addArc_8 : decode cX2_addArc 8 = .ok (.iload_n 1, 1) := by decide +kernel
theorem dX2_addArc_9 : decode cX2_addArc 9 = .ok (.iastore, 1) := by decide +kernel
theorem dX2_addArc_10 : decode cX2_addArc 10 = .ok (.aload_n 0, 1) := by decide +kernel
theorem dX2_addArc_11 : decode cX2_addArc 11 = .ok (.getfield 15, 3) := by decide +kernel
theorem dX2_addArc_14 : decode cX2_addArc 14 = .ok (.aload_n 0, 1) := by decide +kernel
theorem dX2_addArc_15 : decode cX2_addArc 15 = .ok (.getfield 45, 3) := by decide +kernel
theorem dX2_addArc_18 : decode cX2_addArc 18 = .ok (.iload_n 2, 1) := by decide +kernel
theorem dX2_addArc_19 : decode cX2_addArc 19 = .ok (.iastore, 1) := by decide +kernel
theorem dX2_addArc_20 : decode cX2_addArc 20 = .ok (.aload_n 0, 1) := by decide +kernel
theorem dX2_addArc_21 : decode cX2_addArc 21 = .ok (.getfield 18, 3) := by decide +kernel
theorem dX2_addArc_24 : decode cX2_addArc 24 = .ok (.aload_n 0, 1) := by decide +kernel
theorem dX2_addArc_25 : decode cX2_addArc 25 = .ok (.getfield 45, 3) := by decide +kernel
theorem dX2_addArc_28 : decode cX2_addArc 28 = .ok (.iload_n 3, 1) := by decide +kernel
theorem dX2_addArc_29 : decode cX2_addArc 29 = .ok (.iastore, 1) := by decide +kernel
theorem dX2_addArc_30 : decode cX2_addArc 30 = .ok (.aload_n 0, 1) := by decide +kernel
theorem dX2_addArc_31 : decode cX2_addArc 31 = .ok (.getfield 21, 3) := by decide +kernel
theorem dX2_addArc_34 : decode cX2_addArc 34 = .ok (.aload_n 0, 1) := by decide +kernel
theorem dX2_addArc_35 : decode cX2_addArc 35 = .ok (.getfield 45, 3) := by decide +kernel
theorem dX2_addArc_38 : decode cX2_addArc 38 = .ok (.iload 4, 2) := by decide +kernel
theorem dX2_addArc_40 : decode cX2_addArc 40 = .ok (.iastore, 1) := by decide +kernel
theorem dX2_addArc_41 : decode cX2_addArc 41 = .ok (.aload_n 0, 1) := by decide +kernel
theorem dX2_addArc_42 : decode cX2_addArc 42 = .ok (.dup, 1) := by decide +kernel
theorem dX2_addArc_43 : decode cX2_addArc 43 = .ok (.getfield 45, 3) := by decide +kernel
theorem dX2_addArc_46 : decode cX2_addArc 46 = .ok (.iconst 1, 1) := by decide +kernel
theorem dX2_addArc_47 : decode cX2_addArc 47 = .ok (.iadd, 1) := by decide +kernel
theorem dX2_addArc_48 : decode cX2_addArc 48 = .ok (.putfield 45, 3) := by decide +kernel
theorem dX2_addArc_51 : decode cX2_addArc 51 = .ok (.aload_n 0, 1) := by decide +kernel
theorem dX2_addArc_52 : decode cX2_addArc 52 = .ok (.getfield 45, 3) := by decide +kernel
theorem dX2_addArc_55 : decode cX2_addArc 55 = .ok (.iconst 1, 1) := by decide +kernel
theorem dX2_addArc_56 : decode cX2_addArc 56 = .ok (.isub, 1) := by decide +kernel
theorem dX2_addArc_57 : decode cX2_addArc 57 = .ok (.ireturn, 1) := by decide +kernel
def wsMX2_addArc : List Cond := .code yX2_addArc cX2_addArc 5 (some .int) :: ([.fieldLink RX2 11 "OptimaWorks$NetDesk" "from" "[I", .fieldLink RX2 45 "OptimaWorks$NetDesk" "arcs" "I", .fieldLink RX2 15 "OptimaWorks$NetDesk" "to" "[I", .fieldLink RX2 18 "OptimaWorks$NetDesk" "room" "[I", .fieldLink RX2 21 "OptimaWorks$NetDesk" "cost" "[I"] ++ wsX20)
theorem iwsMX2_addArc_in2 : ∀ w ∈ wsX20, w ∈ wsMX2_addArc := fun _ h => List.mem_cons_of_mem _ (List.mem_append_right _ h)
theorem gdwsMX2_addArc : wsMX2_addArc.all goodWord = true := gdC rfl (gdA (by decide +kernel : ([.fieldLink RX2 11 "OptimaWorks$NetDesk" "from" "[I", .fieldLink RX2 45 "OptimaWorks$NetDesk" "arcs" "I", .fieldLink RX2 15 "OptimaWorks$NetDesk" "to" "[I", .fieldLink RX2 18 "OptimaWorks$NetDesk" "room" "[I", .fieldLink RX2 21 "OptimaWorks$NetDesk" "cost" "[I"] : List Cond).all goodWord = true) gdwsX20)
set_option maxHeartbeats 4000000 in
set_option maxRecDepth 100000 in
/-- an arc more -/
theorem m_X2_addArc (l : Launch) (dC : Nat → ClassId) (dI : Nat → Nat → Nat) (hN : Nat → Nat) (aN : Nat → Nat) (kN : Nat → ClassId) (iN_arcs : Int32) (fN_from : Nat → Int32) (fN_to : Nat → Int32) (fN_room : Nat → Int32) (fN_cost : Nat → Int32) (iN_reached : Int32) (fN_free : Nat → Int32) (fN_before : Nat → Int32) (fN_flow : Nat → Int32) (fN_length : Nat → Int32) (fN_stop : Nat → Int32) (iN_stops : Int32) (fN_price : Nat → Int32) (fN_rest : Nat → Int32) (p1 : Int32) (p2 : Int32) (p3 : Int32) (p4 : Int32) (b_iN_arcs : 0 ≤ iN_arcs.toInt ∧ iN_arcs.toInt ≤ 40) (b_fN_from : ∀ q : Nat, 0 ≤ (fN_from q).toInt ∧ (fN_from q).toInt ≤ 11) (b_fN_to : ∀ q : Nat, 0 ≤ (fN_to q).toInt ∧ (fN_to q).toInt ≤ 11) (b_fN_before : ∀ q : Nat, 0 ≤ (fN_before q).toInt ∧ (fN_before q).toInt ≤ 79) (b_fN_stop : ∀ q : Nat, 0 ≤ (fN_stop q).toInt ∧ (fN_stop q).toInt ≤ 11) (b_iN_stops : 0 ≤ iN_stops.toInt ∧ iN_stops.toInt ≤ 8) (b_p1 : 0 ≤ p1.toInt ∧ p1.toInt ≤ 11) (b_p2 : 0 ≤ p2.toInt ∧ p2.toInt ≤ 11) (hlt : iN_arcs.toInt < 40) (sz : Nat) : Met l yX2_addArc wsMX2_addArc ({ frames := 0, cells := 0, slots := 0, locals := 0 }) (va_Pc [.ref (hN 0), .int p1, .int p2, .int p3, .int p4] (fun U => U.heap.size = sz ∧ va_P (dC, dI) vwCl (WN hN aN kN iN_arcs fN_from fN_to fN_room fN_cost iN_reached fN_free fN_before fN_flow fN_length fN_stop iN_stops fN_price fN_rest) U.heap ∧ va_K (dC, dI) vwCl (tN kN) U ∧ va_D (fun _ => True) (WN hN aN kN iN_arcs fN_from fN_to fN_room fN_cost iN_reached fN_free fN_before fN_flow fN_length fN_stop iN_stops fN_price fN_rest))) (va_Qi (fun (r : Int32) (u : (Int32) × (Nat → Int32) × (Nat → Int32) × (Nat → Int32) × (Nat → Int32)) => (0 ≤ (u.1).toInt ∧ (u.1).toInt ≤ 40) ∧ (∀ q : Nat, 0 ≤ ((u.2.1) q).toInt ∧ ((u.2.1) q).toInt ≤ 11) ∧ (∀ q : Nat, 0 ≤ ((u.2.2.1) q).toInt ∧ ((u.2.2.1) q).toInt ≤ 11)) (fun (u : (Int32) × (Nat → Int32) × (Nat → Int32) × (Nat → Int32) × (Nat → Int32)) t => va_P (dC, dI) vwCl (WN hN aN kN (u.1) (u.2.1) (u.2.2.1) (u.2.2.2.1) (u.2.2.2.2) iN_reached fN_free fN_before fN_flow fN_length fN_stop iN_stops fN_price fN_rest) t.heap ∧ va_D (va_A (WN hN aN kN iN_arcs fN_from fN_to fN_room fN_cost iN_reached fN_free fN_before fN_flow fN_length fN_stop iN_stops fN_price fN_rest) sz) (WN hN aN kN (u.1) (u.2.1) (u.2.2.1) (u.2.2.2.1) (u.2.2.2.2) iN_reached fN_free fN_before fN_flow fN_length fN_stop iN_stops fN_price fN_rest)) (va_A (WN hN aN kN iN_arcs fN_from fN_to fN_room fN_cost iN_reached fN_free fN_before fN_flow fN_length fN_stop iN_stops fN_price fN_rest) sz)) 0 0 (va_A (WN hN aN kN iN_arcs fN_from fN_to fN_room fN_cost iN_reached fN_free fN_before fN_flow fN_length fN_stop iN_stops fN_price fN_rest) sz) := by
  refine Met.ofW (cc := cX2_addArc) (maxL := 5) (ret := (some .int)) (by decide) rfl ?_
  intro p e s m args below meth c s₁ B hml hv
  obtain ⟨rfl, hsz, hP, hK, hD0⟩ := hv
  have hx := B.exec
  have hb := B.bytes
  have hr := B.returns
  have hts := atoms_spec (ws := wsMX2_addArc) B.pre
  have hown : s.vm.findClass RX2 = some m.cls := findClass_of_methodNamed B.named
  have hlocks := B.notSynchronized
  subst hsz
  have hD := hD0.self (sz := s.heap.size)
  generalize hAe : va_A (WN hN aN kN iN_arcs fN_from fN_to fN_room fN_cost iN_reached fN_free fN_before fN_flow fN_length fN_stop iN_stops fN_price fN_rest) s.heap.size = A at hD ⊢
  have hA : ∀ q : Nat, s.heap.size ≤ q → A q := fun q h => by rw [← hAe]; exact Or.inr h
  have hS : va_S A s.heap s.heap [] := va_S.rf
  have hl := lv_entry ([.ref (hN 0), .int p1, .int p2, .int p3, .int p4]) (n := 5) (Nat.le_of_ble_eq_true rfl)
  rw [lg_entry_eq]
  generalize (lg_sl ([.ref (hN 0), .int p1, .int p2, .int p3, .int p4]) ++ List.replicate (5 - (lg_sl ([.ref (hN 0), .int p1, .int p2, .int p3, .int p4])).length) Slot.unset).toArray = ls at hl ⊢
  have hl : lv_has ls 5 [(0, .ref (hN 0)), (1, .int p1), (2, .int p2), (3, .int p3), (4, .int p4)] := hl
  refine lv_aload_n hx hb dX2_addArc_0 rfl (lv_at hl 0 rfl) ?_
  refine va_get (D := (dC, dI)) (ci := 2) (v := .ref (aN 0)) (C := RX2) (T := TX2) (N := 14) hx hb hts iwsMX2_addArc_in2 hown hK hP 0 rfl rfl 1 (by decide) (hts (.fieldLink RX2 11 "OptimaWorks$NetDesk" "from" "[I") (by decide +kernel)) (fun _ h9 => h9) rfl dX2_addArc_1 ?_
  refine lv_aload_n hx hb dX2_addArc_4 rfl (lv_at hl 0 rfl) ?_
  refine va_get (D := (dC, dI)) (ci := 2) (v := .int iN_arcs) (C := RX2) (T := TX2) (N := 14) hx hb hts iwsMX2_addArc_in2 hown hK hP 0 rfl rfl 0 (by decide) (hts (.fieldLink RX2 45 "OptimaWorks$NetDesk" "arcs" "I") (by decide +kernel)) (fun _ h9 => h9) rfl dX2_addArc_5 ?_
  refine lv_iload_n hx hb dX2_addArc_8 rfl (lv_at hl 1 rfl) ?_
  refine va_iast (cA := kN 0) (n := 40) (f := fN_from) hx hb hK hP hD hS 1 0 rfl rfl (vp_in_iff.mpr ⟨by omega, by omega⟩) dX2_addArc_9 (fun H locs hP hD hS => ?_)
  obtain ⟨u1, hu1⟩ : ∃ f9, f9 = upd fN_from (iN_arcs).toNatClampNeg p1 := ⟨_, rfl⟩
  have hP : va_P (dC, dI) vwCl (WN hN aN kN iN_arcs u1 fN_to fN_room fN_cost iN_reached fN_free fN_before fN_flow fN_length fN_stop iN_stops fN_price fN_rest) H := by rw [hu1]; exact hP
  have hD : va_D A (WN hN aN kN iN_arcs u1 fN_to fN_room fN_cost iN_reached fN_free fN_before fN_flow fN_length fN_stop iN_stops fN_price fN_rest) := by rw [hu1]; exact hD
  have b_u1 : ∀ q : Nat, 0 ≤ (u1 q).toInt ∧ (u1 q).toInt ≤ 11 := by rw [hu1]; exact upd_r b_fN_from (by first | assumption | exact ⟨by omega, by omega⟩)
  clear hu1
  refine lv_aload_n hx hb dX2_addArc_10 rfl (lv_at hl 0 rfl) ?_
  refine va_get (D := (dC, dI)) (ci := 2) (v := .ref (aN 1)) (C := RX2) (T := TX2) (N := 14) hx hb hts iwsMX2_addArc_in2 hown hK hP 0 rfl rfl 2 (by decide) (hts (.fieldLink RX2 15 "OptimaWorks$NetDesk" "to" "[I") (by decide +kernel)) (fun _ h9 => h9) rfl dX2_addArc_11 ?_
  refine lv_aload_n hx hb dX2_addArc_14 rfl (lv_at hl 0 rfl) ?_
  refine va_get (D := (dC, dI)) (ci := 2) (v := .int iN_arcs) (C := RX2) (T := TX2) (N := 14) hx hb hts iwsMX2_addArc_in2 hown hK hP 0 rfl rfl 0 (by decide) (hts (.fieldLink RX2 45 "OptimaWorks$NetDesk" "arcs" "I") (by decide +kernel)) (fun _ h9 => h9) rfl dX2_addArc_15 ?_
  refine lv_iload_n hx hb dX2_addArc_18 rfl (lv_at hl 2 rfl) ?_
  refine va_iast (cA := kN 1) (n := 40) (f := fN_to) hx hb hK hP hD hS 2 1 rfl rfl (vp_in_iff.mpr ⟨by omega, by omega⟩) dX2_addArc_19 (fun H locs hP hD hS => ?_)
  obtain ⟨u2, hu2⟩ : ∃ f9, f9 = upd fN_to (iN_arcs).toNatClampNeg p2 := ⟨_, rfl⟩
  have hP : va_P (dC, dI) vwCl (WN hN aN kN iN_arcs u1 u2 fN_room fN_cost iN_reached fN_free fN_before fN_flow fN_length fN_stop iN_stops fN_price fN_rest) H := by rw [hu2]; exact hP
  have hD : va_D A (WN hN aN kN iN_arcs u1 u2 fN_room fN_cost iN_reached fN_free fN_before fN_flow fN_length fN_stop iN_stops fN_price fN_rest) := by rw [hu2]; exact hD
  have b_u2 : ∀ q : Nat, 0 ≤ (u2 q).toInt ∧ (u2 q).toInt ≤ 11 := by rw [hu2]; exact upd_r b_fN_to (by first | assumption | exact ⟨by omega, by omega⟩)
  clear hu2
  refine lv_aload_n hx hb dX2_addArc_20 rfl (lv_at hl 0 rfl) ?_
  refine va_get (D := (dC, dI)) (ci := 2) (v := .ref (aN 2)) (C := RX2) (T := TX2) (N := 14) hx hb hts iwsMX2_addArc_in2 hown hK hP 0 rfl rfl 3 (by decide) (hts (.fieldLink RX2 18 "OptimaWorks$NetDesk" "room" "[I") (by decide +kernel)) (fun _ h9 => h9) rfl dX2_addArc_21 ?_
  refine lv_aload_n hx hb dX2_addArc_24 rfl (lv_at hl 0 rfl) ?_
  refine va_get (D := (dC, dI)) (ci := 2) (v := .int iN_arcs) (C := RX2) (T := TX2) (N := 14) hx hb hts iwsMX2_addArc_in2 hown hK hP 0 rfl rfl 0 (by decide) (hts (.fieldLink RX2 45 "OptimaWorks$NetDesk" "arcs" "I") (by decide +kernel)) (fun _ h9 => h9) rfl dX2_addArc_25 ?_
  refine lv_iload_n hx hb dX2_addArc_28 rfl (lv_at hl 3 rfl) ?_
  refine va_iast (cA := kN 2) (n := 40) (f := fN_room) hx hb hK hP hD hS 3 2 rfl rfl (vp_in_iff.mpr ⟨by omega, by omega⟩) dX2_addArc_29 (fun H locs hP hD hS => ?_)
  obtain ⟨u3, hu3⟩ : ∃ f9, f9 = upd fN_room (iN_arcs).toNatClampNeg p3 := ⟨_, rfl⟩
  have hP : va_P (dC, dI) vwCl (WN hN aN kN iN_arcs u1 u2 u3 fN_cost iN_reached fN_free fN_before fN_flow fN_length fN_stop iN_stops fN_price fN_rest) H := by rw [hu3]; exact hP
  have hD : va_D A (WN hN aN kN iN_arcs u1 u2 u3 fN_cost iN_reached fN_free fN_before fN_flow fN_length fN_stop iN_stops fN_price fN_rest) := by rw [hu3]; exact hD
  clear hu3
  refine lv_aload_n hx hb dX2_addArc_30 rfl (lv_at hl 0 rfl) ?_
  refine va_get (D := (dC, dI)) (ci := 2) (v := .ref (aN 3)) (C := RX2) (T := TX2) (N := 14) hx hb hts iwsMX2_addArc_in2 hown hK hP 0 rfl rfl 4 (by decide) (hts (.fieldLink RX2 21 "OptimaWorks$NetDesk" "cost" "[I") (by decide +kernel)) (fun _ h9 => h9) rfl dX2_addArc_31 ?_
  refine lv_aload_n hx hb dX2_addArc_34 rfl (lv_at hl 0 rfl) ?_
  refine va_get (D := (dC, dI)) (ci := 2) (v := .int iN_arcs) (C := RX2) (T := TX2) (N := 14) hx hb hts iwsMX2_addArc_in2 hown hK hP 0 rfl rfl 0 (by decide) (hts (.fieldLink RX2 45 "OptimaWorks$NetDesk" "arcs" "I") (by decide +kernel)) (fun _ h9 => h9) rfl dX2_addArc_35 ?_
  refine lv_iload hx hb dX2_addArc_38 (lv_at hl 4 rfl) ?_
  refine va_iast (cA := kN 3) (n := 40) (f := fN_cost) hx hb hK hP hD hS 4 3 rfl rfl (vp_in_iff.mpr ⟨by omega, by omega⟩) dX2_addArc_40 (fun H locs hP hD hS => ?_)
  obtain ⟨u4, hu4⟩ : ∃ f9, f9 = upd fN_cost (iN_arcs).toNatClampNeg p4 := ⟨_, rfl⟩
  have hP : va_P (dC, dI) vwCl (WN hN aN kN iN_arcs u1 u2 u3 u4 iN_reached fN_free fN_before fN_flow fN_length fN_stop iN_stops fN_price fN_rest) H := by rw [hu4]; exact hP
  have hD : va_D A (WN hN aN kN iN_arcs u1 u2 u3 u4 iN_reached fN_free fN_before fN_flow fN_length fN_stop iN_stops fN_price fN_rest) := by rw [hu4]; exact hD
  clear hu4
  refine lv_aload_n hx hb dX2_addArc_41 rfl (lv_at hl 0 rfl) ?_
  refine lv_dup hx hb dX2_addArc_42 rfl ?_
  refine va_get (D := (dC, dI)) (ci := 2) (v := .int iN_arcs) (C := RX2) (T := TX2) (N := 14) hx hb hts iwsMX2_addArc_in2 hown hK hP 0 rfl rfl 0 (by decide) (hts (.fieldLink RX2 45 "OptimaWorks$NetDesk" "arcs" "I") (by decide +kernel)) (fun _ h9 => h9) rfl dX2_addArc_43 ?_
  refine lv_iconst (v := 1) hx hb dX2_addArc_46 (by decide) ?_
  refine lv_iadd hx hb dX2_addArc_47 ?_
  refine lv_topi (fun y5 hy5 => ?_)
  obtain rfl : (iI (iN_arcs.toInt + 1)) = y5 := (hy5.trans (iI_add2 (iI_of _) (by decide : (1 : Int32) = iI 1))).symm
  refine va_put (D := (dC, dI)) (ci := 2) (v := .int (iI (iN_arcs.toInt + 1))) (ty := .int) (C := RX2) (T := TX2) (N := 14) hx hb hts iwsMX2_addArc_in2 tyX2 tyX2_ok nmX2 hown hK hP hD hS 0 rfl rfl 0 (by decide) (hts (.fieldLink RX2 45 "OptimaWorks$NetDesk" "arcs" "I") (by decide +kernel)) (fun _ h9 => h9) rfl (by decide +kernel) rfl rfl (Nat.le_of_ble_eq_true rfl) dX2_addArc_48 (fun H locs hP hD hS => ?_)
  have hP : va_P (dC, dI) vwCl (WN hN aN kN (iI (iN_arcs.toInt + 1)) u1 u2 u3 u4 iN_reached fN_free fN_before fN_flow fN_length fN_stop iN_stops fN_price fN_rest) H := hP
  have hD : va_D A (WN hN aN kN (iI (iN_arcs.toInt + 1)) u1 u2 u3 u4 iN_reached fN_free fN_before fN_flow fN_length fN_stop iN_stops fN_price fN_rest) := hD
  refine lv_aload_n hx hb dX2_addArc_51 rfl (lv_at hl 0 rfl) ?_
  refine va_get (D := (dC, dI)) (ci := 2) (v := .int (iI (iN_arcs.toInt + 1))) (C := RX2) (T := TX2) (N := 14) hx hb hts iwsMX2_addArc_in2 hown hK hP 0 rfl rfl 0 (by decide) (hts (.fieldLink RX2 45 "OptimaWorks$NetDesk" "arcs" "I") (by decide +kernel)) (fun _ h9 => h9) rfl dX2_addArc_52 ?_
  refine lv_iconst (v := 1) hx hb dX2_addArc_55 (by decide) ?_
  refine lv_isub hx hb dX2_addArc_56 ?_
  refine lv_topi (fun y6 hy6 => ?_)
  obtain rfl : (iI ((iN_arcs.toInt + 1) - 1)) = y6 := (hy6.trans (iI_sub2 rfl (by decide : (1 : Int32) = iI 1))).symm
  refine W.widen (k := 0) (n := 0) (by decide +kernel) (by decide +kernel) ?_
  exact W.iret (v := (iI ((iN_arcs.toInt + 1) - 1))) hx hb hr (fun t9_ ht hW => ⟨⟨(iI ((iN_arcs.toInt + 1) - 1)), ((iI (iN_arcs.toInt + 1)), u1, u2, u3, u4), rfl, ⟨(by (try dsimp only); exact (iI_rng (by omega) (by omega) (by decide) (by decide))), b_u1, b_u2⟩, by rw [ht]; exact hP, hD⟩, hS.F ht⟩) hS.2.2 dX2_addArc_57
theorem dX2_dropArc_0 : decode cX2_dropArc 0 = .ok (.aload_n 0, 1) := by decide +kernel
theorem dX2_dropArc_1 : decode cX2_dropArc 1 = .ok (.getfield 45, 3) := by decide +kernel
theorem dX2_dropArc_4 : decode cX2_dropArc 4 = .ok (.ifCond .ne 5, 3) := by decide +kernel
theorem dX2_dropArc_7 : decode cX2_dropArc 7 = .ok (.iconst 0, 1) := by decide +kernel
theorem dX2_dropArc_8 : decode cX2_dropArc 8 = .ok (.ireturn, 1) := by decide +kernel
theorem dX2_dropArc_9 : decode cX2_dropArc 9 = .ok (.aload_n 0, 1) := by decide +kernel
theorem dX2_dropArc_10 : decode cX2_dropArc 10 = .ok (.dup, 1) := by decide +kernel
theorem dX2_dropArc_11 : decode cX2_dropArc 11 = .ok (.getfield 45, 3) := by decide +kernel
theorem dX2_dropArc_14 : decode cX2_dropArc 14 = .ok (.iconst 1, 1) := by decide +kernel
theorem dX2_dropArc_15 : decode cX2_dropArc 15 = .ok (.isub, 1) := by decide +kernel
theorem dX2_dropArc_16 : decode cX2_dropArc 16 = .ok (.putfield 45, 3) := by decide +kernel
theorem dX2_dropArc_19 : decode cX2_dropArc 19 = .ok (.iconst 1, 1) := by decide +kernel
theorem dX2_dropArc_20 : decode cX2_dropArc 20 = .ok (.ireturn, 1) := by decide +kernel
def wsMX2_dropArc : List Cond := .code yX2_dropArc cX2_dropArc 1 (some .boolean) :: ([.fieldLink RX2 45 "OptimaWorks$NetDesk" "arcs" "I"] ++ wsX20)
theorem iwsMX2_dropArc_in2 : ∀ w ∈ wsX20, w ∈ wsMX2_dropArc := fun _ h => List.mem_cons_of_mem _ (List.mem_append_right _ h)
theorem gdwsMX2_dropArc : wsMX2_dropArc.all goodWord = true := gdC rfl (gdA (by decide +kernel : ([.fieldLink RX2 45 "OptimaWorks$NetDesk" "arcs" "I"] : List Cond).all goodWord = true) gdwsX20)
set_option maxHeartbeats 4000000 in
set_option maxRecDepth 100000 in
/-- an arc less -/
theorem m_X2_dropArc (l : Launch) (dC : Nat → ClassId) (dI : Nat → Nat → Nat) (hN : Nat → Nat) (aN : Nat → Nat) (kN : Nat → ClassId) (iN_arcs : Int32) (fN_from : Nat → Int32) (fN_to : Nat → Int32) (fN_room : Nat → Int32) (fN_cost : Nat → Int32) (iN_reached : Int32) (fN_free : Nat → Int32) (fN_before : Nat → Int32) (fN_flow : Nat → Int32) (fN_length : Nat → Int32) (fN_stop : Nat → Int32) (iN_stops : Int32) (fN_price : Nat → Int32) (fN_rest : Nat → Int32) (b_iN_arcs : 0 ≤ iN_arcs.toInt ∧ iN_arcs.toInt ≤ 40) (b_fN_from : ∀ q : Nat, 0 ≤ (fN_from q).toInt ∧ (fN_from q).toInt ≤ 11) (b_fN_to : ∀ q : Nat, 0 ≤ (fN_to q).toInt ∧ (fN_to q).toInt ≤ 11) (b_fN_before : ∀ q : Nat, 0 ≤ (fN_before q).toInt ∧ (fN_before q).toInt ≤ 79) (b_fN_stop : ∀ q : Nat, 0 ≤ (fN_stop q).toInt ∧ (fN_stop q).toInt ≤ 11) (b_iN_stops : 0 ≤ iN_stops.toInt ∧ iN_stops.toInt ≤ 8) (sz : Nat) : Met l yX2_dropArc wsMX2_dropArc ({ frames := 0, cells := 0, slots := 0, locals := 0 }) (va_Pc [.ref (hN 0)] (fun U => U.heap.size = sz ∧ va_P (dC, dI) vwCl (WN hN aN kN iN_arcs fN_from fN_to fN_room fN_cost iN_reached fN_free fN_before fN_flow fN_length fN_stop iN_stops fN_price fN_rest) U.heap ∧ va_K (dC, dI) vwCl (tN kN) U ∧ va_D (fun _ => True) (WN hN aN kN iN_arcs fN_from fN_to fN_room fN_cost iN_reached fN_free fN_before fN_flow fN_length fN_stop iN_stops fN_price fN_rest))) (va_Qi (fun (r : Int32) (u : Int32) => (0 ≤ u.toInt ∧ u.toInt ≤ 40) ∧ (0 ≤ r.toInt ∧ r.toInt ≤ 1)) (fun (u : Int32) t => va_P (dC, dI) vwCl (WN hN aN kN u fN_from fN_to fN_room fN_cost iN_reached fN_free fN_before fN_flow fN_length fN_stop iN_stops fN_price fN_rest) t.heap ∧ va_D (va_A (WN hN aN kN iN_arcs fN_from fN_to fN_room fN_cost iN_reached fN_free fN_before fN_flow fN_length fN_stop iN_stops fN_price fN_rest) sz) (WN hN aN kN u fN_from fN_to fN_room fN_cost iN_reached fN_free fN_before fN_flow fN_length fN_stop iN_stops fN_price fN_rest)) (va_A (WN hN aN kN iN_arcs fN_from fN_to fN_room fN_cost iN_reached fN_free fN_before fN_flow fN_length fN_stop iN_stops fN_price fN_rest) sz)) 0 0 (va_A (WN hN aN kN iN_arcs fN_from fN_to fN_room fN_cost iN_reached fN_free fN_before fN_flow fN_length fN_stop iN_stops fN_price fN_rest) sz) := by
  refine Met.ofW (cc := cX2_dropArc) (maxL := 1) (ret := (some .boolean)) (by decide) rfl ?_
  intro p e s m args below meth c s₁ B hml hv
  obtain ⟨rfl, hsz, hP, hK, hD0⟩ := hv
  have hx := B.exec
  have hb := B.bytes
  have hr := B.returns
  have hts := atoms_spec (ws := wsMX2_dropArc) B.pre
  have hown : s.vm.findClass RX2 = some m.cls := findClass_of_methodNamed B.named
  have hlocks := B.notSynchronized
  subst hsz
  have hD := hD0.self (sz := s.heap.size)
  generalize hAe : va_A (WN hN aN kN iN_arcs fN_from fN_to fN_room fN_cost iN_reached fN_free fN_before fN_flow fN_length fN_stop iN_stops fN_price fN_rest) s.heap.size = A at hD ⊢
  have hA : ∀ q : Nat, s.heap.size ≤ q → A q := fun q h => by rw [← hAe]; exact Or.inr h
  have hS : va_S A s.heap s.heap [] := va_S.rf
  have hl := lv_entry ([.ref (hN 0)]) (n := 1) (Nat.le_of_ble_eq_true rfl)
  rw [lg_entry_eq]
  generalize (lg_sl ([.ref (hN 0)]) ++ List.replicate (1 - (lg_sl ([.ref (hN 0)])).length) Slot.unset).toArray = ls at hl ⊢
  have hl : lv_has ls 1 [(0, .ref (hN 0))] := hl
  refine lv_aload_n hx hb dX2_dropArc_0 rfl (lv_at hl 0 rfl) ?_
  refine va_get (D := (dC, dI)) (ci := 2) (v := .int iN_arcs) (C := RX2) (T := TX2) (N := 14) hx hb hts iwsMX2_dropArc_in2 hown hK hP 0 rfl rfl 0 (by decide) (hts (.fieldLink RX2 45 "OptimaWorks$NetDesk" "arcs" "I") (by decide +kernel)) (fun _ h9 => h9) rfl dX2_dropArc_1 ?_
  refine lv_if_ne (tgt := 9) hx hb dX2_dropArc_4 (by decide) (fun c_4 => ?_) (fun c_4 => ?_)
  · have t_4 : iN_arcs.toInt ≠ 0 := toI_ne c_4 rfl (by decide : (0 : Int32).toInt = 0)
    refine lv_aload_n hx hb dX2_dropArc_9 rfl (lv_at hl 0 rfl) ?_
    refine lv_dup hx hb dX2_dropArc_10 rfl ?_
    refine va_get (D := (dC, dI)) (ci := 2) (v := .int iN_arcs) (C := RX2) (T := TX2) (N := 14) hx hb hts iwsMX2_dropArc_in2 hown hK hP 0 rfl rfl 0 (by decide) (hts (.fieldLink RX2 45 "OptimaWorks$NetDesk" "arcs" "I") (by decide +kernel)) (fun _ h9 => h9) rfl dX2_dropArc_11 ?_
    refine lv_iconst (v := 1) hx hb dX2_dropArc_14 (by decide) ?_
    refine lv_isub hx hb dX2_dropArc_15 ?_
    refine lv_topi (fun y1 hy1 => ?_)
    obtain rfl : (iI (iN_arcs.toInt - 1)) = y1 := (hy1.trans (iI_sub2 (iI_of _) (by decide : (1 : Int32) = iI 1))).symm
    refine va_put (D := (dC, dI)) (ci := 2) (v := .int (iI (iN_arcs.toInt - 1))) (ty := .int) (C := RX2) (T := TX2) (N := 14) hx hb hts iwsMX2_dropArc_in2 tyX2 tyX2_ok nmX2 hown hK hP hD hS 0 rfl rfl 0 (by decide) (hts (.fieldLink RX2 45 "OptimaWorks$NetDesk" "arcs" "I") (by decide +kernel)) (fun _ h9 => h9) rfl (by decide +kernel) rfl rfl (Nat.le_of_ble_eq_true rfl) dX2_dropArc_16 (fun H locs hP hD hS => ?_)
    have hP : va_P (dC, dI) vwCl (WN hN aN kN (iI (iN_arcs.toInt - 1)) fN_from fN_to fN_room fN_cost iN_reached fN_free fN_before fN_flow fN_length fN_stop iN_stops fN_price fN_rest) H := hP
    have hD : va_D A (WN hN aN kN (iI (iN_arcs.toInt - 1)) fN_from fN_to fN_room fN_cost iN_reached fN_free fN_before fN_flow fN_length fN_stop iN_stops fN_price fN_rest) := hD
    refine lv_iconst (v := 1) hx hb dX2_dropArc_19 (by decide) ?_
    refine W.widen (k := 0) (n := 0) (by decide +kernel) (by decide +kernel) ?_
    exact W.zret (v := 1) hx hb hr rfl (fun t9_ ht hW => ⟨⟨(1 : Int32), (iI (iN_arcs.toInt - 1)), rfl, ⟨(by (try dsimp only); exact (iI_rng (by omega) (by omega) (by decide) (by decide))), (show 0 ≤ (1 : Int32).toInt ∧ (1 : Int32).toInt ≤ 1 from by decide)⟩, by rw [ht]; exact hP, hD⟩, hS.F ht⟩) hS.2.2 dX2_dropArc_20
  · have t_4 : iN_arcs.toInt = 0 := toI_nne c_4 rfl (by decide : (0 : Int32).toInt = 0)
    refine lv_iconst (v := 0) hx hb dX2_dropArc_7 (by decide) ?_
    refine W.widen (k := 0) (n := 0) (by decide +kernel) (by decide +kernel) ?_
    exact W.zret (v := 0) hx hb hr rfl (fun t9_ ht hW => ⟨⟨(0 : Int32), iN_arcs, rfl, ⟨(by (try dsimp only); exact (by first | assumption | exact ⟨by omega, by omega⟩)), (show 0 ≤ (0 : Int32).toInt ∧ (0 : Int32).toInt ≤ 1 from by decide)⟩, by rw [ht]; exact hP, hD⟩, hS.F ht⟩) hS.2.2 dX2_dropArc_8
theorem dX2_measure_0 : decode cX2_measure 0 = .ok (.aload_n 0, 1) := by decide +kernel
theorem dX2_measure_1 : decode cX2_measure 1 = .ok (.getfield 33, 3) := by decide +kernel
theorem dX2_measure_4 : decode cX2_measure 4 = .ok (.ldc 60, 2) := by decide +kernel
theorem dX2_measure_6 : decode cX2_measure 6 = .ok (.invokestatic 49, 3) := by decide +kernel
theorem dX2_measure_9 : decode cX2_measure 9 = .ok (.aload_n 0, 1) := by decide +kernel
theorem dX2_measure_10 : decode cX2_measure 10 = .ok (.getfield 33, 3) := by decide +kernel
theorem dX2_measure_13 : decode cX2_measure 13 = .ok (.iload_n 1, 1) := by decide +kernel
theorem dX2_measure_14 : decode cX2_measure 14 = .ok (.iconst 0, 1) := by decide +kernel
theorem dX2_measure_15 : decode cX2_measure 15 = .ok (.iastore, 1) := by decide +kernel
theorem dX2_measure_16 : decode cX2_measure 16 = .ok (.iconst 1, 1) := by decide +kernel
theorem dX2_measure_17 : decode cX2_measure 17 = .ok (.istore_n 2, 1) := by decide +kernel
theorem dX2_measure_18 : decode cX2_measure 18 = .ok (.iconst 0, 1) := by decide +kernel
theorem dX2_measure_19 : decode cX2_measure 19 = .ok (.istore_n 3, 1) := by decide +kernel
theorem dX2_measure_20 : decode cX2_measure 20 = .ok (.iload_n 3, 1) := by decide +kernel
theorem dX2_measure_21 : decode cX2_measure 21 = .ok (.bipush 12, 2) := by decide +kernel
theorem dX2_measure_23 : decode cX2_measure 23 = .ok (.if_icmp .ge 263, 3) := by decide +kernel
theorem dX2_measure_26 : decode cX2_measure 26 = .ok (.iload_n 2, 1) := by decide +kernel
theorem dX2_measure_27 : decode cX2_measure 27 = .ok (.ifCond .eq 259, 3) := by decide +kernel
theorem dX2_measure_30 : decode cX2_measure 30 = .ok (.iconst 0, 1) := by decide +kernel
theorem dX2_measure_31 : decode cX2_measure 31 = .ok (.istore_n 2, 1) := by decide +kernel
theorem dX2_measure_32 : decode cX2_measure 32 = .ok (.iconst 0, 1) := by decide +kernel
theorem dX2_measure_33 : decode cX2_measure 33 = .ok (.istore 4, 2) := by decide +kernel
theorem dX2_measure_35 : decode cX2_measure 35 = .ok (.iload 4, 2) := by decide +kernel
theorem dX2_measure_37 : decode cX2_measure 37 = .ok (.aload_n 0, 1) := by decide +kernel
theorem dX2_measure_38 : decode cX2_measure 38 = .ok (.getfield 45, 3) := by decide +kernel
theorem dX2_measure_41 : decode cX2_measure 41 = .ok (.if_icmp .ge 239, 3) := by decide +kernel
theorem dX2_measure_44 : decode cX2_measure 44 = .ok (.aload_n 0, 1) := by decide +kernel
theorem dX2_measure_45 : decode cX2_measure 45 = .ok (.getfield 30, 3) := by decide +kernel
theorem dX2_measure_48 : decode cX2_measure 48 = .ok (.iload 4, 2) := by decide +kernel
theorem dX2_measure_50 : decode cX2_measure 50 = .ok (.iaload, 1) := by decide +kernel
theorem dX2_measure_51 : decode cX2_measure 51 = .ok (.aload_n 0, 1) := by decide +kernel
theorem dX2_measure_52 : decode cX2_measure 52 = .ok (.getfield 18, 3) := by decide +kernel
theorem dX2_measure_55 : decode cX2_measure 55 = .ok (.iload 4, 2) := by decide +kernel
theorem dX2_measure_57 : decode cX2_measure 57 = .ok (.iaload, 1) := by decide +kernel
theorem dX2_measure_58 : decode cX2_measure 58 = .ok (.if_icmp .ge 103, 3) := by decide +kernel
theorem dX2_measure_61 : decode cX2_measure 61 = .ok (.aload_n 0, 1) := by decide +kernel
theorem dX2_measure_62 : decode cX2_measure 62 = .ok (.getfield 33, 3) := by decide +kernel
theorem dX2_measure_65 : decode cX2_measure 65 = .ok (.aload_n 0, 1) := by decide +kernel
theorem dX2_measure_66 : decode cX2_measure 66 = .ok (.getfield 11, 3) := by decide +kernel
theorem dX2_measure_69 : decode cX2_measure 69 = .ok (.iload 4, 2) := by decide +kernel
theorem dX2_measure_71 : decode cX2_measure 71 = .ok (.iaload, 1) := by decide +kernel
theorem dX2_measure_72 : decode cX2_measure 72 = .ok (.iaload, 1) := by decide +kernel
theorem dX2_measure_73 : decode cX2_measure 73 = .ok (.ldc 60, 2) := by decide +kernel
theorem dX2_measure_75 : decode cX2_measure 75 = .ok (.if_icmp .ge 86, 3) := by decide +kernel
theorem dX2_measure_78 : decode cX2_measure 78 = .ok (.aload_n 0, 1) := by decide +kernel
theorem dX2_measure_79 : decode cX2_measure 79 = .ok (.getfield 33, 3) := by decide +kernel
theorem dX2_measure_82 : decode cX2_measure 82 = .ok (.aload_n 0, 1) := by decide +kernel
theorem dX2_measure_83 : decode cX2_measure 83 = .ok (.getfield 11, 3) := by decide +kernel
theorem dX2_measure_86 : decode cX2_measure 86 = .ok (.iload 4, 2) := by decide +kernel
theorem dX2_measure_88 : decode cX2_measure 88 = .ok (.iaload, 1) := by decide +kernel
theorem dX2_measure_89 : decode cX2_measure 89 = .ok (.iaload, 1) := by decide +kernel
theorem dX2_measure_90 : decode cX2_measure 90 = .ok (.aload_n 0, 1) := by decide +kernel
theorem dX2_measure_91 : decode cX2_measure 91 = .ok (.getfield 21, 3) := by decide +kernel
theorem dX2_measure_94 : decode cX2_measure 94 = .ok (.iload 4, 2) := by decide +kernel
theorem dX2_measure_96 : decode cX2_measure 96 = .ok (.iaload, 1) := by decide +kernel
theorem dX2_measure_97 : decode cX2_measure 97 = .ok (.iadd, 1) := by decide +kernel
theorem dX2_measure_98 : decode cX2_measure 98 = .ok (.aload_n 0, 1) := by decide +kernel
theorem dX2_measure_99 : decode cX2_measure 99 = .ok (.getfield 33, 3) := by decide +kernel
theorem dX2_measure_102 : decode cX2_measure 102 = .ok (.aload_n 0, 1) := by decide +kernel
theorem dX2_measure_103 : decode cX2_measure 103 = .ok (.getfield 15, 3) := by decide +kernel
theorem dX2_measure_106 : decode cX2_measure 106 = .ok (.iload 4, 2) := by decide +kernel
theorem dX2_measure_108 : decode cX2_measure 108 = .ok (.iaload, 1) := by decide +kernel
theorem dX2_measure_109 : decode cX2_measure 109 = .ok (.iaload, 1) := by decide +kernel
theorem dX2_measure_110 : decode cX2_measure 110 = .ok (.if_icmp .ge 51, 3) := by decide +kernel
theorem dX2_measure_113 : decode cX2_measure 113 = .ok (.aload_n 0, 1) := by decide +kernel
theorem dX2_measure_114 : decode cX2_measure 114 = .ok (.getfield 33, 3) := by decide +kernel
theorem dX2_measure_117 : decode cX2_measure 117 = .ok (.aload_n 0, 1) := by decide +kernel
theorem dX2_measure_118 : decode cX2_measure 118 = .ok (.getfield 15, 3) := by decide +kernel
theorem dX2_measure_121 : decode cX2_measure 121 = .ok (.iload 4, 2) := by decide +kernel
theorem dX2_measure_123 : decode cX2_measure 123 = .ok (.iaload, 1) := by decide +kernel
theorem dX2_measure_124 : decode cX2_measure 124 = .ok (.aload_n 0, 1) := by decide +kernel
theorem dX2_measure_125 : decode cX2_measure 125 = .ok (.getfield 33, 3) := by decide +kernel
theorem dX2_measure_128 : decode cX2_measure 128 = .ok (.aload_n 0, 1) := by decide +kernel
theorem dX2_measure_129 : decode cX2_measure 129 = .ok (.getfield 11, 3) := by decide +kernel
theorem dX2_measure_132 : decode cX2_measure 132 = .ok (.iload 4, 2) := by decide +kernel
theorem dX2_measure_134 : decode cX2_measure 134 = .ok (.iaload, 1) := by decide +kernel
theorem dX2_measure_135 : decode cX2_measure 135 = .ok (.iaload, 1) := by decide +kernel
theorem dX2_measure_136 : decode cX2_measure 136 = .ok (.aload_n 0, 1) := by decide +kernel
theorem dX2_measure_137 : decode cX2_measure 137 = .ok (.getfield 21, 3) := by decide +kernel
theorem dX2_measure_140 : decode cX2_measure 140 = .ok (.iload 4, 2) := by decide +kernel
theorem dX2_measure_142 : decode cX2_measure 142 = .ok (.iaload, 1) := by decide +kernel
theorem dX2_measure_143 : decode cX2_measure 143 = .ok (.iadd, 1) := by decide +kernel
theorem dX2_measure_144 : decode cX2_measure 144 = .ok (.iastore, 1) := by decide +kernel
theorem dX2_measure_145 : decode cX2_measure 145 = .ok (.aload_n 0, 1) := by decide +kernel
theorem dX2_measure_146 : decode cX2_measure 146 = .ok (.getfield 27, 3) := by decide +kernel
theorem dX2_measure_149 : decode cX2_measure 149 = .ok (.aload_n 0, 1) := by decide +kernel
theorem dX2_measure_150 : decode cX2_measure 150 = .ok (.getfield 15, 3) := by decide +kernel
theorem dX2_measure_153 : decode cX2_measure 153 = .ok (.iload 4, 2) := by decide +kernel
theorem dX2_measure_155 : decode cX2_measure 155 = .ok (.iaload, 1) := by decide +kernel
theorem dX2_measure_156 : decode cX2_measure 156 = .ok (.iload 4, 2) := by decide +kernel
theorem dX2_measure_158 : decode cX2_measure 158 = .ok (.iastore, 1) := by decide +kernel
theorem dX2_measure_159 : decode cX2_measure 159 = .ok (.iconst 1, 1) := by decide +kernel
theorem dX2_measure_160 : decode cX2_measure 160 = .ok (.istore_n 2, 1) := by decide +kernel
theorem dX2_measure_161 : decode cX2_measure 161 = .ok (.aload_n 0, 1) := by decide +kernel
theorem dX2_measure_162 : decode cX2_measure 162 = .ok (.getfield 30, 3) := by decide +kernel
theorem dX2_measure_165 : decode cX2_measure 165 = .ok (.iload 4, 2) := by decide +kernel
theorem dX2_measure_167 : decode cX2_measure 167 = .ok (.iaload, 1) := by decide +kernel
theorem dX2_measure_168 : decode cX2_measure 168 = .ok (.ifCond .le 106, 3) := by decide +kernel
theorem dX2_measure_171 : decode cX2_measure 171 = .ok (.aload_n 0, 1) := by decide +kernel
theorem dX2_measure_172 : decode cX2_measure 172 = .ok (.getfield 33, 3) := by decide +kernel
theorem dX2_measure_175 : decode cX2_measure 175 = .ok (.aload_n 0, 1) := by decide +kernel
theorem dX2_measure_176 : decode cX2_measure 176 = .ok (.getfield 15, 3) := by decide +kernel
theorem dX2_measure_179 : decode cX2_measure 179 = .ok (.iload 4, 2) := by decide +kernel
theorem dX2_measure_181 : decode cX2_measure 181 = .ok (.iaload, 1) := by decide +kernel
theorem dX2_measure_182 : decode cX2_measure 182 = .ok (.iaload, 1) := by decide +kernel
theorem dX2_measure_183 : decode cX2_measure 183 = .ok (.ldc 60, 2) := by decide +kernel
theorem dX2_measure_185 : decode cX2_measure 185 = .ok (.if_icmp .ge 89, 3) := by decide +kernel
theorem dX2_measure_188 : decode cX2_measure 188 = .ok (.aload_n 0, 1) := by decide +kernel
theorem dX2_measure_189 : decode cX2_measure 189 = .ok (.getfield 33, 3) := by decide +kernel
theorem dX2_measure_192 : decode cX2_measure 192 = .ok (.aload_n 0, 1) := by decide +kernel
theorem dX2_measure_193 : decode cX2_measure 193 = .ok (.getfield 15, 3) := by decide +kernel
theorem dX2_measure_196 : decode cX2_measure 196 = .ok (.iload 4, 2) := by decide +kernel
theorem dX2_measure_198 : decode cX2_measure 198 = .ok (.iaload, 1) := by decide +kernel
theorem dX2_measure_199 : decode cX2_measure 199 = .ok (.iaload, 1) := by decide +kernel
theorem dX2_measure_200 : decode cX2_measure 200 = .ok (.aload_n 0, 1) := by decide +kernel
theorem dX2_measure_201 : decode cX2_measure 201 = .ok (.getfield 21, 3) := by decide +kernel
theorem dX2_measure_204 : decode cX2_measure 204 = .ok (.iload 4, 2) := by decide +kernel
theorem dX2_measure_206 : decode cX2_measure 206 = .ok (.iaload, 1) := by decide +kernel
theorem dX2_measure_207 : decode cX2_measure 207 = .ok (.isub, 1) := by decide +kernel
theorem dX2_measure_208 : decode cX2_measure 208 = .ok (.aload_n 0, 1) := by decide +kernel
theorem dX2_measure_209 : decode cX2_measure 209 = .ok (.getfield 33, 3) := by decide +kernel
theorem dX2_measure_212 : decode cX2_measure 212 = .ok (.aload_n 0, 1) := by decide +kernel
theorem dX2_measure_213 : decode cX2_measure 213 = .ok (.getfield 11, 3) := by decide +kernel
theorem dX2_measure_216 : decode cX2_measure 216 = .ok (.iload 4, 2) := by decide +kernel
theorem dX2_measure_218 : decode cX2_measure 218 = .ok (.iaload, 1) := by decide +kernel
theorem dX2_measure_219 : decode cX2_measure 219 = .ok (.iaload, 1) := by decide +kernel
theorem dX2_measure_220 : decode cX2_measure 220 = .ok (.if_icmp .ge 54, 3) := by decide +kernel
theorem dX2_measure_223 : decode cX2_measure 223 = .ok (.aload_n 0, 1) := by decide +kernel
theorem dX2_measure_224 : decode cX2_measure 224 = .ok (.getfield 33, 3) := by decide +kernel
theorem dX2_measure_227 : decode cX2_measure 227 = .ok (.aload_n 0, 1) := by decide +kernel
theorem dX2_measure_228 : decode cX2_measure 228 = .ok (.getfield 11, 3) := by decide +kernel
theorem dX2_measure_231 : decode cX2_measure 231 = .ok (.iload 4, 2) := by decide +kernel
theorem dX2_measure_233 : decode cX2_measure 233 = .ok (.iaload, 1) := by decide +kernel
theorem dX2_measure_234 : decode cX2_measure 234 = .ok (.aload_n 0, 1) := by decide +kernel
theorem dX2_measure_235 : decode cX2_measure 235 = .ok (.getfield 33, 3) := by decide +kernel
theorem dX2_measure_238 : decode cX2_measure 238 = .ok (.aload_n 0, 1) := by decide +kernel
theorem dX2_measure_239 : decode cX2_measure 239 = .ok (.getfield 15, 3) := by decide +kernel
theorem dX2_measure_242 : decode cX2_measure 242 = .ok (.iload 4, 2) := by decide +kernel
theorem dX2_measure_244 : decode cX2_measure 244 = .ok (.iaload, 1) := by decide +kernel
theorem dX2_measure_245 : decode cX2_measure 245 = .ok (.iaload, 1) := by decide +kernel
theorem dX2_measure_246 : decode cX2_measure 246 = .ok (.aload_n 0, 1) := by decide +kernel
theorem dX2_measure_247 : decode cX2_measure 247 = .ok (.getfield 21, 3) := by decide +kernel
theorem dX2_measure_250 : decode cX2_measure 250 = .ok (.iload 4, 2) := by decide +kernel
theorem dX2_measure_252 : decode cX2_measure 252 = .ok (.iaload, 1) := by decide +kernel
theorem dX2_measure_253 : decode cX2_measure 253 = .ok (.isub, 1) := by decide +kernel
theorem dX2_measure_254 : decode cX2_measure 254 = .ok (.iastore, 1) := by decide +kernel
theorem dX2_measure_255 : decode cX2_measure 255 = .ok (.aload_n 0, 1) := by decide +kernel
theorem dX2_measure_256 : decode cX2_measure 256 = .ok (.getfield 27, 3) := by decide +kernel
theorem dX2_measure_259 : decode cX2_measure 259 = .ok (.aload_n 0, 1) := by decide +kernel
theorem dX2_measure_260 : decode cX2_measure 260 = .ok (.getfield 11, 3) := by decide +kernel
theorem dX2_measure_263 : decode cX2_measure 263 = .ok (.iload 4, 2) := by decide +kernel
theorem dX2_measure_265 : decode cX2_measure 265 = .ok (.iaload, 1) := by decide +kernel
theorem dX2_measure_266 : decode cX2_measure 266 = .ok (.iload 4, 2) := by decide +kernel
theorem dX2_measure_268 : decode cX2_measure 268 = .ok (.bipush 40, 2) := by decide +kernel
theorem dX2_measure_270 : decode cX2_measure 270 = .ok (.iadd, 1) := by decide +kernel
theorem dX2_measure_271 : decode cX2_measure 271 = .ok (.iastore, 1) := by decide +kernel
theorem dX2_measure_272 : decode cX2_measure 272 = .ok (.iconst 1, 1) := by decide +kernel
theorem dX2_measure_273 : decode cX2_measure 273 = .ok (.istore_n 2, 1) := by decide +kernel
theorem dX2_measure_274 : decode cX2_measure 274 = .ok (.iinc 4 1, 3) := by decide +kernel
theorem dX2_measure_277 : decode cX2_measure 277 = .ok (.goto (-242), 3) := by decide +kernel
theorem dX2_measure_280 : decode cX2_measure 280 = .ok (.iinc 3 1, 3) := by decide +kernel
theorem dX2_measure_283 : decode cX2_measure 283 = .ok (.goto (-263), 3) := by decide +kernel
theorem dX2_measure_286 : decode cX2_measure 286 = .ok (.return_, 1) := by decide +kernel
def wsMX2_measure : List Cond := .code yX2_measure cX2_measure 5 none :: ([.fieldLink RX2 33 "OptimaWorks$NetDesk" "length" "[I", .constant RX2 60 536870912, .fieldLink RX2 45 "OptimaWorks$NetDesk" "arcs" "I", .fieldLink RX2 30 "OptimaWorks$NetDesk" "flow" "[I", .fieldLink RX2 18 "OptimaWorks$NetDesk" "room" "[I", .fieldLink RX2 11 "OptimaWorks$NetDesk" "from" "[I", .fieldLink RX2 21 "OptimaWorks$NetDesk" "cost" "[I", .fieldLink RX2 15 "OptimaWorks$NetDesk" "to" "[I", .fieldLink RX2 27 "OptimaWorks$NetDesk" "before" "[I"] ++ wsX20 ++ (va_wsS RX2 49 yJ7_fill_53178 wsMJ7_fill_53178))
theorem iwsMX2_measure_in2 : ∀ w ∈ wsX20, w ∈ wsMX2_measure := fun _ h => List.mem_cons_of_mem _ (List.mem_append_left _ (List.mem_append_right _ h))
theorem gwsMX2_measure_0 : GoodIn wsMX2_measure (va_wsS RX2 49 yJ7_fill_53178 wsMJ7_fill_53178) := goodIn_sub (fun _ h => List.mem_cons_of_mem _ (List.mem_append_right _ h)) (gdS (by decide +kernel) gdwsMJ7_fill_53178)
theorem gdwsMX2_measure : wsMX2_measure.all goodWord = true := gdC rfl (gdA (gdA (by decide +kernel : ([.fieldLink RX2 33 "OptimaWorks$NetDesk" "length" "[I", .constant RX2 60 536870912, .fieldLink RX2 45 "OptimaWorks$NetDesk" "arcs" "I", .fieldLink RX2 30 "OptimaWorks$NetDesk" "flow" "[I", .fieldLink RX2 18 "OptimaWorks$NetDesk" "room" "[I", .fieldLink RX2 11 "OptimaWorks$NetDesk" "from" "[I", .fieldLink RX2 21 "OptimaWorks$NetDesk" "cost" "[I", .fieldLink RX2 15 "OptimaWorks$NetDesk" "to" "[I", .fieldLink RX2 27 "OptimaWorks$NetDesk" "before" "[I"] : List Cond).all goodWord = true) gdwsX20) (gdS (by decide +kernel) gdwsMJ7_fill_53178))
set_option maxHeartbeats 4000000 in
set_option maxRecDepth 100000 in
/-- lengths from a node -/
theorem m_X2_measure (l : Launch) (dC : Nat → ClassId) (dI : Nat → Nat → Nat) (hN : Nat → Nat) (aN : Nat → Nat) (kN : Nat → ClassId) (iN_arcs : Int32) (fN_from : Nat → Int32) (fN_to : Nat → Int32) (fN_room : Nat → Int32) (fN_cost : Nat → Int32) (iN_reached : Int32) (fN_free : Nat → Int32) (fN_before : Nat → Int32) (fN_flow : Nat → Int32) (fN_length : Nat → Int32) (fN_stop : Nat → Int32) (iN_stops : Int32) (fN_price : Nat → Int32) (fN_rest : Nat → Int32) (p1 : Int32) (b_iN_arcs : 0 ≤ iN_arcs.toInt ∧ iN_arcs.toInt ≤ 40) (b_fN_from : ∀ q : Nat, 0 ≤ (fN_from q).toInt ∧ (fN_from q).toInt ≤ 11) (b_fN_to : ∀ q : Nat, 0 ≤ (fN_to q).toInt ∧ (fN_to q).toInt ≤ 11) (b_fN_before : ∀ q : Nat, 0 ≤ (fN_before q).toInt ∧ (fN_before q).toInt ≤ 79) (b_fN_stop : ∀ q : Nat, 0 ≤ (fN_stop q).toInt ∧ (fN_stop q).toInt ≤ 11) (b_iN_stops : 0 ≤ iN_stops.toInt ∧ iN_stops.toInt ≤ 8) (b_p1 : 0 ≤ p1.toInt ∧ p1.toInt ≤ 11) (sz : Nat) : Met l yX2_measure wsMX2_measure ({ frames := 1, cells := 0, slots := 0, locals := 23 }) (va_Pc [.ref (hN 0), .int p1] (fun U => U.heap.size = sz ∧ va_P (dC, dI) vwCl (WN hN aN kN iN_arcs fN_from fN_to fN_room fN_cost iN_reached fN_free fN_before fN_flow fN_length fN_stop iN_stops fN_price fN_rest) U.heap ∧ va_K (dC, dI) vwCl (tN kN) U ∧ va_D (fun _ => True) (WN hN aN kN iN_arcs fN_from fN_to fN_room fN_cost iN_reached fN_free fN_before fN_flow fN_length fN_stop iN_stops fN_price fN_rest))) (va_Qv (fun (u : (Nat → Int32) × (Nat → Int32)) => (∀ q : Nat, 0 ≤ ((u.1) q).toInt ∧ ((u.1) q).toInt ≤ 79)) (fun (u : (Nat → Int32) × (Nat → Int32)) t => va_P (dC, dI) vwCl (WN hN aN kN iN_arcs fN_from fN_to fN_room fN_cost iN_reached fN_free (u.1) fN_flow (u.2) fN_stop iN_stops fN_price fN_rest) t.heap ∧ va_D (va_A (WN hN aN kN iN_arcs fN_from fN_to fN_room fN_cost iN_reached fN_free fN_before fN_flow fN_length fN_stop iN_stops fN_price fN_rest) sz) (WN hN aN kN iN_arcs fN_from fN_to fN_room fN_cost iN_reached fN_free (u.1) fN_flow (u.2) fN_stop iN_stops fN_price fN_rest)) (va_A (WN hN aN kN iN_arcs fN_from fN_to fN_room fN_cost iN_reached fN_free fN_before fN_flow fN_length fN_stop iN_stops fN_price fN_rest) sz)) 0 0 (va_A (WN hN aN kN iN_arcs fN_from fN_to fN_room fN_cost iN_reached fN_free fN_before fN_flow fN_length fN_stop iN_stops fN_price fN_rest) sz) := by
  refine Met.ofW (cc := cX2_measure) (maxL := 5) (ret := none) (by decide) rfl ?_
  intro p e s m args below meth c s₁ B hml hv
  obtain ⟨rfl, hsz, hP, hK, hD0⟩ := hv
  have hx := B.exec
  have hb := B.bytes
  have hr := B.returns
  have hts := atoms_spec (ws := wsMX2_measure) B.pre
  have hown : s.vm.findClass RX2 = some m.cls := findClass_of_methodNamed B.named
  have hlocks := B.notSynchronized
  subst hsz
  have hD := hD0.self (sz := s.heap.size)
  generalize hAe : va_A (WN hN aN kN iN_arcs fN_from fN_to fN_room fN_cost iN_reached fN_free fN_before fN_flow fN_length fN_stop iN_stops fN_price fN_rest) s.heap.size = A at hD ⊢
  have hA : ∀ q : Nat, s.heap.size ≤ q → A q := fun q h => by rw [← hAe]; exact Or.inr h
  have hS : va_S A s.heap s.heap [] := va_S.rf
  have hl := lv_entry ([.ref (hN 0), .int p1]) (n := 5) (Nat.le_of_ble_eq_true rfl)
  rw [lg_entry_eq]
  generalize (lg_sl ([.ref (hN 0), .int p1]) ++ List.replicate (5 - (lg_sl ([.ref (hN 0), .int p1])).length) Slot.unset).toArray = ls at hl ⊢
  have hl : lv_has ls 5 [(0, .ref (hN 0)), (1, .int p1)] := hl
  refine lv_aload_n hx hb dX2_measure_0 rfl (lv_at hl 0 rfl) ?_
  refine va_get (D := (dC, dI)) (ci := 2) (v := .ref (aN 7)) (C := RX2) (T := TX2) (N := 14) hx hb hts iwsMX2_measure_in2 hown hK hP 0 rfl rfl 9 (by decide) (hts (.fieldLink RX2 33 "OptimaWorks$NetDesk" "length" "[I") (by decide +kernel)) (fun _ h9 => h9) rfl dX2_measure_1 ?_
  refine lv_ldc (v := 536870912) hx hb hown (hts (.constant RX2 60 536870912) (by decide +kernel)) dX2_measure_4 ?_
  have hPc := hP.sub (ws' := WY (fun _ => 0) (fun _ => aN 7) (fun _ => kN 7) 12 fN_length) [8] rfl
  have hDc := hD.sub (ws' := WY (fun _ => 0) (fun _ => aN 7) (fun _ => kN 7) 12 fN_length) [8] (by decide) rfl
  have hKc := hK.sub (tys' := tY (fun _ => kN 7)) [7] rfl
  have hFc := va_free (wc := WY (fun _ => 0) (fun _ => aN 7) (fun _ => kN 7) 12 fN_length) hD hS hA [8] rfl
  refine va_callv (va_runS (As := [.ref (aN 7), .int 536870912]) (rest := []) ⟨hx, hb, hml, hown, hts⟩ (m_J7_fill_53178 l dC dI (fun _ => 0) (fun _ => aN 7) (fun _ => kN 7) 12 fN_length 536870912 (by first | assumption | exact ⟨by omega, by omega⟩) s.heap.size) (va_cwS 2 hts gwsMX2_measure_0 rfl rfl rfl (by decide +kernel) ⟨by decide +kernel, by decide +kernel⟩) ⟨fun a U g mk q => by obtain ⟨q0, q1, qP, qK, qD⟩ := q; exact ⟨q0, q1, qP, va_K.moved (u := U) (U := U.calling g mk a) (Vm.Alike.refl U.vm) qK, qD⟩, fun U hU9 hW => ⟨rfl, by rw [hU9], by rw [hU9]; exact hPc, va_K.moved hW.alike hKc, hDc.weaken (fun _ _ _ _ => trivial)⟩⟩ rfl rfl hl.1 rfl (lv_room (Nat.le_of_ble_eq_true rfl)) dX2_measure_6 ⟨by decide +kernel, by decide +kernel⟩) hS (fun q _ h => hFc q h) hFc (fun u t9_ H1 locs ht hvm hw9 hB9 hz1 hk1 hS => ?_)
  obtain ⟨fY_1, hwit1⟩ : ∃ w9, w9 = u := ⟨u, rfl⟩
  subst hwit1
  clear hw9
  obtain ⟨hP1, hD1⟩ := hB9
  rw [ht] at hP1
  obtain ⟨hP, hD⟩ := va_join (wr := [(hN 0, .inr (2, [.int iN_arcs, .ref (aN 0), .ref (aN 1), .ref (aN 2), .ref (aN 3), .int iN_reached, .ref (aN 4), .ref (aN 5), .ref (aN 6), .ref (aN 7), .ref (aN 8), .int iN_stops, .ref (aN 9), .ref (aN 10)])), (aN 0, .inl (kN 0, 40, .inl fN_from)), (aN 1, .inl (kN 1, 40, .inl fN_to)), (aN 2, .inl (kN 2, 40, .inl fN_room)), (aN 3, .inl (kN 3, 40, .inl fN_cost)), (aN 4, .inl (kN 4, 144, .inl fN_free)), (aN 5, .inl (kN 5, 12, .inl fN_before)), (aN 6, .inl (kN 6, 40, .inl fN_flow)), (aN 8, .inl (kN 8, 8, .inl fN_stop)), (aN 9, .inl (kN 9, 64, .inl fN_price)), (aN 10, .inl (kN 10, 1024, .inl fN_rest))]) (w1 := WY (fun _ => 0) (fun _ => aN 7) (fun _ => kN 7) 12 fY_1) hP hD [8] [0, 1, 2, 3, 4, 5, 6, 7, 9, 10, 11] rfl rfl (by decide) (by decide) hk1 hFc hP1 hD1
  have hP := hP.sub (ws' := WN hN aN kN iN_arcs fN_from fN_to fN_room fN_cost iN_reached fN_free fN_before fN_flow fY_1 fN_stop iN_stops fN_price fN_rest) [0, 1, 2, 3, 4, 5, 6, 7, 11, 8, 9, 10] rfl
  have hD := hD.sub (ws' := WN hN aN kN iN_arcs fN_from fN_to fN_room fN_cost iN_reached fN_free fN_before fN_flow fY_1 fN_stop iN_stops fN_price fN_rest) [0, 1, 2, 3, 4, 5, 6, 7, 11, 8, 9, 10] (by decide) rfl
  generalize H1 = H at hP hS ⊢
  have hP : va_P (dC, dI) vwCl (WN hN aN kN iN_arcs fN_from fN_to fN_room fN_cost iN_reached fN_free fN_before fN_flow fY_1 fN_stop iN_stops fN_price fN_rest) H := hP
  have hD : va_D A (WN hN aN kN iN_arcs fN_from fN_to fN_room fN_cost iN_reached fN_free fN_before fN_flow fY_1 fN_stop iN_stops fN_price fN_rest) := hD
  refine lv_aload_n hx hb dX2_measure_9 rfl (lv_at hl 0 rfl) ?_
  refine va_get (D := (dC, dI)) (ci := 2) (v := .ref (aN 7)) (C := RX2) (T := TX2) (N := 14) hx hb hts iwsMX2_measure_in2 hown hK hP 0 rfl rfl 9 (by decide) (hts (.fieldLink RX2 33 "OptimaWorks$NetDesk" "length" "[I") (by decide +kernel)) (fun _ h9 => h9) rfl dX2_measure_10 ?_
  refine lv_iload_n hx hb dX2_measure_13 rfl (lv_at hl 1 rfl) ?_
  refine lv_iconst (v := 0) hx hb dX2_measure_14 (by decide) ?_
  refine va_iast (cA := kN 7) (n := 12) (f := fY_1) hx hb hK hP hD hS 8 7 rfl rfl (vp_in_iff.mpr ⟨by omega, by omega⟩) dX2_measure_15 (fun H locs hP hD hS => ?_)
  obtain ⟨u2, hu2⟩ : ∃ f9, f9 = upd fY_1 (p1).toNatClampNeg (0 : Int32) := ⟨_, rfl⟩
  have hP : va_P (dC, dI) vwCl (WN hN aN kN iN_arcs fN_from fN_to fN_room fN_cost iN_reached fN_free fN_before fN_flow u2 fN_stop iN_stops fN_price fN_rest) H := by rw [hu2]; exact hP
  have hD : va_D A (WN hN aN kN iN_arcs fN_from fN_to fN_room fN_cost iN_reached fN_free fN_before fN_flow u2 fN_stop iN_stops fN_price fN_rest) := by rw [hu2]; exact hD
  clear hu2
  refine lv_iconst (v := 1) hx hb dX2_measure_16 (by decide) ?_
  refine lv_istore_n (lv' := [(2, .int 1), (0, .ref (hN 0)), (1, .int p1)]) hx hb dX2_measure_17 rfl hl (by decide) rfl (fun ls hl => ?_)
  refine lv_iconst (v := 0) hx hb dX2_measure_18 (by decide) ?_
  refine lv_istore_n (lv' := [(3, .int 0), (2, .int 1), (0, .ref (hN 0)), (1, .int p1)]) hx hb dX2_measure_19 rfl hl (by decide) rfl (fun ls hl => ?_)
  have hl := lv_sub hl [0, 1, 2, 3] (l' := [(3, .int 0), (2, .int 1), (0, .ref (hN 0)), (1, .int p1)]) rfl
  refine (fun (loop : ∀ (n9 : Nat) (fN_before_x20 : Nat → Int32) (fN_length_x20 : Nat → Int32) (l3_x20 : Int32) (l2_x20 : Int32) (H : Heap) (locs : List Loc) (ls : Array Slot), (∀ q : Nat, 0 ≤ (fN_before_x20 q).toInt ∧ (fN_before_x20 q).toInt ≤ 79) → (0 ≤ l3_x20.toInt ∧ l3_x20.toInt ≤ 12) → (12 - l3_x20.toInt < ((n9 : Nat) : Int)) → va_P (dC, dI) vwCl (WN hN aN kN iN_arcs fN_from fN_to fN_room fN_cost iN_reached fN_free fN_before_x20 fN_flow fN_length_x20 fN_stop iN_stops fN_price fN_rest) H → va_D A (WN hN aN kN iN_arcs fN_from fN_to fN_room fN_cost iN_reached fN_free fN_before_x20 fN_flow fN_length_x20 fN_stop iN_stops fN_price fN_rest) → va_S A s.heap H locs → lv_has ls 5 [(3, .int l3_x20), (2, .int l2_x20), (0, .ref (hN 0)), (1, .int p1)] → W p l e _ s m _ below meth c H locs 0 0 _ (F0 m 20 ls [])) => loop (13) fN_before u2 0 1 _ _ _ b_fN_before (show 0 ≤ (0 : Int32).toInt ∧ (0 : Int32).toInt ≤ 12 from by decide) ((by have e9 : (0 : Int32).toInt = 0 := (by decide : (0 : Int32).toInt = 0); omega)) hP hD hS hl) ?_
  intro n9
  induction n9 with
  | zero => intro fN_before_x20 fN_length_x20 l3_x20 l2_x20 H locs ls b_fN_before_x20 b_l3_x20 hf9; exact False.elim (by omega)
  | succ n9 ihx20 =>
    intro fN_before_x20 fN_length_x20 l3_x20 l2_x20 H locs ls b_fN_before_x20 b_l3_x20 hfx20 hP hD hS hl
    refine lv_iload_n hx hb dX2_measure_20 rfl (lv_at hl 0 rfl) ?_
    refine lv_bipush (v := 12) hx hb dX2_measure_21 (by decide) ?_
    refine W.cut (pc := 286) (fun H locs ls stk =>  stk = [] ∧ va_P (dC, dI) vwCl (WN hN aN kN iN_arcs fN_from fN_to fN_room fN_cost iN_reached fN_free fN_before_x20 fN_flow fN_length_x20 fN_stop iN_stops fN_price fN_rest) H ∧ va_D A (WN hN aN kN iN_arcs fN_from fN_to fN_room fN_cost iN_reached fN_free fN_before_x20 fN_flow fN_length_x20 fN_stop iN_stops fN_price fN_rest) ∧ va_S A s.heap H locs ∧ lv_has ls 5 [(3, .int l3_x20), (2, .int l2_x20), (0, .ref (hN 0)), (1, .int p1)]) (fun join112 => ?_) ?_
    · refine lv_icmp_ge (tgt := 286) hx hb dX2_measure_23 (by decide) (fun c_23 => ?_) (fun c_23 => ?_)
      · have t_23 : l3_x20.toInt ≥ 12 := toI_ge c_23 rfl (by decide : (12 : Int32).toInt = 12)
        have hl := lv_sub hl [0, 1, 2, 3] (l' := [(3, .int l3_x20), (2, .int l2_x20), (0, .ref (hN 0)), (1, .int p1)]) rfl
        exact join112 _ _ _ _ ⟨rfl, hP, hD, hS, hl⟩
      · have t_23 : ¬ l3_x20.toInt ≥ 12 := toI_nge c_23 rfl (by decide : (12 : Int32).toInt = 12)
        refine lv_iload_n hx hb dX2_measure_26 rfl (lv_at hl 1 rfl) ?_
        refine lv_if_eq (tgt := 286) hx hb dX2_measure_27 (by decide) (fun c_27 => ?_) (fun c_27 => ?_)
        · have t_27 : l2_x20.toInt = 0 := toI_eq c_27 rfl (by decide : (0 : Int32).toInt = 0)
          have hl := lv_sub hl [0, 1, 2, 3] (l' := [(3, .int l3_x20), (2, .int l2_x20), (0, .ref (hN 0)), (1, .int p1)]) rfl
          exact join112 _ _ _ _ ⟨rfl, hP, hD, hS, hl⟩
        · have t_27 : ¬ l2_x20.toInt = 0 := toI_neq c_27 rfl (by decide : (0 : Int32).toInt = 0)
          refine lv_iconst (v := 0) hx hb dX2_measure_30 (by decide) ?_
          refine lv_istore_n (lv' := [(2, .int 0), (3, .int l3_x20), (0, .ref (hN 0)), (1, .int p1)]) hx hb dX2_measure_31 rfl hl (by decide) rfl (fun ls hl => ?_)
          refine lv_iconst (v := 0) hx hb dX2_measure_32 (by decide) ?_
          refine lv_istore (lv' := [(4, .int 0), (2, .int 0), (3, .int l3_x20), (0, .ref (hN 0)), (1, .int p1)]) hx hb dX2_measure_33 hl (by decide) rfl (fun ls hl => ?_)
          have hl := lv_sub hl [0, 1, 2, 3, 4] (l' := [(4, .int 0), (2, .int 0), (3, .int l3_x20), (0, .ref (hN 0)), (1, .int p1)]) rfl
          refine (fun (loop : ∀ (n9 : Nat) (fN_before_x35 : Nat → Int32) (fN_length_x35 : Nat → Int32) (l4_x35 : Int32) (l2_x35 : Int32) (H : Heap) (locs : List Loc) (ls : Array Slot), (∀ q : Nat, 0 ≤ (fN_before_x35 q).toInt ∧ (fN_before_x35 q).toInt ≤ 79) → (0 ≤ l4_x35.toInt ∧ l4_x35.toInt ≤ 40) → (40 - l4_x35.toInt < ((n9 : Nat) : Int)) → va_P (dC, dI) vwCl (WN hN aN kN iN_arcs fN_from fN_to fN_room fN_cost iN_reached fN_free fN_before_x35 fN_flow fN_length_x35 fN_stop iN_stops fN_price fN_rest) H → va_D A (WN hN aN kN iN_arcs fN_from fN_to fN_room fN_cost iN_reached fN_free fN_before_x35 fN_flow fN_length_x35 fN_stop iN_stops fN_price fN_rest) → va_S A s.heap H locs → lv_has ls 5 [(4, .int l4_x35), (2, .int l2_x35), (3, .int l3_x20), (0, .ref (hN 0)), (1, .int p1)] → W p l e _ s m _ below meth c H locs 0 0 _ (F0 m 35 ls [])) => loop (41) fN_before_x20 fN_length_x20 0 0 _ _ _ b_fN_before_x20 (show 0 ≤ (0 : Int32).toInt ∧ (0 : Int32).toInt ≤ 40 from by decide) ((by have e9 : (0 : Int32).toInt = 0 := (by decide : (0 : Int32).toInt = 0); omega)) hP hD hS hl) ?_
          intro n9
          induction n9 with
          | zero => intro fN_before_x35 fN_length_x35 l4_x35 l2_x35 H locs ls b_fN_before_x35 b_l4_x35 hf9; exact False.elim (by omega)
          | succ n9 ihx35 =>
            intro fN_before_x35 fN_length_x35 l4_x35 l2_x35 H locs ls b_fN_before_x35 b_l4_x35 hfx35 hP hD hS hl
            refine lv_iload hx hb dX2_measure_35 (lv_at hl 0 rfl) ?_
            refine lv_aload_n hx hb dX2_measure_37 rfl (lv_at hl 3 rfl) ?_
            refine va_get (D := (dC, dI)) (ci := 2) (v := .int iN_arcs) (C := RX2) (T := TX2) (N := 14) hx hb hts iwsMX2_measure_in2 hown hK hP 0 rfl rfl 0 (by decide) (hts (.fieldLink RX2 45 "OptimaWorks$NetDesk" "arcs" "I") (by decide +kernel)) (fun _ h9 => h9) rfl dX2_measure_38 ?_
            refine lv_icmp_ge (tgt := 280) hx hb dX2_measure_41 (by decide) (fun c_41 => ?_) (fun c_41 => ?_)
            · have t_41 : l4_x35.toInt ≥ iN_arcs.toInt := toI_ge c_41 rfl rfl
              refine lv_iinc (v := (iI (l3_x20.toInt + 1))) (lv' := [(3, .int (iI (l3_x20.toInt + 1))), (4, .int l4_x35), (2, .int l2_x35), (0, .ref (hN 0)), (1, .int p1)]) hx hb dX2_measure_280 hl (k := 2) rfl (iI_add2 (iI_of _) (by decide : (1 : Int32) = iI 1)) (by decide) rfl (fun ls hl => ?_)
              refine lv_goto (tgt := 20) hx hb dX2_measure_283 (by decide) ?_
              have hl := lv_sub hl [0, 2, 3, 4] (l' := [(3, .int (iI (l3_x20.toInt + 1))), (2, .int l2_x35), (0, .ref (hN 0)), (1, .int p1)]) rfl
              exact ihx20 fN_before_x35 fN_length_x35 (iI (l3_x20.toInt + 1)) l2_x35 _ _ _ b_fN_before_x35 (iI_rng (by omega) (by omega) (by decide) (by decide)) (by have e9 : ((iI (l3_x20.toInt + 1))).toInt = (l3_x20.toInt + 1) := (iI_t (by omega) (by omega)); omega) hP hD hS hl
            · have t_41 : ¬ l4_x35.toInt ≥ iN_arcs.toInt := toI_nge c_41 rfl rfl
              refine lv_aload_n hx hb dX2_measure_44 rfl (lv_at hl 3 rfl) ?_
              refine va_get (D := (dC, dI)) (ci := 2) (v := .ref (aN 6)) (C := RX2) (T := TX2) (N := 14) hx hb hts iwsMX2_measure_in2 hown hK hP 0 rfl rfl 8 (by decide) (hts (.fieldLink RX2 30 "OptimaWorks$NetDesk" "flow" "[I") (by decide +kernel)) (fun _ h9 => h9) rfl dX2_measure_45 ?_
              refine lv_iload hx hb dX2_measure_48 (lv_at hl 0 rfl) ?_
              refine va_iald (cA := kN 6) (n := 40) (f := fN_flow) hx hb hK hP 7 6 rfl rfl (vp_in_iff.mpr ⟨by omega, by omega⟩) dX2_measure_50 ?_
              refine lv_topi (fun v2004 hv2004 => ?_)
              clear hv2004
              refine lv_aload_n hx hb dX2_measure_51 rfl (lv_at hl 3 rfl) ?_
              refine va_get (D := (dC, dI)) (ci := 2) (v := .ref (aN 2)) (C := RX2) (T := TX2) (N := 14) hx hb hts iwsMX2_measure_in2 hown hK hP 0 rfl rfl 3 (by decide) (hts (.fieldLink RX2 18 "OptimaWorks$NetDesk" "room" "[I") (by decide +kernel)) (fun _ h9 => h9) rfl dX2_measure_52 ?_
              refine lv_iload hx hb dX2_measure_55 (lv_at hl 0 rfl) ?_
              refine va_iald (cA := kN 2) (n := 40) (f := fN_room) hx hb hK hP 3 2 rfl rfl (vp_in_iff.mpr ⟨by omega, by omega⟩) dX2_measure_57 ?_
              refine lv_topi (fun v2005 hv2005 => ?_)
              clear hv2005
              refine W.cut (pc := 161) (fun H locs ls stk => ∃ (fN_before_j123 : Nat → Int32) (fN_length_j123 : Nat → Int32) (l2_j123 : Int32), (∀ q : Nat, 0 ≤ (fN_before_j123 q).toInt ∧ (fN_before_j123 q).toInt ≤ 79) ∧  stk = [] ∧ va_P (dC, dI) vwCl (WN hN aN kN iN_arcs fN_from fN_to fN_room fN_cost iN_reached fN_free fN_before_j123 fN_flow fN_length_j123 fN_stop iN_stops fN_price fN_rest) H ∧ va_D A (WN hN aN kN iN_arcs fN_from fN_to fN_room fN_cost iN_reached fN_free fN_before_j123 fN_flow fN_length_j123 fN_stop iN_stops fN_price fN_rest) ∧ va_S A s.heap H locs ∧ lv_has ls 5 [(4, .int l4_x35), (2, .int l2_j123), (3, .int l3_x20), (0, .ref (hN 0)), (1, .int p1)]) (fun join123 => ?_) ?_
              · refine lv_icmp_ge (tgt := 161) hx hb dX2_measure_58 (by decide) (fun c_58 => ?_) (fun c_58 => ?_)
                · have t_58 : v2004.toInt ≥ v2005.toInt := toI_ge c_58 rfl rfl
                  have hl := lv_sub hl [0, 1, 2, 3, 4] (l' := [(4, .int l4_x35), (2, .int l2_x35), (3, .int l3_x20), (0, .ref (hN 0)), (1, .int p1)]) rfl
                  exact join123 _ _ _ _ ⟨fN_before_x35, fN_length_x35, l2_x35, b_fN_before_x35, rfl, hP, hD, hS, hl⟩
                · have t_58 : ¬ v2004.toInt ≥ v2005.toInt := toI_nge c_58 rfl rfl
                  refine lv_aload_n hx hb dX2_measure_61 rfl (lv_at hl 3 rfl) ?_
                  refine va_get (D := (dC, dI)) (ci := 2) (v := .ref (aN 7)) (C := RX2) (T := TX2) (N := 14) hx hb hts iwsMX2_measure_in2 hown hK hP 0 rfl rfl 9 (by decide) (hts (.fieldLink RX2 33 "OptimaWorks$NetDesk" "length" "[I") (by decide +kernel)) (fun _ h9 => h9) rfl dX2_measure_62 ?_
                  refine lv_aload_n hx hb dX2_measure_65 rfl (lv_at hl 3 rfl) ?_
                  refine va_get (D := (dC, dI)) (ci := 2) (v := .ref (aN 0)) (C := RX2) (T := TX2) (N := 14) hx hb hts iwsMX2_measure_in2 hown hK hP 0 rfl rfl 1 (by decide) (hts (.fieldLink RX2 11 "OptimaWorks$NetDesk" "from" "[I") (by decide +kernel)) (fun _ h9 => h9) rfl dX2_measure_66 ?_
                  refine lv_iload hx hb dX2_measure_69 (lv_at hl 0 rfl) ?_
                  refine va_iald (cA := kN 0) (n := 40) (f := fN_from) hx hb hK hP 1 0 rfl rfl (vp_in_iff.mpr ⟨by omega, by omega⟩) dX2_measure_71 ?_
                  refine lv_topi (fun v2022 hv2022 => ?_)
                  have b_v2022 : 0 ≤ v2022.toInt ∧ v2022.toInt ≤ 11 := by rw [hv2022]; exact b_fN_from _
                  clear hv2022
                  refine va_iald (cA := kN 7) (n := 12) (f := fN_length_x35) hx hb hK hP 8 7 rfl rfl (vp_in_iff.mpr ⟨by omega, by omega⟩) dX2_measure_72 ?_
                  refine lv_topi (fun v2023 hv2023 => ?_)
                  clear hv2023
                  refine lv_ldc (v := 536870912) hx hb hown (hts (.constant RX2 60 536870912) (by decide +kernel)) dX2_measure_73 ?_
                  refine lv_icmp_ge (tgt := 161) hx hb dX2_measure_75 (by decide) (fun c_75 => ?_) (fun c_75 => ?_)
                  · have t_75 : v2023.toInt ≥ 536870912 := toI_ge c_75 rfl (by decide : (536870912 : Int32).toInt = 536870912)
                    have hl := lv_sub hl [0, 1, 2, 3, 4] (l' := [(4, .int l4_x35), (2, .int l2_x35), (3, .int l3_x20), (0, .ref (hN 0)), (1, .int p1)]) rfl
                    exact join123 _ _ _ _ ⟨fN_before_x35, fN_length_x35, l2_x35, b_fN_before_x35, rfl, hP, hD, hS, hl⟩
                  · have t_75 : ¬ v2023.toInt ≥ 536870912 := toI_nge c_75 rfl (by decide : (536870912 : Int32).toInt = 536870912)
                    refine lv_aload_n hx hb dX2_measure_78 rfl (lv_at hl 3 rfl) ?_
                    refine va_get (D := (dC, dI)) (ci := 2) (v := .ref (aN 7)) (C := RX2) (T := TX2) (N := 14) hx hb hts iwsMX2_measure_in2 hown hK hP 0 rfl rfl 9 (by decide) (hts (.fieldLink RX2 33 "OptimaWorks$NetDesk" "length" "[I") (by decide +kernel)) (fun _ h9 => h9) rfl dX2_measure_79 ?_
                    refine lv_aload_n hx hb dX2_measure_82 rfl (lv_at hl 3 rfl) ?_
                    refine va_get (D := (dC, dI)) (ci := 2) (v := .ref (aN 0)) (C := RX2) (T := TX2) (N := 14) hx hb hts iwsMX2_measure_in2 hown hK hP 0 rfl rfl 1 (by decide) (hts (.fieldLink RX2 11 "OptimaWorks$NetDesk" "from" "[I") (by decide +kernel)) (fun _ h9 => h9) rfl dX2_measure_83 ?_
                    refine lv_iload hx hb dX2_measure_86 (lv_at hl 0 rfl) ?_
                    refine va_iald (cA := kN 0) (n := 40) (f := fN_from) hx hb hK hP 1 0 rfl rfl (vp_in_iff.mpr ⟨by omega, by omega⟩) dX2_measure_88 ?_
                    refine lv_topi (fun v2024 hv2024 => ?_)
                    have b_v2024 : 0 ≤ v2024.toInt ∧ v2024.toInt ≤ 11 := by rw [hv2024]; exact b_fN_from _
                    clear hv2024
                    refine va_iald (cA := kN 7) (n := 12) (f := fN_length_x35) hx hb hK hP 8 7 rfl rfl (vp_in_iff.mpr ⟨by omega, by omega⟩) dX2_measure_89 ?_
                    refine lv_topi (fun v2025 hv2025 => ?_)
                    clear hv2025
                    refine lv_aload_n hx hb dX2_measure_90 rfl (lv_at hl 3 rfl) ?_
                    refine va_get (D := (dC, dI)) (ci := 2) (v := .ref (aN 3)) (C := RX2) (T := TX2) (N := 14) hx hb hts iwsMX2_measure_in2 hown hK hP 0 rfl rfl 4 (by decide) (hts (.fieldLink RX2 21 "OptimaWorks$NetDesk" "cost" "[I") (by decide +kernel)) (fun _ h9 => h9) rfl dX2_measure_91 ?_
                    refine lv_iload hx hb dX2_measure_94 (lv_at hl 0 rfl) ?_
                    refine va_iald (cA := kN 3) (n := 40) (f := fN_cost) hx hb hK hP 4 3 rfl rfl (vp_in_iff.mpr ⟨by omega, by omega⟩) dX2_measure_96 ?_
                    refine lv_topi (fun v2026 hv2026 => ?_)
                    clear hv2026
                    refine lv_iadd hx hb dX2_measure_97 ?_
                    refine lv_topi (fun y2027 hy2027 => ?_)
                    obtain rfl : (iI (v2025.toInt + v2026.toInt)) = y2027 := (hy2027.trans (iI_add2 (iI_of _) (iI_of _))).symm
                    refine lv_aload_n hx hb dX2_measure_98 rfl (lv_at hl 3 rfl) ?_
                    refine va_get (D := (dC, dI)) (ci := 2) (v := .ref (aN 7)) (C := RX2) (T := TX2) (N := 14) hx hb hts iwsMX2_measure_in2 hown hK hP 0 rfl rfl 9 (by decide) (hts (.fieldLink RX2 33 "OptimaWorks$NetDesk" "length" "[I") (by decide +kernel)) (fun _ h9 => h9) rfl dX2_measure_99 ?_
                    refine lv_aload_n hx hb dX2_measure_102 rfl (lv_at hl 3 rfl) ?_
                    refine va_get (D := (dC, dI)) (ci := 2) (v := .ref (aN 1)) (C := RX2) (T := TX2) (N := 14) hx hb hts iwsMX2_measure_in2 hown hK hP 0 rfl rfl 2 (by decide) (hts (.fieldLink RX2 15 "OptimaWorks$NetDesk" "to" "[I") (by decide +kernel)) (fun _ h9 => h9) rfl dX2_measure_103 ?_
                    refine lv_iload hx hb dX2_measure_106 (lv_at hl 0 rfl) ?_
                    refine va_iald (cA := kN 1) (n := 40) (f := fN_to) hx hb hK hP 2 1 rfl rfl (vp_in_iff.mpr ⟨by omega, by omega⟩) dX2_measure_108 ?_
                    refine lv_topi (fun v2028 hv2028 => ?_)
                    have b_v2028 : 0 ≤ v2028.toInt ∧ v2028.toInt ≤ 11 := by rw [hv2028]; exact b_fN_to _
                    clear hv2028
                    refine va_iald (cA := kN 7) (n := 12) (f := fN_length_x35) hx hb hK hP 8 7 rfl rfl (vp_in_iff.mpr ⟨by omega, by omega⟩) dX2_measure_109 ?_
                    refine lv_topi (fun v2029 hv2029 => ?_)
                    clear hv2029
                    refine lv_icmp_ge (tgt := 161) hx hb dX2_measure_110 (by decide) (fun c_110 => ?_) (fun c_110 => ?_)
                    · first | (have t_110 : (v2025.toInt + v2026.toInt) ≥ v2029.toInt := toI_ge c_110 (iI_t (by omega) (by omega)) rfl) | skip
                      have hl := lv_sub hl [0, 1, 2, 3, 4] (l' := [(4, .int l4_x35), (2, .int l2_x35), (3, .int l3_x20), (0, .ref (hN 0)), (1, .int p1)]) rfl
                      exact join123 _ _ _ _ ⟨fN_before_x35, fN_length_x35, l2_x35, b_fN_before_x35, rfl, hP, hD, hS, hl⟩
                    · first | (have t_110 : ¬ (v2025.toInt + v2026.toInt) ≥ v2029.toInt := toI_nge c_110 (iI_t (by omega) (by omega)) rfl) | skip
                      refine lv_aload_n hx hb dX2_measure_113 rfl (lv_at hl 3 rfl) ?_
                      refine va_get (D := (dC, dI)) (ci := 2) (v := .ref (aN 7)) (C := RX2) (T := TX2) (N := 14) hx hb hts iwsMX2_measure_in2 hown hK hP 0 rfl rfl 9 (by decide) (hts (.fieldLink RX2 33 "OptimaWorks$NetDesk" "length" "[I") (by decide +kernel)) (fun _ h9 => h9) rfl dX2_measure_114 ?_
                      refine lv_aload_n hx hb dX2_measure_117 rfl (lv_at hl 3 rfl) ?_
                      refine va_get (D := (dC, dI)) (ci := 2) (v := .ref (aN 1)) (C := RX2) (T := TX2) (N := 14) hx hb hts iwsMX2_measure_in2 hown hK hP 0 rfl rfl 2 (by decide) (hts (.fieldLink RX2 15 "OptimaWorks$NetDesk" "to" "[I") (by decide +kernel)) (fun _ h9 => h9) rfl dX2_measure_118 ?_
                      refine lv_iload hx hb dX2_measure_121 (lv_at hl 0 rfl) ?_
                      refine va_iald (cA := kN 1) (n := 40) (f := fN_to) hx hb hK hP 2 1 rfl rfl (vp_in_iff.mpr ⟨by omega, by omega⟩) dX2_measure_123 ?_
                      refine lv_topi (fun v2030 hv2030 => ?_)
                      have b_v2030 : 0 ≤ v2030.toInt ∧ v2030.toInt ≤ 11 := by rw [hv2030]; exact b_fN_to _
                      clear hv2030
                      refine lv_aload_n hx hb dX2_measure_124 rfl (lv_at hl 3 rfl) ?_
                      refine va_get (D := (dC, dI)) (ci := 2) (v := .ref (aN 7)) (C := RX2) (T := TX2) (N := 14) hx hb hts iwsMX2_measure_in2 hown hK hP 0 rfl rfl 9 (by decide) (hts (.fieldLink RX2 33 "OptimaWorks$NetDesk" "length" "[I") (by decide +kernel)) (fun _ h9 => h9) rfl dX2_measure_125 ?_
                      refine lv_aload_n hx hb dX2_measure_128 rfl (lv_at hl 3 rfl) ?_
                      refine va_get (D := (dC, dI)) (ci := 2) (v := .ref (aN 0)) (C := RX2) (T := TX2) (N := 14) hx hb hts iwsMX2_measure_in2 hown hK hP 0 rfl rfl 1 (by decide) (hts (.fieldLink RX2 11 "OptimaWorks$NetDesk" "from" "[I") (by decide +kernel)) (fun _ h9 => h9) rfl dX2_measure_129 ?_
                      refine lv_iload hx hb dX2_measure_132 (lv_at hl 0 rfl) ?_
                      refine va_iald (cA := kN 0) (n := 40) (f := fN_from) hx hb hK hP 1 0 rfl rfl (vp_in_iff.mpr ⟨by omega, by omega⟩) dX2_measure_134 ?_
                      refine lv_topi (fun v2031 hv2031 => ?_)
                      have b_v2031 : 0 ≤ v2031.toInt ∧ v2031.toInt ≤ 11 := by rw [hv2031]; exact b_fN_from _
                      clear hv2031
                      refine va_iald (cA := kN 7) (n := 12) (f := fN_length_x35) hx hb hK hP 8 7 rfl rfl (vp_in_iff.mpr ⟨by omega, by omega⟩) dX2_measure_135 ?_
                      refine lv_topi (fun v2032 hv2032 => ?_)
                      clear hv2032
                      refine lv_aload_n hx hb dX2_measure_136 rfl (lv_at hl 3 rfl) ?_
                      refine va_get (D := (dC, dI)) (ci := 2) (v := .ref (aN 3)) (C := RX2) (T := TX2) (N := 14) hx hb hts iwsMX2_measure_in2 hown hK hP 0 rfl rfl 4 (by decide) (hts (.fieldLink RX2 21 "OptimaWorks$NetDesk" "cost" "[I") (by decide +kernel)) (fun _ h9 => h9) rfl dX2_measure_137 ?_
                      refine lv_iload hx hb dX2_measure_140 (lv_at hl 0 rfl) ?_
                      refine va_iald (cA := kN 3) (n := 40) (f := fN_cost) hx hb hK hP 4 3 rfl rfl (vp_in_iff.mpr ⟨by omega, by omega⟩) dX2_measure_142 ?_
                      refine lv_topi (fun v2033 hv2033 => ?_)
                      clear hv2033
                      refine lv_iadd hx hb dX2_measure_143 ?_
                      refine lv_topi (fun y2034 hy2034 => ?_)
                      obtain rfl : (iI (v2032.toInt + v2033.toInt)) = y2034 := (hy2034.trans (iI_add2 (iI_of _) (iI_of _))).symm
                      refine va_iast (cA := kN 7) (n := 12) (f := fN_length_x35) hx hb hK hP hD hS 8 7 rfl rfl (vp_in_iff.mpr ⟨by omega, by omega⟩) dX2_measure_144 (fun H locs hP hD hS => ?_)
                      obtain ⟨u2035, hu2035⟩ : ∃ f9, f9 = upd fN_length_x35 (v2030).toNatClampNeg (iI (v2032.toInt + v2033.toInt)) := ⟨_, rfl⟩
                      have hP : va_P (dC, dI) vwCl (WN hN aN kN iN_arcs fN_from fN_to fN_room fN_cost iN_reached fN_free fN_before_x35 fN_flow u2035 fN_stop iN_stops fN_price fN_rest) H := by rw [hu2035]; exact hP
                      have hD : va_D A (WN hN aN kN iN_arcs fN_from fN_to fN_room fN_cost iN_reached fN_free fN_before_x35 fN_flow u2035 fN_stop iN_stops fN_price fN_rest) := by rw [hu2035]; exact hD
                      clear hu2035
                      refine lv_aload_n hx hb dX2_measure_145 rfl (lv_at hl 3 rfl) ?_
                      refine va_get (D := (dC, dI)) (ci := 2) (v := .ref (aN 5)) (C := RX2) (T := TX2) (N := 14) hx hb hts iwsMX2_measure_in2 hown hK hP 0 rfl rfl 7 (by decide) (hts (.fieldLink RX2 27 "OptimaWorks$NetDesk" "before" "[I") (by decide +kernel)) (fun _ h9 => h9) rfl dX2_measure_146 ?_
                      refine lv_aload_n hx hb dX2_measure_149 rfl (lv_at hl 3 rfl) ?_
                      refine va_get (D := (dC, dI)) (ci := 2) (v := .ref (aN 1)) (C := RX2) (T := TX2) (N := 14) hx hb hts iwsMX2_measure_in2 hown hK hP 0 rfl rfl 2 (by decide) (hts (.fieldLink RX2 15 "OptimaWorks$NetDesk" "to" "[I") (by decide +kernel)) (fun _ h9 => h9) rfl dX2_measure_150 ?_
                      refine lv_iload hx hb dX2_measure_153 (lv_at hl 0 rfl) ?_
                      refine va_iald (cA := kN 1) (n := 40) (f := fN_to) hx hb hK hP 2 1 rfl rfl (vp_in_iff.mpr ⟨by omega, by omega⟩) dX2_measure_155 ?_
                      refine lv_topi (fun v2036 hv2036 => ?_)
                      have b_v2036 : 0 ≤ v2036.toInt ∧ v2036.toInt ≤ 11 := by rw [hv2036]; exact b_fN_to _
                      clear hv2036
                      refine lv_iload hx hb dX2_measure_156 (lv_at hl 0 rfl) ?_
                      refine va_iast (cA := kN 5) (n := 12) (f := fN_before_x35) hx hb hK hP hD hS 6 5 rfl rfl (vp_in_iff.mpr ⟨by omega, by omega⟩) dX2_measure_158 (fun H locs hP hD hS => ?_)
                      obtain ⟨u2037, hu2037⟩ : ∃ f9, f9 = upd fN_before_x35 (v2036).toNatClampNeg l4_x35 := ⟨_, rfl⟩
                      have hP : va_P (dC, dI) vwCl (WN hN aN kN iN_arcs fN_from fN_to fN_room fN_cost iN_reached fN_free u2037 fN_flow u2035 fN_stop iN_stops fN_price fN_rest) H := by rw [hu2037]; exact hP
                      have hD : va_D A (WN hN aN kN iN_arcs fN_from fN_to fN_room fN_cost iN_reached fN_free u2037 fN_flow u2035 fN_stop iN_stops fN_price fN_rest) := by rw [hu2037]; exact hD
                      have b_u2037 : ∀ q : Nat, 0 ≤ (u2037 q).toInt ∧ (u2037 q).toInt ≤ 79 := by rw [hu2037]; exact upd_r b_fN_before_x35 (by first | assumption | exact ⟨by omega, by omega⟩)
                      clear hu2037
                      refine lv_iconst (v := 1) hx hb dX2_measure_159 (by decide) ?_
                      refine lv_istore_n (lv' := [(2, .int 1), (4, .int l4_x35), (3, .int l3_x20), (0, .ref (hN 0)), (1, .int p1)]) hx hb dX2_measure_160 rfl hl (by decide) rfl (fun ls hl => ?_)
                      have hl := lv_sub hl [1, 0, 2, 3, 4] (l' := [(4, .int l4_x35), (2, .int 1), (3, .int l3_x20), (0, .ref (hN 0)), (1, .int p1)]) rfl
                      exact join123 _ _ _ _ ⟨u2037, u2035, 1, b_u2037, rfl, hP, hD, hS, hl⟩
              · rintro H locs ls stk ⟨fN_before_j123, fN_length_j123, l2_j123, b_fN_before_j123, rfl, hP, hD, hS, hl⟩
                refine lv_aload_n hx hb dX2_measure_161 rfl (lv_at hl 3 rfl) ?_
                refine va_get (D := (dC, dI)) (ci := 2) (v := .ref (aN 6)) (C := RX2) (T := TX2) (N := 14) hx hb hts iwsMX2_measure_in2 hown hK hP 0 rfl rfl 8 (by decide) (hts (.fieldLink RX2 30 "OptimaWorks$NetDesk" "flow" "[I") (by decide +kernel)) (fun _ h9 => h9) rfl dX2_measure_162 ?_
                refine lv_iload hx hb dX2_measure_165 (lv_at hl 0 rfl) ?_
                refine va_iald (cA := kN 6) (n := 40) (f := fN_flow) hx hb hK hP 7 6 rfl rfl (vp_in_iff.mpr ⟨by omega, by omega⟩) dX2_measure_167 ?_
                refine lv_topi (fun v2038 hv2038 => ?_)
                clear hv2038
                refine W.cut (pc := 274) (fun H locs ls stk => ∃ (fN_before_j124 : Nat → Int32) (fN_length_j124 : Nat → Int32) (l2_j124 : Int32), (∀ q : Nat, 0 ≤ (fN_before_j124 q).toInt ∧ (fN_before_j124 q).toInt ≤ 79) ∧  stk = [] ∧ va_P (dC, dI) vwCl (WN hN aN kN iN_arcs fN_from fN_to fN_room fN_cost iN_reached fN_free fN_before_j124 fN_flow fN_length_j124 fN_stop iN_stops fN_price fN_rest) H ∧ va_D A (WN hN aN kN iN_arcs fN_from fN_to fN_room fN_cost iN_reached fN_free fN_before_j124 fN_flow fN_length_j124 fN_stop iN_stops fN_price fN_rest) ∧ va_S A s.heap H locs ∧ lv_has ls 5 [(4, .int l4_x35), (2, .int l2_j124), (3, .int l3_x20), (0, .ref (hN 0)), (1, .int p1)]) (fun join124 => ?_) ?_
                · refine lv_if_le (tgt := 274) hx hb dX2_measure_168 (by decide) (fun c_168 => ?_) (fun c_168 => ?_)
                  · have t_168 : v2038.toInt ≤ 0 := toI_le c_168 rfl (by decide : (0 : Int32).toInt = 0)
                    have hl := lv_sub hl [0, 1, 2, 3, 4] (l' := [(4, .int l4_x35), (2, .int l2_j123), (3, .int l3_x20), (0, .ref (hN 0)), (1, .int p1)]) rfl
                    exact join124 _ _ _ _ ⟨fN_before_j123, fN_length_j123, l2_j123, b_fN_before_j123, rfl, hP, hD, hS, hl⟩
                  · have t_168 : ¬ v2038.toInt ≤ 0 := toI_nle c_168 rfl (by decide : (0 : Int32).toInt = 0)
                    refine lv_aload_n hx hb dX2_measure_171 rfl (lv_at hl 3 rfl) ?_
                    refine va_get (D := (dC, dI)) (ci := 2) (v := .ref (aN 7)) (C := RX2) (T := TX2) (N := 14) hx hb hts iwsMX2_measure_in2 hown hK hP 0 rfl rfl 9 (by decide) (hts (.fieldLink RX2 33 "OptimaWorks$NetDesk" "length" "[I") (by decide +kernel)) (fun _ h9 => h9) rfl dX2_measure_172 ?_
                    refine lv_aload_n hx hb dX2_measure_175 rfl (lv_at hl 3 rfl) ?_
                    refine va_get (D := (dC, dI)) (ci := 2) (v := .ref (aN 1)) (C := RX2) (T := TX2) (N := 14) hx hb hts iwsMX2_measure_in2 hown hK hP 0 rfl rfl 2 (by decide) (hts (.fieldLink RX2 15 "OptimaWorks$NetDesk" "to" "[I") (by decide +kernel)) (fun _ h9 => h9) rfl dX2_measure_176 ?_
                    refine lv_iload hx hb dX2_measure_179 (lv_at hl 0 rfl) ?_
                    refine va_iald (cA := kN 1) (n := 40) (f := fN_to) hx hb hK hP 2 1 rfl rfl (vp_in_iff.mpr ⟨by omega, by omega⟩) dX2_measure_181 ?_
                    refine lv_topi (fun v2056 hv2056 => ?_)
                    have b_v2056 : 0 ≤ v2056.toInt ∧ v2056.toInt ≤ 11 := by rw [hv2056]; exact b_fN_to _
                    clear hv2056
                    refine va_iald (cA := kN 7) (n := 12) (f := fN_length_j123) hx hb hK hP 8 7 rfl rfl (vp_in_iff.mpr ⟨by omega, by omega⟩) dX2_measure_182 ?_
                    refine lv_topi (fun v2057 hv2057 => ?_)
                    clear hv2057
                    refine lv_ldc (v := 536870912) hx hb hown (hts (.constant RX2 60 536870912) (by decide +kernel)) dX2_measure_183 ?_
                    refine lv_icmp_ge (tgt := 274) hx hb dX2_measure_185 (by decide) (fun c_185 => ?_) (fun c_185 => ?_)
                    · have t_185 : v2057.toInt ≥ 536870912 := toI_ge c_185 rfl (by decide : (536870912 : Int32).toInt = 536870912)
                      have hl := lv_sub hl [0, 1, 2, 3, 4] (l' := [(4, .int l4_x35), (2, .int l2_j123), (3, .int l3_x20), (0, .ref (hN 0)), (1, .int p1)]) rfl
                      exact join124 _ _ _ _ ⟨fN_before_j123, fN_length_j123, l2_j123, b_fN_before_j123, rfl, hP, hD, hS, hl⟩
                    · have t_185 : ¬ v2057.toInt ≥ 536870912 := toI_nge c_185 rfl (by decide : (536870912 : Int32).toInt = 536870912)
                      refine lv_aload_n hx hb dX2_measure_188 rfl (lv_at hl 3 rfl) ?_
                      refine va_get (D := (dC, dI)) (ci := 2) (v := .ref (aN 7)) (C := RX2) (T := TX2) (N := 14) hx hb hts iwsMX2_measure_in2 hown hK hP 0 rfl rfl 9 (by decide) (hts (.fieldLink RX2 33 "OptimaWorks$NetDesk" "length" "[I") (by decide +kernel)) (fun _ h9 => h9) rfl dX2_measure_189 ?_
                      refine lv_aload_n hx hb dX2_measure_192 rfl (lv_at hl 3 rfl) ?_
                      refine va_get (D := (dC, dI)) (ci := 2) (v := .ref (aN 1)) (C := RX2) (T := TX2) (N := 14) hx hb hts iwsMX2_measure_in2 hown hK hP 0 rfl rfl 2 (by decide) (hts (.fieldLink RX2 15 "OptimaWorks$NetDesk" "to" "[I") (by decide +kernel)) (fun _ h9 => h9) rfl dX2_measure_193 ?_
                      refine lv_iload hx hb dX2_measure_196 (lv_at hl 0 rfl) ?_
                      refine va_iald (cA := kN 1) (n := 40) (f := fN_to) hx hb hK hP 2 1 rfl rfl (vp_in_iff.mpr ⟨by omega, by omega⟩) dX2_measure_198 ?_
                      refine lv_topi (fun v2058 hv2058 => ?_)
                      have b_v2058 : 0 ≤ v2058.toInt ∧ v2058.toInt ≤ 11 := by rw [hv2058]; exact b_fN_to _
                      clear hv2058
                      refine va_iald (cA := kN 7) (n := 12) (f := fN_length_j123) hx hb hK hP 8 7 rfl rfl (vp_in_iff.mpr ⟨by omega, by omega⟩) dX2_measure_199 ?_
                      refine lv_topi (fun v2059 hv2059 => ?_)
                      clear hv2059
                      refine lv_aload_n hx hb dX2_measure_200 rfl (lv_at hl 3 rfl) ?_
                      refine va_get (D := (dC, dI)) (ci := 2) (v := .ref (aN 3)) (C := RX2) (T := TX2) (N := 14) hx hb hts iwsMX2_measure_in2 hown hK hP 0 rfl rfl 4 (by decide) (hts (.fieldLink RX2 21 "OptimaWorks$NetDesk" "cost" "[I") (by decide +kernel)) (fun _ h9 => h9) rfl dX2_measure_201 ?_
                      refine lv_iload hx hb dX2_measure_204 (lv_at hl 0 rfl) ?_
                      refine va_iald (cA := kN 3) (n := 40) (f := fN_cost) hx hb hK hP 4 3 rfl rfl (vp_in_iff.mpr ⟨by omega, by omega⟩) dX2_measure_206 ?_
                      refine lv_topi (fun v2060 hv2060 => ?_)
                      clear hv2060
                      refine lv_isub hx hb dX2_measure_207 ?_
                      refine lv_topi (fun y2061 hy2061 => ?_)
                      obtain rfl : (iI (v2059.toInt - v2060.toInt)) = y2061 := (hy2061.trans (iI_sub2 (iI_of _) (iI_of _))).symm
                      refine lv_aload_n hx hb dX2_measure_208 rfl (lv_at hl 3 rfl) ?_
                      refine va_get (D := (dC, dI)) (ci := 2) (v := .ref (aN 7)) (C := RX2) (T := TX2) (N := 14) hx hb hts iwsMX2_measure_in2 hown hK hP 0 rfl rfl 9 (by decide) (hts (.fieldLink RX2 33 "OptimaWorks$NetDesk" "length" "[I") (by decide +kernel)) (fun _ h9 => h9) rfl dX2_measure_209 ?_
                      refine lv_aload_n hx hb dX2_measure_212 rfl (lv_at hl 3 rfl) ?_
                      refine va_get (D := (dC, dI)) (ci := 2) (v := .ref (aN 0)) (C := RX2) (T := TX2) (N := 14) hx hb hts iwsMX2_measure_in2 hown hK hP 0 rfl rfl 1 (by decide) (hts (.fieldLink RX2 11 "OptimaWorks$NetDesk" "from" "[I") (by decide +kernel)) (fun _ h9 => h9) rfl dX2_measure_213 ?_
                      refine lv_iload hx hb dX2_measure_216 (lv_at hl 0 rfl) ?_
                      refine va_iald (cA := kN 0) (n := 40) (f := fN_from) hx hb hK hP 1 0 rfl rfl (vp_in_iff.mpr ⟨by omega, by omega⟩) dX2_measure_218 ?_
                      refine lv_topi (fun v2062 hv2062 => ?_)
                      have b_v2062 : 0 ≤ v2062.toInt ∧ v2062.toInt ≤ 11 := by rw [hv2062]; exact b_fN_from _
                      clear hv2062
                      refine va_iald (cA := kN 7) (n := 12) (f := fN_length_j123) hx hb hK hP 8 7 rfl rfl (vp_in_iff.mpr ⟨by omega, by omega⟩) dX2_measure_219 ?_
                      refine lv_topi (fun v2063 hv2063 => ?_)
                      clear hv2063
                      refine lv_icmp_ge (tgt := 274) hx hb dX2_measure_220 (by decide) (fun c_220 => ?_) (fun c_220 => ?_)
                      · first | (have t_220 : (v2059.toInt - v2060.toInt) ≥ v2063.toInt := toI_ge c_220 (iI_t (by omega) (by omega)) rfl) | skip
                        have hl := lv_sub hl [0, 1, 2, 3, 4] (l' := [(4, .int l4_x35), (2, .int l2_j123), (3, .int l3_x20), (0, .ref (hN 0)), (1, .int p1)]) rfl
                        exact join124 _ _ _ _ ⟨fN_before_j123, fN_length_j123, l2_j123, b_fN_before_j123, rfl, hP, hD, hS, hl⟩
                      · first | (have t_220 : ¬ (v2059.toInt - v2060.toInt) ≥ v2063.toInt := toI_nge c_220 (iI_t (by omega) (by omega)) rfl) | skip
                        refine lv_aload_n hx hb dX2_measure_223 rfl (lv_at hl 3 rfl) ?_
                        refine va_get (D := (dC, dI)) (ci := 2) (v := .ref (aN 7)) (C := RX2) (T := TX2) (N := 14) hx hb hts iwsMX2_measure_in2 hown hK hP 0 rfl rfl 9 (by decide) (hts (.fieldLink RX2 33 "OptimaWorks$NetDesk" "length" "[I") (by decide +kernel)) (fun _ h9 => h9) rfl dX2_measure_224 ?_
                        refine lv_aload_n hx hb dX2_measure_227 rfl (lv_at hl 3 rfl) ?_
                        refine va_get (D := (dC, dI)) (ci := 2) (v := .ref (aN 0)) (C := RX2) (T := TX2) (N := 14) hx hb hts iwsMX2_measure_in2 hown hK hP 0 rfl rfl 1 (by decide) (hts (.fieldLink RX2 11 "OptimaWorks$NetDesk" "from" "[I") (by decide +kernel)) (fun _ h9 => h9) rfl dX2_measure_228 ?_
                        refine lv_iload hx hb dX2_measure_231 (lv_at hl 0 rfl) ?_
                        refine va_iald (cA := kN 0) (n := 40) (f := fN_from) hx hb hK hP 1 0 rfl rfl (vp_in_iff.mpr ⟨by omega, by omega⟩) dX2_measure_233 ?_
                        refine lv_topi (fun v2064 hv2064 => ?_)
                        have b_v2064 : 0 ≤ v2064.toInt ∧ v2064.toInt ≤ 11 := by rw [hv2064]; exact b_fN_from _
                        clear hv2064
                        refine lv_aload_n hx hb dX2_measure_234 rfl (lv_at hl 3 rfl) ?_
                        refine va_get (D := (dC, dI)) (ci := 2) (v := .ref (aN 7)) (C := RX2) (T := TX2) (N := 14) hx hb hts iwsMX2_measure_in2 hown hK hP 0 rfl rfl 9 (by decide) (hts (.fieldLink RX2 33 "OptimaWorks$NetDesk" "length" "[I") (by decide +kernel)) (fun _ h9 => h9) rfl dX2_measure_235 ?_
                        refine lv_aload_n hx hb dX2_measure_238 rfl (lv_at hl 3 rfl) ?_
                        refine va_get (D := (dC, dI)) (ci := 2) (v := .ref (aN 1)) (C := RX2) (T := TX2) (N := 14) hx hb hts iwsMX2_measure_in2 hown hK hP 0 rfl rfl 2 (by decide) (hts (.fieldLink RX2 15 "OptimaWorks$NetDesk" "to" "[I") (by decide +kernel)) (fun _ h9 => h9) rfl dX2_measure_239 ?_
                        refine lv_iload hx hb dX2_measure_242 (lv_at hl 0 rfl) ?_
                        refine va_iald (cA := kN 1) (n := 40) (f := fN_to) hx hb hK hP 2 1 rfl rfl (vp_in_iff.mpr ⟨by omega, by omega⟩) dX2_measure_244 ?_
                        refine lv_topi (fun v2065 hv2065 => ?_)
                        have b_v2065 : 0 ≤ v2065.toInt ∧ v2065.toInt ≤ 11 := by rw [hv2065]; exact b_fN_to _
                        clear hv2065
                        refine va_iald (cA := kN 7) (n := 12) (f := fN_length_j123) hx hb hK hP 8 7 rfl rfl (vp_in_iff.mpr ⟨by omega, by omega⟩) dX2_measure_245 ?_
                        refine lv_topi (fun v2066 hv2066 => ?_)
                        clear hv2066
                        refine lv_aload_n hx hb dX2_measure_246 rfl (lv_at hl 3 rfl) ?_
                        refine va_get (D := (dC, dI)) (ci := 2) (v := .ref (aN 3)) (C := RX2) (T := TX2) (N := 14) hx hb hts iwsMX2_measure_in2 hown hK hP 0 rfl rfl 4 (by decide) (hts (.fieldLink RX2 21 "OptimaWorks$NetDesk" "cost" "[I") (by decide +kernel)) (fun _ h9 => h9) rfl dX2_measure_247 ?_
                        refine lv_iload hx hb dX2_measure_250 (lv_at hl 0 rfl) ?_
                        refine va_iald (cA := kN 3) (n := 40) (f := fN_cost) hx hb hK hP 4 3 rfl rfl (vp_in_iff.mpr ⟨by omega, by omega⟩) dX2_measure_252 ?_
                        refine lv_topi (fun v2067 hv2067 => ?_)
                        clear hv2067
                        refine lv_isub hx hb dX2_measure_253 ?_
                        refine lv_topi (fun y2068 hy2068 => ?_)
                        obtain rfl : (iI (v2066.toInt - v2067.toInt)) = y2068 := (hy2068.trans (iI_sub2 (iI_of _) (iI_of _))).symm
                        refine va_iast (cA := kN 7) (n := 12) (f := fN_length_j123) hx hb hK hP hD hS 8 7 rfl rfl (vp_in_iff.mpr ⟨by omega, by omega⟩) dX2_measure_254 (fun H locs hP hD hS => ?_)
                        obtain ⟨u2069, hu2069⟩ : ∃ f9, f9 = upd fN_length_j123 (v2064).toNatClampNeg (iI (v2066.toInt - v2067.toInt)) := ⟨_, rfl⟩
                        have hP : va_P (dC, dI) vwCl (WN hN aN kN iN_arcs fN_from fN_to fN_room fN_cost iN_reached fN_free fN_before_j123 fN_flow u2069 fN_stop iN_stops fN_price fN_rest) H := by rw [hu2069]; exact hP
                        have hD : va_D A (WN hN aN kN iN_arcs fN_from fN_to fN_room fN_cost iN_reached fN_free fN_before_j123 fN_flow u2069 fN_stop iN_stops fN_price fN_rest) := by rw [hu2069]; exact hD
                        clear hu2069
                        refine lv_aload_n hx hb dX2_measure_255 rfl (lv_at hl 3 rfl) ?_
                        refine va_get (D := (dC, dI)) (ci := 2) (v := .ref (aN 5)) (C := RX2) (T := TX2) (N := 14) hx hb hts iwsMX2_measure_in2 hown hK hP 0 rfl rfl 7 (by decide) (hts (.fieldLink RX2 27 "OptimaWorks$NetDesk" "before" "[I") (by decide +kernel)) (fun _ h9 => h9) rfl dX2_measure_256 ?_
                        refine lv_aload_n hx hb dX2_measure_259 rfl (lv_at hl 3 rfl) ?_
                        refine va_get (D := (dC, dI)) (ci := 2) (v := .ref (aN 0)) (C := RX2) (T := TX2) (N := 14) hx hb hts iwsMX2_measure_in2 hown hK hP 0 rfl rfl 1 (by decide) (hts (.fieldLink RX2 11 "OptimaWorks$NetDesk" "from" "[I") (by decide +kernel)) (fun _ h9 => h9) rfl dX2_measure_260 ?_
                        refine lv_iload hx hb dX2_measure_263 (lv_at hl 0 rfl) ?_
                        refine va_iald (cA := kN 0) (n := 40) (f := fN_from) hx hb hK hP 1 0 rfl rfl (vp_in_iff.mpr ⟨by omega, by omega⟩) dX2_measure_265 ?_
                        refine lv_topi (fun v2070 hv2070 => ?_)
                        have b_v2070 : 0 ≤ v2070.toInt ∧ v2070.toInt ≤ 11 := by rw [hv2070]; exact b_fN_from _
                        clear hv2070
                        refine lv_iload hx hb dX2_measure_266 (lv_at hl 0 rfl) ?_
                        refine lv_bipush (v := 40) hx hb dX2_measure_268 (by decide) ?_
                        refine lv_iadd hx hb dX2_measure_270 ?_
                        refine lv_topi (fun y2071 hy2071 => ?_)
                        obtain rfl : (iI (l4_x35.toInt + 40)) = y2071 := (hy2071.trans (iI_add2 (iI_of _) (by decide : (40 : Int32) = iI 40))).symm
                        refine va_iast (cA := kN 5) (n := 12) (f := fN_before_j123) hx hb hK hP hD hS 6 5 rfl rfl (vp_in_iff.mpr ⟨by omega, by omega⟩) dX2_measure_271 (fun H locs hP hD hS => ?_)
                        obtain ⟨u2072, hu2072⟩ : ∃ f9, f9 = upd fN_before_j123 (v2070).toNatClampNeg (iI (l4_x35.toInt + 40)) := ⟨_, rfl⟩
                        have hP : va_P (dC, dI) vwCl (WN hN aN kN iN_arcs fN_from fN_to fN_room fN_cost iN_reached fN_free u2072 fN_flow u2069 fN_stop iN_stops fN_price fN_rest) H := by rw [hu2072]; exact hP
                        have hD : va_D A (WN hN aN kN iN_arcs fN_from fN_to fN_room fN_cost iN_reached fN_free u2072 fN_flow u2069 fN_stop iN_stops fN_price fN_rest) := by rw [hu2072]; exact hD
                        have b_u2072 : ∀ q : Nat, 0 ≤ (u2072 q).toInt ∧ (u2072 q).toInt ≤ 79 := by rw [hu2072]; exact upd_r b_fN_before_j123 (iI_rng (by omega) (by omega) (by decide) (by decide))
                        clear hu2072
                        refine lv_iconst (v := 1) hx hb dX2_measure_272 (by decide) ?_
                        refine lv_istore_n (lv' := [(2, .int 1), (4, .int l4_x35), (3, .int l3_x20), (0, .ref (hN 0)), (1, .int p1)]) hx hb dX2_measure_273 rfl hl (by decide) rfl (fun ls hl => ?_)
                        have hl := lv_sub hl [1, 0, 2, 3, 4] (l' := [(4, .int l4_x35), (2, .int 1), (3, .int l3_x20), (0, .ref (hN 0)), (1, .int p1)]) rfl
                        exact join124 _ _ _ _ ⟨u2072, u2069, 1, b_u2072, rfl, hP, hD, hS, hl⟩
                · rintro H locs ls stk ⟨fN_before_j124, fN_length_j124, l2_j124, b_fN_before_j124, rfl, hP, hD, hS, hl⟩
                  refine lv_iinc (v := (iI (l4_x35.toInt + 1))) (lv' := [(4, .int (iI (l4_x35.toInt + 1))), (2, .int l2_j124), (3, .int l3_x20), (0, .ref (hN 0)), (1, .int p1)]) hx hb dX2_measure_274 hl (k := 0) rfl (iI_add2 (iI_of _) (by decide : (1 : Int32) = iI 1)) (by decide) rfl (fun ls hl => ?_)
                  refine lv_goto (tgt := 35) hx hb dX2_measure_277 (by decide) ?_
                  have hl := lv_sub hl [0, 1, 2, 3, 4] (l' := [(4, .int (iI (l4_x35.toInt + 1))), (2, .int l2_j124), (3, .int l3_x20), (0, .ref (hN 0)), (1, .int p1)]) rfl
                  exact ihx35 fN_before_j124 fN_length_j124 (iI (l4_x35.toInt + 1)) l2_j124 _ _ _ b_fN_before_j124 (iI_rng (by omega) (by omega) (by decide) (by decide)) (by have e9 : ((iI (l4_x35.toInt + 1))).toInt = (l4_x35.toInt + 1) := (iI_t (by omega) (by omega)); omega) hP hD hS hl
    · rintro H locs ls stk ⟨rfl, hP, hD, hS, hl⟩
      refine W.widen (k := 0) (n := 0) (by decide +kernel) (by decide +kernel) ?_
      exact W.vret hx hb hr (fun t9_ ht hW => ⟨⟨(fN_before_x20, fN_length_x20), rfl, b_fN_before_x20, by rw [ht]; exact hP, hD⟩, hS.F ht⟩) hS.2.2 dX2_measure_286
theorem dX2_push_0 : decode cX2_push 0 = .ok (.iload_n 3, 1) := by decide +kernel
theorem dX2_push_1 : decode cX2_push 1 = .ok (.istore 4, 2) := by decide +kernel
theorem dX2_push_3 : decode cX2_push 3 = .ok (.iload_n 2, 1) := by decide +kernel
theorem dX2_push_4 : decode cX2_push 4 = .ok (.istore 5, 2) := by decide +kernel
theorem dX2_push_6 : decode cX2_push 6 = .ok (.iconst 0, 1) := by decide +kernel
theorem dX2_push_7 : decode cX2_push 7 = .ok (.istore 6, 2) := by decide +kernel
theorem dX2_push_9 : decode cX2_push 9 = .ok (.iload 6, 2) := by decide +kernel
theorem dX2_push_11 : decode cX2_push 11 = .ok (.bipush 12, 2) := by decide +kernel
theorem dX2_push_13 : decode cX2_push 13 = .ok (.if_icmp .ge 95, 3) := by decide +kernel
theorem dX2_push_16 : decode cX2_push 16 = .ok (.iload 5, 2) := by decide +kernel
theorem dX2_push_18 : decode cX2_push 18 = .ok (.iload_n 1, 1) := by decide +kernel
theorem dX2_push_19 : decode cX2_push 19 = .ok (.if_icmp .eq 89, 3) := by decide +kernel
theorem dX2_push_22 : decode cX2_push 22 = .ok (.aload_n 0, 1) := by decide +kernel
theorem dX2_push_23 : decode cX2_push 23 = .ok (.getfield 27, 3) := by decide +kernel
theorem dX2_push_26 : decode cX2_push 26 = .ok (.iload 5, 2) := by decide +kernel
theorem dX2_push_28 : decode cX2_push 28 = .ok (.iaload, 1) := by decide +kernel
theorem dX2_push_29 : decode cX2_push 29 = .ok (.istore 7, 2) := by decide +kernel
theorem dX2_push_31 : decode cX2_push 31 = .ok (.iload 4, 2) := by decide +kernel
theorem dX2_push_33 : decode cX2_push 33 = .ok (.iload 7, 2) := by decide +kernel
theorem dX2_push_35 : decode cX2_push 35 = .ok (.bipush 40, 2) := by decide +kernel
theorem dX2_push_37 : decode cX2_push 37 = .ok (.if_icmp .ge 21, 3) := by decide +kernel
theorem dX2_push_40 : decode cX2_push 40 = .ok (.aload_n 0, 1) := by decide +kernel
theorem dX2_push_41 : decode cX2_push 41 = .ok (.getfield 18, 3) := by decide +kernel
theorem dX2_push_44 : decode cX2_push 44 = .ok (.iload 7, 2) := by decide +kernel
theorem dX2_push_46 : decode cX2_push 46 = .ok (.iaload, 1) := by decide +kernel
theorem dX2_push_47 : decode cX2_push 47 = .ok (.aload_n 0, 1) := by decide +kernel
theorem dX2_push_48 : decode cX2_push 48 = .ok (.getfield 30, 3) := by decide +kernel
theorem dX2_push_51 : decode cX2_push 51 = .ok (.iload 7, 2) := by decide +kernel
theorem dX2_push_53 : decode cX2_push 53 = .ok (.iaload, 1) := by decide +kernel
theorem dX2_push_54 : decode cX2_push 54 = .ok (.isub, 1) := by decide +kernel
theorem dX2_push_55 : decode cX2_push 55 = .ok (.goto 13, 3) := by decide +kernel
theorem dX2_push_58 : decode cX2_push 58 = .ok (.aload_n 0, 1) := by decide +kernel
theorem dX2_push_59 : decode cX2_push 59 = .ok (.getfield 30, 3) := by decide +kernel
theorem dX2_push_62 : decode cX2_push 62 = .ok (.iload 7, 2) := by decide +kernel
theorem dX2_push_64 : decode cX2_push 64 = .ok (.bipush 40, 2) := by decide +kernel
theorem dX2_push_66 : decode cX2_push 66 = .ok (.isub, 1) := by decide +kernel
theorem dX2_push_67 : decode cX2_push 67 = .ok (.iaload, 1) := by decide +kernel
theorem dX2_push_68 : decode cX2_push 68 = .ok (.invokestatic 61, 3) := by decide +kernel
theorem dX2_push_71 : decode cX2_push 71 = .ok (.istore 4, 2) := by decide +kernel
theorem dX2_push_73 : decode cX2_push 73 = .ok (.iload 7, 2) := by decide +kernel
theorem dX2_push_75 : decode cX2_push 75 = .ok (.bipush 40, 2) := by decide +kernel
theorem dX2_push_77 : decode cX2_push 77 = .ok (.if_icmp .ge 13, 3) := by decide +kernel
theorem dX2_push_80 : decode cX2_push 80 = .ok (.aload_n 0, 1) := by decide +kernel
theorem dX2_push_81 : decode cX2_push 81 = .ok (.getfield 11, 3) := by decide +kernel
theorem dX2_push_84 : decode cX2_push 84 = .ok (.iload 7, 2) := by decide +kernel
theorem dX2_push_86 : decode cX2_push 86 = .ok (.iaload, 1) := by decide +kernel
theorem dX2_push_87 : decode cX2_push 87 = .ok (.goto 13, 3) := by decide +kernel
theorem dX2_push_90 : decode cX2_push 90 = .ok (.aload_n 0, 1) := by decide +kernel
theorem dX2_push_91 : decode cX2_push 91 = .ok (.getfield 15, 3) := by decide +kernel
theorem dX2_push_94 : decode cX2_push 94 = .ok (.iload 7, 2) := by decide +kernel
theorem dX2_push_96 : decode cX2_push 96 = .ok (.bipush 40, 2) := by decide +kernel
theorem dX2_push_98 : decode cX2_push 98 = .ok (.isub, 1) := by decide +kernel
theorem dX2_push_99 : decode cX2_push 99 = .ok (.iaload, 1) := by decide +kernel
theorem dX2_push_100 : decode cX2_push 100 = .ok (.istore 5, 2) := by decide +kernel
theorem dX2_push_102 : decode cX2_push 102 = .ok (.iinc 6 1, 3) := by decide +kernel
theorem dX2_push_105 : decode cX2_push 105 = .ok (.goto (-96), 3) := by decide +kernel
theorem dX2_push_108 : decode cX2_push 108 = .ok (.iload_n 2, 1) := by decide +kernel
theorem dX2_push_109 : decode cX2_push 109 = .ok (.istore 5, 2) := by decide +kernel
theorem dX2_push_111 : decode cX2_push 111 = .ok (.iconst 0, 1) := by decide +kernel
theorem dX2_push_112 : decode cX2_push 112 = .ok (.istore 6, 2) := by decide +kernel
theorem dX2_push_114 : decode cX2_push 114 = .ok (.iload 6, 2) := by decide +kernel
theorem dX2_push_116 : decode cX2_push 116 = .ok (.bipush 12, 2) := by decide +kernel
theorem dX2_push_118 : decode cX2_push 118 = .ok (.if_icmp .ge 82, 3) := by decide +kernel
theorem dX2_push_121 : decode cX2_push 121 = .ok (.iload 5, 2) := by decide +kernel
theorem dX2_push_123 : decode cX2_push 123 = .ok (.iload_n 1, 1) := by decide +kernel
theorem dX2_push_124 : decode cX2_push 124 = .ok (.if_icmp .eq 76, 3) := by decide +kernel
theorem dX2_push_127 : decode cX2_push 127 = .ok (.aload_n 0, 1) := by decide +kernel
theorem dX2_push_128 : decode cX2_push 128 = .ok (.getfield 27, 3) := by decide +kernel
theorem dX2_push_131 : decode cX2_push 131 = .ok (.iload 5, 2) := by decide +kernel
theorem dX2_push_133 : decode cX2_push 133 = .ok (.iaload, 1) := by decide +kernel
theorem dX2_push_134 : decode cX2_push 134 = .ok (.istore 7, 2) := by decide +kernel
theorem dX2_push_136 : decode cX2_push 136 = .ok (.iload 7, 2) := by decide +kernel
theorem dX2_push_138 : decode cX2_push 138 = .ok (.bipush 40, 2) := by decide +kernel
theorem dX2_push_140 : decode cX2_push 140 = .ok (.if_icmp .ge 27, 3) := by decide +kernel
theorem dX2_push_143 : decode cX2_push 143 = .ok (.aload_n 0, 1) := by decide +kernel
theorem dX2_push_144 : decode cX2_push 144 = .ok (.getfield 30, 3) := by decide +kernel
theorem dX2_push_147 : decode cX2_push 147 = .ok (.iload 7, 2) := by decide +kernel
theorem dX2_push_149 : decode cX2_push 149 = .ok (.dup2, 1) := by decide +kernel
theorem dX2_push_150 : decode cX2_push 150 = .ok (.iaload, 1) := by decide +kernel
theorem dX2_push_151 : decode cX2_push 151 = .ok (.iload 4, 2) := by decide +kernel
theorem dX2_push_153 : decode cX2_push 153 = .ok (.iadd, 1) := by decide +kernel
theorem dX2_push_154 : decode cX2_push 154 = .ok (.iastore, 1) := by decide +kernel
theorem dX2_push_155 : decode cX2_push 155 = .ok (.aload_n 0, 1) := by decide +kernel
theorem dX2_push_156 : decode cX2_push 156 = .ok (.getfield 11, 3) := by decide +kernel
theorem dX2_push_159 : decode cX2_push 159 = .ok (.iload 7, 2) := by decide +kernel
theorem dX2_push_161 : decode cX2_push 161 = .ok (.iaload, 1) := by decide +kernel
theorem dX2_push_162 : decode cX2_push 162 = .ok (.istore 5, 2) := by decide +kernel
theorem dX2_push_164 : decode cX2_push 164 = .ok (.goto 30, 3) := by decide +kernel
theorem dX2_push_167 : decode cX2_push 167 = .ok (.aload_n 0, 1) := by decide +kernel
theorem dX2_push_168 : decode cX2_push 168 = .ok (.getfield 30, 3) := by decide +kernel
theorem dX2_push_171 : decode cX2_push 171 = .ok (.iload 7, 2) := by decide +kernel
theorem dX2_push_173 : decode cX2_push 173 = .ok (.bipush 40, 2) := by decide +kernel
theorem dX2_push_175 : decode cX2_push 175 = .ok (.isub, 1) := by decide +kernel
theorem dX2_push_176 : decode cX2_push 176 = .ok (.dup2, 1) := by decide +kernel
theorem dX2_push_177 : decode cX2_push 177 = .ok (.iaload, 1) := by decide +kernel
theorem dX2_push_178 : decode cX2_push 178 = .ok (.iload 4, 2) := by decide +kernel
theorem dX2_push_180 : decode cX2_push 180 = .ok (.isub, 1) := by decide +kernel
theorem dX2_push_181 : decode cX2_push 181 = .ok (.iastore, 1) := by decide +kernel
theorem dX2_push_182 : decode cX2_push 182 = .ok (.aload_n 0, 1) := by decide +kernel
theorem dX2_push_183 : decode cX2_push 183 = .ok (.getfield 15, 3) := by decide +kernel
theorem dX2_push_186 : decode cX2_push 186 = .ok (.iload 7, 2) := by decide +kernel
theorem dX2_push_188 : decode cX2_push 188 = .ok (.bipush 40, 2) := by decide +kernel
theorem dX2_push_190 : decode cX2_push 190 = .ok (.isub, 1) := by decide +kernel
theorem dX2_push_191 : decode cX2_push 191 = .ok (.iaload, 1) := by decide +kernel
theorem dX2_push_192 : decode cX2_push 192 = .ok (.istore 5, 2) := by decide +kernel
theorem dX2_push_194 : decode cX2_push 194 = .ok (.iinc 6 1, 3) := by decide +kernel
theorem dX2_push_197 : decode cX2_push 197 = .ok (.goto (-83), 3) := by decide +kernel
theorem dX2_push_200 : decode cX2_push 200 = .ok (.iload 4, 2) := by decide +kernel
theorem dX2_push_202 : decode cX2_push 202 = .ok (.ireturn, 1) := by decide +kernel
def wsMX2_push : List Cond := .code yX2_push cX2_push 8 (some .int) :: ([.fieldLink RX2 27 "OptimaWorks$NetDesk" "before" "[I", .fieldLink RX2 30 "OptimaWorks$NetDesk" "flow" "[I", .fieldLink RX2 18 "OptimaWorks$NetDesk" "room" "[I", .methodLink RX2 61 Lib.Math.min.name, .static Lib.Math.min.name, .initialized "java/lang/Math", .code Lib.Math.min.name Lib.Math.min.code 2 (some .int), .fieldLink RX2 15 "OptimaWorks$NetDesk" "to" "[I", .fieldLink RX2 11 "OptimaWorks$NetDesk" "from" "[I"] ++ wsX20)
theorem iwsMX2_push_in2 : ∀ w ∈ wsX20, w ∈ wsMX2_push := fun _ h => List.mem_cons_of_mem _ (List.mem_append_right _ h)
theorem gdwsMX2_push : wsMX2_push.all goodWord = true := gdC rfl (gdA (by decide +kernel : ([.fieldLink RX2 27 "OptimaWorks$NetDesk" "before" "[I", .fieldLink RX2 30 "OptimaWorks$NetDesk" "flow" "[I", .fieldLink RX2 18 "OptimaWorks$NetDesk" "room" "[I", .methodLink RX2 61 Lib.Math.min.name, .static Lib.Math.min.name, .initialized "java/lang/Math", .code Lib.Math.min.name Lib.Math.min.code 2 (some .int), .fieldLink RX2 15 "OptimaWorks$NetDesk" "to" "[I", .fieldLink RX2 11 "OptimaWorks$NetDesk" "from" "[I"] : List Cond).all goodWord = true) gdwsX20)
set_option maxHeartbeats 4000000 in
set_option maxRecDepth 100000 in
/-- a flow along the way -/
theorem m_X2_push (l : Launch) (dC : Nat → ClassId) (dI : Nat → Nat → Nat) (hN : Nat → Nat) (aN : Nat → Nat) (kN : Nat → ClassId) (iN_arcs : Int32) (fN_from : Nat → Int32) (fN_to : Nat → Int32) (fN_room : Nat → Int32) (fN_cost : Nat → Int32) (iN_reached : Int32) (fN_free : Nat → Int32) (fN_before : Nat → Int32) (fN_flow : Nat → Int32) (fN_length : Nat → Int32) (fN_stop : Nat → Int32) (iN_stops : Int32) (fN_price : Nat → Int32) (fN_rest : Nat → Int32) (p1 : Int32) (p2 : Int32) (p3 : Int32) (b_iN_arcs : 0 ≤ iN_arcs.toInt ∧ iN_arcs.toInt ≤ 40) (b_fN_from : ∀ q : Nat, 0 ≤ (fN_from q).toInt ∧ (fN_from q).toInt ≤ 11) (b_fN_to : ∀ q : Nat, 0 ≤ (fN_to q).toInt ∧ (fN_to q).toInt ≤ 11) (b_fN_before : ∀ q : Nat, 0 ≤ (fN_before q).toInt ∧ (fN_before q).toInt ≤ 79) (b_fN_stop : ∀ q : Nat, 0 ≤ (fN_stop q).toInt ∧ (fN_stop q).toInt ≤ 11) (b_iN_stops : 0 ≤ iN_stops.toInt ∧ iN_stops.toInt ≤ 8) (b_p1 : 0 ≤ p1.toInt ∧ p1.toInt ≤ 11) (b_p2 : 0 ≤ p2.toInt ∧ p2.toInt ≤ 11) (sz : Nat) : Met l yX2_push wsMX2_push ({ frames := 1, cells := 0, slots := 0, locals := 13 }) (va_Pc [.ref (hN 0), .int p1, .int p2, .int p3] (fun U => U.heap.size = sz ∧ va_P (dC, dI) vwCl (WN hN aN kN iN_arcs fN_from fN_to fN_room fN_cost iN_reached fN_free fN_before fN_flow fN_length fN_stop iN_stops fN_price fN_rest) U.heap ∧ va_K (dC, dI) vwCl (tN kN) U ∧ va_D (fun _ => True) (WN hN aN kN iN_arcs fN_from fN_to fN_room fN_cost iN_reached fN_free fN_before fN_flow fN_length fN_stop iN_stops fN_price fN_rest))) (va_Qi (fun (r : Int32) (u : Nat → Int32) => True) (fun (u : Nat → Int32) t => va_P (dC, dI) vwCl (WN hN aN kN iN_arcs fN_from fN_to fN_room fN_cost iN_reached fN_free fN_before u fN_length fN_stop iN_stops fN_price fN_rest) t.heap ∧ va_D (va_A (WN hN aN kN iN_arcs fN_from fN_to fN_room fN_cost iN_reached fN_free fN_before fN_flow fN_length fN_stop iN_stops fN_price fN_rest) sz) (WN hN aN kN iN_arcs fN_from fN_to fN_room fN_cost iN_reached fN_free fN_before u fN_length fN_stop iN_stops fN_price fN_rest)) (va_A (WN hN aN kN iN_arcs fN_from fN_to fN_room fN_cost iN_reached fN_free fN_before fN_flow fN_length fN_stop iN_stops fN_price fN_rest) sz)) 0 0 (va_A (WN hN aN kN iN_arcs fN_from fN_to fN_room fN_cost iN_reached fN_free fN_before fN_flow fN_length fN_stop iN_stops fN_price fN_rest) sz) := by
  refine Met.ofW (cc := cX2_push) (maxL := 8) (ret := (some .int)) (by decide) rfl ?_
  intro p e s m args below meth c s₁ B hml hv
  obtain ⟨rfl, hsz, hP, hK, hD0⟩ := hv
  have hx := B.exec
  have hb := B.bytes
  have hr := B.returns
  have hts := atoms_spec (ws := wsMX2_push) B.pre
  have hown : s.vm.findClass RX2 = some m.cls := findClass_of_methodNamed B.named
  have hlocks := B.notSynchronized
  subst hsz
  have hD := hD0.self (sz := s.heap.size)
  generalize hAe : va_A (WN hN aN kN iN_arcs fN_from fN_to fN_room fN_cost iN_reached fN_free fN_before fN_flow fN_length fN_stop iN_stops fN_price fN_rest) s.heap.size = A at hD ⊢
  have hA : ∀ q : Nat, s.heap.size ≤ q → A q := fun q h => by rw [← hAe]; exact Or.inr h
  have hS : va_S A s.heap s.heap [] := va_S.rf
  have hl := lv_entry ([.ref (hN 0), .int p1, .int p2, .int p3]) (n := 8) (Nat.le_of_ble_eq_true rfl)
  rw [lg_entry_eq]
  generalize (lg_sl ([.ref (hN 0), .int p1, .int p2, .int p3]) ++ List.replicate (8 - (lg_sl ([.ref (hN 0), .int p1, .int p2, .int p3])).length) Slot.unset).toArray = ls at hl ⊢
  have hl : lv_has ls 8 [(0, .ref (hN 0)), (1, .int p1), (2, .int p2), (3, .int p3)] := hl
  refine lv_iload_n hx hb dX2_push_0 rfl (lv_at hl 3 rfl) ?_
  refine lv_istore (lv' := [(4, .int p3), (0, .ref (hN 0)), (1, .int p1), (2, .int p2), (3, .int p3)]) hx hb dX2_push_1 hl (by decide) rfl (fun ls hl => ?_)
  refine lv_iload_n hx hb dX2_push_3 rfl (lv_at hl 3 rfl) ?_
  refine lv_istore (lv' := [(5, .int p2), (4, .int p3), (0, .ref (hN 0)), (1, .int p1), (2, .int p2), (3, .int p3)]) hx hb dX2_push_4 hl (by decide) rfl (fun ls hl => ?_)
  refine lv_iconst (v := 0) hx hb dX2_push_6 (by decide) ?_
  refine lv_istore (lv' := [(6, .int 0), (5, .int p2), (4, .int p3), (0, .ref (hN 0)), (1, .int p1), (2, .int p2), (3, .int p3)]) hx hb dX2_push_7 hl (by decide) rfl (fun ls hl => ?_)
  have hl := lv_sub hl [0, 1, 2, 3, 4, 5, 6] (l' := [(6, .int 0), (5, .int p2), (4, .int p3), (0, .ref (hN 0)), (1, .int p1), (2, .int p2), (3, .int p3)]) rfl
  refine (fun (loop : ∀ (n9 : Nat) (l6_x9 : Int32) (l5_x9 : Int32) (l4_x9 : Int32) (H : Heap) (locs : List Loc) (ls : Array Slot), (0 ≤ l6_x9.toInt ∧ l6_x9.toInt ≤ 12) → (0 ≤ l5_x9.toInt ∧ l5_x9.toInt ≤ 11) → (12 - l6_x9.toInt < ((n9 : Nat) : Int)) → va_P (dC, dI) vwCl (WN hN aN kN iN_arcs fN_from fN_to fN_room fN_cost iN_reached fN_free fN_before fN_flow fN_length fN_stop iN_stops fN_price fN_rest) H → va_D A (WN hN aN kN iN_arcs fN_from fN_to fN_room fN_cost iN_reached fN_free fN_before fN_flow fN_length fN_stop iN_stops fN_price fN_rest) → va_S A s.heap H locs → lv_has ls 8 [(6, .int l6_x9), (5, .int l5_x9), (4, .int l4_x9), (0, .ref (hN 0)), (1, .int p1), (2, .int p2), (3, .int p3)] → W p l e _ s m _ below meth c H locs 0 0 _ (F0 m 9 ls [])) => loop (13) 0 p2 p3 _ _ _ (show 0 ≤ (0 : Int32).toInt ∧ (0 : Int32).toInt ≤ 12 from by decide) (by first | assumption | exact ⟨by omega, by omega⟩) ((by have e9 : (0 : Int32).toInt = 0 := (by decide : (0 : Int32).toInt = 0); omega)) hP hD hS hl) ?_
  intro n9
  induction n9 with
  | zero => intro l6_x9 l5_x9 l4_x9 H locs ls b_l6_x9 b_l5_x9 hf9; exact False.elim (by omega)
  | succ n9 ihx9 =>
    intro l6_x9 l5_x9 l4_x9 H locs ls b_l6_x9 b_l5_x9 hfx9 hP hD hS hl
    refine lv_iload hx hb dX2_push_9 (lv_at hl 0 rfl) ?_
    refine lv_bipush (v := 12) hx hb dX2_push_11 (by decide) ?_
    refine W.cut (pc := 108) (fun H locs ls stk =>  stk = [] ∧ va_P (dC, dI) vwCl (WN hN aN kN iN_arcs fN_from fN_to fN_room fN_cost iN_reached fN_free fN_before fN_flow fN_length fN_stop iN_stops fN_price fN_rest) H ∧ va_D A (WN hN aN kN iN_arcs fN_from fN_to fN_room fN_cost iN_reached fN_free fN_before fN_flow fN_length fN_stop iN_stops fN_price fN_rest) ∧ va_S A s.heap H locs ∧ lv_has ls 8 [(6, .int l6_x9), (5, .int l5_x9), (4, .int l4_x9), (0, .ref (hN 0)), (1, .int p1), (2, .int p2), (3, .int p3)]) (fun join66 => ?_) ?_
    · refine lv_icmp_ge (tgt := 108) hx hb dX2_push_13 (by decide) (fun c_13 => ?_) (fun c_13 => ?_)
      · have t_13 : l6_x9.toInt ≥ 12 := toI_ge c_13 rfl (by decide : (12 : Int32).toInt = 12)
        have hl := lv_sub hl [0, 1, 2, 3, 4, 5, 6] (l' := [(6, .int l6_x9), (5, .int l5_x9), (4, .int l4_x9), (0, .ref (hN 0)), (1, .int p1), (2, .int p2), (3, .int p3)]) rfl
        exact join66 _ _ _ _ ⟨rfl, hP, hD, hS, hl⟩
      · have t_13 : ¬ l6_x9.toInt ≥ 12 := toI_nge c_13 rfl (by decide : (12 : Int32).toInt = 12)
        refine lv_iload hx hb dX2_push_16 (lv_at hl 1 rfl) ?_
        refine lv_iload_n hx hb dX2_push_18 rfl (lv_at hl 4 rfl) ?_
        refine lv_icmp_eq (tgt := 108) hx hb dX2_push_19 (by decide) (fun c_19 => ?_) (fun c_19 => ?_)
        · have t_19 : l5_x9.toInt = p1.toInt := toI_eq c_19 rfl rfl
          have hl := lv_sub hl [0, 1, 2, 3, 4, 5, 6] (l' := [(6, .int l6_x9), (5, .int l5_x9), (4, .int l4_x9), (0, .ref (hN 0)), (1, .int p1), (2, .int p2), (3, .int p3)]) rfl
          exact join66 _ _ _ _ ⟨rfl, hP, hD, hS, hl⟩
        · have t_19 : ¬ l5_x9.toInt = p1.toInt := toI_neq c_19 rfl rfl
          refine lv_aload_n hx hb dX2_push_22 rfl (lv_at hl 3 rfl) ?_
          refine va_get (D := (dC, dI)) (ci := 2) (v := .ref (aN 5)) (C := RX2) (T := TX2) (N := 14) hx hb hts iwsMX2_push_in2 hown hK hP 0 rfl rfl 7 (by decide) (hts (.fieldLink RX2 27 "OptimaWorks$NetDesk" "before" "[I") (by decide +kernel)) (fun _ h9 => h9) rfl dX2_push_23 ?_
          refine lv_iload hx hb dX2_push_26 (lv_at hl 1 rfl) ?_
          refine va_iald (cA := kN 5) (n := 12) (f := fN_before) hx hb hK hP 6 5 rfl rfl (vp_in_iff.mpr ⟨by omega, by omega⟩) dX2_push_28 ?_
          refine lv_topi (fun v343 hv343 => ?_)
          have b_v343 : 0 ≤ v343.toInt ∧ v343.toInt ≤ 79 := by rw [hv343]; exact b_fN_before _
          clear hv343
          refine lv_istore (lv' := [(7, .int v343), (6, .int l6_x9), (5, .int l5_x9), (4, .int l4_x9), (0, .ref (hN 0)), (1, .int p1), (2, .int p2), (3, .int p3)]) hx hb dX2_push_29 hl (by decide) rfl (fun ls hl => ?_)
          refine lv_iload hx hb dX2_push_31 (lv_at hl 3 rfl) ?_
          refine lv_iload hx hb dX2_push_33 (lv_at hl 0 rfl) ?_
          refine lv_bipush (v := 40) hx hb dX2_push_35 (by decide) ?_
          refine W.cut (pc := 68) (fun H locs ls stk => ∃ (k0_j67 : Int32),  stk = [.int k0_j67, .int l4_x9] ∧ va_P (dC, dI) vwCl (WN hN aN kN iN_arcs fN_from fN_to fN_room fN_cost iN_reached fN_free fN_before fN_flow fN_length fN_stop iN_stops fN_price fN_rest) H ∧ va_D A (WN hN aN kN iN_arcs fN_from fN_to fN_room fN_cost iN_reached fN_free fN_before fN_flow fN_length fN_stop iN_stops fN_price fN_rest) ∧ va_S A s.heap H locs ∧ lv_has ls 8 [(7, .int v343), (6, .int l6_x9), (5, .int l5_x9), (4, .int l4_x9), (0, .ref (hN 0)), (1, .int p1), (2, .int p2), (3, .int p3)]) (fun join67 => ?_) ?_
          · refine lv_icmp_ge (tgt := 58) hx hb dX2_push_37 (by decide) (fun c_37 => ?_) (fun c_37 => ?_)
            · have t_37 : v343.toInt ≥ 40 := toI_ge c_37 rfl (by decide : (40 : Int32).toInt = 40)
              refine lv_aload_n hx hb dX2_push_58 rfl (lv_at hl 4 rfl) ?_
              refine va_get (D := (dC, dI)) (ci := 2) (v := .ref (aN 6)) (C := RX2) (T := TX2) (N := 14) hx hb hts iwsMX2_push_in2 hown hK hP 0 rfl rfl 8 (by decide) (hts (.fieldLink RX2 30 "OptimaWorks$NetDesk" "flow" "[I") (by decide +kernel)) (fun _ h9 => h9) rfl dX2_push_59 ?_
              refine lv_iload hx hb dX2_push_62 (lv_at hl 0 rfl) ?_
              refine lv_bipush (v := 40) hx hb dX2_push_64 (by decide) ?_
              refine lv_isub hx hb dX2_push_66 ?_
              refine lv_topi (fun y349 hy349 => ?_)
              obtain rfl : (iI (v343.toInt - 40)) = y349 := (hy349.trans (iI_sub2 (iI_of _) (by decide : (40 : Int32) = iI 40))).symm
              refine va_iald (cA := kN 6) (n := 40) (f := fN_flow) hx hb hK hP 7 6 rfl rfl (vp_iI (by omega) (by omega) (by omega)) dX2_push_67 ?_
              refine lv_topi (fun v350 hv350 => ?_)
              clear hv350
              have hl := lv_sub hl [0, 1, 2, 3, 4, 5, 6, 7] (l' := [(7, .int v343), (6, .int l6_x9), (5, .int l5_x9), (4, .int l4_x9), (0, .ref (hN 0)), (1, .int p1), (2, .int p2), (3, .int p3)]) rfl
              exact join67 _ _ _ _ ⟨v350, rfl, hP, hD, hS, hl⟩
            · have t_37 : ¬ v343.toInt ≥ 40 := toI_nge c_37 rfl (by decide : (40 : Int32).toInt = 40)
              refine lv_aload_n hx hb dX2_push_40 rfl (lv_at hl 4 rfl) ?_
              refine va_get (D := (dC, dI)) (ci := 2) (v := .ref (aN 2)) (C := RX2) (T := TX2) (N := 14) hx hb hts iwsMX2_push_in2 hown hK hP 0 rfl rfl 3 (by decide) (hts (.fieldLink RX2 18 "OptimaWorks$NetDesk" "room" "[I") (by decide +kernel)) (fun _ h9 => h9) rfl dX2_push_41 ?_
              refine lv_iload hx hb dX2_push_44 (lv_at hl 0 rfl) ?_
              refine va_iald (cA := kN 2) (n := 40) (f := fN_room) hx hb hK hP 3 2 rfl rfl (vp_in_iff.mpr ⟨by omega, by omega⟩) dX2_push_46 ?_
              refine lv_topi (fun v351 hv351 => ?_)
              clear hv351
              refine lv_aload_n hx hb dX2_push_47 rfl (lv_at hl 4 rfl) ?_
              refine va_get (D := (dC, dI)) (ci := 2) (v := .ref (aN 6)) (C := RX2) (T := TX2) (N := 14) hx hb hts iwsMX2_push_in2 hown hK hP 0 rfl rfl 8 (by decide) (hts (.fieldLink RX2 30 "OptimaWorks$NetDesk" "flow" "[I") (by decide +kernel)) (fun _ h9 => h9) rfl dX2_push_48 ?_
              refine lv_iload hx hb dX2_push_51 (lv_at hl 0 rfl) ?_
              refine va_iald (cA := kN 6) (n := 40) (f := fN_flow) hx hb hK hP 7 6 rfl rfl (vp_in_iff.mpr ⟨by omega, by omega⟩) dX2_push_53 ?_
              refine lv_topi (fun v352 hv352 => ?_)
              clear hv352
              refine lv_isub hx hb dX2_push_54 ?_
              refine lv_topi (fun y353 hy353 => ?_)
              obtain rfl : (iI (v351.toInt - v352.toInt)) = y353 := (hy353.trans (iI_sub2 (iI_of _) (iI_of _))).symm
              refine lv_goto (tgt := 68) hx hb dX2_push_55 (by decide) ?_
              have hl := lv_sub hl [0, 1, 2, 3, 4, 5, 6, 7] (l' := [(7, .int v343), (6, .int l6_x9), (5, .int l5_x9), (4, .int l4_x9), (0, .ref (hN 0)), (1, .int p1), (2, .int p2), (3, .int p3)]) rfl
              exact join67 _ _ _ _ ⟨(iI (v351.toInt - v352.toInt)), rfl, hP, hD, hS, hl⟩
          · rintro H locs ls stk ⟨k0_j67, rfl, hP, hD, hS, hl⟩
            refine va_mmin hx hb (by rw [hml]; exact hl.1.symm) hown (hts (.methodLink RX2 61 Lib.Math.min.name) (by decide +kernel)) (hts (.static Lib.Math.min.name) (by decide +kernel)) (hts (.initialized "java/lang/Math") (by decide +kernel)) (hts (.code Lib.Math.min.name Lib.Math.min.code 2 (some .int)) (by decide +kernel)) (by decide +kernel) (Nat.le_of_ble_eq_true rfl) (by decide +kernel) (by decide +kernel) dX2_push_68 ?_
            refine lv_topi (fun v354 hv354 => ?_)
            have b_v354 : (v354.toInt ≤ l4_x9.toInt ∧ v354.toInt ≤ k0_j67.toInt) ∧ (v354.toInt = l4_x9.toInt ∨ v354.toInt = k0_j67.toInt) := by rw [hv354]; exact min_t rfl rfl
            clear hv354
            refine lv_istore (lv' := [(4, .int v354), (7, .int v343), (6, .int l6_x9), (5, .int l5_x9), (0, .ref (hN 0)), (1, .int p1), (2, .int p2), (3, .int p3)]) hx hb dX2_push_71 hl (by decide) rfl (fun ls hl => ?_)
            refine lv_iload hx hb dX2_push_73 (lv_at hl 1 rfl) ?_
            refine lv_bipush (v := 40) hx hb dX2_push_75 (by decide) ?_
            refine W.cut (pc := 100) (fun H locs ls stk => ∃ (k0_j68 : Int32), (0 ≤ k0_j68.toInt ∧ k0_j68.toInt ≤ 11) ∧  stk = [.int k0_j68] ∧ va_P (dC, dI) vwCl (WN hN aN kN iN_arcs fN_from fN_to fN_room fN_cost iN_reached fN_free fN_before fN_flow fN_length fN_stop iN_stops fN_price fN_rest) H ∧ va_D A (WN hN aN kN iN_arcs fN_from fN_to fN_room fN_cost iN_reached fN_free fN_before fN_flow fN_length fN_stop iN_stops fN_price fN_rest) ∧ va_S A s.heap H locs ∧ lv_has ls 8 [(4, .int v354), (7, .int v343), (6, .int l6_x9), (5, .int l5_x9), (0, .ref (hN 0)), (1, .int p1), (2, .int p2), (3, .int p3)]) (fun join68 => ?_) ?_
            · refine lv_icmp_ge (tgt := 90) hx hb dX2_push_77 (by decide) (fun c_77 => ?_) (fun c_77 => ?_)
              · have t_77 : v343.toInt ≥ 40 := toI_ge c_77 rfl (by decide : (40 : Int32).toInt = 40)
                refine lv_aload_n hx hb dX2_push_90 rfl (lv_at hl 4 rfl) ?_
                refine va_get (D := (dC, dI)) (ci := 2) (v := .ref (aN 1)) (C := RX2) (T := TX2) (N := 14) hx hb hts iwsMX2_push_in2 hown hK hP 0 rfl rfl 2 (by decide) (hts (.fieldLink RX2 15 "OptimaWorks$NetDesk" "to" "[I") (by decide +kernel)) (fun _ h9 => h9) rfl dX2_push_91 ?_
                refine lv_iload hx hb dX2_push_94 (lv_at hl 1 rfl) ?_
                refine lv_bipush (v := 40) hx hb dX2_push_96 (by decide) ?_
                refine lv_isub hx hb dX2_push_98 ?_
                refine lv_topi (fun y358 hy358 => ?_)
                obtain rfl : (iI (v343.toInt - 40)) = y358 := (hy358.trans (iI_sub2 (iI_of _) (by decide : (40 : Int32) = iI 40))).symm
                refine va_iald (cA := kN 1) (n := 40) (f := fN_to) hx hb hK hP 2 1 rfl rfl (vp_iI (by omega) (by omega) (by omega)) dX2_push_99 ?_
                refine lv_topi (fun v359 hv359 => ?_)
                have b_v359 : 0 ≤ v359.toInt ∧ v359.toInt ≤ 11 := by rw [hv359]; exact b_fN_to _
                clear hv359
                have hl := lv_sub hl [0, 1, 2, 3, 4, 5, 6, 7] (l' := [(4, .int v354), (7, .int v343), (6, .int l6_x9), (5, .int l5_x9), (0, .ref (hN 0)), (1, .int p1), (2, .int p2), (3, .int p3)]) rfl
                exact join68 _ _ _ _ ⟨v359, (by first | assumption | exact ⟨by omega, by omega⟩), rfl, hP, hD, hS, hl⟩
              · have t_77 : ¬ v343.toInt ≥ 40 := toI_nge c_77 rfl (by decide : (40 : Int32).toInt = 40)
                refine lv_aload_n hx hb dX2_push_80 rfl (lv_at hl 4 rfl) ?_
                refine va_get (D := (dC, dI)) (ci := 2) (v := .ref (aN 0)) (C := RX2) (T := TX2) (N := 14) hx hb hts iwsMX2_push_in2 hown hK hP 0 rfl rfl 1 (by decide) (hts (.fieldLink RX2 11 "OptimaWorks$NetDesk" "from" "[I") (by decide +kernel)) (fun _ h9 => h9) rfl dX2_push_81 ?_
                refine lv_iload hx hb dX2_push_84 (lv_at hl 1 rfl) ?_
                refine va_iald (cA := kN 0) (n := 40) (f := fN_from) hx hb hK hP 1 0 rfl rfl (vp_in_iff.mpr ⟨by omega, by omega⟩) dX2_push_86 ?_
                refine lv_topi (fun v360 hv360 => ?_)
                have b_v360 : 0 ≤ v360.toInt ∧ v360.toInt ≤ 11 := by rw [hv360]; exact b_fN_from _
                clear hv360
                refine lv_goto (tgt := 100) hx hb dX2_push_87 (by decide) ?_
                have hl := lv_sub hl [0, 1, 2, 3, 4, 5, 6, 7] (l' := [(4, .int v354), (7, .int v343), (6, .int l6_x9), (5, .int l5_x9), (0, .ref (hN 0)), (1, .int p1), (2, .int p2), (3, .int p3)]) rfl
                exact join68 _ _ _ _ ⟨v360, (by first | assumption | exact ⟨by omega, by omega⟩), rfl, hP, hD, hS, hl⟩
            · rintro H locs ls stk ⟨k0_j68, b_k0_j68, rfl, hP, hD, hS, hl⟩
              refine lv_istore (lv' := [(5, .int k0_j68), (4, .int v354), (7, .int v343), (6, .int l6_x9), (0, .ref (hN 0)), (1, .int p1), (2, .int p2), (3, .int p3)]) hx hb dX2_push_100 hl (by decide) rfl (fun ls hl => ?_)
              refine lv_iinc (v := (iI (l6_x9.toInt + 1))) (lv' := [(6, .int (iI (l6_x9.toInt + 1))), (5, .int k0_j68), (4, .int v354), (7, .int v343), (0, .ref (hN 0)), (1, .int p1), (2, .int p2), (3, .int p3)]) hx hb dX2_push_102 hl (k := 3) rfl (iI_add2 (iI_of _) (by decide : (1 : Int32) = iI 1)) (by decide) rfl (fun ls hl => ?_)
              refine lv_goto (tgt := 9) hx hb dX2_push_105 (by decide) ?_
              have hl := lv_sub hl [0, 1, 2, 4, 5, 6, 7] (l' := [(6, .int (iI (l6_x9.toInt + 1))), (5, .int k0_j68), (4, .int v354), (0, .ref (hN 0)), (1, .int p1), (2, .int p2), (3, .int p3)]) rfl
              exact ihx9 (iI (l6_x9.toInt + 1)) k0_j68 v354 _ _ _ (iI_rng (by omega) (by omega) (by decide) (by decide)) (by first | assumption | exact ⟨by omega, by omega⟩) (by have e9 : ((iI (l6_x9.toInt + 1))).toInt = (l6_x9.toInt + 1) := (iI_t (by omega) (by omega)); omega) hP hD hS hl
    · rintro H locs ls stk ⟨rfl, hP, hD, hS, hl⟩
      refine lv_iload_n hx hb dX2_push_108 rfl (lv_at hl 5 rfl) ?_
      refine lv_istore (lv' := [(5, .int p2), (6, .int l6_x9), (4, .int l4_x9), (0, .ref (hN 0)), (1, .int p1), (2, .int p2), (3, .int p3)]) hx hb dX2_push_109 hl (by decide) rfl (fun ls hl => ?_)
      refine lv_iconst (v := 0) hx hb dX2_push_111 (by decide) ?_
      refine lv_istore (lv' := [(6, .int 0), (5, .int p2), (4, .int l4_x9), (0, .ref (hN 0)), (1, .int p1), (2, .int p2), (3, .int p3)]) hx hb dX2_push_112 hl (by decide) rfl (fun ls hl => ?_)
      have hl := lv_sub hl [0, 1, 2, 3, 4, 5, 6] (l' := [(6, .int 0), (5, .int p2), (4, .int l4_x9), (0, .ref (hN 0)), (1, .int p1), (2, .int p2), (3, .int p3)]) rfl
      refine (fun (loop : ∀ (n9 : Nat) (fN_flow_x114 : Nat → Int32) (l6_x114 : Int32) (l5_x114 : Int32) (H : Heap) (locs : List Loc) (ls : Array Slot), (0 ≤ l6_x114.toInt ∧ l6_x114.toInt ≤ 12) → (0 ≤ l5_x114.toInt ∧ l5_x114.toInt ≤ 11) → (12 - l6_x114.toInt < ((n9 : Nat) : Int)) → va_P (dC, dI) vwCl (WN hN aN kN iN_arcs fN_from fN_to fN_room fN_cost iN_reached fN_free fN_before fN_flow_x114 fN_length fN_stop iN_stops fN_price fN_rest) H → va_D A (WN hN aN kN iN_arcs fN_from fN_to fN_room fN_cost iN_reached fN_free fN_before fN_flow_x114 fN_length fN_stop iN_stops fN_price fN_rest) → va_S A s.heap H locs → lv_has ls 8 [(6, .int l6_x114), (5, .int l5_x114), (4, .int l4_x9), (0, .ref (hN 0)), (1, .int p1), (2, .int p2), (3, .int p3)] → W p l e _ s m _ below meth c H locs 0 0 _ (F0 m 114 ls [])) => loop (13) fN_flow 0 p2 _ _ _ (show 0 ≤ (0 : Int32).toInt ∧ (0 : Int32).toInt ≤ 12 from by decide) (by first | assumption | exact ⟨by omega, by omega⟩) ((by have e9 : (0 : Int32).toInt = 0 := (by decide : (0 : Int32).toInt = 0); omega)) hP hD hS hl) ?_
      intro n9
      induction n9 with
      | zero => intro fN_flow_x114 l6_x114 l5_x114 H locs ls b_l6_x114 b_l5_x114 hf9; exact False.elim (by omega)
      | succ n9 ihx114 =>
        intro fN_flow_x114 l6_x114 l5_x114 H locs ls b_l6_x114 b_l5_x114 hfx114 hP hD hS hl
        refine lv_iload hx hb dX2_push_114 (lv_at hl 0 rfl) ?_
        refine lv_bipush (v := 12) hx hb dX2_push_116 (by decide) ?_
        refine W.cut (pc := 200) (fun H locs ls stk =>  stk = [] ∧ va_P (dC, dI) vwCl (WN hN aN kN iN_arcs fN_from fN_to fN_room fN_cost iN_reached fN_free fN_before fN_flow_x114 fN_length fN_stop iN_stops fN_price fN_rest) H ∧ va_D A (WN hN aN kN iN_arcs fN_from fN_to fN_room fN_cost iN_reached fN_free fN_before fN_flow_x114 fN_length fN_stop iN_stops fN_price fN_rest) ∧ va_S A s.heap H locs ∧ lv_has ls 8 [(6, .int l6_x114), (5, .int l5_x114), (4, .int l4_x9), (0, .ref (hN 0)), (1, .int p1), (2, .int p2), (3, .int p3)]) (fun join75 => ?_) ?_
        · refine lv_icmp_ge (tgt := 200) hx hb dX2_push_118 (by decide) (fun c_118 => ?_) (fun c_118 => ?_)
          · have t_118 : l6_x114.toInt ≥ 12 := toI_ge c_118 rfl (by decide : (12 : Int32).toInt = 12)
            have hl := lv_sub hl [0, 1, 2, 3, 4, 5, 6] (l' := [(6, .int l6_x114), (5, .int l5_x114), (4, .int l4_x9), (0, .ref (hN 0)), (1, .int p1), (2, .int p2), (3, .int p3)]) rfl
            exact join75 _ _ _ _ ⟨rfl, hP, hD, hS, hl⟩
          · have t_118 : ¬ l6_x114.toInt ≥ 12 := toI_nge c_118 rfl (by decide : (12 : Int32).toInt = 12)
            refine lv_iload hx hb dX2_push_121 (lv_at hl 1 rfl) ?_
            refine lv_iload_n hx hb dX2_push_123 rfl (lv_at hl 4 rfl) ?_
            refine lv_icmp_eq (tgt := 200) hx hb dX2_push_124 (by decide) (fun c_124 => ?_) (fun c_124 => ?_)
            · have t_124 : l5_x114.toInt = p1.toInt := toI_eq c_124 rfl rfl
              have hl := lv_sub hl [0, 1, 2, 3, 4, 5, 6] (l' := [(6, .int l6_x114), (5, .int l5_x114), (4, .int l4_x9), (0, .ref (hN 0)), (1, .int p1), (2, .int p2), (3, .int p3)]) rfl
              exact join75 _ _ _ _ ⟨rfl, hP, hD, hS, hl⟩
            · have t_124 : ¬ l5_x114.toInt = p1.toInt := toI_neq c_124 rfl rfl
              refine lv_aload_n hx hb dX2_push_127 rfl (lv_at hl 3 rfl) ?_
              refine va_get (D := (dC, dI)) (ci := 2) (v := .ref (aN 5)) (C := RX2) (T := TX2) (N := 14) hx hb hts iwsMX2_push_in2 hown hK hP 0 rfl rfl 7 (by decide) (hts (.fieldLink RX2 27 "OptimaWorks$NetDesk" "before" "[I") (by decide +kernel)) (fun _ h9 => h9) rfl dX2_push_128 ?_
              refine lv_iload hx hb dX2_push_131 (lv_at hl 1 rfl) ?_
              refine va_iald (cA := kN 5) (n := 12) (f := fN_before) hx hb hK hP 6 5 rfl rfl (vp_in_iff.mpr ⟨by omega, by omega⟩) dX2_push_133 ?_
              refine lv_topi (fun v466 hv466 => ?_)
              have b_v466 : 0 ≤ v466.toInt ∧ v466.toInt ≤ 79 := by rw [hv466]; exact b_fN_before _
              clear hv466
              refine lv_istore (lv' := [(7, .int v466), (6, .int l6_x114), (5, .int l5_x114), (4, .int l4_x9), (0, .ref (hN 0)), (1, .int p1), (2, .int p2), (3, .int p3)]) hx hb dX2_push_134 hl (by decide) rfl (fun ls hl => ?_)
              refine lv_iload hx hb dX2_push_136 (lv_at hl 0 rfl) ?_
              refine lv_bipush (v := 40) hx hb dX2_push_138 (by decide) ?_
              refine W.cut (pc := 194) (fun H locs ls stk => ∃ (fN_flow_j76 : Nat → Int32) (l5_j76 : Int32), (0 ≤ l5_j76.toInt ∧ l5_j76.toInt ≤ 11) ∧  stk = [] ∧ va_P (dC, dI) vwCl (WN hN aN kN iN_arcs fN_from fN_to fN_room fN_cost iN_reached fN_free fN_before fN_flow_j76 fN_length fN_stop iN_stops fN_price fN_rest) H ∧ va_D A (WN hN aN kN iN_arcs fN_from fN_to fN_room fN_cost iN_reached fN_free fN_before fN_flow_j76 fN_length fN_stop iN_stops fN_price fN_rest) ∧ va_S A s.heap H locs ∧ lv_has ls 8 [(7, .int v466), (6, .int l6_x114), (5, .int l5_j76), (4, .int l4_x9), (0, .ref (hN 0)), (1, .int p1), (2, .int p2), (3, .int p3)]) (fun join76 => ?_) ?_
              · refine lv_icmp_ge (tgt := 167) hx hb dX2_push_140 (by decide) (fun c_140 => ?_) (fun c_140 => ?_)
                · have t_140 : v466.toInt ≥ 40 := toI_ge c_140 rfl (by decide : (40 : Int32).toInt = 40)
                  refine lv_aload_n hx hb dX2_push_167 rfl (lv_at hl 4 rfl) ?_
                  refine va_get (D := (dC, dI)) (ci := 2) (v := .ref (aN 6)) (C := RX2) (T := TX2) (N := 14) hx hb hts iwsMX2_push_in2 hown hK hP 0 rfl rfl 8 (by decide) (hts (.fieldLink RX2 30 "OptimaWorks$NetDesk" "flow" "[I") (by decide +kernel)) (fun _ h9 => h9) rfl dX2_push_168 ?_
                  refine lv_iload hx hb dX2_push_171 (lv_at hl 0 rfl) ?_
                  refine lv_bipush (v := 40) hx hb dX2_push_173 (by decide) ?_
                  refine lv_isub hx hb dX2_push_175 ?_
                  refine lv_topi (fun y477 hy477 => ?_)
                  obtain rfl : (iI (v466.toInt - 40)) = y477 := (hy477.trans (iI_sub2 (iI_of _) (by decide : (40 : Int32) = iI 40))).symm
                  refine lv_dup2_11 hx hb dX2_push_176 rfl rfl ?_
                  refine va_iald (cA := kN 6) (n := 40) (f := fN_flow_x114) hx hb hK hP 7 6 rfl rfl (vp_iI (by omega) (by omega) (by omega)) dX2_push_177 ?_
                  refine lv_topi (fun v478 hv478 => ?_)
                  clear hv478
                  refine lv_iload hx hb dX2_push_178 (lv_at hl 3 rfl) ?_
                  refine lv_isub hx hb dX2_push_180 ?_
                  refine lv_topi (fun y479 hy479 => ?_)
                  obtain rfl : (iI (v478.toInt - l4_x9.toInt)) = y479 := (hy479.trans (iI_sub2 (iI_of _) (iI_of _))).symm
                  refine va_iast (cA := kN 6) (n := 40) (f := fN_flow_x114) hx hb hK hP hD hS 7 6 rfl rfl (vp_iI (by omega) (by omega) (by omega)) dX2_push_181 (fun H locs hP hD hS => ?_)
                  obtain ⟨u480, hu480⟩ : ∃ f9, f9 = upd fN_flow_x114 ((iI (v466.toInt - 40))).toNatClampNeg (iI (v478.toInt - l4_x9.toInt)) := ⟨_, rfl⟩
                  have hP : va_P (dC, dI) vwCl (WN hN aN kN iN_arcs fN_from fN_to fN_room fN_cost iN_reached fN_free fN_before u480 fN_length fN_stop iN_stops fN_price fN_rest) H := by rw [hu480]; exact hP
                  have hD : va_D A (WN hN aN kN iN_arcs fN_from fN_to fN_room fN_cost iN_reached fN_free fN_before u480 fN_length fN_stop iN_stops fN_price fN_rest) := by rw [hu480]; exact hD
                  clear hu480
                  refine lv_aload_n hx hb dX2_push_182 rfl (lv_at hl 4 rfl) ?_
                  refine va_get (D := (dC, dI)) (ci := 2) (v := .ref (aN 1)) (C := RX2) (T := TX2) (N := 14) hx hb hts iwsMX2_push_in2 hown hK hP 0 rfl rfl 2 (by decide) (hts (.fieldLink RX2 15 "OptimaWorks$NetDesk" "to" "[I") (by decide +kernel)) (fun _ h9 => h9) rfl dX2_push_183 ?_
                  refine lv_iload hx hb dX2_push_186 (lv_at hl 0 rfl) ?_
                  refine lv_bipush (v := 40) hx hb dX2_push_188 (by decide) ?_
                  refine lv_isub hx hb dX2_push_190 ?_
                  refine lv_topi (fun y481 hy481 => ?_)
                  obtain rfl : (iI (v466.toInt - 40)) = y481 := (hy481.trans (iI_sub2 (iI_of _) (by decide : (40 : Int32) = iI 40))).symm
                  refine va_iald (cA := kN 1) (n := 40) (f := fN_to) hx hb hK hP 2 1 rfl rfl (vp_iI (by omega) (by omega) (by omega)) dX2_push_191 ?_
                  refine lv_topi (fun v482 hv482 => ?_)
                  have b_v482 : 0 ≤ v482.toInt ∧ v482.toInt ≤ 11 := by rw [hv482]; exact b_fN_to _
                  clear hv482
                  refine lv_istore (lv' := [(5, .int v482), (7, .int v466), (6, .int l6_x114), (4, .int l4_x9), (0, .ref (hN 0)), (1, .int p1), (2, .int p2), (3, .int p3)]) hx hb dX2_push_192 hl (by decide) rfl (fun ls hl => ?_)
                  have hl := lv_sub hl [1, 2, 0, 3, 4, 5, 6, 7] (l' := [(7, .int v466), (6, .int l6_x114), (5, .int v482), (4, .int l4_x9), (0, .ref (hN 0)), (1, .int p1), (2, .int p2), (3, .int p3)]) rfl
                  exact join76 _ _ _ _ ⟨u480, v482, (by first | assumption | exact ⟨by omega, by omega⟩), rfl, hP, hD, hS, hl⟩
                · have t_140 : ¬ v466.toInt ≥ 40 := toI_nge c_140 rfl (by decide : (40 : Int32).toInt = 40)
                  refine lv_aload_n hx hb dX2_push_143 rfl (lv_at hl 4 rfl) ?_
                  refine va_get (D := (dC, dI)) (ci := 2) (v := .ref (aN 6)) (C := RX2) (T := TX2) (N := 14) hx hb hts iwsMX2_push_in2 hown hK hP 0 rfl rfl 8 (by decide) (hts (.fieldLink RX2 30 "OptimaWorks$NetDesk" "flow" "[I") (by decide +kernel)) (fun _ h9 => h9) rfl dX2_push_144 ?_
                  refine lv_iload hx hb dX2_push_147 (lv_at hl 0 rfl) ?_
                  refine lv_dup2_11 hx hb dX2_push_149 rfl rfl ?_
                  refine va_iald (cA := kN 6) (n := 40) (f := fN_flow_x114) hx hb hK hP 7 6 rfl rfl (vp_in_iff.mpr ⟨by omega, by omega⟩) dX2_push_150 ?_
                  refine lv_topi (fun v483 hv483 => ?_)
                  clear hv483
                  refine lv_iload hx hb dX2_push_151 (lv_at hl 3 rfl) ?_
                  refine lv_iadd hx hb dX2_push_153 ?_
                  refine lv_topi (fun y484 hy484 => ?_)
                  obtain rfl : (iI (v483.toInt + l4_x9.toInt)) = y484 := (hy484.trans (iI_add2 (iI_of _) (iI_of _))).symm
                  refine va_iast (cA := kN 6) (n := 40) (f := fN_flow_x114) hx hb hK hP hD hS 7 6 rfl rfl (vp_in_iff.mpr ⟨by omega, by omega⟩) dX2_push_154 (fun H locs hP hD hS => ?_)
                  obtain ⟨u485, hu485⟩ : ∃ f9, f9 = upd fN_flow_x114 (v466).toNatClampNeg (iI (v483.toInt + l4_x9.toInt)) := ⟨_, rfl⟩
                  have hP : va_P (dC, dI) vwCl (WN hN aN kN iN_arcs fN_from fN_to fN_room fN_cost iN_reached fN_free fN_before u485 fN_length fN_stop iN_stops fN_price fN_rest) H := by rw [hu485]; exact hP
                  have hD : va_D A (WN hN aN kN iN_arcs fN_from fN_to fN_room fN_cost iN_reached fN_free fN_before u485 fN_length fN_stop iN_stops fN_price fN_rest) := by rw [hu485]; exact hD
                  clear hu485
                  refine lv_aload_n hx hb dX2_push_155 rfl (lv_at hl 4 rfl) ?_
                  refine va_get (D := (dC, dI)) (ci := 2) (v := .ref (aN 0)) (C := RX2) (T := TX2) (N := 14) hx hb hts iwsMX2_push_in2 hown hK hP 0 rfl rfl 1 (by decide) (hts (.fieldLink RX2 11 "OptimaWorks$NetDesk" "from" "[I") (by decide +kernel)) (fun _ h9 => h9) rfl dX2_push_156 ?_
                  refine lv_iload hx hb dX2_push_159 (lv_at hl 0 rfl) ?_
                  refine va_iald (cA := kN 0) (n := 40) (f := fN_from) hx hb hK hP 1 0 rfl rfl (vp_in_iff.mpr ⟨by omega, by omega⟩) dX2_push_161 ?_
                  refine lv_topi (fun v486 hv486 => ?_)
                  have b_v486 : 0 ≤ v486.toInt ∧ v486.toInt ≤ 11 := by rw [hv486]; exact b_fN_from _
                  clear hv486
                  refine lv_istore (lv' := [(5, .int v486), (7, .int v466), (6, .int l6_x114), (4, .int l4_x9), (0, .ref (hN 0)), (1, .int p1), (2, .int p2), (3, .int p3)]) hx hb dX2_push_162 hl (by decide) rfl (fun ls hl => ?_)
                  refine lv_goto (tgt := 194) hx hb dX2_push_164 (by decide) ?_
                  have hl := lv_sub hl [1, 2, 0, 3, 4, 5, 6, 7] (l' := [(7, .int v466), (6, .int l6_x114), (5, .int v486), (4, .int l4_x9), (0, .ref (hN 0)), (1, .int p1), (2, .int p2), (3, .int p3)]) rfl
                  exact join76 _ _ _ _ ⟨u485, v486, (by first | assumption | exact ⟨by omega, by omega⟩), rfl, hP, hD, hS, hl⟩
              · rintro H locs ls stk ⟨fN_flow_j76, l5_j76, b_l5_j76, rfl, hP, hD, hS, hl⟩
                refine lv_iinc (v := (iI (l6_x114.toInt + 1))) (lv' := [(6, .int (iI (l6_x114.toInt + 1))), (7, .int v466), (5, .int l5_j76), (4, .int l4_x9), (0, .ref (hN 0)), (1, .int p1), (2, .int p2), (3, .int p3)]) hx hb dX2_push_194 hl (k := 1) rfl (iI_add2 (iI_of _) (by decide : (1 : Int32) = iI 1)) (by decide) rfl (fun ls hl => ?_)
                refine lv_goto (tgt := 114) hx hb dX2_push_197 (by decide) ?_
                have hl := lv_sub hl [0, 2, 3, 4, 5, 6, 7] (l' := [(6, .int (iI (l6_x114.toInt + 1))), (5, .int l5_j76), (4, .int l4_x9), (0, .ref (hN 0)), (1, .int p1), (2, .int p2), (3, .int p3)]) rfl
                exact ihx114 fN_flow_j76 (iI (l6_x114.toInt + 1)) l5_j76 _ _ _ (iI_rng (by omega) (by omega) (by decide) (by decide)) (by first | assumption | exact ⟨by omega, by omega⟩) (by have e9 : ((iI (l6_x114.toInt + 1))).toInt = (l6_x114.toInt + 1) := (iI_t (by omega) (by omega)); omega) hP hD hS hl
        · rintro H locs ls stk ⟨rfl, hP, hD, hS, hl⟩
          refine lv_iload hx hb dX2_push_200 (lv_at hl 2 rfl) ?_
          refine W.widen (k := 0) (n := 0) (by decide +kernel) (by decide +kernel) ?_
          exact W.iret (v := l4_x9) hx hb hr (fun t9_ ht hW => ⟨⟨l4_x9, fN_flow_x114, rfl, trivial, by rw [ht]; exact hP, hD⟩, hS.F ht⟩) hS.2.2 dX2_push_202

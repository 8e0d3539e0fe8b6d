def WN (hN : Nat → Nat) (aN : Nat → Nat) (kN : Nat → ClassId) (iN_arcs : Int32) (fN_from : Nat → Int32) (fN_to : Nat → Int32) (fN_room : Nat → Int32) (fN_cost : Nat → Int32) (iN_reached : Int32) (fN_free : Nat → Int32) (fN_before : Nat → Int32) (fN_flow : Nat → Int32) (fN_length : Nat → Int32) (fN_stop : Nat → Int32) (iN_stops : Int32) (fN_price : Nat → Int32) (fN_rest : Nat → Int32) : va_W := [(hN 0, .inr (2, [.int iN_arcs, .ref (aN 0), .ref (aN 1), .ref (aN 2), .ref (aN 3), .int iN_reached, .ref (aN 4), .ref (aN 5), .ref (aN 6), .ref (aN 7), .ref (aN 8), .int iN_stops, .ref (aN 9), .ref (aN 10)])), (aN 0, .inl (kN 0, 40, .inl fN_from)), (aN 1, .inl (kN 1, 40, .inl fN_to)), (aN 2, .inl (kN 2, 40, .inl fN_room)), (aN 3, .inl (kN 3, 40, .inl fN_cost)), (aN 4, .inl (kN 4, 144, .inl fN_free)), (aN 5, .inl (kN 5, 12, .inl fN_before)), (aN 6, .inl (kN 6, 40, .inl fN_flow)), (aN 7, .inl (kN 7, 12, .inl fN_length)), (aN 8, .inl (kN 8, 8, .inl fN_stop)), (aN 9, .inl (kN 9, 64, .inl fN_price)), (aN 10, .inl (kN 10, 1024, .inl fN_rest))]
def tN (kN : Nat → ClassId) : List (ClassId × FieldType) := [(kN 0, .int), (kN 1, .int), (kN 2, .int), (kN 3, .int), (kN 4, .int), (kN 5, .int), (kN 6, .int), (kN 7, .int), (kN 8, .int), (kN 9, .int), (kN 10, .int)]
theorem dX2_addArc_0 : decode cX2_addArc 0 = .ok (.aload_n 0, 1) := dk_42 (by decide +kernel)
theorem dX2_addArc_1 : decode cX2_addArc 1 = .ok (.getfield 11, 3) := dk_180 (by decide +kernel)
theorem dX2_addArc_4 : decode cX2_addArc 4 = .ok (.aload_n 0, 1) := dk_42 (by decide +kernel)
theorem dX2_addArc_5 : decode cX2_addArc 5 = .ok (.getfield 45, 3) := dk_180 (by decide +kernel)
theorem dX2_addArc_8 : decode cX2_addArc 8 = .ok (.iload_n 1, 1) := dk_27 (by decide +kernel)
theorem dX2_addArc_9 : decode cX2_addArc 9 = .ok (.iastore, 1) := dk_79 (by decide +kernel)
theorem dX2_addArc_10 : decode cX2_addArc 10 = .ok (.aload_n 0, 1) := dk_42 (by decide +kernel)
theorem dX2_addArc_11 : decode cX2_addArc 11 = .ok (.getfield 15, 3) := dk_180 (by decide +kernel)
theorem dX2_addArc_14 : decode cX2_addArc 14 = .ok (.aload_n 0, 1) := dk_42 (by decide +kernel)
theorem dX2_addArc_15 : decode cX2_addArc 15 = .ok (.getfield 45, 3) := dk_180 (by decide +kernel)
theorem dX2_addArc_18 : decode cX2_addArc 18 = .ok (.iload_n 2, 1) := dk_28 (by decide +kernel)
theorem dX2_addArc_19 : decode cX2_addArc 19 = .ok (.iastore, 1) := dk_79 (by decide +kernel)
theorem dX2_addArc_20 : decode cX2_addArc 20 = .ok (.aload_n 0, 1) := dk_42 (by decide +kernel)
theorem dX2_addArc_21 : decode cX2_addArc 21 = .ok (.getfield 18, 3) := dk_180 (by decide +kernel)
theorem dX2_addArc_24 : decode cX2_addArc 24 = .ok (.aload_n 0, 1) := dk_42 (by decide +kernel)
theorem dX2_addArc_25 : decode cX2_addArc 25 = .ok (.getfield 45, 3) := dk_180 (by decide +kernel)
theorem dX2_addArc_28 : decode cX2_addArc 28 = .ok (.iload_n 3, 1) := dk_29 (by decide +kernel)
theorem dX2_addArc_29 : decode cX2_addArc 29 = .ok (.iastore, 1) := dk_79 (by decide +kernel)
theorem dX2_addArc_30 : decode cX2_addArc 30 = .ok (.aload_n 0, 1) := dk_42 (by decide +kernel)
theorem dX2_addArc_31 : decode cX2_addArc 31 = .ok (.getfield 21, 3) := dk_180 (by decide +kernel)
theorem dX2_addArc_34 : decode cX2_addArc 34 = .ok (.aload_n 0, 1) := dk_42 (by decide +kernel)
theorem dX2_addArc_35 : decode cX2_addArc 35 = .ok (.getfield 45, 3) := dk_180 (by decide +kernel)
theorem dX2_addArc_38 : decode cX2_addArc 38 = .ok (.iload 4, 2) := dk_21 (by decide +kernel)
theorem dX2_addArc_40 : decode cX2_addArc 40 = .ok (.iastore, 1) := dk_79 (by decide +kernel)
theorem dX2_addArc_41 : decode cX2_addArc 41 = .ok (.aload_n 0, 1) := dk_42 (by decide +kernel)
theorem dX2_addArc_42 : decode cX2_addArc 42 = .ok (.dup, 1) := dk_89 (by decide +kernel)
theorem dX2_addArc_43 : decode cX2_addArc 43 = .ok (.getfield 45, 3) := dk_180 (by decide +kernel)
theorem dX2_addArc_46 : decode cX2_addArc 46 = .ok (.iconst 1, 1) := dk_4 (by decide +kernel)
theorem dX2_addArc_47 : decode cX2_addArc 47 = .ok (.iadd, 1) := dk_96 (by decide +kernel)
theorem dX2_addArc_48 : decode cX2_addArc 48 = .ok (.putfield 45, 3) := dk_181 (by decide +kernel)
theorem dX2_addArc_51 : decode cX2_addArc 51 = .ok (.aload_n 0, 1) := dk_42 (by decide +kernel)
theorem dX2_addArc_52 : decode cX2_addArc 52 = .ok (.getfield 45, 3) := dk_180 (by decide +kernel)
theorem dX2_addArc_55 : decode cX2_addArc 55 = .ok (.iconst 1, 1) := dk_4 (by decide +kernel)
theorem dX2_addArc_56 : decode cX2_addArc 56 = .ok (.isub, 1) := dk_100 (by decide +kernel)
theorem dX2_addArc_57 : decode cX2_addArc 57 = .ok (.ireturn, 1) := dk_172 (by decide +kernel)
def wsMX2_addArc : List Cond := .code yX2_addArc cX2_addArc 5 (some .int) :: ([.fieldLink RX2 11 "OptimaWorks$NetDesk" "from" "[I", .fieldLink RX2 45 "OptimaWorks$NetDesk" "arcs" "I", .fieldLink RX2 15 "OptimaWorks$NetDesk" "to" "[I", .fieldLink RX2 18 "OptimaWorks$NetDesk" "room" "[I", .fieldLink RX2 21 "OptimaWorks$NetDesk" "cost" "[I"] ++ wsX20)
theorem iwsMX2_addArc_in2 : ∀ w ∈ wsX20, w ∈ wsMX2_addArc := fun _ h => List.mem_cons_of_mem _ (List.mem_append_right _ h)
theorem gdwsMX2_addArc : wsMX2_addArc.all goodWord = true := gdC rfl (gdA (by decide +kernel : ([.fieldLink RX2 11 "OptimaWorks$NetDesk" "from" "[I", .fieldLink RX2 45 "OptimaWorks$NetDesk" "arcs" "I", .fieldLink RX2 15 "OptimaWorks$NetDesk" "to" "[I", .fieldLink RX2 18 "OptimaWorks$NetDesk" "room" "[I", .fieldLink RX2 21 "OptimaWorks$NetDesk" "cost" "[I"] : List Cond).all goodWord = true) gdwsX20)
set_option maxHeartbeats 4000000 in
set_option maxRecDepth 100000 in
/-- an arc more -/
theorem m_X2_addArc (l : Launch) (dC : Nat → ClassId) (dI : Nat → Nat → Nat) (hN : Nat → Nat) (aN : Nat → Nat) (kN : Nat → ClassId) (iN_arcs : Int32) (fN_from : Nat → Int32) (fN_to : Nat → Int32) (fN_room : Nat → Int32) (fN_cost : Nat → Int32) (iN_reached : Int32) (fN_free : Nat → Int32) (fN_before : Nat → Int32) (fN_flow : Nat → Int32) (fN_length : Nat → Int32) (fN_stop : Nat → Int32) (iN_stops : Int32) (fN_price : Nat → Int32) (fN_rest : Nat → Int32) (p1 : Int32) (p2 : Int32) (p3 : Int32) (p4 : Int32) (b_iN_arcs : 0 ≤ iN_arcs.toInt ∧ iN_arcs.toInt ≤ 40) (b_fN_from : ∀ q : Nat, 0 ≤ (fN_from q).toInt ∧ (fN_from q).toInt ≤ 11) (b_fN_to : ∀ q : Nat, 0 ≤ (fN_to q).toInt ∧ (fN_to q).toInt ≤ 11) (b_fN_before : ∀ q : Nat, 0 ≤ (fN_before q).toInt ∧ (fN_before q).toInt ≤ 79) (b_fN_stop : ∀ q : Nat, 0 ≤ (fN_stop q).toInt ∧ (fN_stop q).toInt ≤ 11) (b_iN_stops : 0 ≤ iN_stops.toInt ∧ iN_stops.toInt ≤ 8) (b_p1 : 0 ≤ p1.toInt ∧ p1.toInt ≤ 11) (b_p2 : 0 ≤ p2.toInt ∧ p2.toInt ≤ 11) (hlt : iN_arcs.toInt < 40) (sz : Nat) : Met l yX2_addArc wsMX2_addArc ({ frames := 0, cells := 0, slots := 0, locals := 0 }) (va_Pc [.ref (hN 0), .int p1, .int p2, .int p3, .int p4] (fun U => U.heap.size = sz ∧ va_P (dC, dI) vwCl (WN hN aN kN iN_arcs fN_from fN_to fN_room fN_cost iN_reached fN_free fN_before fN_flow fN_length fN_stop iN_stops fN_price fN_rest) U.heap ∧ va_K (dC, dI) vwCl (tN kN) U ∧ va_D (fun _ => True) (WN hN aN kN iN_arcs fN_from fN_to fN_room fN_cost iN_reached fN_free fN_before fN_flow fN_length fN_stop iN_stops fN_price fN_rest))) (va_Qi (fun (r : Int32) (u : (Int32) × (Nat → Int32) × (Nat → Int32) × (Nat → Int32) × (Nat → Int32)) => (0 ≤ (u.1).toInt ∧ (u.1).toInt ≤ 40) ∧ (∀ q : Nat, 0 ≤ ((u.2.1) q).toInt ∧ ((u.2.1) q).toInt ≤ 11) ∧ (∀ q : Nat, 0 ≤ ((u.2.2.1) q).toInt ∧ ((u.2.2.1) q).toInt ≤ 11) ∧ ((u.1).toInt = iN_arcs.toInt + 1) ∧ (r.toInt = iN_arcs.toInt) ∧ ((u.2.1) = upd fN_from iN_arcs.toInt.toNat p1) ∧ ((u.2.2.1) = upd fN_to iN_arcs.toInt.toNat p2) ∧ ((u.2.2.2.1) = upd fN_room iN_arcs.toInt.toNat p3) ∧ ((u.2.2.2.2) = upd fN_cost iN_arcs.toInt.toNat p4)) (fun (u : (Int32) × (Nat → Int32) × (Nat → Int32) × (Nat → Int32) × (Nat → Int32)) t => va_P (dC, dI) vwCl (WN hN aN kN (u.1) (u.2.1) (u.2.2.1) (u.2.2.2.1) (u.2.2.2.2) iN_reached fN_free fN_before fN_flow fN_length fN_stop iN_stops fN_price fN_rest) t.heap ∧ va_D (va_A (WN hN aN kN iN_arcs fN_from fN_to fN_room fN_cost iN_reached fN_free fN_before fN_flow fN_length fN_stop iN_stops fN_price fN_rest) sz) (WN hN aN kN (u.1) (u.2.1) (u.2.2.1) (u.2.2.2.1) (u.2.2.2.2) iN_reached fN_free fN_before fN_flow fN_length fN_stop iN_stops fN_price fN_rest)) (va_A (WN hN aN kN iN_arcs fN_from fN_to fN_room fN_cost iN_reached fN_free fN_before fN_flow fN_length fN_stop iN_stops fN_price fN_rest) sz)) 0 0 (va_A (WN hN aN kN iN_arcs fN_from fN_to fN_room fN_cost iN_reached fN_free fN_before fN_flow fN_length fN_stop iN_stops fN_price fN_rest) sz) := by
  refine Met.ofW (cc := cX2_addArc) (maxL := 5) (ret := (some .int)) (by decide) rfl ?_
  intro p e s m args below meth c s₁ B hml hv
  obtain ⟨rfl, hsz, hP, hK, hD0⟩ := hv
  have hx := B.exec
  have hb := B.bytes
  have hr := B.returns
  have hts := atoms_spec (ws := wsMX2_addArc) B.pre
  have hown : s.vm.findClass RX2 = some m.cls := findClass_of_methodNamed B.named
  have hlocks := B.notSynchronized
  subst hsz
  have hD := hD0.self (sz := s.heap.size)
  generalize hAe : va_A (WN hN aN kN iN_arcs fN_from fN_to fN_room fN_cost iN_reached fN_free fN_before fN_flow fN_length fN_stop iN_stops fN_price fN_rest) s.heap.size = A at hD ⊢
  have hA : ∀ q : Nat, s.heap.size ≤ q → A q := fun q h => by rw [← hAe]; exact Or.inr h
  have hS : va_S A s.heap s.heap [] := va_S.rf
  have hl := lv_entry ([.ref (hN 0), .int p1, .int p2, .int p3, .int p4]) (n := 5) (Nat.le_of_ble_eq_true rfl)
  rw [lg_entry_eq]
  generalize (lg_sl ([.ref (hN 0), .int p1, .int p2, .int p3, .int p4]) ++ List.replicate (5 - (lg_sl ([.ref (hN 0), .int p1, .int p2, .int p3, .int p4])).length) Slot.unset).toArray = ls at hl ⊢
  have hl : lv_has ls 5 [(0, .ref (hN 0)), (1, .int p1), (2, .int p2), (3, .int p3), (4, .int p4)] := hl
  refine lv_aload_n hx hb dX2_addArc_0 rfl (lv_at hl 0 rfl) ?_
  refine va_get (D := (dC, dI)) (ci := 2) (v := .ref (aN 0)) (C := RX2) (T := TX2) (N := 14) hx hb hts iwsMX2_addArc_in2 hown hK hP 0 rfl rfl 1 (by decide) (hts (.fieldLink RX2 11 "OptimaWorks$NetDesk" "from" "[I") (by decide +kernel)) (fun _ h9 => h9) rfl dX2_addArc_1 ?_
  refine lv_aload_n hx hb dX2_addArc_4 rfl (lv_at hl 0 rfl) ?_
  refine va_get (D := (dC, dI)) (ci := 2) (v := .int iN_arcs) (C := RX2) (T := TX2) (N := 14) hx hb hts iwsMX2_addArc_in2 hown hK hP 0 rfl rfl 0 (by decide) (hts (.fieldLink RX2 45 "OptimaWorks$NetDesk" "arcs" "I") (by decide +kernel)) (fun _ h9 => h9) rfl dX2_addArc_5 ?_
  refine lv_iload_n hx hb dX2_addArc_8 rfl (lv_at hl 1 rfl) ?_
  refine va_iast (cA := kN 0) (n := 40) (f := fN_from) hx hb hK hP hD hS 1 0 rfl rfl (vp_in_iff.mpr ⟨b_iN_arcs.1, (by omega)⟩) dX2_addArc_9 (fun H locs hP hD hS => ?_)
  obtain ⟨u1, hu1⟩ : ∃ f9, f9 = upd fN_from (iN_arcs).toNatClampNeg p1 := ⟨_, rfl⟩
  have hP : va_P (dC, dI) vwCl (WN hN aN kN iN_arcs u1 fN_to fN_room fN_cost iN_reached fN_free fN_before fN_flow fN_length fN_stop iN_stops fN_price fN_rest) H := by rw [hu1]; exact hP
  have hD : va_D A (WN hN aN kN iN_arcs u1 fN_to fN_room fN_cost iN_reached fN_free fN_before fN_flow fN_length fN_stop iN_stops fN_price fN_rest) := by rw [hu1]; exact hD
  have b_u1 : ∀ q : Nat, 0 ≤ (u1 q).toInt ∧ (u1 q).toInt ≤ 11 := by rw [hu1]; exact upd_r b_fN_from (b_p1)
  have b1_u1 : u1 = upd fN_from (iN_arcs).toNatClampNeg p1 := hu1
  clear hu1
  refine lv_aload_n hx hb dX2_addArc_10 rfl (lv_at hl 0 rfl) ?_
  refine va_get (D := (dC, dI)) (ci := 2) (v := .ref (aN 1)) (C := RX2) (T := TX2) (N := 14) hx hb hts iwsMX2_addArc_in2 hown hK hP 0 rfl rfl 2 (by decide) (hts (.fieldLink RX2 15 "OptimaWorks$NetDesk" "to" "[I") (by decide +kernel)) (fun _ h9 => h9) rfl dX2_addArc_11 ?_
  refine lv_aload_n hx hb dX2_addArc_14 rfl (lv_at hl 0 rfl) ?_
  refine va_get (D := (dC, dI)) (ci := 2) (v := .int iN_arcs) (C := RX2) (T := TX2) (N := 14) hx hb hts iwsMX2_addArc_in2 hown hK hP 0 rfl rfl 0 (by decide) (hts (.fieldLink RX2 45 "OptimaWorks$NetDesk" "arcs" "I") (by decide +kernel)) (fun _ h9 => h9) rfl dX2_addArc_15 ?_
  refine lv_iload_n hx hb dX2_addArc_18 rfl (lv_at hl 2 rfl) ?_
  refine va_iast (cA := kN 1) (n := 40) (f := fN_to) hx hb hK hP hD hS 2 1 rfl rfl (vp_in_iff.mpr ⟨b_iN_arcs.1, (by omega)⟩) dX2_addArc_19 (fun H locs hP hD hS => ?_)
  obtain ⟨u2, hu2⟩ : ∃ f9, f9 = upd fN_to (iN_arcs).toNatClampNeg p2 := ⟨_, rfl⟩
  have hP : va_P (dC, dI) vwCl (WN hN aN kN iN_arcs u1 u2 fN_room fN_cost iN_reached fN_free fN_before fN_flow fN_length fN_stop iN_stops fN_price fN_rest) H := by rw [hu2]; exact hP
  have hD : va_D A (WN hN aN kN iN_arcs u1 u2 fN_room fN_cost iN_reached fN_free fN_before fN_flow fN_length fN_stop iN_stops fN_price fN_rest) := by rw [hu2]; exact hD
  have b_u2 : ∀ q : Nat, 0 ≤ (u2 q).toInt ∧ (u2 q).toInt ≤ 11 := by rw [hu2]; exact upd_r b_fN_to (b_p2)
  have b1_u2 : u2 = upd fN_to (iN_arcs).toNatClampNeg p2 := hu2
  clear hu2
  refine lv_aload_n hx hb dX2_addArc_20 rfl (lv_at hl 0 rfl) ?_
  refine va_get (D := (dC, dI)) (ci := 2) (v := .ref (aN 2)) (C := RX2) (T := TX2) (N := 14) hx hb hts iwsMX2_addArc_in2 hown hK hP 0 rfl rfl 3 (by decide) (hts (.fieldLink RX2 18 "OptimaWorks$NetDesk" "room" "[I") (by decide +kernel)) (fun _ h9 => h9) rfl dX2_addArc_21 ?_
  refine lv_aload_n hx hb dX2_addArc_24 rfl (lv_at hl 0 rfl) ?_
  refine va_get (D := (dC, dI)) (ci := 2) (v := .int iN_arcs) (C := RX2) (T := TX2) (N := 14) hx hb hts iwsMX2_addArc_in2 hown hK hP 0 rfl rfl 0 (by decide) (hts (.fieldLink RX2 45 "OptimaWorks$NetDesk" "arcs" "I") (by decide +kernel)) (fun _ h9 => h9) rfl dX2_addArc_25 ?_
  refine lv_iload_n hx hb dX2_addArc_28 rfl (lv_at hl 3 rfl) ?_
  refine va_iast (cA := kN 2) (n := 40) (f := fN_room) hx hb hK hP hD hS 3 2 rfl rfl (vp_in_iff.mpr ⟨b_iN_arcs.1, (by omega)⟩) dX2_addArc_29 (fun H locs hP hD hS => ?_)
  obtain ⟨u3, hu3⟩ : ∃ f9, f9 = upd fN_room (iN_arcs).toNatClampNeg p3 := ⟨_, rfl⟩
  have hP : va_P (dC, dI) vwCl (WN hN aN kN iN_arcs u1 u2 u3 fN_cost iN_reached fN_free fN_before fN_flow fN_length fN_stop iN_stops fN_price fN_rest) H := by rw [hu3]; exact hP
  have hD : va_D A (WN hN aN kN iN_arcs u1 u2 u3 fN_cost iN_reached fN_free fN_before fN_flow fN_length fN_stop iN_stops fN_price fN_rest) := by rw [hu3]; exact hD
  have b_u3 : u3 = upd fN_room (iN_arcs).toNatClampNeg p3 := hu3
  clear hu3
  refine lv_aload_n hx hb dX2_addArc_30 rfl (lv_at hl 0 rfl) ?_
  refine va_get (D := (dC, dI)) (ci := 2) (v := .ref (aN 3)) (C := RX2) (T := TX2) (N := 14) hx hb hts iwsMX2_addArc_in2 hown hK hP 0 rfl rfl 4 (by decide) (hts (.fieldLink RX2 21 "OptimaWorks$NetDesk" "cost" "[I") (by decide +kernel)) (fun _ h9 => h9) rfl dX2_addArc_31 ?_
  refine lv_aload_n hx hb dX2_addArc_34 rfl (lv_at hl 0 rfl) ?_
  refine va_get (D := (dC, dI)) (ci := 2) (v := .int iN_arcs) (C := RX2) (T := TX2) (N := 14) hx hb hts iwsMX2_addArc_in2 hown hK hP 0 rfl rfl 0 (by decide) (hts (.fieldLink RX2 45 "OptimaWorks$NetDesk" "arcs" "I") (by decide +kernel)) (fun _ h9 => h9) rfl dX2_addArc_35 ?_
  refine lv_iload hx hb dX2_addArc_38 (lv_at hl 4 rfl) ?_
  refine va_iast (cA := kN 3) (n := 40) (f := fN_cost) hx hb hK hP hD hS 4 3 rfl rfl (vp_in_iff.mpr ⟨b_iN_arcs.1, (by omega)⟩) dX2_addArc_40 (fun H locs hP hD hS => ?_)
  obtain ⟨u4, hu4⟩ : ∃ f9, f9 = upd fN_cost (iN_arcs).toNatClampNeg p4 := ⟨_, rfl⟩
  have hP : va_P (dC, dI) vwCl (WN hN aN kN iN_arcs u1 u2 u3 u4 iN_reached fN_free fN_before fN_flow fN_length fN_stop iN_stops fN_price fN_rest) H := by rw [hu4]; exact hP
  have hD : va_D A (WN hN aN kN iN_arcs u1 u2 u3 u4 iN_reached fN_free fN_before fN_flow fN_length fN_stop iN_stops fN_price fN_rest) := by rw [hu4]; exact hD
  have b_u4 : u4 = upd fN_cost (iN_arcs).toNatClampNeg p4 := hu4
  clear hu4
  refine lv_aload_n hx hb dX2_addArc_41 rfl (lv_at hl 0 rfl) ?_
  refine lv_dup hx hb dX2_addArc_42 rfl ?_
  refine va_get (D := (dC, dI)) (ci := 2) (v := .int iN_arcs) (C := RX2) (T := TX2) (N := 14) hx hb hts iwsMX2_addArc_in2 hown hK hP 0 rfl rfl 0 (by decide) (hts (.fieldLink RX2 45 "OptimaWorks$NetDesk" "arcs" "I") (by decide +kernel)) (fun _ h9 => h9) rfl dX2_addArc_43 ?_
  refine lv_iconst (v := 1) hx hb dX2_addArc_46 (by decide) ?_
  refine lv_iadd hx hb dX2_addArc_47 ?_
  refine lv_topi (fun y5 hy5 => ?_)
  obtain rfl : (iI (iN_arcs.toInt + 1)) = y5 := (hy5.trans (iI_add2 (iI_of _) (by decide : (1 : Int32) = iI 1))).symm
  refine va_put (D := (dC, dI)) (ci := 2) (v := .int (iI (iN_arcs.toInt + 1))) (ty := .int) (C := RX2) (T := TX2) (N := 14) hx hb hts iwsMX2_addArc_in2 tyX2 tyX2_ok nmX2 hown hK hP hD hS 0 rfl rfl 0 (by decide) (hts (.fieldLink RX2 45 "OptimaWorks$NetDesk" "arcs" "I") (by decide +kernel)) (fun _ h9 => h9) rfl (by decide +kernel) rfl rfl (Nat.le_of_ble_eq_true rfl) dX2_addArc_48 (fun H locs hP hD hS => ?_)
  have hP : va_P (dC, dI) vwCl (WN hN aN kN (iI (iN_arcs.toInt + 1)) u1 u2 u3 u4 iN_reached fN_free fN_before fN_flow fN_length fN_stop iN_stops fN_price fN_rest) H := hP
  have hD : va_D A (WN hN aN kN (iI (iN_arcs.toInt + 1)) u1 u2 u3 u4 iN_reached fN_free fN_before fN_flow fN_length fN_stop iN_stops fN_price fN_rest) := hD
  refine lv_aload_n hx hb dX2_addArc_51 rfl (lv_at hl 0 rfl) ?_
  refine va_get (D := (dC, dI)) (ci := 2) (v := .int (iI (iN_arcs.toInt + 1))) (C := RX2) (T := TX2) (N := 14) hx hb hts iwsMX2_addArc_in2 hown hK hP 0 rfl rfl 0 (by decide) (hts (.fieldLink RX2 45 "OptimaWorks$NetDesk" "arcs" "I") (by decide +kernel)) (fun _ h9 => h9) rfl dX2_addArc_52 ?_
  refine lv_iconst (v := 1) hx hb dX2_addArc_55 (by decide) ?_
  refine lv_isub hx hb dX2_addArc_56 ?_
  refine lv_topi (fun y6 hy6 => ?_)
  obtain rfl : (iI ((iN_arcs.toInt + 1) - 1)) = y6 := (hy6.trans (iI_sub2 rfl (by decide : (1 : Int32) = iI 1))).symm
  refine W.widen (k := 0) (n := 0) (by decide +kernel) (by decide +kernel) ?_
  exact W.iret (v := (iI ((iN_arcs.toInt + 1) - 1))) hx hb hr (fun t9_ ht hW => ⟨⟨(iI ((iN_arcs.toInt + 1) - 1)), ((iI (iN_arcs.toInt + 1)), u1, u2, u3, u4), rfl, ⟨(by (try dsimp only); exact (iI_rng (Int.le_trans (by decide) (Int.add_le_add (b_iN_arcs.1) (Int.le_refl _))) (by omega) (by decide) (by decide))), b_u1, b_u2, (by (try dsimp only); first | (rw [iI_t (by omega) (by omega)] <;> omega) | omega), (by (try dsimp only); first | (rw [iI_t (by omega) (by omega)] <;> omega) | omega), (by (try dsimp only); exact (b1_u1)), (by (try dsimp only); exact (b1_u2)), (by (try dsimp only); exact (b_u3)), (by (try dsimp only); exact (b_u4))⟩, by rw [ht]; exact hP, hD⟩, hS.F ht⟩) hS.2.2 dX2_addArc_57
theorem dX2_dropArc_0 : decode cX2_dropArc 0 = .ok (.aload_n 0, 1) := dk_42 (by decide +kernel)
theorem dX2_dropArc_1 : decode cX2_dropArc 1 = .ok (.getfield 45, 3) := dk_180 (by decide +kernel)
theorem dX2_dropArc_4 : decode cX2_dropArc 4 = .ok (.ifCond .ne 5, 3) := dk_154 (by decide +kernel)
theorem dX2_dropArc_7 : decode cX2_dropArc 7 = .ok (.iconst 0, 1) := dk_3 (by decide +kernel)
theorem dX2_dropArc_8 : decode cX2_dropArc 8 = .ok (.ireturn, 1) := dk_172 (by decide +kernel)
theorem dX2_dropArc_9 : decode cX2_dropArc 9 = .ok (.aload_n 0, 1) := dk_42 (by decide +kernel)
theorem dX2_dropArc_10 : decode cX2_dropArc 10 = .ok (.dup, 1) := dk_89 (by decide +kernel)
theorem dX2_dropArc_11 : decode cX2_dropArc 11 = .ok (.getfield 45, 3) := dk_180 (by decide +kernel)
theorem dX2_dropArc_14 : decode cX2_dropArc 14 = .ok (.iconst 1, 1) := dk_4 (by decide +kernel)
theorem dX2_dropArc_15 : decode cX2_dropArc 15 = .ok (.isub, 1) := dk_100 (by decide +kernel)
theorem dX2_dropArc_16 : decode cX2_dropArc 16 = .ok (.putfield 45, 3) := dk_181 (by decide +kernel)
theorem dX2_dropArc_19 : decode cX2_dropArc 19 = .ok (.iconst 1, 1) := dk_4 (by decide +kernel)
theorem dX2_dropArc_20 : decode cX2_dropArc 20 = .ok (.ireturn, 1) := dk_172 (by decide +kernel)
def wsMX2_dropArc : List Cond := .code yX2_dropArc cX2_dropArc 1 (some .boolean) :: ([.fieldLink RX2 45 "OptimaWorks$NetDesk" "arcs" "I"] ++ wsX20)
theorem iwsMX2_dropArc_in2 : ∀ w ∈ wsX20, w ∈ wsMX2_dropArc := fun _ h => List.mem_cons_of_mem _ (List.mem_append_right _ h)
theorem gdwsMX2_dropArc : wsMX2_dropArc.all goodWord = true := gdC rfl (gdA (by decide +kernel : ([.fieldLink RX2 45 "OptimaWorks$NetDesk" "arcs" "I"] : List Cond).all goodWord = true) gdwsX20)
set_option maxHeartbeats 4000000 in
set_option maxRecDepth 100000 in
/-- an arc less -/
theorem m_X2_dropArc (l : Launch) (dC : Nat → ClassId) (dI : Nat → Nat → Nat) (hN : Nat → Nat) (aN : Nat → Nat) (kN : Nat → ClassId) (iN_arcs : Int32) (fN_from : Nat → Int32) (fN_to : Nat → Int32) (fN_room : Nat → Int32) (fN_cost : Nat → Int32) (iN_reached : Int32) (fN_free : Nat → Int32) (fN_before : Nat → Int32) (fN_flow : Nat → Int32) (fN_length : Nat → Int32) (fN_stop : Nat → Int32) (iN_stops : Int32) (fN_price : Nat → Int32) (fN_rest : Nat → Int32) (b_iN_arcs : 0 ≤ iN_arcs.toInt ∧ iN_arcs.toInt ≤ 40) (b_fN_from : ∀ q : Nat, 0 ≤ (fN_from q).toInt ∧ (fN_from q).toInt ≤ 11) (b_fN_to : ∀ q : Nat, 0 ≤ (fN_to q).toInt ∧ (fN_to q).toInt ≤ 11) (b_fN_before : ∀ q : Nat, 0 ≤ (fN_before q).toInt ∧ (fN_before q).toInt ≤ 79) (b_fN_stop : ∀ q : Nat, 0 ≤ (fN_stop q).toInt ∧ (fN_stop q).toInt ≤ 11) (b_iN_stops : 0 ≤ iN_stops.toInt ∧ iN_stops.toInt ≤ 8) (sz : Nat) : Met l yX2_dropArc wsMX2_dropArc ({ frames := 0, cells := 0, slots := 0, locals := 0 }) (va_Pc [.ref (hN 0)] (fun U => U.heap.size = sz ∧ va_P (dC, dI) vwCl (WN hN aN kN iN_arcs fN_from fN_to fN_room fN_cost iN_reached fN_free fN_before fN_flow fN_length fN_stop iN_stops fN_price fN_rest) U.heap ∧ va_K (dC, dI) vwCl (tN kN) U ∧ va_D (fun _ => True) (WN hN aN kN iN_arcs fN_from fN_to fN_room fN_cost iN_reached fN_free fN_before fN_flow fN_length fN_stop iN_stops fN_price fN_rest))) (va_Qi (fun (r : Int32) (u : Int32) => (0 ≤ u.toInt ∧ u.toInt ≤ 40) ∧ (0 ≤ r.toInt ∧ r.toInt ≤ 1) ∧ ((iN_arcs.toInt = 0 ∧ r.toInt = 0 ∧ u.toInt = 0) ∨ (0 < iN_arcs.toInt ∧ r.toInt = 1 ∧ u.toInt = iN_arcs.toInt - 1))) (fun (u : Int32) t => va_P (dC, dI) vwCl (WN hN aN kN u fN_from fN_to fN_room fN_cost iN_reached fN_free fN_before fN_flow fN_length fN_stop iN_stops fN_price fN_rest) t.heap ∧ va_D (va_A (WN hN aN kN iN_arcs fN_from fN_to fN_room fN_cost iN_reached fN_free fN_before fN_flow fN_length fN_stop iN_stops fN_price fN_rest) sz) (WN hN aN kN u fN_from fN_to fN_room fN_cost iN_reached fN_free fN_before fN_flow fN_length fN_stop iN_stops fN_price fN_rest)) (va_A (WN hN aN kN iN_arcs fN_from fN_to fN_room fN_cost iN_reached fN_free fN_before fN_flow fN_length fN_stop iN_stops fN_price fN_rest) sz)) 0 0 (va_A (WN hN aN kN iN_arcs fN_from fN_to fN_room fN_cost iN_reached fN_free fN_before fN_flow fN_length fN_stop iN_stops fN_price fN_rest) sz) := by
  refine Met.ofW (cc := cX2_dropArc) (maxL := 1) (ret := (some .boolean)) (by decide) rfl ?_
  intro p e s m args below meth c s₁ B hml hv
  obtain ⟨rfl, hsz, hP, hK, hD0⟩ := hv
  have hx := B.exec
  have hb := B.bytes
  have hr := B.returns
  have hts := atoms_spec (ws := wsMX2_dropArc) B.pre
  have hown : s.vm.findClass RX2 = some m.cls := findClass_of_methodNamed B.named
  have hlocks := B.notSynchronized
  subst hsz
  have hD := hD0.self (sz := s.heap.size)
  generalize hAe : va_A (WN hN aN kN iN_arcs fN_from fN_to fN_room fN_cost iN_reached fN_free fN_before fN_flow fN_length fN_stop iN_stops fN_price fN_rest) s.heap.size = A at hD ⊢
  have hA : ∀ q : Nat, s.heap.size ≤ q → A q := fun q h => by rw [← hAe]; exact Or.inr h
  have hS : va_S A s.heap s.heap [] := va_S.rf
  have hl := lv_entry ([.ref (hN 0)]) (n := 1) (Nat.le_of_ble_eq_true rfl)
  rw [lg_entry_eq]
  generalize (lg_sl ([.ref (hN 0)]) ++ List.replicate (1 - (lg_sl ([.ref (hN 0)])).length) Slot.unset).toArray = ls at hl ⊢
  have hl : lv_has ls 1 [(0, .ref (hN 0))] := hl
  refine lv_aload_n hx hb dX2_dropArc_0 rfl (lv_at hl 0 rfl) ?_
  refine va_get (D := (dC, dI)) (ci := 2) (v := .int iN_arcs) (C := RX2) (T := TX2) (N := 14) hx hb hts iwsMX2_dropArc_in2 hown hK hP 0 rfl rfl 0 (by decide) (hts (.fieldLink RX2 45 "OptimaWorks$NetDesk" "arcs" "I") (by decide +kernel)) (fun _ h9 => h9) rfl dX2_dropArc_1 ?_
  refine lv_if_ne (tgt := 9) hx hb dX2_dropArc_4 (by decide) (fun c_4 => ?_) (fun c_4 => ?_)
  · have t_4 : iN_arcs.toInt ≠ 0 := toI_ne c_4 rfl (by decide : (0 : Int32).toInt = 0)
    refine lv_aload_n hx hb dX2_dropArc_9 rfl (lv_at hl 0 rfl) ?_
    refine lv_dup hx hb dX2_dropArc_10 rfl ?_
    refine va_get (D := (dC, dI)) (ci := 2) (v := .int iN_arcs) (C := RX2) (T := TX2) (N := 14) hx hb hts iwsMX2_dropArc_in2 hown hK hP 0 rfl rfl 0 (by decide) (hts (.fieldLink RX2 45 "OptimaWorks$NetDesk" "arcs" "I") (by decide +kernel)) (fun _ h9 => h9) rfl dX2_dropArc_11 ?_
    refine lv_iconst (v := 1) hx hb dX2_dropArc_14 (by decide) ?_
    refine lv_isub hx hb dX2_dropArc_15 ?_
    refine lv_topi (fun y1 hy1 => ?_)
    obtain rfl : (iI (iN_arcs.toInt - 1)) = y1 := (hy1.trans (iI_sub2 (iI_of _) (by decide : (1 : Int32) = iI 1))).symm
    refine va_put (D := (dC, dI)) (ci := 2) (v := .int (iI (iN_arcs.toInt - 1))) (ty := .int) (C := RX2) (T := TX2) (N := 14) hx hb hts iwsMX2_dropArc_in2 tyX2 tyX2_ok nmX2 hown hK hP hD hS 0 rfl rfl 0 (by decide) (hts (.fieldLink RX2 45 "OptimaWorks$NetDesk" "arcs" "I") (by decide +kernel)) (fun _ h9 => h9) rfl (by decide +kernel) rfl rfl (Nat.le_of_ble_eq_true rfl) dX2_dropArc_16 (fun H locs hP hD hS => ?_)
    have hP : va_P (dC, dI) vwCl (WN hN aN kN (iI (iN_arcs.toInt - 1)) fN_from fN_to fN_room fN_cost iN_reached fN_free fN_before fN_flow fN_length fN_stop iN_stops fN_price fN_rest) H := hP
    have hD : va_D A (WN hN aN kN (iI (iN_arcs.toInt - 1)) fN_from fN_to fN_room fN_cost iN_reached fN_free fN_before fN_flow fN_length fN_stop iN_stops fN_price fN_rest) := hD
    refine lv_iconst (v := 1) hx hb dX2_dropArc_19 (by decide) ?_
    refine W.widen (k := 0) (n := 0) (by decide +kernel) (by decide +kernel) ?_
    exact W.zret (v := 1) hx hb hr rfl (fun t9_ ht hW => ⟨⟨(1 : Int32), (iI (iN_arcs.toInt - 1)), rfl, ⟨(by (try dsimp only); exact (iI_rng (by omega) (Int.le_trans (Int.sub_le_sub (b_iN_arcs.2) (Int.le_refl _)) (by decide)) (by decide) (by decide))), (show 0 ≤ (1 : Int32).toInt ∧ (1 : Int32).toInt ≤ 1 from by decide), (by (try dsimp only); first | exact Or.inl ⟨by omega, by decide, by omega⟩ | exact Or.inr ⟨by omega, by decide, by first | (rw [iI_t (by omega) (by omega)] <;> omega) | omega⟩)⟩, by rw [ht]; exact hP, hD⟩, hS.F ht⟩) hS.2.2 dX2_dropArc_20
  · have t_4 : iN_arcs.toInt = 0 := toI_nne c_4 rfl (by decide : (0 : Int32).toInt = 0)
    refine lv_iconst (v := 0) hx hb dX2_dropArc_7 (by decide) ?_
    refine W.widen (k := 0) (n := 0) (by decide +kernel) (by decide +kernel) ?_
    exact W.zret (v := 0) hx hb hr rfl (fun t9_ ht hW => ⟨⟨(0 : Int32), iN_arcs, rfl, ⟨(by (try dsimp only); exact (b_iN_arcs)), (show 0 ≤ (0 : Int32).toInt ∧ (0 : Int32).toInt ≤ 1 from by decide), (by (try dsimp only); first | exact Or.inl ⟨by omega, by decide, by omega⟩ | exact Or.inr ⟨by omega, by decide, by first | (rw [iI_t (by omega) (by omega)] <;> omega) | omega⟩)⟩, by rw [ht]; exact hP, hD⟩, hS.F ht⟩) hS.2.2 dX2_dropArc_8

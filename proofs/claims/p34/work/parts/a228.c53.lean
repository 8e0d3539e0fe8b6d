theorem hd_yX12_needSign_RX12 : yX12_needSign.cls = RX12 ∧ yX12_needSign.cls ≠ "java/lang/invoke/MethodHandle" ∧ yX12_needSign.cls ≠ "java/lang/invoke/VarHandle" ∧ (parseMethodDescriptor yX12_needSign.desc).map (fun d => d.parameters.length) = some 1 := by decide +kernel
theorem dX12_readPlaces_0 : decode cX12_readPlaces 0 = .ok (.aload_n 0, 1) := dk_42 (by decide +kernel)
theorem dX12_readPlaces_1 : decode cX12_readPlaces 1 = .ok (.iconst 0, 1) := dk_3 (by decide +kernel)
theorem dX12_readPlaces_2 : decode cX12_readPlaces 2 = .ok (.putfield 705, 3) := dk_181 (by decide +kernel)
theorem dX12_readPlaces_5 : decode cX12_readPlaces 5 = .ok (.aload_n 0, 1) := dk_42 (by decide +kernel)
theorem dX12_readPlaces_6 : decode cX12_readPlaces 6 = .ok (.iconst 0, 1) := dk_3 (by decide +kernel)
theorem dX12_readPlaces_7 : decode cX12_readPlaces 7 = .ok (.putfield 708, 3) := dk_181 (by decide +kernel)
theorem dX12_readPlaces_10 : decode cX12_readPlaces 10 = .ok (.aload_n 0, 1) := dk_42 (by decide +kernel)
theorem dX12_readPlaces_11 : decode cX12_readPlaces 11 = .ok (.iconst 0, 1) := dk_3 (by decide +kernel)
theorem dX12_readPlaces_12 : decode cX12_readPlaces 12 = .ok (.putfield 711, 3) := dk_181 (by decide +kernel)
theorem dX12_readPlaces_15 : decode cX12_readPlaces 15 = .ok (.aload_n 0, 1) := dk_42 (by decide +kernel)
theorem dX12_readPlaces_16 : decode cX12_readPlaces 16 = .ok (.getfield 515, 3) := dk_180 (by decide +kernel)
theorem dX12_readPlaces_19 : decode cX12_readPlaces 19 = .ok (.ifCond .gt 12, 3) := dk_157 (by decide +kernel)
theorem dX12_readPlaces_22 : decode cX12_readPlaces 22 = .ok (.aload_n 0, 1) := dk_42 (by decide +kernel)
theorem dX12_readPlaces_23 : decode cX12_readPlaces 23 = .ok (.bipush 91, 2) := dk_16 (by decide +kernel)
theorem dX12_readPlaces_25 : decode cX12_readPlaces 25 = .ok (.invokevirtual 521, 3) := dk_182 (by decide +kernel)
theorem dX12_readPlaces_28 : decode cX12_readPlaces 28 = .ok (.ifCond .ne 4, 3) := dk_154 (by decide +kernel)
theorem dX12_readPlaces_31 : decode cX12_readPlaces 31 = .ok (.return_, 1) := dk_177 (by decide +kernel)
theorem dX12_readPlaces_32 : decode cX12_readPlaces 32 = .ok (.aload_n 0, 1) := dk_42 (by decide +kernel)
theorem dX12_readPlaces_33 : decode cX12_readPlaces 33 = .ok (.invokevirtual 524, 3) := dk_182 (by decide +kernel)
theorem dX12_readPlaces_36 : decode cX12_readPlaces 36 = .ok (.aload_n 0, 1) := dk_42 (by decide +kernel)
theorem dX12_readPlaces_37 : decode cX12_readPlaces 37 = .ok (.aload_n 0, 1) := dk_42 (by decide +kernel)
theorem dX12_readPlaces_38 : decode cX12_readPlaces 38 = .ok (.invokevirtual 564, 3) := dk_182 (by decide +kernel)
theorem dX12_readPlaces_41 : decode cX12_readPlaces 41 = .ok (.putfield 708, 3) := dk_181 (by decide +kernel)
theorem dX12_readPlaces_44 : decode cX12_readPlaces 44 = .ok (.aload_n 0, 1) := dk_42 (by decide +kernel)
theorem dX12_readPlaces_45 : decode cX12_readPlaces 45 = .ok (.iconst 1, 1) := dk_4 (by decide +kernel)
theorem dX12_readPlaces_46 : decode cX12_readPlaces 46 = .ok (.putfield 705, 3) := dk_181 (by decide +kernel)
theorem dX12_readPlaces_49 : decode cX12_readPlaces 49 = .ok (.aload_n 0, 1) := dk_42 (by decide +kernel)
theorem dX12_readPlaces_50 : decode cX12_readPlaces 50 = .ok (.getfield 515, 3) := dk_180 (by decide +kernel)
theorem dX12_readPlaces_53 : decode cX12_readPlaces 53 = .ok (.ifCond .ne 29, 3) := dk_154 (by decide +kernel)
theorem dX12_readPlaces_56 : decode cX12_readPlaces 56 = .ok (.aload_n 0, 1) := dk_42 (by decide +kernel)
theorem dX12_readPlaces_57 : decode cX12_readPlaces 57 = .ok (.bipush 44, 2) := dk_16 (by decide +kernel)
theorem dX12_readPlaces_59 : decode cX12_readPlaces 59 = .ok (.invokevirtual 521, 3) := dk_182 (by decide +kernel)
theorem dX12_readPlaces_62 : decode cX12_readPlaces 62 = .ok (.ifCond .eq 20, 3) := dk_153 (by decide +kernel)
theorem dX12_readPlaces_65 : decode cX12_readPlaces 65 = .ok (.aload_n 0, 1) := dk_42 (by decide +kernel)
theorem dX12_readPlaces_66 : decode cX12_readPlaces 66 = .ok (.invokevirtual 524, 3) := dk_182 (by decide +kernel)
theorem dX12_readPlaces_69 : decode cX12_readPlaces 69 = .ok (.aload_n 0, 1) := dk_42 (by decide +kernel)
theorem dX12_readPlaces_70 : decode cX12_readPlaces 70 = .ok (.aload_n 0, 1) := dk_42 (by decide +kernel)
theorem dX12_readPlaces_71 : decode cX12_readPlaces 71 = .ok (.invokevirtual 564, 3) := dk_182 (by decide +kernel)
theorem dX12_readPlaces_74 : decode cX12_readPlaces 74 = .ok (.putfield 711, 3) := dk_181 (by decide +kernel)
theorem dX12_readPlaces_77 : decode cX12_readPlaces 77 = .ok (.aload_n 0, 1) := dk_42 (by decide +kernel)
theorem dX12_readPlaces_78 : decode cX12_readPlaces 78 = .ok (.iconst 2, 1) := dk_5 (by decide +kernel)
theorem dX12_readPlaces_79 : decode cX12_readPlaces 79 = .ok (.putfield 705, 3) := dk_181 (by decide +kernel)
theorem dX12_readPlaces_82 : decode cX12_readPlaces 82 = .ok (.aload_n 0, 1) := dk_42 (by decide +kernel)
theorem dX12_readPlaces_83 : decode cX12_readPlaces 83 = .ok (.bipush 93, 2) := dk_16 (by decide +kernel)
theorem dX12_readPlaces_85 : decode cX12_readPlaces 85 = .ok (.invokevirtual 611, 3) := dk_182 (by decide +kernel)
theorem dX12_readPlaces_88 : decode cX12_readPlaces 88 = .ok (.pop, 1) := dk_87 (by decide +kernel)
theorem dX12_readPlaces_89 : decode cX12_readPlaces 89 = .ok (.return_, 1) := dk_177 (by decide +kernel)
def wsRX12_readPlaces : List Cond := .code yX12_readPlaces cX12_readPlaces 1 none :: ([.fieldLink RX12 705 "OptimaWorksModel" "places" "I", .fieldLink RX12 708 "OptimaWorksModel" "placeOne" "I", .fieldLink RX12 711 "OptimaWorksModel" "placeTwo" "I", .fieldLink RX12 515 "OptimaWorksModel" "stop" "I"] ++ wsX120 ++ (wsV RX12 521 RX12 yX12_isSign wsRX12_isSign) ++ (wsV RX12 524 RX12 yX12_next wsRX12_next) ++ (wsV RX12 564 RX12 yX12_readSet wsRX12_readSet) ++ (wsV RX12 611 RX12 yX12_needSign wsRX12_needSign))
theorem iwsRX12_readPlaces_in12 : ∀ w ∈ wsX120, w ∈ wsRX12_readPlaces := fun _ h => List.mem_cons_of_mem _ (List.mem_append_left _ (List.mem_append_left _ (List.mem_append_left _ (List.mem_append_left _ (List.mem_append_right _ h)))))
theorem gwsRX12_readPlaces_0 : GoodIn wsRX12_readPlaces (wsV RX12 521 RX12 yX12_isSign wsRX12_isSign) := goodIn_sub (fun _ h => List.mem_cons_of_mem _ (List.mem_append_left _ (List.mem_append_left _ (List.mem_append_left _ (List.mem_append_right _ h))))) (gdV (by decide +kernel) gdwsRX12_isSign)
theorem gwsRX12_readPlaces_1 : GoodIn wsRX12_readPlaces (wsV RX12 524 RX12 yX12_next wsRX12_next) := goodIn_sub (fun _ h => List.mem_cons_of_mem _ (List.mem_append_left _ (List.mem_append_left _ (List.mem_append_right _ h)))) (gdV (by decide +kernel) gdwsRX12_next)
theorem gwsRX12_readPlaces_2 : GoodIn wsRX12_readPlaces (wsV RX12 564 RX12 yX12_readSet wsRX12_readSet) := goodIn_sub (fun _ h => List.mem_cons_of_mem _ (List.mem_append_left _ (List.mem_append_right _ h))) (gdV (by decide +kernel) gdwsRX12_readSet)
theorem gwsRX12_readPlaces_3 : GoodIn wsRX12_readPlaces (wsV RX12 611 RX12 yX12_needSign wsRX12_needSign) := goodIn_sub (fun _ h => List.mem_cons_of_mem _ (List.mem_append_right _ h)) (gdV (by decide +kernel) gdwsRX12_needSign)
theorem gdwsRX12_readPlaces : wsRX12_readPlaces.all goodWord = true := gdC rfl (gdA (gdA (gdA (gdA (gdA (by decide +kernel : ([.fieldLink RX12 705 "OptimaWorksModel" "places" "I", .fieldLink RX12 708 "OptimaWorksModel" "placeOne" "I", .fieldLink RX12 711 "OptimaWorksModel" "placeTwo" "I", .fieldLink RX12 515 "OptimaWorksModel" "stop" "I"] : List Cond).all goodWord = true) gdwsX120) (gdV (by decide +kernel) gdwsRX12_isSign)) (gdV (by decide +kernel) gdwsRX12_next)) (gdV (by decide +kernel) gdwsRX12_readSet)) (gdV (by decide +kernel) gdwsRX12_needSign))
set_option maxHeartbeats 4000000 in
set_option maxRecDepth 100000 in
/-- readPlaces() -/
theorem r_X12_readPlaces (l : Launch) (dC : Nat → ClassId) (dI : Nat → Nat → Nat) (a : Nat → Nat) (k : Nat → ClassId) (h0 : Nat) (vi : Nat → Int32) (vj : Nat → Int64) (vF : Nat → Nat → Int32) (vG : Nat → Nat → Int64) (tp : Nat) (an : Nat) (fn : Nat) (nm : Nat) (se : Nat) (pa : Nat) (va : Nat) (hTp : vi 16 = nI tp) (htp : tp ≤ 4000) (ha0 : vi 17 = nI an) (hfr : vi 19 = nI fn) (hLx : LxO tp fn an (vi 18) (vi 20)) (hst0 : 0 ≤ (vi 21).toInt) (hnm : vi 25 = nI nm) (hnm40 : nm ≤ 40) (hno : NmO (vF 11) (vF 12) nm) (hNk : NkO (vF 10) (vF 13) nm se pa va) (hse44 : se ≤ 44) (sz : Nat) : Met l yX12_readPlaces wsRX12_readPlaces ({ frames := 9, cells := 0, slots := 0, locals := 194 }) (va_Pc [.ref h0] (fun U => U.heap.size = sz ∧ va_P (dC, dI) vwCl (WR a k h0 vi vj vF vG) U.heap ∧ va_K (dC, dI) vwCl (tX12 k) U ∧ va_D (fun _ => True) (WR a k h0 vi vj vF vG) ∧ StrA (va_A (WR a k h0 vi vj vF vG) sz) U U.heap)) (va_Qv (fun (u : (Nat) × (Nat) × (Int32) × (Int32) × (Int32) × (Int32) × (Int32) × (Int32) × (Int32)) => (LxO tp (u.2.1) (u.1) (u.2.2.2.1) (u.2.2.1)) ∧ (fn ≤ (u.2.1)) ∧ (0 ≤ ((u.2.2.2.2.1)).toInt) ∧ ((0 < ((u.2.2.2.2.1)).toInt) ∨ ((u.2.2.2.2.1) = 0 ∧ vi 21 = 0 ∧ ∃ pl o1 o2 : Nat, (u.2.2.2.2.2.2.1) = nI pl ∧ (u.2.2.2.2.2.2.2.1) = nI o1 ∧ (u.2.2.2.2.2.2.2.2) = nI o2 ∧ pl ≤ 2 ∧ o1 < 44 ∧ o2 < 44 ∧ (1 ≤ pl → o1 < se) ∧ (pl = 2 → o2 < se)))) (fun (u : (Nat) × (Nat) × (Int32) × (Int32) × (Int32) × (Int32) × (Int32) × (Int32) × (Int32)) t => va_P (dC, dI) vwCl (WR a k h0 (fT (fT (fT (fT (fT (fT (fT (fT (fT vi 110 (u.2.2.2.2.2.2.1)) 111 (u.2.2.2.2.2.2.2.1)) 112 (u.2.2.2.2.2.2.2.2)) 17 (nI (u.1))) 19 (nI (u.2.1))) 20 (u.2.2.1)) 18 (u.2.2.2.1)) 21 (u.2.2.2.2.1)) 22 (u.2.2.2.2.2.1)) vj vF vG) t.heap ∧ va_D (va_A (WR a k h0 vi vj vF vG) sz) (WR a k h0 (fT (fT (fT (fT (fT (fT (fT (fT (fT vi 110 (u.2.2.2.2.2.2.1)) 111 (u.2.2.2.2.2.2.2.1)) 112 (u.2.2.2.2.2.2.2.2)) 17 (nI (u.1))) 19 (nI (u.2.1))) 20 (u.2.2.1)) 18 (u.2.2.2.1)) 21 (u.2.2.2.2.1)) 22 (u.2.2.2.2.2.1)) vj vF vG)) (va_A (WR a k h0 vi vj vF vG) sz)) 0 0 (va_A (WR a k h0 vi vj vF vG) sz) := by
  refine Met.ofW (cc := cX12_readPlaces) (maxL := 1) (ret := none) (by decide) rfl ?_
  intro p e s m args below meth c s₁ B hml hv
  obtain ⟨rfl, hsz, hP, hK, hD0, hE⟩ := hv
  have hx := B.exec
  have hb := B.bytes
  have hr := B.returns
  have hts := atoms_spec (ws := wsRX12_readPlaces) B.pre
  have hown : s.vm.findClass RX12 = some m.cls := findClass_of_methodNamed B.named
  have hlocks := B.notSynchronized
  subst hsz
  have hD := hD0.self (sz := s.heap.size)
  generalize hAe : va_A (WR a k h0 vi vj vF vG) s.heap.size = A at hD hE ⊢
  have hA : ∀ q : Nat, s.heap.size ≤ q → A q := fun q h => by rw [← hAe]; exact Or.inr h
  have hS : va_S A s.heap s.heap [] := va_S.rf
  have hl := lv_entry ([.ref h0]) (n := 1) (Nat.le_of_ble_eq_true rfl)
  rw [lg_entry_eq]
  generalize (lg_sl ([.ref h0]) ++ List.replicate (1 - (lg_sl ([.ref h0])).length) Slot.unset).toArray = ls at hl ⊢
  have hl : lv_has ls 1 [(0, .ref h0)] := hl
  have hfa := hLx.1
  have han := hLx.2.1
  have han4 : an ≤ 4000 := by omega
  refine lv_aload_n hx hb dX12_readPlaces_0 rfl (lv_at hl 0 rfl) ?_
  refine lv_iconst (v := 0) hx hb dX12_readPlaces_1 (by decide) ?_
  refine va_put (D := (dC, dI)) (ci := 12) (v := .int 0) (ty := .int) (C := RX12) (T := TX12) (N := 163) (fs := fM (vS a vi vj)) hx hb hts iwsRX12_readPlaces_in12 tyX12 tyX12_ok nmX12 hown hK hP hD hS 0 rfl rfl 110 (by decide) (hts (.fieldLink RX12 705 "OptimaWorksModel" "places" "I") (by decide +kernel)) (fun _ h9 => h9) rfl (by decide +kernel) rfl rfl (Nat.le_of_ble_eq_true rfl) dX12_readPlaces_2 (fun H locs hP hD hS => ?_)
  have hP : va_P (dC, dI) vwCl (WR a k h0 (fT vi 110 0) vj vF vG) H := by rw [← WR_i 110 _ rfl]; exact hP
  have hD : va_D A (WR a k h0 (fT vi 110 0) vj vF vG) := by rw [← WR_i 110 _ rfl]; exact hD
  refine lv_aload_n hx hb dX12_readPlaces_5 rfl (lv_at hl 0 rfl) ?_
  refine lv_iconst (v := 0) hx hb dX12_readPlaces_6 (by decide) ?_
  refine va_put (D := (dC, dI)) (ci := 12) (v := .int 0) (ty := .int) (C := RX12) (T := TX12) (N := 163) (fs := fM (vS a (fT vi 110 0) vj)) hx hb hts iwsRX12_readPlaces_in12 tyX12 tyX12_ok nmX12 hown hK hP hD hS 0 rfl rfl 111 (by decide) (hts (.fieldLink RX12 708 "OptimaWorksModel" "placeOne" "I") (by decide +kernel)) (fun _ h9 => h9) rfl (by decide +kernel) rfl rfl (Nat.le_of_ble_eq_true rfl) dX12_readPlaces_7 (fun H locs hP hD hS => ?_)
  have hP : va_P (dC, dI) vwCl (WR a k h0 (fT (fT vi 110 0) 111 0) vj vF vG) H := by rw [← WR_i 111 _ rfl]; exact hP
  have hD : va_D A (WR a k h0 (fT (fT vi 110 0) 111 0) vj vF vG) := by rw [← WR_i 111 _ rfl]; exact hD
  refine lv_aload_n hx hb dX12_readPlaces_10 rfl (lv_at hl 0 rfl) ?_
  refine lv_iconst (v := 0) hx hb dX12_readPlaces_11 (by decide) ?_
  refine va_put (D := (dC, dI)) (ci := 12) (v := .int 0) (ty := .int) (C := RX12) (T := TX12) (N := 163) (fs := fM (vS a (fT (fT vi 110 0) 111 0) vj)) hx hb hts iwsRX12_readPlaces_in12 tyX12 tyX12_ok nmX12 hown hK hP hD hS 0 rfl rfl 112 (by decide) (hts (.fieldLink RX12 711 "OptimaWorksModel" "placeTwo" "I") (by decide +kernel)) (fun _ h9 => h9) rfl (by decide +kernel) rfl rfl (Nat.le_of_ble_eq_true rfl) dX12_readPlaces_12 (fun H locs hP hD hS => ?_)
  have hP : va_P (dC, dI) vwCl (WR a k h0 (fT (fT (fT vi 110 0) 111 0) 112 0) vj vF vG) H := by rw [← WR_i 112 _ rfl]; exact hP
  have hD : va_D A (WR a k h0 (fT (fT (fT vi 110 0) 111 0) 112 0) vj vF vG) := by rw [← WR_i 112 _ rfl]; exact hD
  refine lv_aload_n hx hb dX12_readPlaces_15 rfl (lv_at hl 0 rfl) ?_
  refine va_get (D := (dC, dI)) (ci := 12) (v := .int (vi 21)) (C := RX12) (T := TX12) (N := 163) (fs := fM (vS a (fT (fT (fT vi 110 0) 111 0) 112 0) vj)) hx hb hts iwsRX12_readPlaces_in12 hown hK hP 0 rfl rfl 21 (by decide) (hts (.fieldLink RX12 515 "OptimaWorksModel" "stop" "I") (by decide +kernel)) (fun _ h9 => h9) rfl dX12_readPlaces_16 ?_
  refine lv_if_gt (tgt := 31) hx hb dX12_readPlaces_19 (by decide) (fun c_19 => ?_) (fun c_19 => ?_)
  · have t_19 : ((vi 21)).toInt > 0 := toI_gt c_19 rfl (by decide)
    refine W.widen (k := 0) (n := 0) (by decide +kernel) (by decide +kernel) ?_
    have e9 : fT (fT (fT (fT (fT (fT (fT (fT (fT vi 110 0) 111 0) 112 0) 17 (nI an)) 19 (nI fn)) 20 (vi 20)) 18 (vi 18)) 21 (vi 21)) 22 (vi 22) = fT (fT (fT vi 110 0) 111 0) 112 0 := by funext q9; by_cases h9_110 : q9 = 110; (subst h9_110; exact ((fT_ne _ _ (Nat.ne_of_beq_eq_false rfl)).trans ((fT_ne _ _ (Nat.ne_of_beq_eq_false rfl)).trans ((fT_ne _ _ (Nat.ne_of_beq_eq_false rfl)).trans ((fT_ne _ _ (Nat.ne_of_beq_eq_false rfl)).trans ((fT_ne _ _ (Nat.ne_of_beq_eq_false rfl)).trans ((fT_ne _ _ (Nat.ne_of_beq_eq_false rfl)).trans ((fT_ne _ _ (Nat.ne_of_beq_eq_false rfl)).trans ((fT_ne _ _ (Nat.ne_of_beq_eq_false rfl)).trans (fT_eq _ _ _))))))))).trans (Eq.trans (by first | rfl | assumption | (symm; assumption) | (subst_vars; rfl)) ((fT_ne _ _ (Nat.ne_of_beq_eq_false rfl)).trans ((fT_ne _ _ (Nat.ne_of_beq_eq_false rfl)).trans (fT_eq _ _ _))).symm)); by_cases h9_111 : q9 = 111; (subst h9_111; exact ((fT_ne _ _ (Nat.ne_of_beq_eq_false rfl)).trans ((fT_ne _ _ (Nat.ne_of_beq_eq_false rfl)).trans ((fT_ne _ _ (Nat.ne_of_beq_eq_false rfl)).trans ((fT_ne _ _ (Nat.ne_of_beq_eq_false rfl)).trans ((fT_ne _ _ (Nat.ne_of_beq_eq_false rfl)).trans ((fT_ne _ _ (Nat.ne_of_beq_eq_false rfl)).trans ((fT_ne _ _ (Nat.ne_of_beq_eq_false rfl)).trans (fT_eq _ _ _)))))))).trans (Eq.trans (by first | rfl | assumption | (symm; assumption) | (subst_vars; rfl)) ((fT_ne _ _ (Nat.ne_of_beq_eq_false rfl)).trans (fT_eq _ _ _)).symm)); by_cases h9_112 : q9 = 112; (subst h9_112; exact ((fT_ne _ _ (Nat.ne_of_beq_eq_false rfl)).trans ((fT_ne _ _ (Nat.ne_of_beq_eq_false rfl)).trans ((fT_ne _ _ (Nat.ne_of_beq_eq_false rfl)).trans ((fT_ne _ _ (Nat.ne_of_beq_eq_false rfl)).trans ((fT_ne _ _ (Nat.ne_of_beq_eq_false rfl)).trans ((fT_ne _ _ (Nat.ne_of_beq_eq_false rfl)).trans (fT_eq _ _ _))))))).trans (Eq.trans (by first | rfl | assumption | (symm; assumption) | (subst_vars; rfl)) (fT_eq _ _ _).symm)); by_cases h9_17 : q9 = 17; (subst h9_17; exact ((fT_ne _ _ (Nat.ne_of_beq_eq_false rfl)).trans ((fT_ne _ _ (Nat.ne_of_beq_eq_false rfl)).trans ((fT_ne _ _ (Nat.ne_of_beq_eq_false rfl)).trans ((fT_ne _ _ (Nat.ne_of_beq_eq_false rfl)).trans ((fT_ne _ _ (Nat.ne_of_beq_eq_false rfl)).trans (fT_eq _ _ _)))))).trans (Eq.trans (by first | rfl | assumption | (symm; assumption) | (subst_vars; rfl)) ((fT_ne _ _ (Nat.ne_of_beq_eq_false rfl)).trans ((fT_ne _ _ (Nat.ne_of_beq_eq_false rfl)).trans (fT_ne _ _ (Nat.ne_of_beq_eq_false rfl)))).symm)); by_cases h9_19 : q9 = 19; (subst h9_19; exact ((fT_ne _ _ (Nat.ne_of_beq_eq_false rfl)).trans ((fT_ne _ _ (Nat.ne_of_beq_eq_false rfl)).trans ((fT_ne _ _ (Nat.ne_of_beq_eq_false rfl)).trans ((fT_ne _ _ (Nat.ne_of_beq_eq_false rfl)).trans (fT_eq _ _ _))))).trans (Eq.trans (by first | rfl | assumption | (symm; assumption) | (subst_vars; rfl)) ((fT_ne _ _ (Nat.ne_of_beq_eq_false rfl)).trans ((fT_ne _ _ (Nat.ne_of_beq_eq_false rfl)).trans (fT_ne _ _ (Nat.ne_of_beq_eq_false rfl)))).symm)); by_cases h9_20 : q9 = 20; (subst h9_20; exact ((fT_ne _ _ (Nat.ne_of_beq_eq_false rfl)).trans ((fT_ne _ _ (Nat.ne_of_beq_eq_false rfl)).trans ((fT_ne _ _ (Nat.ne_of_beq_eq_false rfl)).trans (fT_eq _ _ _)))).trans (Eq.trans (by first | rfl | assumption | (symm; assumption) | (subst_vars; rfl)) ((fT_ne _ _ (Nat.ne_of_beq_eq_false rfl)).trans ((fT_ne _ _ (Nat.ne_of_beq_eq_false rfl)).trans (fT_ne _ _ (Nat.ne_of_beq_eq_false rfl)))).symm)); by_cases h9_18 : q9 = 18; (subst h9_18; exact ((fT_ne _ _ (Nat.ne_of_beq_eq_false rfl)).trans ((fT_ne _ _ (Nat.ne_of_beq_eq_false rfl)).trans (fT_eq _ _ _))).trans (Eq.trans (by first | rfl | assumption | (symm; assumption) | (subst_vars; rfl)) ((fT_ne _ _ (Nat.ne_of_beq_eq_false rfl)).trans ((fT_ne _ _ (Nat.ne_of_beq_eq_false rfl)).trans (fT_ne _ _ (Nat.ne_of_beq_eq_false rfl)))).symm)); by_cases h9_21 : q9 = 21; (subst h9_21; exact ((fT_ne _ _ (Nat.ne_of_beq_eq_false rfl)).trans (fT_eq _ _ _)).trans (Eq.trans (by first | rfl | assumption | (symm; assumption) | (subst_vars; rfl)) ((fT_ne _ _ (Nat.ne_of_beq_eq_false rfl)).trans ((fT_ne _ _ (Nat.ne_of_beq_eq_false rfl)).trans (fT_ne _ _ (Nat.ne_of_beq_eq_false rfl)))).symm)); by_cases h9_22 : q9 = 22; (subst h9_22; exact (fT_eq _ _ _).trans (Eq.trans (by first | rfl | assumption | (symm; assumption) | (subst_vars; rfl)) ((fT_ne _ _ (Nat.ne_of_beq_eq_false rfl)).trans ((fT_ne _ _ (Nat.ne_of_beq_eq_false rfl)).trans (fT_ne _ _ (Nat.ne_of_beq_eq_false rfl)))).symm)); exact ((fT_ne _ _ h9_22).trans ((fT_ne _ _ h9_21).trans ((fT_ne _ _ h9_18).trans ((fT_ne _ _ h9_20).trans ((fT_ne _ _ h9_19).trans ((fT_ne _ _ h9_17).trans ((fT_ne _ _ h9_112).trans ((fT_ne _ _ h9_111).trans (fT_ne _ _ h9_110))))))))).trans ((fT_ne _ _ h9_112).trans ((fT_ne _ _ h9_111).trans (fT_ne _ _ h9_110))).symm
    have hP : va_P (dC, dI) vwCl (WR a k h0 (fT (fT (fT (fT (fT (fT (fT (fT (fT vi 110 0) 111 0) 112 0) 17 (nI an)) 19 (nI fn)) 20 (vi 20)) 18 (vi 18)) 21 (vi 21)) 22 (vi 22)) vj vF vG) H := by rw [e9]; exact hP
    have hD : va_D A (WR a k h0 (fT (fT (fT (fT (fT (fT (fT (fT (fT vi 110 0) 111 0) 112 0) 17 (nI an)) 19 (nI fn)) 20 (vi 20)) 18 (vi 18)) 21 (vi 21)) 22 (vi 22)) vj vF vG) := by rw [e9]; exact hD
    clear e9
    exact W.vret hx hb hr (fun t9_ ht hW => ⟨⟨(an, fn, (vi 20), (vi 18), (vi 21), (vi 22), 0, 0, 0), rfl, by (try dsimp only); exact ⟨hLx, Nat.le_refl _, hst0, Or.inl (by omega)⟩, by rw [ht]; exact hP, hD⟩, hS.F ht⟩) hS.2.2 dX12_readPlaces_31
  · have t_19 : ¬ ((vi 21)).toInt > 0 := toI_ngt c_19 rfl (by decide)
    refine lv_aload_n hx hb dX12_readPlaces_22 rfl (lv_at hl 0 rfl) ?_
    refine lv_bipush (v := 91) hx hb dX12_readPlaces_23 (by decide) ?_
    have hFc := allFree hD hS hA
    refine va_calli (va_runV (As := [.int 91]) (rest := []) ⟨hx, hb, hml, hown, hts⟩ (r_X12_isSign l dC dI a k h0 (fT (fT (fT vi 110 0) 111 0) 112 0) vj vF vG 91 H.size) (cwV 1 hts gwsRX12_readPlaces_0 rfl rfl rfl hd_yX12_isSign_RX12 (by decide +kernel)) (fz_pre (va_recv hK hP (ci := 12) (q0 := 0) rfl rfl) hP hK hD) rfl rfl hl.1 rfl (lv_room (Nat.le_of_ble_eq_true rfl)) dX12_readPlaces_25 (by decide +kernel)) hS (fun q _ h => hFc q h) hFc (fun r25 u t9_ H locs ht hvm hw9 hB9 hz1 hk1 hS => ?_)
    have hP : va_P (dC, dI) vwCl (WR a k h0 (fT (fT (fT vi 110 0) 111 0) 112 0) vj vF vG) H := fz_P ht hB9.1
    have hD : va_D A (WR a k h0 (fT (fT (fT vi 110 0) 111 0) 112 0) vj vF vG) := hB9.2.weaken (fun _ q _ h => hFc q.1 h)
    rcases hw9 with ⟨rfl, f25_0, f25_1⟩ | ⟨rfl, f25_0⟩
    · have f25_0 : (vi 18).toInt = 4 := f25_0
      have f25_1 : (vi 20) = 91 := f25_1
      refine lv_if_ne (tgt := 32) hx hb dX12_readPlaces_28 (by decide) (fun _ => ?_) (fun c9 => absurd c9 (by decide))
      refine lv_aload_n hx hb dX12_readPlaces_32 rfl (lv_at hl 0 rfl) ?_
      have hFc := allFree hD hS hA
      refine va_callv (va_runV (As := []) (rest := []) ⟨hx, hb, hml, hown, hts⟩ (r_X12_next l dC dI a k h0 (fT (fT (fT vi 110 0) 111 0) 112 0) vj vF vG tp an hTp (by first | assumption | decide | omega | rfl) ha0 (by first | assumption | decide | omega | rfl) H.size) (cwV 0 hts gwsRX12_readPlaces_1 rfl rfl rfl hd_yX12_next_RX12 (by decide +kernel)) (fz_preE (va_recv hK hP (ci := 12) (q0 := 0) rfl rfl) hP hK hD (fun a U g mk qE => qE.same rfl) (fun U hU9 hW => by rw [hU9]; exact (((hE : StrA A s s.heap).kept hS.2.1).narrow (fun q h => hFc q h)).warm hW)) rfl rfl hl.1 rfl (lv_room (Nat.le_of_ble_eq_true rfl)) dX12_readPlaces_33 (by decide +kernel)) hS (fun q _ h => hFc q h) hFc (fun u t9_ H locs ht hvm hw9 hB9 hz1 hk1 hS => ?_)
      obtain ⟨a233, f233, sg33, wd33⟩ := u
      try dsimp only at hw9 hB9
      have hP : va_P (dC, dI) vwCl (WR a k h0 (fT (fT (fT (fT (fT (fT (fT vi 110 0) 111 0) 112 0) 17 (nI a233)) 19 (nI f233)) 20 sg33) 18 wd33) vj vF vG) H := fz_P ht hB9.1
      have hD : va_D A (WR a k h0 (fT (fT (fT (fT (fT (fT (fT vi 110 0) 111 0) 112 0) 17 (nI a233)) 19 (nI f233)) 20 sg33) 18 wd33) vj vF vG) := hB9.2.weaken (fun _ q _ h => hFc q.1 h)
      obtain ⟨f33_0, f33_1⟩ := hw9
      have hg9 := f33_0.1
      refine lv_aload_n hx hb dX12_readPlaces_36 rfl (lv_at hl 0 rfl) ?_
      refine lv_aload_n hx hb dX12_readPlaces_37 rfl (lv_at hl 0 rfl) ?_
      have hFc := allFree hD hS hA
      refine va_calli (va_runV (As := []) (rest := [.ref h0]) ⟨hx, hb, hml, hown, hts⟩ (r_X12_readSet l dC dI a k h0 (fT (fT (fT (fT (fT (fT (fT vi 110 0) 111 0) 112 0) 17 (nI a233)) 19 (nI f233)) 20 sg33) 18 wd33) vj vF vG tp a233 f233 nm se pa va hTp (by first | assumption | decide | omega | rfl) rfl rfl (f33_0) (by first | assumption | decide | omega | rfl) hnm (by first | assumption | decide | omega | rfl) (by first | assumption | decide | omega | rfl) (by first | assumption | decide | omega | rfl) H.size) (cwV 0 hts gwsRX12_readPlaces_2 rfl rfl rfl hd_yX12_readSet_RX12 (by decide +kernel)) (fz_preE (va_recv hK hP (ci := 12) (q0 := 0) rfl rfl) hP hK hD (fun a U g mk qE => qE.same rfl) (fun U hU9 hW => by rw [hU9]; exact (((hE : StrA A s s.heap).kept hS.2.1).narrow (fun q h => hFc q h)).warm hW)) rfl rfl hl.1 rfl (lv_room (Nat.le_of_ble_eq_true rfl)) dX12_readPlaces_38 (by decide +kernel)) hS (fun q _ h => hFc q h) hFc (fun r38 u t9_ H locs ht hvm hw9 hB9 hz1 hk1 hS => ?_)
      obtain ⟨a238, f238, sg38, wd38, s238, p238⟩ := u
      try dsimp only at hw9 hB9
      have hP : va_P (dC, dI) vwCl (WR a k h0 (fT (fT (fT (fT (fT (fT (fT (fT (fT (fT (fT (fT (fT vi 110 0) 111 0) 112 0) 17 (nI a233)) 19 (nI f233)) 20 sg33) 18 wd33) 17 (nI a238)) 19 (nI f238)) 20 sg38) 18 wd38) 21 s238) 22 p238) vj vF vG) H := fz_P ht hB9.1
      have hD : va_D A (WR a k h0 (fT (fT (fT (fT (fT (fT (fT (fT (fT (fT (fT (fT (fT vi 110 0) 111 0) 112 0) 17 (nI a233)) 19 (nI f233)) 20 sg33) 18 wd33) 17 (nI a238)) 19 (nI f238)) 20 sg38) 18 wd38) 21 s238) 22 p238) vj vF vG) := hB9.2.weaken (fun _ q _ h => hFc q.1 h)
      have e9 : fT (fT (fT (fT (fT (fT (fT (fT (fT vi 110 0) 111 0) 112 0) 17 (nI a238)) 19 (nI f238)) 20 sg38) 18 wd38) 21 s238) 22 p238 = fT (fT (fT (fT (fT (fT (fT (fT (fT (fT (fT (fT (fT vi 110 0) 111 0) 112 0) 17 (nI a233)) 19 (nI f233)) 20 sg33) 18 wd33) 17 (nI a238)) 19 (nI f238)) 20 sg38) 18 wd38) 21 s238) 22 p238 := ((congrArg (fun g9 => fT (fT (fT (fT (fT g9 19 (nI f238)) 20 sg38) 18 wd38) 21 s238) 22 p238) ((fT_sw _ _ _ (Nat.ne_of_beq_eq_false rfl)).trans (congrArg (fun g9 => fT g9 18 wd33) ((fT_sw _ _ _ (Nat.ne_of_beq_eq_false rfl)).trans (congrArg (fun g9 => fT g9 20 sg33) ((fT_sw _ _ _ (Nat.ne_of_beq_eq_false rfl)).trans (congrArg (fun g9 => fT g9 19 (nI f233)) (fT_sm _ _ _ _)))))))).trans ((congrArg (fun g9 => fT (fT (fT (fT g9 20 sg38) 18 wd38) 21 s238) 22 p238) ((fT_sw _ _ _ (Nat.ne_of_beq_eq_false rfl)).trans (congrArg (fun g9 => fT g9 18 wd33) ((fT_sw _ _ _ (Nat.ne_of_beq_eq_false rfl)).trans (congrArg (fun g9 => fT g9 20 sg33) (fT_sm _ _ _ _)))))).trans ((congrArg (fun g9 => fT (fT (fT g9 18 wd38) 21 s238) 22 p238) ((fT_sw _ _ _ (Nat.ne_of_beq_eq_false rfl)).trans (congrArg (fun g9 => fT g9 18 wd33) (fT_sm _ _ _ _)))).trans (congrArg (fun g9 => fT (fT g9 21 s238) 22 p238) (fT_sm _ _ _ _))))).symm
      rw [← e9] at hP hD
      clear e9
      have hP : va_P (dC, dI) vwCl (WR a k h0 (fT (fT (fT (fT (fT (fT (fT (fT (fT vi 110 0) 111 0) 112 0) 17 (nI a238)) 19 (nI f238)) 20 sg38) 18 wd38) 21 s238) 22 p238) vj vF vG) H := hP
      have hD : va_D A (WR a k h0 (fT (fT (fT (fT (fT (fT (fT (fT (fT vi 110 0) 111 0) 112 0) 17 (nI a238)) 19 (nI f238)) 20 sg38) 18 wd38) 21 s238) 22 p238) vj vF vG) := hD
      obtain ⟨f38_0, f38_1, f38_2, f38_3⟩ := hw9
      refine va_put (D := (dC, dI)) (ci := 12) (v := .int r38) (ty := .int) (C := RX12) (T := TX12) (N := 163) (fs := fM (vS a (fT (fT (fT (fT (fT (fT (fT (fT (fT vi 110 0) 111 0) 112 0) 17 (nI a238)) 19 (nI f238)) 20 sg38) 18 wd38) 21 s238) 22 p238) vj)) hx hb hts iwsRX12_readPlaces_in12 tyX12 tyX12_ok nmX12 hown hK hP hD hS 0 rfl rfl 111 (by decide) (hts (.fieldLink RX12 708 "OptimaWorksModel" "placeOne" "I") (by decide +kernel)) (fun _ h9 => h9) rfl (by decide +kernel) rfl rfl (Nat.le_of_ble_eq_true rfl) dX12_readPlaces_41 (fun H locs hP hD hS => ?_)
      have e9 : fT (fT (fT (fT (fT (fT (fT (fT (fT vi 110 0) 111 r38) 112 0) 17 (nI a238)) 19 (nI f238)) 20 sg38) 18 wd38) 21 s238) 22 p238 = fT (fT (fT (fT (fT (fT (fT (fT (fT (fT vi 110 0) 111 0) 112 0) 17 (nI a238)) 19 (nI f238)) 20 sg38) 18 wd38) 21 s238) 22 p238) 111 r38 := ((fT_sw _ _ _ (Nat.ne_of_beq_eq_false rfl)).trans (congrArg (fun g9 => fT g9 22 p238) ((fT_sw _ _ _ (Nat.ne_of_beq_eq_false rfl)).trans (congrArg (fun g9 => fT g9 21 s238) ((fT_sw _ _ _ (Nat.ne_of_beq_eq_false rfl)).trans (congrArg (fun g9 => fT g9 18 wd38) ((fT_sw _ _ _ (Nat.ne_of_beq_eq_false rfl)).trans (congrArg (fun g9 => fT g9 20 sg38) ((fT_sw _ _ _ (Nat.ne_of_beq_eq_false rfl)).trans (congrArg (fun g9 => fT g9 19 (nI f238)) ((fT_sw _ _ _ (Nat.ne_of_beq_eq_false rfl)).trans (congrArg (fun g9 => fT g9 17 (nI a238)) ((fT_sw _ _ _ (Nat.ne_of_beq_eq_false rfl)).trans (congrArg (fun g9 => fT g9 112 0) (fT_sm _ _ _ _))))))))))))))).symm
      have hP : va_P (dC, dI) vwCl (WR a k h0 (fT (fT (fT (fT (fT (fT (fT (fT (fT vi 110 0) 111 r38) 112 0) 17 (nI a238)) 19 (nI f238)) 20 sg38) 18 wd38) 21 s238) 22 p238) vj vF vG) H := by rw [e9, ← WR_i 111 _ rfl]; exact hP
      have hD : va_D A (WR a k h0 (fT (fT (fT (fT (fT (fT (fT (fT (fT vi 110 0) 111 r38) 112 0) 17 (nI a238)) 19 (nI f238)) 20 sg38) 18 wd38) 21 s238) 22 p238) vj vF vG) := by rw [e9, ← WR_i 111 _ rfl]; exact hD
      clear e9
      refine lv_aload_n hx hb dX12_readPlaces_44 rfl (lv_at hl 0 rfl) ?_
      refine lv_iconst (v := 1) hx hb dX12_readPlaces_45 (by decide) ?_
      refine va_put (D := (dC, dI)) (ci := 12) (v := .int 1) (ty := .int) (C := RX12) (T := TX12) (N := 163) (fs := fM (vS a (fT (fT (fT (fT (fT (fT (fT (fT (fT vi 110 0) 111 r38) 112 0) 17 (nI a238)) 19 (nI f238)) 20 sg38) 18 wd38) 21 s238) 22 p238) vj)) hx hb hts iwsRX12_readPlaces_in12 tyX12 tyX12_ok nmX12 hown hK hP hD hS 0 rfl rfl 110 (by decide) (hts (.fieldLink RX12 705 "OptimaWorksModel" "places" "I") (by decide +kernel)) (fun _ h9 => h9) rfl (by decide +kernel) rfl rfl (Nat.le_of_ble_eq_true rfl) dX12_readPlaces_46 (fun H locs hP hD hS => ?_)
      have e9 : fT (fT (fT (fT (fT (fT (fT (fT (fT vi 110 1) 111 r38) 112 0) 17 (nI a238)) 19 (nI f238)) 20 sg38) 18 wd38) 21 s238) 22 p238 = fT (fT (fT (fT (fT (fT (fT (fT (fT (fT vi 110 0) 111 r38) 112 0) 17 (nI a238)) 19 (nI f238)) 20 sg38) 18 wd38) 21 s238) 22 p238) 110 1 := ((fT_sw _ _ _ (Nat.ne_of_beq_eq_false rfl)).trans (congrArg (fun g9 => fT g9 22 p238) ((fT_sw _ _ _ (Nat.ne_of_beq_eq_false rfl)).trans (congrArg (fun g9 => fT g9 21 s238) ((fT_sw _ _ _ (Nat.ne_of_beq_eq_false rfl)).trans (congrArg (fun g9 => fT g9 18 wd38) ((fT_sw _ _ _ (Nat.ne_of_beq_eq_false rfl)).trans (congrArg (fun g9 => fT g9 20 sg38) ((fT_sw _ _ _ (Nat.ne_of_beq_eq_false rfl)).trans (congrArg (fun g9 => fT g9 19 (nI f238)) ((fT_sw _ _ _ (Nat.ne_of_beq_eq_false rfl)).trans (congrArg (fun g9 => fT g9 17 (nI a238)) ((fT_sw _ _ _ (Nat.ne_of_beq_eq_false rfl)).trans (congrArg (fun g9 => fT g9 112 0) ((fT_sw _ _ _ (Nat.ne_of_beq_eq_false rfl)).trans (congrArg (fun g9 => fT g9 111 r38) (fT_sm _ _ _ _))))))))))))))))).symm
      have hP : va_P (dC, dI) vwCl (WR a k h0 (fT (fT (fT (fT (fT (fT (fT (fT (fT vi 110 1) 111 r38) 112 0) 17 (nI a238)) 19 (nI f238)) 20 sg38) 18 wd38) 21 s238) 22 p238) vj vF vG) H := by rw [e9, ← WR_i 110 _ rfl]; exact hP
      have hD : va_D A (WR a k h0 (fT (fT (fT (fT (fT (fT (fT (fT (fT vi 110 1) 111 r38) 112 0) 17 (nI a238)) 19 (nI f238)) 20 sg38) 18 wd38) 21 s238) 22 p238) vj vF vG) := by rw [e9, ← WR_i 110 _ rfl]; exact hD
      clear e9
      have hg8 := f38_0.1
      refine lv_aload_n hx hb dX12_readPlaces_49 rfl (lv_at hl 0 rfl) ?_
      refine va_get (D := (dC, dI)) (ci := 12) (v := .int s238) (C := RX12) (T := TX12) (N := 163) (fs := fM (vS a (fT (fT (fT (fT (fT (fT (fT (fT (fT vi 110 1) 111 r38) 112 0) 17 (nI a238)) 19 (nI f238)) 20 sg38) 18 wd38) 21 s238) 22 p238) vj)) hx hb hts iwsRX12_readPlaces_in12 hown hK hP 0 rfl rfl 21 (by decide) (hts (.fieldLink RX12 515 "OptimaWorksModel" "stop" "I") (by decide +kernel)) (fun _ h9 => h9) rfl dX12_readPlaces_50 ?_
      refine W.cut (pc := 82) (fun H locs ls stk => ∃ (a6 : Nat) (f6 : Nat) (w6 : Int32) (g6 : Int32) (s6 : Int32) (ps6 : Int32) (pt6 : Int32) (j1_i22 : Int32), (LxO tp f6 a6 w6 g6) ∧ (fn ≤ f6) ∧ (0 ≤ (s6).toInt) ∧ ((0 < (s6).toInt) ∨ ∃ pl o1 o2 : Nat, ps6 = nI pl ∧ r38 = nI o1 ∧ pt6 = nI o2 ∧ pl ≤ 2 ∧ o1 < 44 ∧ o2 < 44 ∧ (1 ≤ pl → o1 < se) ∧ (pl = 2 → o2 < se)) ∧  stk = [] ∧ va_P (dC, dI) vwCl (WR a k h0 (fT (fT (fT (fT (fT (fT (fT (fT (fT vi 110 ps6) 111 r38) 112 pt6) 17 (nI a6)) 19 (nI f6)) 20 g6) 18 w6) 21 s6) 22 j1_i22) vj vF vG) H ∧ va_D A (WR a k h0 (fT (fT (fT (fT (fT (fT (fT (fT (fT vi 110 ps6) 111 r38) 112 pt6) 17 (nI a6)) 19 (nI f6)) 20 g6) 18 w6) 21 s6) 22 j1_i22) vj vF vG) ∧ va_S A s.heap H locs ∧ lv_has ls 1 [(0, .ref h0)]) (fun join1 => ?_) ?_
      · refine lv_if_ne (tgt := 82) hx hb dX12_readPlaces_53 (by decide) (fun c_53 => ?_) (fun c_53 => ?_)
        · have t_53 : (s238).toInt ≠ 0 := toI_ne c_53 rfl (by decide)
          have hl : lv_has _ _ ([(0, .ref h0)]) := lv_sub hl [0] rfl
          exact join1 _ _ _ _ ⟨a238, f238, wd38, sg38, s238, 1, 0, p238, f38_0, by omega, f38_2, by rcases f38_3 with h9 | ⟨_, _, o1, h7, h6⟩; (exact Or.inl h9); (exact Or.inr ⟨1, o1, 0, by decide, h6, by decide, by omega, by omega, by omega, fun _ => h7, fun h9 => absurd h9 (by omega)⟩), rfl, hP, hD, hS, hl⟩
        · have t_53 : (s238).toInt = 0 := toI_nne c_53 rfl (by decide)
          have hz38 : (s238).toInt = 0 := by rw [c_53]; decide
          refine lv_aload_n hx hb dX12_readPlaces_56 rfl (lv_at hl 0 rfl) ?_
          refine lv_bipush (v := 44) hx hb dX12_readPlaces_57 (by decide) ?_
          have hFc := allFree hD hS hA
          refine va_calli (va_runV (As := [.int 44]) (rest := []) ⟨hx, hb, hml, hown, hts⟩ (r_X12_isSign l dC dI a k h0 (fT (fT (fT (fT (fT (fT (fT (fT (fT vi 110 1) 111 r38) 112 0) 17 (nI a238)) 19 (nI f238)) 20 sg38) 18 wd38) 21 s238) 22 p238) vj vF vG 44 H.size) (cwV 1 hts gwsRX12_readPlaces_0 rfl rfl rfl hd_yX12_isSign_RX12 (by decide +kernel)) (fz_pre (va_recv hK hP (ci := 12) (q0 := 0) rfl rfl) hP hK hD) rfl rfl hl.1 rfl (lv_room (Nat.le_of_ble_eq_true rfl)) dX12_readPlaces_59 (by decide +kernel)) hS (fun q _ h => hFc q h) hFc (fun r59 u t9_ H locs ht hvm hw9 hB9 hz1 hk1 hS => ?_)
          have hP : va_P (dC, dI) vwCl (WR a k h0 (fT (fT (fT (fT (fT (fT (fT (fT (fT vi 110 1) 111 r38) 112 0) 17 (nI a238)) 19 (nI f238)) 20 sg38) 18 wd38) 21 s238) 22 p238) vj vF vG) H := fz_P ht hB9.1
          have hD : va_D A (WR a k h0 (fT (fT (fT (fT (fT (fT (fT (fT (fT vi 110 1) 111 r38) 112 0) 17 (nI a238)) 19 (nI f238)) 20 sg38) 18 wd38) 21 s238) 22 p238) vj vF vG) := hB9.2.weaken (fun _ q _ h => hFc q.1 h)
          rcases hw9 with ⟨rfl, f59_0, f59_1⟩ | ⟨rfl, f59_0⟩
          · have f59_0 : wd38.toInt = 4 := f59_0
            have f59_1 : sg38 = 44 := f59_1
            refine lv_if_eq (tgt := 82) hx hb dX12_readPlaces_62 (by decide) (fun c9 => absurd c9 (by decide)) (fun _ => ?_)
            refine lv_aload_n hx hb dX12_readPlaces_65 rfl (lv_at hl 0 rfl) ?_
            have hFc := allFree hD hS hA
            refine va_callv (va_runV (As := []) (rest := []) ⟨hx, hb, hml, hown, hts⟩ (r_X12_next l dC dI a k h0 (fT (fT (fT (fT (fT (fT (fT (fT (fT vi 110 1) 111 r38) 112 0) 17 (nI a238)) 19 (nI f238)) 20 sg38) 18 wd38) 21 s238) 22 p238) vj vF vG tp a238 hTp (by first | assumption | decide | omega | rfl) rfl (f38_0.2.1) H.size) (cwV 0 hts gwsRX12_readPlaces_1 rfl rfl rfl hd_yX12_next_RX12 (by decide +kernel)) (fz_preE (va_recv hK hP (ci := 12) (q0 := 0) rfl rfl) hP hK hD (fun a U g mk qE => qE.same rfl) (fun U hU9 hW => by rw [hU9]; exact (((hE : StrA A s s.heap).kept hS.2.1).narrow (fun q h => hFc q h)).warm hW)) rfl rfl hl.1 rfl (lv_room (Nat.le_of_ble_eq_true rfl)) dX12_readPlaces_66 (by decide +kernel)) hS (fun q _ h => hFc q h) hFc (fun u t9_ H locs ht hvm hw9 hB9 hz1 hk1 hS => ?_)
            obtain ⟨a266, f266, sg66, wd66⟩ := u
            try dsimp only at hw9 hB9
            have hP : va_P (dC, dI) vwCl (WR a k h0 (fT (fT (fT (fT (fT (fT (fT (fT (fT (fT (fT (fT (fT vi 110 1) 111 r38) 112 0) 17 (nI a238)) 19 (nI f238)) 20 sg38) 18 wd38) 21 s238) 22 p238) 17 (nI a266)) 19 (nI f266)) 20 sg66) 18 wd66) vj vF vG) H := fz_P ht hB9.1
            have hD : va_D A (WR a k h0 (fT (fT (fT (fT (fT (fT (fT (fT (fT (fT (fT (fT (fT vi 110 1) 111 r38) 112 0) 17 (nI a238)) 19 (nI f238)) 20 sg38) 18 wd38) 21 s238) 22 p238) 17 (nI a266)) 19 (nI f266)) 20 sg66) 18 wd66) vj vF vG) := hB9.2.weaken (fun _ q _ h => hFc q.1 h)
            have e9 : fT (fT (fT (fT (fT (fT (fT (fT (fT vi 110 1) 111 r38) 112 0) 17 (nI a266)) 19 (nI f266)) 20 sg66) 18 wd66) 21 s238) 22 p238 = fT (fT (fT (fT (fT (fT (fT (fT (fT (fT (fT (fT (fT vi 110 1) 111 r38) 112 0) 17 (nI a238)) 19 (nI f238)) 20 sg38) 18 wd38) 21 s238) 22 p238) 17 (nI a266)) 19 (nI f266)) 20 sg66) 18 wd66 := ((congrArg (fun g9 => fT (fT (fT g9 19 (nI f266)) 20 sg66) 18 wd66) ((fT_sw _ _ _ (Nat.ne_of_beq_eq_false rfl)).trans (congrArg (fun g9 => fT g9 22 p238) ((fT_sw _ _ _ (Nat.ne_of_beq_eq_false rfl)).trans (congrArg (fun g9 => fT g9 21 s238) ((fT_sw _ _ _ (Nat.ne_of_beq_eq_false rfl)).trans (congrArg (fun g9 => fT g9 18 wd38) ((fT_sw _ _ _ (Nat.ne_of_beq_eq_false rfl)).trans (congrArg (fun g9 => fT g9 20 sg38) ((fT_sw _ _ _ (Nat.ne_of_beq_eq_false rfl)).trans (congrArg (fun g9 => fT g9 19 (nI f238)) (fT_sm _ _ _ _)))))))))))).trans ((congrArg (fun g9 => fT (fT g9 20 sg66) 18 wd66) ((fT_sw _ _ _ (Nat.ne_of_beq_eq_false rfl)).trans (congrArg (fun g9 => fT g9 22 p238) ((fT_sw _ _ _ (Nat.ne_of_beq_eq_false rfl)).trans (congrArg (fun g9 => fT g9 21 s238) ((fT_sw _ _ _ (Nat.ne_of_beq_eq_false rfl)).trans (congrArg (fun g9 => fT g9 18 wd38) ((fT_sw _ _ _ (Nat.ne_of_beq_eq_false rfl)).trans (congrArg (fun g9 => fT g9 20 sg38) (fT_sm _ _ _ _)))))))))).trans ((congrArg (fun g9 => fT g9 18 wd66) ((fT_sw _ _ _ (Nat.ne_of_beq_eq_false rfl)).trans (congrArg (fun g9 => fT g9 22 p238) ((fT_sw _ _ _ (Nat.ne_of_beq_eq_false rfl)).trans (congrArg (fun g9 => fT g9 21 s238) ((fT_sw _ _ _ (Nat.ne_of_beq_eq_false rfl)).trans (congrArg (fun g9 => fT g9 18 wd38) (fT_sm _ _ _ _)))))))).trans ((fT_sw _ _ _ (Nat.ne_of_beq_eq_false rfl)).trans (congrArg (fun g9 => fT g9 22 p238) ((fT_sw _ _ _ (Nat.ne_of_beq_eq_false rfl)).trans (congrArg (fun g9 => fT g9 21 s238) (fT_sm _ _ _ _)))))))).symm
            rw [← e9] at hP hD
            clear e9
            have hP : va_P (dC, dI) vwCl (WR a k h0 (fT (fT (fT (fT (fT (fT (fT (fT (fT vi 110 1) 111 r38) 112 0) 17 (nI a266)) 19 (nI f266)) 20 sg66) 18 wd66) 21 s238) 22 p238) vj vF vG) H := hP
            have hD : va_D A (WR a k h0 (fT (fT (fT (fT (fT (fT (fT (fT (fT vi 110 1) 111 r38) 112 0) 17 (nI a266)) 19 (nI f266)) 20 sg66) 18 wd66) 21 s238) 22 p238) vj vF vG) := hD
            obtain ⟨f66_0, f66_1⟩ := hw9
            refine lv_aload_n hx hb dX12_readPlaces_69 rfl (lv_at hl 0 rfl) ?_
            refine lv_aload_n hx hb dX12_readPlaces_70 rfl (lv_at hl 0 rfl) ?_
            have hFc := allFree hD hS hA
            refine va_calli (va_runV (As := []) (rest := [.ref h0]) ⟨hx, hb, hml, hown, hts⟩ (r_X12_readSet l dC dI a k h0 (fT (fT (fT (fT (fT (fT (fT (fT (fT vi 110 1) 111 r38) 112 0) 17 (nI a266)) 19 (nI f266)) 20 sg66) 18 wd66) 21 s238) 22 p238) vj vF vG tp a266 f266 nm se pa va hTp (by first | assumption | decide | omega | rfl) rfl rfl (f66_0) (f38_2) hnm (by first | assumption | decide | omega | rfl) (by first | assumption | decide | omega | rfl) (by first | assumption | decide | omega | rfl) H.size) (cwV 0 hts gwsRX12_readPlaces_2 rfl rfl rfl hd_yX12_readSet_RX12 (by decide +kernel)) (fz_preE (va_recv hK hP (ci := 12) (q0 := 0) rfl rfl) hP hK hD (fun a U g mk qE => qE.same rfl) (fun U hU9 hW => by rw [hU9]; exact (((hE : StrA A s s.heap).kept hS.2.1).narrow (fun q h => hFc q h)).warm hW)) rfl rfl hl.1 rfl (lv_room (Nat.le_of_ble_eq_true rfl)) dX12_readPlaces_71 (by decide +kernel)) hS (fun q _ h => hFc q h) hFc (fun r71 u t9_ H locs ht hvm hw9 hB9 hz1 hk1 hS => ?_)
            obtain ⟨a271, f271, sg71, wd71, s271, p271⟩ := u
            try dsimp only at hw9 hB9
            have hP : va_P (dC, dI) vwCl (WR a k h0 (fT (fT (fT (fT (fT (fT (fT (fT (fT (fT (fT (fT (fT (fT (fT vi 110 1) 111 r38) 112 0) 17 (nI a266)) 19 (nI f266)) 20 sg66) 18 wd66) 21 s238) 22 p238) 17 (nI a271)) 19 (nI f271)) 20 sg71) 18 wd71) 21 s271) 22 p271) vj vF vG) H := fz_P ht hB9.1
            have hD : va_D A (WR a k h0 (fT (fT (fT (fT (fT (fT (fT (fT (fT (fT (fT (fT (fT (fT (fT vi 110 1) 111 r38) 112 0) 17 (nI a266)) 19 (nI f266)) 20 sg66) 18 wd66) 21 s238) 22 p238) 17 (nI a271)) 19 (nI f271)) 20 sg71) 18 wd71) 21 s271) 22 p271) vj vF vG) := hB9.2.weaken (fun _ q _ h => hFc q.1 h)
            have e9 : fT (fT (fT (fT (fT (fT (fT (fT (fT vi 110 1) 111 r38) 112 0) 17 (nI a271)) 19 (nI f271)) 20 sg71) 18 wd71) 21 s271) 22 p271 = fT (fT (fT (fT (fT (fT (fT (fT (fT (fT (fT (fT (fT (fT (fT vi 110 1) 111 r38) 112 0) 17 (nI a266)) 19 (nI f266)) 20 sg66) 18 wd66) 21 s238) 22 p238) 17 (nI a271)) 19 (nI f271)) 20 sg71) 18 wd71) 21 s271) 22 p271 := ((congrArg (fun g9 => fT (fT (fT (fT (fT g9 19 (nI f271)) 20 sg71) 18 wd71) 21 s271) 22 p271) ((fT_sw _ _ _ (Nat.ne_of_beq_eq_false rfl)).trans (congrArg (fun g9 => fT g9 22 p238) ((fT_sw _ _ _ (Nat.ne_of_beq_eq_false rfl)).trans (congrArg (fun g9 => fT g9 21 s238) ((fT_sw _ _ _ (Nat.ne_of_beq_eq_false rfl)).trans (congrArg (fun g9 => fT g9 18 wd66) ((fT_sw _ _ _ (Nat.ne_of_beq_eq_false rfl)).trans (congrArg (fun g9 => fT g9 20 sg66) ((fT_sw _ _ _ (Nat.ne_of_beq_eq_false rfl)).trans (congrArg (fun g9 => fT g9 19 (nI f266)) (fT_sm _ _ _ _)))))))))))).trans ((congrArg (fun g9 => fT (fT (fT (fT g9 20 sg71) 18 wd71) 21 s271) 22 p271) ((fT_sw _ _ _ (Nat.ne_of_beq_eq_false rfl)).trans (congrArg (fun g9 => fT g9 22 p238) ((fT_sw _ _ _ (Nat.ne_of_beq_eq_false rfl)).trans (congrArg (fun g9 => fT g9 21 s238) ((fT_sw _ _ _ (Nat.ne_of_beq_eq_false rfl)).trans (congrArg (fun g9 => fT g9 18 wd66) ((fT_sw _ _ _ (Nat.ne_of_beq_eq_false rfl)).trans (congrArg (fun g9 => fT g9 20 sg66) (fT_sm _ _ _ _)))))))))).trans ((congrArg (fun g9 => fT (fT (fT g9 18 wd71) 21 s271) 22 p271) ((fT_sw _ _ _ (Nat.ne_of_beq_eq_false rfl)).trans (congrArg (fun g9 => fT g9 22 p238) ((fT_sw _ _ _ (Nat.ne_of_beq_eq_false rfl)).trans (congrArg (fun g9 => fT g9 21 s238) ((fT_sw _ _ _ (Nat.ne_of_beq_eq_false rfl)).trans (congrArg (fun g9 => fT g9 18 wd66) (fT_sm _ _ _ _)))))))).trans ((congrArg (fun g9 => fT (fT g9 21 s271) 22 p271) ((fT_sw _ _ _ (Nat.ne_of_beq_eq_false rfl)).trans (congrArg (fun g9 => fT g9 22 p238) ((fT_sw _ _ _ (Nat.ne_of_beq_eq_false rfl)).trans (congrArg (fun g9 => fT g9 21 s238) (fT_sm _ _ _ _)))))).trans ((congrArg (fun g9 => fT g9 22 p271) ((fT_sw _ _ _ (Nat.ne_of_beq_eq_false rfl)).trans (congrArg (fun g9 => fT g9 22 p238) (fT_sm _ _ _ _)))).trans (fT_sm _ _ _ _)))))).symm
            rw [← e9] at hP hD
            clear e9
            have hP : va_P (dC, dI) vwCl (WR a k h0 (fT (fT (fT (fT (fT (fT (fT (fT (fT vi 110 1) 111 r38) 112 0) 17 (nI a271)) 19 (nI f271)) 20 sg71) 18 wd71) 21 s271) 22 p271) vj vF vG) H := hP
            have hD : va_D A (WR a k h0 (fT (fT (fT (fT (fT (fT (fT (fT (fT vi 110 1) 111 r38) 112 0) 17 (nI a271)) 19 (nI f271)) 20 sg71) 18 wd71) 21 s271) 22 p271) vj vF vG) := hD
            obtain ⟨f71_0, f71_1, f71_2, f71_3⟩ := hw9
            refine va_put (D := (dC, dI)) (ci := 12) (v := .int r71) (ty := .int) (C := RX12) (T := TX12) (N := 163) (fs := fM (vS a (fT (fT (fT (fT (fT (fT (fT (fT (fT vi 110 1) 111 r38) 112 0) 17 (nI a271)) 19 (nI f271)) 20 sg71) 18 wd71) 21 s271) 22 p271) vj)) hx hb hts iwsRX12_readPlaces_in12 tyX12 tyX12_ok nmX12 hown hK hP hD hS 0 rfl rfl 112 (by decide) (hts (.fieldLink RX12 711 "OptimaWorksModel" "placeTwo" "I") (by decide +kernel)) (fun _ h9 => h9) rfl (by decide +kernel) rfl rfl (Nat.le_of_ble_eq_true rfl) dX12_readPlaces_74 (fun H locs hP hD hS => ?_)
            have e9 : fT (fT (fT (fT (fT (fT (fT (fT (fT vi 110 1) 111 r38) 112 r71) 17 (nI a271)) 19 (nI f271)) 20 sg71) 18 wd71) 21 s271) 22 p271 = fT (fT (fT (fT (fT (fT (fT (fT (fT (fT vi 110 1) 111 r38) 112 0) 17 (nI a271)) 19 (nI f271)) 20 sg71) 18 wd71) 21 s271) 22 p271) 112 r71 := ((fT_sw _ _ _ (Nat.ne_of_beq_eq_false rfl)).trans (congrArg (fun g9 => fT g9 22 p271) ((fT_sw _ _ _ (Nat.ne_of_beq_eq_false rfl)).trans (congrArg (fun g9 => fT g9 21 s271) ((fT_sw _ _ _ (Nat.ne_of_beq_eq_false rfl)).trans (congrArg (fun g9 => fT g9 18 wd71) ((fT_sw _ _ _ (Nat.ne_of_beq_eq_false rfl)).trans (congrArg (fun g9 => fT g9 20 sg71) ((fT_sw _ _ _ (Nat.ne_of_beq_eq_false rfl)).trans (congrArg (fun g9 => fT g9 19 (nI f271)) ((fT_sw _ _ _ (Nat.ne_of_beq_eq_false rfl)).trans (congrArg (fun g9 => fT g9 17 (nI a271)) (fT_sm _ _ _ _))))))))))))).symm
            have hP : va_P (dC, dI) vwCl (WR a k h0 (fT (fT (fT (fT (fT (fT (fT (fT (fT vi 110 1) 111 r38) 112 r71) 17 (nI a271)) 19 (nI f271)) 20 sg71) 18 wd71) 21 s271) 22 p271) vj vF vG) H := by rw [e9, ← WR_i 112 _ rfl]; exact hP
            have hD : va_D A (WR a k h0 (fT (fT (fT (fT (fT (fT (fT (fT (fT vi 110 1) 111 r38) 112 r71) 17 (nI a271)) 19 (nI f271)) 20 sg71) 18 wd71) 21 s271) 22 p271) vj vF vG) := by rw [e9, ← WR_i 112 _ rfl]; exact hD
            clear e9
            refine lv_aload_n hx hb dX12_readPlaces_77 rfl (lv_at hl 0 rfl) ?_
            refine lv_iconst (v := 2) hx hb dX12_readPlaces_78 (by decide) ?_
            refine va_put (D := (dC, dI)) (ci := 12) (v := .int 2) (ty := .int) (C := RX12) (T := TX12) (N := 163) (fs := fM (vS a (fT (fT (fT (fT (fT (fT (fT (fT (fT vi 110 1) 111 r38) 112 r71) 17 (nI a271)) 19 (nI f271)) 20 sg71) 18 wd71) 21 s271) 22 p271) vj)) hx hb hts iwsRX12_readPlaces_in12 tyX12 tyX12_ok nmX12 hown hK hP hD hS 0 rfl rfl 110 (by decide) (hts (.fieldLink RX12 705 "OptimaWorksModel" "places" "I") (by decide +kernel)) (fun _ h9 => h9) rfl (by decide +kernel) rfl rfl (Nat.le_of_ble_eq_true rfl) dX12_readPlaces_79 (fun H locs hP hD hS => ?_)
            have e9 : fT (fT (fT (fT (fT (fT (fT (fT (fT vi 110 2) 111 r38) 112 r71) 17 (nI a271)) 19 (nI f271)) 20 sg71) 18 wd71) 21 s271) 22 p271 = fT (fT (fT (fT (fT (fT (fT (fT (fT (fT vi 110 1) 111 r38) 112 r71) 17 (nI a271)) 19 (nI f271)) 20 sg71) 18 wd71) 21 s271) 22 p271) 110 2 := ((fT_sw _ _ _ (Nat.ne_of_beq_eq_false rfl)).trans (congrArg (fun g9 => fT g9 22 p271) ((fT_sw _ _ _ (Nat.ne_of_beq_eq_false rfl)).trans (congrArg (fun g9 => fT g9 21 s271) ((fT_sw _ _ _ (Nat.ne_of_beq_eq_false rfl)).trans (congrArg (fun g9 => fT g9 18 wd71) ((fT_sw _ _ _ (Nat.ne_of_beq_eq_false rfl)).trans (congrArg (fun g9 => fT g9 20 sg71) ((fT_sw _ _ _ (Nat.ne_of_beq_eq_false rfl)).trans (congrArg (fun g9 => fT g9 19 (nI f271)) ((fT_sw _ _ _ (Nat.ne_of_beq_eq_false rfl)).trans (congrArg (fun g9 => fT g9 17 (nI a271)) ((fT_sw _ _ _ (Nat.ne_of_beq_eq_false rfl)).trans (congrArg (fun g9 => fT g9 112 r71) ((fT_sw _ _ _ (Nat.ne_of_beq_eq_false rfl)).trans (congrArg (fun g9 => fT g9 111 r38) (fT_sm _ _ _ _))))))))))))))))).symm
            have hP : va_P (dC, dI) vwCl (WR a k h0 (fT (fT (fT (fT (fT (fT (fT (fT (fT vi 110 2) 111 r38) 112 r71) 17 (nI a271)) 19 (nI f271)) 20 sg71) 18 wd71) 21 s271) 22 p271) vj vF vG) H := by rw [e9, ← WR_i 110 _ rfl]; exact hP
            have hD : va_D A (WR a k h0 (fT (fT (fT (fT (fT (fT (fT (fT (fT vi 110 2) 111 r38) 112 r71) 17 (nI a271)) 19 (nI f271)) 20 sg71) 18 wd71) 21 s271) 22 p271) vj vF vG) := by rw [e9, ← WR_i 110 _ rfl]; exact hD
            clear e9
            have hl : lv_has _ _ ([(0, .ref h0)]) := lv_sub hl [0] rfl
            exact join1 _ _ _ _ ⟨a271, f271, wd71, sg71, s271, 2, r71, p271, f71_0, by (have h9 := f38_0.1); (have h8 := f66_1); (have h7 := f66_0.1); (have h6 := f71_1); omega, f71_2, by (obtain ⟨_, _, o1, h7, h6⟩ := f38_3.resolve_left (fun h => by omega)); rcases f71_3 with h9 | ⟨_, _, o2, h5, h4⟩; (exact Or.inl h9); (exact Or.inr ⟨2, o1, o2, by decide, h6, h4, by omega, by omega, by omega, fun _ => h7, fun _ => h5⟩), rfl, hP, hD, hS, hl⟩
          · have f59_0 : ¬ (wd38.toInt = 4 ∧ sg38 = 44) := f59_0
            refine lv_if_eq (tgt := 82) hx hb dX12_readPlaces_62 (by decide) (fun _ => ?_) (fun c9 => absurd (by decide) c9)
            have hl : lv_has _ _ ([(0, .ref h0)]) := lv_sub hl [0] rfl
            exact join1 _ _ _ _ ⟨a238, f238, wd38, sg38, s238, 1, 0, p238, f38_0, by omega, f38_2, by rcases f38_3 with h9 | ⟨_, _, o1, h7, h6⟩; (exact Or.inl h9); (exact Or.inr ⟨1, o1, 0, by decide, h6, by decide, by omega, by omega, by omega, fun _ => h7, fun h9 => absurd h9 (by omega)⟩), rfl, hP, hD, hS, hl⟩
      · rintro H locs ls stk ⟨a6, f6, w6, g6, s6, ps6, pt6, j1_i22, hLx6, hf6, hs6, hpl6, rfl, hP, hD, hS, hl⟩
        refine lv_aload_n hx hb dX12_readPlaces_82 rfl (lv_at hl 0 rfl) ?_
        refine lv_bipush (v := 93) hx hb dX12_readPlaces_83 (by decide) ?_
        have hFc := allFree hD hS hA
        refine va_calli (va_runV (As := [.int 93]) (rest := []) ⟨hx, hb, hml, hown, hts⟩ (r_X12_needSign l dC dI a k h0 (fT (fT (fT (fT (fT (fT (fT (fT (fT vi 110 ps6) 111 r38) 112 pt6) 17 (nI a6)) 19 (nI f6)) 20 g6) 18 w6) 21 s6) 22 j1_i22) vj vF vG 93 tp a6 f6 hTp (by first | assumption | decide | omega | rfl) rfl rfl (hLx6) (hs6) H.size) (cwV 1 hts gwsRX12_readPlaces_3 rfl rfl rfl hd_yX12_needSign_RX12 (by decide +kernel)) (fz_preE (va_recv hK hP (ci := 12) (q0 := 0) rfl rfl) hP hK hD (fun a U g mk qE => qE.same rfl) (fun U hU9 hW => by rw [hU9]; exact (((hE : StrA A s s.heap).kept hS.2.1).narrow (fun q h => hFc q h)).warm hW)) rfl rfl hl.1 rfl (lv_room (Nat.le_of_ble_eq_true rfl)) dX12_readPlaces_85 (by decide +kernel)) hS (fun q _ h => hFc q h) hFc (fun r85 u t9_ H locs ht hvm hw9 hB9 hz1 hk1 hS => ?_)
        obtain ⟨a285, f285, sg85, wd85, s285, p285⟩ := u
        try dsimp only at hw9 hB9
        have hP : va_P (dC, dI) vwCl (WR a k h0 (fT (fT (fT (fT (fT (fT (fT (fT (fT (fT (fT (fT (fT (fT (fT vi 110 ps6) 111 r38) 112 pt6) 17 (nI a6)) 19 (nI f6)) 20 g6) 18 w6) 21 s6) 22 j1_i22) 17 (nI a285)) 19 (nI f285)) 20 sg85) 18 wd85) 21 s285) 22 p285) vj vF vG) H := fz_P ht hB9.1
        have hD : va_D A (WR a k h0 (fT (fT (fT (fT (fT (fT (fT (fT (fT (fT (fT (fT (fT (fT (fT vi 110 ps6) 111 r38) 112 pt6) 17 (nI a6)) 19 (nI f6)) 20 g6) 18 w6) 21 s6) 22 j1_i22) 17 (nI a285)) 19 (nI f285)) 20 sg85) 18 wd85) 21 s285) 22 p285) vj vF vG) := hB9.2.weaken (fun _ q _ h => hFc q.1 h)
        have e9 : fT (fT (fT (fT (fT (fT (fT (fT (fT vi 110 ps6) 111 r38) 112 pt6) 17 (nI a285)) 19 (nI f285)) 20 sg85) 18 wd85) 21 s285) 22 p285 = fT (fT (fT (fT (fT (fT (fT (fT (fT (fT (fT (fT (fT (fT (fT vi 110 ps6) 111 r38) 112 pt6) 17 (nI a6)) 19 (nI f6)) 20 g6) 18 w6) 21 s6) 22 j1_i22) 17 (nI a285)) 19 (nI f285)) 20 sg85) 18 wd85) 21 s285) 22 p285 := ((congrArg (fun g9 => fT (fT (fT (fT (fT g9 19 (nI f285)) 20 sg85) 18 wd85) 21 s285) 22 p285) ((fT_sw _ _ _ (Nat.ne_of_beq_eq_false rfl)).trans (congrArg (fun g9 => fT g9 22 j1_i22) ((fT_sw _ _ _ (Nat.ne_of_beq_eq_false rfl)).trans (congrArg (fun g9 => fT g9 21 s6) ((fT_sw _ _ _ (Nat.ne_of_beq_eq_false rfl)).trans (congrArg (fun g9 => fT g9 18 w6) ((fT_sw _ _ _ (Nat.ne_of_beq_eq_false rfl)).trans (congrArg (fun g9 => fT g9 20 g6) ((fT_sw _ _ _ (Nat.ne_of_beq_eq_false rfl)).trans (congrArg (fun g9 => fT g9 19 (nI f6)) (fT_sm _ _ _ _)))))))))))).trans ((congrArg (fun g9 => fT (fT (fT (fT g9 20 sg85) 18 wd85) 21 s285) 22 p285) ((fT_sw _ _ _ (Nat.ne_of_beq_eq_false rfl)).trans (congrArg (fun g9 => fT g9 22 j1_i22) ((fT_sw _ _ _ (Nat.ne_of_beq_eq_false rfl)).trans (congrArg (fun g9 => fT g9 21 s6) ((fT_sw _ _ _ (Nat.ne_of_beq_eq_false rfl)).trans (congrArg (fun g9 => fT g9 18 w6) ((fT_sw _ _ _ (Nat.ne_of_beq_eq_false rfl)).trans (congrArg (fun g9 => fT g9 20 g6) (fT_sm _ _ _ _)))))))))).trans ((congrArg (fun g9 => fT (fT (fT g9 18 wd85) 21 s285) 22 p285) ((fT_sw _ _ _ (Nat.ne_of_beq_eq_false rfl)).trans (congrArg (fun g9 => fT g9 22 j1_i22) ((fT_sw _ _ _ (Nat.ne_of_beq_eq_false rfl)).trans (congrArg (fun g9 => fT g9 21 s6) ((fT_sw _ _ _ (Nat.ne_of_beq_eq_false rfl)).trans (congrArg (fun g9 => fT g9 18 w6) (fT_sm _ _ _ _)))))))).trans ((congrArg (fun g9 => fT (fT g9 21 s285) 22 p285) ((fT_sw _ _ _ (Nat.ne_of_beq_eq_false rfl)).trans (congrArg (fun g9 => fT g9 22 j1_i22) ((fT_sw _ _ _ (Nat.ne_of_beq_eq_false rfl)).trans (congrArg (fun g9 => fT g9 21 s6) (fT_sm _ _ _ _)))))).trans ((congrArg (fun g9 => fT g9 22 p285) ((fT_sw _ _ _ (Nat.ne_of_beq_eq_false rfl)).trans (congrArg (fun g9 => fT g9 22 j1_i22) (fT_sm _ _ _ _)))).trans (fT_sm _ _ _ _)))))).symm
        rw [← e9] at hP hD
        clear e9
        have hP : va_P (dC, dI) vwCl (WR a k h0 (fT (fT (fT (fT (fT (fT (fT (fT (fT vi 110 ps6) 111 r38) 112 pt6) 17 (nI a285)) 19 (nI f285)) 20 sg85) 18 wd85) 21 s285) 22 p285) vj vF vG) H := hP
        have hD : va_D A (WR a k h0 (fT (fT (fT (fT (fT (fT (fT (fT (fT vi 110 ps6) 111 r38) 112 pt6) 17 (nI a285)) 19 (nI f285)) 20 sg85) 18 wd85) 21 s285) 22 p285) vj vF vG) := hD
        rcases hw9 with ⟨rfl, f85_0, f85_1, f85_2, f85_3⟩ | ⟨rfl, f85_0, f85_1, f85_2⟩
        · have f85_3 : s6 = 0 := f85_3
          refine lv_pop hx hb dX12_readPlaces_88 rfl ?_
          refine W.widen (k := 0) (n := 0) (by decide +kernel) (by decide +kernel) ?_
          exact W.vret hx hb hr (fun t9_ ht hW => ⟨⟨(a285, f285, sg85, wd85, s285, p285, ps6, r38, pt6), rfl, by (try dsimp only); (have hg6 := hLx6.1); first | (exact ⟨f85_1, by omega, by omega, Or.inl f85_0⟩) | (exact ⟨f85_1, by omega, by (have h5 : (s285).toInt = 0 := by rw [f85_0]; decide); omega, by rcases hpl6 with h9 | h9; (exfalso; rw [f85_3] at h9; exact absurd h9 (by decide)); (exact Or.inr ⟨f85_0, i32z (by omega), h9⟩)⟩), by rw [ht]; exact hP, hD⟩, hS.F ht⟩) hS.2.2 dX12_readPlaces_89
        · refine lv_pop hx hb dX12_readPlaces_88 rfl ?_
          refine W.widen (k := 0) (n := 0) (by decide +kernel) (by decide +kernel) ?_
          exact W.vret hx hb hr (fun t9_ ht hW => ⟨⟨(a285, f285, sg85, wd85, s285, p285, ps6, r38, pt6), rfl, by (try dsimp only); (have hg6 := hLx6.1); first | (exact ⟨f85_1, by omega, by omega, Or.inl f85_0⟩) | (exact ⟨f85_1, by omega, by (have h5 : (s285).toInt = 0 := by rw [f85_0]; decide); omega, by rcases hpl6 with h9 | h9; (exfalso; rw [f85_3] at h9; exact absurd h9 (by decide)); (exact Or.inr ⟨f85_0, i32z (by omega), h9⟩)⟩), by rw [ht]; exact hP, hD⟩, hS.F ht⟩) hS.2.2 dX12_readPlaces_89
    · have f25_0 : ¬ ((vi 18).toInt = 4 ∧ (vi 20) = 91) := f25_0
      refine lv_if_ne (tgt := 32) hx hb dX12_readPlaces_28 (by decide) (fun c9 => absurd c9 (by decide)) (fun _ => ?_)
      refine W.widen (k := 0) (n := 0) (by decide +kernel) (by decide +kernel) ?_
      have e9 : fT (fT (fT (fT (fT (fT (fT (fT (fT vi 110 0) 111 0) 112 0) 17 (nI an)) 19 (nI fn)) 20 (vi 20)) 18 (vi 18)) 21 (vi 21)) 22 (vi 22) = fT (fT (fT vi 110 0) 111 0) 112 0 := by funext q9; by_cases h9_110 : q9 = 110; (subst h9_110; exact ((fT_ne _ _ (Nat.ne_of_beq_eq_false rfl)).trans ((fT_ne _ _ (Nat.ne_of_beq_eq_false rfl)).trans ((fT_ne _ _ (Nat.ne_of_beq_eq_false rfl)).trans ((fT_ne _ _ (Nat.ne_of_beq_eq_false rfl)).trans ((fT_ne _ _ (Nat.ne_of_beq_eq_false rfl)).trans ((fT_ne _ _ (Nat.ne_of_beq_eq_false rfl)).trans ((fT_ne _ _ (Nat.ne_of_beq_eq_false rfl)).trans ((fT_ne _ _ (Nat.ne_of_beq_eq_false rfl)).trans (fT_eq _ _ _))))))))).trans (Eq.trans (by first | rfl | assumption | (symm; assumption) | (subst_vars; rfl)) ((fT_ne _ _ (Nat.ne_of_beq_eq_false rfl)).trans ((fT_ne _ _ (Nat.ne_of_beq_eq_false rfl)).trans (fT_eq _ _ _))).symm)); by_cases h9_111 : q9 = 111; (subst h9_111; exact ((fT_ne _ _ (Nat.ne_of_beq_eq_false rfl)).trans ((fT_ne _ _ (Nat.ne_of_beq_eq_false rfl)).trans ((fT_ne _ _ (Nat.ne_of_beq_eq_false rfl)).trans ((fT_ne _ _ (Nat.ne_of_beq_eq_false rfl)).trans ((fT_ne _ _ (Nat.ne_of_beq_eq_false rfl)).trans ((fT_ne _ _ (Nat.ne_of_beq_eq_false rfl)).trans ((fT_ne _ _ (Nat.ne_of_beq_eq_false rfl)).trans (fT_eq _ _ _)))))))).trans (Eq.trans (by first | rfl | assumption | (symm; assumption) | (subst_vars; rfl)) ((fT_ne _ _ (Nat.ne_of_beq_eq_false rfl)).trans (fT_eq _ _ _)).symm)); by_cases h9_112 : q9 = 112; (subst h9_112; exact ((fT_ne _ _ (Nat.ne_of_beq_eq_false rfl)).trans ((fT_ne _ _ (Nat.ne_of_beq_eq_false rfl)).trans ((fT_ne _ _ (Nat.ne_of_beq_eq_false rfl)).trans ((fT_ne _ _ (Nat.ne_of_beq_eq_false rfl)).trans ((fT_ne _ _ (Nat.ne_of_beq_eq_false rfl)).trans ((fT_ne _ _ (Nat.ne_of_beq_eq_false rfl)).trans (fT_eq _ _ _))))))).trans (Eq.trans (by first | rfl | assumption | (symm; assumption) | (subst_vars; rfl)) (fT_eq _ _ _).symm)); by_cases h9_17 : q9 = 17; (subst h9_17; exact ((fT_ne _ _ (Nat.ne_of_beq_eq_false rfl)).trans ((fT_ne _ _ (Nat.ne_of_beq_eq_false rfl)).trans ((fT_ne _ _ (Nat.ne_of_beq_eq_false rfl)).trans ((fT_ne _ _ (Nat.ne_of_beq_eq_false rfl)).trans ((fT_ne _ _ (Nat.ne_of_beq_eq_false rfl)).trans (fT_eq _ _ _)))))).trans (Eq.trans (by first | rfl | assumption | (symm; assumption) | (subst_vars; rfl)) ((fT_ne _ _ (Nat.ne_of_beq_eq_false rfl)).trans ((fT_ne _ _ (Nat.ne_of_beq_eq_false rfl)).trans (fT_ne _ _ (Nat.ne_of_beq_eq_false rfl)))).symm)); by_cases h9_19 : q9 = 19; (subst h9_19; exact ((fT_ne _ _ (Nat.ne_of_beq_eq_false rfl)).trans ((fT_ne _ _ (Nat.ne_of_beq_eq_false rfl)).trans ((fT_ne _ _ (Nat.ne_of_beq_eq_false rfl)).trans ((fT_ne _ _ (Nat.ne_of_beq_eq_false rfl)).trans (fT_eq _ _ _))))).trans (Eq.trans (by first | rfl | assumption | (symm; assumption) | (subst_vars; rfl)) ((fT_ne _ _ (Nat.ne_of_beq_eq_false rfl)).trans ((fT_ne _ _ (Nat.ne_of_beq_eq_false rfl)).trans (fT_ne _ _ (Nat.ne_of_beq_eq_false rfl)))).symm)); by_cases h9_20 : q9 = 20; (subst h9_20; exact ((fT_ne _ _ (Nat.ne_of_beq_eq_false rfl)).trans ((fT_ne _ _ (Nat.ne_of_beq_eq_false rfl)).trans ((fT_ne _ _ (Nat.ne_of_beq_eq_false rfl)).trans (fT_eq _ _ _)))).trans (Eq.trans (by first | rfl | assumption | (symm; assumption) | (subst_vars; rfl)) ((fT_ne _ _ (Nat.ne_of_beq_eq_false rfl)).trans ((fT_ne _ _ (Nat.ne_of_beq_eq_false rfl)).trans (fT_ne _ _ (Nat.ne_of_beq_eq_false rfl)))).symm)); by_cases h9_18 : q9 = 18; (subst h9_18; exact ((fT_ne _ _ (Nat.ne_of_beq_eq_false rfl)).trans ((fT_ne _ _ (Nat.ne_of_beq_eq_false rfl)).trans (fT_eq _ _ _))).trans (Eq.trans (by first | rfl | assumption | (symm; assumption) | (subst_vars; rfl)) ((fT_ne _ _ (Nat.ne_of_beq_eq_false rfl)).trans ((fT_ne _ _ (Nat.ne_of_beq_eq_false rfl)).trans (fT_ne _ _ (Nat.ne_of_beq_eq_false rfl)))).symm)); by_cases h9_21 : q9 = 21; (subst h9_21; exact ((fT_ne _ _ (Nat.ne_of_beq_eq_false rfl)).trans (fT_eq _ _ _)).trans (Eq.trans (by first | rfl | assumption | (symm; assumption) | (subst_vars; rfl)) ((fT_ne _ _ (Nat.ne_of_beq_eq_false rfl)).trans ((fT_ne _ _ (Nat.ne_of_beq_eq_false rfl)).trans (fT_ne _ _ (Nat.ne_of_beq_eq_false rfl)))).symm)); by_cases h9_22 : q9 = 22; (subst h9_22; exact (fT_eq _ _ _).trans (Eq.trans (by first | rfl | assumption | (symm; assumption) | (subst_vars; rfl)) ((fT_ne _ _ (Nat.ne_of_beq_eq_false rfl)).trans ((fT_ne _ _ (Nat.ne_of_beq_eq_false rfl)).trans (fT_ne _ _ (Nat.ne_of_beq_eq_false rfl)))).symm)); exact ((fT_ne _ _ h9_22).trans ((fT_ne _ _ h9_21).trans ((fT_ne _ _ h9_18).trans ((fT_ne _ _ h9_20).trans ((fT_ne _ _ h9_19).trans ((fT_ne _ _ h9_17).trans ((fT_ne _ _ h9_112).trans ((fT_ne _ _ h9_111).trans (fT_ne _ _ h9_110))))))))).trans ((fT_ne _ _ h9_112).trans ((fT_ne _ _ h9_111).trans (fT_ne _ _ h9_110))).symm
      have hP : va_P (dC, dI) vwCl (WR a k h0 (fT (fT (fT (fT (fT (fT (fT (fT (fT vi 110 0) 111 0) 112 0) 17 (nI an)) 19 (nI fn)) 20 (vi 20)) 18 (vi 18)) 21 (vi 21)) 22 (vi 22)) vj vF vG) H := by rw [e9]; exact hP
      have hD : va_D A (WR a k h0 (fT (fT (fT (fT (fT (fT (fT (fT (fT vi 110 0) 111 0) 112 0) 17 (nI an)) 19 (nI fn)) 20 (vi 20)) 18 (vi 18)) 21 (vi 21)) 22 (vi 22)) vj vF vG) := by rw [e9]; exact hD
      clear e9
      exact W.vret hx hb hr (fun t9_ ht hW => ⟨⟨(an, fn, (vi 20), (vi 18), (vi 21), (vi 22), 0, 0, 0), rfl, by (try dsimp only); exact ⟨hLx, Nat.le_refl _, hst0, Or.inr ⟨i32z (by omega), i32z (by omega), 0, 0, 0, by decide, by decide, by decide, by omega, by omega, by omega, fun h9 => absurd h9 (by omega), fun h9 => absurd h9 (by omega)⟩⟩, by rw [ht]; exact hP, hD⟩, hS.F ht⟩) hS.2.2 dX12_readPlaces_31
theorem dX12_whole1_0 : decode cX12_whole1 0 = .ok (.aload_n 0, 1) := dk_42 (by decide +kernel)
theorem dX12_whole1_1 : decode cX12_whole1 1 = .ok (.getfield 170, 3) := dk_180 (by decide +kernel)
theorem dX12_whole1_4 : decode cX12_whole1 4 = .ok (.iload_n 1, 1) := dk_27 (by decide +kernel)
theorem dX12_whole1_5 : decode cX12_whole1 5 = .ok (.iaload, 1) := dk_46 (by decide +kernel)
theorem dX12_whole1_6 : decode cX12_whole1 6 = .ok (.i2l, 1) := dk_133 (by decide +kernel)
theorem dX12_whole1_7 : decode cX12_whole1 7 = .ok (.aload_n 0, 1) := dk_42 (by decide +kernel)
theorem dX12_whole1_8 : decode cX12_whole1 8 = .ok (.getfield 173, 3) := dk_180 (by decide +kernel)
theorem dX12_whole1_11 : decode cX12_whole1 11 = .ok (.bipush 9, 2) := dk_16 (by decide +kernel)
theorem dX12_whole1_13 : decode cX12_whole1 13 = .ok (.iload_n 1, 1) := dk_27 (by decide +kernel)
theorem dX12_whole1_14 : decode cX12_whole1 14 = .ok (.iadd, 1) := dk_96 (by decide +kernel)
theorem dX12_whole1_15 : decode cX12_whole1 15 = .ok (.iaload, 1) := dk_46 (by decide +kernel)
theorem dX12_whole1_16 : decode cX12_whole1 16 = .ok (.i2l, 1) := dk_133 (by decide +kernel)
theorem dX12_whole1_17 : decode cX12_whole1 17 = .ok (.lmul, 1) := dk_105 (by decide +kernel)
theorem dX12_whole1_18 : decode cX12_whole1 18 = .ok (.aload_n 0, 1) := dk_42 (by decide +kernel)
theorem dX12_whole1_19 : decode cX12_whole1 19 = .ok (.getfield 170, 3) := dk_180 (by decide +kernel)
theorem dX12_whole1_22 : decode cX12_whole1 22 = .ok (.bipush 9, 2) := dk_16 (by decide +kernel)
theorem dX12_whole1_24 : decode cX12_whole1 24 = .ok (.iload_n 1, 1) := dk_27 (by decide +kernel)
theorem dX12_whole1_25 : decode cX12_whole1 25 = .ok (.iadd, 1) := dk_96 (by decide +kernel)
theorem dX12_whole1_26 : decode cX12_whole1 26 = .ok (.iaload, 1) := dk_46 (by decide +kernel)
theorem dX12_whole1_27 : decode cX12_whole1 27 = .ok (.i2l, 1) := dk_133 (by decide +kernel)
theorem dX12_whole1_28 : decode cX12_whole1 28 = .ok (.aload_n 0, 1) := dk_42 (by decide +kernel)
theorem dX12_whole1_29 : decode cX12_whole1 29 = .ok (.getfield 173, 3) := dk_180 (by decide +kernel)
theorem dX12_whole1_32 : decode cX12_whole1 32 = .ok (.iload_n 1, 1) := dk_27 (by decide +kernel)
theorem dX12_whole1_33 : decode cX12_whole1 33 = .ok (.iaload, 1) := dk_46 (by decide +kernel)
theorem dX12_whole1_34 : decode cX12_whole1 34 = .ok (.i2l, 1) := dk_133 (by decide +kernel)
theorem dX12_whole1_35 : decode cX12_whole1 35 = .ok (.lmul, 1) := dk_105 (by decide +kernel)
theorem dX12_whole1_36 : decode cX12_whole1 36 = .ok (.lsub, 1) := dk_101 (by decide +kernel)
theorem dX12_whole1_37 : decode cX12_whole1 37 = .ok (.lstore_n 2, 1) := dk_65 (by decide +kernel)
theorem dX12_whole1_38 : decode cX12_whole1 38 = .ok (.aload_n 0, 1) := dk_42 (by decide +kernel)
theorem dX12_whole1_39 : decode cX12_whole1 39 = .ok (.getfield 173, 3) := dk_180 (by decide +kernel)
theorem dX12_whole1_42 : decode cX12_whole1 42 = .ok (.iload_n 1, 1) := dk_27 (by decide +kernel)
theorem dX12_whole1_43 : decode cX12_whole1 43 = .ok (.iaload, 1) := dk_46 (by decide +kernel)
theorem dX12_whole1_44 : decode cX12_whole1 44 = .ok (.i2l, 1) := dk_133 (by decide +kernel)
theorem dX12_whole1_45 : decode cX12_whole1 45 = .ok (.aload_n 0, 1) := dk_42 (by decide +kernel)
theorem dX12_whole1_46 : decode cX12_whole1 46 = .ok (.getfield 173, 3) := dk_180 (by decide +kernel)
theorem dX12_whole1_49 : decode cX12_whole1 49 = .ok (.bipush 9, 2) := dk_16 (by decide +kernel)
theorem dX12_whole1_51 : decode cX12_whole1 51 = .ok (.iload_n 1, 1) := dk_27 (by decide +kernel)
theorem dX12_whole1_52 : decode cX12_whole1 52 = .ok (.iadd, 1) := dk_96 (by decide +kernel)
theorem dX12_whole1_53 : decode cX12_whole1 53 = .ok (.iaload, 1) := dk_46 (by decide +kernel)
theorem dX12_whole1_54 : decode cX12_whole1 54 = .ok (.i2l, 1) := dk_133 (by decide +kernel)
theorem dX12_whole1_55 : decode cX12_whole1 55 = .ok (.lmul, 1) := dk_105 (by decide +kernel)
theorem dX12_whole1_56 : decode cX12_whole1 56 = .ok (.lstore 4, 2) := dk_55 (by decide +kernel)
theorem dX12_whole1_58 : decode cX12_whole1 58 = .ok (.lload_n 2, 1) := dk_32 (by decide +kernel)
theorem dX12_whole1_59 : decode cX12_whole1 59 = .ok (.lload 4, 2) := dk_22 (by decide +kernel)
theorem dX12_whole1_61 : decode cX12_whole1 61 = .ok (.invokestatic 626, 3) := dk_184 (by decide +kernel)
theorem dX12_whole1_64 : decode cX12_whole1 64 = .ok (.lstore 6, 2) := dk_55 (by decide +kernel)
theorem dX12_whole1_66 : decode cX12_whole1 66 = .ok (.aload_n 0, 1) := dk_42 (by decide +kernel)
theorem dX12_whole1_67 : decode cX12_whole1 67 = .ok (.bipush 10, 2) := dk_16 (by decide +kernel)
theorem dX12_whole1_69 : decode cX12_whole1 69 = .ok (.lload_n 2, 1) := dk_32 (by decide +kernel)
theorem dX12_whole1_70 : decode cX12_whole1 70 = .ok (.lload 6, 2) := dk_22 (by decide +kernel)
theorem dX12_whole1_72 : decode cX12_whole1 72 = .ok (.ldiv, 1) := dk_109 (by decide +kernel)
theorem dX12_whole1_73 : decode cX12_whole1 73 = .ok (.invokevirtual 369, 3) := dk_182 (by decide +kernel)
theorem dX12_whole1_76 : decode cX12_whole1 76 = .ok (.aload_n 0, 1) := dk_42 (by decide +kernel)
theorem dX12_whole1_77 : decode cX12_whole1 77 = .ok (.bipush 11, 2) := dk_16 (by decide +kernel)
theorem dX12_whole1_79 : decode cX12_whole1 79 = .ok (.lload 4, 2) := dk_22 (by decide +kernel)
theorem dX12_whole1_81 : decode cX12_whole1 81 = .ok (.lload 6, 2) := dk_22 (by decide +kernel)
theorem dX12_whole1_83 : decode cX12_whole1 83 = .ok (.ldiv, 1) := dk_109 (by decide +kernel)
theorem dX12_whole1_84 : decode cX12_whole1 84 = .ok (.invokevirtual 369, 3) := dk_182 (by decide +kernel)
theorem dX12_whole1_87 : decode cX12_whole1 87 = .ok (.aload_n 0, 1) := dk_42 (by decide +kernel)
theorem dX12_whole1_88 : decode cX12_whole1 88 = .ok (.bipush 13, 2) := dk_16 (by decide +kernel)
theorem dX12_whole1_90 : decode cX12_whole1 90 = .ok (.bipush 14, 2) := dk_16 (by decide +kernel)
theorem dX12_whole1_92 : decode cX12_whole1 92 = .ok (.bipush 19, 2) := dk_16 (by decide +kernel)
theorem dX12_whole1_94 : decode cX12_whole1 94 = .ok (.bipush 11, 2) := dk_16 (by decide +kernel)
theorem dX12_whole1_96 : decode cX12_whole1 96 = .ok (.invokevirtual 383, 3) := dk_182 (by decide +kernel)
theorem dX12_whole1_99 : decode cX12_whole1 99 = .ok (.aload_n 0, 1) := dk_42 (by decide +kernel)
theorem dX12_whole1_100 : decode cX12_whole1 100 = .ok (.bipush 17, 2) := dk_16 (by decide +kernel)
theorem dX12_whole1_102 : decode cX12_whole1 102 = .ok (.bipush 13, 2) := dk_16 (by decide +kernel)
theorem dX12_whole1_104 : decode cX12_whole1 104 = .ok (.bipush 10, 2) := dk_16 (by decide +kernel)
theorem dX12_whole1_106 : decode cX12_whole1 106 = .ok (.invokevirtual 390, 3) := dk_182 (by decide +kernel)
theorem dX12_whole1_109 : decode cX12_whole1 109 = .ok (.return_, 1) := dk_177 (by decide +kernel)
def wsRX12_whole1 : List Cond := .code yX12_whole1 cX12_whole1 8 none :: ([.fieldLink RX12 170 "OptimaWorksModel" "top" "[I", .fieldLink RX12 173 "OptimaWorksModel" "under" "[I"] ++ wsX120 ++ (va_wsS RX12 626 yX12_common1 wsRX12_common1) ++ (wsV RX12 369 RX12 yX12_put wsRX12_put) ++ (wsV RX12 383 RX12 yX12_divide wsRX12_divide) ++ (wsV RX12 390 RX12 yX12_times wsRX12_times))
theorem iwsRX12_whole1_in12 : ∀ w ∈ wsX120, w ∈ wsRX12_whole1 := fun _ h => List.mem_cons_of_mem _ (List.mem_append_left _ (List.mem_append_left _ (List.mem_append_left _ (List.mem_append_left _ (List.mem_append_right _ h)))))
theorem gwsRX12_whole1_0 : GoodIn wsRX12_whole1 (va_wsS RX12 626 yX12_common1 wsRX12_common1) := goodIn_sub (fun _ h => List.mem_cons_of_mem _ (List.mem_append_left _ (List.mem_append_left _ (List.mem_append_left _ (List.mem_append_right _ h))))) (gdS (by decide +kernel) gdwsRX12_common1)
theorem gwsRX12_whole1_1 : GoodIn wsRX12_whole1 (wsV RX12 369 RX12 yX12_put wsRX12_put) := goodIn_sub (fun _ h => List.mem_cons_of_mem _ (List.mem_append_left _ (List.mem_append_left _ (List.mem_append_right _ h)))) (gdV (by decide +kernel) gdwsRX12_put)
theorem gwsRX12_whole1_2 : GoodIn wsRX12_whole1 (wsV RX12 383 RX12 yX12_divide wsRX12_divide) := goodIn_sub (fun _ h => List.mem_cons_of_mem _ (List.mem_append_left _ (List.mem_append_right _ h))) (gdV (by decide +kernel) gdwsRX12_divide)
theorem gwsRX12_whole1_3 : GoodIn wsRX12_whole1 (wsV RX12 390 RX12 yX12_times wsRX12_times) := goodIn_sub (fun _ h => List.mem_cons_of_mem _ (List.mem_append_right _ h)) (gdV (by decide +kernel) gdwsRX12_times)
theorem gdwsRX12_whole1 : wsRX12_whole1.all goodWord = true := gdC rfl (gdA (gdA (gdA (gdA (gdA (by decide +kernel : ([.fieldLink RX12 170 "OptimaWorksModel" "top" "[I", .fieldLink RX12 173 "OptimaWorksModel" "under" "[I"] : List Cond).all goodWord = true) gdwsX120) (gdS (by decide +kernel) gdwsRX12_common1)) (gdV (by decide +kernel) gdwsRX12_put)) (gdV (by decide +kernel) gdwsRX12_divide)) (gdV (by decide +kernel) gdwsRX12_times))
set_option maxHeartbeats 4000000 in
set_option maxRecDepth 100000 in
/-- whole1(k) -/
theorem r_X12_whole1 (l : Launch) (dC : Nat → ClassId) (dI : Nat → Nat → Nat) (a : Nat → Nat) (k : Nat → ClassId) (h0 : Nat) (vi : Nat → Int32) (vj : Nat → Int64) (vF : Nat → Nat → Int32) (vG : Nat → Nat → Int64) (kN : Nat) (mg : Nat → Int) (hBg : Bg (vF 0) mg) (hkN : kN < 9) (hR0 : RowU (vF 49) (vF 50) 0) (hR1 : RowU (vF 49) (vF 50) 1) (h19b : (mg 19).natAbs < 2 ^ 380) (sz : Nat) : Met l yX12_whole1 wsRX12_whole1 ({ frames := 2, cells := 0, slots := 0, locals := 62 }) (va_Pc [.ref h0, .int (nI kN)] (fun U => U.heap.size = sz ∧ va_P (dC, dI) vwCl (WR a k h0 vi vj vF vG) U.heap ∧ va_K (dC, dI) vwCl (tX12 k) U ∧ va_D (fun _ => True) (WR a k h0 vi vj vF vG))) (va_Qv (fun (u : (Nat → Int32) × (Nat → Int32) × (Nat → Int32) × (Nat → Int64) × (Nat → Int)) => (Bg (u.1) (u.2.2.2.2)) ∧ (∀ q, (q < 10 ∨ 14 < q) → q ≠ 17 → (u.2.2.2.2) q = mg q)) (fun (u : (Nat → Int32) × (Nat → Int32) × (Nat → Int32) × (Nat → Int64) × (Nat → Int)) t => va_P (dC, dI) vwCl (WR a k h0 vi vj (fT (fT (fT vF 0 (u.1)) 2 (u.2.1)) 3 (u.2.2.1)) (fT vG 1 (u.2.2.2.1))) t.heap ∧ va_D (va_A (WR a k h0 vi vj vF vG) sz) (WR a k h0 vi vj (fT (fT (fT vF 0 (u.1)) 2 (u.2.1)) 3 (u.2.2.1)) (fT vG 1 (u.2.2.2.1)))) (va_A (WR a k h0 vi vj vF vG) sz)) 0 0 (va_A (WR a k h0 vi vj vF vG) sz) := by
  refine Met.ofW (cc := cX12_whole1) (maxL := 8) (ret := none) (by decide) rfl ?_
  intro p e s m args below meth c s₁ B hml hv
  obtain ⟨rfl, hsz, hP, hK, hD0⟩ := hv
  have hx := B.exec
  have hb := B.bytes
  have hr := B.returns
  have hts := atoms_spec (ws := wsRX12_whole1) B.pre
  have hown : s.vm.findClass RX12 = some m.cls := findClass_of_methodNamed B.named
  have hlocks := B.notSynchronized
  subst hsz
  have hD := hD0.self (sz := s.heap.size)
  generalize hAe : va_A (WR a k h0 vi vj vF vG) s.heap.size = A at hD ⊢
  have hA : ∀ q : Nat, s.heap.size ≤ q → A q := fun q h => by rw [← hAe]; exact Or.inr h
  have hS : va_S A s.heap s.heap [] := va_S.rf
  have hl := lv_entry ([.ref h0, .int (nI kN)]) (n := 8) (Nat.le_of_ble_eq_true rfl)
  rw [lg_entry_eq]
  generalize (lg_sl ([.ref h0, .int (nI kN)]) ++ List.replicate (8 - (lg_sl ([.ref h0, .int (nI kN)])).length) Slot.unset).toArray = ls at hl ⊢
  have hl : lv_has ls 8 [(0, .ref h0), (1, .int (nI kN))] := hl
  have r0 := hR0 kN (by omega)
  have r1 := hR1 kN (by omega)
  rw [Nat.mul_zero, Nat.zero_add] at r0
  rw [Nat.mul_one] at r1
  have b1 : ((vF 49 kN).toInt * (vF 50 (9 + kN)).toInt).natAbs ≤ 2000000 * 2000000 := mul_box (by omega) (by omega)
  have b2 : ((vF 49 (9 + kN)).toInt * (vF 50 kN).toInt).natAbs ≤ 2000000 * 2000000 := mul_box (by omega) (by omega)
  have b3 : ((vF 50 kN).toInt * (vF 50 (9 + kN)).toInt).natAbs ≤ 2000000 * 2000000 := mul_box (by omega) (by omega)
  have b4 : 0 < (vF 50 kN).toInt * (vF 50 (9 + kN)).toInt := Int.mul_pos (by omega) (by omega)
  have m1 := mulI (x := (vF 49 kN)) (y := (vF 50 (9 + kN)))
  have m2 := mulI (x := (vF 49 (9 + kN))) (y := (vF 50 kN))
  have m3 := mulI (x := (vF 50 kN)) (y := (vF 50 (9 + kN)))
  refine lv_aload_n hx hb dX12_whole1_0 rfl (lv_at hl 0 rfl) ?_
  refine va_get (D := (dC, dI)) (ci := 12) (v := .ref (a 49)) (C := RX12) (T := TX12) (N := 163) (fs := fM (vS a vi vj)) hx hb hts iwsRX12_whole1_in12 hown hK hP 0 rfl rfl 78 (by decide) (hts (.fieldLink RX12 170 "OptimaWorksModel" "top" "[I") (by decide +kernel)) (fun _ h9 => h9) rfl dX12_whole1_1 ?_
  refine lv_iload_n hx hb dX12_whole1_4 rfl (lv_at hl 1 rfl) ?_
  refine va_iald (cA := k 49) (n := 900) (f := (vF 49)) hx hb hK hP 50 49 (WR_get 49 (by decide)) (TR_get 49 (by decide)) (vp_in_nI (show kN < 900 by omega) (by omega)) dX12_whole1_5 ?_
  refine lv_topi (fun y1 hy1 => ?_)
  obtain rfl : ((vF 49) kN) = y1 := (hy1.trans (by rw [nI_clamp (by omega)])).symm
  refine lv_i2l hx hb dX12_whole1_6 rfl ?_
  refine lv_aload_n hx hb dX12_whole1_7 rfl (lv_at hl 0 rfl) ?_
  refine va_get (D := (dC, dI)) (ci := 12) (v := .ref (a 50)) (C := RX12) (T := TX12) (N := 163) (fs := fM (vS a vi vj)) hx hb hts iwsRX12_whole1_in12 hown hK hP 0 rfl rfl 79 (by decide) (hts (.fieldLink RX12 173 "OptimaWorksModel" "under" "[I") (by decide +kernel)) (fun _ h9 => h9) rfl dX12_whole1_8 ?_
  refine lv_bipush (v := 9) hx hb dX12_whole1_11 (by decide) ?_
  refine lv_iload_n hx hb dX12_whole1_13 rfl (lv_at hl 1 rfl) ?_
  refine lv_iadd hx hb dX12_whole1_14 ?_
  refine lv_topi (fun y2 hy2 => ?_)
  obtain rfl : (nI (9 + kN)) = y2 := (hy2.trans (nI_add 9 kN)).symm
  refine va_iald (cA := k 50) (n := 900) (f := (vF 50)) hx hb hK hP 51 50 (WR_get 50 (by decide)) (TR_get 50 (by decide)) (vp_in_nI (show (9 + kN) < 900 by omega) (by omega)) dX12_whole1_15 ?_
  refine lv_topi (fun y3 hy3 => ?_)
  obtain rfl : ((vF 50) (9 + kN)) = y3 := (hy3.trans (by rw [nI_clamp (by omega)])).symm
  refine lv_i2l hx hb dX12_whole1_16 rfl ?_
  refine lv_lmul hx hb dX12_whole1_17 ?_
  refine lv_aload_n hx hb dX12_whole1_18 rfl (lv_at hl 0 rfl) ?_
  refine va_get (D := (dC, dI)) (ci := 12) (v := .ref (a 49)) (C := RX12) (T := TX12) (N := 163) (fs := fM (vS a vi vj)) hx hb hts iwsRX12_whole1_in12 hown hK hP 0 rfl rfl 78 (by decide) (hts (.fieldLink RX12 170 "OptimaWorksModel" "top" "[I") (by decide +kernel)) (fun _ h9 => h9) rfl dX12_whole1_19 ?_
  refine lv_bipush (v := 9) hx hb dX12_whole1_22 (by decide) ?_
  refine lv_iload_n hx hb dX12_whole1_24 rfl (lv_at hl 1 rfl) ?_
  refine lv_iadd hx hb dX12_whole1_25 ?_
  refine lv_topi (fun y4 hy4 => ?_)
  obtain rfl : (nI (9 + kN)) = y4 := (hy4.trans (nI_add 9 kN)).symm
  refine va_iald (cA := k 49) (n := 900) (f := (vF 49)) hx hb hK hP 50 49 (WR_get 49 (by decide)) (TR_get 49 (by decide)) (vp_in_nI (show (9 + kN) < 900 by omega) (by omega)) dX12_whole1_26 ?_
  refine lv_topi (fun y5 hy5 => ?_)
  obtain rfl : ((vF 49) (9 + kN)) = y5 := (hy5.trans (by rw [nI_clamp (by omega)])).symm
  refine lv_i2l hx hb dX12_whole1_27 rfl ?_
  refine lv_aload_n hx hb dX12_whole1_28 rfl (lv_at hl 0 rfl) ?_
  refine va_get (D := (dC, dI)) (ci := 12) (v := .ref (a 50)) (C := RX12) (T := TX12) (N := 163) (fs := fM (vS a vi vj)) hx hb hts iwsRX12_whole1_in12 hown hK hP 0 rfl rfl 79 (by decide) (hts (.fieldLink RX12 173 "OptimaWorksModel" "under" "[I") (by decide +kernel)) (fun _ h9 => h9) rfl dX12_whole1_29 ?_
  refine lv_iload_n hx hb dX12_whole1_32 rfl (lv_at hl 1 rfl) ?_
  refine va_iald (cA := k 50) (n := 900) (f := (vF 50)) hx hb hK hP 51 50 (WR_get 50 (by decide)) (TR_get 50 (by decide)) (vp_in_nI (show kN < 900 by omega) (by omega)) dX12_whole1_33 ?_
  refine lv_topi (fun y6 hy6 => ?_)
  obtain rfl : ((vF 50) kN) = y6 := (hy6.trans (by rw [nI_clamp (by omega)])).symm
  refine lv_i2l hx hb dX12_whole1_34 rfl ?_
  refine lv_lmul hx hb dX12_whole1_35 ?_
  refine lv_lsub hx hb dX12_whole1_36 ?_
  obtain ⟨nL, hnL⟩ : ∃ nL, nL = ((((((vF 49) kN)).toInt64 * (((vF 50) (9 + kN))).toInt64) - ((((vF 49) (9 + kN))).toInt64 * (((vF 50) kN)).toInt64)) : Int64) := ⟨_, rfl⟩
  have en : nL.toInt = (vF 49 kN).toInt * (vF 50 (9 + kN)).toInt - (vF 49 (9 + kN)).toInt * (vF 50 kN).toInt := by rw [hnL, sub64 (by omega) (by omega), m1, m2]
  refine lv_topl (fun y7 hy7 => ?_)
  obtain rfl : nL = y7 := (hy7.trans (hnL.symm)).symm
  refine lv_lstore_n hx hb dX12_whole1_37 rfl hl (by decide) rfl (fun ls (hl : lv_has ls _ ([(2, .long nL), (0, .ref h0), (1, .int (nI kN))])) => ?_)
  refine lv_aload_n hx hb dX12_whole1_38 rfl (lv_at hl 1 rfl) ?_
  refine va_get (D := (dC, dI)) (ci := 12) (v := .ref (a 50)) (C := RX12) (T := TX12) (N := 163) (fs := fM (vS a vi vj)) hx hb hts iwsRX12_whole1_in12 hown hK hP 0 rfl rfl 79 (by decide) (hts (.fieldLink RX12 173 "OptimaWorksModel" "under" "[I") (by decide +kernel)) (fun _ h9 => h9) rfl dX12_whole1_39 ?_
  refine lv_iload_n hx hb dX12_whole1_42 rfl (lv_at hl 2 rfl) ?_
  refine va_iald (cA := k 50) (n := 900) (f := (vF 50)) hx hb hK hP 51 50 (WR_get 50 (by decide)) (TR_get 50 (by decide)) (vp_in_nI (show kN < 900 by omega) (by omega)) dX12_whole1_43 ?_
  refine lv_topi (fun y8 hy8 => ?_)
  obtain rfl : ((vF 50) kN) = y8 := (hy8.trans (by rw [nI_clamp (by omega)])).symm
  refine lv_i2l hx hb dX12_whole1_44 rfl ?_
  refine lv_aload_n hx hb dX12_whole1_45 rfl (lv_at hl 1 rfl) ?_
  refine va_get (D := (dC, dI)) (ci := 12) (v := .ref (a 50)) (C := RX12) (T := TX12) (N := 163) (fs := fM (vS a vi vj)) hx hb hts iwsRX12_whole1_in12 hown hK hP 0 rfl rfl 79 (by decide) (hts (.fieldLink RX12 173 "OptimaWorksModel" "under" "[I") (by decide +kernel)) (fun _ h9 => h9) rfl dX12_whole1_46 ?_
  refine lv_bipush (v := 9) hx hb dX12_whole1_49 (by decide) ?_
  refine lv_iload_n hx hb dX12_whole1_51 rfl (lv_at hl 2 rfl) ?_
  refine lv_iadd hx hb dX12_whole1_52 ?_
  refine lv_topi (fun y9 hy9 => ?_)
  obtain rfl : (nI (9 + kN)) = y9 := (hy9.trans (nI_add 9 kN)).symm
  refine va_iald (cA := k 50) (n := 900) (f := (vF 50)) hx hb hK hP 51 50 (WR_get 50 (by decide)) (TR_get 50 (by decide)) (vp_in_nI (show (9 + kN) < 900 by omega) (by omega)) dX12_whole1_53 ?_
  refine lv_topi (fun y10 hy10 => ?_)
  obtain rfl : ((vF 50) (9 + kN)) = y10 := (hy10.trans (by rw [nI_clamp (by omega)])).symm
  refine lv_i2l hx hb dX12_whole1_54 rfl ?_
  refine lv_lmul hx hb dX12_whole1_55 ?_
  obtain ⟨dL, hdL⟩ : ∃ dL, dL = (((((vF 50) kN)).toInt64 * (((vF 50) (9 + kN))).toInt64) : Int64) := ⟨_, rfl⟩
  have ed : dL.toInt = (vF 50 kN).toInt * (vF 50 (9 + kN)).toInt := by rw [hdL, m3]
  refine lv_topl (fun y11 hy11 => ?_)
  obtain rfl : dL = y11 := (hy11.trans (hdL.symm)).symm
  refine lv_lstore hx hb dX12_whole1_56 hl (by decide) rfl (fun ls (hl : lv_has ls _ ([(4, .long dL), (2, .long nL), (0, .ref h0), (1, .int (nI kN))])) => ?_)
  refine lv_lload_n hx hb dX12_whole1_58 rfl (lv_at hl 1 rfl) ?_
  refine lv_lload hx hb dX12_whole1_59 (lv_at hl 0 rfl) ?_
  have hFc := noneFree hS hA
  refine va_calll (va_runS (As := [.long nL, .long dL]) (rest := []) ⟨hx, hb, hml, hown, hts⟩ (r_X12_common1 l dC dI nL dL (by omega) (by omega) s.heap.size) (va_cwS 2 hts gwsRX12_whole1_0 rfl rfl rfl (by decide +kernel) ⟨by decide +kernel, by decide +kernel⟩) ⟨fun a U g mk q => by obtain ⟨q0, q1, qP, qK, qD⟩ := q; exact ⟨q0, q1, qP, va_K.moved (u := U) (U := U.calling g mk a) (Vm.Alike.refl U.vm) qK, qD⟩, fun U hU9 hW => ⟨rfl, by rw [hU9], by rw [hU9]; exact nilP, va_K.moved hW.alike (hK.sub (tys' := []) [] rfl), nilD⟩⟩ rfl rfl hl.1 rfl (lv_room (Nat.le_of_ble_eq_true rfl)) dX12_whole1_61 (by decide +kernel)) hS (fun q _ h => hFc q h) hFc (fun r61 u t9_ H1 locs ht hvm hw9 hB9 hz1 hk1 hS => ?_)
  have hP := keepAll hP hk1
  clear hB9
  generalize H1 = H at hP hS ⊢
  have hP : va_P (dC, dI) vwCl (WR a k h0 vi vj vF vG) H := hP
  have hD : va_D A (WR a k h0 vi vj vF vG) := hD
  have f61_0 := hw9
  try dsimp only at f61_0
  have hgp := gcd_pos (x := nL.toInt) (y := dL.toInt) (by omega)
  have hgl := gcd_le (x := nL.toInt) (y := dL.toInt) (by omega)
  have eg := f61_0
  refine lv_lstore hx hb dX12_whole1_64 hl (by decide) rfl (fun ls (hl : lv_has ls _ ([(6, .long r61), (4, .long dL), (2, .long nL), (0, .ref h0), (1, .int (nI kN))])) => ?_)
  refine lv_aload_n hx hb dX12_whole1_66 rfl (lv_at hl 3 rfl) ?_
  refine lv_bipush (v := 10) hx hb dX12_whole1_67 (by decide) ?_
  refine lv_lload_n hx hb dX12_whole1_69 rfl (lv_at hl 2 rfl) ?_
  refine lv_lload hx hb dX12_whole1_70 (lv_at hl 0 rfl) ?_
  refine lv_ldiv hx hb dX12_whole1_72 (by exact ne64 (by omega)) ?_
  have e10 : (nL / r61).toInt = nL.toInt.tdiv r61.toInt := (div64i (by omega) (by omega)).1
  have s10 := sh_le nL.toInt r61.toInt
  have hFc := allFree hD hS hA
  refine va_callv (va_runV (As := [.int 10, .long (nL / r61)]) (rest := []) ⟨hx, hb, hml, hown, hts⟩ (b_X12_put l dC dI a k h0 vi vj vF vG 10 (nL / r61) (nL.toInt.tdiv r61.toInt) mg hBg (by first | assumption | decide | omega | rfl) (e10) (by omega) H.size) (cwV 2 hts gwsRX12_whole1_1 rfl rfl rfl hd_yX12_put_RX12 (by decide +kernel)) (fz_pre (va_recv hK hP (ci := 12) (q0 := 0) rfl rfl) hP hK hD) rfl rfl hl.1 rfl (lv_room (Nat.le_of_ble_eq_true rfl)) dX12_whole1_73 (by decide +kernel)) hS (fun q _ h => hFc q h) hFc (fun u t9_ H locs ht hvm hw9 hB9 hz1 hk1 hS => ?_)
  obtain ⟨g73, hwit73⟩ : ∃ w9, w9 = u := ⟨u, rfl⟩
  subst hwit73
  have hP : va_P (dC, dI) vwCl (WR a k h0 vi vj (fT vF 0 g73) vG) H := fz_P ht hB9.1
  have hD : va_D A (WR a k h0 vi vj (fT vF 0 g73) vG) := hB9.2.weaken (fun _ q _ h => hFc q.1 h)
  have f73_0 := hw9
  try dsimp only at f73_0
  refine lv_aload_n hx hb dX12_whole1_76 rfl (lv_at hl 3 rfl) ?_
  refine lv_bipush (v := 11) hx hb dX12_whole1_77 (by decide) ?_
  refine lv_lload hx hb dX12_whole1_79 (lv_at hl 1 rfl) ?_
  refine lv_lload hx hb dX12_whole1_81 (lv_at hl 0 rfl) ?_
  refine lv_ldiv hx hb dX12_whole1_83 (by exact ne64 (by omega)) ?_
  have e11 : (dL / r61).toInt = dL.toInt.tdiv r61.toInt := (div64i (by omega) (by omega)).1
  have s11 := sh_le dL.toInt r61.toInt
  have p11 : 0 < dL.toInt.tdiv r61.toInt := tdiv_pos (by omega) (by omega) (by omega)
  have hFc := allFree hD hS hA
  refine va_callv (va_runV (As := [.int 11, .long (dL / r61)]) (rest := []) ⟨hx, hb, hml, hown, hts⟩ (b_X12_put l dC dI a k h0 vi vj (fT vF 0 g73) vG 11 (dL / r61) (dL.toInt.tdiv r61.toInt) (fT mg 10 (nL.toInt.tdiv r61.toInt)) f73_0 (by first | assumption | decide | omega | rfl) (e11) (by omega) H.size) (cwV 2 hts gwsRX12_whole1_1 rfl rfl rfl hd_yX12_put_RX12 (by decide +kernel)) (fz_pre (va_recv hK hP (ci := 12) (q0 := 0) rfl rfl) hP hK hD) rfl rfl hl.1 rfl (lv_room (Nat.le_of_ble_eq_true rfl)) dX12_whole1_84 (by decide +kernel)) hS (fun q _ h => hFc q h) hFc (fun u t9_ H locs ht hvm hw9 hB9 hz1 hk1 hS => ?_)
  obtain ⟨g84, hwit84⟩ : ∃ w9, w9 = u := ⟨u, rfl⟩
  subst hwit84
  have hP : va_P (dC, dI) vwCl (WR a k h0 vi vj (fT (fT vF 0 g73) 0 g84) vG) H := fz_P ht hB9.1
  have hD : va_D A (WR a k h0 vi vj (fT (fT vF 0 g73) 0 g84) vG) := hB9.2.weaken (fun _ q _ h => hFc q.1 h)
  have e9 : fT vF 0 g84 = fT (fT vF 0 g73) 0 g84 := (fT_sm _ _ _ _).symm
  rw [← e9] at hP hD
  clear e9
  have hP : va_P (dC, dI) vwCl (WR a k h0 vi vj (fT vF 0 g84) vG) H := hP
  have hD : va_D A (WR a k h0 vi vj (fT vF 0 g84) vG) := hD
  have f84_0 := hw9
  try dsimp only at f84_0
  refine lv_aload_n hx hb dX12_whole1_87 rfl (lv_at hl 3 rfl) ?_
  refine lv_bipush (v := 13) hx hb dX12_whole1_88 (by decide) ?_
  refine lv_bipush (v := 14) hx hb dX12_whole1_90 (by decide) ?_
  refine lv_bipush (v := 19) hx hb dX12_whole1_92 (by decide) ?_
  refine lv_bipush (v := 11) hx hb dX12_whole1_94 (by decide) ?_
  have hFc := allFree hD hS hA
  refine va_callv (va_runV (As := [.int 13, .int 14, .int 19, .int 11]) (rest := []) ⟨hx, hb, hml, hown, hts⟩ (b_X12_divide l dC dI a k h0 vi vj (fT vF 0 g84) vG 13 14 19 11 (fT (fT mg 10 (nL.toInt.tdiv r61.toInt)) 11 (dL.toInt.tdiv r61.toInt)) f84_0 (mg 19) (dL.toInt.tdiv r61.toInt) (by rw [fT_ne _ _ (by omega), fT_ne _ _ (by omega)]) (by rw [fT_eq]) (by first | assumption | decide | omega | rfl) (by first | assumption | decide | omega | rfl) (by first | assumption | decide | omega | rfl) (by first | assumption | decide | omega | rfl) (by first | assumption | decide | omega | rfl) (by first | assumption | decide | omega | rfl) (by omega) H.size) (cwV 4 hts gwsRX12_whole1_2 rfl rfl rfl hd_yX12_divide_RX12 (by decide +kernel)) (fz_pre (va_recv hK hP (ci := 12) (q0 := 0) rfl rfl) hP hK hD) rfl rfl hl.1 rfl (lv_room (Nat.le_of_ble_eq_true rfl)) dX12_whole1_96 (by decide +kernel)) hS (fun q _ h => hFc q h) hFc (fun u t9_ H locs ht hvm hw9 hB9 hz1 hk1 hS => ?_)
  obtain ⟨g96, f2w96, f3w96, gs96⟩ := u
  try dsimp only at hw9 hB9
  have hP : va_P (dC, dI) vwCl (WR a k h0 vi vj (fT (fT (fT (fT vF 0 g84) 2 f2w96) 3 f3w96) 0 g96) (fT vG 1 gs96)) H := fz_P ht hB9.1
  have hD : va_D A (WR a k h0 vi vj (fT (fT (fT (fT vF 0 g84) 2 f2w96) 3 f3w96) 0 g96) (fT vG 1 gs96)) := hB9.2.weaken (fun _ q _ h => hFc q.1 h)
  have e9 : fT (fT (fT vF 0 g96) 2 f2w96) 3 f3w96 = fT (fT (fT (fT vF 0 g84) 2 f2w96) 3 f3w96) 0 g96 := ((fT_sw _ _ _ (Nat.ne_of_beq_eq_false rfl)).trans (congrArg (fun g9 => fT g9 3 f3w96) ((fT_sw _ _ _ (Nat.ne_of_beq_eq_false rfl)).trans (congrArg (fun g9 => fT g9 2 f2w96) (fT_sm _ _ _ _))))).symm
  rw [← e9] at hP hD
  clear e9
  have hP : va_P (dC, dI) vwCl (WR a k h0 vi vj (fT (fT (fT vF 0 g96) 2 f2w96) 3 f3w96) (fT vG 1 gs96)) H := hP
  have hD : va_D A (WR a k h0 vi vj (fT (fT (fT vF 0 g96) 2 f2w96) 3 f3w96) (fT vG 1 gs96)) := hD
  have f96_0 := hw9
  try dsimp only at f96_0
  refine lv_aload_n hx hb dX12_whole1_99 rfl (lv_at hl 3 rfl) ?_
  refine lv_bipush (v := 17) hx hb dX12_whole1_100 (by decide) ?_
  refine lv_bipush (v := 13) hx hb dX12_whole1_102 (by decide) ?_
  refine lv_bipush (v := 10) hx hb dX12_whole1_104 (by decide) ?_
  have hFc := allFree hD hS hA
  refine va_callv (va_runV (As := [.int 17, .int 13, .int 10]) (rest := []) ⟨hx, hb, hml, hown, hts⟩ (b_X12_times l dC dI a k h0 vi vj (fT (fT (fT vF 0 g96) 2 f2w96) 3 f3w96) (fT vG 1 gs96) 17 13 10 (fT (fT (fT (fT mg 10 (nL.toInt.tdiv r61.toInt)) 11 (dL.toInt.tdiv r61.toInt)) 13 (((mg 19)).tdiv (dL.toInt.tdiv r61.toInt))) 14 (((mg 19)).tmod (dL.toInt.tdiv r61.toInt))) f96_0 (((mg 19)).tdiv (dL.toInt.tdiv r61.toInt)) (nL.toInt.tdiv r61.toInt) (by rw [fT_ne _ _ (by omega), fT_eq]) (by rw [fT_ne _ _ (by omega), fT_ne _ _ (by omega), fT_ne _ _ (by omega), fT_eq]) (by first | assumption | decide | omega | rfl) (by first | assumption | decide | omega | rfl) (by first | assumption | decide | omega | rfl) (mulpN (a := 380) (b := 50) (c := 588) (Nat.lt_of_le_of_lt (sh_le _ _) h19b) (Nat.lt_of_le_of_lt (show _ ≤ 8000000000000 by omega) (by decide)) (by decide)) H.size) (cwV 3 hts gwsRX12_whole1_3 rfl rfl rfl hd_yX12_times_RX12 (by decide +kernel)) (fz_pre (va_recv hK hP (ci := 12) (q0 := 0) rfl rfl) hP hK hD) rfl rfl hl.1 rfl (lv_room (Nat.le_of_ble_eq_true rfl)) dX12_whole1_106 (by decide +kernel)) hS (fun q _ h => hFc q h) hFc (fun u t9_ H locs ht hvm hw9 hB9 hz1 hk1 hS => ?_)
  obtain ⟨g106, gs106⟩ := u
  try dsimp only at hw9 hB9
  have hP : va_P (dC, dI) vwCl (WR a k h0 vi vj (fT (fT (fT (fT vF 0 g96) 2 f2w96) 3 f3w96) 0 g106) (fT (fT vG 1 gs96) 1 gs106)) H := fz_P ht hB9.1
  have hD : va_D A (WR a k h0 vi vj (fT (fT (fT (fT vF 0 g96) 2 f2w96) 3 f3w96) 0 g106) (fT (fT vG 1 gs96) 1 gs106)) := hB9.2.weaken (fun _ q _ h => hFc q.1 h)
  have e9 : fT (fT (fT vF 0 g106) 2 f2w96) 3 f3w96 = fT (fT (fT (fT vF 0 g96) 2 f2w96) 3 f3w96) 0 g106 := ((fT_sw _ _ _ (Nat.ne_of_beq_eq_false rfl)).trans (congrArg (fun g9 => fT g9 3 f3w96) ((fT_sw _ _ _ (Nat.ne_of_beq_eq_false rfl)).trans (congrArg (fun g9 => fT g9 2 f2w96) (fT_sm _ _ _ _))))).symm
  rw [← e9] at hP hD
  clear e9
  have e9 : fT vG 1 gs106 = fT (fT vG 1 gs96) 1 gs106 := (fT_sm _ _ _ _).symm
  rw [← e9] at hP hD
  clear e9
  have hP : va_P (dC, dI) vwCl (WR a k h0 vi vj (fT (fT (fT vF 0 g106) 2 f2w96) 3 f3w96) (fT vG 1 gs106)) H := hP
  have hD : va_D A (WR a k h0 vi vj (fT (fT (fT vF 0 g106) 2 f2w96) 3 f3w96) (fT vG 1 gs106)) := hD
  have f106_0 := hw9
  try dsimp only at f106_0
  refine W.widen (k := 0) (n := 0) (by decide +kernel) (by decide +kernel) ?_
  exact W.vret hx hb hr (fun t9_ ht hW => ⟨⟨(g106, f2w96, f3w96, gs106, (fT (fT (fT (fT (fT mg 10 (nL.toInt.tdiv r61.toInt)) 11 (dL.toInt.tdiv r61.toInt)) 13 (((mg 19)).tdiv (dL.toInt.tdiv r61.toInt))) 14 (((mg 19)).tmod (dL.toInt.tdiv r61.toInt))) 17 ((((mg 19)).tdiv (dL.toInt.tdiv r61.toInt)) * (nL.toInt.tdiv r61.toInt)))), rfl, by (try dsimp only); exact ⟨f106_0, fun q h1 h2 => by (rw [fT_ne _ _ (by omega), fT_ne _ _ (by omega), fT_ne _ _ (by omega), fT_ne _ _ (by omega), fT_ne _ _ (by omega)])⟩, by rw [ht]; exact hP, hD⟩, hS.F ht⟩) hS.2.2 dX12_whole1_109

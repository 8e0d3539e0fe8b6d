theorem dX12_sign_0 : decode cX12_sign 0 = .ok (.aload_n 0, 1) := dk_42 (by decide +kernel)
theorem dX12_sign_1 : decode cX12_sign 1 = .ok (.getfield 7, 3) := dk_180 (by decide +kernel)
theorem dX12_sign_4 : decode cX12_sign 4 = .ok (.bipush 24, 2) := dk_16 (by decide +kernel)
theorem dX12_sign_6 : decode cX12_sign 6 = .ok (.iload_n 1, 1) := dk_27 (by decide +kernel)
theorem dX12_sign_7 : decode cX12_sign 7 = .ok (.imul, 1) := dk_104 (by decide +kernel)
theorem dX12_sign_8 : decode cX12_sign 8 = .ok (.iaload, 1) := dk_46 (by decide +kernel)
theorem dX12_sign_9 : decode cX12_sign 9 = .ok (.ireturn, 1) := dk_172 (by decide +kernel)
def wsRX12_sign : List Cond := .code yX12_sign cX12_sign 2 (some .int) :: ([.fieldLink RX12 7 "OptimaWorksModel" "big" "[I"] ++ wsX120)
theorem iwsRX12_sign_in12 : ∀ w ∈ wsX120, w ∈ wsRX12_sign := fun _ h => List.mem_cons_of_mem _ (List.mem_append_right _ h)
set_option maxHeartbeats 4000000 in
set_option maxRecDepth 100000 in
/-- sign(s) -/
theorem r_X12_sign (l : Launch) (dC : Nat → ClassId) (dI : Nat → Nat → Nat) (a : Nat → Nat) (k : Nat → ClassId) (h0 : Nat) (vi : Nat → Int32) (vj : Nat → Int64) (vF : Nat → Nat → Int32) (vG : Nat → Nat → Int64) (sn : Nat) (hs : sn < 1100) (sz : Nat) : Met l yX12_sign wsRX12_sign ({ frames := 0, cells := 0, slots := 0, locals := 0 }) (va_Pc [.ref h0, .int (nI sn)] (fun U => U.heap.size = sz ∧ va_P (dC, dI) vwCl (WR a k h0 vi vj vF vG) U.heap ∧ va_K (dC, dI) vwCl (tX12 k) U ∧ va_D (fun _ => True) (WR a k h0 vi vj vF vG))) (va_Qi (fun (r : Int32) (u : Unit) => r = (vF 0 (24 * sn))) (fun (u : Unit) t => va_P (dC, dI) vwCl (WR a k h0 vi vj vF vG) t.heap ∧ va_D (va_A (WR a k h0 vi vj vF vG) sz) (WR a k h0 vi vj vF vG)) (va_A (WR a k h0 vi vj vF vG) sz)) 0 0 (va_A (WR a k h0 vi vj vF vG) sz) := by
  refine Met.ofW (cc := cX12_sign) (maxL := 2) (ret := (some .int)) (by decide) rfl ?_
  intro p e s m args below meth c s₁ B hml hv
  obtain ⟨rfl, hsz, hP, hK, hD0⟩ := hv
  have hx := B.exec
  have hb := B.bytes
  have hr := B.returns
  have hts := atoms_spec (ws := wsRX12_sign) B.pre
  have hown : s.vm.findClass RX12 = some m.cls := findClass_of_methodNamed B.named
  have hlocks := B.notSynchronized
  subst hsz
  have hD := hD0.self (sz := s.heap.size)
  generalize hAe : va_A (WR a k h0 vi vj vF vG) s.heap.size = A at hD ⊢
  have hA : ∀ q : Nat, s.heap.size ≤ q → A q := fun q h => by rw [← hAe]; exact Or.inr h
  have hS : va_S A s.heap s.heap [] := va_S.rf
  have hl := lv_entry ([.ref h0, .int (nI sn)]) (n := 2) (Nat.le_of_ble_eq_true rfl)
  rw [lg_entry_eq]
  generalize (lg_sl ([.ref h0, .int (nI sn)]) ++ List.replicate (2 - (lg_sl ([.ref h0, .int (nI sn)])).length) Slot.unset).toArray = ls at hl ⊢
  have hl : lv_has ls 2 [(0, .ref h0), (1, .int (nI sn))] := hl
  refine lv_aload_n hx hb dX12_sign_0 rfl (lv_at hl 0 rfl) ?_
  refine va_get (D := (dC, dI)) (ci := 12) (v := .ref (a 0)) (C := RX12) (T := TX12) (N := 163) (fs := fM (vS a vi vj)) hx hb hts iwsRX12_sign_in12 hown hK hP 0 rfl rfl 1 (by decide) (hts (.fieldLink RX12 7 "OptimaWorksModel" "big" "[I") (by decide +kernel)) (fun _ h9 => h9) rfl dX12_sign_1 ?_
  refine lv_bipush (v := 24) hx hb dX12_sign_4 (by decide) ?_
  refine lv_iload_n hx hb dX12_sign_6 rfl (lv_at hl 1 rfl) ?_
  refine lv_imul hx hb dX12_sign_7 ?_
  refine lv_topi (fun y1 hy1 => ?_)
  obtain rfl : (nI (24 * sn)) = y1 := (hy1.trans (pk_mul 24 sn)).symm
  refine va_iald (cA := k 0) (n := 26400) (f := (vF 0)) hx hb hK hP 1 0 (WR_get 0 (by decide)) (TR_get 0 (by decide)) (vp_in_nI (show (24 * sn) < 26400 by omega) (by omega)) dX12_sign_8 ?_
  refine lv_topi (fun y2 hy2 => ?_)
  obtain rfl : ((vF 0) (24 * sn)) = y2 := (hy2.trans (by rw [nI_clamp (by omega)])).symm
  refine W.widen (k := 0) (n := 0) (by decide +kernel) (by decide +kernel) ?_
  exact W.iret (v := ((vF 0) (24 * sn))) hx hb hr (fun t9_ ht hW => ⟨⟨((vF 0) (24 * sn)), (), rfl, by (first | rfl | assumption | trivial | omega | (simp []; done) | (simp; omega)), by rw [ht]; exact hP, hD⟩, hS.F ht⟩) hS.2.2 dX12_sign_9
theorem dX12_turn_0 : decode cX12_turn 0 = .ok (.aload_n 0, 1) := dk_42 (by decide +kernel)
theorem dX12_turn_1 : decode cX12_turn 1 = .ok (.getfield 7, 3) := dk_180 (by decide +kernel)
theorem dX12_turn_4 : decode cX12_turn 4 = .ok (.bipush 24, 2) := dk_16 (by decide +kernel)
theorem dX12_turn_6 : decode cX12_turn 6 = .ok (.iload_n 1, 1) := dk_27 (by decide +kernel)
theorem dX12_turn_7 : decode cX12_turn 7 = .ok (.imul, 1) := dk_104 (by decide +kernel)
theorem dX12_turn_8 : decode cX12_turn 8 = .ok (.aload_n 0, 1) := dk_42 (by decide +kernel)
theorem dX12_turn_9 : decode cX12_turn 9 = .ok (.getfield 7, 3) := dk_180 (by decide +kernel)
theorem dX12_turn_12 : decode cX12_turn 12 = .ok (.bipush 24, 2) := dk_16 (by decide +kernel)
theorem dX12_turn_14 : decode cX12_turn 14 = .ok (.iload_n 1, 1) := dk_27 (by decide +kernel)
theorem dX12_turn_15 : decode cX12_turn 15 = .ok (.imul, 1) := dk_104 (by decide +kernel)
theorem dX12_turn_16 : decode cX12_turn 16 = .ok (.iaload, 1) := dk_46 (by decide +kernel)
theorem dX12_turn_17 : decode cX12_turn 17 = .ok (.ineg, 1) := dk_116 (by decide +kernel)
theorem dX12_turn_18 : decode cX12_turn 18 = .ok (.iastore, 1) := dk_79 (by decide +kernel)
theorem dX12_turn_19 : decode cX12_turn 19 = .ok (.return_, 1) := dk_177 (by decide +kernel)
def wsRX12_turn : List Cond := .code yX12_turn cX12_turn 2 none :: ([.fieldLink RX12 7 "OptimaWorksModel" "big" "[I"] ++ wsX120)
theorem iwsRX12_turn_in12 : ∀ w ∈ wsX120, w ∈ wsRX12_turn := fun _ h => List.mem_cons_of_mem _ (List.mem_append_right _ h)
set_option maxHeartbeats 4000000 in
set_option maxRecDepth 100000 in
/-- turn(s) -/
theorem r_X12_turn (l : Launch) (dC : Nat → ClassId) (dI : Nat → Nat → Nat) (a : Nat → Nat) (k : Nat → ClassId) (h0 : Nat) (vi : Nat → Int32) (vj : Nat → Int64) (vF : Nat → Nat → Int32) (vG : Nat → Nat → Int64) (sn : Nat) (hs : sn < 1100) (sz : Nat) : Met l yX12_turn wsRX12_turn ({ frames := 0, cells := 0, slots := 0, locals := 0 }) (va_Pc [.ref h0, .int (nI sn)] (fun U => U.heap.size = sz ∧ va_P (dC, dI) vwCl (WR a k h0 vi vj vF vG) U.heap ∧ va_K (dC, dI) vwCl (tX12 k) U ∧ va_D (fun _ => True) (WR a k h0 vi vj vF vG))) (va_Qv (fun (u : Unit) => True) (fun (u : Unit) t => va_P (dC, dI) vwCl (WR a k h0 vi vj (fT vF 0 (upd (vF 0) (nI (24 * sn)).toNatClampNeg (-(vF 0 (24 * sn))))) vG) t.heap ∧ va_D (va_A (WR a k h0 vi vj vF vG) sz) (WR a k h0 vi vj (fT vF 0 (upd (vF 0) (nI (24 * sn)).toNatClampNeg (-(vF 0 (24 * sn))))) vG)) (va_A (WR a k h0 vi vj vF vG) sz)) 0 0 (va_A (WR a k h0 vi vj vF vG) sz) := by
  refine Met.ofW (cc := cX12_turn) (maxL := 2) (ret := none) (by decide) rfl ?_
  intro p e s m args below meth c s₁ B hml hv
  obtain ⟨rfl, hsz, hP, hK, hD0⟩ := hv
  have hx := B.exec
  have hb := B.bytes
  have hr := B.returns
  have hts := atoms_spec (ws := wsRX12_turn) B.pre
  have hown : s.vm.findClass RX12 = some m.cls := findClass_of_methodNamed B.named
  have hlocks := B.notSynchronized
  subst hsz
  have hD := hD0.self (sz := s.heap.size)
  generalize hAe : va_A (WR a k h0 vi vj vF vG) s.heap.size = A at hD ⊢
  have hA : ∀ q : Nat, s.heap.size ≤ q → A q := fun q h => by rw [← hAe]; exact Or.inr h
  have hS : va_S A s.heap s.heap [] := va_S.rf
  have hl := lv_entry ([.ref h0, .int (nI sn)]) (n := 2) (Nat.le_of_ble_eq_true rfl)
  rw [lg_entry_eq]
  generalize (lg_sl ([.ref h0, .int (nI sn)]) ++ List.replicate (2 - (lg_sl ([.ref h0, .int (nI sn)])).length) Slot.unset).toArray = ls at hl ⊢
  have hl : lv_has ls 2 [(0, .ref h0), (1, .int (nI sn))] := hl
  refine lv_aload_n hx hb dX12_turn_0 rfl (lv_at hl 0 rfl) ?_
  refine va_get (D := (dC, dI)) (ci := 12) (v := .ref (a 0)) (C := RX12) (T := TX12) (N := 163) (fs := fM (vS a vi vj)) hx hb hts iwsRX12_turn_in12 hown hK hP 0 rfl rfl 1 (by decide) (hts (.fieldLink RX12 7 "OptimaWorksModel" "big" "[I") (by decide +kernel)) (fun _ h9 => h9) rfl dX12_turn_1 ?_
  refine lv_bipush (v := 24) hx hb dX12_turn_4 (by decide) ?_
  refine lv_iload_n hx hb dX12_turn_6 rfl (lv_at hl 1 rfl) ?_
  refine lv_imul hx hb dX12_turn_7 ?_
  refine lv_topi (fun y1 hy1 => ?_)
  obtain rfl : (nI (24 * sn)) = y1 := (hy1.trans (pk_mul 24 sn)).symm
  refine lv_aload_n hx hb dX12_turn_8 rfl (lv_at hl 0 rfl) ?_
  refine va_get (D := (dC, dI)) (ci := 12) (v := .ref (a 0)) (C := RX12) (T := TX12) (N := 163) (fs := fM (vS a vi vj)) hx hb hts iwsRX12_turn_in12 hown hK hP 0 rfl rfl 1 (by decide) (hts (.fieldLink RX12 7 "OptimaWorksModel" "big" "[I") (by decide +kernel)) (fun _ h9 => h9) rfl dX12_turn_9 ?_
  refine lv_bipush (v := 24) hx hb dX12_turn_12 (by decide) ?_
  refine lv_iload_n hx hb dX12_turn_14 rfl (lv_at hl 1 rfl) ?_
  refine lv_imul hx hb dX12_turn_15 ?_
  refine lv_topi (fun y2 hy2 => ?_)
  obtain rfl : (nI (24 * sn)) = y2 := (hy2.trans (pk_mul 24 sn)).symm
  refine va_iald (cA := k 0) (n := 26400) (f := (vF 0)) hx hb hK hP 1 0 (WR_get 0 (by decide)) (TR_get 0 (by decide)) (vp_in_nI (show (24 * sn) < 26400 by omega) (by omega)) dX12_turn_16 ?_
  refine lv_topi (fun y3 hy3 => ?_)
  obtain rfl : ((vF 0) (24 * sn)) = y3 := (hy3.trans (by rw [nI_clamp (by omega)])).symm
  refine lv_ineg hx hb dX12_turn_17 ?_
  refine va_iast (cA := k 0) (n := 26400) (f := (vF 0)) hx hb hK hP hD hS 1 0 (WR_get 0 (by decide)) (TR_get 0 (by decide)) (vp_in_nI (show (24 * sn) < 26400 by omega) (by omega)) dX12_turn_18 (fun H locs hP hD hS => ?_)
  have hP : va_P (dC, dI) vwCl (WR a k h0 vi vj (fT vF 0 (upd (vF 0) ((nI (24 * sn))).toNatClampNeg (-((vF 0) (24 * sn))))) vG) H := by rw [← WR_F 0 (by decide) _ rfl]; exact hP
  have hD : va_D A (WR a k h0 vi vj (fT vF 0 (upd (vF 0) ((nI (24 * sn))).toNatClampNeg (-((vF 0) (24 * sn))))) vG) := by rw [← WR_F 0 (by decide) _ rfl]; exact hD
  refine W.widen (k := 0) (n := 0) (by decide +kernel) (by decide +kernel) ?_
  have e9 : fT vF 0 (upd (vF 0) (nI (24 * sn)).toNatClampNeg (-(vF 0 (24 * sn)))) = fT vF 0 (upd (vF 0) ((nI (24 * sn))).toNatClampNeg (-((vF 0) (24 * sn)))) := by funext q9; by_cases h9_0 : q9 = 0; (subst h9_0; exact (fT_eq _ _ _).trans (Eq.trans (by first | rfl | assumption | (symm; assumption) | (subst_vars; rfl)) (fT_eq _ _ _).symm)); exact (fT_ne _ _ h9_0).trans (fT_ne _ _ h9_0).symm
  have hP : va_P (dC, dI) vwCl (WR a k h0 vi vj (fT vF 0 (upd (vF 0) (nI (24 * sn)).toNatClampNeg (-(vF 0 (24 * sn))))) vG) H := by rw [e9]; exact hP
  have hD : va_D A (WR a k h0 vi vj (fT vF 0 (upd (vF 0) (nI (24 * sn)).toNatClampNeg (-(vF 0 (24 * sn))))) vG) := by rw [e9]; exact hD
  clear e9
  exact W.vret hx hb hr (fun t9_ ht hW => ⟨⟨(), rfl, trivial, by rw [ht]; exact hP, hD⟩, hS.F ht⟩) hS.2.2 dX12_turn_19
theorem dX12_copy_0 : decode cX12_copy 0 = .ok (.iconst 0, 1) := dk_3 (by decide +kernel)
theorem dX12_copy_1 : decode cX12_copy 1 = .ok (.istore_n 3, 1) := dk_62 (by decide +kernel)
theorem dX12_copy_2 : decode cX12_copy 2 = .ok (.iload_n 3, 1) := dk_29 (by decide +kernel)
theorem dX12_copy_3 : decode cX12_copy 3 = .ok (.aload_n 0, 1) := dk_42 (by decide +kernel)
theorem dX12_copy_4 : decode cX12_copy 4 = .ok (.getfield 7, 3) := dk_180 (by decide +kernel)
theorem dX12_copy_7 : decode cX12_copy 7 = .ok (.bipush 24, 2) := dk_16 (by decide +kernel)
theorem dX12_copy_9 : decode cX12_copy 9 = .ok (.iload_n 2, 1) := dk_28 (by decide +kernel)
theorem dX12_copy_10 : decode cX12_copy 10 = .ok (.imul, 1) := dk_104 (by decide +kernel)
theorem dX12_copy_11 : decode cX12_copy 11 = .ok (.iconst 1, 1) := dk_4 (by decide +kernel)
theorem dX12_copy_12 : decode cX12_copy 12 = .ok (.iadd, 1) := dk_96 (by decide +kernel)
theorem dX12_copy_13 : decode cX12_copy 13 = .ok (.iaload, 1) := dk_46 (by decide +kernel)
theorem dX12_copy_14 : decode cX12_copy 14 = .ok (.iconst 2, 1) := dk_5 (by decide +kernel)
theorem dX12_copy_15 : decode cX12_copy 15 = .ok (.iadd, 1) := dk_96 (by decide +kernel)
theorem dX12_copy_16 : decode cX12_copy 16 = .ok (.if_icmp .ge 31, 3) := dk_162 (by decide +kernel)
theorem dX12_copy_19 : decode cX12_copy 19 = .ok (.aload_n 0, 1) := dk_42 (by decide +kernel)
theorem dX12_copy_20 : decode cX12_copy 20 = .ok (.getfield 7, 3) := dk_180 (by decide +kernel)
theorem dX12_copy_23 : decode cX12_copy 23 = .ok (.bipush 24, 2) := dk_16 (by decide +kernel)
theorem dX12_copy_25 : decode cX12_copy 25 = .ok (.iload_n 1, 1) := dk_27 (by decide +kernel)
theorem dX12_copy_26 : decode cX12_copy 26 = .ok (.imul, 1) := dk_104 (by decide +kernel)
theorem dX12_copy_27 : decode cX12_copy 27 = .ok (.iload_n 3, 1) := dk_29 (by decide +kernel)
theorem dX12_copy_28 : decode cX12_copy 28 = .ok (.iadd, 1) := dk_96 (by decide +kernel)
theorem dX12_copy_29 : decode cX12_copy 29 = .ok (.aload_n 0, 1) := dk_42 (by decide +kernel)
theorem dX12_copy_30 : decode cX12_copy 30 = .ok (.getfield 7, 3) := dk_180 (by decide +kernel)
theorem dX12_copy_33 : decode cX12_copy 33 = .ok (.bipush 24, 2) := dk_16 (by decide +kernel)
theorem dX12_copy_35 : decode cX12_copy 35 = .ok (.iload_n 2, 1) := dk_28 (by decide +kernel)
theorem dX12_copy_36 : decode cX12_copy 36 = .ok (.imul, 1) := dk_104 (by decide +kernel)
theorem dX12_copy_37 : decode cX12_copy 37 = .ok (.iload_n 3, 1) := dk_29 (by decide +kernel)
theorem dX12_copy_38 : decode cX12_copy 38 = .ok (.iadd, 1) := dk_96 (by decide +kernel)
theorem dX12_copy_39 : decode cX12_copy 39 = .ok (.iaload, 1) := dk_46 (by decide +kernel)
theorem dX12_copy_40 : decode cX12_copy 40 = .ok (.iastore, 1) := dk_79 (by decide +kernel)
theorem dX12_copy_41 : decode cX12_copy 41 = .ok (.iinc 3 1, 3) := dk_132 (by decide +kernel)
theorem dX12_copy_44 : decode cX12_copy 44 = .ok (.goto (-42), 3) := dk_167 (by decide +kernel)
theorem dX12_copy_47 : decode cX12_copy 47 = .ok (.return_, 1) := dk_177 (by decide +kernel)
def wsRX12_copy : List Cond := .code yX12_copy cX12_copy 4 none :: ([.fieldLink RX12 7 "OptimaWorksModel" "big" "[I"] ++ wsX120)
theorem iwsRX12_copy_in12 : ∀ w ∈ wsX120, w ∈ wsRX12_copy := fun _ h => List.mem_cons_of_mem _ (List.mem_append_right _ h)
set_option maxHeartbeats 4000000 in
set_option maxRecDepth 100000 in
/-- copy(s, from) -/
theorem r_X12_copy (l : Launch) (dC : Nat → ClassId) (dI : Nat → Nat → Nat) (a : Nat → Nat) (k : Nat → ClassId) (h0 : Nat) (vi : Nat → Int32) (vj : Nat → Int64) (vF : Nat → Nat → Int32) (vG : Nat → Nat → Int64) (sn : Nat) (fn : Nat) (n : Nat) (hs : sn < 1100) (hf : fn < 1100) (hne : sn ≠ fn) (hn : vF 0 (24 * fn + 1) = nI n) (hn22 : n ≤ 22) (sz : Nat) : Met l yX12_copy wsRX12_copy ({ frames := 0, cells := 0, slots := 0, locals := 0 }) (va_Pc [.ref h0, .int (nI sn), .int (nI fn)] (fun U => U.heap.size = sz ∧ va_P (dC, dI) vwCl (WR a k h0 vi vj vF vG) U.heap ∧ va_K (dC, dI) vwCl (tX12 k) U ∧ va_D (fun _ => True) (WR a k h0 vi vj vF vG))) (va_Qv (fun (u : Nat → Int32) => (∀ q, q < n + 2 → u (24 * sn + q) = vF 0 (24 * fn + q)) ∧ (∀ q, (q < 24 * sn ∨ 24 * sn + 24 ≤ q) → u q = vF 0 q)) (fun (u : Nat → Int32) t => va_P (dC, dI) vwCl (WR a k h0 vi vj (fT vF 0 u) vG) t.heap ∧ va_D (va_A (WR a k h0 vi vj vF vG) sz) (WR a k h0 vi vj (fT vF 0 u) vG)) (va_A (WR a k h0 vi vj vF vG) sz)) 0 0 (va_A (WR a k h0 vi vj vF vG) sz) := by
  refine Met.ofW (cc := cX12_copy) (maxL := 4) (ret := none) (by decide) rfl ?_
  intro p e s m args below meth c s₁ B hml hv
  obtain ⟨rfl, hsz, hP, hK, hD0⟩ := hv
  have hx := B.exec
  have hb := B.bytes
  have hr := B.returns
  have hts := atoms_spec (ws := wsRX12_copy) B.pre
  have hown : s.vm.findClass RX12 = some m.cls := findClass_of_methodNamed B.named
  have hlocks := B.notSynchronized
  subst hsz
  have hD := hD0.self (sz := s.heap.size)
  generalize hAe : va_A (WR a k h0 vi vj vF vG) s.heap.size = A at hD ⊢
  have hA : ∀ q : Nat, s.heap.size ≤ q → A q := fun q h => by rw [← hAe]; exact Or.inr h
  have hS : va_S A s.heap s.heap [] := va_S.rf
  have hl := lv_entry ([.ref h0, .int (nI sn), .int (nI fn)]) (n := 4) (Nat.le_of_ble_eq_true rfl)
  rw [lg_entry_eq]
  generalize (lg_sl ([.ref h0, .int (nI sn), .int (nI fn)]) ++ List.replicate (4 - (lg_sl ([.ref h0, .int (nI sn), .int (nI fn)])).length) Slot.unset).toArray = ls at hl ⊢
  have hl : lv_has ls 4 [(0, .ref h0), (1, .int (nI sn)), (2, .int (nI fn))] := hl
  refine lv_iconst (v := 0) hx hb dX12_copy_0 (by decide) ?_
  refine lv_istore_n hx hb dX12_copy_1 rfl hl (by decide) rfl (fun ls (hl : lv_has ls _ ([(3, .int 0), (0, .ref h0), (1, .int (nI sn)), (2, .int (nI fn))])) => ?_)
  have e9 : fT vF 0 (vF 0) = vF := by funext q9; by_cases h9_0 : q9 = 0; (subst h9_0; exact (fT_eq _ _ _).trans (Eq.trans (by first | rfl | assumption | (symm; assumption) | (subst_vars; rfl)) (Eq.refl _).symm)); exact (fT_ne _ _ h9_0).trans (Eq.refl _).symm
  have hP : va_P (dC, dI) vwCl (WR a k h0 vi vj (fT vF 0 (vF 0)) vG) s.heap := by rw [e9]; exact hP
  have hD : va_D A (WR a k h0 vi vj (fT vF 0 (vF 0)) vG) := by rw [e9]; exact hD
  clear e9
  have hl : lv_has _ _ ([(3, .int (nI 0)), (0, .ref h0), (1, .int (nI sn)), (2, .int (nI fn))]) := lv_sub hl [0, 1, 2, 3] rfl
  refine (fun (loop : ∀ (n9 : Nat) (i : Nat) (g : Nat → Int32) (H : Heap) (locs : List Loc) (ls : Array Slot), (i ≤ n + 2) → (∀ q, q < i → g (24 * sn + q) = vF 0 (24 * fn + q)) → (∀ q, (q < 24 * sn ∨ 24 * sn + 24 ≤ q) → g q = vF 0 q) →  (n + 2 < i + n9) → va_P (dC, dI) vwCl (WR a k h0 vi vj (fT vF 0 g) vG) H → va_D A (WR a k h0 vi vj (fT vF 0 g) vG) → va_S A s.heap H locs → lv_has ls 4 [(3, .int (nI i)), (0, .ref h0), (1, .int (nI sn)), (2, .int (nI fn))] → W p l e _ s m _ below meth c H locs 0 0 _ (F0 m 2 ls [])) => loop (n + 3) 0 (vF 0) _ _ _ (by omega) (fun q hq => absurd hq (by omega)) (fun q hq => rfl) (by omega) hP hD hS hl) ?_
  intro n9
  induction n9 with
  | zero => intro i g H locs ls hi hg ho hf9; exact False.elim (by omega)
  | succ n9 ih2 =>
    intro i g H locs ls hi hg ho hf2 hP hD hS hl
    refine lv_iload_n hx hb dX12_copy_2 rfl (lv_at hl 0 rfl) ?_
    refine lv_aload_n hx hb dX12_copy_3 rfl (lv_at hl 1 rfl) ?_
    refine va_get (D := (dC, dI)) (ci := 12) (v := .ref (a 0)) (C := RX12) (T := TX12) (N := 163) (fs := fM (vS a vi vj)) hx hb hts iwsRX12_copy_in12 hown hK hP 0 rfl rfl 1 (by decide) (hts (.fieldLink RX12 7 "OptimaWorksModel" "big" "[I") (by decide +kernel)) (fun _ h9 => h9) rfl dX12_copy_4 ?_
    refine lv_bipush (v := 24) hx hb dX12_copy_7 (by decide) ?_
    refine lv_iload_n hx hb dX12_copy_9 rfl (lv_at hl 3 rfl) ?_
    refine lv_imul hx hb dX12_copy_10 ?_
    refine lv_topi (fun y1 hy1 => ?_)
    obtain rfl : (nI (24 * fn)) = y1 := (hy1.trans (pk_mul 24 fn)).symm
    refine lv_iconst (v := 1) hx hb dX12_copy_11 (by decide) ?_
    refine lv_iadd hx hb dX12_copy_12 ?_
    refine lv_topi (fun y2 hy2 => ?_)
    obtain rfl : (nI ((24 * fn) + 1)) = y2 := (hy2.trans (nI_add (24 * fn) 1)).symm
    refine va_iald (cA := k 0) (n := 26400) (f := g) hx hb hK hP 1 0 (WR_get 0 (by decide)) (TR_get 0 (by decide)) (vp_in_nI (show ((24 * fn) + 1) < 26400 by omega) (by omega)) dX12_copy_13 ?_
    refine lv_topi (fun y3 hy3 => ?_)
    obtain rfl : (g ((24 * fn) + 1)) = y3 := (hy3.trans (by rw [nI_clamp (by omega)])).symm
    refine lv_topi (fun y4 hy4 => ?_)
    obtain rfl : (nI n) = y4 := (hy4.trans ((ho _ (by omega)).trans hn)).symm
    refine lv_iconst (v := 2) hx hb dX12_copy_14 (by decide) ?_
    refine lv_iadd hx hb dX12_copy_15 ?_
    refine lv_topi (fun y5 hy5 => ?_)
    obtain rfl : (nI (n + 2)) = y5 := (hy5.trans (nI_add n 2)).symm
    refine lv_icmp_ge (tgt := 47) hx hb dX12_copy_16 (by decide) (fun c_16 => ?_) (fun c_16 => ?_)
    · have t_16 : ((i : Nat) : Int) ≥ (((n + 2) : Nat) : Int) := toI_ge c_16 (nI_toInt (by omega)) (nI_toInt (by omega))
      refine W.widen (k := 0) (n := 0) (by decide +kernel) (by decide +kernel) ?_
      exact W.vret hx hb hr (fun t9_ ht hW => ⟨⟨g, rfl, by (try dsimp only); exact ⟨fun q hq => hg q (by omega), ho⟩, by rw [ht]; exact hP, hD⟩, hS.F ht⟩) hS.2.2 dX12_copy_47
    · have t_16 : ¬ ((i : Nat) : Int) ≥ (((n + 2) : Nat) : Int) := toI_nge c_16 (nI_toInt (by omega)) (nI_toInt (by omega))
      refine lv_aload_n hx hb dX12_copy_19 rfl (lv_at hl 1 rfl) ?_
      refine va_get (D := (dC, dI)) (ci := 12) (v := .ref (a 0)) (C := RX12) (T := TX12) (N := 163) (fs := fM (vS a vi vj)) hx hb hts iwsRX12_copy_in12 hown hK hP 0 rfl rfl 1 (by decide) (hts (.fieldLink RX12 7 "OptimaWorksModel" "big" "[I") (by decide +kernel)) (fun _ h9 => h9) rfl dX12_copy_20 ?_
      refine lv_bipush (v := 24) hx hb dX12_copy_23 (by decide) ?_
      refine lv_iload_n hx hb dX12_copy_25 rfl (lv_at hl 2 rfl) ?_
      refine lv_imul hx hb dX12_copy_26 ?_
      refine lv_topi (fun y6 hy6 => ?_)
      obtain rfl : (nI (24 * sn)) = y6 := (hy6.trans (pk_mul 24 sn)).symm
      refine lv_iload_n hx hb dX12_copy_27 rfl (lv_at hl 0 rfl) ?_
      refine lv_iadd hx hb dX12_copy_28 ?_
      refine lv_topi (fun y7 hy7 => ?_)
      obtain rfl : (nI ((24 * sn) + i)) = y7 := (hy7.trans (nI_add (24 * sn) i)).symm
      refine lv_aload_n hx hb dX12_copy_29 rfl (lv_at hl 1 rfl) ?_
      refine va_get (D := (dC, dI)) (ci := 12) (v := .ref (a 0)) (C := RX12) (T := TX12) (N := 163) (fs := fM (vS a vi vj)) hx hb hts iwsRX12_copy_in12 hown hK hP 0 rfl rfl 1 (by decide) (hts (.fieldLink RX12 7 "OptimaWorksModel" "big" "[I") (by decide +kernel)) (fun _ h9 => h9) rfl dX12_copy_30 ?_
      refine lv_bipush (v := 24) hx hb dX12_copy_33 (by decide) ?_
      refine lv_iload_n hx hb dX12_copy_35 rfl (lv_at hl 3 rfl) ?_
      refine lv_imul hx hb dX12_copy_36 ?_
      refine lv_topi (fun y8 hy8 => ?_)
      obtain rfl : (nI (24 * fn)) = y8 := (hy8.trans (pk_mul 24 fn)).symm
      refine lv_iload_n hx hb dX12_copy_37 rfl (lv_at hl 0 rfl) ?_
      refine lv_iadd hx hb dX12_copy_38 ?_
      refine lv_topi (fun y9 hy9 => ?_)
      obtain rfl : (nI ((24 * fn) + i)) = y9 := (hy9.trans (nI_add (24 * fn) i)).symm
      refine va_iald (cA := k 0) (n := 26400) (f := g) hx hb hK hP 1 0 (WR_get 0 (by decide)) (TR_get 0 (by decide)) (vp_in_nI (show ((24 * fn) + i) < 26400 by omega) (by omega)) dX12_copy_39 ?_
      refine lv_topi (fun y10 hy10 => ?_)
      obtain rfl : (g ((24 * fn) + i)) = y10 := (hy10.trans (by rw [nI_clamp (by omega)])).symm
      refine lv_topi (fun y11 hy11 => ?_)
      obtain rfl : (vF 0 (24 * fn + i)) = y11 := (hy11.trans (ho _ (by omega))).symm
      refine va_iast (cA := k 0) (n := 26400) (f := g) hx hb hK hP hD hS 1 0 (WR_get 0 (by decide)) (TR_get 0 (by decide)) (vp_in_nI (show ((24 * sn) + i) < 26400 by omega) (by omega)) dX12_copy_40 (fun H locs hP hD hS => ?_)
      have e9 : fT vF 0 (upd g ((nI ((24 * sn) + i))).toNatClampNeg (vF 0 (24 * fn + i))) = fT (fT vF 0 g) 0 (upd g ((nI ((24 * sn) + i))).toNatClampNeg (vF 0 (24 * fn + i))) := (fT_sm _ _ _ _).symm
      have hP : va_P (dC, dI) vwCl (WR a k h0 vi vj (fT vF 0 (upd g ((nI ((24 * sn) + i))).toNatClampNeg (vF 0 (24 * fn + i)))) vG) H := by rw [e9, ← WR_F 0 (by decide) _ rfl]; exact hP
      have hD : va_D A (WR a k h0 vi vj (fT vF 0 (upd g ((nI ((24 * sn) + i))).toNatClampNeg (vF 0 (24 * fn + i)))) vG) := by rw [e9, ← WR_F 0 (by decide) _ rfl]; exact hD
      clear e9
      refine lv_iinc (v := (nI (i + 1))) hx hb dX12_copy_41 hl (k := 0) rfl (nI_add i 1) (by decide) rfl (fun ls (hl : lv_has ls _ ([(3, .int (nI (i + 1))), (0, .ref h0), (1, .int (nI sn)), (2, .int (nI fn))])) => ?_)
      refine lv_goto (tgt := 2) hx hb dX12_copy_44 (by decide) ?_
      have hl : lv_has _ _ ([(3, .int (nI (i + 1))), (0, .ref h0), (1, .int (nI sn)), (2, .int (nI fn))]) := lv_sub hl [0, 1, 2, 3] rfl
      exact ih2 (i + 1) (upd g ((nI ((24 * sn) + i))).toNatClampNeg (vF 0 (24 * fn + i))) _ _ _ (by omega) (fun q hq => by rw [upd_at (by omega)]; by_cases e9 : 24 * sn + q = 24 * sn + i; (rw [if_pos e9, show q = i by omega]); (rw [if_neg e9]; exact hg q (by omega))) (fun q hq => by rw [upd_at (by omega), if_neg (by omega)]; exact ho q hq) (by omega) hP hD hS hl
theorem dX12_at_0 : decode cX12_at 0 = .ok (.bipush 30, 2) := dk_16 (by decide +kernel)
theorem dX12_at_2 : decode cX12_at 2 = .ok (.iload_n 1, 1) := dk_27 (by decide +kernel)
theorem dX12_at_3 : decode cX12_at 3 = .ok (.aload_n 0, 1) := dk_42 (by decide +kernel)
theorem dX12_at_4 : decode cX12_at 4 = .ok (.getfield 396, 3) := dk_180 (by decide +kernel)
theorem dX12_at_7 : decode cX12_at 7 = .ok (.iconst 1, 1) := dk_4 (by decide +kernel)
theorem dX12_at_8 : decode cX12_at 8 = .ok (.iadd, 1) := dk_96 (by decide +kernel)
theorem dX12_at_9 : decode cX12_at 9 = .ok (.imul, 1) := dk_104 (by decide +kernel)
theorem dX12_at_10 : decode cX12_at 10 = .ok (.iadd, 1) := dk_96 (by decide +kernel)
theorem dX12_at_11 : decode cX12_at 11 = .ok (.iload_n 2, 1) := dk_28 (by decide +kernel)
theorem dX12_at_12 : decode cX12_at 12 = .ok (.iadd, 1) := dk_96 (by decide +kernel)
theorem dX12_at_13 : decode cX12_at 13 = .ok (.ireturn, 1) := dk_172 (by decide +kernel)
def wsRX12_at : List Cond := .code yX12_at cX12_at 3 (some .int) :: ([.fieldLink RX12 396 "OptimaWorksModel" "columns" "I"] ++ wsX120)
theorem iwsRX12_at_in12 : ∀ w ∈ wsX120, w ∈ wsRX12_at := fun _ h => List.mem_cons_of_mem _ (List.mem_append_right _ h)
set_option maxHeartbeats 4000000 in
set_option maxRecDepth 100000 in
/-- at(row, column) -/
theorem r_X12_at (l : Launch) (dC : Nat → ClassId) (dI : Nat → Nat → Nat) (a : Nat → Nat) (k : Nat → ClassId) (h0 : Nat) (vi : Nat → Int32) (vj : Nat → Int64) (vF : Nat → Nat → Int32) (vG : Nat → Nat → Int64) (rn : Nat) (cn : Nat) (C : Nat) (hC : vi 5 = nI C) (sz : Nat) : Met l yX12_at wsRX12_at ({ frames := 0, cells := 0, slots := 0, locals := 0 }) (va_Pc [.ref h0, .int (nI rn), .int (nI cn)] (fun U => U.heap.size = sz ∧ va_P (dC, dI) vwCl (WR a k h0 vi vj vF vG) U.heap ∧ va_K (dC, dI) vwCl (tX12 k) U ∧ va_D (fun _ => True) (WR a k h0 vi vj vF vG))) (va_Qi (fun (r : Int32) (u : Unit) => r = (nI (30 + rn * (C + 1) + cn))) (fun (u : Unit) t => va_P (dC, dI) vwCl (WR a k h0 vi vj vF vG) t.heap ∧ va_D (va_A (WR a k h0 vi vj vF vG) sz) (WR a k h0 vi vj vF vG)) (va_A (WR a k h0 vi vj vF vG) sz)) 0 0 (va_A (WR a k h0 vi vj vF vG) sz) := by
  refine Met.ofW (cc := cX12_at) (maxL := 3) (ret := (some .int)) (by decide) rfl ?_
  intro p e s m args below meth c s₁ B hml hv
  obtain ⟨rfl, hsz, hP, hK, hD0⟩ := hv
  have hx := B.exec
  have hb := B.bytes
  have hr := B.returns
  have hts := atoms_spec (ws := wsRX12_at) B.pre
  have hown : s.vm.findClass RX12 = some m.cls := findClass_of_methodNamed B.named
  have hlocks := B.notSynchronized
  subst hsz
  have hD := hD0.self (sz := s.heap.size)
  generalize hAe : va_A (WR a k h0 vi vj vF vG) s.heap.size = A at hD ⊢
  have hA : ∀ q : Nat, s.heap.size ≤ q → A q := fun q h => by rw [← hAe]; exact Or.inr h
  have hS : va_S A s.heap s.heap [] := va_S.rf
  have hl := lv_entry ([.ref h0, .int (nI rn), .int (nI cn)]) (n := 3) (Nat.le_of_ble_eq_true rfl)
  rw [lg_entry_eq]
  generalize (lg_sl ([.ref h0, .int (nI rn), .int (nI cn)]) ++ List.replicate (3 - (lg_sl ([.ref h0, .int (nI rn), .int (nI cn)])).length) Slot.unset).toArray = ls at hl ⊢
  have hl : lv_has ls 3 [(0, .ref h0), (1, .int (nI rn)), (2, .int (nI cn))] := hl
  refine lv_bipush (v := 30) hx hb dX12_at_0 (by decide) ?_
  refine lv_iload_n hx hb dX12_at_2 rfl (lv_at hl 1 rfl) ?_
  refine lv_aload_n hx hb dX12_at_3 rfl (lv_at hl 0 rfl) ?_
  refine va_get (D := (dC, dI)) (ci := 12) (v := .int (vi 5)) (C := RX12) (T := TX12) (N := 163) (fs := fM (vS a vi vj)) hx hb hts iwsRX12_at_in12 hown hK hP 0 rfl rfl 5 (by decide) (hts (.fieldLink RX12 396 "OptimaWorksModel" "columns" "I") (by decide +kernel)) (fun _ h9 => h9) rfl dX12_at_4 ?_
  refine lv_topi (fun y1 hy1 => ?_)
  obtain rfl : (nI C) = y1 := (hy1.trans (hC)).symm
  refine lv_iconst (v := 1) hx hb dX12_at_7 (by decide) ?_
  refine lv_iadd hx hb dX12_at_8 ?_
  refine lv_topi (fun y2 hy2 => ?_)
  obtain rfl : (nI (C + 1)) = y2 := (hy2.trans (nI_add C 1)).symm
  refine lv_imul hx hb dX12_at_9 ?_
  refine lv_topi (fun y3 hy3 => ?_)
  obtain rfl : (nI (rn * (C + 1))) = y3 := (hy3.trans (pk_mul rn (C + 1))).symm
  refine lv_iadd hx hb dX12_at_10 ?_
  refine lv_topi (fun y4 hy4 => ?_)
  obtain rfl : (nI (30 + (rn * (C + 1)))) = y4 := (hy4.trans (nI_add 30 (rn * (C + 1)))).symm
  refine lv_iload_n hx hb dX12_at_11 rfl (lv_at hl 2 rfl) ?_
  refine lv_iadd hx hb dX12_at_12 ?_
  refine lv_topi (fun y5 hy5 => ?_)
  obtain rfl : (nI ((30 + (rn * (C + 1))) + cn)) = y5 := (hy5.trans (nI_add (30 + (rn * (C + 1))) cn)).symm
  refine W.widen (k := 0) (n := 0) (by decide +kernel) (by decide +kernel) ?_
  exact W.iret (v := (nI ((30 + (rn * (C + 1))) + cn))) hx hb hr (fun t9_ ht hW => ⟨⟨(nI ((30 + (rn * (C + 1))) + cn)), (), rfl, by (first | rfl | assumption | trivial | omega | (simp []; done) | (simp; omega)), by rw [ht]; exact hP, hD⟩, hS.F ht⟩) hS.2.2 dX12_at_13
theorem dX12_place1_0 : decode cX12_place1 0 = .ok (.iload_n 1, 1) := dk_27 (by decide +kernel)
theorem dX12_place1_1 : decode cX12_place1 1 = .ok (.aload_n 0, 1) := dk_42 (by decide +kernel)
theorem dX12_place1_2 : decode cX12_place1 2 = .ok (.getfield 396, 3) := dk_180 (by decide +kernel)
theorem dX12_place1_5 : decode cX12_place1 5 = .ok (.iconst 1, 1) := dk_4 (by decide +kernel)
theorem dX12_place1_6 : decode cX12_place1 6 = .ok (.iadd, 1) := dk_96 (by decide +kernel)
theorem dX12_place1_7 : decode cX12_place1 7 = .ok (.imul, 1) := dk_104 (by decide +kernel)
theorem dX12_place1_8 : decode cX12_place1 8 = .ok (.iload_n 2, 1) := dk_28 (by decide +kernel)
theorem dX12_place1_9 : decode cX12_place1 9 = .ok (.iadd, 1) := dk_96 (by decide +kernel)
theorem dX12_place1_10 : decode cX12_place1 10 = .ok (.ireturn, 1) := dk_172 (by decide +kernel)
def wsRX12_place1 : List Cond := .code yX12_place1 cX12_place1 3 (some .int) :: ([.fieldLink RX12 396 "OptimaWorksModel" "columns" "I"] ++ wsX120)
theorem iwsRX12_place1_in12 : ∀ w ∈ wsX120, w ∈ wsRX12_place1 := fun _ h => List.mem_cons_of_mem _ (List.mem_append_right _ h)
set_option maxHeartbeats 4000000 in
set_option maxRecDepth 100000 in
/-- place1(row, column) -/
theorem r_X12_place1 (l : Launch) (dC : Nat → ClassId) (dI : Nat → Nat → Nat) (a : Nat → Nat) (k : Nat → ClassId) (h0 : Nat) (vi : Nat → Int32) (vj : Nat → Int64) (vF : Nat → Nat → Int32) (vG : Nat → Nat → Int64) (rn : Nat) (cn : Nat) (C : Nat) (hC : vi 5 = nI C) (sz : Nat) : Met l yX12_place1 wsRX12_place1 ({ frames := 0, cells := 0, slots := 0, locals := 0 }) (va_Pc [.ref h0, .int (nI rn), .int (nI cn)] (fun U => U.heap.size = sz ∧ va_P (dC, dI) vwCl (WR a k h0 vi vj vF vG) U.heap ∧ va_K (dC, dI) vwCl (tX12 k) U ∧ va_D (fun _ => True) (WR a k h0 vi vj vF vG))) (va_Qi (fun (r : Int32) (u : Unit) => r = (nI (rn * (C + 1) + cn))) (fun (u : Unit) t => va_P (dC, dI) vwCl (WR a k h0 vi vj vF vG) t.heap ∧ va_D (va_A (WR a k h0 vi vj vF vG) sz) (WR a k h0 vi vj vF vG)) (va_A (WR a k h0 vi vj vF vG) sz)) 0 0 (va_A (WR a k h0 vi vj vF vG) sz) := by
  refine Met.ofW (cc := cX12_place1) (maxL := 3) (ret := (some .int)) (by decide) rfl ?_
  intro p e s m args below meth c s₁ B hml hv
  obtain ⟨rfl, hsz, hP, hK, hD0⟩ := hv
  have hx := B.exec
  have hb := B.bytes
  have hr := B.returns
  have hts := atoms_spec (ws := wsRX12_place1) B.pre
  have hown : s.vm.findClass RX12 = some m.cls := findClass_of_methodNamed B.named
  have hlocks := B.notSynchronized
  subst hsz
  have hD := hD0.self (sz := s.heap.size)
  generalize hAe : va_A (WR a k h0 vi vj vF vG) s.heap.size = A at hD ⊢
  have hA : ∀ q : Nat, s.heap.size ≤ q → A q := fun q h => by rw [← hAe]; exact Or.inr h
  have hS : va_S A s.heap s.heap [] := va_S.rf
  have hl := lv_entry ([.ref h0, .int (nI rn), .int (nI cn)]) (n := 3) (Nat.le_of_ble_eq_true rfl)
  rw [lg_entry_eq]
  generalize (lg_sl ([.ref h0, .int (nI rn), .int (nI cn)]) ++ List.replicate (3 - (lg_sl ([.ref h0, .int (nI rn), .int (nI cn)])).length) Slot.unset).toArray = ls at hl ⊢
  have hl : lv_has ls 3 [(0, .ref h0), (1, .int (nI rn)), (2, .int (nI cn))] := hl
  refine lv_iload_n hx hb dX12_place1_0 rfl (lv_at hl 1 rfl) ?_
  refine lv_aload_n hx hb dX12_place1_1 rfl (lv_at hl 0 rfl) ?_
  refine va_get (D := (dC, dI)) (ci := 12) (v := .int (vi 5)) (C := RX12) (T := TX12) (N := 163) (fs := fM (vS a vi vj)) hx hb hts iwsRX12_place1_in12 hown hK hP 0 rfl rfl 5 (by decide) (hts (.fieldLink RX12 396 "OptimaWorksModel" "columns" "I") (by decide +kernel)) (fun _ h9 => h9) rfl dX12_place1_2 ?_
  refine lv_topi (fun y1 hy1 => ?_)
  obtain rfl : (nI C) = y1 := (hy1.trans (hC)).symm
  refine lv_iconst (v := 1) hx hb dX12_place1_5 (by decide) ?_
  refine lv_iadd hx hb dX12_place1_6 ?_
  refine lv_topi (fun y2 hy2 => ?_)
  obtain rfl : (nI (C + 1)) = y2 := (hy2.trans (nI_add C 1)).symm
  refine lv_imul hx hb dX12_place1_7 ?_
  refine lv_topi (fun y3 hy3 => ?_)
  obtain rfl : (nI (rn * (C + 1))) = y3 := (hy3.trans (pk_mul rn (C + 1))).symm
  refine lv_iload_n hx hb dX12_place1_8 rfl (lv_at hl 2 rfl) ?_
  refine lv_iadd hx hb dX12_place1_9 ?_
  refine lv_topi (fun y4 hy4 => ?_)
  obtain rfl : (nI ((rn * (C + 1)) + cn)) = y4 := (hy4.trans (nI_add (rn * (C + 1)) cn)).symm
  refine W.widen (k := 0) (n := 0) (by decide +kernel) (by decide +kernel) ?_
  exact W.iret (v := (nI ((rn * (C + 1)) + cn))) hx hb hr (fun t9_ ht hW => ⟨⟨(nI ((rn * (C + 1)) + cn)), (), rfl, by (first | rfl | assumption | trivial | omega | (simp []; done) | (simp; omega)), by rw [ht]; exact hP, hD⟩, hS.F ht⟩) hS.2.2 dX12_place1_10
theorem dX12_exchange_0 : decode cX12_exchange 0 = .ok (.aload_n 0, 1) := dk_42 (by decide +kernel)
theorem dX12_exchange_1 : decode cX12_exchange 1 = .ok (.getfield 23, 3) := dk_180 (by decide +kernel)
theorem dX12_exchange_4 : decode cX12_exchange 4 = .ok (.iload_n 2, 1) := dk_28 (by decide +kernel)
theorem dX12_exchange_5 : decode cX12_exchange 5 = .ok (.iaload, 1) := dk_46 (by decide +kernel)
theorem dX12_exchange_6 : decode cX12_exchange 6 = .ok (.istore_n 3, 1) := dk_62 (by decide +kernel)
theorem dX12_exchange_7 : decode cX12_exchange 7 = .ok (.aload_n 0, 1) := dk_42 (by decide +kernel)
theorem dX12_exchange_8 : decode cX12_exchange 8 = .ok (.getfield 23, 3) := dk_180 (by decide +kernel)
theorem dX12_exchange_11 : decode cX12_exchange 11 = .ok (.iload_n 2, 1) := dk_28 (by decide +kernel)
theorem dX12_exchange_12 : decode cX12_exchange 12 = .ok (.aload_n 0, 1) := dk_42 (by decide +kernel)
theorem dX12_exchange_13 : decode cX12_exchange 13 = .ok (.getfield 26, 3) := dk_180 (by decide +kernel)
theorem dX12_exchange_16 : decode cX12_exchange 16 = .ok (.iload_n 1, 1) := dk_27 (by decide +kernel)
theorem dX12_exchange_17 : decode cX12_exchange 17 = .ok (.iaload, 1) := dk_46 (by decide +kernel)
theorem dX12_exchange_18 : decode cX12_exchange 18 = .ok (.iastore, 1) := dk_79 (by decide +kernel)
theorem dX12_exchange_19 : decode cX12_exchange 19 = .ok (.aload_n 0, 1) := dk_42 (by decide +kernel)
theorem dX12_exchange_20 : decode cX12_exchange 20 = .ok (.getfield 26, 3) := dk_180 (by decide +kernel)
theorem dX12_exchange_23 : decode cX12_exchange 23 = .ok (.iload_n 1, 1) := dk_27 (by decide +kernel)
theorem dX12_exchange_24 : decode cX12_exchange 24 = .ok (.iload_n 3, 1) := dk_29 (by decide +kernel)
theorem dX12_exchange_25 : decode cX12_exchange 25 = .ok (.iastore, 1) := dk_79 (by decide +kernel)
theorem dX12_exchange_26 : decode cX12_exchange 26 = .ok (.return_, 1) := dk_177 (by decide +kernel)
def wsRX12_exchange : List Cond := .code yX12_exchange cX12_exchange 4 none :: ([.fieldLink RX12 23 "OptimaWorksModel" "columnOf" "[I", .fieldLink RX12 26 "OptimaWorksModel" "rowOf" "[I"] ++ wsX120)
theorem iwsRX12_exchange_in12 : ∀ w ∈ wsX120, w ∈ wsRX12_exchange := fun _ h => List.mem_cons_of_mem _ (List.mem_append_right _ h)
set_option maxHeartbeats 4000000 in
set_option maxRecDepth 100000 in
/-- exchange(r, c) -/
theorem r_X12_exchange (l : Launch) (dC : Nat → ClassId) (dI : Nat → Nat → Nat) (a : Nat → Nat) (k : Nat → ClassId) (h0 : Nat) (vi : Nat → Int32) (vj : Nat → Int64) (vF : Nat → Nat → Int32) (vG : Nat → Nat → Int64) (rn : Nat) (cn : Nat) (hr : rn < 60) (hc : cn < 46) (sz : Nat) : Met l yX12_exchange wsRX12_exchange ({ frames := 0, cells := 0, slots := 0, locals := 0 }) (va_Pc [.ref h0, .int (nI rn), .int (nI cn)] (fun U => U.heap.size = sz ∧ va_P (dC, dI) vwCl (WR a k h0 vi vj vF vG) U.heap ∧ va_K (dC, dI) vwCl (tX12 k) U ∧ va_D (fun _ => True) (WR a k h0 vi vj vF vG))) (va_Qv (fun (u : Unit) => True) (fun (u : Unit) t => va_P (dC, dI) vwCl (WR a k h0 vi vj (fT (fT vF 4 (upd (vF 4) (nI cn).toNatClampNeg (vF 5 rn))) 5 (upd (vF 5) (nI rn).toNatClampNeg (vF 4 cn))) vG) t.heap ∧ va_D (va_A (WR a k h0 vi vj vF vG) sz) (WR a k h0 vi vj (fT (fT vF 4 (upd (vF 4) (nI cn).toNatClampNeg (vF 5 rn))) 5 (upd (vF 5) (nI rn).toNatClampNeg (vF 4 cn))) vG)) (va_A (WR a k h0 vi vj vF vG) sz)) 0 0 (va_A (WR a k h0 vi vj vF vG) sz) := by
  refine Met.ofW (cc := cX12_exchange) (maxL := 4) (ret := none) (by decide) rfl ?_
  intro p e s m args below meth c s₁ B hml hv
  obtain ⟨rfl, hsz, hP, hK, hD0⟩ := hv
  have hx := B.exec
  have hb := B.bytes
  have hr := B.returns
  have hts := atoms_spec (ws := wsRX12_exchange) B.pre
  have hown : s.vm.findClass RX12 = some m.cls := findClass_of_methodNamed B.named
  have hlocks := B.notSynchronized
  subst hsz
  have hD := hD0.self (sz := s.heap.size)
  generalize hAe : va_A (WR a k h0 vi vj vF vG) s.heap.size = A at hD ⊢
  have hA : ∀ q : Nat, s.heap.size ≤ q → A q := fun q h => by rw [← hAe]; exact Or.inr h
  have hS : va_S A s.heap s.heap [] := va_S.rf
  have hl := lv_entry ([.ref h0, .int (nI rn), .int (nI cn)]) (n := 4) (Nat.le_of_ble_eq_true rfl)
  rw [lg_entry_eq]
  generalize (lg_sl ([.ref h0, .int (nI rn), .int (nI cn)]) ++ List.replicate (4 - (lg_sl ([.ref h0, .int (nI rn), .int (nI cn)])).length) Slot.unset).toArray = ls at hl ⊢
  have hl : lv_has ls 4 [(0, .ref h0), (1, .int (nI rn)), (2, .int (nI cn))] := hl
  refine lv_aload_n hx hb dX12_exchange_0 rfl (lv_at hl 0 rfl) ?_
  refine va_get (D := (dC, dI)) (ci := 12) (v := .ref (a 4)) (C := RX12) (T := TX12) (N := 163) (fs := fM (vS a vi vj)) hx hb hts iwsRX12_exchange_in12 hown hK hP 0 rfl rfl 8 (by decide) (hts (.fieldLink RX12 23 "OptimaWorksModel" "columnOf" "[I") (by decide +kernel)) (fun _ h9 => h9) rfl dX12_exchange_1 ?_
  refine lv_iload_n hx hb dX12_exchange_4 rfl (lv_at hl 2 rfl) ?_
  refine va_iald (cA := k 4) (n := 46) (f := (vF 4)) hx hb hK hP 5 4 (WR_get 4 (by decide)) (TR_get 4 (by decide)) (vp_in_nI (show cn < 46 by omega) (by omega)) dX12_exchange_5 ?_
  refine lv_topi (fun y1 hy1 => ?_)
  obtain rfl : ((vF 4) cn) = y1 := (hy1.trans (by rw [nI_clamp (by omega)])).symm
  refine lv_istore_n hx hb dX12_exchange_6 rfl hl (by decide) rfl (fun ls (hl : lv_has ls _ ([(3, .int ((vF 4) cn)), (0, .ref h0), (1, .int (nI rn)), (2, .int (nI cn))])) => ?_)
  refine lv_aload_n hx hb dX12_exchange_7 rfl (lv_at hl 1 rfl) ?_
  refine va_get (D := (dC, dI)) (ci := 12) (v := .ref (a 4)) (C := RX12) (T := TX12) (N := 163) (fs := fM (vS a vi vj)) hx hb hts iwsRX12_exchange_in12 hown hK hP 0 rfl rfl 8 (by decide) (hts (.fieldLink RX12 23 "OptimaWorksModel" "columnOf" "[I") (by decide +kernel)) (fun _ h9 => h9) rfl dX12_exchange_8 ?_
  refine lv_iload_n hx hb dX12_exchange_11 rfl (lv_at hl 3 rfl) ?_
  refine lv_aload_n hx hb dX12_exchange_12 rfl (lv_at hl 1 rfl) ?_
  refine va_get (D := (dC, dI)) (ci := 12) (v := .ref (a 5)) (C := RX12) (T := TX12) (N := 163) (fs := fM (vS a vi vj)) hx hb hts iwsRX12_exchange_in12 hown hK hP 0 rfl rfl 9 (by decide) (hts (.fieldLink RX12 26 "OptimaWorksModel" "rowOf" "[I") (by decide +kernel)) (fun _ h9 => h9) rfl dX12_exchange_13 ?_
  refine lv_iload_n hx hb dX12_exchange_16 rfl (lv_at hl 2 rfl) ?_
  refine va_iald (cA := k 5) (n := 60) (f := (vF 5)) hx hb hK hP 6 5 (WR_get 5 (by decide)) (TR_get 5 (by decide)) (vp_in_nI (show rn < 60 by omega) (by omega)) dX12_exchange_17 ?_
  refine lv_topi (fun y2 hy2 => ?_)
  obtain rfl : ((vF 5) rn) = y2 := (hy2.trans (by rw [nI_clamp (by omega)])).symm
  refine va_iast (cA := k 4) (n := 46) (f := (vF 4)) hx hb hK hP hD hS 5 4 (WR_get 4 (by decide)) (TR_get 4 (by decide)) (vp_in_nI (show cn < 46 by omega) (by omega)) dX12_exchange_18 (fun H locs hP hD hS => ?_)
  have hP : va_P (dC, dI) vwCl (WR a k h0 vi vj (fT vF 4 (upd (vF 4) ((nI cn)).toNatClampNeg ((vF 5) rn))) vG) H := by rw [← WR_F 4 (by decide) _ rfl]; exact hP
  have hD : va_D A (WR a k h0 vi vj (fT vF 4 (upd (vF 4) ((nI cn)).toNatClampNeg ((vF 5) rn))) vG) := by rw [← WR_F 4 (by decide) _ rfl]; exact hD
  refine lv_aload_n hx hb dX12_exchange_19 rfl (lv_at hl 1 rfl) ?_
  refine va_get (D := (dC, dI)) (ci := 12) (v := .ref (a 5)) (C := RX12) (T := TX12) (N := 163) (fs := fM (vS a vi vj)) hx hb hts iwsRX12_exchange_in12 hown hK hP 0 rfl rfl 9 (by decide) (hts (.fieldLink RX12 26 "OptimaWorksModel" "rowOf" "[I") (by decide +kernel)) (fun _ h9 => h9) rfl dX12_exchange_20 ?_
  refine lv_iload_n hx hb dX12_exchange_23 rfl (lv_at hl 2 rfl) ?_
  refine lv_iload_n hx hb dX12_exchange_24 rfl (lv_at hl 0 rfl) ?_
  refine va_iast (cA := k 5) (n := 60) (f := (vF 5)) hx hb hK hP hD hS 6 5 (WR_get 5 (by decide)) (TR_get 5 (by decide)) (vp_in_nI (show rn < 60 by omega) (by omega)) dX12_exchange_25 (fun H locs hP hD hS => ?_)
  have hP : va_P (dC, dI) vwCl (WR a k h0 vi vj (fT (fT vF 4 (upd (vF 4) ((nI cn)).toNatClampNeg ((vF 5) rn))) 5 (upd (vF 5) ((nI rn)).toNatClampNeg ((vF 4) cn))) vG) H := by rw [← WR_F 5 (by decide) _ rfl]; exact hP
  have hD : va_D A (WR a k h0 vi vj (fT (fT vF 4 (upd (vF 4) ((nI cn)).toNatClampNeg ((vF 5) rn))) 5 (upd (vF 5) ((nI rn)).toNatClampNeg ((vF 4) cn))) vG) := by rw [← WR_F 5 (by decide) _ rfl]; exact hD
  refine W.widen (k := 0) (n := 0) (by decide +kernel) (by decide +kernel) ?_
  have e9 : fT (fT vF 4 (upd (vF 4) (nI cn).toNatClampNeg (vF 5 rn))) 5 (upd (vF 5) (nI rn).toNatClampNeg (vF 4 cn)) = fT (fT vF 4 (upd (vF 4) ((nI cn)).toNatClampNeg ((vF 5) rn))) 5 (upd (vF 5) ((nI rn)).toNatClampNeg ((vF 4) cn)) := by funext q9; by_cases h9_4 : q9 = 4; (subst h9_4; exact ((fT_ne _ _ (Nat.ne_of_beq_eq_false rfl)).trans (fT_eq _ _ _)).trans (Eq.trans (by first | rfl | assumption | (symm; assumption) | (subst_vars; rfl)) ((fT_ne _ _ (Nat.ne_of_beq_eq_false rfl)).trans (fT_eq _ _ _)).symm)); by_cases h9_5 : q9 = 5; (subst h9_5; exact (fT_eq _ _ _).trans (Eq.trans (by first | rfl | assumption | (symm; assumption) | (subst_vars; rfl)) (fT_eq _ _ _).symm)); exact ((fT_ne _ _ h9_5).trans (fT_ne _ _ h9_4)).trans ((fT_ne _ _ h9_5).trans (fT_ne _ _ h9_4)).symm
  have hP : va_P (dC, dI) vwCl (WR a k h0 vi vj (fT (fT vF 4 (upd (vF 4) (nI cn).toNatClampNeg (vF 5 rn))) 5 (upd (vF 5) (nI rn).toNatClampNeg (vF 4 cn))) vG) H := by rw [e9]; exact hP
  have hD : va_D A (WR a k h0 vi vj (fT (fT vF 4 (upd (vF 4) (nI cn).toNatClampNeg (vF 5 rn))) 5 (upd (vF 5) (nI rn).toNatClampNeg (vF 4 cn))) vG) := by rw [e9]; exact hD
  clear e9
  exact W.vret hx hb hr (fun t9_ ht hW => ⟨⟨(), rfl, trivial, by rw [ht]; exact hP, hD⟩, hS.F ht⟩) hS.2.2 dX12_exchange_26

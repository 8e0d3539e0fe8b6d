/-- the premises of a call on an object -/
theorem fz_pre {s : State} {H : Heap} {C : String} {b : Addr} {As : List Value} {D : va_G} {cl : List vw_C} {w : va_W} {tys : List (ClassId × FieldType)} {A : Nat → Prop} (hr : ∃ cell : Cell, H[b]? = some cell ∧ cell.vm.isStatics = false ∧ s.vm.findClass C = some cell.cls) (hP : va_P D cl w H) (hK : va_K D cl tys s) (hD : va_D A w) : PreV s H C b (va_Pc (Value.ref b :: As) (fun U => U.heap.size = H.size ∧ va_P D cl w U.heap ∧ va_K D cl tys U ∧ va_D (fun _ => True) w)) As := ⟨fun a U g mk q => by obtain ⟨q0, q1, qP, qK, qD⟩ := q; exact ⟨q0, q1, qP, va_K.moved (u := U) (U := U.calling g mk a) (Vm.Alike.refl U.vm) qK, qD⟩, hr, fun U hU9 hW => ⟨rfl, by rw [hU9], by rw [hU9]; exact hP, va_K.moved hW.alike hK, hD.weaken (fun _ _ _ _ => trivial)⟩⟩
theorem fz_preE {s : State} {H : Heap} {C : String} {b : Addr} {As : List Value} {D : va_G} {cl : List vw_C} {w : va_W} {tys : List (ClassId × FieldType)} {A : Nat → Prop} {X : State → Prop} (hr : ∃ cell : Cell, H[b]? = some cell ∧ cell.vm.isStatics = false ∧ s.vm.findClass C = some cell.cls) (hP : va_P D cl w H) (hK : va_K D cl tys s) (hD : va_D A w) (hb : ∀ a U g mk, X U → X (U.calling g mk a)) (hX : ∀ U : State, U.heap = H → s.WarmedH U.vm → X U) : PreV s H C b (va_Pc (Value.ref b :: As) (fun U => U.heap.size = H.size ∧ va_P D cl w U.heap ∧ va_K D cl tys U ∧ va_D (fun _ => True) w ∧ X U)) As := ⟨fun a U g mk q => by obtain ⟨q0, q1, qP, qK, qD, qE⟩ := q; exact ⟨q0, q1, qP, va_K.moved (u := U) (U := U.calling g mk a) (Vm.Alike.refl U.vm) qK, qD, hb _ _ _ _ qE⟩, hr, fun U hU9 hW => ⟨rfl, by rw [hU9], by rw [hU9]; exact hP, va_K.moved hW.alike hK, hD.weaken (fun _ _ _ _ => trivial), hX U hU9 hW⟩⟩
theorem fz_P {D : va_G} {cl : List vw_C} {w : va_W} {t : State} {H : Heap} (ht : t.heap = H) (h : va_P D cl w t.heap) : va_P D cl w H := ht ▸ h
theorem hd_yX12_need1_RX12 : yX12_need1.cls = RX12 ∧ yX12_need1.cls ≠ "java/lang/invoke/MethodHandle" ∧ yX12_need1.cls ≠ "java/lang/invoke/VarHandle" ∧ (parseMethodDescriptor yX12_need1.desc).map (fun d => d.parameters.length) = some 2 := by decide +kernel
theorem hd_yX12_at_RX12 : yX12_at.cls = RX12 ∧ yX12_at.cls ≠ "java/lang/invoke/MethodHandle" ∧ yX12_at.cls ≠ "java/lang/invoke/VarHandle" ∧ (parseMethodDescriptor yX12_at.desc).map (fun d => d.parameters.length) = some 2 := by decide +kernel
theorem hd_yX12_put_RX12 : yX12_put.cls = RX12 ∧ yX12_put.cls ≠ "java/lang/invoke/MethodHandle" ∧ yX12_put.cls ≠ "java/lang/invoke/VarHandle" ∧ (parseMethodDescriptor yX12_put.desc).map (fun d => d.parameters.length) = some 2 := by decide +kernel
theorem hd_yX12_isEqual_RX12 : yX12_isEqual.cls = RX12 ∧ yX12_isEqual.cls ≠ "java/lang/invoke/MethodHandle" ∧ yX12_isEqual.cls ≠ "java/lang/invoke/VarHandle" ∧ (parseMethodDescriptor yX12_isEqual.desc).map (fun d => d.parameters.length) = some 1 := by decide +kernel
theorem dX12_need1_0 : decode cX12_need1 0 = .ok (.aload_n 0, 1) := dk_42 (by decide +kernel)
theorem dX12_need1_1 : decode cX12_need1 1 = .ok (.getfield 236, 3) := dk_180 (by decide +kernel)
theorem dX12_need1_4 : decode cX12_need1 4 = .ok (.aload_n 0, 1) := dk_42 (by decide +kernel)
theorem dX12_need1_5 : decode cX12_need1 5 = .ok (.getfield 894, 3) := dk_180 (by decide +kernel)
theorem dX12_need1_8 : decode cX12_need1 8 = .ok (.iload_n 1, 1) := dk_27 (by decide +kernel)
theorem dX12_need1_9 : decode cX12_need1 9 = .ok (.iastore, 1) := dk_79 (by decide +kernel)
theorem dX12_need1_10 : decode cX12_need1 10 = .ok (.aload_n 0, 1) := dk_42 (by decide +kernel)
theorem dX12_need1_11 : decode cX12_need1 11 = .ok (.getfield 239, 3) := dk_180 (by decide +kernel)
theorem dX12_need1_14 : decode cX12_need1 14 = .ok (.aload_n 0, 1) := dk_42 (by decide +kernel)
theorem dX12_need1_15 : decode cX12_need1 15 = .ok (.getfield 894, 3) := dk_180 (by decide +kernel)
theorem dX12_need1_18 : decode cX12_need1 18 = .ok (.iload_n 2, 1) := dk_28 (by decide +kernel)
theorem dX12_need1_19 : decode cX12_need1 19 = .ok (.iastore, 1) := dk_79 (by decide +kernel)
theorem dX12_need1_20 : decode cX12_need1 20 = .ok (.aload_n 0, 1) := dk_42 (by decide +kernel)
theorem dX12_need1_21 : decode cX12_need1 21 = .ok (.getfield 242, 3) := dk_180 (by decide +kernel)
theorem dX12_need1_24 : decode cX12_need1 24 = .ok (.aload_n 0, 1) := dk_42 (by decide +kernel)
theorem dX12_need1_25 : decode cX12_need1 25 = .ok (.getfield 894, 3) := dk_180 (by decide +kernel)
theorem dX12_need1_28 : decode cX12_need1 28 = .ok (.iconst 1, 1) := dk_4 (by decide +kernel)
theorem dX12_need1_29 : decode cX12_need1 29 = .ok (.iastore, 1) := dk_79 (by decide +kernel)
theorem dX12_need1_30 : decode cX12_need1 30 = .ok (.aload_n 0, 1) := dk_42 (by decide +kernel)
theorem dX12_need1_31 : decode cX12_need1 31 = .ok (.dup, 1) := dk_89 (by decide +kernel)
theorem dX12_need1_32 : decode cX12_need1 32 = .ok (.getfield 894, 3) := dk_180 (by decide +kernel)
theorem dX12_need1_35 : decode cX12_need1 35 = .ok (.iconst 1, 1) := dk_4 (by decide +kernel)
theorem dX12_need1_36 : decode cX12_need1 36 = .ok (.iadd, 1) := dk_96 (by decide +kernel)
theorem dX12_need1_37 : decode cX12_need1 37 = .ok (.putfield 894, 3) := dk_181 (by decide +kernel)
theorem dX12_need1_40 : decode cX12_need1 40 = .ok (.return_, 1) := dk_177 (by decide +kernel)
def wsRX12_need1 : List Cond := .code yX12_need1 cX12_need1 3 none :: ([.fieldLink RX12 236 "OptimaWorksModel" "needKind" "[I", .fieldLink RX12 894 "OptimaWorksModel" "needs" "I", .fieldLink RX12 239 "OptimaWorksModel" "needOf" "[I", .fieldLink RX12 242 "OptimaWorksModel" "needKept" "[I"] ++ wsX120)
theorem iwsRX12_need1_in12 : ∀ w ∈ wsX120, w ∈ wsRX12_need1 := fun _ h => List.mem_cons_of_mem _ (List.mem_append_right _ h)
theorem gdwsRX12_need1 : wsRX12_need1.all goodWord = true := gdC rfl (gdA (by decide +kernel : ([.fieldLink RX12 236 "OptimaWorksModel" "needKind" "[I", .fieldLink RX12 894 "OptimaWorksModel" "needs" "I", .fieldLink RX12 239 "OptimaWorksModel" "needOf" "[I", .fieldLink RX12 242 "OptimaWorksModel" "needKept" "[I"] : List Cond).all goodWord = true) gdwsX120)
set_option maxHeartbeats 4000000 in
set_option maxRecDepth 100000 in
/-- need1(k, of) -/
theorem r_X12_need1 (l : Launch) (dC : Nat → ClassId) (dI : Nat → Nat → Nat) (a : Nat → Nat) (k : Nat → ClassId) (h0 : Nat) (vi : Nat → Int32) (vj : Nat → Int64) (vF : Nat → Nat → Int32) (vG : Nat → Nat → Int64) (kv : Int32) (ov : Int32) (nd : Nat) (hnd : vi 119 = nI nd) (hnd28 : nd < 28) (sz : Nat) : Met l yX12_need1 wsRX12_need1 ({ frames := 0, cells := 0, slots := 0, locals := 0 }) (va_Pc [.ref h0, .int kv, .int ov] (fun U => U.heap.size = sz ∧ va_P (dC, dI) vwCl (WR a k h0 vi vj vF vG) U.heap ∧ va_K (dC, dI) vwCl (tX12 k) U ∧ va_D (fun _ => True) (WR a k h0 vi vj vF vG))) (va_Qv (fun (u : Unit) => True) (fun (u : Unit) t => va_P (dC, dI) vwCl (WR a k h0 (fT vi 119 (nI (nd + 1))) vj (fT (fT (fT vF 71 (upd (vF 71) (nI nd).toNatClampNeg kv)) 72 (upd (vF 72) (nI nd).toNatClampNeg ov)) 73 (upd (vF 73) (nI nd).toNatClampNeg 1)) vG) t.heap ∧ va_D (va_A (WR a k h0 vi vj vF vG) sz) (WR a k h0 (fT vi 119 (nI (nd + 1))) vj (fT (fT (fT vF 71 (upd (vF 71) (nI nd).toNatClampNeg kv)) 72 (upd (vF 72) (nI nd).toNatClampNeg ov)) 73 (upd (vF 73) (nI nd).toNatClampNeg 1)) vG)) (va_A (WR a k h0 vi vj vF vG) sz)) 0 0 (va_A (WR a k h0 vi vj vF vG) sz) := by
  refine Met.ofW (cc := cX12_need1) (maxL := 3) (ret := none) (by decide) rfl ?_
  intro p e s m args below meth c s₁ B hml hv
  obtain ⟨rfl, hsz, hP, hK, hD0⟩ := hv
  have hx := B.exec
  have hb := B.bytes
  have hr := B.returns
  have hts := atoms_spec (ws := wsRX12_need1) B.pre
  have hown : s.vm.findClass RX12 = some m.cls := findClass_of_methodNamed B.named
  have hlocks := B.notSynchronized
  subst hsz
  have hD := hD0.self (sz := s.heap.size)
  generalize hAe : va_A (WR a k h0 vi vj vF vG) s.heap.size = A at hD ⊢
  have hA : ∀ q : Nat, s.heap.size ≤ q → A q := fun q h => by rw [← hAe]; exact Or.inr h
  have hS : va_S A s.heap s.heap [] := va_S.rf
  have hl := lv_entry ([.ref h0, .int kv, .int ov]) (n := 3) (Nat.le_of_ble_eq_true rfl)
  rw [lg_entry_eq]
  generalize (lg_sl ([.ref h0, .int kv, .int ov]) ++ List.replicate (3 - (lg_sl ([.ref h0, .int kv, .int ov])).length) Slot.unset).toArray = ls at hl ⊢
  have hl : lv_has ls 3 [(0, .ref h0), (1, .int kv), (2, .int ov)] := hl
  refine lv_aload_n hx hb dX12_need1_0 rfl (lv_at hl 0 rfl) ?_
  refine va_get (D := (dC, dI)) (ci := 12) (v := .ref (a 71)) (C := RX12) (T := TX12) (N := 163) (fs := fM (vS a vi vj)) hx hb hts iwsRX12_need1_in12 hown hK hP 0 rfl rfl 120 (by decide) (hts (.fieldLink RX12 236 "OptimaWorksModel" "needKind" "[I") (by decide +kernel)) (fun _ h9 => h9) rfl dX12_need1_1 ?_
  refine lv_aload_n hx hb dX12_need1_4 rfl (lv_at hl 0 rfl) ?_
  refine va_get (D := (dC, dI)) (ci := 12) (v := .int (vi 119)) (C := RX12) (T := TX12) (N := 163) (fs := fM (vS a vi vj)) hx hb hts iwsRX12_need1_in12 hown hK hP 0 rfl rfl 119 (by decide) (hts (.fieldLink RX12 894 "OptimaWorksModel" "needs" "I") (by decide +kernel)) (fun _ h9 => h9) rfl dX12_need1_5 ?_
  refine lv_topi (fun y1 hy1 => ?_)
  obtain rfl : (nI nd) = y1 := (hy1.trans (hnd)).symm
  refine lv_iload_n hx hb dX12_need1_8 rfl (lv_at hl 1 rfl) ?_
  refine va_iast (cA := k 71) (n := 28) (f := (vF 71)) hx hb hK hP hD hS 72 71 (WR_get 71 (by decide)) (TR_get 71 (by decide)) (vp_in_nI (show nd < 28 by omega) (by omega)) dX12_need1_9 (fun H locs hP hD hS => ?_)
  have hP : va_P (dC, dI) vwCl (WR a k h0 vi vj (fT vF 71 (upd (vF 71) ((nI nd)).toNatClampNeg kv)) vG) H := by rw [← WR_F 71 (by decide) _ rfl]; exact hP
  have hD : va_D A (WR a k h0 vi vj (fT vF 71 (upd (vF 71) ((nI nd)).toNatClampNeg kv)) vG) := by rw [← WR_F 71 (by decide) _ rfl]; exact hD
  refine lv_aload_n hx hb dX12_need1_10 rfl (lv_at hl 0 rfl) ?_
  refine va_get (D := (dC, dI)) (ci := 12) (v := .ref (a 72)) (C := RX12) (T := TX12) (N := 163) (fs := fM (vS a vi vj)) hx hb hts iwsRX12_need1_in12 hown hK hP 0 rfl rfl 121 (by decide) (hts (.fieldLink RX12 239 "OptimaWorksModel" "needOf" "[I") (by decide +kernel)) (fun _ h9 => h9) rfl dX12_need1_11 ?_
  refine lv_aload_n hx hb dX12_need1_14 rfl (lv_at hl 0 rfl) ?_
  refine va_get (D := (dC, dI)) (ci := 12) (v := .int (vi 119)) (C := RX12) (T := TX12) (N := 163) (fs := fM (vS a vi vj)) hx hb hts iwsRX12_need1_in12 hown hK hP 0 rfl rfl 119 (by decide) (hts (.fieldLink RX12 894 "OptimaWorksModel" "needs" "I") (by decide +kernel)) (fun _ h9 => h9) rfl dX12_need1_15 ?_
  refine lv_topi (fun y2 hy2 => ?_)
  obtain rfl : (nI nd) = y2 := (hy2.trans (hnd)).symm
  refine lv_iload_n hx hb dX12_need1_18 rfl (lv_at hl 2 rfl) ?_
  refine va_iast (cA := k 72) (n := 28) (f := (vF 72)) hx hb hK hP hD hS 73 72 (WR_get 72 (by decide)) (TR_get 72 (by decide)) (vp_in_nI (show nd < 28 by omega) (by omega)) dX12_need1_19 (fun H locs hP hD hS => ?_)
  have hP : va_P (dC, dI) vwCl (WR a k h0 vi vj (fT (fT vF 71 (upd (vF 71) ((nI nd)).toNatClampNeg kv)) 72 (upd (vF 72) ((nI nd)).toNatClampNeg ov)) vG) H := by rw [← WR_F 72 (by decide) _ rfl]; exact hP
  have hD : va_D A (WR a k h0 vi vj (fT (fT vF 71 (upd (vF 71) ((nI nd)).toNatClampNeg kv)) 72 (upd (vF 72) ((nI nd)).toNatClampNeg ov)) vG) := by rw [← WR_F 72 (by decide) _ rfl]; exact hD
  refine lv_aload_n hx hb dX12_need1_20 rfl (lv_at hl 0 rfl) ?_
  refine va_get (D := (dC, dI)) (ci := 12) (v := .ref (a 73)) (C := RX12) (T := TX12) (N := 163) (fs := fM (vS a vi vj)) hx hb hts iwsRX12_need1_in12 hown hK hP 0 rfl rfl 122 (by decide) (hts (.fieldLink RX12 242 "OptimaWorksModel" "needKept" "[I") (by decide +kernel)) (fun _ h9 => h9) rfl dX12_need1_21 ?_
  refine lv_aload_n hx hb dX12_need1_24 rfl (lv_at hl 0 rfl) ?_
  refine va_get (D := (dC, dI)) (ci := 12) (v := .int (vi 119)) (C := RX12) (T := TX12) (N := 163) (fs := fM (vS a vi vj)) hx hb hts iwsRX12_need1_in12 hown hK hP 0 rfl rfl 119 (by decide) (hts (.fieldLink RX12 894 "OptimaWorksModel" "needs" "I") (by decide +kernel)) (fun _ h9 => h9) rfl dX12_need1_25 ?_
  refine lv_topi (fun y3 hy3 => ?_)
  obtain rfl : (nI nd) = y3 := (hy3.trans (hnd)).symm
  refine lv_iconst (v := 1) hx hb dX12_need1_28 (by decide) ?_
  refine va_iast (cA := k 73) (n := 28) (f := (vF 73)) hx hb hK hP hD hS 74 73 (WR_get 73 (by decide)) (TR_get 73 (by decide)) (vp_in_nI (show nd < 28 by omega) (by omega)) dX12_need1_29 (fun H locs hP hD hS => ?_)
  have hP : va_P (dC, dI) vwCl (WR a k h0 vi vj (fT (fT (fT vF 71 (upd (vF 71) ((nI nd)).toNatClampNeg kv)) 72 (upd (vF 72) ((nI nd)).toNatClampNeg ov)) 73 (upd (vF 73) ((nI nd)).toNatClampNeg 1)) vG) H := by rw [← WR_F 73 (by decide) _ rfl]; exact hP
  have hD : va_D A (WR a k h0 vi vj (fT (fT (fT vF 71 (upd (vF 71) ((nI nd)).toNatClampNeg kv)) 72 (upd (vF 72) ((nI nd)).toNatClampNeg ov)) 73 (upd (vF 73) ((nI nd)).toNatClampNeg 1)) vG) := by rw [← WR_F 73 (by decide) _ rfl]; exact hD
  refine lv_aload_n hx hb dX12_need1_30 rfl (lv_at hl 0 rfl) ?_
  refine lv_dup hx hb dX12_need1_31 rfl ?_
  refine va_get (D := (dC, dI)) (ci := 12) (v := .int (vi 119)) (C := RX12) (T := TX12) (N := 163) (fs := fM (vS a vi vj)) hx hb hts iwsRX12_need1_in12 hown hK hP 0 rfl rfl 119 (by decide) (hts (.fieldLink RX12 894 "OptimaWorksModel" "needs" "I") (by decide +kernel)) (fun _ h9 => h9) rfl dX12_need1_32 ?_
  refine lv_topi (fun y4 hy4 => ?_)
  obtain rfl : (nI nd) = y4 := (hy4.trans (hnd)).symm
  refine lv_iconst (v := 1) hx hb dX12_need1_35 (by decide) ?_
  refine lv_iadd hx hb dX12_need1_36 ?_
  refine lv_topi (fun y5 hy5 => ?_)
  obtain rfl : (nI (nd + 1)) = y5 := (hy5.trans (nI_add nd 1)).symm
  refine va_put (D := (dC, dI)) (ci := 12) (v := .int (nI (nd + 1))) (ty := .int) (C := RX12) (T := TX12) (N := 163) (fs := fM (vS a vi vj)) hx hb hts iwsRX12_need1_in12 tyX12 tyX12_ok nmX12 hown hK hP hD hS 0 rfl rfl 119 (by decide) (hts (.fieldLink RX12 894 "OptimaWorksModel" "needs" "I") (by decide +kernel)) (fun _ h9 => h9) rfl (by decide +kernel) rfl rfl (Nat.le_of_ble_eq_true rfl) dX12_need1_37 (fun H locs hP hD hS => ?_)
  have hP : va_P (dC, dI) vwCl (WR a k h0 (fT vi 119 (nI (nd + 1))) vj (fT (fT (fT vF 71 (upd (vF 71) ((nI nd)).toNatClampNeg kv)) 72 (upd (vF 72) ((nI nd)).toNatClampNeg ov)) 73 (upd (vF 73) ((nI nd)).toNatClampNeg 1)) vG) H := by rw [← WR_i 119 _ rfl]; exact hP
  have hD : va_D A (WR a k h0 (fT vi 119 (nI (nd + 1))) vj (fT (fT (fT vF 71 (upd (vF 71) ((nI nd)).toNatClampNeg kv)) 72 (upd (vF 72) ((nI nd)).toNatClampNeg ov)) 73 (upd (vF 73) ((nI nd)).toNatClampNeg 1)) vG) := by rw [← WR_i 119 _ rfl]; exact hD
  refine W.widen (k := 0) (n := 0) (by decide +kernel) (by decide +kernel) ?_
  have e9 : fT (fT (fT vF 71 (upd (vF 71) (nI nd).toNatClampNeg kv)) 72 (upd (vF 72) (nI nd).toNatClampNeg ov)) 73 (upd (vF 73) (nI nd).toNatClampNeg 1) = fT (fT (fT vF 71 (upd (vF 71) ((nI nd)).toNatClampNeg kv)) 72 (upd (vF 72) ((nI nd)).toNatClampNeg ov)) 73 (upd (vF 73) ((nI nd)).toNatClampNeg 1) := by funext q9; by_cases h9_71 : q9 = 71; (subst h9_71; exact ((fT_ne _ _ (Nat.ne_of_beq_eq_false rfl)).trans ((fT_ne _ _ (Nat.ne_of_beq_eq_false rfl)).trans (fT_eq _ _ _))).trans (Eq.trans (by first | rfl | assumption | (symm; assumption) | (subst_vars; rfl)) ((fT_ne _ _ (Nat.ne_of_beq_eq_false rfl)).trans ((fT_ne _ _ (Nat.ne_of_beq_eq_false rfl)).trans (fT_eq _ _ _))).symm)); by_cases h9_72 : q9 = 72; (subst h9_72; exact ((fT_ne _ _ (Nat.ne_of_beq_eq_false rfl)).trans (fT_eq _ _ _)).trans (Eq.trans (by first | rfl | assumption | (symm; assumption) | (subst_vars; rfl)) ((fT_ne _ _ (Nat.ne_of_beq_eq_false rfl)).trans (fT_eq _ _ _)).symm)); by_cases h9_73 : q9 = 73; (subst h9_73; exact (fT_eq _ _ _).trans (Eq.trans (by first | rfl | assumption | (symm; assumption) | (subst_vars; rfl)) (fT_eq _ _ _).symm)); exact ((fT_ne _ _ h9_73).trans ((fT_ne _ _ h9_72).trans (fT_ne _ _ h9_71))).trans ((fT_ne _ _ h9_73).trans ((fT_ne _ _ h9_72).trans (fT_ne _ _ h9_71))).symm
  have hP : va_P (dC, dI) vwCl (WR a k h0 (fT vi 119 (nI (nd + 1))) vj (fT (fT (fT vF 71 (upd (vF 71) (nI nd).toNatClampNeg kv)) 72 (upd (vF 72) (nI nd).toNatClampNeg ov)) 73 (upd (vF 73) (nI nd).toNatClampNeg 1)) vG) H := by rw [e9]; exact hP
  have hD : va_D A (WR a k h0 (fT vi 119 (nI (nd + 1))) vj (fT (fT (fT vF 71 (upd (vF 71) (nI nd).toNatClampNeg kv)) 72 (upd (vF 72) (nI nd).toNatClampNeg ov)) 73 (upd (vF 73) (nI nd).toNatClampNeg 1)) vG) := by rw [e9]; exact hD
  clear e9
  exact W.vret hx hb hr (fun t9_ ht hW => ⟨⟨(), rfl, trivial, by rw [ht]; exact hP, hD⟩, hS.F ht⟩) hS.2.2 dX12_need1_40
theorem dX12_listNeeds_0 : decode cX12_listNeeds 0 = .ok (.aload_n 0, 1) := dk_42 (by decide +kernel)
theorem dX12_listNeeds_1 : decode cX12_listNeeds 1 = .ok (.iconst 0, 1) := dk_3 (by decide +kernel)
theorem dX12_listNeeds_2 : decode cX12_listNeeds 2 = .ok (.putfield 894, 3) := dk_181 (by decide +kernel)
theorem dX12_listNeeds_5 : decode cX12_listNeeds 5 = .ok (.iconst 0, 1) := dk_3 (by decide +kernel)
theorem dX12_listNeeds_6 : decode cX12_listNeeds 6 = .ok (.istore_n 1, 1) := dk_60 (by decide +kernel)
theorem dX12_listNeeds_7 : decode cX12_listNeeds 7 = .ok (.iload_n 1, 1) := dk_27 (by decide +kernel)
theorem dX12_listNeeds_8 : decode cX12_listNeeds 8 = .ok (.aload_n 0, 1) := dk_42 (by decide +kernel)
theorem dX12_listNeeds_9 : decode cX12_listNeeds 9 = .ok (.getfield 786, 3) := dk_180 (by decide +kernel)
theorem dX12_listNeeds_12 : decode cX12_listNeeds 12 = .ok (.if_icmp .ge 25, 3) := dk_162 (by decide +kernel)
theorem dX12_listNeeds_15 : decode cX12_listNeeds 15 = .ok (.aload_n 0, 1) := dk_42 (by decide +kernel)
theorem dX12_listNeeds_16 : decode cX12_listNeeds 16 = .ok (.getfield 200, 3) := dk_180 (by decide +kernel)
theorem dX12_listNeeds_19 : decode cX12_listNeeds 19 = .ok (.iload_n 1, 1) := dk_27 (by decide +kernel)
theorem dX12_listNeeds_20 : decode cX12_listNeeds 20 = .ok (.iaload, 1) := dk_46 (by decide +kernel)
theorem dX12_listNeeds_21 : decode cX12_listNeeds 21 = .ok (.iconst 1, 1) := dk_4 (by decide +kernel)
theorem dX12_listNeeds_22 : decode cX12_listNeeds 22 = .ok (.if_icmp .ne 9, 3) := dk_160 (by decide +kernel)
theorem dX12_listNeeds_25 : decode cX12_listNeeds 25 = .ok (.aload_n 0, 1) := dk_42 (by decide +kernel)
theorem dX12_listNeeds_26 : decode cX12_listNeeds 26 = .ok (.iconst 0, 1) := dk_3 (by decide +kernel)
theorem dX12_listNeeds_27 : decode cX12_listNeeds 27 = .ok (.iload_n 1, 1) := dk_27 (by decide +kernel)
theorem dX12_listNeeds_28 : decode cX12_listNeeds 28 = .ok (.invokevirtual 897, 3) := dk_182 (by decide +kernel)
theorem dX12_listNeeds_31 : decode cX12_listNeeds 31 = .ok (.iinc 1 1, 3) := dk_132 (by decide +kernel)
theorem dX12_listNeeds_34 : decode cX12_listNeeds 34 = .ok (.goto (-27), 3) := dk_167 (by decide +kernel)
theorem dX12_listNeeds_37 : decode cX12_listNeeds 37 = .ok (.iconst 0, 1) := dk_3 (by decide +kernel)
theorem dX12_listNeeds_38 : decode cX12_listNeeds 38 = .ok (.istore_n 1, 1) := dk_60 (by decide +kernel)
theorem dX12_listNeeds_39 : decode cX12_listNeeds 39 = .ok (.iload_n 1, 1) := dk_27 (by decide +kernel)
theorem dX12_listNeeds_40 : decode cX12_listNeeds 40 = .ok (.aload_n 0, 1) := dk_42 (by decide +kernel)
theorem dX12_listNeeds_41 : decode cX12_listNeeds 41 = .ok (.getfield 774, 3) := dk_180 (by decide +kernel)
theorem dX12_listNeeds_44 : decode cX12_listNeeds 44 = .ok (.if_icmp .ge 15, 3) := dk_162 (by decide +kernel)
theorem dX12_listNeeds_47 : decode cX12_listNeeds 47 = .ok (.aload_n 0, 1) := dk_42 (by decide +kernel)
theorem dX12_listNeeds_48 : decode cX12_listNeeds 48 = .ok (.iconst 1, 1) := dk_4 (by decide +kernel)
theorem dX12_listNeeds_49 : decode cX12_listNeeds 49 = .ok (.iload_n 1, 1) := dk_27 (by decide +kernel)
theorem dX12_listNeeds_50 : decode cX12_listNeeds 50 = .ok (.invokevirtual 897, 3) := dk_182 (by decide +kernel)
theorem dX12_listNeeds_53 : decode cX12_listNeeds 53 = .ok (.iinc 1 1, 3) := dk_132 (by decide +kernel)
theorem dX12_listNeeds_56 : decode cX12_listNeeds 56 = .ok (.goto (-17), 3) := dk_167 (by decide +kernel)
theorem dX12_listNeeds_59 : decode cX12_listNeeds 59 = .ok (.iconst 0, 1) := dk_3 (by decide +kernel)
theorem dX12_listNeeds_60 : decode cX12_listNeeds 60 = .ok (.istore_n 1, 1) := dk_60 (by decide +kernel)
theorem dX12_listNeeds_61 : decode cX12_listNeeds 61 = .ok (.iload_n 1, 1) := dk_27 (by decide +kernel)
theorem dX12_listNeeds_62 : decode cX12_listNeeds 62 = .ok (.aload_n 0, 1) := dk_42 (by decide +kernel)
theorem dX12_listNeeds_63 : decode cX12_listNeeds 63 = .ok (.getfield 774, 3) := dk_180 (by decide +kernel)
theorem dX12_listNeeds_66 : decode cX12_listNeeds 66 = .ok (.if_icmp .ge 15, 3) := dk_162 (by decide +kernel)
theorem dX12_listNeeds_69 : decode cX12_listNeeds 69 = .ok (.aload_n 0, 1) := dk_42 (by decide +kernel)
theorem dX12_listNeeds_70 : decode cX12_listNeeds 70 = .ok (.iconst 2, 1) := dk_5 (by decide +kernel)
theorem dX12_listNeeds_71 : decode cX12_listNeeds 71 = .ok (.iload_n 1, 1) := dk_27 (by decide +kernel)
theorem dX12_listNeeds_72 : decode cX12_listNeeds 72 = .ok (.invokevirtual 897, 3) := dk_182 (by decide +kernel)
theorem dX12_listNeeds_75 : decode cX12_listNeeds 75 = .ok (.iinc 1 1, 3) := dk_132 (by decide +kernel)
theorem dX12_listNeeds_78 : decode cX12_listNeeds 78 = .ok (.goto (-17), 3) := dk_167 (by decide +kernel)
theorem dX12_listNeeds_81 : decode cX12_listNeeds 81 = .ok (.return_, 1) := dk_177 (by decide +kernel)
def wsRX12_listNeeds : List Cond := .code yX12_listNeeds cX12_listNeeds 2 none :: ([.fieldLink RX12 894 "OptimaWorksModel" "needs" "I", .fieldLink RX12 786 "OptimaWorksModel" "modelRows" "I", .fieldLink RX12 774 "OptimaWorksModel" "variables" "I", .fieldLink RX12 200 "OptimaWorksModel" "wayMany" "[I"] ++ wsX120 ++ (wsV RX12 897 RX12 yX12_need1 wsRX12_need1))
theorem iwsRX12_listNeeds_in12 : ∀ w ∈ wsX120, w ∈ wsRX12_listNeeds := fun _ h => List.mem_cons_of_mem _ (List.mem_append_left _ (List.mem_append_right _ h))
theorem gwsRX12_listNeeds_0 : GoodIn wsRX12_listNeeds (wsV RX12 897 RX12 yX12_need1 wsRX12_need1) := goodIn_sub (fun _ h => List.mem_cons_of_mem _ (List.mem_append_right _ h)) (gdV (by decide +kernel) gdwsRX12_need1)
theorem gdwsRX12_listNeeds : wsRX12_listNeeds.all goodWord = true := gdC rfl (gdA (gdA (by decide +kernel : ([.fieldLink RX12 894 "OptimaWorksModel" "needs" "I", .fieldLink RX12 786 "OptimaWorksModel" "modelRows" "I", .fieldLink RX12 774 "OptimaWorksModel" "variables" "I", .fieldLink RX12 200 "OptimaWorksModel" "wayMany" "[I"] : List Cond).all goodWord = true) gdwsX120) (gdV (by decide +kernel) gdwsRX12_need1))
set_option maxHeartbeats 4000000 in
set_option maxRecDepth 100000 in
/-- listNeeds() -/
theorem r_X12_listNeeds (l : Launch) (dC : Nat → ClassId) (dI : Nat → Nat → Nat) (a : Nat → Nat) (k : Nat → ClassId) (h0 : Nat) (vi : Nat → Int32) (vj : Nat → Int64) (vF : Nat → Nat → Int32) (vG : Nat → Nat → Int64) (vn : Nat) (mr : Nat) (hvn : vi 90 = nI vn) (hvn8 : vn ≤ 8) (hmr : vi 91 = nI mr) (hmr12 : mr ≤ 12) (sz : Nat) : Met l yX12_listNeeds wsRX12_listNeeds ({ frames := 1, cells := 0, slots := 0, locals := 22 }) (va_Pc [.ref h0] (fun U => U.heap.size = sz ∧ va_P (dC, dI) vwCl (WR a k h0 vi vj vF vG) U.heap ∧ va_K (dC, dI) vwCl (tX12 k) U ∧ va_D (fun _ => True) (WR a k h0 vi vj vF vG))) (va_Qv (fun (u : (Nat → Int32) × (Nat → Int32) × (Nat → Int32) × (Nat) × (Nat)) => (NdO (u.1) (u.2.1) vn mr (u.2.2.2.1) (u.2.2.2.2))) (fun (u : (Nat → Int32) × (Nat → Int32) × (Nat → Int32) × (Nat) × (Nat)) t => va_P (dC, dI) vwCl (WR a k h0 (fT vi 119 (nI (u.2.2.2.2))) vj (fT (fT (fT vF 71 (u.1)) 72 (u.2.1)) 73 (u.2.2.1)) vG) t.heap ∧ va_D (va_A (WR a k h0 vi vj vF vG) sz) (WR a k h0 (fT vi 119 (nI (u.2.2.2.2))) vj (fT (fT (fT vF 71 (u.1)) 72 (u.2.1)) 73 (u.2.2.1)) vG)) (va_A (WR a k h0 vi vj vF vG) sz)) 0 0 (va_A (WR a k h0 vi vj vF vG) sz) := by
  refine Met.ofW (cc := cX12_listNeeds) (maxL := 2) (ret := none) (by decide) rfl ?_
  intro p e s m args below meth c s₁ B hml hv
  obtain ⟨rfl, hsz, hP, hK, hD0⟩ := hv
  have hx := B.exec
  have hb := B.bytes
  have hr := B.returns
  have hts := atoms_spec (ws := wsRX12_listNeeds) B.pre
  have hown : s.vm.findClass RX12 = some m.cls := findClass_of_methodNamed B.named
  have hlocks := B.notSynchronized
  subst hsz
  have hD := hD0.self (sz := s.heap.size)
  generalize hAe : va_A (WR a k h0 vi vj vF vG) s.heap.size = A at hD ⊢
  have hA : ∀ q : Nat, s.heap.size ≤ q → A q := fun q h => by rw [← hAe]; exact Or.inr h
  have hS : va_S A s.heap s.heap [] := va_S.rf
  have hl := lv_entry ([.ref h0]) (n := 2) (Nat.le_of_ble_eq_true rfl)
  rw [lg_entry_eq]
  generalize (lg_sl ([.ref h0]) ++ List.replicate (2 - (lg_sl ([.ref h0])).length) Slot.unset).toArray = ls at hl ⊢
  have hl : lv_has ls 2 [(0, .ref h0)] := hl
  have z9 := nI_0
  refine lv_aload_n hx hb dX12_listNeeds_0 rfl (lv_at hl 0 rfl) ?_
  refine lv_iconst (v := 0) hx hb dX12_listNeeds_1 (by decide) ?_
  refine va_put (D := (dC, dI)) (ci := 12) (v := .int 0) (ty := .int) (C := RX12) (T := TX12) (N := 163) (fs := fM (vS a vi vj)) hx hb hts iwsRX12_listNeeds_in12 tyX12 tyX12_ok nmX12 hown hK hP hD hS 0 rfl rfl 119 (by decide) (hts (.fieldLink RX12 894 "OptimaWorksModel" "needs" "I") (by decide +kernel)) (fun _ h9 => h9) rfl (by decide +kernel) rfl rfl (Nat.le_of_ble_eq_true rfl) dX12_listNeeds_2 (fun H locs hP hD hS => ?_)
  have hP : va_P (dC, dI) vwCl (WR a k h0 (fT vi 119 0) vj vF vG) H := by rw [← WR_i 119 _ rfl]; exact hP
  have hD : va_D A (WR a k h0 (fT vi 119 0) vj vF vG) := by rw [← WR_i 119 _ rfl]; exact hD
  refine lv_iconst (v := 0) hx hb dX12_listNeeds_5 (by decide) ?_
  refine lv_istore_n hx hb dX12_listNeeds_6 rfl hl (by decide) rfl (fun ls (hl : lv_has ls _ ([(1, .int 0), (0, .ref h0)])) => ?_)
  have e9 : fT vi 119 (nI 0) = fT vi 119 0 := by funext q9; by_cases h9_119 : q9 = 119; (subst h9_119; exact (fT_eq _ _ _).trans (Eq.trans (by first | rfl | assumption | (symm; assumption) | (subst_vars; rfl)) (fT_eq _ _ _).symm)); exact (fT_ne _ _ h9_119).trans (fT_ne _ _ h9_119).symm
  have hP : va_P (dC, dI) vwCl (WR a k h0 (fT vi 119 (nI 0)) vj vF vG) H := by rw [e9]; exact hP
  have hD : va_D A (WR a k h0 (fT vi 119 (nI 0)) vj vF vG) := by rw [e9]; exact hD
  clear e9
  have e9 : fT (fT (fT vF 71 (vF 71)) 72 (vF 72)) 73 (vF 73) = vF := by funext q9; by_cases h9_71 : q9 = 71; (subst h9_71; exact ((fT_ne _ _ (Nat.ne_of_beq_eq_false rfl)).trans ((fT_ne _ _ (Nat.ne_of_beq_eq_false rfl)).trans (fT_eq _ _ _))).trans (Eq.trans (by first | rfl | assumption | (symm; assumption) | (subst_vars; rfl)) (Eq.refl _).symm)); by_cases h9_72 : q9 = 72; (subst h9_72; exact ((fT_ne _ _ (Nat.ne_of_beq_eq_false rfl)).trans (fT_eq _ _ _)).trans (Eq.trans (by first | rfl | assumption | (symm; assumption) | (subst_vars; rfl)) (Eq.refl _).symm)); by_cases h9_73 : q9 = 73; (subst h9_73; exact (fT_eq _ _ _).trans (Eq.trans (by first | rfl | assumption | (symm; assumption) | (subst_vars; rfl)) (Eq.refl _).symm)); exact ((fT_ne _ _ h9_73).trans ((fT_ne _ _ h9_72).trans (fT_ne _ _ h9_71))).trans (Eq.refl _).symm
  have hP : va_P (dC, dI) vwCl (WR a k h0 (fT vi 119 (nI 0)) vj (fT (fT (fT vF 71 (vF 71)) 72 (vF 72)) 73 (vF 73)) vG) H := by rw [e9]; exact hP
  have hD : va_D A (WR a k h0 (fT vi 119 (nI 0)) vj (fT (fT (fT vF 71 (vF 71)) 72 (vF 72)) 73 (vF 73)) vG) := by rw [e9]; exact hD
  clear e9
  have hl : lv_has _ _ ([(0, .ref h0), (1, .int (nI 0))]) := lv_sub hl [1, 0] rfl
  refine (fun (loop : ∀ (n9 : Nat) (r5 : Nat) (z : Nat) (f71x : Nat → Int32) (f72x : Nat → Int32) (f73x : Nat → Int32) (H : Heap) (locs : List Loc) (ls : Array Slot), (r5 ≤ mr) → (z ≤ r5) → (∀ i, i < z → f71x i = 0 ∧ ∃ o, o < mr ∧ f72x i = nI o) →  (mr < r5 + n9) → va_P (dC, dI) vwCl (WR a k h0 (fT vi 119 (nI z)) vj (fT (fT (fT vF 71 f71x) 72 f72x) 73 f73x) vG) H → va_D A (WR a k h0 (fT vi 119 (nI z)) vj (fT (fT (fT vF 71 f71x) 72 f72x) 73 f73x) vG) → va_S A s.heap H locs → lv_has ls 2 [(0, .ref h0), (1, .int (nI r5))] → W p l e _ s m _ below meth c H locs 0 0 _ (F0 m 7 ls [])) => loop (mr + 1) 0 0 (vF 71) (vF 72) (vF 73) _ _ _ (by omega) (by omega) (fun i hi => absurd hi (by omega)) (by omega) hP hD hS hl) ?_
  intro n9
  induction n9 with
  | zero => intro r5 z f71x f72x f73x H locs ls hr5 hz hr1 hf9; exact False.elim (by omega)
  | succ n9 ih7 =>
    intro r5 z f71x f72x f73x H locs ls hr5 hz hr1 hf7 hP hD hS hl
    refine lv_iload_n hx hb dX12_listNeeds_7 rfl (lv_at hl 1 rfl) ?_
    refine lv_aload_n hx hb dX12_listNeeds_8 rfl (lv_at hl 0 rfl) ?_
    refine va_get (D := (dC, dI)) (ci := 12) (v := .int (vi 91)) (C := RX12) (T := TX12) (N := 163) (fs := fM (vS a (fT vi 119 (nI z)) vj)) hx hb hts iwsRX12_listNeeds_in12 hown hK hP 0 rfl rfl 91 (by decide) (hts (.fieldLink RX12 786 "OptimaWorksModel" "modelRows" "I") (by decide +kernel)) (fun _ h9 => h9) rfl dX12_listNeeds_9 ?_
    refine lv_topi (fun y1 hy1 => ?_)
    obtain rfl : (nI mr) = y1 := (hy1.trans (hmr)).symm
    refine lv_icmp_ge (tgt := 37) hx hb dX12_listNeeds_12 (by decide) (fun c_12 => ?_) (fun c_12 => ?_)
    · have t_12 : ((r5 : Nat) : Int) ≥ ((mr : Nat) : Int) := toI_ge c_12 (nI_toInt (by omega)) (nI_toInt (by omega))
      refine lv_iconst (v := 0) hx hb dX12_listNeeds_37 (by decide) ?_
      refine lv_istore_n hx hb dX12_listNeeds_38 rfl hl (by decide) rfl (fun ls (hl : lv_has ls _ ([(1, .int 0), (0, .ref h0)])) => ?_)
      have e9 : fT vi 119 (nI (z + 0)) = fT vi 119 (nI z) := by funext q9; by_cases h9_119 : q9 = 119; (subst h9_119; exact (fT_eq _ _ _).trans (Eq.trans (by first | rfl | assumption | (symm; assumption) | (subst_vars; rfl)) (fT_eq _ _ _).symm)); exact (fT_ne _ _ h9_119).trans (fT_ne _ _ h9_119).symm
      have hP : va_P (dC, dI) vwCl (WR a k h0 (fT vi 119 (nI (z + 0))) vj (fT (fT (fT vF 71 f71x) 72 f72x) 73 f73x) vG) H := by rw [e9]; exact hP
      have hD : va_D A (WR a k h0 (fT vi 119 (nI (z + 0))) vj (fT (fT (fT vF 71 f71x) 72 f72x) 73 f73x) vG) := by rw [e9]; exact hD
      clear e9
      have hl : lv_has _ _ ([(0, .ref h0), (1, .int (nI 0))]) := lv_sub hl [1, 0] rfl
      refine (fun (loop : ∀ (n9 : Nat) (k6 : Nat) (f71y : Nat → Int32) (f72y : Nat → Int32) (f73y : Nat → Int32) (H : Heap) (locs : List Loc) (ls : Array Slot), (k6 ≤ vn) → (∀ i, i < z → f71y i = 0 ∧ ∃ o, o < mr ∧ f72y i = nI o) → (∀ i, z ≤ i → i < z + k6 → (f71y i = 1 ∨ f71y i = 2) ∧ ∃ o, o < vn ∧ f72y i = nI o) →  (vn < k6 + n9) → va_P (dC, dI) vwCl (WR a k h0 (fT vi 119 (nI (z + k6))) vj (fT (fT (fT vF 71 f71y) 72 f72y) 73 f73y) vG) H → va_D A (WR a k h0 (fT vi 119 (nI (z + k6))) vj (fT (fT (fT vF 71 f71y) 72 f72y) 73 f73y) vG) → va_S A s.heap H locs → lv_has ls 2 [(0, .ref h0), (1, .int (nI k6))] → W p l e _ s m _ below meth c H locs 0 0 _ (F0 m 39 ls [])) => loop (vn + 1) 0 f71x f72x f73x _ _ _ (by omega) (hr1) (fun i h1 h2 => absurd h2 (by omega)) (by omega) hP hD hS hl) ?_
      intro n9
      induction n9 with
      | zero => intro k6 f71y f72y f73y H locs ls hk6 hr2 hv2 hf9; exact False.elim (by omega)
      | succ n9 ih39_1 =>
        intro k6 f71y f72y f73y H locs ls hk6 hr2 hv2 hf39_1 hP hD hS hl
        refine lv_iload_n hx hb dX12_listNeeds_39 rfl (lv_at hl 1 rfl) ?_
        refine lv_aload_n hx hb dX12_listNeeds_40 rfl (lv_at hl 0 rfl) ?_
        refine va_get (D := (dC, dI)) (ci := 12) (v := .int (vi 90)) (C := RX12) (T := TX12) (N := 163) (fs := fM (vS a (fT vi 119 (nI (z + k6))) vj)) hx hb hts iwsRX12_listNeeds_in12 hown hK hP 0 rfl rfl 90 (by decide) (hts (.fieldLink RX12 774 "OptimaWorksModel" "variables" "I") (by decide +kernel)) (fun _ h9 => h9) rfl dX12_listNeeds_41 ?_
        refine lv_topi (fun y2 hy2 => ?_)
        obtain rfl : (nI vn) = y2 := (hy2.trans (hvn)).symm
        refine lv_icmp_ge (tgt := 59) hx hb dX12_listNeeds_44 (by decide) (fun c_44 => ?_) (fun c_44 => ?_)
        · have t_44 : ((k6 : Nat) : Int) ≥ ((vn : Nat) : Int) := toI_ge c_44 (nI_toInt (by omega)) (nI_toInt (by omega))
          refine lv_iconst (v := 0) hx hb dX12_listNeeds_59 (by decide) ?_
          refine lv_istore_n hx hb dX12_listNeeds_60 rfl hl (by decide) rfl (fun ls (hl : lv_has ls _ ([(1, .int 0), (0, .ref h0)])) => ?_)
          have e9 : fT vi 119 (nI (z + k6 + 0)) = fT vi 119 (nI (z + k6)) := by funext q9; by_cases h9_119 : q9 = 119; (subst h9_119; exact (fT_eq _ _ _).trans (Eq.trans (by first | rfl | assumption | (symm; assumption) | (subst_vars; rfl)) (fT_eq _ _ _).symm)); exact (fT_ne _ _ h9_119).trans (fT_ne _ _ h9_119).symm
          have hP : va_P (dC, dI) vwCl (WR a k h0 (fT vi 119 (nI (z + k6 + 0))) vj (fT (fT (fT vF 71 f71y) 72 f72y) 73 f73y) vG) H := by rw [e9]; exact hP
          have hD : va_D A (WR a k h0 (fT vi 119 (nI (z + k6 + 0))) vj (fT (fT (fT vF 71 f71y) 72 f72y) 73 f73y) vG) := by rw [e9]; exact hD
          clear e9
          have hl : lv_has _ _ ([(0, .ref h0), (1, .int (nI 0))]) := lv_sub hl [1, 0] rfl
          refine (fun (loop : ∀ (n9 : Nat) (k7 : Nat) (f71w : Nat → Int32) (f72w : Nat → Int32) (f73w : Nat → Int32) (H : Heap) (locs : List Loc) (ls : Array Slot), (k7 ≤ vn) → (∀ i, i < z → f71w i = 0 ∧ ∃ o, o < mr ∧ f72w i = nI o) → (∀ i, z ≤ i → i < z + k6 + k7 → (f71w i = 1 ∨ f71w i = 2) ∧ ∃ o, o < vn ∧ f72w i = nI o) →  (vn < k7 + n9) → va_P (dC, dI) vwCl (WR a k h0 (fT vi 119 (nI (z + k6 + k7))) vj (fT (fT (fT vF 71 f71w) 72 f72w) 73 f73w) vG) H → va_D A (WR a k h0 (fT vi 119 (nI (z + k6 + k7))) vj (fT (fT (fT vF 71 f71w) 72 f72w) 73 f73w) vG) → va_S A s.heap H locs → lv_has ls 2 [(0, .ref h0), (1, .int (nI k7))] → W p l e _ s m _ below meth c H locs 0 0 _ (F0 m 61 ls [])) => loop (vn + 1) 0 f71y f72y f73y _ _ _ (by omega) (hr2) (hv2) (by omega) hP hD hS hl) ?_
          intro n9
          induction n9 with
          | zero => intro k7 f71w f72w f73w H locs ls hk7 hr3 hv3 hf9; exact False.elim (by omega)
          | succ n9 ih61_2 =>
            intro k7 f71w f72w f73w H locs ls hk7 hr3 hv3 hf61_2 hP hD hS hl
            refine lv_iload_n hx hb dX12_listNeeds_61 rfl (lv_at hl 1 rfl) ?_
            refine lv_aload_n hx hb dX12_listNeeds_62 rfl (lv_at hl 0 rfl) ?_
            refine va_get (D := (dC, dI)) (ci := 12) (v := .int (vi 90)) (C := RX12) (T := TX12) (N := 163) (fs := fM (vS a (fT vi 119 (nI (z + k6 + k7))) vj)) hx hb hts iwsRX12_listNeeds_in12 hown hK hP 0 rfl rfl 90 (by decide) (hts (.fieldLink RX12 774 "OptimaWorksModel" "variables" "I") (by decide +kernel)) (fun _ h9 => h9) rfl dX12_listNeeds_63 ?_
            refine lv_topi (fun y3 hy3 => ?_)
            obtain rfl : (nI vn) = y3 := (hy3.trans (hvn)).symm
            refine lv_icmp_ge (tgt := 81) hx hb dX12_listNeeds_66 (by decide) (fun c_66 => ?_) (fun c_66 => ?_)
            · have t_66 : ((k7 : Nat) : Int) ≥ ((vn : Nat) : Int) := toI_ge c_66 (nI_toInt (by omega)) (nI_toInt (by omega))
              refine W.widen (k := 0) (n := 0) (by decide +kernel) (by decide +kernel) ?_
              exact W.vret hx hb hr (fun t9_ ht hW => ⟨⟨(f71w, f72w, f73w, z, (z + k6 + k7)), rfl, by (try dsimp only); exact ⟨by omega, by omega, by omega, hr3, hv3⟩, by rw [ht]; exact hP, hD⟩, hS.F ht⟩) hS.2.2 dX12_listNeeds_81
            · have t_66 : ¬ ((k7 : Nat) : Int) ≥ ((vn : Nat) : Int) := toI_nge c_66 (nI_toInt (by omega)) (nI_toInt (by omega))
              refine lv_aload_n hx hb dX12_listNeeds_69 rfl (lv_at hl 0 rfl) ?_
              refine lv_iconst (v := 2) hx hb dX12_listNeeds_70 (by decide) ?_
              refine lv_iload_n hx hb dX12_listNeeds_71 rfl (lv_at hl 1 rfl) ?_
              have hFc := allFree hD hS hA
              refine va_callv (va_runV (As := [.int 2, .int (nI k7)]) (rest := []) ⟨hx, hb, hml, hown, hts⟩ (r_X12_need1 l dC dI a k h0 (fT vi 119 (nI (z + k6 + k7))) vj (fT (fT (fT vF 71 f71w) 72 f72w) 73 f73w) vG 2 (nI k7) (z + k6 + k7) (rfl) (by first | assumption | decide | omega | rfl) H.size) (cwV 2 hts gwsRX12_listNeeds_0 rfl rfl rfl hd_yX12_need1_RX12 (by decide +kernel)) (fz_pre (va_recv hK hP (ci := 12) (q0 := 0) rfl rfl) hP hK hD) rfl rfl hl.1 rfl (lv_room (Nat.le_of_ble_eq_true rfl)) dX12_listNeeds_72 (by decide +kernel)) hS (fun q _ h => hFc q h) hFc (fun u t9_ H locs ht hvm hw9 hB9 hz1 hk1 hS => ?_)
              have hP : va_P (dC, dI) vwCl (WR a k h0 (fT (fT vi 119 (nI (z + k6 + k7))) 119 (nI ((z + k6 + k7) + 1))) vj (fT (fT (fT (fT (fT (fT vF 71 f71w) 72 f72w) 73 f73w) 71 (upd f71w (nI (z + k6 + k7)).toNatClampNeg 2)) 72 (upd f72w (nI (z + k6 + k7)).toNatClampNeg (nI k7))) 73 (upd f73w (nI (z + k6 + k7)).toNatClampNeg 1)) vG) H := fz_P ht hB9.1
              have hD : va_D A (WR a k h0 (fT (fT vi 119 (nI (z + k6 + k7))) 119 (nI ((z + k6 + k7) + 1))) vj (fT (fT (fT (fT (fT (fT vF 71 f71w) 72 f72w) 73 f73w) 71 (upd f71w (nI (z + k6 + k7)).toNatClampNeg 2)) 72 (upd f72w (nI (z + k6 + k7)).toNatClampNeg (nI k7))) 73 (upd f73w (nI (z + k6 + k7)).toNatClampNeg 1)) vG) := hB9.2.weaken (fun _ q _ h => hFc q.1 h)
              have e9 : fT vi 119 (nI ((z + k6 + k7) + 1)) = fT (fT vi 119 (nI (z + k6 + k7))) 119 (nI ((z + k6 + k7) + 1)) := (fT_sm _ _ _ _).symm
              rw [← e9] at hP hD
              clear e9
              have e9 : fT (fT (fT vF 71 (upd f71w (nI (z + k6 + k7)).toNatClampNeg 2)) 72 (upd f72w (nI (z + k6 + k7)).toNatClampNeg (nI k7))) 73 (upd f73w (nI (z + k6 + k7)).toNatClampNeg 1) = fT (fT (fT (fT (fT (fT vF 71 f71w) 72 f72w) 73 f73w) 71 (upd f71w (nI (z + k6 + k7)).toNatClampNeg 2)) 72 (upd f72w (nI (z + k6 + k7)).toNatClampNeg (nI k7))) 73 (upd f73w (nI (z + k6 + k7)).toNatClampNeg 1) := ((congrArg (fun g9 => fT (fT g9 72 (upd f72w (nI (z + k6 + k7)).toNatClampNeg (nI k7))) 73 (upd f73w (nI (z + k6 + k7)).toNatClampNeg 1)) ((fT_sw _ _ _ (Nat.ne_of_beq_eq_false rfl)).trans (congrArg (fun g9 => fT g9 73 f73w) ((fT_sw _ _ _ (Nat.ne_of_beq_eq_false rfl)).trans (congrArg (fun g9 => fT g9 72 f72w) (fT_sm _ _ _ _)))))).trans ((congrArg (fun g9 => fT g9 73 (upd f73w (nI (z + k6 + k7)).toNatClampNeg 1)) ((fT_sw _ _ _ (Nat.ne_of_beq_eq_false rfl)).trans (congrArg (fun g9 => fT g9 73 f73w) (fT_sm _ _ _ _)))).trans (fT_sm _ _ _ _))).symm
              rw [← e9] at hP hD
              clear e9
              have hP : va_P (dC, dI) vwCl (WR a k h0 (fT vi 119 (nI ((z + k6 + k7) + 1))) vj (fT (fT (fT vF 71 (upd f71w (nI (z + k6 + k7)).toNatClampNeg 2)) 72 (upd f72w (nI (z + k6 + k7)).toNatClampNeg (nI k7))) 73 (upd f73w (nI (z + k6 + k7)).toNatClampNeg 1)) vG) H := hP
              have hD : va_D A (WR a k h0 (fT vi 119 (nI ((z + k6 + k7) + 1))) vj (fT (fT (fT vF 71 (upd f71w (nI (z + k6 + k7)).toNatClampNeg 2)) 72 (upd f72w (nI (z + k6 + k7)).toNatClampNeg (nI k7))) 73 (upd f73w (nI (z + k6 + k7)).toNatClampNeg 1)) vG) := hD
              refine lv_iinc (v := (nI (k7 + 1))) hx hb dX12_listNeeds_75 hl (k := 1) rfl (nI_add k7 1) (by decide) rfl (fun ls (hl : lv_has ls _ ([(1, .int (nI (k7 + 1))), (0, .ref h0)])) => ?_)
              refine lv_goto (tgt := 61) hx hb dX12_listNeeds_78 (by decide) ?_
              have e9 : fT vi 119 (nI (z + k6 + (k7 + 1))) = fT vi 119 (nI ((z + k6 + k7) + 1)) := by funext q9; by_cases h9_119 : q9 = 119; (subst h9_119; exact (fT_eq _ _ _).trans (Eq.trans (by first | rfl | assumption | (symm; assumption) | (subst_vars; rfl)) (fT_eq _ _ _).symm)); exact (fT_ne _ _ h9_119).trans (fT_ne _ _ h9_119).symm
              have hP : va_P (dC, dI) vwCl (WR a k h0 (fT vi 119 (nI (z + k6 + (k7 + 1)))) vj (fT (fT (fT vF 71 (upd f71w (nI (z + k6 + k7)).toNatClampNeg 2)) 72 (upd f72w (nI (z + k6 + k7)).toNatClampNeg (nI k7))) 73 (upd f73w (nI (z + k6 + k7)).toNatClampNeg 1)) vG) H := by rw [e9]; exact hP
              have hD : va_D A (WR a k h0 (fT vi 119 (nI (z + k6 + (k7 + 1)))) vj (fT (fT (fT vF 71 (upd f71w (nI (z + k6 + k7)).toNatClampNeg 2)) 72 (upd f72w (nI (z + k6 + k7)).toNatClampNeg (nI k7))) 73 (upd f73w (nI (z + k6 + k7)).toNatClampNeg 1)) vG) := by rw [e9]; exact hD
              clear e9
              have hl : lv_has _ _ ([(0, .ref h0), (1, .int (nI (k7 + 1)))]) := lv_sub hl [1, 0] rfl
              exact ih61_2 (k7 + 1) (upd f71w (nI (z + k6 + k7)).toNatClampNeg 2) (upd f72w (nI (z + k6 + k7)).toNatClampNeg (nI k7)) (upd f73w (nI (z + k6 + k7)).toNatClampNeg 1) _ _ _ (by omega) (fun i hi => by rw [upd_at (by omega), upd_at (by omega), if_neg (by omega), if_neg (by omega)]; exact hr3 i hi) (fun i hi1 hi2 => by rw [upd_at (by omega), upd_at (by omega)]; by_cases e9 : i = z + k6 + k7; (rw [if_pos e9, if_pos e9]; exact ⟨Or.inr rfl, k7, by omega, rfl⟩); (rw [if_neg e9, if_neg e9]; exact hv3 i hi1 (by omega))) (by omega) hP hD hS hl
        · have t_44 : ¬ ((k6 : Nat) : Int) ≥ ((vn : Nat) : Int) := toI_nge c_44 (nI_toInt (by omega)) (nI_toInt (by omega))
          refine lv_aload_n hx hb dX12_listNeeds_47 rfl (lv_at hl 0 rfl) ?_
          refine lv_iconst (v := 1) hx hb dX12_listNeeds_48 (by decide) ?_
          refine lv_iload_n hx hb dX12_listNeeds_49 rfl (lv_at hl 1 rfl) ?_
          have hFc := allFree hD hS hA
          refine va_callv (va_runV (As := [.int 1, .int (nI k6)]) (rest := []) ⟨hx, hb, hml, hown, hts⟩ (r_X12_need1 l dC dI a k h0 (fT vi 119 (nI (z + k6))) vj (fT (fT (fT vF 71 f71y) 72 f72y) 73 f73y) vG 1 (nI k6) (z + k6) (rfl) (by first | assumption | decide | omega | rfl) H.size) (cwV 2 hts gwsRX12_listNeeds_0 rfl rfl rfl hd_yX12_need1_RX12 (by decide +kernel)) (fz_pre (va_recv hK hP (ci := 12) (q0 := 0) rfl rfl) hP hK hD) rfl rfl hl.1 rfl (lv_room (Nat.le_of_ble_eq_true rfl)) dX12_listNeeds_50 (by decide +kernel)) hS (fun q _ h => hFc q h) hFc (fun u t9_ H locs ht hvm hw9 hB9 hz1 hk1 hS => ?_)
          have hP : va_P (dC, dI) vwCl (WR a k h0 (fT (fT vi 119 (nI (z + k6))) 119 (nI ((z + k6) + 1))) vj (fT (fT (fT (fT (fT (fT vF 71 f71y) 72 f72y) 73 f73y) 71 (upd f71y (nI (z + k6)).toNatClampNeg 1)) 72 (upd f72y (nI (z + k6)).toNatClampNeg (nI k6))) 73 (upd f73y (nI (z + k6)).toNatClampNeg 1)) vG) H := fz_P ht hB9.1
          have hD : va_D A (WR a k h0 (fT (fT vi 119 (nI (z + k6))) 119 (nI ((z + k6) + 1))) vj (fT (fT (fT (fT (fT (fT vF 71 f71y) 72 f72y) 73 f73y) 71 (upd f71y (nI (z + k6)).toNatClampNeg 1)) 72 (upd f72y (nI (z + k6)).toNatClampNeg (nI k6))) 73 (upd f73y (nI (z + k6)).toNatClampNeg 1)) vG) := hB9.2.weaken (fun _ q _ h => hFc q.1 h)
          have e9 : fT vi 119 (nI ((z + k6) + 1)) = fT (fT vi 119 (nI (z + k6))) 119 (nI ((z + k6) + 1)) := (fT_sm _ _ _ _).symm
          rw [← e9] at hP hD
          clear e9
          have e9 : fT (fT (fT vF 71 (upd f71y (nI (z + k6)).toNatClampNeg 1)) 72 (upd f72y (nI (z + k6)).toNatClampNeg (nI k6))) 73 (upd f73y (nI (z + k6)).toNatClampNeg 1) = fT (fT (fT (fT (fT (fT vF 71 f71y) 72 f72y) 73 f73y) 71 (upd f71y (nI (z + k6)).toNatClampNeg 1)) 72 (upd f72y (nI (z + k6)).toNatClampNeg (nI k6))) 73 (upd f73y (nI (z + k6)).toNatClampNeg 1) := ((congrArg (fun g9 => fT (fT g9 72 (upd f72y (nI (z + k6)).toNatClampNeg (nI k6))) 73 (upd f73y (nI (z + k6)).toNatClampNeg 1)) ((fT_sw _ _ _ (Nat.ne_of_beq_eq_false rfl)).trans (congrArg (fun g9 => fT g9 73 f73y) ((fT_sw _ _ _ (Nat.ne_of_beq_eq_false rfl)).trans (congrArg (fun g9 => fT g9 72 f72y) (fT_sm _ _ _ _)))))).trans ((congrArg (fun g9 => fT g9 73 (upd f73y (nI (z + k6)).toNatClampNeg 1)) ((fT_sw _ _ _ (Nat.ne_of_beq_eq_false rfl)).trans (congrArg (fun g9 => fT g9 73 f73y) (fT_sm _ _ _ _)))).trans (fT_sm _ _ _ _))).symm
          rw [← e9] at hP hD
          clear e9
          have hP : va_P (dC, dI) vwCl (WR a k h0 (fT vi 119 (nI ((z + k6) + 1))) vj (fT (fT (fT vF 71 (upd f71y (nI (z + k6)).toNatClampNeg 1)) 72 (upd f72y (nI (z + k6)).toNatClampNeg (nI k6))) 73 (upd f73y (nI (z + k6)).toNatClampNeg 1)) vG) H := hP
          have hD : va_D A (WR a k h0 (fT vi 119 (nI ((z + k6) + 1))) vj (fT (fT (fT vF 71 (upd f71y (nI (z + k6)).toNatClampNeg 1)) 72 (upd f72y (nI (z + k6)).toNatClampNeg (nI k6))) 73 (upd f73y (nI (z + k6)).toNatClampNeg 1)) vG) := hD
          refine lv_iinc (v := (nI (k6 + 1))) hx hb dX12_listNeeds_53 hl (k := 1) rfl (nI_add k6 1) (by decide) rfl (fun ls (hl : lv_has ls _ ([(1, .int (nI (k6 + 1))), (0, .ref h0)])) => ?_)
          refine lv_goto (tgt := 39) hx hb dX12_listNeeds_56 (by decide) ?_
          have e9 : fT vi 119 (nI (z + (k6 + 1))) = fT vi 119 (nI ((z + k6) + 1)) := by funext q9; by_cases h9_119 : q9 = 119; (subst h9_119; exact (fT_eq _ _ _).trans (Eq.trans (by first | rfl | assumption | (symm; assumption) | (subst_vars; rfl)) (fT_eq _ _ _).symm)); exact (fT_ne _ _ h9_119).trans (fT_ne _ _ h9_119).symm
          have hP : va_P (dC, dI) vwCl (WR a k h0 (fT vi 119 (nI (z + (k6 + 1)))) vj (fT (fT (fT vF 71 (upd f71y (nI (z + k6)).toNatClampNeg 1)) 72 (upd f72y (nI (z + k6)).toNatClampNeg (nI k6))) 73 (upd f73y (nI (z + k6)).toNatClampNeg 1)) vG) H := by rw [e9]; exact hP
          have hD : va_D A (WR a k h0 (fT vi 119 (nI (z + (k6 + 1)))) vj (fT (fT (fT vF 71 (upd f71y (nI (z + k6)).toNatClampNeg 1)) 72 (upd f72y (nI (z + k6)).toNatClampNeg (nI k6))) 73 (upd f73y (nI (z + k6)).toNatClampNeg 1)) vG) := by rw [e9]; exact hD
          clear e9
          have hl : lv_has _ _ ([(0, .ref h0), (1, .int (nI (k6 + 1)))]) := lv_sub hl [1, 0] rfl
          exact ih39_1 (k6 + 1) (upd f71y (nI (z + k6)).toNatClampNeg 1) (upd f72y (nI (z + k6)).toNatClampNeg (nI k6)) (upd f73y (nI (z + k6)).toNatClampNeg 1) _ _ _ (by omega) (fun i hi => by rw [upd_at (by omega), upd_at (by omega), if_neg (by omega), if_neg (by omega)]; exact hr2 i hi) (fun i hi1 hi2 => by rw [upd_at (by omega), upd_at (by omega)]; by_cases e9 : i = z + k6; (rw [if_pos e9, if_pos e9]; exact ⟨Or.inl rfl, k6, by omega, rfl⟩); (rw [if_neg e9, if_neg e9]; exact hv2 i hi1 (by omega))) (by omega) hP hD hS hl
    · have t_12 : ¬ ((r5 : Nat) : Int) ≥ ((mr : Nat) : Int) := toI_nge c_12 (nI_toInt (by omega)) (nI_toInt (by omega))
      refine lv_aload_n hx hb dX12_listNeeds_15 rfl (lv_at hl 0 rfl) ?_
      refine va_get (D := (dC, dI)) (ci := 12) (v := .ref (a 59)) (C := RX12) (T := TX12) (N := 163) (fs := fM (vS a (fT vi 119 (nI z)) vj)) hx hb hts iwsRX12_listNeeds_in12 hown hK hP 0 rfl rfl 99 (by decide) (hts (.fieldLink RX12 200 "OptimaWorksModel" "wayMany" "[I") (by decide +kernel)) (fun _ h9 => h9) rfl dX12_listNeeds_16 ?_
      refine lv_iload_n hx hb dX12_listNeeds_19 rfl (lv_at hl 1 rfl) ?_
      refine va_iald (cA := k 59) (n := 13) (f := (vF 59)) hx hb hK hP 60 59 (WR_get 59 (by decide)) (TR_get 59 (by decide)) (vp_in_nI (show r5 < 13 by omega) (by omega)) dX12_listNeeds_20 ?_
      refine lv_topi (fun y4 hy4 => ?_)
      obtain rfl : ((vF 59) r5) = y4 := (hy4.trans (by rw [nI_clamp (by omega)])).symm
      refine lv_iconst (v := 1) hx hb dX12_listNeeds_21 (by decide) ?_
      refine lv_icmp_ne (tgt := 31) hx hb dX12_listNeeds_22 (by decide) (fun c_22 => ?_) (fun c_22 => ?_)
      · have t_22 : (((vF 59) r5)).toInt ≠ 1 := toI_ne c_22 rfl (by decide)
        refine lv_iinc (v := (nI (r5 + 1))) hx hb dX12_listNeeds_31 hl (k := 1) rfl (nI_add r5 1) (by decide) rfl (fun ls (hl : lv_has ls _ ([(1, .int (nI (r5 + 1))), (0, .ref h0)])) => ?_)
        refine lv_goto (tgt := 7) hx hb dX12_listNeeds_34 (by decide) ?_
        have hl : lv_has _ _ ([(0, .ref h0), (1, .int (nI (r5 + 1)))]) := lv_sub hl [1, 0] rfl
        exact ih7 (r5 + 1) z f71x f72x f73x _ _ _ (by omega) (by omega) (hr1) (by omega) hP hD hS hl
      · have t_22 : (((vF 59) r5)).toInt = 1 := toI_nne c_22 rfl (by decide)
        refine lv_aload_n hx hb dX12_listNeeds_25 rfl (lv_at hl 0 rfl) ?_
        refine lv_iconst (v := 0) hx hb dX12_listNeeds_26 (by decide) ?_
        refine lv_iload_n hx hb dX12_listNeeds_27 rfl (lv_at hl 1 rfl) ?_
        have hFc := allFree hD hS hA
        refine va_callv (va_runV (As := [.int 0, .int (nI r5)]) (rest := []) ⟨hx, hb, hml, hown, hts⟩ (r_X12_need1 l dC dI a k h0 (fT vi 119 (nI z)) vj (fT (fT (fT vF 71 f71x) 72 f72x) 73 f73x) vG 0 (nI r5) z (rfl) (by first | assumption | decide | omega | rfl) H.size) (cwV 2 hts gwsRX12_listNeeds_0 rfl rfl rfl hd_yX12_need1_RX12 (by decide +kernel)) (fz_pre (va_recv hK hP (ci := 12) (q0 := 0) rfl rfl) hP hK hD) rfl rfl hl.1 rfl (lv_room (Nat.le_of_ble_eq_true rfl)) dX12_listNeeds_28 (by decide +kernel)) hS (fun q _ h => hFc q h) hFc (fun u t9_ H locs ht hvm hw9 hB9 hz1 hk1 hS => ?_)
        have hP : va_P (dC, dI) vwCl (WR a k h0 (fT (fT vi 119 (nI z)) 119 (nI (z + 1))) vj (fT (fT (fT (fT (fT (fT vF 71 f71x) 72 f72x) 73 f73x) 71 (upd f71x (nI z).toNatClampNeg 0)) 72 (upd f72x (nI z).toNatClampNeg (nI r5))) 73 (upd f73x (nI z).toNatClampNeg 1)) vG) H := fz_P ht hB9.1
        have hD : va_D A (WR a k h0 (fT (fT vi 119 (nI z)) 119 (nI (z + 1))) vj (fT (fT (fT (fT (fT (fT vF 71 f71x) 72 f72x) 73 f73x) 71 (upd f71x (nI z).toNatClampNeg 0)) 72 (upd f72x (nI z).toNatClampNeg (nI r5))) 73 (upd f73x (nI z).toNatClampNeg 1)) vG) := hB9.2.weaken (fun _ q _ h => hFc q.1 h)
        have e9 : fT vi 119 (nI (z + 1)) = fT (fT vi 119 (nI z)) 119 (nI (z + 1)) := (fT_sm _ _ _ _).symm
        rw [← e9] at hP hD
        clear e9
        have e9 : fT (fT (fT vF 71 (upd f71x (nI z).toNatClampNeg 0)) 72 (upd f72x (nI z).toNatClampNeg (nI r5))) 73 (upd f73x (nI z).toNatClampNeg 1) = fT (fT (fT (fT (fT (fT vF 71 f71x) 72 f72x) 73 f73x) 71 (upd f71x (nI z).toNatClampNeg 0)) 72 (upd f72x (nI z).toNatClampNeg (nI r5))) 73 (upd f73x (nI z).toNatClampNeg 1) := ((congrArg (fun g9 => fT (fT g9 72 (upd f72x (nI z).toNatClampNeg (nI r5))) 73 (upd f73x (nI z).toNatClampNeg 1)) ((fT_sw _ _ _ (Nat.ne_of_beq_eq_false rfl)).trans (congrArg (fun g9 => fT g9 73 f73x) ((fT_sw _ _ _ (Nat.ne_of_beq_eq_false rfl)).trans (congrArg (fun g9 => fT g9 72 f72x) (fT_sm _ _ _ _)))))).trans ((congrArg (fun g9 => fT g9 73 (upd f73x (nI z).toNatClampNeg 1)) ((fT_sw _ _ _ (Nat.ne_of_beq_eq_false rfl)).trans (congrArg (fun g9 => fT g9 73 f73x) (fT_sm _ _ _ _)))).trans (fT_sm _ _ _ _))).symm
        rw [← e9] at hP hD
        clear e9
        have hP : va_P (dC, dI) vwCl (WR a k h0 (fT vi 119 (nI (z + 1))) vj (fT (fT (fT vF 71 (upd f71x (nI z).toNatClampNeg 0)) 72 (upd f72x (nI z).toNatClampNeg (nI r5))) 73 (upd f73x (nI z).toNatClampNeg 1)) vG) H := hP
        have hD : va_D A (WR a k h0 (fT vi 119 (nI (z + 1))) vj (fT (fT (fT vF 71 (upd f71x (nI z).toNatClampNeg 0)) 72 (upd f72x (nI z).toNatClampNeg (nI r5))) 73 (upd f73x (nI z).toNatClampNeg 1)) vG) := hD
        refine lv_iinc (v := (nI (r5 + 1))) hx hb dX12_listNeeds_31 hl (k := 1) rfl (nI_add r5 1) (by decide) rfl (fun ls (hl : lv_has ls _ ([(1, .int (nI (r5 + 1))), (0, .ref h0)])) => ?_)
        refine lv_goto (tgt := 7) hx hb dX12_listNeeds_34 (by decide) ?_
        have hl : lv_has _ _ ([(0, .ref h0), (1, .int (nI (r5 + 1)))]) := lv_sub hl [1, 0] rfl
        exact ih7 (r5 + 1) (z + 1) (upd f71x (nI z).toNatClampNeg 0) (upd f72x (nI z).toNatClampNeg (nI r5)) (upd f73x (nI z).toNatClampNeg 1) _ _ _ (by omega) (by omega) (fun i hi => by rw [upd_at (by omega), upd_at (by omega)]; by_cases e9 : i = z; (rw [if_pos e9, if_pos e9]; exact ⟨rfl, r5, by omega, rfl⟩); (rw [if_neg e9, if_neg e9]; exact hr1 i (by omega))) (by omega) hP hD hS hl
theorem dX12_isEqual_0 : decode cX12_isEqual 0 = .ok (.aload_n 0, 1) := dk_42 (by decide +kernel)
theorem dX12_isEqual_1 : decode cX12_isEqual 1 = .ok (.getfield 236, 3) := dk_180 (by decide +kernel)
theorem dX12_isEqual_4 : decode cX12_isEqual 4 = .ok (.iload_n 1, 1) := dk_27 (by decide +kernel)
theorem dX12_isEqual_5 : decode cX12_isEqual 5 = .ok (.iaload, 1) := dk_46 (by decide +kernel)
theorem dX12_isEqual_6 : decode cX12_isEqual 6 = .ok (.ifCond .ne 24, 3) := dk_154 (by decide +kernel)
theorem dX12_isEqual_9 : decode cX12_isEqual 9 = .ok (.aload_n 0, 1) := dk_42 (by decide +kernel)
theorem dX12_isEqual_10 : decode cX12_isEqual 10 = .ok (.getfield 206, 3) := dk_180 (by decide +kernel)
theorem dX12_isEqual_13 : decode cX12_isEqual 13 = .ok (.iconst 3, 1) := dk_6 (by decide +kernel)
theorem dX12_isEqual_14 : decode cX12_isEqual 14 = .ok (.aload_n 0, 1) := dk_42 (by decide +kernel)
theorem dX12_isEqual_15 : decode cX12_isEqual 15 = .ok (.getfield 239, 3) := dk_180 (by decide +kernel)
theorem dX12_isEqual_18 : decode cX12_isEqual 18 = .ok (.iload_n 1, 1) := dk_27 (by decide +kernel)
theorem dX12_isEqual_19 : decode cX12_isEqual 19 = .ok (.iaload, 1) := dk_46 (by decide +kernel)
theorem dX12_isEqual_20 : decode cX12_isEqual 20 = .ok (.imul, 1) := dk_104 (by decide +kernel)
theorem dX12_isEqual_21 : decode cX12_isEqual 21 = .ok (.iaload, 1) := dk_46 (by decide +kernel)
theorem dX12_isEqual_22 : decode cX12_isEqual 22 = .ok (.iconst 2, 1) := dk_5 (by decide +kernel)
theorem dX12_isEqual_23 : decode cX12_isEqual 23 = .ok (.if_icmp .ne 7, 3) := dk_160 (by decide +kernel)
theorem dX12_isEqual_26 : decode cX12_isEqual 26 = .ok (.iconst 1, 1) := dk_4 (by decide +kernel)
theorem dX12_isEqual_27 : decode cX12_isEqual 27 = .ok (.goto 4, 3) := dk_167 (by decide +kernel)
theorem dX12_isEqual_30 : decode cX12_isEqual 30 = .ok (.iconst 0, 1) := dk_3 (by decide +kernel)
theorem dX12_isEqual_31 : decode cX12_isEqual 31 = .ok (.ireturn, 1) := dk_172 (by decide +kernel)
def wsRX12_isEqual : List Cond := .code yX12_isEqual cX12_isEqual 2 (some .boolean) :: ([.fieldLink RX12 236 "OptimaWorksModel" "needKind" "[I", .fieldLink RX12 206 "OptimaWorksModel" "waySign" "[I", .fieldLink RX12 239 "OptimaWorksModel" "needOf" "[I"] ++ wsX120)
theorem iwsRX12_isEqual_in12 : ∀ w ∈ wsX120, w ∈ wsRX12_isEqual := fun _ h => List.mem_cons_of_mem _ (List.mem_append_right _ h)
theorem gdwsRX12_isEqual : wsRX12_isEqual.all goodWord = true := gdC rfl (gdA (by decide +kernel : ([.fieldLink RX12 236 "OptimaWorksModel" "needKind" "[I", .fieldLink RX12 206 "OptimaWorksModel" "waySign" "[I", .fieldLink RX12 239 "OptimaWorksModel" "needOf" "[I"] : List Cond).all goodWord = true) gdwsX120)
set_option maxHeartbeats 4000000 in
set_option maxRecDepth 100000 in
/-- isEqual(i) -/
theorem r_X12_isEqual (l : Launch) (dC : Nat → ClassId) (dI : Nat → Nat → Nat) (a : Nat → Nat) (k : Nat → ClassId) (h0 : Nat) (vi : Nat → Int32) (vj : Nat → Int64) (vF : Nat → Nat → Int32) (vG : Nat → Nat → Int64) (iN : Nat) (vn : Nat) (mr : Nat) (z : Nat) (nd : Nat) (hN : NdO (vF 71) (vF 72) vn mr z nd) (hvn8 : vn ≤ 8) (hmr12 : mr ≤ 12) (hiN : iN < nd) (sz : Nat) : Met l yX12_isEqual wsRX12_isEqual ({ frames := 0, cells := 0, slots := 0, locals := 0 }) (va_Pc [.ref h0, .int (nI iN)] (fun U => U.heap.size = sz ∧ va_P (dC, dI) vwCl (WR a k h0 vi vj vF vG) U.heap ∧ va_K (dC, dI) vwCl (tX12 k) U ∧ va_D (fun _ => True) (WR a k h0 vi vj vF vG))) (va_Qi (fun (r : Int32) (u : Unit) => (r = 1 ∧ (EqP (vF 61) (vF 71) (vF 72) iN)) ∨ (r = 0 ∧ (¬ EqP (vF 61) (vF 71) (vF 72) iN))) (fun (u : Unit) t => va_P (dC, dI) vwCl (WR a k h0 vi vj vF vG) t.heap ∧ va_D (va_A (WR a k h0 vi vj vF vG) sz) (WR a k h0 vi vj vF vG)) (va_A (WR a k h0 vi vj vF vG) sz)) 0 0 (va_A (WR a k h0 vi vj vF vG) sz) := by
  refine Met.ofW (cc := cX12_isEqual) (maxL := 2) (ret := (some .boolean)) (by decide) rfl ?_
  intro p e s m args below meth c s₁ B hml hv
  obtain ⟨rfl, hsz, hP, hK, hD0⟩ := hv
  have hx := B.exec
  have hb := B.bytes
  have hr := B.returns
  have hts := atoms_spec (ws := wsRX12_isEqual) B.pre
  have hown : s.vm.findClass RX12 = some m.cls := findClass_of_methodNamed B.named
  have hlocks := B.notSynchronized
  subst hsz
  have hD := hD0.self (sz := s.heap.size)
  generalize hAe : va_A (WR a k h0 vi vj vF vG) s.heap.size = A at hD ⊢
  have hA : ∀ q : Nat, s.heap.size ≤ q → A q := fun q h => by rw [← hAe]; exact Or.inr h
  have hS : va_S A s.heap s.heap [] := va_S.rf
  have hl := lv_entry ([.ref h0, .int (nI iN)]) (n := 2) (Nat.le_of_ble_eq_true rfl)
  rw [lg_entry_eq]
  generalize (lg_sl ([.ref h0, .int (nI iN)]) ++ List.replicate (2 - (lg_sl ([.ref h0, .int (nI iN)])).length) Slot.unset).toArray = ls at hl ⊢
  have hl : lv_has ls 2 [(0, .ref h0), (1, .int (nI iN))] := hl
  have hn28 : nd ≤ 28 := by have h1 := hN.1; have h2 := hN.2.2.1; omega
  refine lv_aload_n hx hb dX12_isEqual_0 rfl (lv_at hl 0 rfl) ?_
  refine va_get (D := (dC, dI)) (ci := 12) (v := .ref (a 71)) (C := RX12) (T := TX12) (N := 163) (fs := fM (vS a vi vj)) hx hb hts iwsRX12_isEqual_in12 hown hK hP 0 rfl rfl 120 (by decide) (hts (.fieldLink RX12 236 "OptimaWorksModel" "needKind" "[I") (by decide +kernel)) (fun _ h9 => h9) rfl dX12_isEqual_1 ?_
  refine lv_iload_n hx hb dX12_isEqual_4 rfl (lv_at hl 1 rfl) ?_
  refine va_iald (cA := k 71) (n := 28) (f := (vF 71)) hx hb hK hP 72 71 (WR_get 71 (by decide)) (TR_get 71 (by decide)) (vp_in_nI (show iN < 28 by omega) (by omega)) dX12_isEqual_5 ?_
  refine lv_topi (fun y1 hy1 => ?_)
  obtain rfl : ((vF 71) iN) = y1 := (hy1.trans (by rw [nI_clamp (by omega)])).symm
  refine lv_if_ne (tgt := 30) hx hb dX12_isEqual_6 (by decide) (fun c_6 => ?_) (fun c_6 => ?_)
  · have t_6 : (((vF 71) iN)).toInt ≠ 0 := toI_ne c_6 rfl (by decide)
    refine lv_iconst (v := 0) hx hb dX12_isEqual_30 (by decide) ?_
    refine W.widen (k := 0) (n := 0) (by decide +kernel) (by decide +kernel) ?_
    exact W.zret (v := 0) hx hb hr rfl (fun t9_ ht hW => ⟨⟨0, (), rfl, by (try dsimp only); exact Or.inr ⟨rfl, fun h9 => c_6 h9.1⟩, by rw [ht]; exact hP, hD⟩, hS.F ht⟩) hS.2.2 dX12_isEqual_31
  · have t_6 : (((vF 71) iN)).toInt = 0 := toI_nne c_6 rfl (by decide)
    obtain ⟨hiz, o, ho1, ho2⟩ := hN.row hiN c_6
    refine lv_aload_n hx hb dX12_isEqual_9 rfl (lv_at hl 0 rfl) ?_
    refine va_get (D := (dC, dI)) (ci := 12) (v := .ref (a 61)) (C := RX12) (T := TX12) (N := 163) (fs := fM (vS a vi vj)) hx hb hts iwsRX12_isEqual_in12 hown hK hP 0 rfl rfl 101 (by decide) (hts (.fieldLink RX12 206 "OptimaWorksModel" "waySign" "[I") (by decide +kernel)) (fun _ h9 => h9) rfl dX12_isEqual_10 ?_
    refine lv_iconst (v := 3) hx hb dX12_isEqual_13 (by decide) ?_
    refine lv_aload_n hx hb dX12_isEqual_14 rfl (lv_at hl 0 rfl) ?_
    refine va_get (D := (dC, dI)) (ci := 12) (v := .ref (a 72)) (C := RX12) (T := TX12) (N := 163) (fs := fM (vS a vi vj)) hx hb hts iwsRX12_isEqual_in12 hown hK hP 0 rfl rfl 121 (by decide) (hts (.fieldLink RX12 239 "OptimaWorksModel" "needOf" "[I") (by decide +kernel)) (fun _ h9 => h9) rfl dX12_isEqual_15 ?_
    refine lv_iload_n hx hb dX12_isEqual_18 rfl (lv_at hl 1 rfl) ?_
    refine va_iald (cA := k 72) (n := 28) (f := (vF 72)) hx hb hK hP 73 72 (WR_get 72 (by decide)) (TR_get 72 (by decide)) (vp_in_nI (show iN < 28 by omega) (by omega)) dX12_isEqual_19 ?_
    refine lv_topi (fun y2 hy2 => ?_)
    obtain rfl : ((vF 72) iN) = y2 := (hy2.trans (by rw [nI_clamp (by omega)])).symm
    refine lv_topi (fun y3 hy3 => ?_)
    obtain rfl : (nI o) = y3 := (hy3.trans (ho2)).symm
    refine lv_imul hx hb dX12_isEqual_20 ?_
    refine lv_topi (fun y4 hy4 => ?_)
    obtain rfl : (nI (3 * o)) = y4 := (hy4.trans (pk_mul 3 o)).symm
    refine va_iald (cA := k 61) (n := 39) (f := (vF 61)) hx hb hK hP 62 61 (WR_get 61 (by decide)) (TR_get 61 (by decide)) (vp_in_nI (show (3 * o) < 39 by omega) (by omega)) dX12_isEqual_21 ?_
    refine lv_topi (fun y5 hy5 => ?_)
    obtain rfl : ((vF 61) (3 * o)) = y5 := (hy5.trans (by rw [nI_clamp (by omega)])).symm
    refine lv_iconst (v := 2) hx hb dX12_isEqual_22 (by decide) ?_
    refine lv_icmp_ne (tgt := 30) hx hb dX12_isEqual_23 (by decide) (fun c_23 => ?_) (fun c_23 => ?_)
    · have t_23 : (((vF 61) (3 * o))).toInt ≠ 2 := toI_ne c_23 rfl (by decide)
      refine lv_iconst (v := 0) hx hb dX12_isEqual_30 (by decide) ?_
      refine W.widen (k := 0) (n := 0) (by decide +kernel) (by decide +kernel) ?_
      exact W.zret (v := 0) hx hb hr rfl (fun t9_ ht hW => ⟨⟨0, (), rfl, by (try dsimp only); exact Or.inr ⟨rfl, fun h9 => by (have h8 := h9.2); unfold cD at h8; rw [ho2, nI_clamp (by omega)] at h8; exact c_23 h8⟩, by rw [ht]; exact hP, hD⟩, hS.F ht⟩) hS.2.2 dX12_isEqual_31
    · have t_23 : (((vF 61) (3 * o))).toInt = 2 := toI_nne c_23 rfl (by decide)
      refine lv_iconst (v := 1) hx hb dX12_isEqual_26 (by decide) ?_
      refine lv_goto (tgt := 31) hx hb dX12_isEqual_27 (by decide) ?_
      refine W.widen (k := 0) (n := 0) (by decide +kernel) (by decide +kernel) ?_
      exact W.zret (v := 1) hx hb hr rfl (fun t9_ ht hW => ⟨⟨1, (), rfl, by (try dsimp only); exact Or.inl ⟨rfl, c_6, by unfold cD; rw [ho2, nI_clamp (by omega)]; exact c_23⟩, by rw [ht]; exact hP, hD⟩, hS.F ht⟩) hS.2.2 dX12_isEqual_31
theorem dX12_needNumber_0 : decode cX12_needNumber 0 = .ok (.aload_n 0, 1) := dk_42 (by decide +kernel)
theorem dX12_needNumber_1 : decode cX12_needNumber 1 = .ok (.getfield 239, 3) := dk_180 (by decide +kernel)
theorem dX12_needNumber_4 : decode cX12_needNumber 4 = .ok (.iload_n 1, 1) := dk_27 (by decide +kernel)
theorem dX12_needNumber_5 : decode cX12_needNumber 5 = .ok (.iaload, 1) := dk_46 (by decide +kernel)
theorem dX12_needNumber_6 : decode cX12_needNumber 6 = .ok (.istore_n 3, 1) := dk_62 (by decide +kernel)
theorem dX12_needNumber_7 : decode cX12_needNumber 7 = .ok (.aload_n 0, 1) := dk_42 (by decide +kernel)
theorem dX12_needNumber_8 : decode cX12_needNumber 8 = .ok (.getfield 236, 3) := dk_180 (by decide +kernel)
theorem dX12_needNumber_11 : decode cX12_needNumber 11 = .ok (.iload_n 1, 1) := dk_27 (by decide +kernel)
theorem dX12_needNumber_12 : decode cX12_needNumber 12 = .ok (.iaload, 1) := dk_46 (by decide +kernel)
theorem dX12_needNumber_13 : decode cX12_needNumber 13 = .ok (.iconst 1, 1) := dk_4 (by decide +kernel)
theorem dX12_needNumber_14 : decode cX12_needNumber 14 = .ok (.if_icmp .ne 28, 3) := dk_160 (by decide +kernel)
theorem dX12_needNumber_17 : decode cX12_needNumber 17 = .ok (.iload_n 2, 1) := dk_28 (by decide +kernel)
theorem dX12_needNumber_18 : decode cX12_needNumber 18 = .ok (.iconst (-1), 1) := dk_2 (by decide +kernel)
theorem dX12_needNumber_19 : decode cX12_needNumber 19 = .ok (.if_icmp .ne 12, 3) := dk_160 (by decide +kernel)
theorem dX12_needNumber_31 : decode cX12_needNumber 31 = .ok (.iload_n 2, 1) := dk_28 (by decide +kernel)
theorem dX12_needNumber_32 : decode cX12_needNumber 32 = .ok (.iload_n 3, 1) := dk_29 (by decide +kernel)
theorem dX12_needNumber_33 : decode cX12_needNumber 33 = .ok (.if_icmp .ne 7, 3) := dk_160 (by decide +kernel)
theorem dX12_needNumber_36 : decode cX12_needNumber 36 = .ok (.iconst 1, 1) := dk_4 (by decide +kernel)
theorem dX12_needNumber_37 : decode cX12_needNumber 37 = .ok (.goto 4, 3) := dk_167 (by decide +kernel)
theorem dX12_needNumber_40 : decode cX12_needNumber 40 = .ok (.iconst 0, 1) := dk_3 (by decide +kernel)
theorem dX12_needNumber_41 : decode cX12_needNumber 41 = .ok (.ireturn, 1) := dk_172 (by decide +kernel)
theorem dX12_needNumber_42 : decode cX12_needNumber 42 = .ok (.aload_n 0, 1) := dk_42 (by decide +kernel)
theorem dX12_needNumber_43 : decode cX12_needNumber 43 = .ok (.getfield 236, 3) := dk_180 (by decide +kernel)
theorem dX12_needNumber_46 : decode cX12_needNumber 46 = .ok (.iload_n 1, 1) := dk_27 (by decide +kernel)
theorem dX12_needNumber_47 : decode cX12_needNumber 47 = .ok (.iaload, 1) := dk_46 (by decide +kernel)
theorem dX12_needNumber_48 : decode cX12_needNumber 48 = .ok (.iconst 2, 1) := dk_5 (by decide +kernel)
theorem dX12_needNumber_49 : decode cX12_needNumber 49 = .ok (.if_icmp .ne 29, 3) := dk_160 (by decide +kernel)
theorem dX12_needNumber_52 : decode cX12_needNumber 52 = .ok (.iload_n 2, 1) := dk_28 (by decide +kernel)
theorem dX12_needNumber_53 : decode cX12_needNumber 53 = .ok (.iconst (-1), 1) := dk_2 (by decide +kernel)
theorem dX12_needNumber_54 : decode cX12_needNumber 54 = .ok (.if_icmp .ne 13, 3) := dk_160 (by decide +kernel)
theorem dX12_needNumber_67 : decode cX12_needNumber 67 = .ok (.iload_n 2, 1) := dk_28 (by decide +kernel)
theorem dX12_needNumber_68 : decode cX12_needNumber 68 = .ok (.iload_n 3, 1) := dk_29 (by decide +kernel)
theorem dX12_needNumber_69 : decode cX12_needNumber 69 = .ok (.if_icmp .ne 7, 3) := dk_160 (by decide +kernel)
theorem dX12_needNumber_72 : decode cX12_needNumber 72 = .ok (.iconst (-1), 1) := dk_2 (by decide +kernel)
theorem dX12_needNumber_73 : decode cX12_needNumber 73 = .ok (.goto 4, 3) := dk_167 (by decide +kernel)
theorem dX12_needNumber_76 : decode cX12_needNumber 76 = .ok (.iconst 0, 1) := dk_3 (by decide +kernel)
theorem dX12_needNumber_77 : decode cX12_needNumber 77 = .ok (.ireturn, 1) := dk_172 (by decide +kernel)
theorem dX12_needNumber_78 : decode cX12_needNumber 78 = .ok (.aload_n 0, 1) := dk_42 (by decide +kernel)
theorem dX12_needNumber_79 : decode cX12_needNumber 79 = .ok (.getfield 203, 3) := dk_180 (by decide +kernel)
theorem dX12_needNumber_82 : decode cX12_needNumber 82 = .ok (.bipush 27, 2) := dk_16 (by decide +kernel)
theorem dX12_needNumber_84 : decode cX12_needNumber 84 = .ok (.iload_n 3, 1) := dk_29 (by decide +kernel)
theorem dX12_needNumber_85 : decode cX12_needNumber 85 = .ok (.imul, 1) := dk_104 (by decide +kernel)
theorem dX12_needNumber_86 : decode cX12_needNumber 86 = .ok (.iconst 1, 1) := dk_4 (by decide +kernel)
theorem dX12_needNumber_87 : decode cX12_needNumber 87 = .ok (.iadd, 1) := dk_96 (by decide +kernel)
theorem dX12_needNumber_88 : decode cX12_needNumber 88 = .ok (.iload_n 2, 1) := dk_28 (by decide +kernel)
theorem dX12_needNumber_89 : decode cX12_needNumber 89 = .ok (.iadd, 1) := dk_96 (by decide +kernel)
theorem dX12_needNumber_90 : decode cX12_needNumber 90 = .ok (.iaload, 1) := dk_46 (by decide +kernel)
theorem dX12_needNumber_91 : decode cX12_needNumber 91 = .ok (.istore 4, 2) := dk_54 (by decide +kernel)
theorem dX12_needNumber_93 : decode cX12_needNumber 93 = .ok (.aload_n 0, 1) := dk_42 (by decide +kernel)
theorem dX12_needNumber_94 : decode cX12_needNumber 94 = .ok (.getfield 206, 3) := dk_180 (by decide +kernel)
theorem dX12_needNumber_97 : decode cX12_needNumber 97 = .ok (.iconst 3, 1) := dk_6 (by decide +kernel)
theorem dX12_needNumber_98 : decode cX12_needNumber 98 = .ok (.iload_n 3, 1) := dk_29 (by decide +kernel)
theorem dX12_needNumber_99 : decode cX12_needNumber 99 = .ok (.imul, 1) := dk_104 (by decide +kernel)
theorem dX12_needNumber_100 : decode cX12_needNumber 100 = .ok (.iaload, 1) := dk_46 (by decide +kernel)
theorem dX12_needNumber_101 : decode cX12_needNumber 101 = .ok (.ifCond .ne 9, 3) := dk_154 (by decide +kernel)
theorem dX12_needNumber_104 : decode cX12_needNumber 104 = .ok (.iload 4, 2) := dk_21 (by decide +kernel)
theorem dX12_needNumber_106 : decode cX12_needNumber 106 = .ok (.ineg, 1) := dk_116 (by decide +kernel)
theorem dX12_needNumber_107 : decode cX12_needNumber 107 = .ok (.goto 5, 3) := dk_167 (by decide +kernel)
theorem dX12_needNumber_110 : decode cX12_needNumber 110 = .ok (.iload 4, 2) := dk_21 (by decide +kernel)
theorem dX12_needNumber_112 : decode cX12_needNumber 112 = .ok (.ireturn, 1) := dk_172 (by decide +kernel)
def wsRneedNa : List Cond := .code yX12_needNumber cX12_needNumber 5 (some .int) :: ([.fieldLink RX12 239 "OptimaWorksModel" "needOf" "[I", .fieldLink RX12 236 "OptimaWorksModel" "needKind" "[I", .fieldLink RX12 203 "OptimaWorksModel" "wayNumber" "[I", .fieldLink RX12 206 "OptimaWorksModel" "waySign" "[I"] ++ wsX120)
theorem iwsRneedNa_in12 : ∀ w ∈ wsX120, w ∈ wsRneedNa := fun _ h => List.mem_cons_of_mem _ (List.mem_append_right _ h)
theorem gdwsRneedNa : wsRneedNa.all goodWord = true := gdC rfl (gdA (by decide +kernel : ([.fieldLink RX12 239 "OptimaWorksModel" "needOf" "[I", .fieldLink RX12 236 "OptimaWorksModel" "needKind" "[I", .fieldLink RX12 203 "OptimaWorksModel" "wayNumber" "[I", .fieldLink RX12 206 "OptimaWorksModel" "waySign" "[I"] : List Cond).all goodWord = true) gdwsX120)
set_option maxHeartbeats 4000000 in
set_option maxRecDepth 100000 in
/-- needNumber(i, k) -/
theorem r_X12_needNumbera (l : Launch) (dC : Nat → ClassId) (dI : Nat → Nat → Nat) (a : Nat → Nat) (k : Nat → ClassId) (h0 : Nat) (vi : Nat → Int32) (vj : Nat → Int64) (vF : Nat → Nat → Int32) (vG : Nat → Nat → Int64) (iN : Nat) (vn : Nat) (mr : Nat) (z : Nat) (nd : Nat) (kn : Nat) (gq : Nat) (hN : NdO (vF 71) (vF 72) vn mr z nd) (hvn8 : vn ≤ 8) (hmr12 : mr ≤ 12) (hiN : iN < nd) (hM : MdlB vF gq) (hkn : kn < vn) (sz : Nat) : Met l yX12_needNumber wsRneedNa ({ frames := 0, cells := 0, slots := 0, locals := 0 }) (va_Pc [.ref h0, .int (nI iN), .int (nI kn)] (fun U => U.heap.size = sz ∧ va_P (dC, dI) vwCl (WR a k h0 vi vj vF vG) U.heap ∧ va_K (dC, dI) vwCl (tX12 k) U ∧ va_D (fun _ => True) (WR a k h0 vi vj vF vG))) (va_Qi (fun (r : Int32) (u : Unit) => ((vF 71 iN = 0 ∧ (r).toInt.natAbs ≤ 99) ∨ (¬ vF 71 iN = 0 ∧ (r).toInt.natAbs ≤ 1))) (fun (u : Unit) t => va_P (dC, dI) vwCl (WR a k h0 vi vj vF vG) t.heap ∧ va_D (va_A (WR a k h0 vi vj vF vG) sz) (WR a k h0 vi vj vF vG)) (va_A (WR a k h0 vi vj vF vG) sz)) 0 0 (va_A (WR a k h0 vi vj vF vG) sz) := by
  refine Met.ofW (cc := cX12_needNumber) (maxL := 5) (ret := (some .int)) (by decide) rfl ?_
  intro p e s m args below meth c s₁ B hml hv
  obtain ⟨rfl, hsz, hP, hK, hD0⟩ := hv
  have hx := B.exec
  have hb := B.bytes
  have hr := B.returns
  have hts := atoms_spec (ws := wsRneedNa) B.pre
  have hown : s.vm.findClass RX12 = some m.cls := findClass_of_methodNamed B.named
  have hlocks := B.notSynchronized
  subst hsz
  have hD := hD0.self (sz := s.heap.size)
  generalize hAe : va_A (WR a k h0 vi vj vF vG) s.heap.size = A at hD ⊢
  have hA : ∀ q : Nat, s.heap.size ≤ q → A q := fun q h => by rw [← hAe]; exact Or.inr h
  have hS : va_S A s.heap s.heap [] := va_S.rf
  have hl := lv_entry ([.ref h0, .int (nI iN), .int (nI kn)]) (n := 5) (Nat.le_of_ble_eq_true rfl)
  rw [lg_entry_eq]
  generalize (lg_sl ([.ref h0, .int (nI iN), .int (nI kn)]) ++ List.replicate (5 - (lg_sl ([.ref h0, .int (nI iN), .int (nI kn)])).length) Slot.unset).toArray = ls at hl ⊢
  have hl : lv_has ls 5 [(0, .ref h0), (1, .int (nI iN)), (2, .int (nI kn))] := hl
  obtain ⟨o, ho2, ho1⟩ := hN.any hiN
  have hn28 : nd ≤ 28 := by have h1 := hN.1; have h2 := hN.2.2.1; omega
  refine lv_aload_n hx hb dX12_needNumber_0 rfl (lv_at hl 0 rfl) ?_
  refine va_get (D := (dC, dI)) (ci := 12) (v := .ref (a 72)) (C := RX12) (T := TX12) (N := 163) (fs := fM (vS a vi vj)) hx hb hts iwsRneedNa_in12 hown hK hP 0 rfl rfl 121 (by decide) (hts (.fieldLink RX12 239 "OptimaWorksModel" "needOf" "[I") (by decide +kernel)) (fun _ h9 => h9) rfl dX12_needNumber_1 ?_
  refine lv_iload_n hx hb dX12_needNumber_4 rfl (lv_at hl 1 rfl) ?_
  refine va_iald (cA := k 72) (n := 28) (f := (vF 72)) hx hb hK hP 73 72 (WR_get 72 (by decide)) (TR_get 72 (by decide)) (vp_in_nI (show iN < 28 by omega) (by omega)) dX12_needNumber_5 ?_
  refine lv_topi (fun y1 hy1 => ?_)
  obtain rfl : ((vF 72) iN) = y1 := (hy1.trans (by rw [nI_clamp (by omega)])).symm
  refine lv_topi (fun y2 hy2 => ?_)
  obtain rfl : (nI o) = y2 := (hy2.trans (ho2)).symm
  refine lv_istore_n hx hb dX12_needNumber_6 rfl hl (by decide) rfl (fun ls (hl : lv_has ls _ ([(3, .int (nI o)), (0, .ref h0), (1, .int (nI iN)), (2, .int (nI kn))])) => ?_)
  refine lv_aload_n hx hb dX12_needNumber_7 rfl (lv_at hl 1 rfl) ?_
  refine va_get (D := (dC, dI)) (ci := 12) (v := .ref (a 71)) (C := RX12) (T := TX12) (N := 163) (fs := fM (vS a vi vj)) hx hb hts iwsRneedNa_in12 hown hK hP 0 rfl rfl 120 (by decide) (hts (.fieldLink RX12 236 "OptimaWorksModel" "needKind" "[I") (by decide +kernel)) (fun _ h9 => h9) rfl dX12_needNumber_8 ?_
  refine lv_iload_n hx hb dX12_needNumber_11 rfl (lv_at hl 2 rfl) ?_
  refine va_iald (cA := k 71) (n := 28) (f := (vF 71)) hx hb hK hP 72 71 (WR_get 71 (by decide)) (TR_get 71 (by decide)) (vp_in_nI (show iN < 28 by omega) (by omega)) dX12_needNumber_12 ?_
  refine lv_topi (fun y3 hy3 => ?_)
  obtain rfl : ((vF 71) iN) = y3 := (hy3.trans (by rw [nI_clamp (by omega)])).symm
  refine lv_iconst (v := 1) hx hb dX12_needNumber_13 (by decide) ?_
  refine lv_icmp_ne (tgt := 42) hx hb dX12_needNumber_14 (by decide) (fun c_14 => ?_) (fun c_14 => ?_)
  · have t_14 : (((vF 71) iN)).toInt ≠ 1 := toI_ne c_14 rfl (by decide)
    refine lv_aload_n hx hb dX12_needNumber_42 rfl (lv_at hl 1 rfl) ?_
    refine va_get (D := (dC, dI)) (ci := 12) (v := .ref (a 71)) (C := RX12) (T := TX12) (N := 163) (fs := fM (vS a vi vj)) hx hb hts iwsRneedNa_in12 hown hK hP 0 rfl rfl 120 (by decide) (hts (.fieldLink RX12 236 "OptimaWorksModel" "needKind" "[I") (by decide +kernel)) (fun _ h9 => h9) rfl dX12_needNumber_43 ?_
    refine lv_iload_n hx hb dX12_needNumber_46 rfl (lv_at hl 2 rfl) ?_
    refine va_iald (cA := k 71) (n := 28) (f := (vF 71)) hx hb hK hP 72 71 (WR_get 71 (by decide)) (TR_get 71 (by decide)) (vp_in_nI (show iN < 28 by omega) (by omega)) dX12_needNumber_47 ?_
    refine lv_topi (fun y4 hy4 => ?_)
    obtain rfl : ((vF 71) iN) = y4 := (hy4.trans (by rw [nI_clamp (by omega)])).symm
    refine lv_iconst (v := 2) hx hb dX12_needNumber_48 (by decide) ?_
    refine lv_icmp_ne (tgt := 78) hx hb dX12_needNumber_49 (by decide) (fun c_49 => ?_) (fun c_49 => ?_)
    · have t_49 : (((vF 71) iN)).toInt ≠ 2 := toI_ne c_49 rfl (by decide)
      have h710 : vF 71 iN = 0 := by rcases ho1 with h9 | h9; (exact h9.1); (exfalso; by_cases e9 : iN < z; (exact h9.1 (hN.2.2.2.1 iN e9).1); (rcases (hN.2.2.2.2 iN (by omega) hiN).1 with h8 | h8; (exact c_14 h8); (exact c_49 h8)))
      have ho3 : o < mr := by rcases ho1 with h9 | h9; (exact h9.2); (exact absurd h710 h9.1)
      refine lv_aload_n hx hb dX12_needNumber_78 rfl (lv_at hl 1 rfl) ?_
      refine va_get (D := (dC, dI)) (ci := 12) (v := .ref (a 60)) (C := RX12) (T := TX12) (N := 163) (fs := fM (vS a vi vj)) hx hb hts iwsRneedNa_in12 hown hK hP 0 rfl rfl 100 (by decide) (hts (.fieldLink RX12 203 "OptimaWorksModel" "wayNumber" "[I") (by decide +kernel)) (fun _ h9 => h9) rfl dX12_needNumber_79 ?_
      refine lv_bipush (v := 27) hx hb dX12_needNumber_82 (by decide) ?_
      refine lv_iload_n hx hb dX12_needNumber_84 rfl (lv_at hl 0 rfl) ?_
      refine lv_imul hx hb dX12_needNumber_85 ?_
      refine lv_topi (fun y5 hy5 => ?_)
      obtain rfl : (nI (27 * o)) = y5 := (hy5.trans (pk_mul 27 o)).symm
      refine lv_iconst (v := 1) hx hb dX12_needNumber_86 (by decide) ?_
      refine lv_iadd hx hb dX12_needNumber_87 ?_
      refine lv_topi (fun y6 hy6 => ?_)
      obtain rfl : (nI ((27 * o) + 1)) = y6 := (hy6.trans (nI_add (27 * o) 1)).symm
      refine lv_iload_n hx hb dX12_needNumber_88 rfl (lv_at hl 3 rfl) ?_
      refine lv_iadd hx hb dX12_needNumber_89 ?_
      refine lv_topi (fun y7 hy7 => ?_)
      obtain rfl : (nI (((27 * o) + 1) + kn)) = y7 := (hy7.trans (nI_add ((27 * o) + 1) kn)).symm
      refine va_iald (cA := k 60) (n := 351) (f := (vF 60)) hx hb hK hP 61 60 (WR_get 60 (by decide)) (TR_get 60 (by decide)) (vp_in_nI (show (((27 * o) + 1) + kn) < 351 by omega) (by omega)) dX12_needNumber_90 ?_
      refine lv_topi (fun y8 hy8 => ?_)
      obtain rfl : ((vF 60) (((27 * o) + 1) + kn)) = y8 := (hy8.trans (by rw [nI_clamp (by omega)])).symm
      refine lv_istore hx hb dX12_needNumber_91 hl (by decide) rfl (fun ls (hl : lv_has ls _ ([(4, .int ((vF 60) (((27 * o) + 1) + kn))), (3, .int (nI o)), (0, .ref h0), (1, .int (nI iN)), (2, .int (nI kn))])) => ?_)
      refine lv_aload_n hx hb dX12_needNumber_93 rfl (lv_at hl 2 rfl) ?_
      refine va_get (D := (dC, dI)) (ci := 12) (v := .ref (a 61)) (C := RX12) (T := TX12) (N := 163) (fs := fM (vS a vi vj)) hx hb hts iwsRneedNa_in12 hown hK hP 0 rfl rfl 101 (by decide) (hts (.fieldLink RX12 206 "OptimaWorksModel" "waySign" "[I") (by decide +kernel)) (fun _ h9 => h9) rfl dX12_needNumber_94 ?_
      refine lv_iconst (v := 3) hx hb dX12_needNumber_97 (by decide) ?_
      refine lv_iload_n hx hb dX12_needNumber_98 rfl (lv_at hl 1 rfl) ?_
      refine lv_imul hx hb dX12_needNumber_99 ?_
      refine lv_topi (fun y9 hy9 => ?_)
      obtain rfl : (nI (3 * o)) = y9 := (hy9.trans (pk_mul 3 o)).symm
      refine va_iald (cA := k 61) (n := 39) (f := (vF 61)) hx hb hK hP 62 61 (WR_get 61 (by decide)) (TR_get 61 (by decide)) (vp_in_nI (show (3 * o) < 39 by omega) (by omega)) dX12_needNumber_100 ?_
      refine lv_topi (fun y10 hy10 => ?_)
      obtain rfl : ((vF 61) (3 * o)) = y10 := (hy10.trans (by rw [nI_clamp (by omega)])).symm
      refine lv_if_ne (tgt := 110) hx hb dX12_needNumber_101 (by decide) (fun c_101 => ?_) (fun c_101 => ?_)
      · have t_101 : (((vF 61) (3 * o))).toInt ≠ 0 := toI_ne c_101 rfl (by decide)
        refine lv_iload hx hb dX12_needNumber_110 (lv_at hl 0 rfl) ?_
        refine W.widen (k := 0) (n := 0) (by decide +kernel) (by decide +kernel) ?_
        exact W.iret (v := ((vF 60) (((27 * o) + 1) + kn))) hx hb hr (fun t9_ ht hW => ⟨⟨((vF 60) (((27 * o) + 1) + kn)), (), rfl, by (try dsimp only); (have b9 := (hM.2.2.2.1 (3 * o) kn (by omega) (by omega))); (rw [show 9 * (3 * o) + 1 + kn = 27 * o + 1 + kn by omega] at b9); exact Or.inl ⟨h710, by omega⟩, by rw [ht]; exact hP, hD⟩, hS.F ht⟩) hS.2.2 dX12_needNumber_112
      · have t_101 : (((vF 61) (3 * o))).toInt = 0 := toI_nne c_101 rfl (by decide)
        refine lv_iload hx hb dX12_needNumber_104 (lv_at hl 0 rfl) ?_
        refine lv_ineg hx hb dX12_needNumber_106 ?_
        refine lv_goto (tgt := 112) hx hb dX12_needNumber_107 (by decide) ?_
        refine W.widen (k := 0) (n := 0) (by decide +kernel) (by decide +kernel) ?_
        exact W.iret (v := (-((vF 60) (((27 * o) + 1) + kn)))) hx hb hr (fun t9_ ht hW => ⟨⟨(-((vF 60) (((27 * o) + 1) + kn))), (), rfl, by (try dsimp only); (have b9 := (hM.2.2.2.1 (3 * o) kn (by omega) (by omega))); (rw [show 9 * (3 * o) + 1 + kn = 27 * o + 1 + kn by omega] at b9); exact Or.inl ⟨h710, (neg32 (b := 99) (by omega) (by decide)).1⟩, by rw [ht]; exact hP, hD⟩, hS.F ht⟩) hS.2.2 dX12_needNumber_112
    · have t_49 : (((vF 71) iN)).toInt = 2 := toI_nne c_49 rfl (by decide)
      refine lv_iload_n hx hb dX12_needNumber_52 rfl (lv_at hl 3 rfl) ?_
      refine lv_iconst (v := (-1)) hx hb dX12_needNumber_53 (by decide) ?_
      refine lv_icmp_ne (tgt := 67) hx hb dX12_needNumber_54 (by decide) (fun c_54 => ?_) (fun c9 => False.elim (by (have h9 := nI_toInt (n := kn) (by omega)); rw [c9] at h9; (have h8 : ((-1 : Int32)).toInt = -1 := by decide); omega))
      have t_54 : ((kn : Nat) : Int) ≠ -1 := toI_ne c_54 (nI_toInt (by omega)) (by decide)
      refine lv_iload_n hx hb dX12_needNumber_67 rfl (lv_at hl 3 rfl) ?_
      refine lv_iload_n hx hb dX12_needNumber_68 rfl (lv_at hl 0 rfl) ?_
      refine lv_icmp_ne (tgt := 76) hx hb dX12_needNumber_69 (by decide) (fun c_69 => ?_) (fun c_69 => ?_)
      · have t_69 : ((kn : Nat) : Int) ≠ ((o : Nat) : Int) := toI_ne c_69 (nI_toInt (by omega)) (nI_toInt (by omega))
        refine lv_iconst (v := 0) hx hb dX12_needNumber_76 (by decide) ?_
        refine W.widen (k := 0) (n := 0) (by decide +kernel) (by decide +kernel) ?_
        exact W.iret (v := 0) hx hb hr (fun t9_ ht hW => ⟨⟨0, (), rfl, by (try dsimp only); exact Or.inr ⟨fun h9 => by rw [c_49] at h9; exact absurd h9 (by decide), by decide⟩, by rw [ht]; exact hP, hD⟩, hS.F ht⟩) hS.2.2 dX12_needNumber_77
      · have t_69 : ((kn : Nat) : Int) = ((o : Nat) : Int) := toI_nne c_69 (nI_toInt (by omega)) (nI_toInt (by omega))
        refine lv_iconst (v := (-1)) hx hb dX12_needNumber_72 (by decide) ?_
        refine lv_goto (tgt := 77) hx hb dX12_needNumber_73 (by decide) ?_
        refine W.widen (k := 0) (n := 0) (by decide +kernel) (by decide +kernel) ?_
        exact W.iret (v := (-1)) hx hb hr (fun t9_ ht hW => ⟨⟨(-1), (), rfl, by (try dsimp only); exact Or.inr ⟨fun h9 => by rw [c_49] at h9; exact absurd h9 (by decide), by decide⟩, by rw [ht]; exact hP, hD⟩, hS.F ht⟩) hS.2.2 dX12_needNumber_77
  · have t_14 : (((vF 71) iN)).toInt = 1 := toI_nne c_14 rfl (by decide)
    refine lv_iload_n hx hb dX12_needNumber_17 rfl (lv_at hl 3 rfl) ?_
    refine lv_iconst (v := (-1)) hx hb dX12_needNumber_18 (by decide) ?_
    refine lv_icmp_ne (tgt := 31) hx hb dX12_needNumber_19 (by decide) (fun c_19 => ?_) (fun c9 => False.elim (by (have h9 := nI_toInt (n := kn) (by omega)); rw [c9] at h9; (have h8 : ((-1 : Int32)).toInt = -1 := by decide); omega))
    have t_19 : ((kn : Nat) : Int) ≠ -1 := toI_ne c_19 (nI_toInt (by omega)) (by decide)
    refine lv_iload_n hx hb dX12_needNumber_31 rfl (lv_at hl 3 rfl) ?_
    refine lv_iload_n hx hb dX12_needNumber_32 rfl (lv_at hl 0 rfl) ?_
    refine lv_icmp_ne (tgt := 40) hx hb dX12_needNumber_33 (by decide) (fun c_33 => ?_) (fun c_33 => ?_)
    · have t_33 : ((kn : Nat) : Int) ≠ ((o : Nat) : Int) := toI_ne c_33 (nI_toInt (by omega)) (nI_toInt (by omega))
      refine lv_iconst (v := 0) hx hb dX12_needNumber_40 (by decide) ?_
      refine W.widen (k := 0) (n := 0) (by decide +kernel) (by decide +kernel) ?_
      exact W.iret (v := 0) hx hb hr (fun t9_ ht hW => ⟨⟨0, (), rfl, by (try dsimp only); exact Or.inr ⟨fun h9 => by rw [c_14] at h9; exact absurd h9 (by decide), by decide⟩, by rw [ht]; exact hP, hD⟩, hS.F ht⟩) hS.2.2 dX12_needNumber_41
    · have t_33 : ((kn : Nat) : Int) = ((o : Nat) : Int) := toI_nne c_33 (nI_toInt (by omega)) (nI_toInt (by omega))
      refine lv_iconst (v := 1) hx hb dX12_needNumber_36 (by decide) ?_
      refine lv_goto (tgt := 41) hx hb dX12_needNumber_37 (by decide) ?_
      refine W.widen (k := 0) (n := 0) (by decide +kernel) (by decide +kernel) ?_
      exact W.iret (v := 1) hx hb hr (fun t9_ ht hW => ⟨⟨1, (), rfl, by (try dsimp only); exact Or.inr ⟨fun h9 => by rw [c_14] at h9; exact absurd h9 (by decide), by decide⟩, by rw [ht]; exact hP, hD⟩, hS.F ht⟩) hS.2.2 dX12_needNumber_41
theorem dX12_needNumber_22 : decode cX12_needNumber 22 = .ok (.aload_n 0, 1) := dk_42 (by decide +kernel)
theorem dX12_needNumber_23 : decode cX12_needNumber 23 = .ok (.getfield 191, 3) := dk_180 (by decide +kernel)
theorem dX12_needNumber_26 : decode cX12_needNumber 26 = .ok (.iload_n 3, 1) := dk_29 (by decide +kernel)
theorem dX12_needNumber_27 : decode cX12_needNumber 27 = .ok (.iaload, 1) := dk_46 (by decide +kernel)
theorem dX12_needNumber_28 : decode cX12_needNumber 28 = .ok (.goto 13, 3) := dk_167 (by decide +kernel)
theorem dX12_needNumber_57 : decode cX12_needNumber 57 = .ok (.aload_n 0, 1) := dk_42 (by decide +kernel)
theorem dX12_needNumber_58 : decode cX12_needNumber 58 = .ok (.getfield 194, 3) := dk_180 (by decide +kernel)
theorem dX12_needNumber_61 : decode cX12_needNumber 61 = .ok (.iload_n 3, 1) := dk_29 (by decide +kernel)
theorem dX12_needNumber_62 : decode cX12_needNumber 62 = .ok (.iaload, 1) := dk_46 (by decide +kernel)
theorem dX12_needNumber_63 : decode cX12_needNumber 63 = .ok (.ineg, 1) := dk_116 (by decide +kernel)
theorem dX12_needNumber_64 : decode cX12_needNumber 64 = .ok (.goto 13, 3) := dk_167 (by decide +kernel)
def wsRneedNb : List Cond := .code yX12_needNumber cX12_needNumber 5 (some .int) :: ([.fieldLink RX12 239 "OptimaWorksModel" "needOf" "[I", .fieldLink RX12 236 "OptimaWorksModel" "needKind" "[I", .fieldLink RX12 203 "OptimaWorksModel" "wayNumber" "[I", .fieldLink RX12 206 "OptimaWorksModel" "waySign" "[I", .fieldLink RX12 194 "OptimaWorksModel" "high" "[I", .fieldLink RX12 191 "OptimaWorksModel" "low" "[I"] ++ wsX120)
theorem iwsRneedNb_in12 : ∀ w ∈ wsX120, w ∈ wsRneedNb := fun _ h => List.mem_cons_of_mem _ (List.mem_append_right _ h)
theorem gdwsRneedNb : wsRneedNb.all goodWord = true := gdC rfl (gdA (by decide +kernel : ([.fieldLink RX12 239 "OptimaWorksModel" "needOf" "[I", .fieldLink RX12 236 "OptimaWorksModel" "needKind" "[I", .fieldLink RX12 203 "OptimaWorksModel" "wayNumber" "[I", .fieldLink RX12 206 "OptimaWorksModel" "waySign" "[I", .fieldLink RX12 194 "OptimaWorksModel" "high" "[I", .fieldLink RX12 191 "OptimaWorksModel" "low" "[I"] : List Cond).all goodWord = true) gdwsX120)
set_option maxHeartbeats 4000000 in
set_option maxRecDepth 100000 in
/-- needNumber(i, NONE) -/
theorem r_X12_needNumberb (l : Launch) (dC : Nat → ClassId) (dI : Nat → Nat → Nat) (a : Nat → Nat) (k : Nat → ClassId) (h0 : Nat) (vi : Nat → Int32) (vj : Nat → Int64) (vF : Nat → Nat → Int32) (vG : Nat → Nat → Int64) (iN : Nat) (vn : Nat) (mr : Nat) (z : Nat) (nd : Nat) (gq : Nat) (hN : NdO (vF 71) (vF 72) vn mr z nd) (hvn8 : vn ≤ 8) (hmr12 : mr ≤ 12) (hiN : iN < nd) (hM : MdlB vF gq) (sz : Nat) : Met l yX12_needNumber wsRneedNb ({ frames := 0, cells := 0, slots := 0, locals := 0 }) (va_Pc [.ref h0, .int (nI iN), .int (-1)] (fun U => U.heap.size = sz ∧ va_P (dC, dI) vwCl (WR a k h0 vi vj vF vG) U.heap ∧ va_K (dC, dI) vwCl (tX12 k) U ∧ va_D (fun _ => True) (WR a k h0 vi vj vF vG))) (va_Qi (fun (r : Int32) (u : Unit) => ((r).toInt.natAbs ≤ 99999)) (fun (u : Unit) t => va_P (dC, dI) vwCl (WR a k h0 vi vj vF vG) t.heap ∧ va_D (va_A (WR a k h0 vi vj vF vG) sz) (WR a k h0 vi vj vF vG)) (va_A (WR a k h0 vi vj vF vG) sz)) 0 0 (va_A (WR a k h0 vi vj vF vG) sz) := by
  refine Met.ofW (cc := cX12_needNumber) (maxL := 5) (ret := (some .int)) (by decide) rfl ?_
  intro p e s m args below meth c s₁ B hml hv
  obtain ⟨rfl, hsz, hP, hK, hD0⟩ := hv
  have hx := B.exec
  have hb := B.bytes
  have hr := B.returns
  have hts := atoms_spec (ws := wsRneedNb) B.pre
  have hown : s.vm.findClass RX12 = some m.cls := findClass_of_methodNamed B.named
  have hlocks := B.notSynchronized
  subst hsz
  have hD := hD0.self (sz := s.heap.size)
  generalize hAe : va_A (WR a k h0 vi vj vF vG) s.heap.size = A at hD ⊢
  have hA : ∀ q : Nat, s.heap.size ≤ q → A q := fun q h => by rw [← hAe]; exact Or.inr h
  have hS : va_S A s.heap s.heap [] := va_S.rf
  have hl := lv_entry ([.ref h0, .int (nI iN), .int (-1)]) (n := 5) (Nat.le_of_ble_eq_true rfl)
  rw [lg_entry_eq]
  generalize (lg_sl ([.ref h0, .int (nI iN), .int (-1)]) ++ List.replicate (5 - (lg_sl ([.ref h0, .int (nI iN), .int (-1)])).length) Slot.unset).toArray = ls at hl ⊢
  have hl : lv_has ls 5 [(0, .ref h0), (1, .int (nI iN)), (2, .int (-1))] := hl
  obtain ⟨o, ho2, ho1⟩ := hN.any hiN
  have hn28 : nd ≤ 28 := by have h1 := hN.1; have h2 := hN.2.2.1; omega
  refine lv_aload_n hx hb dX12_needNumber_0 rfl (lv_at hl 0 rfl) ?_
  refine va_get (D := (dC, dI)) (ci := 12) (v := .ref (a 72)) (C := RX12) (T := TX12) (N := 163) (fs := fM (vS a vi vj)) hx hb hts iwsRneedNb_in12 hown hK hP 0 rfl rfl 121 (by decide) (hts (.fieldLink RX12 239 "OptimaWorksModel" "needOf" "[I") (by decide +kernel)) (fun _ h9 => h9) rfl dX12_needNumber_1 ?_
  refine lv_iload_n hx hb dX12_needNumber_4 rfl (lv_at hl 1 rfl) ?_
  refine va_iald (cA := k 72) (n := 28) (f := (vF 72)) hx hb hK hP 73 72 (WR_get 72 (by decide)) (TR_get 72 (by decide)) (vp_in_nI (show iN < 28 by omega) (by omega)) dX12_needNumber_5 ?_
  refine lv_topi (fun y1 hy1 => ?_)
  obtain rfl : ((vF 72) iN) = y1 := (hy1.trans (by rw [nI_clamp (by omega)])).symm
  refine lv_topi (fun y2 hy2 => ?_)
  obtain rfl : (nI o) = y2 := (hy2.trans (ho2)).symm
  refine lv_istore_n hx hb dX12_needNumber_6 rfl hl (by decide) rfl (fun ls (hl : lv_has ls _ ([(3, .int (nI o)), (0, .ref h0), (1, .int (nI iN)), (2, .int (-1))])) => ?_)
  refine lv_aload_n hx hb dX12_needNumber_7 rfl (lv_at hl 1 rfl) ?_
  refine va_get (D := (dC, dI)) (ci := 12) (v := .ref (a 71)) (C := RX12) (T := TX12) (N := 163) (fs := fM (vS a vi vj)) hx hb hts iwsRneedNb_in12 hown hK hP 0 rfl rfl 120 (by decide) (hts (.fieldLink RX12 236 "OptimaWorksModel" "needKind" "[I") (by decide +kernel)) (fun _ h9 => h9) rfl dX12_needNumber_8 ?_
  refine lv_iload_n hx hb dX12_needNumber_11 rfl (lv_at hl 2 rfl) ?_
  refine va_iald (cA := k 71) (n := 28) (f := (vF 71)) hx hb hK hP 72 71 (WR_get 71 (by decide)) (TR_get 71 (by decide)) (vp_in_nI (show iN < 28 by omega) (by omega)) dX12_needNumber_12 ?_
  refine lv_topi (fun y3 hy3 => ?_)
  obtain rfl : ((vF 71) iN) = y3 := (hy3.trans (by rw [nI_clamp (by omega)])).symm
  refine lv_iconst (v := 1) hx hb dX12_needNumber_13 (by decide) ?_
  refine lv_icmp_ne (tgt := 42) hx hb dX12_needNumber_14 (by decide) (fun c_14 => ?_) (fun c_14 => ?_)
  · have t_14 : (((vF 71) iN)).toInt ≠ 1 := toI_ne c_14 rfl (by decide)
    refine lv_aload_n hx hb dX12_needNumber_42 rfl (lv_at hl 1 rfl) ?_
    refine va_get (D := (dC, dI)) (ci := 12) (v := .ref (a 71)) (C := RX12) (T := TX12) (N := 163) (fs := fM (vS a vi vj)) hx hb hts iwsRneedNb_in12 hown hK hP 0 rfl rfl 120 (by decide) (hts (.fieldLink RX12 236 "OptimaWorksModel" "needKind" "[I") (by decide +kernel)) (fun _ h9 => h9) rfl dX12_needNumber_43 ?_
    refine lv_iload_n hx hb dX12_needNumber_46 rfl (lv_at hl 2 rfl) ?_
    refine va_iald (cA := k 71) (n := 28) (f := (vF 71)) hx hb hK hP 72 71 (WR_get 71 (by decide)) (TR_get 71 (by decide)) (vp_in_nI (show iN < 28 by omega) (by omega)) dX12_needNumber_47 ?_
    refine lv_topi (fun y4 hy4 => ?_)
    obtain rfl : ((vF 71) iN) = y4 := (hy4.trans (by rw [nI_clamp (by omega)])).symm
    refine lv_iconst (v := 2) hx hb dX12_needNumber_48 (by decide) ?_
    refine lv_icmp_ne (tgt := 78) hx hb dX12_needNumber_49 (by decide) (fun c_49 => ?_) (fun c_49 => ?_)
    · have t_49 : (((vF 71) iN)).toInt ≠ 2 := toI_ne c_49 rfl (by decide)
      have h710 : vF 71 iN = 0 := by rcases ho1 with h9 | h9; (exact h9.1); (exfalso; by_cases e9 : iN < z; (exact h9.1 (hN.2.2.2.1 iN e9).1); (rcases (hN.2.2.2.2 iN (by omega) hiN).1 with h8 | h8; (exact c_14 h8); (exact c_49 h8)))
      have ho3 : o < mr := by rcases ho1 with h9 | h9; (exact h9.2); (exact absurd h710 h9.1)
      refine lv_aload_n hx hb dX12_needNumber_78 rfl (lv_at hl 1 rfl) ?_
      refine va_get (D := (dC, dI)) (ci := 12) (v := .ref (a 60)) (C := RX12) (T := TX12) (N := 163) (fs := fM (vS a vi vj)) hx hb hts iwsRneedNb_in12 hown hK hP 0 rfl rfl 100 (by decide) (hts (.fieldLink RX12 203 "OptimaWorksModel" "wayNumber" "[I") (by decide +kernel)) (fun _ h9 => h9) rfl dX12_needNumber_79 ?_
      refine lv_bipush (v := 27) hx hb dX12_needNumber_82 (by decide) ?_
      refine lv_iload_n hx hb dX12_needNumber_84 rfl (lv_at hl 0 rfl) ?_
      refine lv_imul hx hb dX12_needNumber_85 ?_
      refine lv_topi (fun y5 hy5 => ?_)
      obtain rfl : (nI (27 * o)) = y5 := (hy5.trans (pk_mul 27 o)).symm
      refine lv_iconst (v := 1) hx hb dX12_needNumber_86 (by decide) ?_
      refine lv_iadd hx hb dX12_needNumber_87 ?_
      refine lv_topi (fun y6 hy6 => ?_)
      obtain rfl : (nI ((27 * o) + 1)) = y6 := (hy6.trans (nI_add (27 * o) 1)).symm
      refine lv_iload_n hx hb dX12_needNumber_88 rfl (lv_at hl 3 rfl) ?_
      refine lv_iadd hx hb dX12_needNumber_89 ?_
      refine lv_topi (fun y7 hy7 => ?_)
      obtain rfl : (nI (27 * o)) = y7 := (hy7.trans (sb_m1 (by omega))).symm
      refine va_iald (cA := k 60) (n := 351) (f := (vF 60)) hx hb hK hP 61 60 (WR_get 60 (by decide)) (TR_get 60 (by decide)) (vp_in_nI (show (27 * o) < 351 by omega) (by omega)) dX12_needNumber_90 ?_
      refine lv_topi (fun y8 hy8 => ?_)
      obtain rfl : ((vF 60) (27 * o)) = y8 := (hy8.trans (by rw [nI_clamp (by omega)])).symm
      refine lv_istore hx hb dX12_needNumber_91 hl (by decide) rfl (fun ls (hl : lv_has ls _ ([(4, .int ((vF 60) (27 * o))), (3, .int (nI o)), (0, .ref h0), (1, .int (nI iN)), (2, .int (-1))])) => ?_)
      refine lv_aload_n hx hb dX12_needNumber_93 rfl (lv_at hl 2 rfl) ?_
      refine va_get (D := (dC, dI)) (ci := 12) (v := .ref (a 61)) (C := RX12) (T := TX12) (N := 163) (fs := fM (vS a vi vj)) hx hb hts iwsRneedNb_in12 hown hK hP 0 rfl rfl 101 (by decide) (hts (.fieldLink RX12 206 "OptimaWorksModel" "waySign" "[I") (by decide +kernel)) (fun _ h9 => h9) rfl dX12_needNumber_94 ?_
      refine lv_iconst (v := 3) hx hb dX12_needNumber_97 (by decide) ?_
      refine lv_iload_n hx hb dX12_needNumber_98 rfl (lv_at hl 1 rfl) ?_
      refine lv_imul hx hb dX12_needNumber_99 ?_
      refine lv_topi (fun y9 hy9 => ?_)
      obtain rfl : (nI (3 * o)) = y9 := (hy9.trans (pk_mul 3 o)).symm
      refine va_iald (cA := k 61) (n := 39) (f := (vF 61)) hx hb hK hP 62 61 (WR_get 61 (by decide)) (TR_get 61 (by decide)) (vp_in_nI (show (3 * o) < 39 by omega) (by omega)) dX12_needNumber_100 ?_
      refine lv_topi (fun y10 hy10 => ?_)
      obtain rfl : ((vF 61) (3 * o)) = y10 := (hy10.trans (by rw [nI_clamp (by omega)])).symm
      refine lv_if_ne (tgt := 110) hx hb dX12_needNumber_101 (by decide) (fun c_101 => ?_) (fun c_101 => ?_)
      · have t_101 : (((vF 61) (3 * o))).toInt ≠ 0 := toI_ne c_101 rfl (by decide)
        refine lv_iload hx hb dX12_needNumber_110 (lv_at hl 0 rfl) ?_
        refine W.widen (k := 0) (n := 0) (by decide +kernel) (by decide +kernel) ?_
        exact W.iret (v := ((vF 60) (27 * o))) hx hb hr (fun t9_ ht hW => ⟨⟨((vF 60) (27 * o)), (), rfl, by (try dsimp only); (have b9 := hM.2.2.1 (3 * o) (by omega)); (rw [show 9 * (3 * o) = 27 * o by omega] at b9); omega, by rw [ht]; exact hP, hD⟩, hS.F ht⟩) hS.2.2 dX12_needNumber_112
      · have t_101 : (((vF 61) (3 * o))).toInt = 0 := toI_nne c_101 rfl (by decide)
        refine lv_iload hx hb dX12_needNumber_104 (lv_at hl 0 rfl) ?_
        refine lv_ineg hx hb dX12_needNumber_106 ?_
        refine lv_goto (tgt := 112) hx hb dX12_needNumber_107 (by decide) ?_
        refine W.widen (k := 0) (n := 0) (by decide +kernel) (by decide +kernel) ?_
        exact W.iret (v := (-((vF 60) (27 * o)))) hx hb hr (fun t9_ ht hW => ⟨⟨(-((vF 60) (27 * o))), (), rfl, by (try dsimp only); (have b9 := hM.2.2.1 (3 * o) (by omega)); (rw [show 9 * (3 * o) = 27 * o by omega] at b9); exact (neg32 (b := 99999) (by omega) (by decide)).1, by rw [ht]; exact hP, hD⟩, hS.F ht⟩) hS.2.2 dX12_needNumber_112
    · have t_49 : (((vF 71) iN)).toInt = 2 := toI_nne c_49 rfl (by decide)
      refine lv_iload_n hx hb dX12_needNumber_52 rfl (lv_at hl 3 rfl) ?_
      refine lv_iconst (v := (-1)) hx hb dX12_needNumber_53 (by decide) ?_
      refine lv_icmp_ne (tgt := 67) hx hb dX12_needNumber_54 (by decide) (fun c9 => absurd c9 (by decide)) (fun _ => ?_)
      have ho3 : o < vn := by rcases ho1 with h9 | h9; (exfalso; (have h8 := h9.1); rw [c_49] at h8; exact absurd h8 (by decide)); (exact h9.2)
      refine lv_aload_n hx hb dX12_needNumber_57 rfl (lv_at hl 1 rfl) ?_
      refine va_get (D := (dC, dI)) (ci := 12) (v := .ref (a 57)) (C := RX12) (T := TX12) (N := 163) (fs := fM (vS a vi vj)) hx hb hts iwsRneedNb_in12 hown hK hP 0 rfl rfl 97 (by decide) (hts (.fieldLink RX12 194 "OptimaWorksModel" "high" "[I") (by decide +kernel)) (fun _ h9 => h9) rfl dX12_needNumber_58 ?_
      refine lv_iload_n hx hb dX12_needNumber_61 rfl (lv_at hl 0 rfl) ?_
      refine va_iald (cA := k 57) (n := 9) (f := (vF 57)) hx hb hK hP 58 57 (WR_get 57 (by decide)) (TR_get 57 (by decide)) (vp_in_nI (show o < 9 by omega) (by omega)) dX12_needNumber_62 ?_
      refine lv_topi (fun y11 hy11 => ?_)
      obtain rfl : ((vF 57) o) = y11 := (hy11.trans (by rw [nI_clamp (by omega)])).symm
      refine lv_ineg hx hb dX12_needNumber_63 ?_
      refine lv_goto (tgt := 77) hx hb dX12_needNumber_64 (by decide) ?_
      refine W.widen (k := 0) (n := 0) (by decide +kernel) (by decide +kernel) ?_
      exact W.iret (v := (-((vF 57) o))) hx hb hr (fun t9_ ht hW => ⟨⟨(-((vF 57) o)), (), rfl, by (try dsimp only); (have b9 := hM.2.1 o (by omega)); exact (neg32 (b := 99999) (by omega) (by decide)).1, by rw [ht]; exact hP, hD⟩, hS.F ht⟩) hS.2.2 dX12_needNumber_77
  · have t_14 : (((vF 71) iN)).toInt = 1 := toI_nne c_14 rfl (by decide)
    refine lv_iload_n hx hb dX12_needNumber_17 rfl (lv_at hl 3 rfl) ?_
    refine lv_iconst (v := (-1)) hx hb dX12_needNumber_18 (by decide) ?_
    refine lv_icmp_ne (tgt := 31) hx hb dX12_needNumber_19 (by decide) (fun c9 => absurd c9 (by decide)) (fun _ => ?_)
    have ho3 : o < vn := by rcases ho1 with h9 | h9; (exfalso; (have h8 := h9.1); rw [c_14] at h8; exact absurd h8 (by decide)); (exact h9.2)
    refine lv_aload_n hx hb dX12_needNumber_22 rfl (lv_at hl 1 rfl) ?_
    refine va_get (D := (dC, dI)) (ci := 12) (v := .ref (a 56)) (C := RX12) (T := TX12) (N := 163) (fs := fM (vS a vi vj)) hx hb hts iwsRneedNb_in12 hown hK hP 0 rfl rfl 96 (by decide) (hts (.fieldLink RX12 191 "OptimaWorksModel" "low" "[I") (by decide +kernel)) (fun _ h9 => h9) rfl dX12_needNumber_23 ?_
    refine lv_iload_n hx hb dX12_needNumber_26 rfl (lv_at hl 0 rfl) ?_
    refine va_iald (cA := k 56) (n := 9) (f := (vF 56)) hx hb hK hP 57 56 (WR_get 56 (by decide)) (TR_get 56 (by decide)) (vp_in_nI (show o < 9 by omega) (by omega)) dX12_needNumber_27 ?_
    refine lv_topi (fun y12 hy12 => ?_)
    obtain rfl : ((vF 56) o) = y12 := (hy12.trans (by rw [nI_clamp (by omega)])).symm
    refine lv_goto (tgt := 41) hx hb dX12_needNumber_28 (by decide) ?_
    refine W.widen (k := 0) (n := 0) (by decide +kernel) (by decide +kernel) ?_
    exact W.iret (v := ((vF 56) o)) hx hb hr (fun t9_ ht hW => ⟨⟨((vF 56) o), (), rfl, by (try dsimp only); (have b9 := hM.1 o (by omega)); omega, by rw [ht]; exact hP, hD⟩, hS.F ht⟩) hS.2.2 dX12_needNumber_41
theorem dX12_spread_0 : decode cX12_spread 0 = .ok (.aload_n 0, 1) := dk_42 (by decide +kernel)
theorem dX12_spread_1 : decode cX12_spread 1 = .ok (.getfield 242, 3) := dk_180 (by decide +kernel)
theorem dX12_spread_4 : decode cX12_spread 4 = .ok (.iload_n 2, 1) := dk_28 (by decide +kernel)
theorem dX12_spread_5 : decode cX12_spread 5 = .ok (.iaload, 1) := dk_46 (by decide +kernel)
theorem dX12_spread_6 : decode cX12_spread 6 = .ok (.ifCond .ne 4, 3) := dk_154 (by decide +kernel)
theorem dX12_spread_9 : decode cX12_spread 9 = .ok (.return_, 1) := dk_177 (by decide +kernel)
theorem dX12_spread_10 : decode cX12_spread 10 = .ok (.aload_n 0, 1) := dk_42 (by decide +kernel)
theorem dX12_spread_11 : decode cX12_spread 11 = .ok (.aload_n 0, 1) := dk_42 (by decide +kernel)
theorem dX12_spread_12 : decode cX12_spread 12 = .ok (.iload_n 1, 1) := dk_27 (by decide +kernel)
theorem dX12_spread_13 : decode cX12_spread 13 = .ok (.aload_n 0, 1) := dk_42 (by decide +kernel)
theorem dX12_spread_14 : decode cX12_spread 14 = .ok (.getfield 245, 3) := dk_180 (by decide +kernel)
theorem dX12_spread_17 : decode cX12_spread 17 = .ok (.iload_n 2, 1) := dk_28 (by decide +kernel)
theorem dX12_spread_18 : decode cX12_spread 18 = .ok (.iaload, 1) := dk_46 (by decide +kernel)
theorem dX12_spread_19 : decode cX12_spread 19 = .ok (.invokevirtual 405, 3) := dk_182 (by decide +kernel)
theorem dX12_spread_22 : decode cX12_spread 22 = .ok (.iload_n 3, 1) := dk_29 (by decide +kernel)
theorem dX12_spread_23 : decode cX12_spread 23 = .ok (.i2l, 1) := dk_133 (by decide +kernel)
theorem dX12_spread_24 : decode cX12_spread 24 = .ok (.iload 4, 2) := dk_21 (by decide +kernel)
theorem dX12_spread_26 : decode cX12_spread 26 = .ok (.i2l, 1) := dk_133 (by decide +kernel)
theorem dX12_spread_27 : decode cX12_spread 27 = .ok (.lmul, 1) := dk_105 (by decide +kernel)
theorem dX12_spread_28 : decode cX12_spread 28 = .ok (.invokevirtual 369, 3) := dk_182 (by decide +kernel)
theorem dX12_spread_31 : decode cX12_spread 31 = .ok (.aload_n 0, 1) := dk_42 (by decide +kernel)
theorem dX12_spread_32 : decode cX12_spread 32 = .ok (.iload_n 2, 1) := dk_28 (by decide +kernel)
theorem dX12_spread_33 : decode cX12_spread 33 = .ok (.invokevirtual 900, 3) := dk_182 (by decide +kernel)
theorem dX12_spread_36 : decode cX12_spread 36 = .ok (.ifCond .eq 27, 3) := dk_153 (by decide +kernel)
theorem dX12_spread_39 : decode cX12_spread 39 = .ok (.aload_n 0, 1) := dk_42 (by decide +kernel)
theorem dX12_spread_40 : decode cX12_spread 40 = .ok (.aload_n 0, 1) := dk_42 (by decide +kernel)
theorem dX12_spread_41 : decode cX12_spread 41 = .ok (.iload_n 1, 1) := dk_27 (by decide +kernel)
theorem dX12_spread_42 : decode cX12_spread 42 = .ok (.aload_n 0, 1) := dk_42 (by decide +kernel)
theorem dX12_spread_43 : decode cX12_spread 43 = .ok (.getfield 245, 3) := dk_180 (by decide +kernel)
theorem dX12_spread_46 : decode cX12_spread 46 = .ok (.iload_n 2, 1) := dk_28 (by decide +kernel)
theorem dX12_spread_47 : decode cX12_spread 47 = .ok (.iaload, 1) := dk_46 (by decide +kernel)
theorem dX12_spread_48 : decode cX12_spread 48 = .ok (.iconst 1, 1) := dk_4 (by decide +kernel)
theorem dX12_spread_49 : decode cX12_spread 49 = .ok (.iadd, 1) := dk_96 (by decide +kernel)
theorem dX12_spread_50 : decode cX12_spread 50 = .ok (.invokevirtual 405, 3) := dk_182 (by decide +kernel)
theorem dX12_spread_53 : decode cX12_spread 53 = .ok (.iload_n 3, 1) := dk_29 (by decide +kernel)
theorem dX12_spread_54 : decode cX12_spread 54 = .ok (.ineg, 1) := dk_116 (by decide +kernel)
theorem dX12_spread_55 : decode cX12_spread 55 = .ok (.i2l, 1) := dk_133 (by decide +kernel)
theorem dX12_spread_56 : decode cX12_spread 56 = .ok (.iload 4, 2) := dk_21 (by decide +kernel)
theorem dX12_spread_58 : decode cX12_spread 58 = .ok (.i2l, 1) := dk_133 (by decide +kernel)
theorem dX12_spread_59 : decode cX12_spread 59 = .ok (.lmul, 1) := dk_105 (by decide +kernel)
theorem dX12_spread_60 : decode cX12_spread 60 = .ok (.invokevirtual 369, 3) := dk_182 (by decide +kernel)
theorem dX12_spread_63 : decode cX12_spread 63 = .ok (.return_, 1) := dk_177 (by decide +kernel)
def wsRX12_spread : List Cond := .code yX12_spread cX12_spread 5 none :: ([.fieldLink RX12 242 "OptimaWorksModel" "needKept" "[I", .fieldLink RX12 245 "OptimaWorksModel" "needColumn" "[I"] ++ wsX120 ++ (wsV RX12 405 RX12 yX12_at wsRX12_at) ++ (wsV RX12 369 RX12 yX12_put wsRX12_put) ++ (wsV RX12 900 RX12 yX12_isEqual wsRX12_isEqual))
theorem iwsRX12_spread_in12 : ∀ w ∈ wsX120, w ∈ wsRX12_spread := fun _ h => List.mem_cons_of_mem _ (List.mem_append_left _ (List.mem_append_left _ (List.mem_append_left _ (List.mem_append_right _ h))))
theorem gwsRX12_spread_0 : GoodIn wsRX12_spread (wsV RX12 405 RX12 yX12_at wsRX12_at) := goodIn_sub (fun _ h => List.mem_cons_of_mem _ (List.mem_append_left _ (List.mem_append_left _ (List.mem_append_right _ h)))) (gdV (by decide +kernel) gdwsRX12_at)
theorem gwsRX12_spread_1 : GoodIn wsRX12_spread (wsV RX12 369 RX12 yX12_put wsRX12_put) := goodIn_sub (fun _ h => List.mem_cons_of_mem _ (List.mem_append_left _ (List.mem_append_right _ h))) (gdV (by decide +kernel) gdwsRX12_put)
theorem gwsRX12_spread_2 : GoodIn wsRX12_spread (wsV RX12 900 RX12 yX12_isEqual wsRX12_isEqual) := goodIn_sub (fun _ h => List.mem_cons_of_mem _ (List.mem_append_right _ h)) (gdV (by decide +kernel) gdwsRX12_isEqual)
theorem gdwsRX12_spread : wsRX12_spread.all goodWord = true := gdC rfl (gdA (gdA (gdA (gdA (by decide +kernel : ([.fieldLink RX12 242 "OptimaWorksModel" "needKept" "[I", .fieldLink RX12 245 "OptimaWorksModel" "needColumn" "[I"] : List Cond).all goodWord = true) gdwsX120) (gdV (by decide +kernel) gdwsRX12_at)) (gdV (by decide +kernel) gdwsRX12_put)) (gdV (by decide +kernel) gdwsRX12_isEqual))
set_option maxHeartbeats 4000000 in
set_option maxRecDepth 100000 in
/-- spread(r, i, v, how) -/
theorem r_X12_spread (l : Launch) (dC : Nat → ClassId) (dI : Nat → Nat → Nat) (a : Nat → Nat) (k : Nat → ClassId) (h0 : Nat) (vi : Nat → Int32) (vj : Nat → Int64) (vF : Nat → Nat → Int32) (vG : Nat → Nat → Int64) (rn : Nat) (vI : Int32) (hw : Int32) (hI : Int) (C : Nat) (bb : Nat → Nat) (iN : Nat) (vn : Nat) (mr : Nat) (z : Nat) (nd : Nat) (mg : Nat → Int) (hBg : Bg (vF 0) mg) (hN : NdO (vF 71) (vF 72) vn mr z nd) (hvn8 : vn ≤ 8) (hmr12 : mr ≤ 12) (hiN : iN < nd) (hC : vi 5 = nI C) (hC0 : 0 < C ∧ C ≤ 45) (hrn : 30 + rn * (C + 1) + C < 1000) (hcol : vF 74 iN = nI (ncS (ncw (vF 61) (vF 71) (vF 72) (vF 73)) iN)) (hlast : ncS (ncw (vF 61) (vF 71) (vF 72) (vF 73)) iN + (ncw (vF 61) (vF 71) (vF 72) (vF 73)) iN ≤ C - 1) (hhI : (hw).toInt = hI) (hI1 : hI = 1 ∨ hI = -1) (hvb : (vI).toInt.natAbs ≤ 99999) (hbb : ∀ j, ncS (ncw (vF 61) (vF 71) (vF 72) (vF 73)) iN ≤ j → j < ncS (ncw (vF 61) (vF 71) (vF 72) (vF 73)) iN + (ncw (vF 61) (vF 71) (vF 72) (vF 73)) iN → (vI).toInt.natAbs ≤ bb j) (hrow : RwB C mg rn bb) (sz : Nat) : Met l yX12_spread wsRX12_spread ({ frames := 1, cells := 0, slots := 0, locals := 27 }) (va_Pc [.ref h0, .int (nI rn), .int (nI iN), .int vI, .int hw] (fun U => U.heap.size = sz ∧ va_P (dC, dI) vwCl (WR a k h0 vi vj vF vG) U.heap ∧ va_K (dC, dI) vwCl (tX12 k) U ∧ va_D (fun _ => True) (WR a k h0 vi vj vF vG))) (va_Qv (fun (u : (Nat → Int32) × (Nat → Int)) => (Bg (u.1) (u.2)) ∧ (RwB C (u.2) rn bb) ∧ (∀ q, (q < 30 + rn * (C + 1) ∨ 30 + rn * (C + 1) + (C - 1) ≤ q) → (u.2) q = mg q)) (fun (u : (Nat → Int32) × (Nat → Int)) t => va_P (dC, dI) vwCl (WR a k h0 vi vj (fT vF 0 (u.1)) vG) t.heap ∧ va_D (va_A (WR a k h0 vi vj vF vG) sz) (WR a k h0 vi vj (fT vF 0 (u.1)) vG)) (va_A (WR a k h0 vi vj vF vG) sz)) 0 0 (va_A (WR a k h0 vi vj vF vG) sz) := by
  refine Met.ofW (cc := cX12_spread) (maxL := 5) (ret := none) (by decide) rfl ?_
  intro p e s m args below meth c s₁ B hml hv
  obtain ⟨rfl, hsz, hP, hK, hD0⟩ := hv
  have hx := B.exec
  have hb := B.bytes
  have hr := B.returns
  have hts := atoms_spec (ws := wsRX12_spread) B.pre
  have hown : s.vm.findClass RX12 = some m.cls := findClass_of_methodNamed B.named
  have hlocks := B.notSynchronized
  subst hsz
  have hD := hD0.self (sz := s.heap.size)
  generalize hAe : va_A (WR a k h0 vi vj vF vG) s.heap.size = A at hD ⊢
  have hA : ∀ q : Nat, s.heap.size ≤ q → A q := fun q h => by rw [← hAe]; exact Or.inr h
  have hS : va_S A s.heap s.heap [] := va_S.rf
  have hl := lv_entry ([.ref h0, .int (nI rn), .int (nI iN), .int vI, .int hw]) (n := 5) (Nat.le_of_ble_eq_true rfl)
  rw [lg_entry_eq]
  generalize (lg_sl ([.ref h0, .int (nI rn), .int (nI iN), .int vI, .int hw]) ++ List.replicate (5 - (lg_sl ([.ref h0, .int (nI rn), .int (nI iN), .int vI, .int hw])).length) Slot.unset).toArray = ls at hl ⊢
  have hl : lv_has ls 5 [(0, .ref h0), (1, .int (nI rn)), (2, .int (nI iN)), (3, .int vI), (4, .int hw)] := hl
  have hn28 : nd ≤ 28 := by have h1 := hN.1; have h2 := hN.2.2.1; omega
  refine lv_aload_n hx hb dX12_spread_0 rfl (lv_at hl 0 rfl) ?_
  refine va_get (D := (dC, dI)) (ci := 12) (v := .ref (a 73)) (C := RX12) (T := TX12) (N := 163) (fs := fM (vS a vi vj)) hx hb hts iwsRX12_spread_in12 hown hK hP 0 rfl rfl 122 (by decide) (hts (.fieldLink RX12 242 "OptimaWorksModel" "needKept" "[I") (by decide +kernel)) (fun _ h9 => h9) rfl dX12_spread_1 ?_
  refine lv_iload_n hx hb dX12_spread_4 rfl (lv_at hl 2 rfl) ?_
  refine va_iald (cA := k 73) (n := 28) (f := (vF 73)) hx hb hK hP 74 73 (WR_get 73 (by decide)) (TR_get 73 (by decide)) (vp_in_nI (show iN < 28 by omega) (by omega)) dX12_spread_5 ?_
  refine lv_topi (fun y1 hy1 => ?_)
  obtain rfl : ((vF 73) iN) = y1 := (hy1.trans (by rw [nI_clamp (by omega)])).symm
  refine lv_if_ne (tgt := 10) hx hb dX12_spread_6 (by decide) (fun c_6 => ?_) (fun c_6 => ?_)
  · have t_6 : (((vF 73) iN)).toInt ≠ 0 := toI_ne c_6 rfl (by decide)
    have hw1 : 1 ≤ (ncw (vF 61) (vF 71) (vF 72) (vF 73)) iN := by unfold ncw; rw [if_neg c_6]; split <;> omega
    have ea := mulI (x := vI) (y := hw)
    have bx : ((vI).toInt * hI).natAbs ≤ (vI).toInt.natAbs := by rcases hI1 with h | h <;> rw [h] <;> omega
    have hc45 : ncS (ncw (vF 61) (vF 71) (vF 72) (vF 73)) iN < 45 := by omega
    refine lv_aload_n hx hb dX12_spread_10 rfl (lv_at hl 0 rfl) ?_
    refine lv_aload_n hx hb dX12_spread_11 rfl (lv_at hl 0 rfl) ?_
    refine lv_iload_n hx hb dX12_spread_12 rfl (lv_at hl 1 rfl) ?_
    refine lv_aload_n hx hb dX12_spread_13 rfl (lv_at hl 0 rfl) ?_
    refine va_get (D := (dC, dI)) (ci := 12) (v := .ref (a 74)) (C := RX12) (T := TX12) (N := 163) (fs := fM (vS a vi vj)) hx hb hts iwsRX12_spread_in12 hown hK hP 0 rfl rfl 123 (by decide) (hts (.fieldLink RX12 245 "OptimaWorksModel" "needColumn" "[I") (by decide +kernel)) (fun _ h9 => h9) rfl dX12_spread_14 ?_
    refine lv_iload_n hx hb dX12_spread_17 rfl (lv_at hl 2 rfl) ?_
    refine va_iald (cA := k 74) (n := 28) (f := (vF 74)) hx hb hK hP 75 74 (WR_get 74 (by decide)) (TR_get 74 (by decide)) (vp_in_nI (show iN < 28 by omega) (by omega)) dX12_spread_18 ?_
    refine lv_topi (fun y2 hy2 => ?_)
    obtain rfl : ((vF 74) iN) = y2 := (hy2.trans (by rw [nI_clamp (by omega)])).symm
    refine lv_topi (fun y3 hy3 => ?_)
    obtain rfl : (nI (ncS (ncw (vF 61) (vF 71) (vF 72) (vF 73)) iN)) = y3 := (hy3.trans (hcol)).symm
    have hFc := allFree hD hS hA
    refine va_calli (va_runV (As := [.int (nI rn), .int (nI (ncS (ncw (vF 61) (vF 71) (vF 72) (vF 73)) iN))]) (rest := [.ref h0]) ⟨hx, hb, hml, hown, hts⟩ (r_X12_at l dC dI a k h0 vi vj vF vG rn (ncS (ncw (vF 61) (vF 71) (vF 72) (vF 73)) iN) C (by first | assumption | decide | omega | rfl) s.heap.size) (cwV 2 hts gwsRX12_spread_0 rfl rfl rfl hd_yX12_at_RX12 (by decide +kernel)) (fz_pre (va_recv hK hP (ci := 12) (q0 := 0) rfl rfl) hP hK hD) rfl rfl hl.1 rfl (lv_room (Nat.le_of_ble_eq_true rfl)) dX12_spread_19 (by decide +kernel)) hS (fun q _ h => hFc q h) hFc (fun r19 u t9_ H locs ht hvm hw9 hB9 hz1 hk1 hS => ?_)
    have hP : va_P (dC, dI) vwCl (WR a k h0 vi vj vF vG) H := fz_P ht hB9.1
    have hD : va_D A (WR a k h0 vi vj vF vG) := hB9.2.weaken (fun _ q _ h => hFc q.1 h)
    obtain rfl := hw9
    refine lv_iload_n hx hb dX12_spread_22 rfl (lv_at hl 3 rfl) ?_
    refine lv_i2l hx hb dX12_spread_23 rfl ?_
    refine lv_iload hx hb dX12_spread_24 (lv_at hl 4 rfl) ?_
    refine lv_i2l hx hb dX12_spread_26 rfl ?_
    refine lv_lmul hx hb dX12_spread_27 ?_
    have hFc := allFree hD hS hA
    refine va_callv (va_runV (As := [.int (nI (30 + rn * (C + 1) + (ncS (ncw (vF 61) (vF 71) (vF 72) (vF 73)) iN))), .long ((vI).toInt64 * (hw).toInt64)]) (rest := []) ⟨hx, hb, hml, hown, hts⟩ (b_X12_put l dC dI a k h0 vi vj vF vG (30 + rn * (C + 1) + (ncS (ncw (vF 61) (vF 71) (vF 72) (vF 73)) iN)) ((vI).toInt64 * (hw).toInt64) ((vI).toInt * hI) mg hBg (by first | assumption | decide | omega | rfl) (by rw [ea, hhI]) (by omega) H.size) (cwV 2 hts gwsRX12_spread_1 rfl rfl rfl hd_yX12_put_RX12 (by decide +kernel)) (fz_pre (va_recv hK hP (ci := 12) (q0 := 0) rfl rfl) hP hK hD) rfl rfl hl.1 rfl (lv_room (Nat.le_of_ble_eq_true rfl)) dX12_spread_28 (by decide +kernel)) hS (fun q _ h => hFc q h) hFc (fun u t9_ H locs ht hvm hw9 hB9 hz1 hk1 hS => ?_)
    obtain ⟨g28, hwit28⟩ : ∃ w9, w9 = u := ⟨u, rfl⟩
    subst hwit28
    have hP : va_P (dC, dI) vwCl (WR a k h0 vi vj (fT vF 0 g28) vG) H := fz_P ht hB9.1
    have hD : va_D A (WR a k h0 vi vj (fT vF 0 g28) vG) := hB9.2.weaken (fun _ q _ h => hFc q.1 h)
    have f28_0 := hw9
    try dsimp only at f28_0
    refine lv_aload_n hx hb dX12_spread_31 rfl (lv_at hl 0 rfl) ?_
    refine lv_iload_n hx hb dX12_spread_32 rfl (lv_at hl 2 rfl) ?_
    have hFc := allFree hD hS hA
    refine va_calli (va_runV (As := [.int (nI iN)]) (rest := []) ⟨hx, hb, hml, hown, hts⟩ (r_X12_isEqual l dC dI a k h0 vi vj (fT vF 0 g28) vG iN vn mr z nd (hN) (by first | assumption | decide | omega | rfl) (by first | assumption | decide | omega | rfl) (by first | assumption | decide | omega | rfl) H.size) (cwV 1 hts gwsRX12_spread_2 rfl rfl rfl hd_yX12_isEqual_RX12 (by decide +kernel)) (fz_pre (va_recv hK hP (ci := 12) (q0 := 0) rfl rfl) hP hK hD) rfl rfl hl.1 rfl (lv_room (Nat.le_of_ble_eq_true rfl)) dX12_spread_33 (by decide +kernel)) hS (fun q _ h => hFc q h) hFc (fun r33 u t9_ H locs ht hvm hw9 hB9 hz1 hk1 hS => ?_)
    have hP : va_P (dC, dI) vwCl (WR a k h0 vi vj (fT vF 0 g28) vG) H := fz_P ht hB9.1
    have hD : va_D A (WR a k h0 vi vj (fT vF 0 g28) vG) := hB9.2.weaken (fun _ q _ h => hFc q.1 h)
    rcases hw9 with ⟨rfl, f33_0⟩ | ⟨rfl, f33_0⟩
    · have f33_0 : EqP (vF 61) (vF 71) (vF 72) iN := f33_0
      refine lv_if_eq (tgt := 63) hx hb dX12_spread_36 (by decide) (fun c9 => absurd c9 (by decide)) (fun _ => ?_)
      have hw2 : (ncw (vF 61) (vF 71) (vF 72) (vF 73)) iN = 2 := by unfold ncw; rw [if_neg c_6, if_pos f33_0]
      have hng := neg32 (b := 99999) hvb (by decide)
      have eb := mulI (x := -vI) (y := hw)
      have by9 : (-(vI).toInt * hI).natAbs ≤ (vI).toInt.natAbs := by rcases hI1 with h | h <;> rw [h] <;> omega
      refine lv_aload_n hx hb dX12_spread_39 rfl (lv_at hl 0 rfl) ?_
      refine lv_aload_n hx hb dX12_spread_40 rfl (lv_at hl 0 rfl) ?_
      refine lv_iload_n hx hb dX12_spread_41 rfl (lv_at hl 1 rfl) ?_
      refine lv_aload_n hx hb dX12_spread_42 rfl (lv_at hl 0 rfl) ?_
      refine va_get (D := (dC, dI)) (ci := 12) (v := .ref (a 74)) (C := RX12) (T := TX12) (N := 163) (fs := fM (vS a vi vj)) hx hb hts iwsRX12_spread_in12 hown hK hP 0 rfl rfl 123 (by decide) (hts (.fieldLink RX12 245 "OptimaWorksModel" "needColumn" "[I") (by decide +kernel)) (fun _ h9 => h9) rfl dX12_spread_43 ?_
      refine lv_iload_n hx hb dX12_spread_46 rfl (lv_at hl 2 rfl) ?_
      refine va_iald (cA := k 74) (n := 28) (f := (vF 74)) hx hb hK hP 75 74 (WR_get 74 (by decide)) (TR_get 74 (by decide)) (vp_in_nI (show iN < 28 by omega) (by omega)) dX12_spread_47 ?_
      refine lv_topi (fun y4 hy4 => ?_)
      obtain rfl : ((vF 74) iN) = y4 := (hy4.trans (by rw [nI_clamp (by omega)])).symm
      refine lv_topi (fun y5 hy5 => ?_)
      obtain rfl : (nI (ncS (ncw (vF 61) (vF 71) (vF 72) (vF 73)) iN)) = y5 := (hy5.trans (hcol)).symm
      refine lv_iconst (v := 1) hx hb dX12_spread_48 (by decide) ?_
      refine lv_iadd hx hb dX12_spread_49 ?_
      refine lv_topi (fun y6 hy6 => ?_)
      obtain rfl : (nI ((ncS (ncw (vF 61) (vF 71) (vF 72) (vF 73)) iN) + 1)) = y6 := (hy6.trans (nI_add (ncS (ncw (vF 61) (vF 71) (vF 72) (vF 73)) iN) 1)).symm
      have hFc := allFree hD hS hA
      refine va_calli (va_runV (As := [.int (nI rn), .int (nI ((ncS (ncw (vF 61) (vF 71) (vF 72) (vF 73)) iN) + 1))]) (rest := [.ref h0]) ⟨hx, hb, hml, hown, hts⟩ (r_X12_at l dC dI a k h0 vi vj (fT vF 0 g28) vG rn ((ncS (ncw (vF 61) (vF 71) (vF 72) (vF 73)) iN) + 1) C (by first | assumption | decide | omega | rfl) H.size) (cwV 2 hts gwsRX12_spread_0 rfl rfl rfl hd_yX12_at_RX12 (by decide +kernel)) (fz_pre (va_recv hK hP (ci := 12) (q0 := 0) rfl rfl) hP hK hD) rfl rfl hl.1 rfl (lv_room (Nat.le_of_ble_eq_true rfl)) dX12_spread_50 (by decide +kernel)) hS (fun q _ h => hFc q h) hFc (fun r50 u t9_ H locs ht hvm hw9 hB9 hz1 hk1 hS => ?_)
      have hP : va_P (dC, dI) vwCl (WR a k h0 vi vj (fT vF 0 g28) vG) H := fz_P ht hB9.1
      have hD : va_D A (WR a k h0 vi vj (fT vF 0 g28) vG) := hB9.2.weaken (fun _ q _ h => hFc q.1 h)
      obtain rfl := hw9
      refine lv_iload_n hx hb dX12_spread_53 rfl (lv_at hl 3 rfl) ?_
      refine lv_ineg hx hb dX12_spread_54 ?_
      refine lv_i2l hx hb dX12_spread_55 rfl ?_
      refine lv_iload hx hb dX12_spread_56 (lv_at hl 4 rfl) ?_
      refine lv_i2l hx hb dX12_spread_58 rfl ?_
      refine lv_lmul hx hb dX12_spread_59 ?_
      have hFc := allFree hD hS hA
      refine va_callv (va_runV (As := [.int (nI (30 + rn * (C + 1) + ((ncS (ncw (vF 61) (vF 71) (vF 72) (vF 73)) iN) + 1))), .long (((-vI)).toInt64 * (hw).toInt64)]) (rest := []) ⟨hx, hb, hml, hown, hts⟩ (b_X12_put l dC dI a k h0 vi vj (fT vF 0 g28) vG (30 + rn * (C + 1) + ((ncS (ncw (vF 61) (vF 71) (vF 72) (vF 73)) iN) + 1)) (((-vI)).toInt64 * (hw).toInt64) (-(vI).toInt * hI) (fT mg (30 + rn * (C + 1) + (ncS (ncw (vF 61) (vF 71) (vF 72) (vF 73)) iN)) ((vI).toInt * hI)) f28_0 (by first | assumption | decide | omega | rfl) (by rw [eb, hhI, hng.2]) (by omega) H.size) (cwV 2 hts gwsRX12_spread_1 rfl rfl rfl hd_yX12_put_RX12 (by decide +kernel)) (fz_pre (va_recv hK hP (ci := 12) (q0 := 0) rfl rfl) hP hK hD) rfl rfl hl.1 rfl (lv_room (Nat.le_of_ble_eq_true rfl)) dX12_spread_60 (by decide +kernel)) hS (fun q _ h => hFc q h) hFc (fun u t9_ H locs ht hvm hw9 hB9 hz1 hk1 hS => ?_)
      obtain ⟨g60, hwit60⟩ : ∃ w9, w9 = u := ⟨u, rfl⟩
      subst hwit60
      have hP : va_P (dC, dI) vwCl (WR a k h0 vi vj (fT (fT vF 0 g28) 0 g60) vG) H := fz_P ht hB9.1
      have hD : va_D A (WR a k h0 vi vj (fT (fT vF 0 g28) 0 g60) vG) := hB9.2.weaken (fun _ q _ h => hFc q.1 h)
      have e9 : fT vF 0 g60 = fT (fT vF 0 g28) 0 g60 := (fT_sm _ _ _ _).symm
      rw [← e9] at hP hD
      clear e9
      have hP : va_P (dC, dI) vwCl (WR a k h0 vi vj (fT vF 0 g60) vG) H := hP
      have hD : va_D A (WR a k h0 vi vj (fT vF 0 g60) vG) := hD
      have f60_0 := hw9
      try dsimp only at f60_0
      refine W.widen (k := 0) (n := 0) (by decide +kernel) (by decide +kernel) ?_
      exact W.vret hx hb hr (fun t9_ ht hW => ⟨⟨(g60, (fT (fT mg (30 + rn * (C + 1) + (ncS (ncw (vF 61) (vF 71) (vF 72) (vF 73)) iN)) ((vI).toInt * hI)) (30 + rn * (C + 1) + ((ncS (ncw (vF 61) (vF 71) (vF 72) (vF 73)) iN) + 1)) (-(vI).toInt * hI))), rfl, by (try dsimp only); exact ⟨f60_0, fun j hj => by by_cases e8 : j = ncS (ncw (vF 61) (vF 71) (vF 72) (vF 73)) iN + 1; (rw [e8, fT_eq]; exact Nat.le_trans by9 (hbb _ (by omega) (by omega))); rw [fT_ne _ _ (by omega)]; by_cases e9 : j = ncS (ncw (vF 61) (vF 71) (vF 72) (vF 73)) iN; (rw [e9, fT_eq]; exact Nat.le_trans bx (hbb _ (by omega) (by omega))); (rw [fT_ne _ _ (by omega)]; exact hrow j hj), fun q hq => by (rw [fT_ne _ _ (by omega), fT_ne _ _ (by omega)])⟩, by rw [ht]; exact hP, hD⟩, hS.F ht⟩) hS.2.2 dX12_spread_63
    · have f33_0 : ¬ EqP (vF 61) (vF 71) (vF 72) iN := f33_0
      refine lv_if_eq (tgt := 63) hx hb dX12_spread_36 (by decide) (fun _ => ?_) (fun c9 => absurd (by decide) c9)
      refine W.widen (k := 0) (n := 0) (by decide +kernel) (by decide +kernel) ?_
      exact W.vret hx hb hr (fun t9_ ht hW => ⟨⟨(g28, (fT mg (30 + rn * (C + 1) + (ncS (ncw (vF 61) (vF 71) (vF 72) (vF 73)) iN)) ((vI).toInt * hI))), rfl, by (try dsimp only); exact ⟨f28_0, fun j hj => by by_cases e9 : j = ncS (ncw (vF 61) (vF 71) (vF 72) (vF 73)) iN; (rw [e9, fT_eq]; exact Nat.le_trans bx (hbb _ (by omega) (by omega))); (rw [fT_ne _ _ (by omega)]; exact hrow j hj), fun q hq => by (rw [fT_ne _ _ (by omega)])⟩, by rw [ht]; exact hP, hD⟩, hS.F ht⟩) hS.2.2 dX12_spread_63
  · have t_6 : (((vF 73) iN)).toInt = 0 := toI_nne c_6 rfl (by decide)
    refine W.widen (k := 0) (n := 0) (by decide +kernel) (by decide +kernel) ?_
    have e9 : fT vF 0 (vF 0) = vF := fT_id _ _ (rfl)
    have hP : va_P (dC, dI) vwCl (WR a k h0 vi vj (fT vF 0 (vF 0)) vG) s.heap := by rw [e9]; exact hP
    have hD : va_D A (WR a k h0 vi vj (fT vF 0 (vF 0)) vG) := by rw [e9]; exact hD
    clear e9
    exact W.vret hx hb hr (fun t9_ ht hW => ⟨⟨((vF 0), mg), rfl, by (try dsimp only); exact ⟨hBg, hrow, fun q _ => rfl⟩, by rw [ht]; exact hP, hD⟩, hS.F ht⟩) hS.2.2 dX12_spread_9

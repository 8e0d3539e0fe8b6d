theorem dJ6_bitCount_0f7a4_0 : decode cJ6_bitCount_0f7a4 0 = .ok (.iload_n 0, 1) := by decide +kernel
theorem dJ6_bitCount_0f7a4_1 : decode cJ6_bitCount_0f7a4 1 = .ok (.iload_n 0, 1) := by decide +kernel
theorem dJ6_bitCount_0f7a4_2 : decode cJ6_bitCount_0f7a4 2 = .ok (.iconst 1, 1) := by decide +kernel
theorem dJ6_bitCount_0f7a4_3 : decode cJ6_bitCount_0f7a4 3 = .ok (.iushr, 1) := by decide +kernel
theorem dJ6_bitCount_0f7a4_4 : decode cJ6_bitCount_0f7a4 4 = .ok (.ldc_w 265, 3) := by decide +kernel
theorem dJ6_bitCount_0f7a4_7 : decode cJ6_bitCount_0f7a4 7 = .ok (.iand, 1) := by decide +kernel
theorem dJ6_bitCount_0f7a4_8 : decode cJ6_bitCount_0f7a4 8 = .ok (.isub, 1) := by decide +kernel
theorem dJ6_bitCount_0f7a4_9 : decode cJ6_bitCount_0f7a4 9 = .ok (.istore_n 0, 1) := by decide +kernel
theorem dJ6_bitCount_0f7a4_10 : decode cJ6_bitCount_0f7a4 10 = .ok (.iload_n 0, 1) := by decide +kernel
theorem dJ6_bitCount_0f7a4_11 : decode cJ6_bitCount_0f7a4 11 = .ok (.ldc_w 266, 3) := by decide +kernel
theorem dJ6_bitCount_0f7a4_14 : decode cJ6_bitCount_0f7a4 14 = .ok (.iand, 1) := by decide +kernel
theorem dJ6_bitCount_0f7a4_15 : decode cJ6_bitCount_0f7a4 15 = .ok (.iload_n 0, 1) := by decide +kernel
theorem dJ6_bitCount_0f7a4_16 : decode cJ6_bitCount_0f7a4 16 = .ok (.iconst 2, 1) := by decide +kernel
theorem dJ6_bitCount_0f7a4_17 : decode cJ6_bitCount_0f7a4 17 = .ok (.iushr, 1) := by decide +kernel
theorem dJ6_bitCount_0f7a4_18 : decode cJ6_bitCount_0f7a4 18 = .ok (.ldc_w 266, 3) := by decide +kernel
theorem dJ6_bitCount_0f7a4_21 : decode cJ6_bitCount_0f7a4 21 = .ok (.iand, 1) := by decide +kernel
theorem dJ6_bitCount_0f7a4_22 : decode cJ6_bitCount_0f7a4 22 = .ok (.iadd, 1) := by decide +kernel
theorem dJ6_bitCount_0f7a4_23 : decode cJ6_bitCount_0f7a4 23 = .ok (.istore_n 0, 1) := by decide +kernel
theorem dJ6_bitCount_0f7a4_24 : decode cJ6_bitCount_0f7a4 24 = .ok (.iload_n 0, 1) := by decide +kernel
theorem dJ6_bitCount_0f7a4_25 : decode cJ6_bitCount_0f7a4 25 = .ok (.iload_n 0, 1) := by decide +kernel
theorem dJ6_bitCount_0f7a4_26 : decode cJ6_bitCount_0f7a4 26 = .ok (.iconst 4, 1) := by decide +kernel
theorem dJ6_bitCount_0f7a4_27 : decode cJ6_bitCount_0f7a4 27 = .ok (.iushr, 1) := by decide +kernel
theorem dJ6_bitCount_0f7a4_28 : decode cJ6_bitCount_0f7a4 28 = .ok (.iadd, 1) := by decide +kernel
theorem dJ6_bitCount_0f7a4_29 : decode cJ6_bitCount_0f7a4 29 = .ok (.ldc_w 267, 3) := by decide +kernel
theorem dJ6_bitCount_0f7a4_32 : decode cJ6_bitCount_0f7a4 32 = .ok (.iand, 1) := by decide +kernel
theorem dJ6_bitCount_0f7a4_33 : decode cJ6_bitCount_0f7a4 33 = .ok (.istore_n 0, 1) := by decide +kernel
theorem dJ6_bitCount_0f7a4_34 : decode cJ6_bitCount_0f7a4 34 = .ok (.iload_n 0, 1) := by decide +kernel
theorem dJ6_bitCount_0f7a4_35 : decode cJ6_bitCount_0f7a4 35 = .ok (.iload_n 0, 1) := by decide +kernel
theorem dJ6_bitCount_0f7a4_36 : decode cJ6_bitCount_0f7a4 36 = .ok (.bipush 8, 2) := by decide +kernel
theorem dJ6_bitCount_0f7a4_38 : decode cJ6_bitCount_0f7a4 38 = .ok (.iushr, 1) := by decide +kernel
theorem dJ6_bitCount_0f7a4_39 : decode cJ6_bitCount_0f7a4 39 = .ok (.iadd, 1) := by decide +kernel
theorem dJ6_bitCount_0f7a4_40 : decode cJ6_bitCount_0f7a4 40 = .ok (.istore_n 0, 1) := by decide +kernel
theorem dJ6_bitCount_0f7a4_41 : decode cJ6_bitCount_0f7a4 41 = .ok (.iload_n 0, 1) := by decide +kernel
theorem dJ6_bitCount_0f7a4_42 : decode cJ6_bitCount_0f7a4 42 = .ok (.iload_n 0, 1) := by decide +kernel
theorem dJ6_bitCount_0f7a4_43 : decode cJ6_bitCount_0f7a4 43 = .ok (.bipush 16, 2) := by decide +kernel
theorem dJ6_bitCount_0f7a4_45 : decode cJ6_bitCount_0f7a4 45 = .ok (.iushr, 1) := by decide +kernel
theorem dJ6_bitCount_0f7a4_46 : decode cJ6_bitCount_0f7a4 46 = .ok (.iadd, 1) := by decide +kernel
theorem dJ6_bitCount_0f7a4_47 : decode cJ6_bitCount_0f7a4 47 = .ok (.istore_n 0, 1) := by decide +kernel
theorem dJ6_bitCount_0f7a4_48 : decode cJ6_bitCount_0f7a4 48 = .ok (.iload_n 0, 1) := by decide +kernel
theorem dJ6_bitCount_0f7a4_49 : decode cJ6_bitCount_0f7a4 49 = .ok (.bipush 63, 2) := by decide +kernel
theorem dJ6_bitCount_0f7a4_51 : decode cJ6_bitCount_0f7a4 51 = .ok (.iand, 1) := by decide +kernel
theorem dJ6_bitCount_0f7a4_52 : decode cJ6_bitCount_0f7a4 52 = .ok (.ireturn, 1) := by decide +kernel
def wsPJ6_bitCount_0f7a4 : List Cond := .code yJ6_bitCount_0f7a4 cJ6_bitCount_0f7a4 1 (some .int) :: ([.constant RJ6 265 1431655765, .constant RJ6 266 858993459, .constant RJ6 267 252645135])
set_option maxHeartbeats 4000000 in
set_option maxRecDepth 100000 in
/-- Integer.bitCount -/
theorem p_J6_bitCount_0f7a4 (l : Launch) (dC : Nat → ClassId) (dI : Nat → Nat → Nat) (qa : Int32) (sz : Nat) : Met l yJ6_bitCount_0f7a4 wsPJ6_bitCount_0f7a4 ({ frames := 0, cells := 0, slots := 0, locals := 0 }) (va_Pc [.int qa] (fun U => U.heap.size = sz ∧ va_P (dC, dI) vwCl [] U.heap ∧ va_K (dC, dI) vwCl [] U ∧ va_D (fun _ => True) [])) (va_Qi (fun (r : Int32) (u : Unit) => r = (bcE qa)) (fun (u : Unit) t => va_P (dC, dI) vwCl [] t.heap ∧ va_K (dC, dI) vwCl [] t ∧ va_D (va_A [] sz) []) (va_A [] sz)) 0 0 (va_A [] sz) := by
  refine Met.ofW (cc := cJ6_bitCount_0f7a4) (maxL := 1) (ret := (some .int)) (by decide) rfl ?_
  intro p e s m args below meth c s₁ B hml hv
  obtain ⟨rfl, hsz, hP, hK, hD0⟩ := hv
  have hx := B.exec
  have hb := B.bytes
  have hr := B.returns
  have hts := atoms_spec (ws := wsPJ6_bitCount_0f7a4) B.pre
  have hown : s.vm.findClass RJ6 = some m.cls := findClass_of_methodNamed B.named
  have hlocks := B.notSynchronized
  subst hsz
  have hD := hD0.self (sz := s.heap.size)
  generalize hAe : va_A [] s.heap.size = A at hD ⊢
  have hA : ∀ q : Nat, s.heap.size ≤ q → A q := fun q h => by rw [← hAe]; exact Or.inr h
  have hS : va_S A s.heap s.heap [] := va_S.rf
  have hP : va_P (dC, dI) vwCl [] s.heap := hP
  have hl := lv_entry ([.int qa]) (n := 1) (Nat.le_of_ble_eq_true rfl)
  rw [lg_entry_eq]
  generalize (lg_sl ([.int qa]) ++ List.replicate (1 - (lg_sl ([.int qa])).length) Slot.unset).toArray = ls at hl ⊢
  have hl : lv_has ls 1 [(0, .int qa)] := hl
  refine lv_iload_n hx hb dJ6_bitCount_0f7a4_0 rfl (lv_at hl 0 rfl) ?_
  refine lv_iload_n hx hb dJ6_bitCount_0f7a4_1 rfl (lv_at hl 0 rfl) ?_
  refine lv_iconst (v := 1) hx hb dJ6_bitCount_0f7a4_2 (by decide) ?_
  refine lv_iushr hx hb dJ6_bitCount_0f7a4_3 rfl ?_
  refine lv_ldcw (v := 1431655765) hx hb hown (hts (.constant RJ6 265 1431655765) (by decide +kernel)) dJ6_bitCount_0f7a4_4 ?_
  refine lv_iand hx hb dJ6_bitCount_0f7a4_7 ?_
  refine lv_isub hx hb dJ6_bitCount_0f7a4_8 ?_
  refine lv_topi (fun y1 hy1 => ?_)
  obtain rfl : (bc1 qa) = y1 := (hy1.trans (rfl)).symm
  refine lv_istore_n (lv' := [(0, .int (bc1 qa))]) hx hb dJ6_bitCount_0f7a4_9 rfl hl (by decide) rfl (fun ls hl => ?_)
  refine lv_iload_n hx hb dJ6_bitCount_0f7a4_10 rfl (lv_at hl 0 rfl) ?_
  refine lv_ldcw (v := 858993459) hx hb hown (hts (.constant RJ6 266 858993459) (by decide +kernel)) dJ6_bitCount_0f7a4_11 ?_
  refine lv_iand hx hb dJ6_bitCount_0f7a4_14 ?_
  refine lv_iload_n hx hb dJ6_bitCount_0f7a4_15 rfl (lv_at hl 0 rfl) ?_
  refine lv_iconst (v := 2) hx hb dJ6_bitCount_0f7a4_16 (by decide) ?_
  refine lv_iushr hx hb dJ6_bitCount_0f7a4_17 rfl ?_
  refine lv_ldcw (v := 858993459) hx hb hown (hts (.constant RJ6 266 858993459) (by decide +kernel)) dJ6_bitCount_0f7a4_18 ?_
  refine lv_iand hx hb dJ6_bitCount_0f7a4_21 ?_
  refine lv_iadd hx hb dJ6_bitCount_0f7a4_22 ?_
  refine lv_topi (fun y2 hy2 => ?_)
  obtain rfl : (bc2 (bc1 qa)) = y2 := (hy2.trans (rfl)).symm
  refine lv_istore_n (lv' := [(0, .int (bc2 (bc1 qa)))]) hx hb dJ6_bitCount_0f7a4_23 rfl hl (by decide) rfl (fun ls hl => ?_)
  refine lv_iload_n hx hb dJ6_bitCount_0f7a4_24 rfl (lv_at hl 0 rfl) ?_
  refine lv_iload_n hx hb dJ6_bitCount_0f7a4_25 rfl (lv_at hl 0 rfl) ?_
  refine lv_iconst (v := 4) hx hb dJ6_bitCount_0f7a4_26 (by decide) ?_
  refine lv_iushr hx hb dJ6_bitCount_0f7a4_27 rfl ?_
  refine lv_iadd hx hb dJ6_bitCount_0f7a4_28 ?_
  refine lv_ldcw (v := 252645135) hx hb hown (hts (.constant RJ6 267 252645135) (by decide +kernel)) dJ6_bitCount_0f7a4_29 ?_
  refine lv_iand hx hb dJ6_bitCount_0f7a4_32 ?_
  refine lv_topi (fun y3 hy3 => ?_)
  obtain rfl : (bc3 (bc2 (bc1 qa))) = y3 := (hy3.trans (rfl)).symm
  refine lv_istore_n (lv' := [(0, .int (bc3 (bc2 (bc1 qa))))]) hx hb dJ6_bitCount_0f7a4_33 rfl hl (by decide) rfl (fun ls hl => ?_)
  refine lv_iload_n hx hb dJ6_bitCount_0f7a4_34 rfl (lv_at hl 0 rfl) ?_
  refine lv_iload_n hx hb dJ6_bitCount_0f7a4_35 rfl (lv_at hl 0 rfl) ?_
  refine lv_bipush (v := 8) hx hb dJ6_bitCount_0f7a4_36 (by decide) ?_
  refine lv_iushr hx hb dJ6_bitCount_0f7a4_38 rfl ?_
  refine lv_iadd hx hb dJ6_bitCount_0f7a4_39 ?_
  refine lv_topi (fun y4 hy4 => ?_)
  obtain rfl : (bc4 (bc3 (bc2 (bc1 qa)))) = y4 := (hy4.trans (rfl)).symm
  refine lv_istore_n (lv' := [(0, .int (bc4 (bc3 (bc2 (bc1 qa)))))]) hx hb dJ6_bitCount_0f7a4_40 rfl hl (by decide) rfl (fun ls hl => ?_)
  refine lv_iload_n hx hb dJ6_bitCount_0f7a4_41 rfl (lv_at hl 0 rfl) ?_
  refine lv_iload_n hx hb dJ6_bitCount_0f7a4_42 rfl (lv_at hl 0 rfl) ?_
  refine lv_bipush (v := 16) hx hb dJ6_bitCount_0f7a4_43 (by decide) ?_
  refine lv_iushr hx hb dJ6_bitCount_0f7a4_45 rfl ?_
  refine lv_iadd hx hb dJ6_bitCount_0f7a4_46 ?_
  refine lv_topi (fun y5 hy5 => ?_)
  obtain rfl : (bc5 (bc4 (bc3 (bc2 (bc1 qa))))) = y5 := (hy5.trans (rfl)).symm
  refine lv_istore_n (lv' := [(0, .int (bc5 (bc4 (bc3 (bc2 (bc1 qa))))))]) hx hb dJ6_bitCount_0f7a4_47 rfl hl (by decide) rfl (fun ls hl => ?_)
  refine lv_iload_n hx hb dJ6_bitCount_0f7a4_48 rfl (lv_at hl 0 rfl) ?_
  refine lv_bipush (v := 63) hx hb dJ6_bitCount_0f7a4_49 (by decide) ?_
  refine lv_iand hx hb dJ6_bitCount_0f7a4_51 ?_
  refine lv_topi (fun y6 hy6 => ?_)
  obtain rfl : (bcE qa) = y6 := (hy6.trans (rfl)).symm
  refine W.widen (k := 0) (n := 0) (by decide +kernel) (by decide +kernel) ?_
  exact W.iret (v := (bcE qa)) hx hb hr (fun t ht hW => ⟨⟨(bcE qa), (), rfl, by (first | rfl | assumption | trivial | omega | (simp []; done) | (simp; omega)), by rw [ht]; exact hP.sub [] rfl, va_K.moved hW.alike (hK.sub [] rfl), hD.sub [] (by decide) rfl⟩, hS.F ht⟩) hS.2.2 dJ6_bitCount_0f7a4_52
theorem dX2_takeStops_0 : decode cX2_takeStops 0 = .ok (.aload_n 0, 1) := by decide +kernel
theorem dX2_takeStops_1 : decode cX2_takeStops 1 = .ok (.iconst 0, 1) := by decide +kernel
theorem dX2_takeStops_2 : decode cX2_takeStops 2 = .ok (.putfield 98, 3) := by decide +kernel
theorem dX2_takeStops_5 : decode cX2_takeStops 5 = .ok (.iconst 0, 1) := by decide +kernel
theorem dX2_takeStops_6 : decode cX2_takeStops 6 = .ok (.istore_n 2, 1) := by decide +kernel
theorem dX2_takeStops_7 : decode cX2_takeStops 7 = .ok (.iload_n 2, 1) := by decide +kernel
theorem dX2_takeStops_8 : decode cX2_takeStops 8 = .ok (.bipush 12, 2) := by decide +kernel
theorem dX2_takeStops_10 : decode cX2_takeStops 10 = .ok (.if_icmp .ge 46, 3) := by decide +kernel
theorem dX2_takeStops_13 : decode cX2_takeStops 13 = .ok (.aload_n 0, 1) := by decide +kernel
theorem dX2_takeStops_14 : decode cX2_takeStops 14 = .ok (.getfield 98, 3) := by decide +kernel
theorem dX2_takeStops_17 : decode cX2_takeStops 17 = .ok (.bipush 8, 2) := by decide +kernel
theorem dX2_takeStops_19 : decode cX2_takeStops 19 = .ok (.if_icmp .ge 37, 3) := by decide +kernel
theorem dX2_takeStops_22 : decode cX2_takeStops 22 = .ok (.iload_n 1, 1) := by decide +kernel
theorem dX2_takeStops_23 : decode cX2_takeStops 23 = .ok (.iload_n 2, 1) := by decide +kernel
theorem dX2_takeStops_24 : decode cX2_takeStops 24 = .ok (.ishr, 1) := by decide +kernel
theorem dX2_takeStops_25 : decode cX2_takeStops 25 = .ok (.iconst 1, 1) := by decide +kernel
theorem dX2_takeStops_26 : decode cX2_takeStops 26 = .ok (.iand, 1) := by decide +kernel
theorem dX2_takeStops_27 : decode cX2_takeStops 27 = .ok (.ifCond .eq 23, 3) := by decide +kernel
theorem dX2_takeStops_30 : decode cX2_takeStops 30 = .ok (.aload_n 0, 1) := by decide +kernel
theorem dX2_takeStops_31 : decode cX2_takeStops 31 = .ok (.getfield 36, 3) := by decide +kernel
theorem dX2_takeStops_34 : decode cX2_takeStops 34 = .ok (.aload_n 0, 1) := by decide +kernel
theorem dX2_takeStops_35 : decode cX2_takeStops 35 = .ok (.getfield 98, 3) := by decide +kernel
theorem dX2_takeStops_38 : decode cX2_takeStops 38 = .ok (.iload_n 2, 1) := by decide +kernel
theorem dX2_takeStops_39 : decode cX2_takeStops 39 = .ok (.iastore, 1) := by decide +kernel
theorem dX2_takeStops_40 : decode cX2_takeStops 40 = .ok (.aload_n 0, 1) := by decide +kernel
theorem dX2_takeStops_41 : decode cX2_takeStops 41 = .ok (.dup, 1) := by decide +kernel
theorem dX2_takeStops_42 : decode cX2_takeStops 42 = .ok (.getfield 98, 3) := by decide +kernel
theorem dX2_takeStops_45 : decode cX2_takeStops 45 = .ok (.iconst 1, 1) := by decide +kernel
theorem dX2_takeStops_46 : decode cX2_takeStops 46 = .ok (.iadd, 1) := by decide +kernel
theorem dX2_takeStops_47 : decode cX2_takeStops 47 = .ok (.putfield 98, 3) := by decide +kernel
theorem dX2_takeStops_50 : decode cX2_takeStops 50 = .ok (.iinc 2 1, 3) := by decide +kernel
theorem dX2_takeStops_53 : decode cX2_takeStops 53 = .ok (.goto (-46), 3) := by decide +kernel
theorem dX2_takeStops_56 : decode cX2_takeStops 56 = .ok (.return_, 1) := by decide +kernel
def wsPX2_takeStops : List Cond := .code yX2_takeStops cX2_takeStops 3 none :: ([.fieldLink RX2 98 "OptimaWorks$NetDesk" "stops" "I", .fieldLink RX2 36 "OptimaWorks$NetDesk" "stop" "[I"] ++ wsX20)
theorem iwsPX2_takeStops_in2 : ∀ w ∈ wsX20, w ∈ wsPX2_takeStops := fun _ h => List.mem_cons_of_mem _ (List.mem_append_right _ h)
set_option maxHeartbeats 4000000 in
set_option maxRecDepth 100000 in
/-- takeStops(nodes) -/
theorem p_X2_takeStops (l : Launch) (dC : Nat → ClassId) (dI : Nat → Nat → Nat) (d0 : Nat) (bb : Nat → Nat) (kd : Nat → ClassId) (gs : Nat → Int32) (nn : Nat) (hn : nn < 4096) (hc2 : 2 ≤ cnt nn 12) (hc8 : cnt nn 12 ≤ 8) (sz : Nat) : Met l yX2_takeStops wsPX2_takeStops ({ frames := 0, cells := 0, slots := 0, locals := 0 }) (va_Pc [.ref d0, .int (nI nn)] (fun U => U.heap.size = sz ∧ va_P (dC, dI) vwCl [(d0, .inr (2, [.int 0, .ref (bb 0), .ref (bb 1), .ref (bb 2), .ref (bb 3), .int 0, .ref (bb 4), .ref (bb 5), .ref (bb 6), .ref (bb 7), .ref (bb 8), .int 0, .ref (bb 9), .ref (bb 10)])), ((bb 8), .inl ((kd 8), 8, .inl gs))] U.heap ∧ va_K (dC, dI) vwCl [((kd 8), .int)] U ∧ va_D (fun _ => True) [(d0, .inr (2, [.int 0, .ref (bb 0), .ref (bb 1), .ref (bb 2), .ref (bb 3), .int 0, .ref (bb 4), .ref (bb 5), .ref (bb 6), .ref (bb 7), .ref (bb 8), .int 0, .ref (bb 9), .ref (bb 10)])), ((bb 8), .inl ((kd 8), 8, .inl gs))])) (va_Qv (fun (u : Nat) => (1 ≤ u ∧ u ≤ 8)) (fun (u : Nat) t => va_P (dC, dI) vwCl [(d0, .inr (2, [.int 0, .ref (bb 0), .ref (bb 1), .ref (bb 2), .ref (bb 3), .int 0, .ref (bb 4), .ref (bb 5), .ref (bb 6), .ref (bb 7), .ref (bb 8), .int (nI u), .ref (bb 9), .ref (bb 10)]))] t.heap ∧ va_K (dC, dI) vwCl [] t ∧ va_D (va_A [(d0, .inr (2, [.int 0, .ref (bb 0), .ref (bb 1), .ref (bb 2), .ref (bb 3), .int 0, .ref (bb 4), .ref (bb 5), .ref (bb 6), .ref (bb 7), .ref (bb 8), .int 0, .ref (bb 9), .ref (bb 10)])), ((bb 8), .inl ((kd 8), 8, .inl gs))] sz) [(d0, .inr (2, [.int 0, .ref (bb 0), .ref (bb 1), .ref (bb 2), .ref (bb 3), .int 0, .ref (bb 4), .ref (bb 5), .ref (bb 6), .ref (bb 7), .ref (bb 8), .int (nI u), .ref (bb 9), .ref (bb 10)]))]) (va_A [(d0, .inr (2, [.int 0, .ref (bb 0), .ref (bb 1), .ref (bb 2), .ref (bb 3), .int 0, .ref (bb 4), .ref (bb 5), .ref (bb 6), .ref (bb 7), .ref (bb 8), .int 0, .ref (bb 9), .ref (bb 10)])), ((bb 8), .inl ((kd 8), 8, .inl gs))] sz)) 0 0 (va_A [(d0, .inr (2, [.int 0, .ref (bb 0), .ref (bb 1), .ref (bb 2), .ref (bb 3), .int 0, .ref (bb 4), .ref (bb 5), .ref (bb 6), .ref (bb 7), .ref (bb 8), .int 0, .ref (bb 9), .ref (bb 10)])), ((bb 8), .inl ((kd 8), 8, .inl gs))] sz) := by
  refine Met.ofW (cc := cX2_takeStops) (maxL := 3) (ret := none) (by decide) rfl ?_
  intro p e s m args below meth c s₁ B hml hv
  obtain ⟨rfl, hsz, hP, hK, hD0⟩ := hv
  have hx := B.exec
  have hb := B.bytes
  have hr := B.returns
  have hts := atoms_spec (ws := wsPX2_takeStops) B.pre
  have hown : s.vm.findClass RX2 = some m.cls := findClass_of_methodNamed B.named
  have hlocks := B.notSynchronized
  subst hsz
  have hD := hD0.self (sz := s.heap.size)
  generalize hAe : va_A [(d0, .inr (2, [.int 0, .ref (bb 0), .ref (bb 1), .ref (bb 2), .ref (bb 3), .int 0, .ref (bb 4), .ref (bb 5), .ref (bb 6), .ref (bb 7), .ref (bb 8), .int 0, .ref (bb 9), .ref (bb 10)])), ((bb 8), .inl ((kd 8), 8, .inl gs))] s.heap.size = A at hD ⊢
  have hA : ∀ q : Nat, s.heap.size ≤ q → A q := fun q h => by rw [← hAe]; exact Or.inr h
  have hS : va_S A s.heap s.heap [] := va_S.rf
  have hP : va_P (dC, dI) vwCl [(d0, .inr (2, [.int 0, .ref (bb 0), .ref (bb 1), .ref (bb 2), .ref (bb 3), .int 0, .ref (bb 4), .ref (bb 5), .ref (bb 6), .ref (bb 7), .ref (bb 8), .int 0, .ref (bb 9), .ref (bb 10)])), ((bb 8), .inl ((kd 8), 8, .inl gs))] s.heap := hP
  have hl := lv_entry ([.ref d0, .int (nI nn)]) (n := 3) (Nat.le_of_ble_eq_true rfl)
  rw [lg_entry_eq]
  generalize (lg_sl ([.ref d0, .int (nI nn)]) ++ List.replicate (3 - (lg_sl ([.ref d0, .int (nI nn)])).length) Slot.unset).toArray = ls at hl ⊢
  have hl : lv_has ls 3 [(0, .ref d0), (1, .int (nI nn))] := hl
  refine lv_aload_n hx hb dX2_takeStops_0 rfl (lv_at hl 0 rfl) ?_
  refine lv_iconst (v := 0) hx hb dX2_takeStops_1 (by decide) ?_
  refine va_put (D := (dC, dI)) (ci := 2) (v := .int 0) (ty := .int) (C := RX2) (T := TX2) (N := 14) hx hb hts iwsPX2_takeStops_in2 tyX2 tyX2_ok nmX2 hown hK hP hD hS 0 rfl rfl 11 (by decide) (hts (.fieldLink RX2 98 "OptimaWorks$NetDesk" "stops" "I") (by decide +kernel)) (fun _ h9 => h9) rfl (by decide +kernel) rfl rfl (Nat.le_of_ble_eq_true rfl) dX2_takeStops_2 (fun H locs hP hD hS => ?_)
  have hP : va_P (dC, dI) vwCl [(d0, .inr (2, [.int 0, .ref (bb 0), .ref (bb 1), .ref (bb 2), .ref (bb 3), .int 0, .ref (bb 4), .ref (bb 5), .ref (bb 6), .ref (bb 7), .ref (bb 8), .int 0, .ref (bb 9), .ref (bb 10)])), ((bb 8), .inl ((kd 8), 8, .inl gs))] H := hP
  have hD : va_D A [(d0, .inr (2, [.int 0, .ref (bb 0), .ref (bb 1), .ref (bb 2), .ref (bb 3), .int 0, .ref (bb 4), .ref (bb 5), .ref (bb 6), .ref (bb 7), .ref (bb 8), .int 0, .ref (bb 9), .ref (bb 10)])), ((bb 8), .inl ((kd 8), 8, .inl gs))] := hD
  refine lv_iconst (v := 0) hx hb dX2_takeStops_5 (by decide) ?_
  refine lv_istore_n (lv' := [(2, .int 0), (0, .ref d0), (1, .int (nI nn))]) hx hb dX2_takeStops_6 rfl hl (by decide) rfl (fun ls hl => ?_)
  have hl := lv_sub hl [0, 1, 2] (l' := [(2, .int (nI 0)), (0, .ref d0), (1, .int (nI nn))]) rfl
  refine (fun (loop : ∀ (n9 : Nat) (i : Nat) (K : Nat) (g : Nat → Int32) (H : Heap) (locs : List Loc) (ls : Array Slot), (i ≤ 12) → (K = cnt nn i) → (K ≤ 8) →  (12 < i + n9) → va_P (dC, dI) vwCl [(d0, .inr (2, [.int 0, .ref (bb 0), .ref (bb 1), .ref (bb 2), .ref (bb 3), .int 0, .ref (bb 4), .ref (bb 5), .ref (bb 6), .ref (bb 7), .ref (bb 8), .int (nI K), .ref (bb 9), .ref (bb 10)])), ((bb 8), .inl ((kd 8), 8, .inl g))] H → va_D A [(d0, .inr (2, [.int 0, .ref (bb 0), .ref (bb 1), .ref (bb 2), .ref (bb 3), .int 0, .ref (bb 4), .ref (bb 5), .ref (bb 6), .ref (bb 7), .ref (bb 8), .int (nI K), .ref (bb 9), .ref (bb 10)])), ((bb 8), .inl ((kd 8), 8, .inl g))] → va_S A s.heap H locs → lv_has ls 3 [(2, .int (nI i)), (0, .ref d0), (1, .int (nI nn))] → W p l e _ s m _ below meth c H locs 0 0 _ (F0 m 7 ls [])) => loop (13) 0 0 gs _ _ _ (by omega) (rfl) (by omega) (by omega) hP hD hS hl) ?_
  intro n9
  induction n9 with
  | zero => intro i K g H locs ls hi hKq hK8 hf9; exact False.elim (by omega)
  | succ n9 ih7 =>
    intro i K g H locs ls hi hKq hK8 hf7 hP hD hS hl
    refine lv_iload_n hx hb dX2_takeStops_7 rfl (lv_at hl 0 rfl) ?_
    refine lv_bipush (v := 12) hx hb dX2_takeStops_8 (by decide) ?_
    refine lv_icmp_ge (tgt := 56) hx hb dX2_takeStops_10 (by decide) (fun c_10 => ?_) (fun c_10 => ?_)
    · have t_10 : ((i : Nat) : Int) ≥ 12 := toI_ge c_10 (nI_toInt (by omega)) (by decide)
      refine W.widen (k := 0) (n := 0) (by decide +kernel) (by decide +kernel) ?_
      exact W.vret hx hb hr (fun t ht hW => ⟨⟨K, rfl, by (try dsimp only); first | omega | (have e9 : i = 12 := (by omega); subst e9; omega), by rw [ht]; exact hP.sub [0] rfl, va_K.moved hW.alike (hK.sub [] rfl), hD.sub [0] (by decide) rfl⟩, hS.F ht⟩) hS.2.2 dX2_takeStops_56
    · have t_10 : ¬ ((i : Nat) : Int) ≥ 12 := toI_nge c_10 (nI_toInt (by omega)) (by decide)
      refine lv_aload_n hx hb dX2_takeStops_13 rfl (lv_at hl 1 rfl) ?_
      refine va_get (D := (dC, dI)) (ci := 2) (v := .int (nI K)) (C := RX2) (T := TX2) (N := 14) hx hb hts iwsPX2_takeStops_in2 hown hK hP 0 rfl rfl 11 (by decide) (hts (.fieldLink RX2 98 "OptimaWorks$NetDesk" "stops" "I") (by decide +kernel)) (fun _ h9 => h9) rfl dX2_takeStops_14 ?_
      refine lv_bipush (v := 8) hx hb dX2_takeStops_17 (by decide) ?_
      refine lv_icmp_ge (tgt := 56) hx hb dX2_takeStops_19 (by decide) (fun c_19 => ?_) (fun c_19 => ?_)
      · have t_19 : ((K : Nat) : Int) ≥ 8 := toI_ge c_19 (nI_toInt (by omega)) (by decide)
        refine W.widen (k := 0) (n := 0) (by decide +kernel) (by decide +kernel) ?_
        exact W.vret hx hb hr (fun t ht hW => ⟨⟨K, rfl, by (try dsimp only); first | omega | (have e9 : i = 12 := (by omega); subst e9; omega), by rw [ht]; exact hP.sub [0] rfl, va_K.moved hW.alike (hK.sub [] rfl), hD.sub [0] (by decide) rfl⟩, hS.F ht⟩) hS.2.2 dX2_takeStops_56
      · have t_19 : ¬ ((K : Nat) : Int) ≥ 8 := toI_nge c_19 (nI_toInt (by omega)) (by decide)
        refine lv_iload_n hx hb dX2_takeStops_22 rfl (lv_at hl 2 rfl) ?_
        refine lv_iload_n hx hb dX2_takeStops_23 rfl (lv_at hl 0 rfl) ?_
        refine lv_ishr hx hb dX2_takeStops_24 ?_
        refine lv_iconst (v := 1) hx hb dX2_takeStops_25 (by decide) ?_
        refine lv_iand hx hb dX2_takeStops_26 ?_
        refine lv_topi (fun y1 hy1 => ?_)
        obtain rfl : (nI (nn / 2 ^ i % 2)) = y1 := (hy1.trans (shr_bit (by omega) (by omega))).symm
        refine lv_if_eq (tgt := 50) hx hb dX2_takeStops_27 (by decide) (fun c_27 => ?_) (fun c_27 => ?_)
        · have t_27 : (((nn / 2 ^ i % 2) : Nat) : Int) = 0 := toI_eq c_27 (nI_toInt (by omega)) (by decide)
          refine lv_iinc (v := (nI (i + 1))) (lv' := [(2, .int (nI (i + 1))), (0, .ref d0), (1, .int (nI nn))]) hx hb dX2_takeStops_50 hl (k := 0) rfl (nI_add i 1) (by decide) rfl (fun ls hl => ?_)
          refine lv_goto (tgt := 7) hx hb dX2_takeStops_53 (by decide) ?_
          have hl := lv_sub hl [0, 1, 2] (l' := [(2, .int (nI (i + 1))), (0, .ref d0), (1, .int (nI nn))]) rfl
          exact ih7 (i + 1) K g _ _ _ (by omega) (by rw [cnt_succ]; omega) (by omega) (by omega) hP hD hS hl
        · have t_27 : ¬ (((nn / 2 ^ i % 2) : Nat) : Int) = 0 := toI_neq c_27 (nI_toInt (by omega)) (by decide)
          refine lv_aload_n hx hb dX2_takeStops_30 rfl (lv_at hl 1 rfl) ?_
          refine va_get (D := (dC, dI)) (ci := 2) (v := .ref (bb 8)) (C := RX2) (T := TX2) (N := 14) hx hb hts iwsPX2_takeStops_in2 hown hK hP 0 rfl rfl 10 (by decide) (hts (.fieldLink RX2 36 "OptimaWorks$NetDesk" "stop" "[I") (by decide +kernel)) (fun _ h9 => h9) rfl dX2_takeStops_31 ?_
          refine lv_aload_n hx hb dX2_takeStops_34 rfl (lv_at hl 1 rfl) ?_
          refine va_get (D := (dC, dI)) (ci := 2) (v := .int (nI K)) (C := RX2) (T := TX2) (N := 14) hx hb hts iwsPX2_takeStops_in2 hown hK hP 0 rfl rfl 11 (by decide) (hts (.fieldLink RX2 98 "OptimaWorks$NetDesk" "stops" "I") (by decide +kernel)) (fun _ h9 => h9) rfl dX2_takeStops_35 ?_
          refine lv_iload_n hx hb dX2_takeStops_38 rfl (lv_at hl 0 rfl) ?_
          refine va_iast hx hb hK hP hD hS 1 0 rfl rfl (vp_in_nI (show K < 8 by omega) (by omega)) dX2_takeStops_39 (fun H locs hP hD hS => ?_)
          have hP : va_P (dC, dI) vwCl [(d0, .inr (2, [.int 0, .ref (bb 0), .ref (bb 1), .ref (bb 2), .ref (bb 3), .int 0, .ref (bb 4), .ref (bb 5), .ref (bb 6), .ref (bb 7), .ref (bb 8), .int (nI K), .ref (bb 9), .ref (bb 10)])), ((bb 8), .inl ((kd 8), 8, .inl (upd g ((nI K)).toNatClampNeg (nI i))))] H := hP
          have hD : va_D A [(d0, .inr (2, [.int 0, .ref (bb 0), .ref (bb 1), .ref (bb 2), .ref (bb 3), .int 0, .ref (bb 4), .ref (bb 5), .ref (bb 6), .ref (bb 7), .ref (bb 8), .int (nI K), .ref (bb 9), .ref (bb 10)])), ((bb 8), .inl ((kd 8), 8, .inl (upd g ((nI K)).toNatClampNeg (nI i))))] := hD
          refine lv_aload_n hx hb dX2_takeStops_40 rfl (lv_at hl 1 rfl) ?_
          refine lv_dup hx hb dX2_takeStops_41 rfl ?_
          refine va_get (D := (dC, dI)) (ci := 2) (v := .int (nI K)) (C := RX2) (T := TX2) (N := 14) hx hb hts iwsPX2_takeStops_in2 hown hK hP 0 rfl rfl 11 (by decide) (hts (.fieldLink RX2 98 "OptimaWorks$NetDesk" "stops" "I") (by decide +kernel)) (fun _ h9 => h9) rfl dX2_takeStops_42 ?_
          refine lv_iconst (v := 1) hx hb dX2_takeStops_45 (by decide) ?_
          refine lv_iadd hx hb dX2_takeStops_46 ?_
          refine lv_topi (fun y2 hy2 => ?_)
          obtain rfl : (nI (K + 1)) = y2 := (hy2.trans (nI_add K 1)).symm
          refine va_put (D := (dC, dI)) (ci := 2) (v := .int (nI (K + 1))) (ty := .int) (C := RX2) (T := TX2) (N := 14) hx hb hts iwsPX2_takeStops_in2 tyX2 tyX2_ok nmX2 hown hK hP hD hS 0 rfl rfl 11 (by decide) (hts (.fieldLink RX2 98 "OptimaWorks$NetDesk" "stops" "I") (by decide +kernel)) (fun _ h9 => h9) rfl (by decide +kernel) rfl rfl (Nat.le_of_ble_eq_true rfl) dX2_takeStops_47 (fun H locs hP hD hS => ?_)
          have hP : va_P (dC, dI) vwCl [(d0, .inr (2, [.int 0, .ref (bb 0), .ref (bb 1), .ref (bb 2), .ref (bb 3), .int 0, .ref (bb 4), .ref (bb 5), .ref (bb 6), .ref (bb 7), .ref (bb 8), .int (nI (K + 1)), .ref (bb 9), .ref (bb 10)])), ((bb 8), .inl ((kd 8), 8, .inl (upd g ((nI K)).toNatClampNeg (nI i))))] H := hP
          have hD : va_D A [(d0, .inr (2, [.int 0, .ref (bb 0), .ref (bb 1), .ref (bb 2), .ref (bb 3), .int 0, .ref (bb 4), .ref (bb 5), .ref (bb 6), .ref (bb 7), .ref (bb 8), .int (nI (K + 1)), .ref (bb 9), .ref (bb 10)])), ((bb 8), .inl ((kd 8), 8, .inl (upd g ((nI K)).toNatClampNeg (nI i))))] := hD
          refine lv_iinc (v := (nI (i + 1))) (lv' := [(2, .int (nI (i + 1))), (0, .ref d0), (1, .int (nI nn))]) hx hb dX2_takeStops_50 hl (k := 0) rfl (nI_add i 1) (by decide) rfl (fun ls hl => ?_)
          refine lv_goto (tgt := 7) hx hb dX2_takeStops_53 (by decide) ?_
          have hl := lv_sub hl [0, 1, 2] (l' := [(2, .int (nI (i + 1))), (0, .ref d0), (1, .int (nI nn))]) rfl
          exact ih7 (i + 1) (K + 1) (upd g ((nI K)).toNatClampNeg (nI i)) _ _ _ (by omega) (by rw [cnt_succ]; omega) (by omega) (by omega) hP hD hS hl
theorem dX2_takePrices_0 : decode cX2_takePrices 0 = .ok (.aload_n 0, 1) := by decide +kernel
theorem dX2_takePrices_1 : decode cX2_takePrices 1 = .ok (.getfield 39, 3) := by decide +kernel
theorem dX2_takePrices_4 : decode cX2_takePrices 4 = .ok (.ldc 60, 2) := by decide +kernel
theorem dX2_takePrices_6 : decode cX2_takePrices 6 = .ok (.invokestatic 49, 3) := by decide +kernel
theorem dX2_takePrices_9 : decode cX2_takePrices 9 = .ok (.iconst 0, 1) := by decide +kernel
theorem dX2_takePrices_10 : decode cX2_takePrices 10 = .ok (.istore_n 1, 1) := by decide +kernel
theorem dX2_takePrices_11 : decode cX2_takePrices 11 = .ok (.iload_n 1, 1) := by decide +kernel
theorem dX2_takePrices_12 : decode cX2_takePrices 12 = .ok (.aload_n 0, 1) := by decide +kernel
theorem dX2_takePrices_13 : decode cX2_takePrices 13 = .ok (.getfield 98, 3) := by decide +kernel
theorem dX2_takePrices_16 : decode cX2_takePrices 16 = .ok (.if_icmp .ge 102, 3) := by decide +kernel
theorem dX2_takePrices_19 : decode cX2_takePrices 19 = .ok (.iconst 0, 1) := by decide +kernel
theorem dX2_takePrices_20 : decode cX2_takePrices 20 = .ok (.istore_n 2, 1) := by decide +kernel
theorem dX2_takePrices_21 : decode cX2_takePrices 21 = .ok (.iload_n 2, 1) := by decide +kernel
theorem dX2_takePrices_22 : decode cX2_takePrices 22 = .ok (.aload_n 0, 1) := by decide +kernel
theorem dX2_takePrices_23 : decode cX2_takePrices 23 = .ok (.getfield 98, 3) := by decide +kernel
theorem dX2_takePrices_26 : decode cX2_takePrices 26 = .ok (.if_icmp .ge 86, 3) := by decide +kernel
theorem dX2_takePrices_29 : decode cX2_takePrices 29 = .ok (.iconst 0, 1) := by decide +kernel
theorem dX2_takePrices_30 : decode cX2_takePrices 30 = .ok (.istore_n 3, 1) := by decide +kernel
theorem dX2_takePrices_31 : decode cX2_takePrices 31 = .ok (.iload_n 3, 1) := by decide +kernel
theorem dX2_takePrices_32 : decode cX2_takePrices 32 = .ok (.aload_n 0, 1) := by decide +kernel
theorem dX2_takePrices_33 : decode cX2_takePrices 33 = .ok (.getfield 45, 3) := by decide +kernel
theorem dX2_takePrices_36 : decode cX2_takePrices 36 = .ok (.if_icmp .ge 70, 3) := by decide +kernel
theorem dX2_takePrices_106 : decode cX2_takePrices 106 = .ok (.iinc 2 1, 3) := by decide +kernel
theorem dX2_takePrices_109 : decode cX2_takePrices 109 = .ok (.goto (-88), 3) := by decide +kernel
theorem dX2_takePrices_112 : decode cX2_takePrices 112 = .ok (.iinc 1 1, 3) := by decide +kernel
theorem dX2_takePrices_115 : decode cX2_takePrices 115 = .ok (.goto (-104), 3) := by decide +kernel
theorem dX2_takePrices_118 : decode cX2_takePrices 118 = .ok (.return_, 1) := by decide +kernel
def wsPX2_takePrices : List Cond := .code yX2_takePrices cX2_takePrices 4 none :: ([.fieldLink RX2 39 "OptimaWorks$NetDesk" "price" "[I", .constant RX2 60 536870912, .fieldLink RX2 98 "OptimaWorks$NetDesk" "stops" "I", .fieldLink RX2 45 "OptimaWorks$NetDesk" "arcs" "I"] ++ wsX20 ++ (va_wsS RX2 49 yJ7_fill_53178 wsPJ7_fill_53178))
theorem iwsPX2_takePrices_in2 : ∀ w ∈ wsX20, w ∈ wsPX2_takePrices := fun _ h => List.mem_cons_of_mem _ (List.mem_append_left _ (List.mem_append_right _ h))
theorem gwsPX2_takePrices_0 : GoodIn wsPX2_takePrices (va_wsS RX2 49 yJ7_fill_53178 wsPJ7_fill_53178) := goodIn_sub (fun _ h => List.mem_cons_of_mem _ (List.mem_append_right _ h)) (by decide +kernel)
set_option maxHeartbeats 4000000 in
set_option maxRecDepth 100000 in
/-- takePrices() without arcs -/
theorem p_X2_takePrices (l : Launch) (dC : Nat → ClassId) (dI : Nat → Nat → Nat) (d0 : Nat) (bb : Nat → Nat) (kd : Nat → ClassId) (g0 : Nat → Int32) (Kn : Nat) (hKq : Kn ≤ 8) (sz : Nat) : Met l yX2_takePrices wsPX2_takePrices ({ frames := 1, cells := 0, slots := 0, locals := 23 }) (va_Pc [.ref d0] (fun U => U.heap.size = sz ∧ va_P (dC, dI) vwCl [(d0, .inr (2, [.int 0, .ref (bb 0), .ref (bb 1), .ref (bb 2), .ref (bb 3), .int 0, .ref (bb 4), .ref (bb 5), .ref (bb 6), .ref (bb 7), .ref (bb 8), .int (nI Kn), .ref (bb 9), .ref (bb 10)])), ((bb 9), .inl ((kd 9), 64, .inl g0))] U.heap ∧ va_K (dC, dI) vwCl [((kd 9), .int)] U ∧ va_D (fun _ => True) [(d0, .inr (2, [.int 0, .ref (bb 0), .ref (bb 1), .ref (bb 2), .ref (bb 3), .int 0, .ref (bb 4), .ref (bb 5), .ref (bb 6), .ref (bb 7), .ref (bb 8), .int (nI Kn), .ref (bb 9), .ref (bb 10)])), ((bb 9), .inl ((kd 9), 64, .inl g0))])) (va_Qv (fun (u : Nat → Int32) => (∀ j, j < 64 → u j = 536870912)) (fun (u : Nat → Int32) t => va_P (dC, dI) vwCl [(d0, .inr (2, [.int 0, .ref (bb 0), .ref (bb 1), .ref (bb 2), .ref (bb 3), .int 0, .ref (bb 4), .ref (bb 5), .ref (bb 6), .ref (bb 7), .ref (bb 8), .int (nI Kn), .ref (bb 9), .ref (bb 10)])), ((bb 9), .inl ((kd 9), 64, .inl u))] t.heap ∧ va_K (dC, dI) vwCl [] t ∧ va_D (va_A [(d0, .inr (2, [.int 0, .ref (bb 0), .ref (bb 1), .ref (bb 2), .ref (bb 3), .int 0, .ref (bb 4), .ref (bb 5), .ref (bb 6), .ref (bb 7), .ref (bb 8), .int (nI Kn), .ref (bb 9), .ref (bb 10)])), ((bb 9), .inl ((kd 9), 64, .inl g0))] sz) [(d0, .inr (2, [.int 0, .ref (bb 0), .ref (bb 1), .ref (bb 2), .ref (bb 3), .int 0, .ref (bb 4), .ref (bb 5), .ref (bb 6), .ref (bb 7), .ref (bb 8), .int (nI Kn), .ref (bb 9), .ref (bb 10)])), ((bb 9), .inl ((kd 9), 64, .inl u))]) (va_A [(d0, .inr (2, [.int 0, .ref (bb 0), .ref (bb 1), .ref (bb 2), .ref (bb 3), .int 0, .ref (bb 4), .ref (bb 5), .ref (bb 6), .ref (bb 7), .ref (bb 8), .int (nI Kn), .ref (bb 9), .ref (bb 10)])), ((bb 9), .inl ((kd 9), 64, .inl g0))] sz)) 0 0 (va_A [(d0, .inr (2, [.int 0, .ref (bb 0), .ref (bb 1), .ref (bb 2), .ref (bb 3), .int 0, .ref (bb 4), .ref (bb 5), .ref (bb 6), .ref (bb 7), .ref (bb 8), .int (nI Kn), .ref (bb 9), .ref (bb 10)])), ((bb 9), .inl ((kd 9), 64, .inl g0))] sz) := by
  refine Met.ofW (cc := cX2_takePrices) (maxL := 4) (ret := none) (by decide) rfl ?_
  intro p e s m args below meth c s₁ B hml hv
  obtain ⟨rfl, hsz, hP, hK, hD0⟩ := hv
  have hx := B.exec
  have hb := B.bytes
  have hr := B.returns
  have hts := atoms_spec (ws := wsPX2_takePrices) B.pre
  have hown : s.vm.findClass RX2 = some m.cls := findClass_of_methodNamed B.named
  have hlocks := B.notSynchronized
  subst hsz
  have hD := hD0.self (sz := s.heap.size)
  generalize hAe : va_A [(d0, .inr (2, [.int 0, .ref (bb 0), .ref (bb 1), .ref (bb 2), .ref (bb 3), .int 0, .ref (bb 4), .ref (bb 5), .ref (bb 6), .ref (bb 7), .ref (bb 8), .int (nI Kn), .ref (bb 9), .ref (bb 10)])), ((bb 9), .inl ((kd 9), 64, .inl g0))] s.heap.size = A at hD ⊢
  have hA : ∀ q : Nat, s.heap.size ≤ q → A q := fun q h => by rw [← hAe]; exact Or.inr h
  have hS : va_S A s.heap s.heap [] := va_S.rf
  have hP : va_P (dC, dI) vwCl [(d0, .inr (2, [.int 0, .ref (bb 0), .ref (bb 1), .ref (bb 2), .ref (bb 3), .int 0, .ref (bb 4), .ref (bb 5), .ref (bb 6), .ref (bb 7), .ref (bb 8), .int (nI Kn), .ref (bb 9), .ref (bb 10)])), ((bb 9), .inl ((kd 9), 64, .inl g0))] s.heap := hP
  have hl := lv_entry ([.ref d0]) (n := 4) (Nat.le_of_ble_eq_true rfl)
  rw [lg_entry_eq]
  generalize (lg_sl ([.ref d0]) ++ List.replicate (4 - (lg_sl ([.ref d0])).length) Slot.unset).toArray = ls at hl ⊢
  have hl : lv_has ls 4 [(0, .ref d0)] := hl
  refine lv_aload_n hx hb dX2_takePrices_0 rfl (lv_at hl 0 rfl) ?_
  refine va_get (D := (dC, dI)) (ci := 2) (v := .ref (bb 9)) (C := RX2) (T := TX2) (N := 14) hx hb hts iwsPX2_takePrices_in2 hown hK hP 0 rfl rfl 12 (by decide) (hts (.fieldLink RX2 39 "OptimaWorks$NetDesk" "price" "[I") (by decide +kernel)) (fun _ h9 => h9) rfl dX2_takePrices_1 ?_
  refine lv_ldc (v := 536870912) hx hb hown (hts (.constant RX2 60 536870912) (by decide +kernel)) dX2_takePrices_4 ?_
  have hPc := hP.sub (ws' := [((bb 9), .inl ((kd 9), 64, .inl g0))]) [1] rfl
  have hDc := hD.sub (ws' := [((bb 9), .inl ((kd 9), 64, .inl g0))]) [1] (by decide) rfl
  have hKc := hK.sub (tys' := [((kd 9), .int)]) [0] rfl
  have hFc := va_free (wc := [((bb 9), .inl ((kd 9), 64, .inl g0))]) hD hS hA [1] rfl
  refine va_callv (va_runS (As := [.ref (bb 9), .int 536870912]) (rest := []) ⟨hx, hb, hml, hown, hts⟩ (p_J7_fill_53178 l dC dI (bb 9) (kd 9) 64 (by first | omega | decide | assumption | rfl) g0 536870912 s.heap.size) (va_cwS 2 hts gwsPX2_takePrices_0 rfl rfl rfl (by decide +kernel) ⟨by decide +kernel, by decide +kernel⟩) ⟨fun a U g mk q => by obtain ⟨q0, q1, qP, qK, qD⟩ := q; exact ⟨q0, q1, qP, va_K.moved (u := U) (U := U.calling g mk a) (Vm.Alike.refl U.vm) qK, qD⟩, fun U hU9 hW => ⟨rfl, by rw [hU9], by rw [hU9]; exact hPc, va_K.moved hW.alike hKc, hDc.weaken (fun _ _ _ _ => trivial)⟩⟩ rfl rfl hl.1 rfl (lv_room (Nat.le_of_ble_eq_true rfl)) dX2_takePrices_6 ⟨by decide +kernel, by decide +kernel⟩) hS (fun q _ h => hFc q h) hFc (fun u t H1 locs ht hvm hw hB hz1 hk1 hS => ?_)
  obtain ⟨g6, hwit6⟩ : ∃ w9, w9 = u := ⟨u, rfl⟩
  subst hwit6
  obtain ⟨hP1, hK1, hD1⟩ := hB
  rw [ht] at hP1
  have hK1 := va_K.moved hvm.symm hK1
  obtain ⟨hP, hD⟩ := va_join (wr := [(d0, .inr (2, [.int 0, .ref (bb 0), .ref (bb 1), .ref (bb 2), .ref (bb 3), .int 0, .ref (bb 4), .ref (bb 5), .ref (bb 6), .ref (bb 7), .ref (bb 8), .int (nI Kn), .ref (bb 9), .ref (bb 10)]))]) (w1 := [((bb 9), .inl ((kd 9), 64, .inl g6))]) hP hD [1] [0] rfl rfl (by decide) (by decide) hk1 hFc hP1 hD1
  generalize H1 = H at hP hS ⊢
  have hP : va_P (dC, dI) vwCl [(d0, .inr (2, [.int 0, .ref (bb 0), .ref (bb 1), .ref (bb 2), .ref (bb 3), .int 0, .ref (bb 4), .ref (bb 5), .ref (bb 6), .ref (bb 7), .ref (bb 8), .int (nI Kn), .ref (bb 9), .ref (bb 10)])), ((bb 9), .inl ((kd 9), 64, .inl g6))] H := hP
  have hD : va_D A [(d0, .inr (2, [.int 0, .ref (bb 0), .ref (bb 1), .ref (bb 2), .ref (bb 3), .int 0, .ref (bb 4), .ref (bb 5), .ref (bb 6), .ref (bb 7), .ref (bb 8), .int (nI Kn), .ref (bb 9), .ref (bb 10)])), ((bb 9), .inl ((kd 9), 64, .inl g6))] := hD
  have f6_0 := hw
  try dsimp only at f6_0
  refine lv_iconst (v := 0) hx hb dX2_takePrices_9 (by decide) ?_
  refine lv_istore_n (lv' := [(1, .int 0), (0, .ref d0)]) hx hb dX2_takePrices_10 rfl hl (by decide) rfl (fun ls hl => ?_)
  have hl := lv_sub hl [0, 1] (l' := [(1, .int (nI 0)), (0, .ref d0)]) rfl
  refine (fun (loop : ∀ (n9 : Nat) (i : Nat) (H : Heap) (locs : List Loc) (ls : Array Slot), (i ≤ 8) →  (8 < i + n9) → va_P (dC, dI) vwCl [(d0, .inr (2, [.int 0, .ref (bb 0), .ref (bb 1), .ref (bb 2), .ref (bb 3), .int 0, .ref (bb 4), .ref (bb 5), .ref (bb 6), .ref (bb 7), .ref (bb 8), .int (nI Kn), .ref (bb 9), .ref (bb 10)])), ((bb 9), .inl ((kd 9), 64, .inl g6))] H → va_D A [(d0, .inr (2, [.int 0, .ref (bb 0), .ref (bb 1), .ref (bb 2), .ref (bb 3), .int 0, .ref (bb 4), .ref (bb 5), .ref (bb 6), .ref (bb 7), .ref (bb 8), .int (nI Kn), .ref (bb 9), .ref (bb 10)])), ((bb 9), .inl ((kd 9), 64, .inl g6))] → va_S A s.heap H locs → lv_has ls 4 [(1, .int (nI i)), (0, .ref d0)] → W p l e _ s m _ below meth c H locs 0 0 _ (F0 m 11 ls [])) => loop (9) 0 _ _ _ (by omega) (by omega) hP hD hS hl) ?_
  intro n9
  induction n9 with
  | zero => intro i H locs ls hi hf9; exact False.elim (by omega)
  | succ n9 ih11 =>
    intro i H locs ls hi hf11 hP hD hS hl
    refine lv_iload_n hx hb dX2_takePrices_11 rfl (lv_at hl 0 rfl) ?_
    refine lv_aload_n hx hb dX2_takePrices_12 rfl (lv_at hl 1 rfl) ?_
    refine va_get (D := (dC, dI)) (ci := 2) (v := .int (nI Kn)) (C := RX2) (T := TX2) (N := 14) hx hb hts iwsPX2_takePrices_in2 hown hK hP 0 rfl rfl 11 (by decide) (hts (.fieldLink RX2 98 "OptimaWorks$NetDesk" "stops" "I") (by decide +kernel)) (fun _ h9 => h9) rfl dX2_takePrices_13 ?_
    refine lv_icmp_ge (tgt := 118) hx hb dX2_takePrices_16 (by decide) (fun c_16 => ?_) (fun c_16 => ?_)
    · have t_16 : ((i : Nat) : Int) ≥ ((Kn : Nat) : Int) := toI_ge c_16 (nI_toInt (by omega)) (nI_toInt (by omega))
      refine W.widen (k := 0) (n := 0) (by decide +kernel) (by decide +kernel) ?_
      exact W.vret hx hb hr (fun t ht hW => ⟨⟨g6, rfl, f6_0, by rw [ht]; exact hP.sub [0, 1] rfl, va_K.moved hW.alike (hK.sub [] rfl), hD.sub [0, 1] (by decide) rfl⟩, hS.F ht⟩) hS.2.2 dX2_takePrices_118
    · have t_16 : ¬ ((i : Nat) : Int) ≥ ((Kn : Nat) : Int) := toI_nge c_16 (nI_toInt (by omega)) (nI_toInt (by omega))
      refine lv_iconst (v := 0) hx hb dX2_takePrices_19 (by decide) ?_
      refine lv_istore_n (lv' := [(2, .int 0), (1, .int (nI i)), (0, .ref d0)]) hx hb dX2_takePrices_20 rfl hl (by decide) rfl (fun ls hl => ?_)
      have hl := lv_sub hl [0, 1, 2] (l' := [(2, .int (nI 0)), (1, .int (nI i)), (0, .ref d0)]) rfl
      refine (fun (loop : ∀ (n9 : Nat) (j1 : Nat) (H : Heap) (locs : List Loc) (ls : Array Slot), (j1 ≤ 8) →  (8 < j1 + n9) → va_P (dC, dI) vwCl [(d0, .inr (2, [.int 0, .ref (bb 0), .ref (bb 1), .ref (bb 2), .ref (bb 3), .int 0, .ref (bb 4), .ref (bb 5), .ref (bb 6), .ref (bb 7), .ref (bb 8), .int (nI Kn), .ref (bb 9), .ref (bb 10)])), ((bb 9), .inl ((kd 9), 64, .inl g6))] H → va_D A [(d0, .inr (2, [.int 0, .ref (bb 0), .ref (bb 1), .ref (bb 2), .ref (bb 3), .int 0, .ref (bb 4), .ref (bb 5), .ref (bb 6), .ref (bb 7), .ref (bb 8), .int (nI Kn), .ref (bb 9), .ref (bb 10)])), ((bb 9), .inl ((kd 9), 64, .inl g6))] → va_S A s.heap H locs → lv_has ls 4 [(2, .int (nI j1)), (1, .int (nI i)), (0, .ref d0)] → W p l e _ s m _ below meth c H locs 0 0 _ (F0 m 21 ls [])) => loop (9) 0 _ _ _ (by omega) (by omega) hP hD hS hl) ?_
      intro n9
      induction n9 with
      | zero => intro j1 H locs ls hj1 hf9; exact False.elim (by omega)
      | succ n9 ih21_1 =>
        intro j1 H locs ls hj1 hf21_1 hP hD hS hl
        refine lv_iload_n hx hb dX2_takePrices_21 rfl (lv_at hl 0 rfl) ?_
        refine lv_aload_n hx hb dX2_takePrices_22 rfl (lv_at hl 2 rfl) ?_
        refine va_get (D := (dC, dI)) (ci := 2) (v := .int (nI Kn)) (C := RX2) (T := TX2) (N := 14) hx hb hts iwsPX2_takePrices_in2 hown hK hP 0 rfl rfl 11 (by decide) (hts (.fieldLink RX2 98 "OptimaWorks$NetDesk" "stops" "I") (by decide +kernel)) (fun _ h9 => h9) rfl dX2_takePrices_23 ?_
        refine lv_icmp_ge (tgt := 112) hx hb dX2_takePrices_26 (by decide) (fun c_26 => ?_) (fun c_26 => ?_)
        · have t_26 : ((j1 : Nat) : Int) ≥ ((Kn : Nat) : Int) := toI_ge c_26 (nI_toInt (by omega)) (nI_toInt (by omega))
          refine lv_iinc (v := (nI (i + 1))) (lv' := [(1, .int (nI (i + 1))), (2, .int (nI j1)), (0, .ref d0)]) hx hb dX2_takePrices_112 hl (k := 1) rfl (nI_add i 1) (by decide) rfl (fun ls hl => ?_)
          refine lv_goto (tgt := 11) hx hb dX2_takePrices_115 (by decide) ?_
          have hl := lv_sub hl [0, 2] (l' := [(1, .int (nI (i + 1))), (0, .ref d0)]) rfl
          exact ih11 (i + 1) _ _ _ (by omega) (by omega) hP hD hS hl
        · have t_26 : ¬ ((j1 : Nat) : Int) ≥ ((Kn : Nat) : Int) := toI_nge c_26 (nI_toInt (by omega)) (nI_toInt (by omega))
          refine lv_iconst (v := 0) hx hb dX2_takePrices_29 (by decide) ?_
          refine lv_istore_n (lv' := [(3, .int 0), (2, .int (nI j1)), (1, .int (nI i)), (0, .ref d0)]) hx hb dX2_takePrices_30 rfl hl (by decide) rfl (fun ls hl => ?_)
          refine lv_iload_n hx hb dX2_takePrices_31 rfl (lv_at hl 0 rfl) ?_
          refine lv_aload_n hx hb dX2_takePrices_32 rfl (lv_at hl 3 rfl) ?_
          refine va_get (D := (dC, dI)) (ci := 2) (v := .int 0) (C := RX2) (T := TX2) (N := 14) hx hb hts iwsPX2_takePrices_in2 hown hK hP 0 rfl rfl 0 (by decide) (hts (.fieldLink RX2 45 "OptimaWorks$NetDesk" "arcs" "I") (by decide +kernel)) (fun _ h9 => h9) rfl dX2_takePrices_33 ?_
          refine lv_icmp_ge (tgt := 106) hx hb dX2_takePrices_36 (by decide) (fun _ => ?_) (fun c9 => absurd (by decide) c9)
          refine lv_iinc (v := (nI (j1 + 1))) (lv' := [(2, .int (nI (j1 + 1))), (3, .int 0), (1, .int (nI i)), (0, .ref d0)]) hx hb dX2_takePrices_106 hl (k := 1) rfl (nI_add j1 1) (by decide) rfl (fun ls hl => ?_)
          refine lv_goto (tgt := 21) hx hb dX2_takePrices_109 (by decide) ?_
          have hl := lv_sub hl [0, 2, 3] (l' := [(2, .int (nI (j1 + 1))), (1, .int (nI i)), (0, .ref d0)]) rfl
          exact ih21_1 (j1 + 1) _ _ _ (by omega) (by omega) hP hD hS hl
theorem dX2_costOver_0 : decode cX2_costOver 0 = .ok (.ldc 60, 2) := by decide +kernel
theorem dX2_costOver_2 : decode cX2_costOver 2 = .ok (.aload_n 0, 1) := by decide +kernel
theorem dX2_costOver_3 : decode cX2_costOver 3 = .ok (.getfield 39, 3) := by decide +kernel
theorem dX2_costOver_6 : decode cX2_costOver 6 = .ok (.iload_n 2, 1) := by decide +kernel
theorem dX2_costOver_7 : decode cX2_costOver 7 = .ok (.bipush 8, 2) := by decide +kernel
theorem dX2_costOver_9 : decode cX2_costOver 9 = .ok (.imul, 1) := by decide +kernel
theorem dX2_costOver_10 : decode cX2_costOver 10 = .ok (.iload_n 3, 1) := by decide +kernel
theorem dX2_costOver_11 : decode cX2_costOver 11 = .ok (.iadd, 1) := by decide +kernel
theorem dX2_costOver_12 : decode cX2_costOver 12 = .ok (.iaload, 1) := by decide +kernel
theorem dX2_costOver_13 : decode cX2_costOver 13 = .ok (.aload_n 0, 1) := by decide +kernel
theorem dX2_costOver_14 : decode cX2_costOver 14 = .ok (.getfield 42, 3) := by decide +kernel
theorem dX2_costOver_17 : decode cX2_costOver 17 = .ok (.iload_n 1, 1) := by decide +kernel
theorem dX2_costOver_18 : decode cX2_costOver 18 = .ok (.iconst 1, 1) := by decide +kernel
theorem dX2_costOver_19 : decode cX2_costOver 19 = .ok (.iload_n 3, 1) := by decide +kernel
theorem dX2_costOver_20 : decode cX2_costOver 20 = .ok (.iconst 1, 1) := by decide +kernel
theorem dX2_costOver_21 : decode cX2_costOver 21 = .ok (.isub, 1) := by decide +kernel
theorem dX2_costOver_22 : decode cX2_costOver 22 = .ok (.ishl, 1) := by decide +kernel
theorem dX2_costOver_23 : decode cX2_costOver 23 = .ok (.iconst (-1), 1) := by decide +kernel
theorem dX2_costOver_24 : decode cX2_costOver 24 = .ok (.ixor, 1) := by decide +kernel
theorem dX2_costOver_25 : decode cX2_costOver 25 = .ok (.iand, 1) := by decide +kernel
theorem dX2_costOver_26 : decode cX2_costOver 26 = .ok (.bipush 8, 2) := by decide +kernel
theorem dX2_costOver_28 : decode cX2_costOver 28 = .ok (.imul, 1) := by decide +kernel
theorem dX2_costOver_29 : decode cX2_costOver 29 = .ok (.iload_n 3, 1) := by decide +kernel
theorem dX2_costOver_30 : decode cX2_costOver 30 = .ok (.iadd, 1) := by decide +kernel
theorem dX2_costOver_31 : decode cX2_costOver 31 = .ok (.iaload, 1) := by decide +kernel
theorem dX2_costOver_32 : decode cX2_costOver 32 = .ok (.iadd, 1) := by decide +kernel
theorem dX2_costOver_33 : decode cX2_costOver 33 = .ok (.invokestatic 61, 3) := by decide +kernel
theorem dX2_costOver_36 : decode cX2_costOver 36 = .ok (.ireturn, 1) := by decide +kernel
def wsPX2_costOver : List Cond := .code yX2_costOver cX2_costOver 4 (some .int) :: ([.constant RX2 60 536870912, .fieldLink RX2 39 "OptimaWorks$NetDesk" "price" "[I", .fieldLink RX2 42 "OptimaWorks$NetDesk" "rest" "[I", .methodLink RX2 61 Lib.Math.min.name, .static Lib.Math.min.name, .initialized "java/lang/Math", .code Lib.Math.min.name Lib.Math.min.code 2 (some .int)] ++ wsX20)
theorem iwsPX2_costOver_in2 : ∀ w ∈ wsX20, w ∈ wsPX2_costOver := fun _ h => List.mem_cons_of_mem _ (List.mem_append_right _ h)
set_option maxHeartbeats 4000000 in
set_option maxRecDepth 100000 in
/-- costOver(left, at, b) over nothing -/
theorem p_X2_costOver (l : Launch) (dC : Nat → ClassId) (dI : Nat → Nat → Nat) (d0 : Nat) (bb : Nat → Nat) (kd : Nat → ClassId) (gp : Nat → Int32) (gr : Nat → Int32) (Kn : Nat) (lf : Nat) (at1 : Nat) (b1 : Nat) (hKq : Kn ≤ 8) (hlf : lf < 128) (hat : at1 < Kn) (hp : ∀ j, j < 64 → gp j = 536870912) (hrr : ∀ j, j < 1024 → 0 ≤ (gr j).toInt ∧ (gr j).toInt ≤ 536870912) (hb1 : 1 ≤ b1 ∧ b1 < Kn) (sz : Nat) : Met l yX2_costOver wsPX2_costOver ({ frames := 1, cells := 0, slots := 0, locals := 13 }) (va_Pc [.ref d0, .int (nI lf), .int (nI at1), .int (nI b1)] (fun U => U.heap.size = sz ∧ va_P (dC, dI) vwCl [(d0, .inr (2, [.int 0, .ref (bb 0), .ref (bb 1), .ref (bb 2), .ref (bb 3), .int 0, .ref (bb 4), .ref (bb 5), .ref (bb 6), .ref (bb 7), .ref (bb 8), .int (nI Kn), .ref (bb 9), .ref (bb 10)])), ((bb 9), .inl ((kd 9), 64, .inl gp)), ((bb 10), .inl ((kd 10), 1024, .inl gr))] U.heap ∧ va_K (dC, dI) vwCl [((kd 9), .int), ((kd 10), .int)] U ∧ va_D (fun _ => True) [(d0, .inr (2, [.int 0, .ref (bb 0), .ref (bb 1), .ref (bb 2), .ref (bb 3), .int 0, .ref (bb 4), .ref (bb 5), .ref (bb 6), .ref (bb 7), .ref (bb 8), .int (nI Kn), .ref (bb 9), .ref (bb 10)])), ((bb 9), .inl ((kd 9), 64, .inl gp)), ((bb 10), .inl ((kd 10), 1024, .inl gr))])) (va_Qi (fun (r : Int32) (u : Unit) => r = 536870912) (fun (u : Unit) t => va_P (dC, dI) vwCl [(d0, .inr (2, [.int 0, .ref (bb 0), .ref (bb 1), .ref (bb 2), .ref (bb 3), .int 0, .ref (bb 4), .ref (bb 5), .ref (bb 6), .ref (bb 7), .ref (bb 8), .int (nI Kn), .ref (bb 9), .ref (bb 10)])), ((bb 9), .inl ((kd 9), 64, .inl gp)), ((bb 10), .inl ((kd 10), 1024, .inl gr))] t.heap ∧ va_K (dC, dI) vwCl [] t ∧ va_D (va_A [(d0, .inr (2, [.int 0, .ref (bb 0), .ref (bb 1), .ref (bb 2), .ref (bb 3), .int 0, .ref (bb 4), .ref (bb 5), .ref (bb 6), .ref (bb 7), .ref (bb 8), .int (nI Kn), .ref (bb 9), .ref (bb 10)])), ((bb 9), .inl ((kd 9), 64, .inl gp)), ((bb 10), .inl ((kd 10), 1024, .inl gr))] sz) [(d0, .inr (2, [.int 0, .ref (bb 0), .ref (bb 1), .ref (bb 2), .ref (bb 3), .int 0, .ref (bb 4), .ref (bb 5), .ref (bb 6), .ref (bb 7), .ref (bb 8), .int (nI Kn), .ref (bb 9), .ref (bb 10)])), ((bb 9), .inl ((kd 9), 64, .inl gp)), ((bb 10), .inl ((kd 10), 1024, .inl gr))]) (va_A [(d0, .inr (2, [.int 0, .ref (bb 0), .ref (bb 1), .ref (bb 2), .ref (bb 3), .int 0, .ref (bb 4), .ref (bb 5), .ref (bb 6), .ref (bb 7), .ref (bb 8), .int (nI Kn), .ref (bb 9), .ref (bb 10)])), ((bb 9), .inl ((kd 9), 64, .inl gp)), ((bb 10), .inl ((kd 10), 1024, .inl gr))] sz)) 0 0 (va_A [(d0, .inr (2, [.int 0, .ref (bb 0), .ref (bb 1), .ref (bb 2), .ref (bb 3), .int 0, .ref (bb 4), .ref (bb 5), .ref (bb 6), .ref (bb 7), .ref (bb 8), .int (nI Kn), .ref (bb 9), .ref (bb 10)])), ((bb 9), .inl ((kd 9), 64, .inl gp)), ((bb 10), .inl ((kd 10), 1024, .inl gr))] sz) := by
  refine Met.ofW (cc := cX2_costOver) (maxL := 4) (ret := (some .int)) (by decide) rfl ?_
  intro p e s m args below meth c s₁ B hml hv
  obtain ⟨rfl, hsz, hP, hK, hD0⟩ := hv
  have hx := B.exec
  have hb := B.bytes
  have hr := B.returns
  have hts := atoms_spec (ws := wsPX2_costOver) B.pre
  have hown : s.vm.findClass RX2 = some m.cls := findClass_of_methodNamed B.named
  have hlocks := B.notSynchronized
  subst hsz
  have hD := hD0.self (sz := s.heap.size)
  generalize hAe : va_A [(d0, .inr (2, [.int 0, .ref (bb 0), .ref (bb 1), .ref (bb 2), .ref (bb 3), .int 0, .ref (bb 4), .ref (bb 5), .ref (bb 6), .ref (bb 7), .ref (bb 8), .int (nI Kn), .ref (bb 9), .ref (bb 10)])), ((bb 9), .inl ((kd 9), 64, .inl gp)), ((bb 10), .inl ((kd 10), 1024, .inl gr))] s.heap.size = A at hD ⊢
  have hA : ∀ q : Nat, s.heap.size ≤ q → A q := fun q h => by rw [← hAe]; exact Or.inr h
  have hS : va_S A s.heap s.heap [] := va_S.rf
  have hP : va_P (dC, dI) vwCl [(d0, .inr (2, [.int 0, .ref (bb 0), .ref (bb 1), .ref (bb 2), .ref (bb 3), .int 0, .ref (bb 4), .ref (bb 5), .ref (bb 6), .ref (bb 7), .ref (bb 8), .int (nI Kn), .ref (bb 9), .ref (bb 10)])), ((bb 9), .inl ((kd 9), 64, .inl gp)), ((bb 10), .inl ((kd 10), 1024, .inl gr))] s.heap := hP
  have hl := lv_entry ([.ref d0, .int (nI lf), .int (nI at1), .int (nI b1)]) (n := 4) (Nat.le_of_ble_eq_true rfl)
  rw [lg_entry_eq]
  generalize (lg_sl ([.ref d0, .int (nI lf), .int (nI at1), .int (nI b1)]) ++ List.replicate (4 - (lg_sl ([.ref d0, .int (nI lf), .int (nI at1), .int (nI b1)])).length) Slot.unset).toArray = ls at hl ⊢
  have hl : lv_has ls 4 [(0, .ref d0), (1, .int (nI lf)), (2, .int (nI at1)), (3, .int (nI b1))] := hl
  have hcl := clr_le lf (b1 - 1)
  refine lv_ldc (v := 536870912) hx hb hown (hts (.constant RX2 60 536870912) (by decide +kernel)) dX2_costOver_0 ?_
  refine lv_aload_n hx hb dX2_costOver_2 rfl (lv_at hl 0 rfl) ?_
  refine va_get (D := (dC, dI)) (ci := 2) (v := .ref (bb 9)) (C := RX2) (T := TX2) (N := 14) hx hb hts iwsPX2_costOver_in2 hown hK hP 0 rfl rfl 12 (by decide) (hts (.fieldLink RX2 39 "OptimaWorks$NetDesk" "price" "[I") (by decide +kernel)) (fun _ h9 => h9) rfl dX2_costOver_3 ?_
  refine lv_iload_n hx hb dX2_costOver_6 rfl (lv_at hl 2 rfl) ?_
  refine lv_bipush (v := 8) hx hb dX2_costOver_7 (by decide) ?_
  refine lv_imul hx hb dX2_costOver_9 ?_
  refine lv_topi (fun y1 hy1 => ?_)
  obtain rfl : (nI (at1 * 8)) = y1 := (hy1.trans (pk_mul at1 8)).symm
  refine lv_iload_n hx hb dX2_costOver_10 rfl (lv_at hl 3 rfl) ?_
  refine lv_iadd hx hb dX2_costOver_11 ?_
  refine lv_topi (fun y2 hy2 => ?_)
  obtain rfl : (nI ((at1 * 8) + b1)) = y2 := (hy2.trans (nI_add (at1 * 8) b1)).symm
  refine va_iald hx hb hK hP 1 0 rfl rfl (vp_in_nI (show ((at1 * 8) + b1) < 64 by omega) (by omega)) dX2_costOver_12 ?_
  refine lv_topi (fun y3 hy3 => ?_)
  obtain rfl : 536870912 = y3 := (hy3.trans (hp _ (by rw [nI_clamp (by omega)]; omega))).symm
  refine lv_aload_n hx hb dX2_costOver_13 rfl (lv_at hl 0 rfl) ?_
  refine va_get (D := (dC, dI)) (ci := 2) (v := .ref (bb 10)) (C := RX2) (T := TX2) (N := 14) hx hb hts iwsPX2_costOver_in2 hown hK hP 0 rfl rfl 13 (by decide) (hts (.fieldLink RX2 42 "OptimaWorks$NetDesk" "rest" "[I") (by decide +kernel)) (fun _ h9 => h9) rfl dX2_costOver_14 ?_
  refine lv_iload_n hx hb dX2_costOver_17 rfl (lv_at hl 1 rfl) ?_
  refine lv_iconst (v := 1) hx hb dX2_costOver_18 (by decide) ?_
  refine lv_iload_n hx hb dX2_costOver_19 rfl (lv_at hl 3 rfl) ?_
  refine lv_iconst (v := 1) hx hb dX2_costOver_20 (by decide) ?_
  refine lv_isub hx hb dX2_costOver_21 ?_
  refine lv_topi (fun y4 hy4 => ?_)
  obtain rfl : (nI (b1 - 1)) = y4 := (hy4.trans (pk_sub (a := b1) (b := 1) (by omega))).symm
  refine lv_ishl hx hb dX2_costOver_22 ?_
  refine lv_iconst (v := (-1)) hx hb dX2_costOver_23 (by decide) ?_
  refine lv_ixor hx hb dX2_costOver_24 ?_
  refine lv_iand hx hb dX2_costOver_25 ?_
  refine lv_topi (fun y5 hy5 => ?_)
  obtain rfl : (nI (clr lf (b1 - 1))) = y5 := (hy5.trans (clr_ok (by omega) (by omega))).symm
  refine lv_bipush (v := 8) hx hb dX2_costOver_26 (by decide) ?_
  refine lv_imul hx hb dX2_costOver_28 ?_
  refine lv_topi (fun y6 hy6 => ?_)
  obtain rfl : (nI ((clr lf (b1 - 1)) * 8)) = y6 := (hy6.trans (pk_mul (clr lf (b1 - 1)) 8)).symm
  refine lv_iload_n hx hb dX2_costOver_29 rfl (lv_at hl 3 rfl) ?_
  refine lv_iadd hx hb dX2_costOver_30 ?_
  refine lv_topi (fun y7 hy7 => ?_)
  obtain rfl : (nI (((clr lf (b1 - 1)) * 8) + b1)) = y7 := (hy7.trans (nI_add ((clr lf (b1 - 1)) * 8) b1)).symm
  refine va_iald hx hb hK hP 2 1 rfl rfl (vp_in_nI (show (((clr lf (b1 - 1)) * 8) + b1) < 1024 by omega) (by omega)) dX2_costOver_31 ?_
  refine lv_topi (fun y8 hy8 => ?_)
  obtain rfl : (gr (clr lf (b1 - 1) * 8 + b1)) = y8 := (hy8.trans (by rw [nI_clamp (by omega)])).symm
  refine lv_iadd hx hb dX2_costOver_32 ?_
  refine va_mmin hx hb (by rw [hml]; exact hl.1.symm) hown (hts (.methodLink RX2 61 Lib.Math.min.name) (by decide +kernel)) (hts (.static Lib.Math.min.name) (by decide +kernel)) (hts (.initialized "java/lang/Math") (by decide +kernel)) (hts (.code Lib.Math.min.name Lib.Math.min.code 2 (some .int)) (by decide +kernel)) (by decide +kernel) (Nat.le_of_ble_eq_true rfl) (by decide +kernel) (by decide +kernel) dX2_costOver_33 ?_
  refine lv_topi (fun y9 hy9 => ?_)
  obtain rfl : 536870912 = y9 := (hy9.trans (min_far _ (hrr _ (by omega)).1 (hrr _ (by omega)).2)).symm
  refine W.widen (k := 0) (n := 0) (by decide +kernel) (by decide +kernel) ?_
  exact W.iret (v := 536870912) hx hb hr (fun t ht hW => ⟨⟨536870912, (), rfl, by (first | rfl | assumption | trivial | omega | (simp []; done) | (simp; omega)), by rw [ht]; exact hP.sub [0, 1, 2] rfl, va_K.moved hW.alike (hK.sub [] rfl), hD.sub [0, 1, 2] (by decide) rfl⟩, hS.F ht⟩) hS.2.2 dX2_costOver_36
theorem dX2_restFrom_0 : decode cX2_restFrom 0 = .ok (.iload_n 1, 1) := by decide +kernel
theorem dX2_restFrom_1 : decode cX2_restFrom 1 = .ok (.ifCond .ne 13, 3) := by decide +kernel
theorem dX2_restFrom_4 : decode cX2_restFrom 4 = .ok (.aload_n 0, 1) := by decide +kernel
theorem dX2_restFrom_5 : decode cX2_restFrom 5 = .ok (.getfield 39, 3) := by decide +kernel
theorem dX2_restFrom_8 : decode cX2_restFrom 8 = .ok (.iload_n 2, 1) := by decide +kernel
theorem dX2_restFrom_9 : decode cX2_restFrom 9 = .ok (.bipush 8, 2) := by decide +kernel
theorem dX2_restFrom_11 : decode cX2_restFrom 11 = .ok (.imul, 1) := by decide +kernel
theorem dX2_restFrom_12 : decode cX2_restFrom 12 = .ok (.iaload, 1) := by decide +kernel
theorem dX2_restFrom_13 : decode cX2_restFrom 13 = .ok (.ireturn, 1) := by decide +kernel
theorem dX2_restFrom_14 : decode cX2_restFrom 14 = .ok (.ldc 60, 2) := by decide +kernel
theorem dX2_restFrom_16 : decode cX2_restFrom 16 = .ok (.istore_n 3, 1) := by decide +kernel
theorem dX2_restFrom_17 : decode cX2_restFrom 17 = .ok (.iconst 1, 1) := by decide +kernel
theorem dX2_restFrom_18 : decode cX2_restFrom 18 = .ok (.istore 4, 2) := by decide +kernel
theorem dX2_restFrom_20 : decode cX2_restFrom 20 = .ok (.iload 4, 2) := by decide +kernel
theorem dX2_restFrom_22 : decode cX2_restFrom 22 = .ok (.aload_n 0, 1) := by decide +kernel
theorem dX2_restFrom_23 : decode cX2_restFrom 23 = .ok (.getfield 98, 3) := by decide +kernel
theorem dX2_restFrom_26 : decode cX2_restFrom 26 = .ok (.if_icmp .ge 33, 3) := by decide +kernel
theorem dX2_restFrom_29 : decode cX2_restFrom 29 = .ok (.iload_n 1, 1) := by decide +kernel
theorem dX2_restFrom_30 : decode cX2_restFrom 30 = .ok (.iload 4, 2) := by decide +kernel
theorem dX2_restFrom_32 : decode cX2_restFrom 32 = .ok (.iconst 1, 1) := by decide +kernel
theorem dX2_restFrom_33 : decode cX2_restFrom 33 = .ok (.isub, 1) := by decide +kernel
theorem dX2_restFrom_34 : decode cX2_restFrom 34 = .ok (.ishr, 1) := by decide +kernel
theorem dX2_restFrom_35 : decode cX2_restFrom 35 = .ok (.iconst 1, 1) := by decide +kernel
theorem dX2_restFrom_36 : decode cX2_restFrom 36 = .ok (.iand, 1) := by decide +kernel
theorem dX2_restFrom_37 : decode cX2_restFrom 37 = .ok (.ifCond .eq 16, 3) := by decide +kernel
theorem dX2_restFrom_40 : decode cX2_restFrom 40 = .ok (.iload_n 3, 1) := by decide +kernel
theorem dX2_restFrom_41 : decode cX2_restFrom 41 = .ok (.aload_n 0, 1) := by decide +kernel
theorem dX2_restFrom_42 : decode cX2_restFrom 42 = .ok (.iload_n 1, 1) := by decide +kernel
theorem dX2_restFrom_43 : decode cX2_restFrom 43 = .ok (.iload_n 2, 1) := by decide +kernel
theorem dX2_restFrom_44 : decode cX2_restFrom 44 = .ok (.iload 4, 2) := by decide +kernel
theorem dX2_restFrom_46 : decode cX2_restFrom 46 = .ok (.invokevirtual 107, 3) := by decide +kernel
theorem dX2_restFrom_49 : decode cX2_restFrom 49 = .ok (.invokestatic 61, 3) := by decide +kernel
theorem dX2_restFrom_52 : decode cX2_restFrom 52 = .ok (.istore_n 3, 1) := by decide +kernel
theorem dX2_restFrom_53 : decode cX2_restFrom 53 = .ok (.iinc 4 1, 3) := by decide +kernel
theorem dX2_restFrom_56 : decode cX2_restFrom 56 = .ok (.goto (-36), 3) := by decide +kernel
theorem dX2_restFrom_59 : decode cX2_restFrom 59 = .ok (.iload_n 3, 1) := by decide +kernel
theorem dX2_restFrom_60 : decode cX2_restFrom 60 = .ok (.ireturn, 1) := by decide +kernel
def wsPX2_restFrom : List Cond := .code yX2_restFrom cX2_restFrom 5 (some .int) :: ([.constant RX2 60 536870912, .fieldLink RX2 98 "OptimaWorks$NetDesk" "stops" "I", .methodLink RX2 61 Lib.Math.min.name, .static Lib.Math.min.name, .initialized "java/lang/Math", .code Lib.Math.min.name Lib.Math.min.code 2 (some .int), .fieldLink RX2 39 "OptimaWorks$NetDesk" "price" "[I"] ++ wsX20 ++ (wsV RX2 107 RX2 yX2_costOver wsPX2_costOver))
theorem iwsPX2_restFrom_in2 : ∀ w ∈ wsX20, w ∈ wsPX2_restFrom := fun _ h => List.mem_cons_of_mem _ (List.mem_append_left _ (List.mem_append_right _ h))
theorem gwsPX2_restFrom_0 : GoodIn wsPX2_restFrom (wsV RX2 107 RX2 yX2_costOver wsPX2_costOver) := goodIn_sub (fun _ h => List.mem_cons_of_mem _ (List.mem_append_right _ h)) (by decide +kernel)
set_option maxHeartbeats 4000000 in
set_option maxRecDepth 100000 in
/-- restFrom(left, at) over nothing -/
theorem p_X2_restFrom (l : Launch) (dC : Nat → ClassId) (dI : Nat → Nat → Nat) (d0 : Nat) (bb : Nat → Nat) (kd : Nat → ClassId) (gp : Nat → Int32) (gr : Nat → Int32) (Kn : Nat) (lf : Nat) (at1 : Nat) (hKq : Kn ≤ 8) (hlf : lf < 128) (hat : at1 < Kn) (hp : ∀ j, j < 64 → gp j = 536870912) (hrr : ∀ j, j < 1024 → 0 ≤ (gr j).toInt ∧ (gr j).toInt ≤ 536870912) (sz : Nat) : Met l yX2_restFrom wsPX2_restFrom ({ frames := 2, cells := 0, slots := 0, locals := 36 }) (va_Pc [.ref d0, .int (nI lf), .int (nI at1)] (fun U => U.heap.size = sz ∧ va_P (dC, dI) vwCl [(d0, .inr (2, [.int 0, .ref (bb 0), .ref (bb 1), .ref (bb 2), .ref (bb 3), .int 0, .ref (bb 4), .ref (bb 5), .ref (bb 6), .ref (bb 7), .ref (bb 8), .int (nI Kn), .ref (bb 9), .ref (bb 10)])), ((bb 9), .inl ((kd 9), 64, .inl gp)), ((bb 10), .inl ((kd 10), 1024, .inl gr))] U.heap ∧ va_K (dC, dI) vwCl [((kd 9), .int), ((kd 10), .int)] U ∧ va_D (fun _ => True) [(d0, .inr (2, [.int 0, .ref (bb 0), .ref (bb 1), .ref (bb 2), .ref (bb 3), .int 0, .ref (bb 4), .ref (bb 5), .ref (bb 6), .ref (bb 7), .ref (bb 8), .int (nI Kn), .ref (bb 9), .ref (bb 10)])), ((bb 9), .inl ((kd 9), 64, .inl gp)), ((bb 10), .inl ((kd 10), 1024, .inl gr))])) (va_Qi (fun (r : Int32) (u : Unit) => r = 536870912) (fun (u : Unit) t => va_P (dC, dI) vwCl [(d0, .inr (2, [.int 0, .ref (bb 0), .ref (bb 1), .ref (bb 2), .ref (bb 3), .int 0, .ref (bb 4), .ref (bb 5), .ref (bb 6), .ref (bb 7), .ref (bb 8), .int (nI Kn), .ref (bb 9), .ref (bb 10)])), ((bb 9), .inl ((kd 9), 64, .inl gp)), ((bb 10), .inl ((kd 10), 1024, .inl gr))] t.heap ∧ va_K (dC, dI) vwCl [] t ∧ va_D (va_A [(d0, .inr (2, [.int 0, .ref (bb 0), .ref (bb 1), .ref (bb 2), .ref (bb 3), .int 0, .ref (bb 4), .ref (bb 5), .ref (bb 6), .ref (bb 7), .ref (bb 8), .int (nI Kn), .ref (bb 9), .ref (bb 10)])), ((bb 9), .inl ((kd 9), 64, .inl gp)), ((bb 10), .inl ((kd 10), 1024, .inl gr))] sz) [(d0, .inr (2, [.int 0, .ref (bb 0), .ref (bb 1), .ref (bb 2), .ref (bb 3), .int 0, .ref (bb 4), .ref (bb 5), .ref (bb 6), .ref (bb 7), .ref (bb 8), .int (nI Kn), .ref (bb 9), .ref (bb 10)])), ((bb 9), .inl ((kd 9), 64, .inl gp)), ((bb 10), .inl ((kd 10), 1024, .inl gr))]) (va_A [(d0, .inr (2, [.int 0, .ref (bb 0), .ref (bb 1), .ref (bb 2), .ref (bb 3), .int 0, .ref (bb 4), .ref (bb 5), .ref (bb 6), .ref (bb 7), .ref (bb 8), .int (nI Kn), .ref (bb 9), .ref (bb 10)])), ((bb 9), .inl ((kd 9), 64, .inl gp)), ((bb 10), .inl ((kd 10), 1024, .inl gr))] sz)) 0 0 (va_A [(d0, .inr (2, [.int 0, .ref (bb 0), .ref (bb 1), .ref (bb 2), .ref (bb 3), .int 0, .ref (bb 4), .ref (bb 5), .ref (bb 6), .ref (bb 7), .ref (bb 8), .int (nI Kn), .ref (bb 9), .ref (bb 10)])), ((bb 9), .inl ((kd 9), 64, .inl gp)), ((bb 10), .inl ((kd 10), 1024, .inl gr))] sz) := by
  refine Met.ofW (cc := cX2_restFrom) (maxL := 5) (ret := (some .int)) (by decide) rfl ?_
  intro p e s m args below meth c s₁ B hml hv
  obtain ⟨rfl, hsz, hP, hK, hD0⟩ := hv
  have hx := B.exec
  have hb := B.bytes
  have hr := B.returns
  have hts := atoms_spec (ws := wsPX2_restFrom) B.pre
  have hown : s.vm.findClass RX2 = some m.cls := findClass_of_methodNamed B.named
  have hlocks := B.notSynchronized
  subst hsz
  have hD := hD0.self (sz := s.heap.size)
  generalize hAe : va_A [(d0, .inr (2, [.int 0, .ref (bb 0), .ref (bb 1), .ref (bb 2), .ref (bb 3), .int 0, .ref (bb 4), .ref (bb 5), .ref (bb 6), .ref (bb 7), .ref (bb 8), .int (nI Kn), .ref (bb 9), .ref (bb 10)])), ((bb 9), .inl ((kd 9), 64, .inl gp)), ((bb 10), .inl ((kd 10), 1024, .inl gr))] s.heap.size = A at hD ⊢
  have hA : ∀ q : Nat, s.heap.size ≤ q → A q := fun q h => by rw [← hAe]; exact Or.inr h
  have hS : va_S A s.heap s.heap [] := va_S.rf
  have hP : va_P (dC, dI) vwCl [(d0, .inr (2, [.int 0, .ref (bb 0), .ref (bb 1), .ref (bb 2), .ref (bb 3), .int 0, .ref (bb 4), .ref (bb 5), .ref (bb 6), .ref (bb 7), .ref (bb 8), .int (nI Kn), .ref (bb 9), .ref (bb 10)])), ((bb 9), .inl ((kd 9), 64, .inl gp)), ((bb 10), .inl ((kd 10), 1024, .inl gr))] s.heap := hP
  have hl := lv_entry ([.ref d0, .int (nI lf), .int (nI at1)]) (n := 5) (Nat.le_of_ble_eq_true rfl)
  rw [lg_entry_eq]
  generalize (lg_sl ([.ref d0, .int (nI lf), .int (nI at1)]) ++ List.replicate (5 - (lg_sl ([.ref d0, .int (nI lf), .int (nI at1)])).length) Slot.unset).toArray = ls at hl ⊢
  have hl : lv_has ls 5 [(0, .ref d0), (1, .int (nI lf)), (2, .int (nI at1))] := hl
  refine lv_iload_n hx hb dX2_restFrom_0 rfl (lv_at hl 1 rfl) ?_
  refine lv_if_ne (tgt := 14) hx hb dX2_restFrom_1 (by decide) (fun c_1 => ?_) (fun c_1 => ?_)
  · have t_1 : ((lf : Nat) : Int) ≠ 0 := toI_ne c_1 (nI_toInt (by omega)) (by decide)
    refine lv_ldc (v := 536870912) hx hb hown (hts (.constant RX2 60 536870912) (by decide +kernel)) dX2_restFrom_14 ?_
    refine lv_istore_n (lv' := [(3, .int 536870912), (0, .ref d0), (1, .int (nI lf)), (2, .int (nI at1))]) hx hb dX2_restFrom_16 rfl hl (by decide) rfl (fun ls hl => ?_)
    refine lv_iconst (v := 1) hx hb dX2_restFrom_17 (by decide) ?_
    refine lv_istore (lv' := [(4, .int 1), (3, .int 536870912), (0, .ref d0), (1, .int (nI lf)), (2, .int (nI at1))]) hx hb dX2_restFrom_18 hl (by decide) rfl (fun ls hl => ?_)
    have hl := lv_sub hl [0, 1, 2, 3, 4] (l' := [(4, .int (nI 1)), (3, .int 536870912), (0, .ref d0), (1, .int (nI lf)), (2, .int (nI at1))]) rfl
    refine (fun (loop : ∀ (n9 : Nat) (b1 : Nat) (H : Heap) (locs : List Loc) (ls : Array Slot), (1 ≤ b1 ∧ b1 ≤ 9) →  (9 < b1 + n9) → va_P (dC, dI) vwCl [(d0, .inr (2, [.int 0, .ref (bb 0), .ref (bb 1), .ref (bb 2), .ref (bb 3), .int 0, .ref (bb 4), .ref (bb 5), .ref (bb 6), .ref (bb 7), .ref (bb 8), .int (nI Kn), .ref (bb 9), .ref (bb 10)])), ((bb 9), .inl ((kd 9), 64, .inl gp)), ((bb 10), .inl ((kd 10), 1024, .inl gr))] H → va_D A [(d0, .inr (2, [.int 0, .ref (bb 0), .ref (bb 1), .ref (bb 2), .ref (bb 3), .int 0, .ref (bb 4), .ref (bb 5), .ref (bb 6), .ref (bb 7), .ref (bb 8), .int (nI Kn), .ref (bb 9), .ref (bb 10)])), ((bb 9), .inl ((kd 9), 64, .inl gp)), ((bb 10), .inl ((kd 10), 1024, .inl gr))] → va_S A s.heap H locs → lv_has ls 5 [(4, .int (nI b1)), (3, .int 536870912), (0, .ref d0), (1, .int (nI lf)), (2, .int (nI at1))] → W p l e _ s m _ below meth c H locs 0 0 _ (F0 m 20 ls [])) => loop (9) 1 _ _ _ (by omega) (by omega) hP hD hS hl) ?_
    intro n9
    induction n9 with
    | zero => intro b1 H locs ls hb1 hf9; exact False.elim (by omega)
    | succ n9 ih20 =>
      intro b1 H locs ls hb1 hf20 hP hD hS hl
      refine lv_iload hx hb dX2_restFrom_20 (lv_at hl 0 rfl) ?_
      refine lv_aload_n hx hb dX2_restFrom_22 rfl (lv_at hl 2 rfl) ?_
      refine va_get (D := (dC, dI)) (ci := 2) (v := .int (nI Kn)) (C := RX2) (T := TX2) (N := 14) hx hb hts iwsPX2_restFrom_in2 hown hK hP 0 rfl rfl 11 (by decide) (hts (.fieldLink RX2 98 "OptimaWorks$NetDesk" "stops" "I") (by decide +kernel)) (fun _ h9 => h9) rfl dX2_restFrom_23 ?_
      refine lv_icmp_ge (tgt := 59) hx hb dX2_restFrom_26 (by decide) (fun c_26 => ?_) (fun c_26 => ?_)
      · have t_26 : ((b1 : Nat) : Int) ≥ ((Kn : Nat) : Int) := toI_ge c_26 (nI_toInt (by omega)) (nI_toInt (by omega))
        refine lv_iload_n hx hb dX2_restFrom_59 rfl (lv_at hl 1 rfl) ?_
        refine W.widen (k := 0) (n := 0) (by decide +kernel) (by decide +kernel) ?_
        exact W.iret (v := 536870912) hx hb hr (fun t ht hW => ⟨⟨536870912, (), rfl, by (first | rfl | assumption | trivial | omega | (simp [c_1, c_26]; done) | (simp; omega)), by rw [ht]; exact hP.sub [0, 1, 2] rfl, va_K.moved hW.alike (hK.sub [] rfl), hD.sub [0, 1, 2] (by decide) rfl⟩, hS.F ht⟩) hS.2.2 dX2_restFrom_60
      · have t_26 : ¬ ((b1 : Nat) : Int) ≥ ((Kn : Nat) : Int) := toI_nge c_26 (nI_toInt (by omega)) (nI_toInt (by omega))
        refine lv_iload_n hx hb dX2_restFrom_29 rfl (lv_at hl 3 rfl) ?_
        refine lv_iload hx hb dX2_restFrom_30 (lv_at hl 0 rfl) ?_
        refine lv_iconst (v := 1) hx hb dX2_restFrom_32 (by decide) ?_
        refine lv_isub hx hb dX2_restFrom_33 ?_
        refine lv_topi (fun y1 hy1 => ?_)
        obtain rfl : (nI (b1 - 1)) = y1 := (hy1.trans (pk_sub (a := b1) (b := 1) (by omega))).symm
        refine lv_ishr hx hb dX2_restFrom_34 ?_
        refine lv_iconst (v := 1) hx hb dX2_restFrom_35 (by decide) ?_
        refine lv_iand hx hb dX2_restFrom_36 ?_
        refine lv_if_eq (tgt := 53) hx hb dX2_restFrom_37 (by decide) (fun c_37 => ?_) (fun c_37 => ?_)
        · have t_37 : ((((nI lf) >>> ((nI (b1 - 1)) &&& 31)) &&& 1)).toInt = 0 := toI_eq c_37 rfl (by decide)
          refine lv_iinc (v := (nI (b1 + 1))) (lv' := [(4, .int (nI (b1 + 1))), (3, .int 536870912), (0, .ref d0), (1, .int (nI lf)), (2, .int (nI at1))]) hx hb dX2_restFrom_53 hl (k := 0) rfl (nI_add b1 1) (by decide) rfl (fun ls hl => ?_)
          refine lv_goto (tgt := 20) hx hb dX2_restFrom_56 (by decide) ?_
          have hl := lv_sub hl [0, 1, 2, 3, 4] (l' := [(4, .int (nI (b1 + 1))), (3, .int 536870912), (0, .ref d0), (1, .int (nI lf)), (2, .int (nI at1))]) rfl
          exact ih20 (b1 + 1) _ _ _ (by omega) (by omega) hP hD hS hl
        · have t_37 : ¬ ((((nI lf) >>> ((nI (b1 - 1)) &&& 31)) &&& 1)).toInt = 0 := toI_neq c_37 rfl (by decide)
          refine lv_iload_n hx hb dX2_restFrom_40 rfl (lv_at hl 1 rfl) ?_
          refine lv_aload_n hx hb dX2_restFrom_41 rfl (lv_at hl 2 rfl) ?_
          refine lv_iload_n hx hb dX2_restFrom_42 rfl (lv_at hl 3 rfl) ?_
          refine lv_iload_n hx hb dX2_restFrom_43 rfl (lv_at hl 4 rfl) ?_
          refine lv_iload hx hb dX2_restFrom_44 (lv_at hl 0 rfl) ?_
          have hPc := hP.sub (ws' := [(d0, .inr (2, [.int 0, .ref (bb 0), .ref (bb 1), .ref (bb 2), .ref (bb 3), .int 0, .ref (bb 4), .ref (bb 5), .ref (bb 6), .ref (bb 7), .ref (bb 8), .int (nI Kn), .ref (bb 9), .ref (bb 10)])), ((bb 9), .inl ((kd 9), 64, .inl gp)), ((bb 10), .inl ((kd 10), 1024, .inl gr))]) [0, 1, 2] rfl
          have hDc := hD.sub (ws' := [(d0, .inr (2, [.int 0, .ref (bb 0), .ref (bb 1), .ref (bb 2), .ref (bb 3), .int 0, .ref (bb 4), .ref (bb 5), .ref (bb 6), .ref (bb 7), .ref (bb 8), .int (nI Kn), .ref (bb 9), .ref (bb 10)])), ((bb 9), .inl ((kd 9), 64, .inl gp)), ((bb 10), .inl ((kd 10), 1024, .inl gr))]) [0, 1, 2] (by decide) rfl
          have hKc := hK.sub (tys' := [((kd 9), .int), ((kd 10), .int)]) [0, 1] rfl
          have hFc := va_free (wc := [(d0, .inr (2, [.int 0, .ref (bb 0), .ref (bb 1), .ref (bb 2), .ref (bb 3), .int 0, .ref (bb 4), .ref (bb 5), .ref (bb 6), .ref (bb 7), .ref (bb 8), .int (nI Kn), .ref (bb 9), .ref (bb 10)])), ((bb 9), .inl ((kd 9), 64, .inl gp)), ((bb 10), .inl ((kd 10), 1024, .inl gr))]) hD hS hA [0, 1, 2] rfl
          refine va_calli (va_runV (As := [.int (nI lf), .int (nI at1), .int (nI b1)]) (rest := [.int 536870912]) ⟨hx, hb, hml, hown, hts⟩ (p_X2_costOver l dC dI d0 bb kd gp gr Kn lf at1 b1 (by first | omega | decide | assumption | rfl) (by first | omega | decide | assumption | rfl) (by first | omega | decide | assumption | rfl) (hp) (hrr) (by first | omega | decide | assumption | rfl) H.size) (cwV 3 hts gwsPX2_restFrom_0 rfl rfl rfl (by decide +kernel) ⟨by decide +kernel, by decide +kernel⟩) ⟨fun a U g mk q => by obtain ⟨q0, q1, qP, qK, qD⟩ := q; exact ⟨q0, q1, qP, va_K.moved (u := U) (U := U.calling g mk a) (Vm.Alike.refl U.vm) qK, qD⟩, va_recv hKc hPc (ci := 2) (q0 := 0) rfl rfl, fun U hU9 hW => ⟨rfl, by rw [hU9], by rw [hU9]; exact hPc, va_K.moved hW.alike hKc, hDc.weaken (fun _ _ _ _ => trivial)⟩⟩ rfl rfl hl.1 rfl (lv_room (Nat.le_of_ble_eq_true rfl)) dX2_restFrom_46 ⟨by decide +kernel, by decide +kernel⟩) hS (fun q _ h => hFc q h) hFc (fun r46 u t H1 locs ht hvm hw hB hz1 hk1 hS => ?_)
          obtain ⟨hP1, hK1, hD1⟩ := hB
          rw [ht] at hP1
          have hK1 := va_K.moved hvm.symm hK1
          obtain ⟨hP, hD⟩ := va_join (wr := []) (w1 := [(d0, .inr (2, [.int 0, .ref (bb 0), .ref (bb 1), .ref (bb 2), .ref (bb 3), .int 0, .ref (bb 4), .ref (bb 5), .ref (bb 6), .ref (bb 7), .ref (bb 8), .int (nI Kn), .ref (bb 9), .ref (bb 10)])), ((bb 9), .inl ((kd 9), 64, .inl gp)), ((bb 10), .inl ((kd 10), 1024, .inl gr))]) hP hD [0, 1, 2] [] rfl rfl (by decide) (by decide) hk1 hFc hP1 hD1
          generalize H1 = H at hP hS ⊢
          have hP : va_P (dC, dI) vwCl [(d0, .inr (2, [.int 0, .ref (bb 0), .ref (bb 1), .ref (bb 2), .ref (bb 3), .int 0, .ref (bb 4), .ref (bb 5), .ref (bb 6), .ref (bb 7), .ref (bb 8), .int (nI Kn), .ref (bb 9), .ref (bb 10)])), ((bb 9), .inl ((kd 9), 64, .inl gp)), ((bb 10), .inl ((kd 10), 1024, .inl gr))] H := hP
          have hD : va_D A [(d0, .inr (2, [.int 0, .ref (bb 0), .ref (bb 1), .ref (bb 2), .ref (bb 3), .int 0, .ref (bb 4), .ref (bb 5), .ref (bb 6), .ref (bb 7), .ref (bb 8), .int (nI Kn), .ref (bb 9), .ref (bb 10)])), ((bb 9), .inl ((kd 9), 64, .inl gp)), ((bb 10), .inl ((kd 10), 1024, .inl gr))] := hD
          obtain rfl := hw
          refine va_mmin hx hb (by rw [hml]; exact hl.1.symm) hown (hts (.methodLink RX2 61 Lib.Math.min.name) (by decide +kernel)) (hts (.static Lib.Math.min.name) (by decide +kernel)) (hts (.initialized "java/lang/Math") (by decide +kernel)) (hts (.code Lib.Math.min.name Lib.Math.min.code 2 (some .int)) (by decide +kernel)) (by decide +kernel) (Nat.le_of_ble_eq_true rfl) (by decide +kernel) (by decide +kernel) dX2_restFrom_49 ?_
          refine lv_topi (fun y2 hy2 => ?_)
          obtain rfl : 536870912 = y2 := (hy2.trans (by decide)).symm
          refine lv_istore_n (lv' := [(3, .int 536870912), (4, .int (nI b1)), (0, .ref d0), (1, .int (nI lf)), (2, .int (nI at1))]) hx hb dX2_restFrom_52 rfl hl (by decide) rfl (fun ls hl => ?_)
          refine lv_iinc (v := (nI (b1 + 1))) (lv' := [(4, .int (nI (b1 + 1))), (3, .int 536870912), (0, .ref d0), (1, .int (nI lf)), (2, .int (nI at1))]) hx hb dX2_restFrom_53 hl (k := 1) rfl (nI_add b1 1) (by decide) rfl (fun ls hl => ?_)
          refine lv_goto (tgt := 20) hx hb dX2_restFrom_56 (by decide) ?_
          have hl := lv_sub hl [0, 1, 2, 3, 4] (l' := [(4, .int (nI (b1 + 1))), (3, .int 536870912), (0, .ref d0), (1, .int (nI lf)), (2, .int (nI at1))]) rfl
          exact ih20 (b1 + 1) _ _ _ (by omega) (by omega) hP hD hS hl
  · have t_1 : ((lf : Nat) : Int) = 0 := toI_nne c_1 (nI_toInt (by omega)) (by decide)
    refine lv_aload_n hx hb dX2_restFrom_4 rfl (lv_at hl 0 rfl) ?_
    refine va_get (D := (dC, dI)) (ci := 2) (v := .ref (bb 9)) (C := RX2) (T := TX2) (N := 14) hx hb hts iwsPX2_restFrom_in2 hown hK hP 0 rfl rfl 12 (by decide) (hts (.fieldLink RX2 39 "OptimaWorks$NetDesk" "price" "[I") (by decide +kernel)) (fun _ h9 => h9) rfl dX2_restFrom_5 ?_
    refine lv_iload_n hx hb dX2_restFrom_8 rfl (lv_at hl 2 rfl) ?_
    refine lv_bipush (v := 8) hx hb dX2_restFrom_9 (by decide) ?_
    refine lv_imul hx hb dX2_restFrom_11 ?_
    refine lv_topi (fun y3 hy3 => ?_)
    obtain rfl : (nI (at1 * 8)) = y3 := (hy3.trans (pk_mul at1 8)).symm
    refine va_iald hx hb hK hP 1 0 rfl rfl (vp_in_nI (show (at1 * 8) < 64 by omega) (by omega)) dX2_restFrom_12 ?_
    refine lv_topi (fun y4 hy4 => ?_)
    obtain rfl : 536870912 = y4 := (hy4.trans (hp _ (by rw [nI_clamp (by omega)]; omega))).symm
    refine W.widen (k := 0) (n := 0) (by decide +kernel) (by decide +kernel) ?_
    exact W.iret (v := 536870912) hx hb hr (fun t ht hW => ⟨⟨536870912, (), rfl, by (first | rfl | assumption | trivial | omega | (simp [c_1]; done) | (simp; omega)), by rw [ht]; exact hP.sub [0, 1, 2] rfl, va_K.moved hW.alike (hK.sub [] rfl), hD.sub [0, 1, 2] (by decide) rfl⟩, hS.F ht⟩) hS.2.2 dX2_restFrom_13
theorem dX2_round_0 : decode cX2_round 0 = .ok (.aload_n 0, 1) := by decide +kernel
theorem dX2_round_1 : decode cX2_round 1 = .ok (.iload_n 1, 1) := by decide +kernel
theorem dX2_round_2 : decode cX2_round 2 = .ok (.invokevirtual 92, 3) := by decide +kernel
theorem dX2_round_5 : decode cX2_round 5 = .ok (.aload_n 0, 1) := by decide +kernel
theorem dX2_round_6 : decode cX2_round 6 = .ok (.invokevirtual 95, 3) := by decide +kernel
theorem dX2_round_9 : decode cX2_round 9 = .ok (.iconst 1, 1) := by decide +kernel
theorem dX2_round_10 : decode cX2_round 10 = .ok (.aload_n 0, 1) := by decide +kernel
theorem dX2_round_11 : decode cX2_round 11 = .ok (.getfield 98, 3) := by decide +kernel
theorem dX2_round_14 : decode cX2_round 14 = .ok (.iconst 1, 1) := by decide +kernel
theorem dX2_round_15 : decode cX2_round 15 = .ok (.isub, 1) := by decide +kernel
theorem dX2_round_16 : decode cX2_round 16 = .ok (.ishl, 1) := by decide +kernel
theorem dX2_round_17 : decode cX2_round 17 = .ok (.iconst 1, 1) := by decide +kernel
theorem dX2_round_18 : decode cX2_round 18 = .ok (.isub, 1) := by decide +kernel
theorem dX2_round_19 : decode cX2_round 19 = .ok (.istore_n 3, 1) := by decide +kernel
theorem dX2_round_20 : decode cX2_round 20 = .ok (.iconst 0, 1) := by decide +kernel
theorem dX2_round_21 : decode cX2_round 21 = .ok (.istore 4, 2) := by decide +kernel
theorem dX2_round_23 : decode cX2_round 23 = .ok (.iload 4, 2) := by decide +kernel
theorem dX2_round_25 : decode cX2_round 25 = .ok (.iload_n 3, 1) := by decide +kernel
theorem dX2_round_26 : decode cX2_round 26 = .ok (.if_icmp .gt 48, 3) := by decide +kernel
theorem dX2_round_29 : decode cX2_round 29 = .ok (.iconst 0, 1) := by decide +kernel
theorem dX2_round_30 : decode cX2_round 30 = .ok (.istore 5, 2) := by decide +kernel
theorem dX2_round_32 : decode cX2_round 32 = .ok (.iload 5, 2) := by decide +kernel
theorem dX2_round_34 : decode cX2_round 34 = .ok (.aload_n 0, 1) := by decide +kernel
theorem dX2_round_35 : decode cX2_round 35 = .ok (.getfield 98, 3) := by decide +kernel
theorem dX2_round_38 : decode cX2_round 38 = .ok (.if_icmp .ge 30, 3) := by decide +kernel
theorem dX2_round_41 : decode cX2_round 41 = .ok (.aload_n 0, 1) := by decide +kernel
theorem dX2_round_42 : decode cX2_round 42 = .ok (.getfield 42, 3) := by decide +kernel
theorem dX2_round_45 : decode cX2_round 45 = .ok (.iload 4, 2) := by decide +kernel
theorem dX2_round_47 : decode cX2_round 47 = .ok (.bipush 8, 2) := by decide +kernel
theorem dX2_round_49 : decode cX2_round 49 = .ok (.imul, 1) := by decide +kernel
theorem dX2_round_50 : decode cX2_round 50 = .ok (.iload 5, 2) := by decide +kernel
theorem dX2_round_52 : decode cX2_round 52 = .ok (.iadd, 1) := by decide +kernel
theorem dX2_round_53 : decode cX2_round 53 = .ok (.aload_n 0, 1) := by decide +kernel
theorem dX2_round_54 : decode cX2_round 54 = .ok (.iload 4, 2) := by decide +kernel
theorem dX2_round_56 : decode cX2_round 56 = .ok (.iload 5, 2) := by decide +kernel
theorem dX2_round_58 : decode cX2_round 58 = .ok (.invokevirtual 101, 3) := by decide +kernel
theorem dX2_round_61 : decode cX2_round 61 = .ok (.iastore, 1) := by decide +kernel
theorem dX2_round_62 : decode cX2_round 62 = .ok (.iinc 5 1, 3) := by decide +kernel
theorem dX2_round_65 : decode cX2_round 65 = .ok (.goto (-33), 3) := by decide +kernel
theorem dX2_round_68 : decode cX2_round 68 = .ok (.iinc 4 1, 3) := by decide +kernel
theorem dX2_round_71 : decode cX2_round 71 = .ok (.goto (-48), 3) := by decide +kernel
theorem dX2_round_74 : decode cX2_round 74 = .ok (.aload_n 0, 1) := by decide +kernel
theorem dX2_round_75 : decode cX2_round 75 = .ok (.getfield 42, 3) := by decide +kernel
theorem dX2_round_78 : decode cX2_round 78 = .ok (.iload_n 3, 1) := by decide +kernel
theorem dX2_round_79 : decode cX2_round 79 = .ok (.bipush 8, 2) := by decide +kernel
theorem dX2_round_81 : decode cX2_round 81 = .ok (.imul, 1) := by decide +kernel
theorem dX2_round_82 : decode cX2_round 82 = .ok (.iaload, 1) := by decide +kernel
theorem dX2_round_83 : decode cX2_round 83 = .ok (.istore 4, 2) := by decide +kernel
theorem dX2_round_85 : decode cX2_round 85 = .ok (.iload 4, 2) := by decide +kernel
theorem dX2_round_87 : decode cX2_round 87 = .ok (.ldc 60, 2) := by decide +kernel
theorem dX2_round_89 : decode cX2_round 89 = .ok (.if_icmp .ge 9, 3) := by decide +kernel
theorem dX2_round_98 : decode cX2_round 98 = .ok (.iload 4, 2) := by decide +kernel
theorem dX2_round_100 : decode cX2_round 100 = .ok (.ldc 60, 2) := by decide +kernel
theorem dX2_round_102 : decode cX2_round 102 = .ok (.if_icmp .lt 7, 3) := by decide +kernel
theorem dX2_round_105 : decode cX2_round 105 = .ok (.iconst (-1), 1) := by decide +kernel
theorem dX2_round_106 : decode cX2_round 106 = .ok (.goto 5, 3) := by decide +kernel
theorem dX2_round_111 : decode cX2_round 111 = .ok (.ireturn, 1) := by decide +kernel
def wsPX2_round : List Cond := .code yX2_round cX2_round 8 (some .int) :: ([.fieldLink RX2 98 "OptimaWorks$NetDesk" "stops" "I", .fieldLink RX2 42 "OptimaWorks$NetDesk" "rest" "[I", .constant RX2 60 536870912] ++ wsX20 ++ (wsV RX2 92 RX2 yX2_takeStops wsPX2_takeStops) ++ (wsV RX2 95 RX2 yX2_takePrices wsPX2_takePrices) ++ (wsV RX2 101 RX2 yX2_restFrom wsPX2_restFrom))
theorem iwsPX2_round_in2 : ∀ w ∈ wsX20, w ∈ wsPX2_round := fun _ h => List.mem_cons_of_mem _ (List.mem_append_left _ (List.mem_append_left _ (List.mem_append_left _ (List.mem_append_right _ h))))
theorem gwsPX2_round_0 : GoodIn wsPX2_round (wsV RX2 92 RX2 yX2_takeStops wsPX2_takeStops) := goodIn_sub (fun _ h => List.mem_cons_of_mem _ (List.mem_append_left _ (List.mem_append_left _ (List.mem_append_right _ h)))) (by decide +kernel)
theorem gwsPX2_round_1 : GoodIn wsPX2_round (wsV RX2 95 RX2 yX2_takePrices wsPX2_takePrices) := goodIn_sub (fun _ h => List.mem_cons_of_mem _ (List.mem_append_left _ (List.mem_append_right _ h))) (by decide +kernel)
theorem gwsPX2_round_2 : GoodIn wsPX2_round (wsV RX2 101 RX2 yX2_restFrom wsPX2_restFrom) := goodIn_sub (fun _ h => List.mem_cons_of_mem _ (List.mem_append_right _ h)) (by decide +kernel)
set_option maxHeartbeats 4000000 in
set_option maxRecDepth 100000 in
/-- round(nodes, i) over nothing -/
theorem p_X2_round (l : Launch) (dC : Nat → ClassId) (dI : Nat → Nat → Nat) (d0 : Nat) (bb : Nat → Nat) (kd : Nat → ClassId) (nn : Nat) (hn : nn < 4096) (hc2 : 2 ≤ cnt nn 12) (hc8 : cnt nn 12 ≤ 8) (ii : Int32) (sz : Nat) : Met l yX2_round wsPX2_round ({ frames := 3, cells := 0, slots := 0, locals := 60 }) (va_Pc [.ref d0, .int (nI nn), .int ii] (fun U => U.heap.size = sz ∧ va_P (dC, dI) vwCl [(d0, .inr (2, [.int 0, .ref (bb 0), .ref (bb 1), .ref (bb 2), .ref (bb 3), .int 0, .ref (bb 4), .ref (bb 5), .ref (bb 6), .ref (bb 7), .ref (bb 8), .int 0, .ref (bb 9), .ref (bb 10)])), ((bb 8), .inl ((kd 8), 8, .inl (fun _ => 0))), ((bb 9), .inl ((kd 9), 64, .inl (fun _ => 0))), ((bb 10), .inl ((kd 10), 1024, .inl (fun _ => 0)))] U.heap ∧ va_K (dC, dI) vwCl [((kd 8), .int), ((kd 9), .int), ((kd 10), .int)] U ∧ va_D (fun _ => True) [(d0, .inr (2, [.int 0, .ref (bb 0), .ref (bb 1), .ref (bb 2), .ref (bb 3), .int 0, .ref (bb 4), .ref (bb 5), .ref (bb 6), .ref (bb 7), .ref (bb 8), .int 0, .ref (bb 9), .ref (bb 10)])), ((bb 8), .inl ((kd 8), 8, .inl (fun _ => 0))), ((bb 9), .inl ((kd 9), 64, .inl (fun _ => 0))), ((bb 10), .inl ((kd 10), 1024, .inl (fun _ => 0)))])) (va_Qi (fun (r : Int32) (u : Unit) => r = (-1)) (fun (u : Unit) t => va_P (dC, dI) vwCl [] t.heap ∧ va_K (dC, dI) vwCl [] t ∧ va_D (va_A [(d0, .inr (2, [.int 0, .ref (bb 0), .ref (bb 1), .ref (bb 2), .ref (bb 3), .int 0, .ref (bb 4), .ref (bb 5), .ref (bb 6), .ref (bb 7), .ref (bb 8), .int 0, .ref (bb 9), .ref (bb 10)])), ((bb 8), .inl ((kd 8), 8, .inl (fun _ => 0))), ((bb 9), .inl ((kd 9), 64, .inl (fun _ => 0))), ((bb 10), .inl ((kd 10), 1024, .inl (fun _ => 0)))] sz) []) (va_A [(d0, .inr (2, [.int 0, .ref (bb 0), .ref (bb 1), .ref (bb 2), .ref (bb 3), .int 0, .ref (bb 4), .ref (bb 5), .ref (bb 6), .ref (bb 7), .ref (bb 8), .int 0, .ref (bb 9), .ref (bb 10)])), ((bb 8), .inl ((kd 8), 8, .inl (fun _ => 0))), ((bb 9), .inl ((kd 9), 64, .inl (fun _ => 0))), ((bb 10), .inl ((kd 10), 1024, .inl (fun _ => 0)))] sz)) 0 0 (va_A [(d0, .inr (2, [.int 0, .ref (bb 0), .ref (bb 1), .ref (bb 2), .ref (bb 3), .int 0, .ref (bb 4), .ref (bb 5), .ref (bb 6), .ref (bb 7), .ref (bb 8), .int 0, .ref (bb 9), .ref (bb 10)])), ((bb 8), .inl ((kd 8), 8, .inl (fun _ => 0))), ((bb 9), .inl ((kd 9), 64, .inl (fun _ => 0))), ((bb 10), .inl ((kd 10), 1024, .inl (fun _ => 0)))] sz) := by
  refine Met.ofW (cc := cX2_round) (maxL := 8) (ret := (some .int)) (by decide) rfl ?_
  intro p e s m args below meth c s₁ B hml hv
  obtain ⟨rfl, hsz, hP, hK, hD0⟩ := hv
  have hx := B.exec
  have hb := B.bytes
  have hr := B.returns
  have hts := atoms_spec (ws := wsPX2_round) B.pre
  have hown : s.vm.findClass RX2 = some m.cls := findClass_of_methodNamed B.named
  have hlocks := B.notSynchronized
  subst hsz
  have hD := hD0.self (sz := s.heap.size)
  generalize hAe : va_A [(d0, .inr (2, [.int 0, .ref (bb 0), .ref (bb 1), .ref (bb 2), .ref (bb 3), .int 0, .ref (bb 4), .ref (bb 5), .ref (bb 6), .ref (bb 7), .ref (bb 8), .int 0, .ref (bb 9), .ref (bb 10)])), ((bb 8), .inl ((kd 8), 8, .inl (fun _ => 0))), ((bb 9), .inl ((kd 9), 64, .inl (fun _ => 0))), ((bb 10), .inl ((kd 10), 1024, .inl (fun _ => 0)))] s.heap.size = A at hD ⊢
  have hA : ∀ q : Nat, s.heap.size ≤ q → A q := fun q h => by rw [← hAe]; exact Or.inr h
  have hS : va_S A s.heap s.heap [] := va_S.rf
  have hP : va_P (dC, dI) vwCl [(d0, .inr (2, [.int 0, .ref (bb 0), .ref (bb 1), .ref (bb 2), .ref (bb 3), .int 0, .ref (bb 4), .ref (bb 5), .ref (bb 6), .ref (bb 7), .ref (bb 8), .int 0, .ref (bb 9), .ref (bb 10)])), ((bb 8), .inl ((kd 8), 8, .inl (fun _ => 0))), ((bb 9), .inl ((kd 9), 64, .inl (fun _ => 0))), ((bb 10), .inl ((kd 10), 1024, .inl (fun _ => 0)))] s.heap := hP
  have hl := lv_entry ([.ref d0, .int (nI nn), .int ii]) (n := 8) (Nat.le_of_ble_eq_true rfl)
  rw [lg_entry_eq]
  generalize (lg_sl ([.ref d0, .int (nI nn), .int ii]) ++ List.replicate (8 - (lg_sl ([.ref d0, .int (nI nn), .int ii])).length) Slot.unset).toArray = ls at hl ⊢
  have hl : lv_has ls 8 [(0, .ref d0), (1, .int (nI nn)), (2, .int ii)] := hl
  refine lv_aload_n hx hb dX2_round_0 rfl (lv_at hl 0 rfl) ?_
  refine lv_iload_n hx hb dX2_round_1 rfl (lv_at hl 1 rfl) ?_
  have hPc := hP.sub (ws' := [(d0, .inr (2, [.int 0, .ref (bb 0), .ref (bb 1), .ref (bb 2), .ref (bb 3), .int 0, .ref (bb 4), .ref (bb 5), .ref (bb 6), .ref (bb 7), .ref (bb 8), .int 0, .ref (bb 9), .ref (bb 10)])), ((bb 8), .inl ((kd 8), 8, .inl (fun _ => 0)))]) [0, 1] rfl
  have hDc := hD.sub (ws' := [(d0, .inr (2, [.int 0, .ref (bb 0), .ref (bb 1), .ref (bb 2), .ref (bb 3), .int 0, .ref (bb 4), .ref (bb 5), .ref (bb 6), .ref (bb 7), .ref (bb 8), .int 0, .ref (bb 9), .ref (bb 10)])), ((bb 8), .inl ((kd 8), 8, .inl (fun _ => 0)))]) [0, 1] (by decide) rfl
  have hKc := hK.sub (tys' := [((kd 8), .int)]) [0] rfl
  have hFc := va_free (wc := [(d0, .inr (2, [.int 0, .ref (bb 0), .ref (bb 1), .ref (bb 2), .ref (bb 3), .int 0, .ref (bb 4), .ref (bb 5), .ref (bb 6), .ref (bb 7), .ref (bb 8), .int 0, .ref (bb 9), .ref (bb 10)])), ((bb 8), .inl ((kd 8), 8, .inl (fun _ => 0)))]) hD hS hA [0, 1] rfl
  refine va_callv (va_runV (As := [.int (nI nn)]) (rest := []) ⟨hx, hb, hml, hown, hts⟩ (p_X2_takeStops l dC dI d0 bb kd (fun _ => 0) nn (by first | omega | decide | assumption | rfl) (by first | omega | decide | assumption | rfl) (by first | omega | decide | assumption | rfl) s.heap.size) (cwV 1 hts gwsPX2_round_0 rfl rfl rfl (by decide +kernel) ⟨by decide +kernel, by decide +kernel⟩) ⟨fun a U g mk q => by obtain ⟨q0, q1, qP, qK, qD⟩ := q; exact ⟨q0, q1, qP, va_K.moved (u := U) (U := U.calling g mk a) (Vm.Alike.refl U.vm) qK, qD⟩, va_recv hKc hPc (ci := 2) (q0 := 0) rfl rfl, fun U hU9 hW => ⟨rfl, by rw [hU9], by rw [hU9]; exact hPc, va_K.moved hW.alike hKc, hDc.weaken (fun _ _ _ _ => trivial)⟩⟩ rfl rfl hl.1 rfl (lv_room (Nat.le_of_ble_eq_true rfl)) dX2_round_2 ⟨by decide +kernel, by decide +kernel⟩) hS (fun q _ h => hFc q h) hFc (fun u t H1 locs ht hvm hw hB hz1 hk1 hS => ?_)
  obtain ⟨Kn2, hwit2⟩ : ∃ w9, w9 = u := ⟨u, rfl⟩
  subst hwit2
  obtain ⟨hP1, hK1, hD1⟩ := hB
  rw [ht] at hP1
  have hK1 := va_K.moved hvm.symm hK1
  obtain ⟨hP, hD⟩ := va_join (wr := [((bb 9), .inl ((kd 9), 64, .inl (fun _ => 0))), ((bb 10), .inl ((kd 10), 1024, .inl (fun _ => 0)))]) (w1 := [(d0, .inr (2, [.int 0, .ref (bb 0), .ref (bb 1), .ref (bb 2), .ref (bb 3), .int 0, .ref (bb 4), .ref (bb 5), .ref (bb 6), .ref (bb 7), .ref (bb 8), .int (nI Kn2), .ref (bb 9), .ref (bb 10)]))]) hP hD [0, 1] [2, 3] rfl rfl (by decide) (by decide) hk1 hFc hP1 hD1
  generalize H1 = H at hP hS ⊢
  have hP : va_P (dC, dI) vwCl [((bb 9), .inl ((kd 9), 64, .inl (fun _ => 0))), ((bb 10), .inl ((kd 10), 1024, .inl (fun _ => 0))), (d0, .inr (2, [.int 0, .ref (bb 0), .ref (bb 1), .ref (bb 2), .ref (bb 3), .int 0, .ref (bb 4), .ref (bb 5), .ref (bb 6), .ref (bb 7), .ref (bb 8), .int (nI Kn2), .ref (bb 9), .ref (bb 10)]))] H := hP
  have hD : va_D A [((bb 9), .inl ((kd 9), 64, .inl (fun _ => 0))), ((bb 10), .inl ((kd 10), 1024, .inl (fun _ => 0))), (d0, .inr (2, [.int 0, .ref (bb 0), .ref (bb 1), .ref (bb 2), .ref (bb 3), .int 0, .ref (bb 4), .ref (bb 5), .ref (bb 6), .ref (bb 7), .ref (bb 8), .int (nI Kn2), .ref (bb 9), .ref (bb 10)]))] := hD
  have f2_0 := hw
  try dsimp only at f2_0
  refine lv_aload_n hx hb dX2_round_5 rfl (lv_at hl 0 rfl) ?_
  have hPc := hP.sub (ws' := [(d0, .inr (2, [.int 0, .ref (bb 0), .ref (bb 1), .ref (bb 2), .ref (bb 3), .int 0, .ref (bb 4), .ref (bb 5), .ref (bb 6), .ref (bb 7), .ref (bb 8), .int (nI Kn2), .ref (bb 9), .ref (bb 10)])), ((bb 9), .inl ((kd 9), 64, .inl (fun _ => 0)))]) [2, 0] rfl
  have hDc := hD.sub (ws' := [(d0, .inr (2, [.int 0, .ref (bb 0), .ref (bb 1), .ref (bb 2), .ref (bb 3), .int 0, .ref (bb 4), .ref (bb 5), .ref (bb 6), .ref (bb 7), .ref (bb 8), .int (nI Kn2), .ref (bb 9), .ref (bb 10)])), ((bb 9), .inl ((kd 9), 64, .inl (fun _ => 0)))]) [2, 0] (by decide) rfl
  have hKc := hK.sub (tys' := [((kd 9), .int)]) [1] rfl
  have hFc := va_free (wc := [(d0, .inr (2, [.int 0, .ref (bb 0), .ref (bb 1), .ref (bb 2), .ref (bb 3), .int 0, .ref (bb 4), .ref (bb 5), .ref (bb 6), .ref (bb 7), .ref (bb 8), .int (nI Kn2), .ref (bb 9), .ref (bb 10)])), ((bb 9), .inl ((kd 9), 64, .inl (fun _ => 0)))]) hD hS hA [2, 0] rfl
  refine va_callv (va_runV (As := []) (rest := []) ⟨hx, hb, hml, hown, hts⟩ (p_X2_takePrices l dC dI d0 bb kd (fun _ => 0) Kn2 (by first | omega | decide | assumption | rfl) H.size) (cwV 0 hts gwsPX2_round_1 rfl rfl rfl (by decide +kernel) ⟨by decide +kernel, by decide +kernel⟩) ⟨fun a U g mk q => by obtain ⟨q0, q1, qP, qK, qD⟩ := q; exact ⟨q0, q1, qP, va_K.moved (u := U) (U := U.calling g mk a) (Vm.Alike.refl U.vm) qK, qD⟩, va_recv hKc hPc (ci := 2) (q0 := 0) rfl rfl, fun U hU9 hW => ⟨rfl, by rw [hU9], by rw [hU9]; exact hPc, va_K.moved hW.alike hKc, hDc.weaken (fun _ _ _ _ => trivial)⟩⟩ rfl rfl hl.1 rfl (lv_room (Nat.le_of_ble_eq_true rfl)) dX2_round_6 ⟨by decide +kernel, by decide +kernel⟩) hS (fun q _ h => hFc q h) hFc (fun u t H1 locs ht hvm hw hB hz1 hk1 hS => ?_)
  obtain ⟨g6, hwit6⟩ : ∃ w9, w9 = u := ⟨u, rfl⟩
  subst hwit6
  obtain ⟨hP1, hK1, hD1⟩ := hB
  rw [ht] at hP1
  have hK1 := va_K.moved hvm.symm hK1
  obtain ⟨hP, hD⟩ := va_join (wr := [((bb 10), .inl ((kd 10), 1024, .inl (fun _ => 0)))]) (w1 := [(d0, .inr (2, [.int 0, .ref (bb 0), .ref (bb 1), .ref (bb 2), .ref (bb 3), .int 0, .ref (bb 4), .ref (bb 5), .ref (bb 6), .ref (bb 7), .ref (bb 8), .int (nI Kn2), .ref (bb 9), .ref (bb 10)])), ((bb 9), .inl ((kd 9), 64, .inl g6))]) hP hD [2, 0] [1] rfl rfl (by decide) (by decide) hk1 hFc hP1 hD1
  generalize H1 = H at hP hS ⊢
  have hP : va_P (dC, dI) vwCl [((bb 10), .inl ((kd 10), 1024, .inl (fun _ => 0))), (d0, .inr (2, [.int 0, .ref (bb 0), .ref (bb 1), .ref (bb 2), .ref (bb 3), .int 0, .ref (bb 4), .ref (bb 5), .ref (bb 6), .ref (bb 7), .ref (bb 8), .int (nI Kn2), .ref (bb 9), .ref (bb 10)])), ((bb 9), .inl ((kd 9), 64, .inl g6))] H := hP
  have hD : va_D A [((bb 10), .inl ((kd 10), 1024, .inl (fun _ => 0))), (d0, .inr (2, [.int 0, .ref (bb 0), .ref (bb 1), .ref (bb 2), .ref (bb 3), .int 0, .ref (bb 4), .ref (bb 5), .ref (bb 6), .ref (bb 7), .ref (bb 8), .int (nI Kn2), .ref (bb 9), .ref (bb 10)])), ((bb 9), .inl ((kd 9), 64, .inl g6))] := hD
  have f6_0 := hw
  try dsimp only at f6_0
  refine lv_iconst (v := 1) hx hb dX2_round_9 (by decide) ?_
  refine lv_aload_n hx hb dX2_round_10 rfl (lv_at hl 0 rfl) ?_
  refine va_get (D := (dC, dI)) (ci := 2) (v := .int (nI Kn2)) (C := RX2) (T := TX2) (N := 14) hx hb hts iwsPX2_round_in2 hown hK hP 1 rfl rfl 11 (by decide) (hts (.fieldLink RX2 98 "OptimaWorks$NetDesk" "stops" "I") (by decide +kernel)) (fun _ h9 => h9) rfl dX2_round_11 ?_
  refine lv_iconst (v := 1) hx hb dX2_round_14 (by decide) ?_
  refine lv_isub hx hb dX2_round_15 ?_
  refine lv_ishl hx hb dX2_round_16 ?_
  refine lv_iconst (v := 1) hx hb dX2_round_17 (by decide) ?_
  refine lv_isub hx hb dX2_round_18 ?_
  obtain ⟨al, hal, eal⟩ := all_ok2 Kn2 (by omega) (by omega)
  refine lv_topi (fun y1 hy1 => ?_)
  obtain rfl : (nI al) = y1 := (hy1.trans (eal)).symm
  refine lv_istore_n (lv' := [(3, .int (nI al)), (0, .ref d0), (1, .int (nI nn)), (2, .int ii)]) hx hb dX2_round_19 rfl hl (by decide) rfl (fun ls hl => ?_)
  refine lv_iconst (v := 0) hx hb dX2_round_20 (by decide) ?_
  refine lv_istore (lv' := [(4, .int 0), (3, .int (nI al)), (0, .ref d0), (1, .int (nI nn)), (2, .int ii)]) hx hb dX2_round_21 hl (by decide) rfl (fun ls hl => ?_)
  have hl := lv_sub hl [0, 1, 2, 3, 4] (l' := [(4, .int (nI 0)), (3, .int (nI al)), (0, .ref d0), (1, .int (nI nn)), (2, .int ii)]) rfl
  refine (fun (loop : ∀ (n9 : Nat) (lf : Nat) (gr : Nat → Int32) (H : Heap) (locs : List Loc) (ls : Array Slot), (lf ≤ al + 1) → (∀ j, j < 1024 → 0 ≤ (gr j).toInt ∧ (gr j).toInt ≤ 536870912) → (1 ≤ lf → gr ((lf - 1) * 8) = 536870912) →  (128 < lf + n9) → va_P (dC, dI) vwCl [((bb 10), .inl ((kd 10), 1024, .inl gr)), (d0, .inr (2, [.int 0, .ref (bb 0), .ref (bb 1), .ref (bb 2), .ref (bb 3), .int 0, .ref (bb 4), .ref (bb 5), .ref (bb 6), .ref (bb 7), .ref (bb 8), .int (nI Kn2), .ref (bb 9), .ref (bb 10)])), ((bb 9), .inl ((kd 9), 64, .inl g6))] H → va_D A [((bb 10), .inl ((kd 10), 1024, .inl gr)), (d0, .inr (2, [.int 0, .ref (bb 0), .ref (bb 1), .ref (bb 2), .ref (bb 3), .int 0, .ref (bb 4), .ref (bb 5), .ref (bb 6), .ref (bb 7), .ref (bb 8), .int (nI Kn2), .ref (bb 9), .ref (bb 10)])), ((bb 9), .inl ((kd 9), 64, .inl g6))] → va_S A s.heap H locs → lv_has ls 8 [(4, .int (nI lf)), (3, .int (nI al)), (0, .ref d0), (1, .int (nI nn)), (2, .int ii)] → W p l e _ s m _ below meth c H locs 0 0 _ (F0 m 23 ls [])) => loop (129) 0 (fun _ => 0) _ _ _ (by omega) (fun j hj => by constructor <;> decide) (fun h9 => absurd h9 (by omega)) (by omega) hP hD hS hl) ?_
  intro n9
  induction n9 with
  | zero => intro lf gr H locs ls hlf hrr hlast hf9; exact False.elim (by omega)
  | succ n9 ih23 =>
    intro lf gr H locs ls hlf hrr hlast hf23 hP hD hS hl
    refine lv_iload hx hb dX2_round_23 (lv_at hl 0 rfl) ?_
    refine lv_iload_n hx hb dX2_round_25 rfl (lv_at hl 1 rfl) ?_
    refine lv_icmp_gt (tgt := 74) hx hb dX2_round_26 (by decide) (fun c_26 => ?_) (fun c_26 => ?_)
    · have t_26 : ((lf : Nat) : Int) > ((al : Nat) : Int) := toI_gt c_26 (nI_toInt (by omega)) (nI_toInt (by omega))
      refine lv_aload_n hx hb dX2_round_74 rfl (lv_at hl 2 rfl) ?_
      refine va_get (D := (dC, dI)) (ci := 2) (v := .ref (bb 10)) (C := RX2) (T := TX2) (N := 14) hx hb hts iwsPX2_round_in2 hown hK hP 1 rfl rfl 13 (by decide) (hts (.fieldLink RX2 42 "OptimaWorks$NetDesk" "rest" "[I") (by decide +kernel)) (fun _ h9 => h9) rfl dX2_round_75 ?_
      refine lv_iload_n hx hb dX2_round_78 rfl (lv_at hl 1 rfl) ?_
      refine lv_bipush (v := 8) hx hb dX2_round_79 (by decide) ?_
      refine lv_imul hx hb dX2_round_81 ?_
      refine lv_topi (fun y2 hy2 => ?_)
      obtain rfl : (nI (al * 8)) = y2 := (hy2.trans (pk_mul al 8)).symm
      refine va_iald hx hb hK hP 0 2 rfl rfl (vp_in_nI (show (al * 8) < 1024 by omega) (by omega)) dX2_round_82 ?_
      refine lv_topi (fun y3 hy3 => ?_)
      obtain rfl : 536870912 = y3 := (hy3.trans (by rw [nI_clamp (by omega)]; exact (by have h9 := hlast (by omega); rwa [show lf = al + 1 by omega] at h9))).symm
      refine lv_istore (lv' := [(4, .int 536870912), (3, .int (nI al)), (0, .ref d0), (1, .int (nI nn)), (2, .int ii)]) hx hb dX2_round_83 hl (by decide) rfl (fun ls hl => ?_)
      refine lv_iload hx hb dX2_round_85 (lv_at hl 0 rfl) ?_
      refine lv_ldc (v := 536870912) hx hb hown (hts (.constant RX2 60 536870912) (by decide +kernel)) dX2_round_87 ?_
      refine lv_icmp_ge (tgt := 98) hx hb dX2_round_89 (by decide) (fun _ => ?_) (fun c9 => absurd (by decide) c9)
      refine lv_iload hx hb dX2_round_98 (lv_at hl 0 rfl) ?_
      refine lv_ldc (v := 536870912) hx hb hown (hts (.constant RX2 60 536870912) (by decide +kernel)) dX2_round_100 ?_
      refine lv_icmp_lt (tgt := 109) hx hb dX2_round_102 (by decide) (fun c9 => absurd c9 (by decide)) (fun _ => ?_)
      refine lv_iconst (v := (-1)) hx hb dX2_round_105 (by decide) ?_
      refine lv_goto (tgt := 111) hx hb dX2_round_106 (by decide) ?_
      refine W.widen (k := 0) (n := 0) (by decide +kernel) (by decide +kernel) ?_
      exact W.iret (v := (-1)) hx hb hr (fun t ht hW => ⟨⟨(-1), (), rfl, by (first | rfl | assumption | trivial | omega | (simp [c_26]; done) | (simp; omega)), by rw [ht]; exact hP.sub [] rfl, va_K.moved hW.alike (hK.sub [] rfl), hD.sub [] (by decide) rfl⟩, hS.F ht⟩) hS.2.2 dX2_round_111
    · have t_26 : ¬ ((lf : Nat) : Int) > ((al : Nat) : Int) := toI_ngt c_26 (nI_toInt (by omega)) (nI_toInt (by omega))
      refine lv_iconst (v := 0) hx hb dX2_round_29 (by decide) ?_
      refine lv_istore (lv' := [(5, .int 0), (4, .int (nI lf)), (3, .int (nI al)), (0, .ref d0), (1, .int (nI nn)), (2, .int ii)]) hx hb dX2_round_30 hl (by decide) rfl (fun ls hl => ?_)
      have hl := lv_sub hl [0, 1, 2, 3, 4, 5] (l' := [(5, .int (nI 0)), (4, .int (nI lf)), (3, .int (nI al)), (0, .ref d0), (1, .int (nI nn)), (2, .int ii)]) rfl
      refine (fun (loop : ∀ (n9 : Nat) (at1 : Nat) (gr : Nat → Int32) (H : Heap) (locs : List Loc) (ls : Array Slot), (at1 ≤ Kn2) → (∀ j, j < 1024 → 0 ≤ (gr j).toInt ∧ (gr j).toInt ≤ 536870912) → (1 ≤ at1 → gr (lf * 8) = 536870912) →  (8 < at1 + n9) → va_P (dC, dI) vwCl [((bb 10), .inl ((kd 10), 1024, .inl gr)), (d0, .inr (2, [.int 0, .ref (bb 0), .ref (bb 1), .ref (bb 2), .ref (bb 3), .int 0, .ref (bb 4), .ref (bb 5), .ref (bb 6), .ref (bb 7), .ref (bb 8), .int (nI Kn2), .ref (bb 9), .ref (bb 10)])), ((bb 9), .inl ((kd 9), 64, .inl g6))] H → va_D A [((bb 10), .inl ((kd 10), 1024, .inl gr)), (d0, .inr (2, [.int 0, .ref (bb 0), .ref (bb 1), .ref (bb 2), .ref (bb 3), .int 0, .ref (bb 4), .ref (bb 5), .ref (bb 6), .ref (bb 7), .ref (bb 8), .int (nI Kn2), .ref (bb 9), .ref (bb 10)])), ((bb 9), .inl ((kd 9), 64, .inl g6))] → va_S A s.heap H locs → lv_has ls 8 [(5, .int (nI at1)), (4, .int (nI lf)), (3, .int (nI al)), (0, .ref d0), (1, .int (nI nn)), (2, .int ii)] → W p l e _ s m _ below meth c H locs 0 0 _ (F0 m 32 ls [])) => loop (9) 0 gr _ _ _ (by omega) (hrr) (fun h9 => absurd h9 (by omega)) (by omega) hP hD hS hl) ?_
      intro n9
      induction n9 with
      | zero => intro at1 gr H locs ls hat hrr hl9 hf9; exact False.elim (by omega)
      | succ n9 ih32_1 =>
        intro at1 gr H locs ls hat hrr hl9 hf32_1 hP hD hS hl
        refine lv_iload hx hb dX2_round_32 (lv_at hl 0 rfl) ?_
        refine lv_aload_n hx hb dX2_round_34 rfl (lv_at hl 3 rfl) ?_
        refine va_get (D := (dC, dI)) (ci := 2) (v := .int (nI Kn2)) (C := RX2) (T := TX2) (N := 14) hx hb hts iwsPX2_round_in2 hown hK hP 1 rfl rfl 11 (by decide) (hts (.fieldLink RX2 98 "OptimaWorks$NetDesk" "stops" "I") (by decide +kernel)) (fun _ h9 => h9) rfl dX2_round_35 ?_
        refine lv_icmp_ge (tgt := 68) hx hb dX2_round_38 (by decide) (fun c_38 => ?_) (fun c_38 => ?_)
        · have t_38 : ((at1 : Nat) : Int) ≥ ((Kn2 : Nat) : Int) := toI_ge c_38 (nI_toInt (by omega)) (nI_toInt (by omega))
          refine lv_iinc (v := (nI (lf + 1))) (lv' := [(4, .int (nI (lf + 1))), (5, .int (nI at1)), (3, .int (nI al)), (0, .ref d0), (1, .int (nI nn)), (2, .int ii)]) hx hb dX2_round_68 hl (k := 1) rfl (nI_add lf 1) (by decide) rfl (fun ls hl => ?_)
          refine lv_goto (tgt := 23) hx hb dX2_round_71 (by decide) ?_
          have hl := lv_sub hl [0, 2, 3, 4, 5] (l' := [(4, .int (nI (lf + 1))), (3, .int (nI al)), (0, .ref d0), (1, .int (nI nn)), (2, .int ii)]) rfl
          exact ih23 (lf + 1) gr _ _ _ (by omega) (hrr) (fun _ => by rw [show lf + 1 - 1 = lf by omega]; exact hl9 (by omega)) (by omega) hP hD hS hl
        · have t_38 : ¬ ((at1 : Nat) : Int) ≥ ((Kn2 : Nat) : Int) := toI_nge c_38 (nI_toInt (by omega)) (nI_toInt (by omega))
          refine lv_aload_n hx hb dX2_round_41 rfl (lv_at hl 3 rfl) ?_
          refine va_get (D := (dC, dI)) (ci := 2) (v := .ref (bb 10)) (C := RX2) (T := TX2) (N := 14) hx hb hts iwsPX2_round_in2 hown hK hP 1 rfl rfl 13 (by decide) (hts (.fieldLink RX2 42 "OptimaWorks$NetDesk" "rest" "[I") (by decide +kernel)) (fun _ h9 => h9) rfl dX2_round_42 ?_
          refine lv_iload hx hb dX2_round_45 (lv_at hl 1 rfl) ?_
          refine lv_bipush (v := 8) hx hb dX2_round_47 (by decide) ?_
          refine lv_imul hx hb dX2_round_49 ?_
          refine lv_topi (fun y4 hy4 => ?_)
          obtain rfl : (nI (lf * 8)) = y4 := (hy4.trans (pk_mul lf 8)).symm
          refine lv_iload hx hb dX2_round_50 (lv_at hl 0 rfl) ?_
          refine lv_iadd hx hb dX2_round_52 ?_
          refine lv_topi (fun y5 hy5 => ?_)
          obtain rfl : (nI ((lf * 8) + at1)) = y5 := (hy5.trans (nI_add (lf * 8) at1)).symm
          refine lv_aload_n hx hb dX2_round_53 rfl (lv_at hl 3 rfl) ?_
          refine lv_iload hx hb dX2_round_54 (lv_at hl 1 rfl) ?_
          refine lv_iload hx hb dX2_round_56 (lv_at hl 0 rfl) ?_
          have hPc := hP.sub (ws' := [(d0, .inr (2, [.int 0, .ref (bb 0), .ref (bb 1), .ref (bb 2), .ref (bb 3), .int 0, .ref (bb 4), .ref (bb 5), .ref (bb 6), .ref (bb 7), .ref (bb 8), .int (nI Kn2), .ref (bb 9), .ref (bb 10)])), ((bb 9), .inl ((kd 9), 64, .inl g6)), ((bb 10), .inl ((kd 10), 1024, .inl gr))]) [1, 2, 0] rfl
          have hDc := hD.sub (ws' := [(d0, .inr (2, [.int 0, .ref (bb 0), .ref (bb 1), .ref (bb 2), .ref (bb 3), .int 0, .ref (bb 4), .ref (bb 5), .ref (bb 6), .ref (bb 7), .ref (bb 8), .int (nI Kn2), .ref (bb 9), .ref (bb 10)])), ((bb 9), .inl ((kd 9), 64, .inl g6)), ((bb 10), .inl ((kd 10), 1024, .inl gr))]) [1, 2, 0] (by decide) rfl
          have hKc := hK.sub (tys' := [((kd 9), .int), ((kd 10), .int)]) [1, 2] rfl
          have hFc := va_free (wc := [(d0, .inr (2, [.int 0, .ref (bb 0), .ref (bb 1), .ref (bb 2), .ref (bb 3), .int 0, .ref (bb 4), .ref (bb 5), .ref (bb 6), .ref (bb 7), .ref (bb 8), .int (nI Kn2), .ref (bb 9), .ref (bb 10)])), ((bb 9), .inl ((kd 9), 64, .inl g6)), ((bb 10), .inl ((kd 10), 1024, .inl gr))]) hD hS hA [1, 2, 0] rfl
          refine va_calli (va_runV (As := [.int (nI lf), .int (nI at1)]) (rest := [.int (nI ((lf * 8) + at1)), .ref (bb 10)]) ⟨hx, hb, hml, hown, hts⟩ (p_X2_restFrom l dC dI d0 bb kd g6 gr Kn2 lf at1 (by first | omega | decide | assumption | rfl) (by first | omega | decide | assumption | rfl) (by first | omega | decide | assumption | rfl) (f6_0) (hrr) H.size) (cwV 2 hts gwsPX2_round_2 rfl rfl rfl (by decide +kernel) ⟨by decide +kernel, by decide +kernel⟩) ⟨fun a U g mk q => by obtain ⟨q0, q1, qP, qK, qD⟩ := q; exact ⟨q0, q1, qP, va_K.moved (u := U) (U := U.calling g mk a) (Vm.Alike.refl U.vm) qK, qD⟩, va_recv hKc hPc (ci := 2) (q0 := 0) rfl rfl, fun U hU9 hW => ⟨rfl, by rw [hU9], by rw [hU9]; exact hPc, va_K.moved hW.alike hKc, hDc.weaken (fun _ _ _ _ => trivial)⟩⟩ rfl rfl hl.1 rfl (lv_room (Nat.le_of_ble_eq_true rfl)) dX2_round_58 ⟨by decide +kernel, by decide +kernel⟩) hS (fun q _ h => hFc q h) hFc (fun r58 u t H1 locs ht hvm hw hB hz1 hk1 hS => ?_)
          obtain ⟨hP1, hK1, hD1⟩ := hB
          rw [ht] at hP1
          have hK1 := va_K.moved hvm.symm hK1
          obtain ⟨hP, hD⟩ := va_join (wr := []) (w1 := [(d0, .inr (2, [.int 0, .ref (bb 0), .ref (bb 1), .ref (bb 2), .ref (bb 3), .int 0, .ref (bb 4), .ref (bb 5), .ref (bb 6), .ref (bb 7), .ref (bb 8), .int (nI Kn2), .ref (bb 9), .ref (bb 10)])), ((bb 9), .inl ((kd 9), 64, .inl g6)), ((bb 10), .inl ((kd 10), 1024, .inl gr))]) hP hD [1, 2, 0] [] rfl rfl (by decide) (by decide) hk1 hFc hP1 hD1
          generalize H1 = H at hP hS ⊢
          have hP : va_P (dC, dI) vwCl [(d0, .inr (2, [.int 0, .ref (bb 0), .ref (bb 1), .ref (bb 2), .ref (bb 3), .int 0, .ref (bb 4), .ref (bb 5), .ref (bb 6), .ref (bb 7), .ref (bb 8), .int (nI Kn2), .ref (bb 9), .ref (bb 10)])), ((bb 9), .inl ((kd 9), 64, .inl g6)), ((bb 10), .inl ((kd 10), 1024, .inl gr))] H := hP
          have hD : va_D A [(d0, .inr (2, [.int 0, .ref (bb 0), .ref (bb 1), .ref (bb 2), .ref (bb 3), .int 0, .ref (bb 4), .ref (bb 5), .ref (bb 6), .ref (bb 7), .ref (bb 8), .int (nI Kn2), .ref (bb 9), .ref (bb 10)])), ((bb 9), .inl ((kd 9), 64, .inl g6)), ((bb 10), .inl ((kd 10), 1024, .inl gr))] := hD
          obtain rfl := hw
          refine va_iast hx hb hK hP hD hS 2 2 rfl rfl (vp_in_nI (show ((lf * 8) + at1) < 1024 by omega) (by omega)) dX2_round_61 (fun H locs hP hD hS => ?_)
          have hP : va_P (dC, dI) vwCl [(d0, .inr (2, [.int 0, .ref (bb 0), .ref (bb 1), .ref (bb 2), .ref (bb 3), .int 0, .ref (bb 4), .ref (bb 5), .ref (bb 6), .ref (bb 7), .ref (bb 8), .int (nI Kn2), .ref (bb 9), .ref (bb 10)])), ((bb 9), .inl ((kd 9), 64, .inl g6)), ((bb 10), .inl ((kd 10), 1024, .inl (upd gr ((nI ((lf * 8) + at1))).toNatClampNeg 536870912)))] H := hP
          have hD : va_D A [(d0, .inr (2, [.int 0, .ref (bb 0), .ref (bb 1), .ref (bb 2), .ref (bb 3), .int 0, .ref (bb 4), .ref (bb 5), .ref (bb 6), .ref (bb 7), .ref (bb 8), .int (nI Kn2), .ref (bb 9), .ref (bb 10)])), ((bb 9), .inl ((kd 9), 64, .inl g6)), ((bb 10), .inl ((kd 10), 1024, .inl (upd gr ((nI ((lf * 8) + at1))).toNatClampNeg 536870912)))] := hD
          refine lv_iinc (v := (nI (at1 + 1))) (lv' := [(5, .int (nI (at1 + 1))), (4, .int (nI lf)), (3, .int (nI al)), (0, .ref d0), (1, .int (nI nn)), (2, .int ii)]) hx hb dX2_round_62 hl (k := 0) rfl (nI_add at1 1) (by decide) rfl (fun ls hl => ?_)
          refine lv_goto (tgt := 32) hx hb dX2_round_65 (by decide) ?_
          have hl := lv_sub hl [0, 1, 2, 3, 4, 5] (l' := [(5, .int (nI (at1 + 1))), (4, .int (nI lf)), (3, .int (nI al)), (0, .ref d0), (1, .int (nI nn)), (2, .int ii)]) rfl
          have hP := hP.sub (ws' := [((bb 10), .inl ((kd 10), 1024, .inl (upd gr ((nI ((lf * 8) + at1))).toNatClampNeg 536870912))), (d0, .inr (2, [.int 0, .ref (bb 0), .ref (bb 1), .ref (bb 2), .ref (bb 3), .int 0, .ref (bb 4), .ref (bb 5), .ref (bb 6), .ref (bb 7), .ref (bb 8), .int (nI Kn2), .ref (bb 9), .ref (bb 10)])), ((bb 9), .inl ((kd 9), 64, .inl g6))]) [2, 0, 1] rfl
          have hD := hD.sub (ws' := [((bb 10), .inl ((kd 10), 1024, .inl (upd gr ((nI ((lf * 8) + at1))).toNatClampNeg 536870912))), (d0, .inr (2, [.int 0, .ref (bb 0), .ref (bb 1), .ref (bb 2), .ref (bb 3), .int 0, .ref (bb 4), .ref (bb 5), .ref (bb 6), .ref (bb 7), .ref (bb 8), .int (nI Kn2), .ref (bb 9), .ref (bb 10)])), ((bb 9), .inl ((kd 9), 64, .inl g6))]) [2, 0, 1] (by decide) rfl
          exact ih32_1 (at1 + 1) (upd gr ((nI ((lf * 8) + at1))).toNatClampNeg 536870912) _ _ _ (by omega) (fun j hj => by rw [upd_at (by omega)]; split; (constructor <;> decide); exact hrr j hj) (fun _ => by rw [upd_at (by omega)]; by_cases e9 : lf * 8 = lf * 8 + at1; (rw [if_pos e9]); (rw [if_neg e9]; exact hl9 (by omega))) (by omega) hP hD hS hl
theorem dX11_tour_0 : decode cX11_tour 0 = .ok (.iload_n 1, 1) := by decide +kernel
theorem dX11_tour_1 : decode cX11_tour 1 = .ok (.invokestatic 456, 3) := by decide +kernel
theorem dX11_tour_4 : decode cX11_tour 4 = .ok (.istore_n 3, 1) := by decide +kernel
theorem dX11_tour_5 : decode cX11_tour 5 = .ok (.iload_n 1, 1) := by decide +kernel
theorem dX11_tour_6 : decode cX11_tour 6 = .ok (.ifCond .lt 21, 3) := by decide +kernel
theorem dX11_tour_9 : decode cX11_tour 9 = .ok (.iload_n 1, 1) := by decide +kernel
theorem dX11_tour_10 : decode cX11_tour 10 = .ok (.sipush 4096, 3) := by decide +kernel
theorem dX11_tour_13 : decode cX11_tour 13 = .ok (.if_icmp .ge 14, 3) := by decide +kernel
theorem dX11_tour_16 : decode cX11_tour 16 = .ok (.iload_n 3, 1) := by decide +kernel
theorem dX11_tour_17 : decode cX11_tour 17 = .ok (.iconst 2, 1) := by decide +kernel
theorem dX11_tour_18 : decode cX11_tour 18 = .ok (.if_icmp .lt 9, 3) := by decide +kernel
theorem dX11_tour_21 : decode cX11_tour 21 = .ok (.iload_n 3, 1) := by decide +kernel
theorem dX11_tour_22 : decode cX11_tour 22 = .ok (.bipush 8, 2) := by decide +kernel
theorem dX11_tour_24 : decode cX11_tour 24 = .ok (.if_icmp .le 11, 3) := by decide +kernel
theorem dX11_tour_27 : decode cX11_tour 27 = .ok (.new 77, 3) := by decide +kernel
theorem dX11_tour_30 : decode cX11_tour 30 = .ok (.dup, 1) := by decide +kernel
theorem dX11_tour_31 : decode cX11_tour 31 = .ok (.invokespecial 79, 3) := by decide +kernel
theorem dX11_tour_34 : decode cX11_tour 34 = .ok (.athrow, 1) := by decide +kernel
theorem dX11_tour_35 : decode cX11_tour 35 = .ok (.aload_n 0, 1) := by decide +kernel
theorem dX11_tour_36 : decode cX11_tour 36 = .ok (.invokevirtual 425, 3) := by decide +kernel
theorem dX11_tour_39 : decode cX11_tour 39 = .ok (.iload_n 1, 1) := by decide +kernel
theorem dX11_tour_40 : decode cX11_tour 40 = .ok (.iload_n 2, 1) := by decide +kernel
theorem dX11_tour_41 : decode cX11_tour 41 = .ok (.invokevirtual 461, 3) := by decide +kernel
theorem dX11_tour_44 : decode cX11_tour 44 = .ok (.ireturn, 1) := by decide +kernel
def wsPX11_tour : List Cond := .code yX11_tour cX11_tour 4 (some .int) :: ([.classLink RX11 77 "java/lang/IllegalArgumentException", .initialized "java/lang/IllegalArgumentException"] ++ (va_wsS RX11 456 yJ6_bitCount_0f7a4 wsPJ6_bitCount_0f7a4) ++ ((vx_at0 RX11 79 "java/lang/IllegalArgumentException" ["java/lang/RuntimeException", "java/lang/Exception"]).filter goodWord) ++ (wsV RX11 425 RX11 yX11_theNets wsPX11_theNets) ++ (wsV RX11 461 RX2 yX2_round wsPX2_round))
theorem gwsPX11_tour_0 : GoodIn wsPX11_tour (va_wsS RX11 456 yJ6_bitCount_0f7a4 wsPJ6_bitCount_0f7a4) := goodIn_sub (fun _ h => List.mem_cons_of_mem _ (List.mem_append_left _ (List.mem_append_left _ (List.mem_append_left _ (List.mem_append_right _ h))))) (by decide +kernel)
theorem gwsPX11_tour_2 : GoodIn wsPX11_tour (wsV RX11 425 RX11 yX11_theNets wsPX11_theNets) := goodIn_sub (fun _ h => List.mem_cons_of_mem _ (List.mem_append_left _ (List.mem_append_right _ h))) (by decide +kernel)
theorem gwsPX11_tour_3 : GoodIn wsPX11_tour (wsV RX11 461 RX2 yX2_round wsPX2_round) := goodIn_sub (fun _ h => List.mem_cons_of_mem _ (List.mem_append_right _ h)) (by decide +kernel)
set_option maxHeartbeats 4000000 in
set_option maxRecDepth 100000 in
/-- tour(nodes, i) -/
theorem p_X11_tour (l : Launch) (hst : l.stackTraces = false) (dC : Nat → ClassId) (dI : Nat → Nat → Nat) (h0 : Nat) (a : Nat → Nat) (nd : Int32) (ii : Int32) (sz : Nat) : vx_Met l yX11_tour wsPX11_tour ({ frames := 6, cells := 13, slots := 1484, locals := 87 }) (va_Pc [.ref h0, .int nd, .int ii] (fun U => U.heap.size = sz ∧ va_P (dC, dI) vwCl [(h0, .inr (11, [.ref (a 0), .ref (a 1), .ref (a 3), .ref (a 14), .int 0, .null, .null, .null, .null, .null, .null]))] U.heap ∧ va_K (dC, dI) vwCl [] U ∧ va_D (fun _ => True) [(h0, .inr (11, [.ref (a 0), .ref (a 1), .ref (a 3), .ref (a 14), .int 0, .null, .null, .null, .null, .null, .null]))] ∧ vx_Zq Bundle.tN "UNASSIGNED_STACK" Bundle.steD (va_A [(h0, .inr (11, [.ref (a 0), .ref (a 1), .ref (a 3), .ref (a 14), .int 0, .null, .null, .null, .null, .null, .null]))] sz) U U.heap ∧ vx_Zq Bundle.tN "SUPPRESSED_SENTINEL" Bundle.listD (va_A [(h0, .inr (11, [.ref (a 0), .ref (a 1), .ref (a 3), .ref (a 14), .int 0, .null, .null, .null, .null, .null, .null]))] sz) U U.heap ∧ (∀ w ∈ ngX11_79, va_Nw w U) ∧ va_Nw (.methodLinkNest RX11 421 yX2_init RX11) U)) (va_Qi (fun (r : Int32) (u : Unit) => r = (-1) ∧ (0 ≤ (nd).toInt ∧ (nd).toInt < 4096 ∧ 2 ≤ cnt (nd).toNatClampNeg 12 ∧ cnt (nd).toNatClampNeg 12 ≤ 8)) (fun (u : Unit) t => va_P (dC, dI) vwCl [] t.heap ∧ va_K (dC, dI) vwCl [] t ∧ va_D (va_A [(h0, .inr (11, [.ref (a 0), .ref (a 1), .ref (a 3), .ref (a 14), .int 0, .null, .null, .null, .null, .null, .null]))] sz) []) (va_A [(h0, .inr (11, [.ref (a 0), .ref (a 1), .ref (a 3), .ref (a 14), .int 0, .null, .null, .null, .null, .null, .null]))] sz)) (vx_X (fun n : String => (n = "java/lang/IllegalArgumentException" ∧ ((nd).toInt < 0 ∨ 4096 ≤ (nd).toInt ∨ cnt (nd).toNatClampNeg 12 < 2 ∨ 8 < cnt (nd).toNatClampNeg 12))) (fun E n t => E = n) (va_A [(h0, .inr (11, [.ref (a 0), .ref (a 1), .ref (a 3), .ref (a 14), .int 0, .null, .null, .null, .null, .null, .null]))] sz)) 13 1484 (va_A [(h0, .inr (11, [.ref (a 0), .ref (a 1), .ref (a 3), .ref (a 14), .int 0, .null, .null, .null, .null, .null, .null]))] sz) := by
  refine vx_ofW (cc := cX11_tour) (maxL := 4) (ret := (some .int)) (by decide) rfl ?_
  intro p e s m args below meth c s₁ B hml htab hv
  obtain ⟨rfl, hsz, hP, hK, hD0, hU, hN, hngX11_79, hnX11_421⟩ := hv
  have hx := B.exec
  have hb := B.bytes
  have hr := B.returns
  have hts := atoms_spec (ws := wsPX11_tour) B.pre
  have hown : s.vm.findClass RX11 = some m.cls := findClass_of_methodNamed B.named
  have hlocks := B.notSynchronized
  subst hsz
  have hD := hD0.self (sz := s.heap.size)
  generalize hAe : va_A [(h0, .inr (11, [.ref (a 0), .ref (a 1), .ref (a 3), .ref (a 14), .int 0, .null, .null, .null, .null, .null, .null]))] s.heap.size = A at hD hU hN ⊢
  have hA : ∀ q : Nat, s.heap.size ≤ q → A q := fun q h => by rw [← hAe]; exact Or.inr h
  have hS : va_S A s.heap s.heap [] := va_S.rf
  have hP : va_P (dC, dI) vwCl [(h0, .inr (11, [.ref (a 0), .ref (a 1), .ref (a 3), .ref (a 14), .int 0, .null, .null, .null, .null, .null, .null]))] s.heap := hP
  have hl := lv_entry ([.ref h0, .int nd, .int ii]) (n := 4) (Nat.le_of_ble_eq_true rfl)
  rw [lg_entry_eq]
  generalize (lg_sl ([.ref h0, .int nd, .int ii]) ++ List.replicate (4 - (lg_sl ([.ref h0, .int nd, .int ii])).length) Slot.unset).toArray = ls at hl ⊢
  have hl : lv_has ls 4 [(0, .ref h0), (1, .int nd), (2, .int ii)] := hl
  refine lv_iload_n hx hb dX11_tour_0 rfl (lv_at hl 1 rfl) ?_
  have hPc := hP.sub (ws' := []) [] rfl
  have hDc := hD.sub (ws' := []) [] (by decide) rfl
  have hKc := hK.sub (tys' := []) [] rfl
  have hFc := va_free (wc := []) hD hS hA [] rfl
  refine va_calli (va_runS (As := [.int nd]) (rest := []) ⟨hx, hb, hml, hown, hts⟩ (p_J6_bitCount_0f7a4 l dC dI nd s.heap.size) (va_cwS 1 hts gwsPX11_tour_0 rfl rfl rfl (by decide +kernel) ⟨by decide +kernel, by decide +kernel⟩) ⟨fun a U g mk q => by obtain ⟨q0, q1, qP, qK, qD⟩ := q; exact ⟨q0, q1, qP, va_K.moved (u := U) (U := U.calling g mk a) (Vm.Alike.refl U.vm) qK, qD⟩, fun U hU9 hW => ⟨rfl, by rw [hU9], by rw [hU9]; exact hPc, va_K.moved hW.alike hKc, hDc.weaken (fun _ _ _ _ => trivial)⟩⟩ rfl rfl hl.1 rfl (lv_room (Nat.le_of_ble_eq_true rfl)) dX11_tour_1 ⟨by decide +kernel, by decide +kernel⟩) hS (fun q _ h => hFc q h) hFc (fun r1 u t H1 locs ht hvm hw hB hz1 hk1 hS => ?_)
  obtain ⟨hP1, hK1, hD1⟩ := hB
  rw [ht] at hP1
  have hK1 := va_K.moved hvm.symm hK1
  obtain ⟨hP, hD⟩ := va_join (wr := [(h0, .inr (11, [.ref (a 0), .ref (a 1), .ref (a 3), .ref (a 14), .int 0, .null, .null, .null, .null, .null, .null]))]) (w1 := []) hP hD [] [0] rfl rfl (by decide) (by decide) hk1 hFc hP1 hD1
  generalize H1 = H at hP hS ⊢
  have hP : va_P (dC, dI) vwCl [(h0, .inr (11, [.ref (a 0), .ref (a 1), .ref (a 3), .ref (a 14), .int 0, .null, .null, .null, .null, .null, .null]))] H := hP
  have hD : va_D A [(h0, .inr (11, [.ref (a 0), .ref (a 1), .ref (a 3), .ref (a 14), .int 0, .null, .null, .null, .null, .null, .null]))] := hD
  obtain rfl := hw
  refine lv_istore_n (lv' := [(3, .int (bcE nd)), (0, .ref h0), (1, .int nd), (2, .int ii)]) hx hb dX11_tour_4 rfl hl (by decide) rfl (fun ls hl => ?_)
  refine lv_iload_n hx hb dX11_tour_5 rfl (lv_at hl 2 rfl) ?_
  refine lv_if_lt (tgt := 27) hx hb dX11_tour_6 (by decide) (fun c_6 => ?_) (fun c_6 => ?_)
  · have t_6 : (nd).toInt < 0 := toI_lt c_6 rfl (by decide)
    exact vx_throw0 (own := RX11) (cls := "java/lang/IllegalArgumentException") (names := ["java/lang/RuntimeException", "java/lang/Exception"]) (ik := 77) (ic := 79) (A := A) hx hb hst hown (by decide +kernel) (by decide +kernel) (hts (.classLink RX11 77 "java/lang/IllegalArgumentException") (by decide +kernel)) (hts (.initialized "java/lang/IllegalArgumentException") (by decide +kernel)) (vx_hat (B := ngX11_79) (fun w h => hts w (List.mem_cons_of_mem _ (List.mem_append_left _ (List.mem_append_left _ (List.mem_append_right _ h))))) (fun _ h => h) (fun w h => va_Nw.use (ngX11_79_ot w h) (hngX11_79 w h))) (by decide +kernel) hU hN hS (by rw [hml]; exact hl.1) dX11_tour_27 dX11_tour_30 dX11_tour_31 dX11_tour_34 (fun x hx9 => (htab x hx9).elim) (by decide +kernel) (Nat.le_of_ble_eq_true rfl) (by decide +kernel) (by decide +kernel) hlocks (fun t hvm hz hk => ⟨"java/lang/IllegalArgumentException", ⟨rfl, by omega⟩, rfl, ⟨Nat.le_trans hS.1 hz, fun q h1 h2 => (hk q (Nat.lt_of_lt_of_le h1 hS.1)).trans (hS.2.1 q h1 h2)⟩⟩) hS.2.2 (by decide +kernel) (by decide +kernel)
  · have t_6 : ¬ (nd).toInt < 0 := toI_nlt c_6 rfl (by decide)
    refine lv_iload_n hx hb dX11_tour_9 rfl (lv_at hl 2 rfl) ?_
    refine lv_sipush (v := 4096) hx hb dX11_tour_10 (by decide) ?_
    refine lv_icmp_ge (tgt := 27) hx hb dX11_tour_13 (by decide) (fun c_13 => ?_) (fun c_13 => ?_)
    · have t_13 : (nd).toInt ≥ 4096 := toI_ge c_13 rfl (by decide)
      exact vx_throw0 (own := RX11) (cls := "java/lang/IllegalArgumentException") (names := ["java/lang/RuntimeException", "java/lang/Exception"]) (ik := 77) (ic := 79) (A := A) hx hb hst hown (by decide +kernel) (by decide +kernel) (hts (.classLink RX11 77 "java/lang/IllegalArgumentException") (by decide +kernel)) (hts (.initialized "java/lang/IllegalArgumentException") (by decide +kernel)) (vx_hat (B := ngX11_79) (fun w h => hts w (List.mem_cons_of_mem _ (List.mem_append_left _ (List.mem_append_left _ (List.mem_append_right _ h))))) (fun _ h => h) (fun w h => va_Nw.use (ngX11_79_ot w h) (hngX11_79 w h))) (by decide +kernel) hU hN hS (by rw [hml]; exact hl.1) dX11_tour_27 dX11_tour_30 dX11_tour_31 dX11_tour_34 (fun x hx9 => (htab x hx9).elim) (by decide +kernel) (Nat.le_of_ble_eq_true rfl) (by decide +kernel) (by decide +kernel) hlocks (fun t hvm hz hk => ⟨"java/lang/IllegalArgumentException", ⟨rfl, by omega⟩, rfl, ⟨Nat.le_trans hS.1 hz, fun q h1 h2 => (hk q (Nat.lt_of_lt_of_le h1 hS.1)).trans (hS.2.1 q h1 h2)⟩⟩) hS.2.2 (by decide +kernel) (by decide +kernel)
    · have t_13 : ¬ (nd).toInt ≥ 4096 := toI_nge c_13 rfl (by decide)
      obtain ⟨nn, h_nn, rfl⟩ := of_toInt (x := nd) (k := 4096) (by omega) (by omega)
      have e_nn : (nI nn).toInt = (nn : Int) := nI_toInt (by omega)
      have ecc : cnt (nI nn).toNatClampNeg 12 = cnt nn 12 := by rw [nI_clamp (by omega)]
      have hcl := cnt_le nn 12
      refine lv_iload_n hx hb dX11_tour_16 rfl (lv_at hl 0 rfl) ?_
      refine lv_topi (fun y1 hy1 => ?_)
      obtain rfl : (nI (cnt nn 12)) = y1 := (hy1.trans (bc_ok nn (by omega))).symm
      refine lv_iconst (v := 2) hx hb dX11_tour_17 (by decide) ?_
      refine lv_icmp_lt (tgt := 27) hx hb dX11_tour_18 (by decide) (fun c_18 => ?_) (fun c_18 => ?_)
      · have t_18 : (((cnt nn 12) : Nat) : Int) < 2 := toI_lt c_18 (nI_toInt (by omega)) (by decide)
        exact vx_throw0 (own := RX11) (cls := "java/lang/IllegalArgumentException") (names := ["java/lang/RuntimeException", "java/lang/Exception"]) (ik := 77) (ic := 79) (A := A) hx hb hst hown (by decide +kernel) (by decide +kernel) (hts (.classLink RX11 77 "java/lang/IllegalArgumentException") (by decide +kernel)) (hts (.initialized "java/lang/IllegalArgumentException") (by decide +kernel)) (vx_hat (B := ngX11_79) (fun w h => hts w (List.mem_cons_of_mem _ (List.mem_append_left _ (List.mem_append_left _ (List.mem_append_right _ h))))) (fun _ h => h) (fun w h => va_Nw.use (ngX11_79_ot w h) (hngX11_79 w h))) (by decide +kernel) hU hN hS (by rw [hml]; exact hl.1) dX11_tour_27 dX11_tour_30 dX11_tour_31 dX11_tour_34 (fun x hx9 => (htab x hx9).elim) (by decide +kernel) (Nat.le_of_ble_eq_true rfl) (by decide +kernel) (by decide +kernel) hlocks (fun t hvm hz hk => ⟨"java/lang/IllegalArgumentException", ⟨rfl, by omega⟩, rfl, ⟨Nat.le_trans hS.1 hz, fun q h1 h2 => (hk q (Nat.lt_of_lt_of_le h1 hS.1)).trans (hS.2.1 q h1 h2)⟩⟩) hS.2.2 (by decide +kernel) (by decide +kernel)
      · have t_18 : ¬ (((cnt nn 12) : Nat) : Int) < 2 := toI_nlt c_18 (nI_toInt (by omega)) (by decide)
        refine lv_iload_n hx hb dX11_tour_21 rfl (lv_at hl 0 rfl) ?_
        refine lv_topi (fun y2 hy2 => ?_)
        obtain rfl : (nI (cnt nn 12)) = y2 := (hy2.trans (bc_ok nn (by omega))).symm
        refine lv_bipush (v := 8) hx hb dX11_tour_22 (by decide) ?_
        refine lv_icmp_le (tgt := 35) hx hb dX11_tour_24 (by decide) (fun c_24 => ?_) (fun c_24 => ?_)
        · have t_24 : (((cnt nn 12) : Nat) : Int) ≤ 8 := toI_le c_24 (nI_toInt (by omega)) (by decide)
          refine lv_aload_n hx hb dX11_tour_35 rfl (lv_at hl 1 rfl) ?_
          have hPc := hP.sub (ws' := [(h0, .inr (11, [.ref (a 0), .ref (a 1), .ref (a 3), .ref (a 14), .int 0, .null, .null, .null, .null, .null, .null]))]) [0] rfl
          have hDc := hD.sub (ws' := [(h0, .inr (11, [.ref (a 0), .ref (a 1), .ref (a 3), .ref (a 14), .int 0, .null, .null, .null, .null, .null, .null]))]) [0] (by decide) rfl
          have hKc := hK.sub (tys' := []) [] rfl
          have hFc := va_free (wc := [(h0, .inr (11, [.ref (a 0), .ref (a 1), .ref (a 3), .ref (a 14), .int 0, .null, .null, .null, .null, .null, .null]))]) hD hS hA [0] rfl
          refine va_callr (va_runV (As := []) (rest := []) ⟨hx, hb, hml, hown, hts⟩ (p_X11_theNets l dC dI h0 a H.size) (cwV 0 hts gwsPX11_tour_2 rfl rfl rfl (by decide +kernel) ⟨by decide +kernel, by decide +kernel⟩) ⟨fun a U g mk q => by obtain ⟨q0, q1, qP, qK, qD, qhnX11_421⟩ := q; exact ⟨q0, q1, qP, va_K.moved (u := U) (U := U.calling g mk a) (Vm.Alike.refl U.vm) qK, qD, va_Nw.same (u := U) (U := U.calling g mk a) rfl rfl qhnX11_421⟩, va_recv hKc hPc (ci := 11) (q0 := 0) rfl rfl, fun U hU9 hW => ⟨rfl, by rw [hU9], by rw [hU9]; exact hPc, va_K.moved hW.alike hKc, hDc.weaken (fun _ _ _ _ => trivial), va_Nw.warmM hW hnX11_421⟩⟩ rfl rfl hl.1 rfl (lv_room (Nat.le_of_ble_eq_true rfl)) dX11_tour_36 ⟨by decide +kernel, by decide +kernel⟩) hS (fun q _ h => hFc q h) hFc (fun u a36 t H1 locs ht hvm hw hB hz1 hk1 hS => ?_)
          obtain ⟨aa36, kk36⟩ := u
          obtain ⟨hP1, hK1, hD1⟩ := hB
          rw [ht] at hP1
          have hK1 := va_K.moved hvm.symm hK1
          obtain ⟨hP, hD⟩ := va_join (wr := []) (w1 := [(h0, .inr (11, [.ref (a 0), .ref (a 1), .ref (a 3), .ref (a 14), .int 0, .null, .null, .null, .null, .null, .ref a36])), (a36, .inr (2, [.int 0, .ref (aa36 0), .ref (aa36 1), .ref (aa36 2), .ref (aa36 3), .int 0, .ref (aa36 4), .ref (aa36 5), .ref (aa36 6), .ref (aa36 7), .ref (aa36 8), .int 0, .ref (aa36 9), .ref (aa36 10)])), ((aa36 0), .inl ((kk36 0), 40, .inl (fun _ => 0))), ((aa36 1), .inl ((kk36 1), 40, .inl (fun _ => 0))), ((aa36 2), .inl ((kk36 2), 40, .inl (fun _ => 0))), ((aa36 3), .inl ((kk36 3), 40, .inl (fun _ => 0))), ((aa36 4), .inl ((kk36 4), 144, .inl (fun _ => 0))), ((aa36 5), .inl ((kk36 5), 12, .inl (fun _ => 0))), ((aa36 6), .inl ((kk36 6), 40, .inl (fun _ => 0))), ((aa36 7), .inl ((kk36 7), 12, .inl (fun _ => 0))), ((aa36 8), .inl ((kk36 8), 8, .inl (fun _ => 0))), ((aa36 9), .inl ((kk36 9), 64, .inl (fun _ => 0))), ((aa36 10), .inl ((kk36 10), 1024, .inl (fun _ => 0)))]) hP hD [0] [] rfl rfl (by decide) (by decide) hk1 hFc hP1 hD1
          have hK := hK.app hK1
          generalize H1 = H at hP hS ⊢
          have hP : va_P (dC, dI) vwCl [(h0, .inr (11, [.ref (a 0), .ref (a 1), .ref (a 3), .ref (a 14), .int 0, .null, .null, .null, .null, .null, .ref a36])), (a36, .inr (2, [.int 0, .ref (aa36 0), .ref (aa36 1), .ref (aa36 2), .ref (aa36 3), .int 0, .ref (aa36 4), .ref (aa36 5), .ref (aa36 6), .ref (aa36 7), .ref (aa36 8), .int 0, .ref (aa36 9), .ref (aa36 10)])), ((aa36 0), .inl ((kk36 0), 40, .inl (fun _ => 0))), ((aa36 1), .inl ((kk36 1), 40, .inl (fun _ => 0))), ((aa36 2), .inl ((kk36 2), 40, .inl (fun _ => 0))), ((aa36 3), .inl ((kk36 3), 40, .inl (fun _ => 0))), ((aa36 4), .inl ((kk36 4), 144, .inl (fun _ => 0))), ((aa36 5), .inl ((kk36 5), 12, .inl (fun _ => 0))), ((aa36 6), .inl ((kk36 6), 40, .inl (fun _ => 0))), ((aa36 7), .inl ((kk36 7), 12, .inl (fun _ => 0))), ((aa36 8), .inl ((kk36 8), 8, .inl (fun _ => 0))), ((aa36 9), .inl ((kk36 9), 64, .inl (fun _ => 0))), ((aa36 10), .inl ((kk36 10), 1024, .inl (fun _ => 0)))] H := hP
          have hD : va_D A [(h0, .inr (11, [.ref (a 0), .ref (a 1), .ref (a 3), .ref (a 14), .int 0, .null, .null, .null, .null, .null, .ref a36])), (a36, .inr (2, [.int 0, .ref (aa36 0), .ref (aa36 1), .ref (aa36 2), .ref (aa36 3), .int 0, .ref (aa36 4), .ref (aa36 5), .ref (aa36 6), .ref (aa36 7), .ref (aa36 8), .int 0, .ref (aa36 9), .ref (aa36 10)])), ((aa36 0), .inl ((kk36 0), 40, .inl (fun _ => 0))), ((aa36 1), .inl ((kk36 1), 40, .inl (fun _ => 0))), ((aa36 2), .inl ((kk36 2), 40, .inl (fun _ => 0))), ((aa36 3), .inl ((kk36 3), 40, .inl (fun _ => 0))), ((aa36 4), .inl ((kk36 4), 144, .inl (fun _ => 0))), ((aa36 5), .inl ((kk36 5), 12, .inl (fun _ => 0))), ((aa36 6), .inl ((kk36 6), 40, .inl (fun _ => 0))), ((aa36 7), .inl ((kk36 7), 12, .inl (fun _ => 0))), ((aa36 8), .inl ((kk36 8), 8, .inl (fun _ => 0))), ((aa36 9), .inl ((kk36 9), 64, .inl (fun _ => 0))), ((aa36 10), .inl ((kk36 10), 1024, .inl (fun _ => 0)))] := hD
          have hK : va_K (dC, dI) vwCl [((kk36 0), .int), ((kk36 1), .int), ((kk36 2), .int), ((kk36 3), .int), ((kk36 4), .int), ((kk36 5), .int), ((kk36 6), .int), ((kk36 7), .int), ((kk36 8), .int), ((kk36 9), .int), ((kk36 10), .int)] s := hK
          refine W.widen (k := 12) (n := 1478) (by decide +kernel) (by decide +kernel) ?_
          refine lv_iload_n hx hb dX11_tour_39 rfl (lv_at hl 2 rfl) ?_
          refine lv_iload_n hx hb dX11_tour_40 rfl (lv_at hl 3 rfl) ?_
          have hPc := hP.sub (ws' := [(a36, .inr (2, [.int 0, .ref (aa36 0), .ref (aa36 1), .ref (aa36 2), .ref (aa36 3), .int 0, .ref (aa36 4), .ref (aa36 5), .ref (aa36 6), .ref (aa36 7), .ref (aa36 8), .int 0, .ref (aa36 9), .ref (aa36 10)])), ((aa36 8), .inl ((kk36 8), 8, .inl (fun _ => 0))), ((aa36 9), .inl ((kk36 9), 64, .inl (fun _ => 0))), ((aa36 10), .inl ((kk36 10), 1024, .inl (fun _ => 0)))]) [1, 10, 11, 12] rfl
          have hDc := hD.sub (ws' := [(a36, .inr (2, [.int 0, .ref (aa36 0), .ref (aa36 1), .ref (aa36 2), .ref (aa36 3), .int 0, .ref (aa36 4), .ref (aa36 5), .ref (aa36 6), .ref (aa36 7), .ref (aa36 8), .int 0, .ref (aa36 9), .ref (aa36 10)])), ((aa36 8), .inl ((kk36 8), 8, .inl (fun _ => 0))), ((aa36 9), .inl ((kk36 9), 64, .inl (fun _ => 0))), ((aa36 10), .inl ((kk36 10), 1024, .inl (fun _ => 0)))]) [1, 10, 11, 12] (by decide) rfl
          have hKc := hK.sub (tys' := [((kk36 8), .int), ((kk36 9), .int), ((kk36 10), .int)]) [8, 9, 10] rfl
          have hFc := va_free (wc := [(a36, .inr (2, [.int 0, .ref (aa36 0), .ref (aa36 1), .ref (aa36 2), .ref (aa36 3), .int 0, .ref (aa36 4), .ref (aa36 5), .ref (aa36 6), .ref (aa36 7), .ref (aa36 8), .int 0, .ref (aa36 9), .ref (aa36 10)])), ((aa36 8), .inl ((kk36 8), 8, .inl (fun _ => 0))), ((aa36 9), .inl ((kk36 9), 64, .inl (fun _ => 0))), ((aa36 10), .inl ((kk36 10), 1024, .inl (fun _ => 0)))]) hD hS hA [1, 10, 11, 12] rfl
          refine va_calli (va_runV (As := [.int (nI nn), .int ii]) (rest := []) ⟨hx, hb, hml, hown, hts⟩ (p_X2_round l dC dI a36 aa36 kk36 nn (by first | omega | decide | assumption | rfl) (by first | omega | decide | assumption | rfl) (by first | omega | decide | assumption | rfl) ii H.size) (cwV 2 hts gwsPX11_tour_3 rfl rfl rfl (by decide +kernel) ⟨by decide +kernel, by decide +kernel⟩) ⟨fun a U g mk q => by obtain ⟨q0, q1, qP, qK, qD⟩ := q; exact ⟨q0, q1, qP, va_K.moved (u := U) (U := U.calling g mk a) (Vm.Alike.refl U.vm) qK, qD⟩, va_recv hKc hPc (ci := 2) (q0 := 0) rfl rfl, fun U hU9 hW => ⟨rfl, by rw [hU9], by rw [hU9]; exact hPc, va_K.moved hW.alike hKc, hDc.weaken (fun _ _ _ _ => trivial)⟩⟩ rfl rfl hl.1 rfl (lv_room (Nat.le_of_ble_eq_true rfl)) dX11_tour_41 ⟨by decide +kernel, by decide +kernel⟩) hS (fun q _ h => hFc q h) hFc (fun r41 u t H1 locs ht hvm hw hB hz1 hk1 hS => ?_)
          obtain ⟨hP1, hK1, hD1⟩ := hB
          rw [ht] at hP1
          have hK1 := va_K.moved hvm.symm hK1
          obtain ⟨hP, hD⟩ := va_join (wr := [(h0, .inr (11, [.ref (a 0), .ref (a 1), .ref (a 3), .ref (a 14), .int 0, .null, .null, .null, .null, .null, .ref a36])), ((aa36 0), .inl ((kk36 0), 40, .inl (fun _ => 0))), ((aa36 1), .inl ((kk36 1), 40, .inl (fun _ => 0))), ((aa36 2), .inl ((kk36 2), 40, .inl (fun _ => 0))), ((aa36 3), .inl ((kk36 3), 40, .inl (fun _ => 0))), ((aa36 4), .inl ((kk36 4), 144, .inl (fun _ => 0))), ((aa36 5), .inl ((kk36 5), 12, .inl (fun _ => 0))), ((aa36 6), .inl ((kk36 6), 40, .inl (fun _ => 0))), ((aa36 7), .inl ((kk36 7), 12, .inl (fun _ => 0)))]) (w1 := []) hP hD [1, 10, 11, 12] [0, 2, 3, 4, 5, 6, 7, 8, 9] rfl rfl (by decide) (by decide) hk1 hFc hP1 hD1
          generalize H1 = H at hP hS ⊢
          have hP : va_P (dC, dI) vwCl [(h0, .inr (11, [.ref (a 0), .ref (a 1), .ref (a 3), .ref (a 14), .int 0, .null, .null, .null, .null, .null, .ref a36])), ((aa36 0), .inl ((kk36 0), 40, .inl (fun _ => 0))), ((aa36 1), .inl ((kk36 1), 40, .inl (fun _ => 0))), ((aa36 2), .inl ((kk36 2), 40, .inl (fun _ => 0))), ((aa36 3), .inl ((kk36 3), 40, .inl (fun _ => 0))), ((aa36 4), .inl ((kk36 4), 144, .inl (fun _ => 0))), ((aa36 5), .inl ((kk36 5), 12, .inl (fun _ => 0))), ((aa36 6), .inl ((kk36 6), 40, .inl (fun _ => 0))), ((aa36 7), .inl ((kk36 7), 12, .inl (fun _ => 0)))] H := hP
          have hD : va_D A [(h0, .inr (11, [.ref (a 0), .ref (a 1), .ref (a 3), .ref (a 14), .int 0, .null, .null, .null, .null, .null, .ref a36])), ((aa36 0), .inl ((kk36 0), 40, .inl (fun _ => 0))), ((aa36 1), .inl ((kk36 1), 40, .inl (fun _ => 0))), ((aa36 2), .inl ((kk36 2), 40, .inl (fun _ => 0))), ((aa36 3), .inl ((kk36 3), 40, .inl (fun _ => 0))), ((aa36 4), .inl ((kk36 4), 144, .inl (fun _ => 0))), ((aa36 5), .inl ((kk36 5), 12, .inl (fun _ => 0))), ((aa36 6), .inl ((kk36 6), 40, .inl (fun _ => 0))), ((aa36 7), .inl ((kk36 7), 12, .inl (fun _ => 0)))] := hD
          obtain rfl := hw
          refine vx_ret ?_
          refine W.widen (k := 13) (n := 1484) (by decide +kernel) (by decide +kernel) ?_
          exact W.iret (v := (-1)) hx hb hr (fun t ht hW => ⟨⟨(-1), (), rfl, by (refine ⟨?_, ?_⟩ <;> (first | rfl | assumption | trivial | omega | (simp [c_6, c_13, c_18, c_24]; done) | (simp; omega))), by rw [ht]; exact hP.sub [] rfl, va_K.moved hW.alike (hK.sub [] rfl), hD.sub [] (by decide) rfl⟩, hS.F ht⟩) hS.2.2 dX11_tour_44
        · have t_24 : ¬ (((cnt nn 12) : Nat) : Int) ≤ 8 := toI_nle c_24 (nI_toInt (by omega)) (by decide)
          exact vx_throw0 (own := RX11) (cls := "java/lang/IllegalArgumentException") (names := ["java/lang/RuntimeException", "java/lang/Exception"]) (ik := 77) (ic := 79) (A := A) hx hb hst hown (by decide +kernel) (by decide +kernel) (hts (.classLink RX11 77 "java/lang/IllegalArgumentException") (by decide +kernel)) (hts (.initialized "java/lang/IllegalArgumentException") (by decide +kernel)) (vx_hat (B := ngX11_79) (fun w h => hts w (List.mem_cons_of_mem _ (List.mem_append_left _ (List.mem_append_left _ (List.mem_append_right _ h))))) (fun _ h => h) (fun w h => va_Nw.use (ngX11_79_ot w h) (hngX11_79 w h))) (by decide +kernel) hU hN hS (by rw [hml]; exact hl.1) dX11_tour_27 dX11_tour_30 dX11_tour_31 dX11_tour_34 (fun x hx9 => (htab x hx9).elim) (by decide +kernel) (Nat.le_of_ble_eq_true rfl) (by decide +kernel) (by decide +kernel) hlocks (fun t hvm hz hk => ⟨"java/lang/IllegalArgumentException", ⟨rfl, by omega⟩, rfl, ⟨Nat.le_trans hS.1 hz, fun q h1 h2 => (hk q (Nat.lt_of_lt_of_le h1 hS.1)).trans (hS.2.1 q h1 h2)⟩⟩) hS.2.2 (by decide +kernel) (by decide +kernel)

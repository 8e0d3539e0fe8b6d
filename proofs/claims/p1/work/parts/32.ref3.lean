theorem dX12_next_0 : decode cX12_next 0 = .ok (.iconst 1, 1) := by decide +kernel
theorem dX12_next_1 : decode cX12_next 1 = .ok (.istore_n 1, 1) := by decide +kernel
theorem dX12_next_2 : decode cX12_next 2 = .ok (.iload_n 1, 1) := by decide +kernel
theorem dX12_next_3 : decode cX12_next 3 = .ok (.ifCond .eq 97, 3) := by decide +kernel
theorem dX12_next_6 : decode cX12_next 6 = .ok (.aload_n 0, 1) := by decide +kernel
theorem dX12_next_7 : decode cX12_next 7 = .ok (.aload_n 0, 1) := by decide +kernel
theorem dX12_next_8 : decode cX12_next 8 = .ok (.getfield 485, 3) := by decide +kernel
theorem dX12_next_11 : decode cX12_next 11 = .ok (.invokevirtual 482, 3) := by decide +kernel
theorem dX12_next_14 : decode cX12_next 14 = .ok (.istore_n 2, 1) := by decide +kernel
theorem dX12_next_15 : decode cX12_next 15 = .ok (.iload_n 2, 1) := by decide +kernel
theorem dX12_next_16 : decode cX12_next 16 = .ok (.bipush 35, 2) := by decide +kernel
theorem dX12_next_18 : decode cX12_next 18 = .ok (.if_icmp .ne 40, 3) := by decide +kernel
theorem dX12_next_58 : decode cX12_next 58 = .ok (.iload_n 2, 1) := by decide +kernel
theorem dX12_next_59 : decode cX12_next 59 = .ok (.bipush 9, 2) := by decide +kernel
theorem dX12_next_61 : decode cX12_next 61 = .ok (.if_icmp .eq 21, 3) := by decide +kernel
theorem dX12_next_64 : decode cX12_next 64 = .ok (.iload_n 2, 1) := by decide +kernel
theorem dX12_next_65 : decode cX12_next 65 = .ok (.bipush 10, 2) := by decide +kernel
theorem dX12_next_67 : decode cX12_next 67 = .ok (.if_icmp .eq 15, 3) := by decide +kernel
theorem dX12_next_70 : decode cX12_next 70 = .ok (.iload_n 2, 1) := by decide +kernel
theorem dX12_next_71 : decode cX12_next 71 = .ok (.bipush 13, 2) := by decide +kernel
theorem dX12_next_73 : decode cX12_next 73 = .ok (.if_icmp .eq 9, 3) := by decide +kernel
theorem dX12_next_76 : decode cX12_next 76 = .ok (.iload_n 2, 1) := by decide +kernel
theorem dX12_next_77 : decode cX12_next 77 = .ok (.bipush 32, 2) := by decide +kernel
theorem dX12_next_79 : decode cX12_next 79 = .ok (.if_icmp .ne 16, 3) := by decide +kernel
theorem dX12_next_95 : decode cX12_next 95 = .ok (.iconst 0, 1) := by decide +kernel
theorem dX12_next_96 : decode cX12_next 96 = .ok (.istore_n 1, 1) := by decide +kernel
theorem dX12_next_97 : decode cX12_next 97 = .ok (.goto (-95), 3) := by decide +kernel
theorem dX12_next_100 : decode cX12_next 100 = .ok (.aload_n 0, 1) := by decide +kernel
theorem dX12_next_101 : decode cX12_next 101 = .ok (.aload_n 0, 1) := by decide +kernel
theorem dX12_next_102 : decode cX12_next 102 = .ok (.getfield 485, 3) := by decide +kernel
theorem dX12_next_105 : decode cX12_next 105 = .ok (.putfield 488, 3) := by decide +kernel
theorem dX12_next_108 : decode cX12_next 108 = .ok (.aload_n 0, 1) := by decide +kernel
theorem dX12_next_109 : decode cX12_next 109 = .ok (.aload_n 0, 1) := by decide +kernel
theorem dX12_next_110 : decode cX12_next 110 = .ok (.getfield 485, 3) := by decide +kernel
theorem dX12_next_113 : decode cX12_next 113 = .ok (.invokevirtual 482, 3) := by decide +kernel
theorem dX12_next_116 : decode cX12_next 116 = .ok (.istore_n 2, 1) := by decide +kernel
theorem dX12_next_117 : decode cX12_next 117 = .ok (.aload_n 0, 1) := by decide +kernel
theorem dX12_next_118 : decode cX12_next 118 = .ok (.iload_n 2, 1) := by decide +kernel
theorem dX12_next_119 : decode cX12_next 119 = .ok (.putfield 491, 3) := by decide +kernel
theorem dX12_next_122 : decode cX12_next 122 = .ok (.iload_n 2, 1) := by decide +kernel
theorem dX12_next_123 : decode cX12_next 123 = .ok (.ifCond .ge 11, 3) := by decide +kernel
theorem dX12_next_126 : decode cX12_next 126 = .ok (.aload_n 0, 1) := by decide +kernel
theorem dX12_next_127 : decode cX12_next 127 = .ok (.iconst 0, 1) := by decide +kernel
theorem dX12_next_128 : decode cX12_next 128 = .ok (.putfield 494, 3) := by decide +kernel
theorem dX12_next_131 : decode cX12_next 131 = .ok (.goto 36, 3) := by decide +kernel
theorem dX12_next_167 : decode cX12_next 167 = .ok (.return_, 1) := by decide +kernel
def wsPX12_next : List Cond := .code yX12_next cX12_next 3 none :: ([.fieldLink RX12 485 "OptimaWorksModel" "at0" "I", .fieldLink RX12 488 "OptimaWorksModel" "from" "I", .fieldLink RX12 491 "OptimaWorksModel" "sign0" "I", .fieldLink RX12 494 "OptimaWorksModel" "word" "I"] ++ wsX120 ++ (wsV RX12 482 RX12 yX12_byteAt wsPX12_byteAt))
theorem iwsPX12_next_in12 : ∀ w ∈ wsX120, w ∈ wsPX12_next := fun _ h => List.mem_cons_of_mem _ (List.mem_append_left _ (List.mem_append_right _ h))
theorem gwsPX12_next_0 : GoodIn wsPX12_next (wsV RX12 482 RX12 yX12_byteAt wsPX12_byteAt) := goodIn_sub (fun _ h => List.mem_cons_of_mem _ (List.mem_append_right _ h)) (by decide +kernel)
set_option maxHeartbeats 4000000 in
set_option maxRecDepth 100000 in
/-- next() on an empty tape -/
theorem p_X12_next (l : Launch) (dC : Nat → ClassId) (dI : Nat → Nat → Nat) (h0 : Nat) (v : Nat → Value) (h_taped : v 16 = .int 0) (h_at0 : v 17 = .int 0) (sz : Nat) : Met l yX12_next wsPX12_next ({ frames := 1, cells := 0, slots := 0, locals := 21 }) (va_Pc [.ref h0] (fun U => U.heap.size = sz ∧ va_P (dC, dI) vwCl [(h0, .inr (12, fM v))] U.heap ∧ va_K (dC, dI) vwCl [] U ∧ va_D (fun _ => True) [(h0, .inr (12, fM v))])) (va_Qv (fun (u : Unit) => True) (fun (u : Unit) t => va_P (dC, dI) vwCl [(h0, .inr (12, fM (mUp (mUp (mUp v 19 (.int 0)) 20 (.int (-1))) 18 (.int 0))))] t.heap ∧ va_K (dC, dI) vwCl [] t ∧ va_D (va_A [(h0, .inr (12, fM v))] sz) [(h0, .inr (12, fM (mUp (mUp (mUp v 19 (.int 0)) 20 (.int (-1))) 18 (.int 0))))]) (va_A [(h0, .inr (12, fM v))] sz)) 0 0 (va_A [(h0, .inr (12, fM v))] sz) := by
  refine Met.ofW (cc := cX12_next) (maxL := 3) (ret := none) (by decide) rfl ?_
  intro p e s m args below meth c s₁ B hml hv
  obtain ⟨rfl, hsz, hP, hK, hD0⟩ := hv
  have hx := B.exec
  have hb := B.bytes
  have hr := B.returns
  have hts := atoms_spec (ws := wsPX12_next) B.pre
  have hown : s.vm.findClass RX12 = some m.cls := findClass_of_methodNamed B.named
  have hlocks := B.notSynchronized
  subst hsz
  have hD := hD0.self (sz := s.heap.size)
  generalize hAe : va_A [(h0, .inr (12, fM v))] s.heap.size = A at hD ⊢
  have hA : ∀ q : Nat, s.heap.size ≤ q → A q := fun q h => by rw [← hAe]; exact Or.inr h
  have hS : va_S A s.heap s.heap [] := va_S.rf
  have hP : va_P (dC, dI) vwCl [(h0, .inr (12, fM v))] s.heap := hP
  have hl := lv_entry ([.ref h0]) (n := 3) (Nat.le_of_ble_eq_true rfl)
  rw [lg_entry_eq]
  generalize (lg_sl ([.ref h0]) ++ List.replicate (3 - (lg_sl ([.ref h0])).length) Slot.unset).toArray = ls at hl ⊢
  have hl : lv_has ls 3 [(0, .ref h0)] := hl
  refine lv_iconst (v := 1) hx hb dX12_next_0 (by decide) ?_
  refine lv_istore_n (lv' := [(1, .int 1), (0, .ref h0)]) hx hb dX12_next_1 rfl hl (by decide) rfl (fun ls hl => ?_)
  refine lv_iload_n hx hb dX12_next_2 rfl (lv_at hl 0 rfl) ?_
  refine lv_if_eq (tgt := 100) hx hb dX12_next_3 (by decide) (fun c9 => absurd c9 (by decide)) (fun _ => ?_)
  refine lv_aload_n hx hb dX12_next_6 rfl (lv_at hl 1 rfl) ?_
  refine lv_aload_n hx hb dX12_next_7 rfl (lv_at hl 1 rfl) ?_
  refine va_get (D := (dC, dI)) (ci := 12) (v := .int 0) (C := RX12) (T := TX12) (N := 163) hx hb hts iwsPX12_next_in12 hown hK hP 0 rfl rfl 17 (by decide) (hts (.fieldLink RX12 485 "OptimaWorksModel" "at0" "I") (by decide +kernel)) (fun _ h9 => h9) (congrArg some h_at0) dX12_next_8 ?_
  have hPc := hP.sub (ws' := [(h0, .inr (12, fM v))]) [0] rfl
  have hDc := hD.sub (ws' := [(h0, .inr (12, fM v))]) [0] (by decide) rfl
  have hKc := hK.sub (tys' := []) [] rfl
  have hFc := va_free (wc := [(h0, .inr (12, fM v))]) hD hS hA [0] rfl
  refine va_calli (va_runV (As := [.int 0]) (rest := []) ⟨hx, hb, hml, hown, hts⟩ (p_X12_byteAt l dC dI h0 v (h_taped) 0 (by first | omega | decide | assumption | rfl) s.heap.size) (cwV 1 hts gwsPX12_next_0 rfl rfl rfl (by decide +kernel) ⟨by decide +kernel, by decide +kernel⟩) ⟨fun a U g mk q => by obtain ⟨q0, q1, qP, qK, qD⟩ := q; exact ⟨q0, q1, qP, va_K.moved (u := U) (U := U.calling g mk a) (Vm.Alike.refl U.vm) qK, qD⟩, va_recv hKc hPc (ci := 12) (q0 := 0) rfl rfl, fun U hU9 hW => ⟨rfl, by rw [hU9], by rw [hU9]; exact hPc, va_K.moved hW.alike hKc, hDc.weaken (fun _ _ _ _ => trivial)⟩⟩ rfl rfl hl.1 rfl (lv_room (Nat.le_of_ble_eq_true rfl)) dX12_next_11 ⟨by decide +kernel, by decide +kernel⟩) hS (fun q _ h => hFc q h) hFc (fun r11 u t H1 locs ht hvm hw hB hz1 hk1 hS => ?_)
  obtain ⟨hP1, hK1, hD1⟩ := hB
  rw [ht] at hP1
  have hK1 := va_K.moved hvm.symm hK1
  obtain ⟨hP, hD⟩ := va_join (wr := []) (w1 := [(h0, .inr (12, fM v))]) hP hD [0] [] rfl rfl (by decide) (by decide) hk1 hFc hP1 hD1
  generalize H1 = H at hP hS ⊢
  have hP : va_P (dC, dI) vwCl [(h0, .inr (12, fM v))] H := hP
  have hD : va_D A [(h0, .inr (12, fM v))] := hD
  obtain rfl := hw
  refine lv_istore_n (lv' := [(2, .int (-1)), (1, .int 1), (0, .ref h0)]) hx hb dX12_next_14 rfl hl (by decide) rfl (fun ls hl => ?_)
  refine lv_iload_n hx hb dX12_next_15 rfl (lv_at hl 0 rfl) ?_
  refine lv_bipush (v := 35) hx hb dX12_next_16 (by decide) ?_
  refine lv_icmp_ne (tgt := 58) hx hb dX12_next_18 (by decide) (fun _ => ?_) (fun c9 => absurd c9 (by decide))
  refine lv_iload_n hx hb dX12_next_58 rfl (lv_at hl 0 rfl) ?_
  refine lv_bipush (v := 9) hx hb dX12_next_59 (by decide) ?_
  refine lv_icmp_eq (tgt := 82) hx hb dX12_next_61 (by decide) (fun c9 => absurd c9 (by decide)) (fun _ => ?_)
  refine lv_iload_n hx hb dX12_next_64 rfl (lv_at hl 0 rfl) ?_
  refine lv_bipush (v := 10) hx hb dX12_next_65 (by decide) ?_
  refine lv_icmp_eq (tgt := 82) hx hb dX12_next_67 (by decide) (fun c9 => absurd c9 (by decide)) (fun _ => ?_)
  refine lv_iload_n hx hb dX12_next_70 rfl (lv_at hl 0 rfl) ?_
  refine lv_bipush (v := 13) hx hb dX12_next_71 (by decide) ?_
  refine lv_icmp_eq (tgt := 82) hx hb dX12_next_73 (by decide) (fun c9 => absurd c9 (by decide)) (fun _ => ?_)
  refine lv_iload_n hx hb dX12_next_76 rfl (lv_at hl 0 rfl) ?_
  refine lv_bipush (v := 32) hx hb dX12_next_77 (by decide) ?_
  refine lv_icmp_ne (tgt := 95) hx hb dX12_next_79 (by decide) (fun _ => ?_) (fun c9 => absurd c9 (by decide))
  refine lv_iconst (v := 0) hx hb dX12_next_95 (by decide) ?_
  refine lv_istore_n (lv' := [(1, .int 0), (2, .int (-1)), (0, .ref h0)]) hx hb dX12_next_96 rfl hl (by decide) rfl (fun ls hl => ?_)
  refine lv_goto (tgt := 2) hx hb dX12_next_97 (by decide) ?_
  refine lv_iload_n hx hb dX12_next_2 rfl (lv_at hl 0 rfl) ?_
  refine lv_if_eq (tgt := 100) hx hb dX12_next_3 (by decide) (fun _ => ?_) (fun c9 => absurd (by decide) c9)
  refine lv_aload_n hx hb dX12_next_100 rfl (lv_at hl 2 rfl) ?_
  refine lv_aload_n hx hb dX12_next_101 rfl (lv_at hl 2 rfl) ?_
  refine va_get (D := (dC, dI)) (ci := 12) (v := .int 0) (C := RX12) (T := TX12) (N := 163) hx hb hts iwsPX12_next_in12 hown hK hP 0 rfl rfl 17 (by decide) (hts (.fieldLink RX12 485 "OptimaWorksModel" "at0" "I") (by decide +kernel)) (fun _ h9 => h9) (congrArg some h_at0) dX12_next_102 ?_
  refine va_put (D := (dC, dI)) (ci := 12) (v := .int 0) (ty := .int) (C := RX12) (T := TX12) (N := 163) hx hb hts iwsPX12_next_in12 tyX12 tyX12_ok nmX12 hown hK hP hD hS 0 rfl rfl 19 (by decide) (hts (.fieldLink RX12 488 "OptimaWorksModel" "from" "I") (by decide +kernel)) (fun _ h9 => h9) rfl (by decide +kernel) rfl rfl (Nat.le_of_ble_eq_true rfl) dX12_next_105 (fun H locs hP hD hS => ?_)
  have hP : va_P (dC, dI) vwCl [(h0, .inr (12, fM (mUp v 19 (.int 0))))] H := hP
  have hD : va_D A [(h0, .inr (12, fM (mUp v 19 (.int 0))))] := hD
  refine lv_aload_n hx hb dX12_next_108 rfl (lv_at hl 2 rfl) ?_
  refine lv_aload_n hx hb dX12_next_109 rfl (lv_at hl 2 rfl) ?_
  refine va_get (D := (dC, dI)) (ci := 12) (v := .int 0) (C := RX12) (T := TX12) (N := 163) hx hb hts iwsPX12_next_in12 hown hK hP 0 rfl rfl 17 (by decide) (hts (.fieldLink RX12 485 "OptimaWorksModel" "at0" "I") (by decide +kernel)) (fun _ h9 => h9) (congrArg some h_at0) dX12_next_110 ?_
  have hPc := hP.sub (ws' := [(h0, .inr (12, fM (mUp v 19 (.int 0))))]) [0] rfl
  have hDc := hD.sub (ws' := [(h0, .inr (12, fM (mUp v 19 (.int 0))))]) [0] (by decide) rfl
  have hKc := hK.sub (tys' := []) [] rfl
  have hFc := va_free (wc := [(h0, .inr (12, fM (mUp v 19 (.int 0))))]) hD hS hA [0] rfl
  refine va_calli (va_runV (As := [.int 0]) (rest := []) ⟨hx, hb, hml, hown, hts⟩ (p_X12_byteAt l dC dI h0 (mUp v 19 (.int 0)) (h_taped) 0 (by first | omega | decide | assumption | rfl) H.size) (cwV 1 hts gwsPX12_next_0 rfl rfl rfl (by decide +kernel) ⟨by decide +kernel, by decide +kernel⟩) ⟨fun a U g mk q => by obtain ⟨q0, q1, qP, qK, qD⟩ := q; exact ⟨q0, q1, qP, va_K.moved (u := U) (U := U.calling g mk a) (Vm.Alike.refl U.vm) qK, qD⟩, va_recv hKc hPc (ci := 12) (q0 := 0) rfl rfl, fun U hU9 hW => ⟨rfl, by rw [hU9], by rw [hU9]; exact hPc, va_K.moved hW.alike hKc, hDc.weaken (fun _ _ _ _ => trivial)⟩⟩ rfl rfl hl.1 rfl (lv_room (Nat.le_of_ble_eq_true rfl)) dX12_next_113 ⟨by decide +kernel, by decide +kernel⟩) hS (fun q _ h => hFc q h) hFc (fun r113 u t H1 locs ht hvm hw hB hz1 hk1 hS => ?_)
  obtain ⟨hP1, hK1, hD1⟩ := hB
  rw [ht] at hP1
  have hK1 := va_K.moved hvm.symm hK1
  obtain ⟨hP, hD⟩ := va_join (wr := []) (w1 := [(h0, .inr (12, fM ((mUp v 19 (.int 0)))))]) hP hD [0] [] rfl rfl (by decide) (by decide) hk1 hFc hP1 hD1
  generalize H1 = H at hP hS ⊢
  have hP : va_P (dC, dI) vwCl [(h0, .inr (12, fM ((mUp v 19 (.int 0)))))] H := hP
  have hD : va_D A [(h0, .inr (12, fM ((mUp v 19 (.int 0)))))] := hD
  obtain rfl := hw
  refine lv_istore_n (lv' := [(2, .int (-1)), (1, .int 0), (0, .ref h0)]) hx hb dX12_next_116 rfl hl (by decide) rfl (fun ls hl => ?_)
  refine lv_aload_n hx hb dX12_next_117 rfl (lv_at hl 2 rfl) ?_
  refine lv_iload_n hx hb dX12_next_118 rfl (lv_at hl 0 rfl) ?_
  refine va_put (D := (dC, dI)) (ci := 12) (v := .int (-1)) (ty := .int) (C := RX12) (T := TX12) (N := 163) hx hb hts iwsPX12_next_in12 tyX12 tyX12_ok nmX12 hown hK hP hD hS 0 rfl rfl 20 (by decide) (hts (.fieldLink RX12 491 "OptimaWorksModel" "sign0" "I") (by decide +kernel)) (fun _ h9 => h9) rfl (by decide +kernel) rfl rfl (Nat.le_of_ble_eq_true rfl) dX12_next_119 (fun H locs hP hD hS => ?_)
  have hP : va_P (dC, dI) vwCl [(h0, .inr (12, fM (mUp ((mUp v 19 (.int 0))) 20 (.int (-1)))))] H := hP
  have hD : va_D A [(h0, .inr (12, fM (mUp ((mUp v 19 (.int 0))) 20 (.int (-1)))))] := hD
  refine lv_iload_n hx hb dX12_next_122 rfl (lv_at hl 0 rfl) ?_
  refine lv_if_ge (tgt := 134) hx hb dX12_next_123 (by decide) (fun c9 => absurd c9 (by decide)) (fun _ => ?_)
  refine lv_aload_n hx hb dX12_next_126 rfl (lv_at hl 2 rfl) ?_
  refine lv_iconst (v := 0) hx hb dX12_next_127 (by decide) ?_
  refine va_put (D := (dC, dI)) (ci := 12) (v := .int 0) (ty := .int) (C := RX12) (T := TX12) (N := 163) hx hb hts iwsPX12_next_in12 tyX12 tyX12_ok nmX12 hown hK hP hD hS 0 rfl rfl 18 (by decide) (hts (.fieldLink RX12 494 "OptimaWorksModel" "word" "I") (by decide +kernel)) (fun _ h9 => h9) rfl (by decide +kernel) rfl rfl (Nat.le_of_ble_eq_true rfl) dX12_next_128 (fun H locs hP hD hS => ?_)
  have hP : va_P (dC, dI) vwCl [(h0, .inr (12, fM (mUp (mUp ((mUp v 19 (.int 0))) 20 (.int (-1))) 18 (.int 0))))] H := hP
  have hD : va_D A [(h0, .inr (12, fM (mUp (mUp ((mUp v 19 (.int 0))) 20 (.int (-1))) 18 (.int 0))))] := hD
  refine lv_goto (tgt := 167) hx hb dX12_next_131 (by decide) ?_
  refine W.widen (k := 0) (n := 0) (by decide +kernel) (by decide +kernel) ?_
  exact W.vret hx hb hr (fun t ht hW => ⟨⟨(), rfl, trivial, by rw [ht]; exact hP.sub [0] rfl, va_K.moved hW.alike (hK.sub [] rfl), hD.sub [0] (by decide) rfl⟩, hS.F ht⟩) hS.2.2 dX12_next_167
theorem dX12_read_0 : decode cX12_read 0 = .ok (.aload_n 0, 1) := by decide +kernel
theorem dX12_read_1 : decode cX12_read 1 = .ok (.iconst 0, 1) := by decide +kernel
theorem dX12_read_2 : decode cX12_read 2 = .ok (.putfield 348, 3) := by decide +kernel
theorem dX12_read_5 : decode cX12_read 5 = .ok (.aload_n 0, 1) := by decide +kernel
theorem dX12_read_6 : decode cX12_read 6 = .ok (.iconst 0, 1) := by decide +kernel
theorem dX12_read_7 : decode cX12_read 7 = .ok (.putfield 808, 3) := by decide +kernel
theorem dX12_read_10 : decode cX12_read 10 = .ok (.aload_n 0, 1) := by decide +kernel
theorem dX12_read_11 : decode cX12_read 11 = .ok (.iconst 0, 1) := by decide +kernel
theorem dX12_read_12 : decode cX12_read 12 = .ok (.putfield 811, 3) := by decide +kernel
theorem dX12_read_15 : decode cX12_read 15 = .ok (.aload_n 0, 1) := by decide +kernel
theorem dX12_read_16 : decode cX12_read 16 = .ok (.iconst 0, 1) := by decide +kernel
theorem dX12_read_17 : decode cX12_read 17 = .ok (.putfield 814, 3) := by decide +kernel
theorem dX12_read_20 : decode cX12_read 20 = .ok (.aload_n 0, 1) := by decide +kernel
theorem dX12_read_21 : decode cX12_read 21 = .ok (.iconst 0, 1) := by decide +kernel
theorem dX12_read_22 : decode cX12_read 22 = .ok (.putfield 515, 3) := by decide +kernel
theorem dX12_read_25 : decode cX12_read 25 = .ok (.aload_n 0, 1) := by decide +kernel
theorem dX12_read_26 : decode cX12_read 26 = .ok (.iconst (-1), 1) := by decide +kernel
theorem dX12_read_27 : decode cX12_read 27 = .ok (.putfield 43, 3) := by decide +kernel
theorem dX12_read_30 : decode cX12_read 30 = .ok (.aload_n 0, 1) := by decide +kernel
theorem dX12_read_31 : decode cX12_read 31 = .ok (.iconst 0, 1) := by decide +kernel
theorem dX12_read_32 : decode cX12_read 32 = .ok (.putfield 533, 3) := by decide +kernel
theorem dX12_read_35 : decode cX12_read 35 = .ok (.aload_n 0, 1) := by decide +kernel
theorem dX12_read_36 : decode cX12_read 36 = .ok (.iconst 0, 1) := by decide +kernel
theorem dX12_read_37 : decode cX12_read 37 = .ok (.putfield 741, 3) := by decide +kernel
theorem dX12_read_40 : decode cX12_read 40 = .ok (.aload_n 0, 1) := by decide +kernel
theorem dX12_read_41 : decode cX12_read 41 = .ok (.iconst 0, 1) := by decide +kernel
theorem dX12_read_42 : decode cX12_read 42 = .ok (.putfield 759, 3) := by decide +kernel
theorem dX12_read_45 : decode cX12_read 45 = .ok (.aload_n 0, 1) := by decide +kernel
theorem dX12_read_46 : decode cX12_read 46 = .ok (.iconst 0, 1) := by decide +kernel
theorem dX12_read_47 : decode cX12_read 47 = .ok (.putfield 771, 3) := by decide +kernel
theorem dX12_read_50 : decode cX12_read 50 = .ok (.aload_n 0, 1) := by decide +kernel
theorem dX12_read_51 : decode cX12_read 51 = .ok (.iconst 0, 1) := by decide +kernel
theorem dX12_read_52 : decode cX12_read 52 = .ok (.putfield 762, 3) := by decide +kernel
theorem dX12_read_55 : decode cX12_read 55 = .ok (.aload_n 0, 1) := by decide +kernel
theorem dX12_read_56 : decode cX12_read 56 = .ok (.iconst 0, 1) := by decide +kernel
theorem dX12_read_57 : decode cX12_read 57 = .ok (.putfield 774, 3) := by decide +kernel
theorem dX12_read_60 : decode cX12_read 60 = .ok (.aload_n 0, 1) := by decide +kernel
theorem dX12_read_61 : decode cX12_read 61 = .ok (.iconst 0, 1) := by decide +kernel
theorem dX12_read_62 : decode cX12_read 62 = .ok (.putfield 786, 3) := by decide +kernel
theorem dX12_read_65 : decode cX12_read 65 = .ok (.aload_n 0, 1) := by decide +kernel
theorem dX12_read_66 : decode cX12_read 66 = .ok (.iconst 0, 1) := by decide +kernel
theorem dX12_read_67 : decode cX12_read 67 = .ok (.putfield 802, 3) := by decide +kernel
theorem dX12_read_70 : decode cX12_read 70 = .ok (.aload_n 0, 1) := by decide +kernel
theorem dX12_read_71 : decode cX12_read 71 = .ok (.iconst 0, 1) := by decide +kernel
theorem dX12_read_72 : decode cX12_read 72 = .ok (.putfield 805, 3) := by decide +kernel
theorem dX12_read_75 : decode cX12_read 75 = .ok (.aload_n 0, 1) := by decide +kernel
theorem dX12_read_76 : decode cX12_read 76 = .ok (.iconst 1, 1) := by decide +kernel
theorem dX12_read_77 : decode cX12_read 77 = .ok (.putfield 780, 3) := by decide +kernel
theorem dX12_read_80 : decode cX12_read 80 = .ok (.aload_n 0, 1) := by decide +kernel
theorem dX12_read_81 : decode cX12_read 81 = .ok (.iconst 0, 1) := by decide +kernel
theorem dX12_read_82 : decode cX12_read 82 = .ok (.putfield 485, 3) := by decide +kernel
theorem dX12_read_85 : decode cX12_read 85 = .ok (.aload_n 0, 1) := by decide +kernel
theorem dX12_read_86 : decode cX12_read 86 = .ok (.invokevirtual 524, 3) := by decide +kernel
theorem dX12_read_89 : decode cX12_read 89 = .ok (.aload_n 0, 1) := by decide +kernel
theorem dX12_read_90 : decode cX12_read 90 = .ok (.getfield 515, 3) := by decide +kernel
theorem dX12_read_93 : decode cX12_read 93 = .ok (.ifCond .ne 17, 3) := by decide +kernel
theorem dX12_read_96 : decode cX12_read 96 = .ok (.aload_n 0, 1) := by decide +kernel
theorem dX12_read_97 : decode cX12_read 97 = .ok (.getfield 494, 3) := by decide +kernel
theorem dX12_read_100 : decode cX12_read 100 = .ok (.ifCond .eq 10, 3) := by decide +kernel
theorem dX12_read_110 : decode cX12_read 110 = .ok (.aload_n 0, 1) := by decide +kernel
theorem dX12_read_111 : decode cX12_read 111 = .ok (.aload_n 0, 1) := by decide +kernel
theorem dX12_read_112 : decode cX12_read 112 = .ok (.getfield 515, 3) := by decide +kernel
theorem dX12_read_115 : decode cX12_read 115 = .ok (.putfield 820, 3) := by decide +kernel
theorem dX12_read_118 : decode cX12_read 118 = .ok (.aload_n 0, 1) := by decide +kernel
theorem dX12_read_119 : decode cX12_read 119 = .ok (.aload_n 0, 1) := by decide +kernel
theorem dX12_read_120 : decode cX12_read 120 = .ok (.getfield 515, 3) := by decide +kernel
theorem dX12_read_123 : decode cX12_read 123 = .ok (.ifCond .ne 7, 3) := by decide +kernel
theorem dX12_read_126 : decode cX12_read 126 = .ok (.iconst (-1), 1) := by decide +kernel
theorem dX12_read_127 : decode cX12_read 127 = .ok (.goto 7, 3) := by decide +kernel
theorem dX12_read_134 : decode cX12_read 134 = .ok (.putfield 47, 3) := by decide +kernel
theorem dX12_read_137 : decode cX12_read 137 = .ok (.aload_n 0, 1) := by decide +kernel
theorem dX12_read_138 : decode cX12_read 138 = .ok (.aload_n 0, 1) := by decide +kernel
theorem dX12_read_139 : decode cX12_read 139 = .ok (.getfield 515, 3) := by decide +kernel
theorem dX12_read_142 : decode cX12_read 142 = .ok (.ifCond .ne 7, 3) := by decide +kernel
theorem dX12_read_145 : decode cX12_read 145 = .ok (.iconst 1, 1) := by decide +kernel
theorem dX12_read_146 : decode cX12_read 146 = .ok (.goto 4, 3) := by decide +kernel
theorem dX12_read_150 : decode cX12_read 150 = .ok (.putfield 808, 3) := by decide +kernel
theorem dX12_read_153 : decode cX12_read 153 = .ok (.aload_n 0, 1) := by decide +kernel
theorem dX12_read_154 : decode cX12_read 154 = .ok (.getfield 808, 3) := by decide +kernel
theorem dX12_read_157 : decode cX12_read 157 = .ok (.ifCond .eq 8, 3) := by decide +kernel
theorem dX12_read_160 : decode cX12_read 160 = .ok (.aload_n 0, 1) := by decide +kernel
theorem dX12_read_161 : decode cX12_read 161 = .ok (.getfield 774, 3) := by decide +kernel
theorem dX12_read_164 : decode cX12_read 164 = .ok (.ireturn, 1) := by decide +kernel
def wsPX12_read : List Cond := .code yX12_read cX12_read 1 (some .int) :: ([.fieldLink RX12 348 "OptimaWorksModel" "thrown" "I", .fieldLink RX12 808 "OptimaWorksModel" "isModel" "Z", .fieldLink RX12 811 "OptimaWorksModel" "hasAnswer" "Z", .fieldLink RX12 814 "OptimaWorksModel" "hasProof" "Z", .fieldLink RX12 515 "OptimaWorksModel" "stop" "I", .fieldLink RX12 43 "OptimaWorksModel" "place" "I", .fieldLink RX12 533 "OptimaWorksModel" "names" "I", .fieldLink RX12 741 "OptimaWorksModel" "sets" "I", .fieldLink RX12 759 "OptimaWorksModel" "params" "I", .fieldLink RX12 771 "OptimaWorksModel" "vars" "I", .fieldLink RX12 762 "OptimaWorksModel" "numbers" "I", .fieldLink RX12 774 "OptimaWorksModel" "variables" "I", .fieldLink RX12 786 "OptimaWorksModel" "modelRows" "I", .fieldLink RX12 802 "OptimaWorksModel" "differents" "I", .fieldLink RX12 805 "OptimaWorksModel" "modelGoals" "I", .fieldLink RX12 780 "OptimaWorksModel" "cases" "I", .fieldLink RX12 485 "OptimaWorksModel" "at0" "I", .fieldLink RX12 494 "OptimaWorksModel" "word" "I", .fieldLink RX12 820 "OptimaWorksModel" "latest" "I", .fieldLink RX12 47 "OptimaWorksModel" "latestPlace" "I"] ++ wsX120 ++ (wsV RX12 524 RX12 yX12_next wsPX12_next))
theorem iwsPX12_read_in12 : ∀ w ∈ wsX120, w ∈ wsPX12_read := fun _ h => List.mem_cons_of_mem _ (List.mem_append_left _ (List.mem_append_right _ h))
theorem gwsPX12_read_0 : GoodIn wsPX12_read (wsV RX12 524 RX12 yX12_next wsPX12_next) := goodIn_sub (fun _ h => List.mem_cons_of_mem _ (List.mem_append_right _ h)) (by decide +kernel)
set_option maxHeartbeats 4000000 in
set_option maxRecDepth 100000 in
/-- read() of an empty tape -/
theorem p_X12_read (l : Launch) (dC : Nat → ClassId) (dI : Nat → Nat → Nat) (h0 : Nat) (v : Nat → Value) (h_taped : v 16 = .int 0) (sz : Nat) : Met l yX12_read wsPX12_read ({ frames := 2, cells := 0, slots := 0, locals := 43 }) (va_Pc [.ref h0] (fun U => U.heap.size = sz ∧ va_P (dC, dI) vwCl [(h0, .inr (12, fM v))] U.heap ∧ va_K (dC, dI) vwCl [] U ∧ va_D (fun _ => True) [(h0, .inr (12, fM v))])) (va_Qi (fun (r : Int32) (u : Nat → Value) => r = 0 ∧ (u 0 = .int 0)) (fun (u : Nat → Value) t => va_P (dC, dI) vwCl [(h0, .inr (12, fM u))] t.heap ∧ va_K (dC, dI) vwCl [] t ∧ va_D (va_A [(h0, .inr (12, fM v))] sz) [(h0, .inr (12, fM u))]) (va_A [(h0, .inr (12, fM v))] sz)) 0 0 (va_A [(h0, .inr (12, fM v))] sz) := by
  refine Met.ofW (cc := cX12_read) (maxL := 1) (ret := (some .int)) (by decide) rfl ?_
  intro p e s m args below meth c s₁ B hml hv
  obtain ⟨rfl, hsz, hP, hK, hD0⟩ := hv
  have hx := B.exec
  have hb := B.bytes
  have hr := B.returns
  have hts := atoms_spec (ws := wsPX12_read) B.pre
  have hown : s.vm.findClass RX12 = some m.cls := findClass_of_methodNamed B.named
  have hlocks := B.notSynchronized
  subst hsz
  have hD := hD0.self (sz := s.heap.size)
  generalize hAe : va_A [(h0, .inr (12, fM v))] s.heap.size = A at hD ⊢
  have hA : ∀ q : Nat, s.heap.size ≤ q → A q := fun q h => by rw [← hAe]; exact Or.inr h
  have hS : va_S A s.heap s.heap [] := va_S.rf
  have hP : va_P (dC, dI) vwCl [(h0, .inr (12, fM v))] s.heap := hP
  have hl := lv_entry ([.ref h0]) (n := 1) (Nat.le_of_ble_eq_true rfl)
  rw [lg_entry_eq]
  generalize (lg_sl ([.ref h0]) ++ List.replicate (1 - (lg_sl ([.ref h0])).length) Slot.unset).toArray = ls at hl ⊢
  have hl : lv_has ls 1 [(0, .ref h0)] := hl
  refine lv_aload_n hx hb dX12_read_0 rfl (lv_at hl 0 rfl) ?_
  refine lv_iconst (v := 0) hx hb dX12_read_1 (by decide) ?_
  refine va_put (D := (dC, dI)) (ci := 12) (v := .int 0) (ty := .int) (C := RX12) (T := TX12) (N := 163) hx hb hts iwsPX12_read_in12 tyX12 tyX12_ok nmX12 hown hK hP hD hS 0 rfl rfl 0 (by decide) (hts (.fieldLink RX12 348 "OptimaWorksModel" "thrown" "I") (by decide +kernel)) (fun _ h9 => h9) rfl (by decide +kernel) rfl rfl (Nat.le_of_ble_eq_true rfl) dX12_read_2 (fun H locs hP hD hS => ?_)
  have hP : va_P (dC, dI) vwCl [(h0, .inr (12, fM (mUp v 0 (.int 0))))] H := hP
  have hD : va_D A [(h0, .inr (12, fM (mUp v 0 (.int 0))))] := hD
  refine lv_aload_n hx hb dX12_read_5 rfl (lv_at hl 0 rfl) ?_
  refine lv_iconst (v := 0) hx hb dX12_read_6 (by decide) ?_
  refine va_put (D := (dC, dI)) (ci := 12) (v := .int 0) (ty := .boolean) (C := RX12) (T := TX12) (N := 163) hx hb hts iwsPX12_read_in12 tyX12 tyX12_ok nmX12 hown hK hP hD hS 0 rfl rfl 95 (by decide) (hts (.fieldLink RX12 808 "OptimaWorksModel" "isModel" "Z") (by decide +kernel)) (fun _ h9 => h9) rfl (by decide +kernel) rfl rfl (Nat.le_of_ble_eq_true rfl) dX12_read_7 (fun H locs hP hD hS => ?_)
  have hP : va_P (dC, dI) vwCl [(h0, .inr (12, fM (mUp (mUp v 0 (.int 0)) 95 (.int 0))))] H := hP
  have hD : va_D A [(h0, .inr (12, fM (mUp (mUp v 0 (.int 0)) 95 (.int 0))))] := hD
  refine lv_aload_n hx hb dX12_read_10 rfl (lv_at hl 0 rfl) ?_
  refine lv_iconst (v := 0) hx hb dX12_read_11 (by decide) ?_
  refine va_put (D := (dC, dI)) (ci := 12) (v := .int 0) (ty := .boolean) (C := RX12) (T := TX12) (N := 163) hx hb hts iwsPX12_read_in12 tyX12 tyX12_ok nmX12 hown hK hP hD hS 0 rfl rfl 113 (by decide) (hts (.fieldLink RX12 811 "OptimaWorksModel" "hasAnswer" "Z") (by decide +kernel)) (fun _ h9 => h9) rfl (by decide +kernel) rfl rfl (Nat.le_of_ble_eq_true rfl) dX12_read_12 (fun H locs hP hD hS => ?_)
  have hP : va_P (dC, dI) vwCl [(h0, .inr (12, fM (mUp (mUp (mUp v 0 (.int 0)) 95 (.int 0)) 113 (.int 0))))] H := hP
  have hD : va_D A [(h0, .inr (12, fM (mUp (mUp (mUp v 0 (.int 0)) 95 (.int 0)) 113 (.int 0))))] := hD
  refine lv_aload_n hx hb dX12_read_15 rfl (lv_at hl 0 rfl) ?_
  refine lv_iconst (v := 0) hx hb dX12_read_16 (by decide) ?_
  refine va_put (D := (dC, dI)) (ci := 12) (v := .int 0) (ty := .boolean) (C := RX12) (T := TX12) (N := 163) hx hb hts iwsPX12_read_in12 tyX12 tyX12_ok nmX12 hown hK hP hD hS 0 rfl rfl 117 (by decide) (hts (.fieldLink RX12 814 "OptimaWorksModel" "hasProof" "Z") (by decide +kernel)) (fun _ h9 => h9) rfl (by decide +kernel) rfl rfl (Nat.le_of_ble_eq_true rfl) dX12_read_17 (fun H locs hP hD hS => ?_)
  have hP : va_P (dC, dI) vwCl [(h0, .inr (12, fM (mUp (mUp (mUp (mUp v 0 (.int 0)) 95 (.int 0)) 113 (.int 0)) 117 (.int 0))))] H := hP
  have hD : va_D A [(h0, .inr (12, fM (mUp (mUp (mUp (mUp v 0 (.int 0)) 95 (.int 0)) 113 (.int 0)) 117 (.int 0))))] := hD
  refine lv_aload_n hx hb dX12_read_20 rfl (lv_at hl 0 rfl) ?_
  refine lv_iconst (v := 0) hx hb dX12_read_21 (by decide) ?_
  refine va_put (D := (dC, dI)) (ci := 12) (v := .int 0) (ty := .int) (C := RX12) (T := TX12) (N := 163) hx hb hts iwsPX12_read_in12 tyX12 tyX12_ok nmX12 hown hK hP hD hS 0 rfl rfl 21 (by decide) (hts (.fieldLink RX12 515 "OptimaWorksModel" "stop" "I") (by decide +kernel)) (fun _ h9 => h9) rfl (by decide +kernel) rfl rfl (Nat.le_of_ble_eq_true rfl) dX12_read_22 (fun H locs hP hD hS => ?_)
  have hP : va_P (dC, dI) vwCl [(h0, .inr (12, fM (mUp (mUp (mUp (mUp (mUp v 0 (.int 0)) 95 (.int 0)) 113 (.int 0)) 117 (.int 0)) 21 (.int 0))))] H := hP
  have hD : va_D A [(h0, .inr (12, fM (mUp (mUp (mUp (mUp (mUp v 0 (.int 0)) 95 (.int 0)) 113 (.int 0)) 117 (.int 0)) 21 (.int 0))))] := hD
  refine lv_aload_n hx hb dX12_read_25 rfl (lv_at hl 0 rfl) ?_
  refine lv_iconst (v := (-1)) hx hb dX12_read_26 (by decide) ?_
  refine va_put (D := (dC, dI)) (ci := 12) (v := .int (-1)) (ty := .int) (C := RX12) (T := TX12) (N := 163) hx hb hts iwsPX12_read_in12 tyX12 tyX12_ok nmX12 hown hK hP hD hS 0 rfl rfl 22 (by decide) (hts (.fieldLink RX12 43 "OptimaWorksModel" "place" "I") (by decide +kernel)) (fun _ h9 => h9) rfl (by decide +kernel) rfl rfl (Nat.le_of_ble_eq_true rfl) dX12_read_27 (fun H locs hP hD hS => ?_)
  have hP : va_P (dC, dI) vwCl [(h0, .inr (12, fM (mUp (mUp (mUp (mUp (mUp (mUp v 0 (.int 0)) 95 (.int 0)) 113 (.int 0)) 117 (.int 0)) 21 (.int 0)) 22 (.int (-1)))))] H := hP
  have hD : va_D A [(h0, .inr (12, fM (mUp (mUp (mUp (mUp (mUp (mUp v 0 (.int 0)) 95 (.int 0)) 113 (.int 0)) 117 (.int 0)) 21 (.int 0)) 22 (.int (-1)))))] := hD
  refine lv_aload_n hx hb dX12_read_30 rfl (lv_at hl 0 rfl) ?_
  refine lv_iconst (v := 0) hx hb dX12_read_31 (by decide) ?_
  refine va_put (D := (dC, dI)) (ci := 12) (v := .int 0) (ty := .int) (C := RX12) (T := TX12) (N := 163) hx hb hts iwsPX12_read_in12 tyX12 tyX12_ok nmX12 hown hK hP hD hS 0 rfl rfl 25 (by decide) (hts (.fieldLink RX12 533 "OptimaWorksModel" "names" "I") (by decide +kernel)) (fun _ h9 => h9) rfl (by decide +kernel) rfl rfl (Nat.le_of_ble_eq_true rfl) dX12_read_32 (fun H locs hP hD hS => ?_)
  have hP : va_P (dC, dI) vwCl [(h0, .inr (12, fM (mUp (mUp (mUp (mUp (mUp (mUp (mUp v 0 (.int 0)) 95 (.int 0)) 113 (.int 0)) 117 (.int 0)) 21 (.int 0)) 22 (.int (-1))) 25 (.int 0))))] H := hP
  have hD : va_D A [(h0, .inr (12, fM (mUp (mUp (mUp (mUp (mUp (mUp (mUp v 0 (.int 0)) 95 (.int 0)) 113 (.int 0)) 117 (.int 0)) 21 (.int 0)) 22 (.int (-1))) 25 (.int 0))))] := hD
  refine lv_aload_n hx hb dX12_read_35 rfl (lv_at hl 0 rfl) ?_
  refine lv_iconst (v := 0) hx hb dX12_read_36 (by decide) ?_
  refine va_put (D := (dC, dI)) (ci := 12) (v := .int 0) (ty := .int) (C := RX12) (T := TX12) (N := 163) hx hb hts iwsPX12_read_in12 tyX12 tyX12_ok nmX12 hown hK hP hD hS 0 rfl rfl 35 (by decide) (hts (.fieldLink RX12 741 "OptimaWorksModel" "sets" "I") (by decide +kernel)) (fun _ h9 => h9) rfl (by decide +kernel) rfl rfl (Nat.le_of_ble_eq_true rfl) dX12_read_37 (fun H locs hP hD hS => ?_)
  have hP : va_P (dC, dI) vwCl [(h0, .inr (12, fM (mUp (mUp (mUp (mUp (mUp (mUp (mUp (mUp v 0 (.int 0)) 95 (.int 0)) 113 (.int 0)) 117 (.int 0)) 21 (.int 0)) 22 (.int (-1))) 25 (.int 0)) 35 (.int 0))))] H := hP
  have hD : va_D A [(h0, .inr (12, fM (mUp (mUp (mUp (mUp (mUp (mUp (mUp (mUp v 0 (.int 0)) 95 (.int 0)) 113 (.int 0)) 117 (.int 0)) 21 (.int 0)) 22 (.int (-1))) 25 (.int 0)) 35 (.int 0))))] := hD
  refine lv_aload_n hx hb dX12_read_40 rfl (lv_at hl 0 rfl) ?_
  refine lv_iconst (v := 0) hx hb dX12_read_41 (by decide) ?_
  refine va_put (D := (dC, dI)) (ci := 12) (v := .int 0) (ty := .int) (C := RX12) (T := TX12) (N := 163) hx hb hts iwsPX12_read_in12 tyX12 tyX12_ok nmX12 hown hK hP hD hS 0 rfl rfl 36 (by decide) (hts (.fieldLink RX12 759 "OptimaWorksModel" "params" "I") (by decide +kernel)) (fun _ h9 => h9) rfl (by decide +kernel) rfl rfl (Nat.le_of_ble_eq_true rfl) dX12_read_42 (fun H locs hP hD hS => ?_)
  have hP : va_P (dC, dI) vwCl [(h0, .inr (12, fM (mUp (mUp (mUp (mUp (mUp (mUp (mUp (mUp (mUp v 0 (.int 0)) 95 (.int 0)) 113 (.int 0)) 117 (.int 0)) 21 (.int 0)) 22 (.int (-1))) 25 (.int 0)) 35 (.int 0)) 36 (.int 0))))] H := hP
  have hD : va_D A [(h0, .inr (12, fM (mUp (mUp (mUp (mUp (mUp (mUp (mUp (mUp (mUp v 0 (.int 0)) 95 (.int 0)) 113 (.int 0)) 117 (.int 0)) 21 (.int 0)) 22 (.int (-1))) 25 (.int 0)) 35 (.int 0)) 36 (.int 0))))] := hD
  refine lv_aload_n hx hb dX12_read_45 rfl (lv_at hl 0 rfl) ?_
  refine lv_iconst (v := 0) hx hb dX12_read_46 (by decide) ?_
  refine va_put (D := (dC, dI)) (ci := 12) (v := .int 0) (ty := .int) (C := RX12) (T := TX12) (N := 163) hx hb hts iwsPX12_read_in12 tyX12 tyX12_ok nmX12 hown hK hP hD hS 0 rfl rfl 37 (by decide) (hts (.fieldLink RX12 771 "OptimaWorksModel" "vars" "I") (by decide +kernel)) (fun _ h9 => h9) rfl (by decide +kernel) rfl rfl (Nat.le_of_ble_eq_true rfl) dX12_read_47 (fun H locs hP hD hS => ?_)
  have hP : va_P (dC, dI) vwCl [(h0, .inr (12, fM (mUp (mUp (mUp (mUp (mUp (mUp (mUp (mUp (mUp (mUp v 0 (.int 0)) 95 (.int 0)) 113 (.int 0)) 117 (.int 0)) 21 (.int 0)) 22 (.int (-1))) 25 (.int 0)) 35 (.int 0)) 36 (.int 0)) 37 (.int 0))))] H := hP
  have hD : va_D A [(h0, .inr (12, fM (mUp (mUp (mUp (mUp (mUp (mUp (mUp (mUp (mUp (mUp v 0 (.int 0)) 95 (.int 0)) 113 (.int 0)) 117 (.int 0)) 21 (.int 0)) 22 (.int (-1))) 25 (.int 0)) 35 (.int 0)) 36 (.int 0)) 37 (.int 0))))] := hD
  refine lv_aload_n hx hb dX12_read_50 rfl (lv_at hl 0 rfl) ?_
  refine lv_iconst (v := 0) hx hb dX12_read_51 (by decide) ?_
  refine va_put (D := (dC, dI)) (ci := 12) (v := .int 0) (ty := .int) (C := RX12) (T := TX12) (N := 163) hx hb hts iwsPX12_read_in12 tyX12 tyX12_ok nmX12 hown hK hP hD hS 0 rfl rfl 38 (by decide) (hts (.fieldLink RX12 762 "OptimaWorksModel" "numbers" "I") (by decide +kernel)) (fun _ h9 => h9) rfl (by decide +kernel) rfl rfl (Nat.le_of_ble_eq_true rfl) dX12_read_52 (fun H locs hP hD hS => ?_)
  have hP : va_P (dC, dI) vwCl [(h0, .inr (12, fM (mUp (mUp (mUp (mUp (mUp (mUp (mUp (mUp (mUp (mUp (mUp v 0 (.int 0)) 95 (.int 0)) 113 (.int 0)) 117 (.int 0)) 21 (.int 0)) 22 (.int (-1))) 25 (.int 0)) 35 (.int 0)) 36 (.int 0)) 37 (.int 0)) 38 (.int 0))))] H := hP
  have hD : va_D A [(h0, .inr (12, fM (mUp (mUp (mUp (mUp (mUp (mUp (mUp (mUp (mUp (mUp (mUp v 0 (.int 0)) 95 (.int 0)) 113 (.int 0)) 117 (.int 0)) 21 (.int 0)) 22 (.int (-1))) 25 (.int 0)) 35 (.int 0)) 36 (.int 0)) 37 (.int 0)) 38 (.int 0))))] := hD
  refine lv_aload_n hx hb dX12_read_55 rfl (lv_at hl 0 rfl) ?_
  refine lv_iconst (v := 0) hx hb dX12_read_56 (by decide) ?_
  refine va_put (D := (dC, dI)) (ci := 12) (v := .int 0) (ty := .int) (C := RX12) (T := TX12) (N := 163) hx hb hts iwsPX12_read_in12 tyX12 tyX12_ok nmX12 hown hK hP hD hS 0 rfl rfl 90 (by decide) (hts (.fieldLink RX12 774 "OptimaWorksModel" "variables" "I") (by decide +kernel)) (fun _ h9 => h9) rfl (by decide +kernel) rfl rfl (Nat.le_of_ble_eq_true rfl) dX12_read_57 (fun H locs hP hD hS => ?_)
  have hP : va_P (dC, dI) vwCl [(h0, .inr (12, fM (mUp (mUp (mUp (mUp (mUp (mUp (mUp (mUp (mUp (mUp (mUp (mUp v 0 (.int 0)) 95 (.int 0)) 113 (.int 0)) 117 (.int 0)) 21 (.int 0)) 22 (.int (-1))) 25 (.int 0)) 35 (.int 0)) 36 (.int 0)) 37 (.int 0)) 38 (.int 0)) 90 (.int 0))))] H := hP
  have hD : va_D A [(h0, .inr (12, fM (mUp (mUp (mUp (mUp (mUp (mUp (mUp (mUp (mUp (mUp (mUp (mUp v 0 (.int 0)) 95 (.int 0)) 113 (.int 0)) 117 (.int 0)) 21 (.int 0)) 22 (.int (-1))) 25 (.int 0)) 35 (.int 0)) 36 (.int 0)) 37 (.int 0)) 38 (.int 0)) 90 (.int 0))))] := hD
  refine lv_aload_n hx hb dX12_read_60 rfl (lv_at hl 0 rfl) ?_
  refine lv_iconst (v := 0) hx hb dX12_read_61 (by decide) ?_
  refine va_put (D := (dC, dI)) (ci := 12) (v := .int 0) (ty := .int) (C := RX12) (T := TX12) (N := 163) hx hb hts iwsPX12_read_in12 tyX12 tyX12_ok nmX12 hown hK hP hD hS 0 rfl rfl 91 (by decide) (hts (.fieldLink RX12 786 "OptimaWorksModel" "modelRows" "I") (by decide +kernel)) (fun _ h9 => h9) rfl (by decide +kernel) rfl rfl (Nat.le_of_ble_eq_true rfl) dX12_read_62 (fun H locs hP hD hS => ?_)
  have hP : va_P (dC, dI) vwCl [(h0, .inr (12, fM (mUp (mUp (mUp (mUp (mUp (mUp (mUp (mUp (mUp (mUp (mUp (mUp (mUp v 0 (.int 0)) 95 (.int 0)) 113 (.int 0)) 117 (.int 0)) 21 (.int 0)) 22 (.int (-1))) 25 (.int 0)) 35 (.int 0)) 36 (.int 0)) 37 (.int 0)) 38 (.int 0)) 90 (.int 0)) 91 (.int 0))))] H := hP
  have hD : va_D A [(h0, .inr (12, fM (mUp (mUp (mUp (mUp (mUp (mUp (mUp (mUp (mUp (mUp (mUp (mUp (mUp v 0 (.int 0)) 95 (.int 0)) 113 (.int 0)) 117 (.int 0)) 21 (.int 0)) 22 (.int (-1))) 25 (.int 0)) 35 (.int 0)) 36 (.int 0)) 37 (.int 0)) 38 (.int 0)) 90 (.int 0)) 91 (.int 0))))] := hD
  refine lv_aload_n hx hb dX12_read_65 rfl (lv_at hl 0 rfl) ?_
  refine lv_iconst (v := 0) hx hb dX12_read_66 (by decide) ?_
  refine va_put (D := (dC, dI)) (ci := 12) (v := .int 0) (ty := .int) (C := RX12) (T := TX12) (N := 163) hx hb hts iwsPX12_read_in12 tyX12 tyX12_ok nmX12 hown hK hP hD hS 0 rfl rfl 92 (by decide) (hts (.fieldLink RX12 802 "OptimaWorksModel" "differents" "I") (by decide +kernel)) (fun _ h9 => h9) rfl (by decide +kernel) rfl rfl (Nat.le_of_ble_eq_true rfl) dX12_read_67 (fun H locs hP hD hS => ?_)
  have hP : va_P (dC, dI) vwCl [(h0, .inr (12, fM (mUp (mUp (mUp (mUp (mUp (mUp (mUp (mUp (mUp (mUp (mUp (mUp (mUp (mUp v 0 (.int 0)) 95 (.int 0)) 113 (.int 0)) 117 (.int 0)) 21 (.int 0)) 22 (.int (-1))) 25 (.int 0)) 35 (.int 0)) 36 (.int 0)) 37 (.int 0)) 38 (.int 0)) 90 (.int 0)) 91 (.int 0)) 92 (.int 0))))] H := hP
  have hD : va_D A [(h0, .inr (12, fM (mUp (mUp (mUp (mUp (mUp (mUp (mUp (mUp (mUp (mUp (mUp (mUp (mUp (mUp v 0 (.int 0)) 95 (.int 0)) 113 (.int 0)) 117 (.int 0)) 21 (.int 0)) 22 (.int (-1))) 25 (.int 0)) 35 (.int 0)) 36 (.int 0)) 37 (.int 0)) 38 (.int 0)) 90 (.int 0)) 91 (.int 0)) 92 (.int 0))))] := hD
  refine lv_aload_n hx hb dX12_read_70 rfl (lv_at hl 0 rfl) ?_
  refine lv_iconst (v := 0) hx hb dX12_read_71 (by decide) ?_
  refine va_put (D := (dC, dI)) (ci := 12) (v := .int 0) (ty := .int) (C := RX12) (T := TX12) (N := 163) hx hb hts iwsPX12_read_in12 tyX12 tyX12_ok nmX12 hown hK hP hD hS 0 rfl rfl 93 (by decide) (hts (.fieldLink RX12 805 "OptimaWorksModel" "modelGoals" "I") (by decide +kernel)) (fun _ h9 => h9) rfl (by decide +kernel) rfl rfl (Nat.le_of_ble_eq_true rfl) dX12_read_72 (fun H locs hP hD hS => ?_)
  have hP : va_P (dC, dI) vwCl [(h0, .inr (12, fM (mUp (mUp (mUp (mUp (mUp (mUp (mUp (mUp (mUp (mUp (mUp (mUp (mUp (mUp (mUp v 0 (.int 0)) 95 (.int 0)) 113 (.int 0)) 117 (.int 0)) 21 (.int 0)) 22 (.int (-1))) 25 (.int 0)) 35 (.int 0)) 36 (.int 0)) 37 (.int 0)) 38 (.int 0)) 90 (.int 0)) 91 (.int 0)) 92 (.int 0)) 93 (.int 0))))] H := hP
  have hD : va_D A [(h0, .inr (12, fM (mUp (mUp (mUp (mUp (mUp (mUp (mUp (mUp (mUp (mUp (mUp (mUp (mUp (mUp (mUp v 0 (.int 0)) 95 (.int 0)) 113 (.int 0)) 117 (.int 0)) 21 (.int 0)) 22 (.int (-1))) 25 (.int 0)) 35 (.int 0)) 36 (.int 0)) 37 (.int 0)) 38 (.int 0)) 90 (.int 0)) 91 (.int 0)) 92 (.int 0)) 93 (.int 0))))] := hD
  refine lv_aload_n hx hb dX12_read_75 rfl (lv_at hl 0 rfl) ?_
  refine lv_iconst (v := 1) hx hb dX12_read_76 (by decide) ?_
  refine va_put (D := (dC, dI)) (ci := 12) (v := .int 1) (ty := .int) (C := RX12) (T := TX12) (N := 163) hx hb hts iwsPX12_read_in12 tyX12 tyX12_ok nmX12 hown hK hP hD hS 0 rfl rfl 94 (by decide) (hts (.fieldLink RX12 780 "OptimaWorksModel" "cases" "I") (by decide +kernel)) (fun _ h9 => h9) rfl (by decide +kernel) rfl rfl (Nat.le_of_ble_eq_true rfl) dX12_read_77 (fun H locs hP hD hS => ?_)
  have hP : va_P (dC, dI) vwCl [(h0, .inr (12, fM (mUp (mUp (mUp (mUp (mUp (mUp (mUp (mUp (mUp (mUp (mUp (mUp (mUp (mUp (mUp (mUp v 0 (.int 0)) 95 (.int 0)) 113 (.int 0)) 117 (.int 0)) 21 (.int 0)) 22 (.int (-1))) 25 (.int 0)) 35 (.int 0)) 36 (.int 0)) 37 (.int 0)) 38 (.int 0)) 90 (.int 0)) 91 (.int 0)) 92 (.int 0)) 93 (.int 0)) 94 (.int 1))))] H := hP
  have hD : va_D A [(h0, .inr (12, fM (mUp (mUp (mUp (mUp (mUp (mUp (mUp (mUp (mUp (mUp (mUp (mUp (mUp (mUp (mUp (mUp v 0 (.int 0)) 95 (.int 0)) 113 (.int 0)) 117 (.int 0)) 21 (.int 0)) 22 (.int (-1))) 25 (.int 0)) 35 (.int 0)) 36 (.int 0)) 37 (.int 0)) 38 (.int 0)) 90 (.int 0)) 91 (.int 0)) 92 (.int 0)) 93 (.int 0)) 94 (.int 1))))] := hD
  refine lv_aload_n hx hb dX12_read_80 rfl (lv_at hl 0 rfl) ?_
  refine lv_iconst (v := 0) hx hb dX12_read_81 (by decide) ?_
  refine va_put (D := (dC, dI)) (ci := 12) (v := .int 0) (ty := .int) (C := RX12) (T := TX12) (N := 163) hx hb hts iwsPX12_read_in12 tyX12 tyX12_ok nmX12 hown hK hP hD hS 0 rfl rfl 17 (by decide) (hts (.fieldLink RX12 485 "OptimaWorksModel" "at0" "I") (by decide +kernel)) (fun _ h9 => h9) rfl (by decide +kernel) rfl rfl (Nat.le_of_ble_eq_true rfl) dX12_read_82 (fun H locs hP hD hS => ?_)
  have hP : va_P (dC, dI) vwCl [(h0, .inr (12, fM (mUp (mUp (mUp (mUp (mUp (mUp (mUp (mUp (mUp (mUp (mUp (mUp (mUp (mUp (mUp (mUp (mUp v 0 (.int 0)) 95 (.int 0)) 113 (.int 0)) 117 (.int 0)) 21 (.int 0)) 22 (.int (-1))) 25 (.int 0)) 35 (.int 0)) 36 (.int 0)) 37 (.int 0)) 38 (.int 0)) 90 (.int 0)) 91 (.int 0)) 92 (.int 0)) 93 (.int 0)) 94 (.int 1)) 17 (.int 0))))] H := hP
  have hD : va_D A [(h0, .inr (12, fM (mUp (mUp (mUp (mUp (mUp (mUp (mUp (mUp (mUp (mUp (mUp (mUp (mUp (mUp (mUp (mUp (mUp v 0 (.int 0)) 95 (.int 0)) 113 (.int 0)) 117 (.int 0)) 21 (.int 0)) 22 (.int (-1))) 25 (.int 0)) 35 (.int 0)) 36 (.int 0)) 37 (.int 0)) 38 (.int 0)) 90 (.int 0)) 91 (.int 0)) 92 (.int 0)) 93 (.int 0)) 94 (.int 1)) 17 (.int 0))))] := hD
  refine lv_aload_n hx hb dX12_read_85 rfl (lv_at hl 0 rfl) ?_
  have hPc := hP.sub (ws' := [(h0, .inr (12, fM (mUp (mUp (mUp (mUp (mUp (mUp (mUp (mUp (mUp (mUp (mUp (mUp (mUp (mUp (mUp (mUp (mUp v 0 (.int 0)) 95 (.int 0)) 113 (.int 0)) 117 (.int 0)) 21 (.int 0)) 22 (.int (-1))) 25 (.int 0)) 35 (.int 0)) 36 (.int 0)) 37 (.int 0)) 38 (.int 0)) 90 (.int 0)) 91 (.int 0)) 92 (.int 0)) 93 (.int 0)) 94 (.int 1)) 17 (.int 0))))]) [0] rfl
  have hDc := hD.sub (ws' := [(h0, .inr (12, fM (mUp (mUp (mUp (mUp (mUp (mUp (mUp (mUp (mUp (mUp (mUp (mUp (mUp (mUp (mUp (mUp (mUp v 0 (.int 0)) 95 (.int 0)) 113 (.int 0)) 117 (.int 0)) 21 (.int 0)) 22 (.int (-1))) 25 (.int 0)) 35 (.int 0)) 36 (.int 0)) 37 (.int 0)) 38 (.int 0)) 90 (.int 0)) 91 (.int 0)) 92 (.int 0)) 93 (.int 0)) 94 (.int 1)) 17 (.int 0))))]) [0] (by decide) rfl
  have hKc := hK.sub (tys' := []) [] rfl
  have hFc := va_free (wc := [(h0, .inr (12, fM (mUp (mUp (mUp (mUp (mUp (mUp (mUp (mUp (mUp (mUp (mUp (mUp (mUp (mUp (mUp (mUp (mUp v 0 (.int 0)) 95 (.int 0)) 113 (.int 0)) 117 (.int 0)) 21 (.int 0)) 22 (.int (-1))) 25 (.int 0)) 35 (.int 0)) 36 (.int 0)) 37 (.int 0)) 38 (.int 0)) 90 (.int 0)) 91 (.int 0)) 92 (.int 0)) 93 (.int 0)) 94 (.int 1)) 17 (.int 0))))]) hD hS hA [0] rfl
  refine va_callv (va_runV (As := []) (rest := []) ⟨hx, hb, hml, hown, hts⟩ (p_X12_next l dC dI h0 (mUp (mUp (mUp (mUp (mUp (mUp (mUp (mUp (mUp (mUp (mUp (mUp (mUp (mUp (mUp (mUp (mUp v 0 (.int 0)) 95 (.int 0)) 113 (.int 0)) 117 (.int 0)) 21 (.int 0)) 22 (.int (-1))) 25 (.int 0)) 35 (.int 0)) 36 (.int 0)) 37 (.int 0)) 38 (.int 0)) 90 (.int 0)) 91 (.int 0)) 92 (.int 0)) 93 (.int 0)) 94 (.int 1)) 17 (.int 0)) (h_taped) (rfl) H.size) (cwV 0 hts gwsPX12_read_0 rfl rfl rfl (by decide +kernel) ⟨by decide +kernel, by decide +kernel⟩) ⟨fun a U g mk q => by obtain ⟨q0, q1, qP, qK, qD⟩ := q; exact ⟨q0, q1, qP, va_K.moved (u := U) (U := U.calling g mk a) (Vm.Alike.refl U.vm) qK, qD⟩, va_recv hKc hPc (ci := 12) (q0 := 0) rfl rfl, fun U hU9 hW => ⟨rfl, by rw [hU9], by rw [hU9]; exact hPc, va_K.moved hW.alike hKc, hDc.weaken (fun _ _ _ _ => trivial)⟩⟩ rfl rfl hl.1 rfl (lv_room (Nat.le_of_ble_eq_true rfl)) dX12_read_86 ⟨by decide +kernel, by decide +kernel⟩) hS (fun q _ h => hFc q h) hFc (fun u t H1 locs ht hvm hw hB hz1 hk1 hS => ?_)
  obtain ⟨hP1, hK1, hD1⟩ := hB
  rw [ht] at hP1
  have hK1 := va_K.moved hvm.symm hK1
  obtain ⟨hP, hD⟩ := va_join (wr := []) (w1 := [(h0, .inr (12, fM (mUp (mUp (mUp (mUp (mUp (mUp (mUp (mUp (mUp (mUp (mUp (mUp (mUp (mUp (mUp (mUp (mUp (mUp (mUp (mUp v 0 (.int 0)) 95 (.int 0)) 113 (.int 0)) 117 (.int 0)) 21 (.int 0)) 22 (.int (-1))) 25 (.int 0)) 35 (.int 0)) 36 (.int 0)) 37 (.int 0)) 38 (.int 0)) 90 (.int 0)) 91 (.int 0)) 92 (.int 0)) 93 (.int 0)) 94 (.int 1)) 17 (.int 0)) 19 (.int 0)) 20 (.int (-1))) 18 (.int 0))))]) hP hD [0] [] rfl rfl (by decide) (by decide) hk1 hFc hP1 hD1
  generalize H1 = H at hP hS ⊢
  have hP : va_P (dC, dI) vwCl [(h0, .inr (12, fM (mUp (mUp (mUp (mUp (mUp (mUp (mUp (mUp (mUp (mUp (mUp (mUp (mUp (mUp (mUp (mUp (mUp (mUp (mUp (mUp v 0 (.int 0)) 95 (.int 0)) 113 (.int 0)) 117 (.int 0)) 21 (.int 0)) 22 (.int (-1))) 25 (.int 0)) 35 (.int 0)) 36 (.int 0)) 37 (.int 0)) 38 (.int 0)) 90 (.int 0)) 91 (.int 0)) 92 (.int 0)) 93 (.int 0)) 94 (.int 1)) 17 (.int 0)) 19 (.int 0)) 20 (.int (-1))) 18 (.int 0))))] H := hP
  have hD : va_D A [(h0, .inr (12, fM (mUp (mUp (mUp (mUp (mUp (mUp (mUp (mUp (mUp (mUp (mUp (mUp (mUp (mUp (mUp (mUp (mUp (mUp (mUp (mUp v 0 (.int 0)) 95 (.int 0)) 113 (.int 0)) 117 (.int 0)) 21 (.int 0)) 22 (.int (-1))) 25 (.int 0)) 35 (.int 0)) 36 (.int 0)) 37 (.int 0)) 38 (.int 0)) 90 (.int 0)) 91 (.int 0)) 92 (.int 0)) 93 (.int 0)) 94 (.int 1)) 17 (.int 0)) 19 (.int 0)) 20 (.int (-1))) 18 (.int 0))))] := hD
  refine lv_aload_n hx hb dX12_read_89 rfl (lv_at hl 0 rfl) ?_
  refine va_get (D := (dC, dI)) (ci := 12) (v := .int 0) (C := RX12) (T := TX12) (N := 163) hx hb hts iwsPX12_read_in12 hown hK hP 0 rfl rfl 21 (by decide) (hts (.fieldLink RX12 515 "OptimaWorksModel" "stop" "I") (by decide +kernel)) (fun _ h9 => h9) rfl dX12_read_90 ?_
  refine lv_if_ne (tgt := 110) hx hb dX12_read_93 (by decide) (fun c9 => absurd c9 (by decide)) (fun _ => ?_)
  refine lv_aload_n hx hb dX12_read_96 rfl (lv_at hl 0 rfl) ?_
  refine va_get (D := (dC, dI)) (ci := 12) (v := .int 0) (C := RX12) (T := TX12) (N := 163) hx hb hts iwsPX12_read_in12 hown hK hP 0 rfl rfl 18 (by decide) (hts (.fieldLink RX12 494 "OptimaWorksModel" "word" "I") (by decide +kernel)) (fun _ h9 => h9) rfl dX12_read_97 ?_
  refine lv_if_eq (tgt := 110) hx hb dX12_read_100 (by decide) (fun _ => ?_) (fun c9 => absurd (by decide) c9)
  refine lv_aload_n hx hb dX12_read_110 rfl (lv_at hl 0 rfl) ?_
  refine lv_aload_n hx hb dX12_read_111 rfl (lv_at hl 0 rfl) ?_
  refine va_get (D := (dC, dI)) (ci := 12) (v := .int 0) (C := RX12) (T := TX12) (N := 163) hx hb hts iwsPX12_read_in12 hown hK hP 0 rfl rfl 21 (by decide) (hts (.fieldLink RX12 515 "OptimaWorksModel" "stop" "I") (by decide +kernel)) (fun _ h9 => h9) rfl dX12_read_112 ?_
  refine va_put (D := (dC, dI)) (ci := 12) (v := .int 0) (ty := .int) (C := RX12) (T := TX12) (N := 163) hx hb hts iwsPX12_read_in12 tyX12 tyX12_ok nmX12 hown hK hP hD hS 0 rfl rfl 23 (by decide) (hts (.fieldLink RX12 820 "OptimaWorksModel" "latest" "I") (by decide +kernel)) (fun _ h9 => h9) rfl (by decide +kernel) rfl rfl (Nat.le_of_ble_eq_true rfl) dX12_read_115 (fun H locs hP hD hS => ?_)
  have hP : va_P (dC, dI) vwCl [(h0, .inr (12, fM (mUp (mUp (mUp (mUp (mUp (mUp (mUp (mUp (mUp (mUp (mUp (mUp (mUp (mUp (mUp (mUp (mUp (mUp (mUp (mUp (mUp v 0 (.int 0)) 95 (.int 0)) 113 (.int 0)) 117 (.int 0)) 21 (.int 0)) 22 (.int (-1))) 25 (.int 0)) 35 (.int 0)) 36 (.int 0)) 37 (.int 0)) 38 (.int 0)) 90 (.int 0)) 91 (.int 0)) 92 (.int 0)) 93 (.int 0)) 94 (.int 1)) 17 (.int 0)) 19 (.int 0)) 20 (.int (-1))) 18 (.int 0)) 23 (.int 0))))] H := hP
  have hD : va_D A [(h0, .inr (12, fM (mUp (mUp (mUp (mUp (mUp (mUp (mUp (mUp (mUp (mUp (mUp (mUp (mUp (mUp (mUp (mUp (mUp (mUp (mUp (mUp (mUp v 0 (.int 0)) 95 (.int 0)) 113 (.int 0)) 117 (.int 0)) 21 (.int 0)) 22 (.int (-1))) 25 (.int 0)) 35 (.int 0)) 36 (.int 0)) 37 (.int 0)) 38 (.int 0)) 90 (.int 0)) 91 (.int 0)) 92 (.int 0)) 93 (.int 0)) 94 (.int 1)) 17 (.int 0)) 19 (.int 0)) 20 (.int (-1))) 18 (.int 0)) 23 (.int 0))))] := hD
  refine lv_aload_n hx hb dX12_read_118 rfl (lv_at hl 0 rfl) ?_
  refine lv_aload_n hx hb dX12_read_119 rfl (lv_at hl 0 rfl) ?_
  refine va_get (D := (dC, dI)) (ci := 12) (v := .int 0) (C := RX12) (T := TX12) (N := 163) hx hb hts iwsPX12_read_in12 hown hK hP 0 rfl rfl 21 (by decide) (hts (.fieldLink RX12 515 "OptimaWorksModel" "stop" "I") (by decide +kernel)) (fun _ h9 => h9) rfl dX12_read_120 ?_
  refine lv_if_ne (tgt := 130) hx hb dX12_read_123 (by decide) (fun c9 => absurd c9 (by decide)) (fun _ => ?_)
  refine lv_iconst (v := (-1)) hx hb dX12_read_126 (by decide) ?_
  refine lv_goto (tgt := 134) hx hb dX12_read_127 (by decide) ?_
  refine va_put (D := (dC, dI)) (ci := 12) (v := .int (-1)) (ty := .int) (C := RX12) (T := TX12) (N := 163) hx hb hts iwsPX12_read_in12 tyX12 tyX12_ok nmX12 hown hK hP hD hS 0 rfl rfl 24 (by decide) (hts (.fieldLink RX12 47 "OptimaWorksModel" "latestPlace" "I") (by decide +kernel)) (fun _ h9 => h9) rfl (by decide +kernel) rfl rfl (Nat.le_of_ble_eq_true rfl) dX12_read_134 (fun H locs hP hD hS => ?_)
  have hP : va_P (dC, dI) vwCl [(h0, .inr (12, fM (mUp (mUp (mUp (mUp (mUp (mUp (mUp (mUp (mUp (mUp (mUp (mUp (mUp (mUp (mUp (mUp (mUp (mUp (mUp (mUp (mUp (mUp v 0 (.int 0)) 95 (.int 0)) 113 (.int 0)) 117 (.int 0)) 21 (.int 0)) 22 (.int (-1))) 25 (.int 0)) 35 (.int 0)) 36 (.int 0)) 37 (.int 0)) 38 (.int 0)) 90 (.int 0)) 91 (.int 0)) 92 (.int 0)) 93 (.int 0)) 94 (.int 1)) 17 (.int 0)) 19 (.int 0)) 20 (.int (-1))) 18 (.int 0)) 23 (.int 0)) 24 (.int (-1)))))] H := hP
  have hD : va_D A [(h0, .inr (12, fM (mUp (mUp (mUp (mUp (mUp (mUp (mUp (mUp (mUp (mUp (mUp (mUp (mUp (mUp (mUp (mUp (mUp (mUp (mUp (mUp (mUp (mUp v 0 (.int 0)) 95 (.int 0)) 113 (.int 0)) 117 (.int 0)) 21 (.int 0)) 22 (.int (-1))) 25 (.int 0)) 35 (.int 0)) 36 (.int 0)) 37 (.int 0)) 38 (.int 0)) 90 (.int 0)) 91 (.int 0)) 92 (.int 0)) 93 (.int 0)) 94 (.int 1)) 17 (.int 0)) 19 (.int 0)) 20 (.int (-1))) 18 (.int 0)) 23 (.int 0)) 24 (.int (-1)))))] := hD
  refine lv_aload_n hx hb dX12_read_137 rfl (lv_at hl 0 rfl) ?_
  refine lv_aload_n hx hb dX12_read_138 rfl (lv_at hl 0 rfl) ?_
  refine va_get (D := (dC, dI)) (ci := 12) (v := .int 0) (C := RX12) (T := TX12) (N := 163) hx hb hts iwsPX12_read_in12 hown hK hP 0 rfl rfl 21 (by decide) (hts (.fieldLink RX12 515 "OptimaWorksModel" "stop" "I") (by decide +kernel)) (fun _ h9 => h9) rfl dX12_read_139 ?_
  refine lv_if_ne (tgt := 149) hx hb dX12_read_142 (by decide) (fun c9 => absurd c9 (by decide)) (fun _ => ?_)
  refine lv_iconst (v := 1) hx hb dX12_read_145 (by decide) ?_
  refine lv_goto (tgt := 150) hx hb dX12_read_146 (by decide) ?_
  refine va_put (D := (dC, dI)) (ci := 12) (v := .int 1) (ty := .boolean) (C := RX12) (T := TX12) (N := 163) hx hb hts iwsPX12_read_in12 tyX12 tyX12_ok nmX12 hown hK hP hD hS 0 rfl rfl 95 (by decide) (hts (.fieldLink RX12 808 "OptimaWorksModel" "isModel" "Z") (by decide +kernel)) (fun _ h9 => h9) rfl (by decide +kernel) rfl rfl (Nat.le_of_ble_eq_true rfl) dX12_read_150 (fun H locs hP hD hS => ?_)
  have hP : va_P (dC, dI) vwCl [(h0, .inr (12, fM (mUp (mUp (mUp (mUp (mUp (mUp (mUp (mUp (mUp (mUp (mUp (mUp (mUp (mUp (mUp (mUp (mUp (mUp (mUp (mUp (mUp (mUp (mUp v 0 (.int 0)) 95 (.int 0)) 113 (.int 0)) 117 (.int 0)) 21 (.int 0)) 22 (.int (-1))) 25 (.int 0)) 35 (.int 0)) 36 (.int 0)) 37 (.int 0)) 38 (.int 0)) 90 (.int 0)) 91 (.int 0)) 92 (.int 0)) 93 (.int 0)) 94 (.int 1)) 17 (.int 0)) 19 (.int 0)) 20 (.int (-1))) 18 (.int 0)) 23 (.int 0)) 24 (.int (-1))) 95 (.int 1))))] H := hP
  have hD : va_D A [(h0, .inr (12, fM (mUp (mUp (mUp (mUp (mUp (mUp (mUp (mUp (mUp (mUp (mUp (mUp (mUp (mUp (mUp (mUp (mUp (mUp (mUp (mUp (mUp (mUp (mUp v 0 (.int 0)) 95 (.int 0)) 113 (.int 0)) 117 (.int 0)) 21 (.int 0)) 22 (.int (-1))) 25 (.int 0)) 35 (.int 0)) 36 (.int 0)) 37 (.int 0)) 38 (.int 0)) 90 (.int 0)) 91 (.int 0)) 92 (.int 0)) 93 (.int 0)) 94 (.int 1)) 17 (.int 0)) 19 (.int 0)) 20 (.int (-1))) 18 (.int 0)) 23 (.int 0)) 24 (.int (-1))) 95 (.int 1))))] := hD
  refine lv_aload_n hx hb dX12_read_153 rfl (lv_at hl 0 rfl) ?_
  refine va_get (D := (dC, dI)) (ci := 12) (v := .int 1) (C := RX12) (T := TX12) (N := 163) hx hb hts iwsPX12_read_in12 hown hK hP 0 rfl rfl 95 (by decide) (hts (.fieldLink RX12 808 "OptimaWorksModel" "isModel" "Z") (by decide +kernel)) (fun _ h9 => h9) rfl dX12_read_154 ?_
  refine lv_if_eq (tgt := 165) hx hb dX12_read_157 (by decide) (fun c9 => absurd c9 (by decide)) (fun _ => ?_)
  refine lv_aload_n hx hb dX12_read_160 rfl (lv_at hl 0 rfl) ?_
  refine va_get (D := (dC, dI)) (ci := 12) (v := .int 0) (C := RX12) (T := TX12) (N := 163) hx hb hts iwsPX12_read_in12 hown hK hP 0 rfl rfl 90 (by decide) (hts (.fieldLink RX12 774 "OptimaWorksModel" "variables" "I") (by decide +kernel)) (fun _ h9 => h9) rfl dX12_read_161 ?_
  refine W.widen (k := 0) (n := 0) (by decide +kernel) (by decide +kernel) ?_
  exact W.iret (v := 0) hx hb hr (fun t ht hW => ⟨⟨0, (mUp (mUp (mUp (mUp (mUp (mUp (mUp (mUp (mUp (mUp (mUp (mUp (mUp (mUp (mUp (mUp (mUp (mUp (mUp (mUp (mUp (mUp (mUp v 0 (.int 0)) 95 (.int 0)) 113 (.int 0)) 117 (.int 0)) 21 (.int 0)) 22 (.int (-1))) 25 (.int 0)) 35 (.int 0)) 36 (.int 0)) 37 (.int 0)) 38 (.int 0)) 90 (.int 0)) 91 (.int 0)) 92 (.int 0)) 93 (.int 0)) 94 (.int 1)) 17 (.int 0)) 19 (.int 0)) 20 (.int (-1))) 18 (.int 0)) 23 (.int 0)) 24 (.int (-1))) 95 (.int 1)), rfl, by (refine ⟨?_, ?_⟩ <;> (first | rfl | assumption | trivial | omega | (simp []; done) | (simp; omega))), by rw [ht]; exact hP.sub [0] rfl, va_K.moved hW.alike (hK.sub [] rfl), hD.sub [0] (by decide) rfl⟩, hS.F ht⟩) hS.2.2 dX12_read_164
def wsPX12_variable : List Cond := .code yX12_variable cX12_variable 3 (some .int) :: ([.fieldLink RX12 348 "OptimaWorksModel" "thrown" "I", .fieldLink RX12 774 "OptimaWorksModel" "variables" "I"] ++ wsX120)
theorem iwsPX12_variable_in12 : ∀ w ∈ wsX120, w ∈ wsPX12_variable := fun _ h => List.mem_cons_of_mem _ (List.mem_append_right _ h)
set_option maxHeartbeats 4000000 in
set_option maxRecDepth 100000 in
/-- variable(k, what) -/
theorem p_X12_variable (l : Launch) (dC : Nat → ClassId) (dI : Nat → Nat → Nat) (h0 : Nat) (v : Nat → Value) (h_variables : v 90 = .int 0) (qk : Int32) (wh : Int32) (sz : Nat) : Met l yX12_variable wsPX12_variable ({ frames := 0, cells := 0, slots := 0, locals := 0 }) (va_Pc [.ref h0, .int qk, .int wh] (fun U => U.heap.size = sz ∧ va_P (dC, dI) vwCl [(h0, .inr (12, fM v))] U.heap ∧ va_K (dC, dI) vwCl [] U ∧ va_D (fun _ => True) [(h0, .inr (12, fM v))])) (va_Qi (fun (r : Int32) (u : Nat → Value) => r = 0 ∧ (u 0 = .int 1)) (fun (u : Nat → Value) t => va_P (dC, dI) vwCl [(h0, .inr (12, fM u))] t.heap ∧ va_K (dC, dI) vwCl [] t ∧ va_D (va_A [(h0, .inr (12, fM v))] sz) [(h0, .inr (12, fM u))]) (va_A [(h0, .inr (12, fM v))] sz)) 0 0 (va_A [(h0, .inr (12, fM v))] sz) := by
  refine Met.ofW (cc := cX12_variable) (maxL := 3) (ret := (some .int)) (by decide) rfl ?_
  intro p e s m args below meth c s₁ B hml hv
  obtain ⟨rfl, hsz, hP, hK, hD0⟩ := hv
  have hx := B.exec
  have hb := B.bytes
  have hr := B.returns
  have hts := atoms_spec (ws := wsPX12_variable) B.pre
  have hown : s.vm.findClass RX12 = some m.cls := findClass_of_methodNamed B.named
  have hlocks := B.notSynchronized
  subst hsz
  have hD := hD0.self (sz := s.heap.size)
  generalize hAe : va_A [(h0, .inr (12, fM v))] s.heap.size = A at hD ⊢
  have hA : ∀ q : Nat, s.heap.size ≤ q → A q := fun q h => by rw [← hAe]; exact Or.inr h
  have hS : va_S A s.heap s.heap [] := va_S.rf
  have hP : va_P (dC, dI) vwCl [(h0, .inr (12, fM v))] s.heap := hP
  have hl := lv_entry ([.ref h0, .int qk, .int wh]) (n := 3) (Nat.le_of_ble_eq_true rfl)
  rw [lg_entry_eq]
  generalize (lg_sl ([.ref h0, .int qk, .int wh]) ++ List.replicate (3 - (lg_sl ([.ref h0, .int qk, .int wh])).length) Slot.unset).toArray = ls at hl ⊢
  have hl : lv_has ls 3 [(0, .ref h0), (1, .int qk), (2, .int wh)] := hl
  refine lv_aload_n hx hb dX12_variable_0 rfl (lv_at hl 0 rfl) ?_
  refine lv_iload_n hx hb dX12_variable_1 rfl (lv_at hl 1 rfl) ?_
  refine lv_if_lt (tgt := 17) hx hb dX12_variable_2 (by decide) (fun c_2 => ?_) (fun c_2 => ?_)
  · have t_2 : (qk).toInt < 0 := toI_lt c_2 rfl (by decide)
    refine lv_iconst (v := 1) hx hb dX12_variable_17 (by decide) ?_
    refine va_put (D := (dC, dI)) (ci := 12) (v := .int 1) (ty := .int) (C := RX12) (T := TX12) (N := 163) hx hb hts iwsPX12_variable_in12 tyX12 tyX12_ok nmX12 hown hK hP hD hS 0 rfl rfl 0 (by decide) (hts (.fieldLink RX12 348 "OptimaWorksModel" "thrown" "I") (by decide +kernel)) (fun _ h9 => h9) rfl (by decide +kernel) rfl rfl (Nat.le_of_ble_eq_true rfl) dX12_variable_18 (fun H locs hP hD hS => ?_)
    have hP : va_P (dC, dI) vwCl [(h0, .inr (12, fM (mUp v 0 (.int 1))))] H := hP
    have hD : va_D A [(h0, .inr (12, fM (mUp v 0 (.int 1))))] := hD
    refine lv_aload_n hx hb dX12_variable_21 rfl (lv_at hl 0 rfl) ?_
    refine va_get (D := (dC, dI)) (ci := 12) (v := .int 1) (C := RX12) (T := TX12) (N := 163) hx hb hts iwsPX12_variable_in12 hown hK hP 0 rfl rfl 0 (by decide) (hts (.fieldLink RX12 348 "OptimaWorksModel" "thrown" "I") (by decide +kernel)) (fun _ h9 => h9) rfl dX12_variable_22 ?_
    refine lv_if_le (tgt := 30) hx hb dX12_variable_25 (by decide) (fun c9 => absurd c9 (by decide)) (fun _ => ?_)
    refine lv_iconst (v := 0) hx hb dX12_variable_28 (by decide) ?_
    refine W.widen (k := 0) (n := 0) (by decide +kernel) (by decide +kernel) ?_
    exact W.iret (v := 0) hx hb hr (fun t ht hW => ⟨⟨0, (mUp v 0 (.int 1)), rfl, by (refine ⟨?_, ?_⟩ <;> (first | rfl | assumption | trivial | omega | (simp [c_2]; done) | (simp; omega))), by rw [ht]; exact hP.sub [0] rfl, va_K.moved hW.alike (hK.sub [] rfl), hD.sub [0] (by decide) rfl⟩, hS.F ht⟩) hS.2.2 dX12_variable_29
  · have t_2 : ¬ (qk).toInt < 0 := toI_nlt c_2 rfl (by decide)
    refine lv_iload_n hx hb dX12_variable_5 rfl (lv_at hl 1 rfl) ?_
    refine lv_aload_n hx hb dX12_variable_6 rfl (lv_at hl 0 rfl) ?_
    refine va_get (D := (dC, dI)) (ci := 12) (v := .int 0) (C := RX12) (T := TX12) (N := 163) hx hb hts iwsPX12_variable_in12 hown hK hP 0 rfl rfl 90 (by decide) (hts (.fieldLink RX12 774 "OptimaWorksModel" "variables" "I") (by decide +kernel)) (fun _ h9 => h9) (congrArg some h_variables) dX12_variable_7 ?_
    refine lv_icmp_ge (tgt := 17) hx hb dX12_variable_10 (by decide) (fun c_10 => ?_) (fun c9 => False.elim (by have t9 : ¬ (qk).toInt ≥ 0 := toI_nge c9 rfl (by decide); omega))
    have t_10 : (qk).toInt ≥ 0 := toI_ge c_10 rfl (by decide)
    refine lv_iconst (v := 1) hx hb dX12_variable_17 (by decide) ?_
    refine va_put (D := (dC, dI)) (ci := 12) (v := .int 1) (ty := .int) (C := RX12) (T := TX12) (N := 163) hx hb hts iwsPX12_variable_in12 tyX12 tyX12_ok nmX12 hown hK hP hD hS 0 rfl rfl 0 (by decide) (hts (.fieldLink RX12 348 "OptimaWorksModel" "thrown" "I") (by decide +kernel)) (fun _ h9 => h9) rfl (by decide +kernel) rfl rfl (Nat.le_of_ble_eq_true rfl) dX12_variable_18 (fun H locs hP hD hS => ?_)
    have hP : va_P (dC, dI) vwCl [(h0, .inr (12, fM (mUp v 0 (.int 1))))] H := hP
    have hD : va_D A [(h0, .inr (12, fM (mUp v 0 (.int 1))))] := hD
    refine lv_aload_n hx hb dX12_variable_21 rfl (lv_at hl 0 rfl) ?_
    refine va_get (D := (dC, dI)) (ci := 12) (v := .int 1) (C := RX12) (T := TX12) (N := 163) hx hb hts iwsPX12_variable_in12 hown hK hP 0 rfl rfl 0 (by decide) (hts (.fieldLink RX12 348 "OptimaWorksModel" "thrown" "I") (by decide +kernel)) (fun _ h9 => h9) rfl dX12_variable_22 ?_
    refine lv_if_le (tgt := 30) hx hb dX12_variable_25 (by decide) (fun c9 => absurd c9 (by decide)) (fun _ => ?_)
    refine lv_iconst (v := 0) hx hb dX12_variable_28 (by decide) ?_
    refine W.widen (k := 0) (n := 0) (by decide +kernel) (by decide +kernel) ?_
    exact W.iret (v := 0) hx hb hr (fun t ht hW => ⟨⟨0, (mUp v 0 (.int 1)), rfl, by (refine ⟨?_, ?_⟩ <;> (first | rfl | assumption | trivial | omega | (simp [c_2]; done) | (simp; omega))), by rw [ht]; exact hP.sub [0] rfl, va_K.moved hW.alike (hK.sub [] rfl), hD.sub [0] (by decide) rfl⟩, hS.F ht⟩) hS.2.2 dX12_variable_29
def wsPX12_fault : List Cond := .code yX12_fault cX12_fault 2 (some .int) :: ([.fieldLink RX12 348 "OptimaWorksModel" "thrown" "I", .fieldLink RX12 47 "OptimaWorksModel" "latestPlace" "I", .fieldLink RX12 820 "OptimaWorksModel" "latest" "I"] ++ wsX120)
theorem iwsPX12_fault_in12 : ∀ w ∈ wsX120, w ∈ wsPX12_fault := fun _ h => List.mem_cons_of_mem _ (List.mem_append_right _ h)
set_option maxHeartbeats 4000000 in
set_option maxRecDepth 100000 in
/-- fault(what) -/
theorem p_X12_fault (l : Launch) (dC : Nat → ClassId) (dI : Nat → Nat → Nat) (h0 : Nat) (v : Nat → Value) (h_latest : v 23 = .int 0) (h_latestPlace : v 24 = .int (-1)) (wh : Int32) (sz : Nat) : Met l yX12_fault wsPX12_fault ({ frames := 0, cells := 0, slots := 0, locals := 0 }) (va_Pc [.ref h0, .int wh] (fun U => U.heap.size = sz ∧ va_P (dC, dI) vwCl [(h0, .inr (12, fM v))] U.heap ∧ va_K (dC, dI) vwCl [] U ∧ va_D (fun _ => True) [(h0, .inr (12, fM v))])) (va_Qi (fun (r : Int32) (u : Nat → Value) => (r = 0 ∧ ((wh).toInt = 0) ∧ (u 0 = .int 0)) ∨ (r = (-1) ∧ (¬ (wh).toInt = 0) ∧ (u 0 = .int 0))) (fun (u : Nat → Value) t => va_P (dC, dI) vwCl [(h0, .inr (12, fM u))] t.heap ∧ va_K (dC, dI) vwCl [] t ∧ va_D (va_A [(h0, .inr (12, fM v))] sz) [(h0, .inr (12, fM u))]) (va_A [(h0, .inr (12, fM v))] sz)) 0 0 (va_A [(h0, .inr (12, fM v))] sz) := by
  refine Met.ofW (cc := cX12_fault) (maxL := 2) (ret := (some .int)) (by decide) rfl ?_
  intro p e s m args below meth c s₁ B hml hv
  obtain ⟨rfl, hsz, hP, hK, hD0⟩ := hv
  have hx := B.exec
  have hb := B.bytes
  have hr := B.returns
  have hts := atoms_spec (ws := wsPX12_fault) B.pre
  have hown : s.vm.findClass RX12 = some m.cls := findClass_of_methodNamed B.named
  have hlocks := B.notSynchronized
  subst hsz
  have hD := hD0.self (sz := s.heap.size)
  generalize hAe : va_A [(h0, .inr (12, fM v))] s.heap.size = A at hD ⊢
  have hA : ∀ q : Nat, s.heap.size ≤ q → A q := fun q h => by rw [← hAe]; exact Or.inr h
  have hS : va_S A s.heap s.heap [] := va_S.rf
  have hP : va_P (dC, dI) vwCl [(h0, .inr (12, fM v))] s.heap := hP
  have hl := lv_entry ([.ref h0, .int wh]) (n := 2) (Nat.le_of_ble_eq_true rfl)
  rw [lg_entry_eq]
  generalize (lg_sl ([.ref h0, .int wh]) ++ List.replicate (2 - (lg_sl ([.ref h0, .int wh])).length) Slot.unset).toArray = ls at hl ⊢
  have hl : lv_has ls 2 [(0, .ref h0), (1, .int wh)] := hl
  refine lv_aload_n hx hb dX12_fault_0 rfl (lv_at hl 0 rfl) ?_
  refine lv_iconst (v := 0) hx hb dX12_fault_1 (by decide) ?_
  refine va_put (D := (dC, dI)) (ci := 12) (v := .int 0) (ty := .int) (C := RX12) (T := TX12) (N := 163) hx hb hts iwsPX12_fault_in12 tyX12 tyX12_ok nmX12 hown hK hP hD hS 0 rfl rfl 0 (by decide) (hts (.fieldLink RX12 348 "OptimaWorksModel" "thrown" "I") (by decide +kernel)) (fun _ h9 => h9) rfl (by decide +kernel) rfl rfl (Nat.le_of_ble_eq_true rfl) dX12_fault_2 (fun H locs hP hD hS => ?_)
  have hP : va_P (dC, dI) vwCl [(h0, .inr (12, fM (mUp v 0 (.int 0))))] H := hP
  have hD : va_D A [(h0, .inr (12, fM (mUp v 0 (.int 0))))] := hD
  refine lv_iload_n hx hb dX12_fault_5 rfl (lv_at hl 1 rfl) ?_
  refine lv_if_ne (tgt := 16) hx hb dX12_fault_6 (by decide) (fun c_6 => ?_) (fun c_6 => ?_)
  · have t_6 : (wh).toInt ≠ 0 := toI_ne c_6 rfl (by decide)
    refine lv_iload_n hx hb dX12_fault_16 rfl (lv_at hl 1 rfl) ?_
    refine lv_iconst (v := 1) hx hb dX12_fault_17 (by decide) ?_
    refine lv_icmp_ne (tgt := 28) hx hb dX12_fault_18 (by decide) (fun c_18 => ?_) (fun c_18 => ?_)
    · have t_18 : (wh).toInt ≠ 1 := toI_ne c_18 rfl (by decide)
      refine lv_iconst (v := (-1)) hx hb dX12_fault_28 (by decide) ?_
      refine W.widen (k := 0) (n := 0) (by decide +kernel) (by decide +kernel) ?_
      exact W.iret (v := (-1)) hx hb hr (fun t ht hW => ⟨⟨(-1), (mUp v 0 (.int 0)), rfl, by first | (left; (refine ⟨?_, ?_, ?_⟩ <;> (first | rfl | assumption | trivial | omega | (simp [c_6, c_18]; done) | (simp; omega)))) | (right; (refine ⟨?_, ?_, ?_⟩ <;> (first | rfl | assumption | trivial | omega | (simp [c_6, c_18]; done) | (simp; omega)))), by rw [ht]; exact hP.sub [0] rfl, va_K.moved hW.alike (hK.sub [] rfl), hD.sub [0] (by decide) rfl⟩, hS.F ht⟩) hS.2.2 dX12_fault_29
    · have t_18 : (wh).toInt = 1 := toI_nne c_18 rfl (by decide)
      refine lv_aload_n hx hb dX12_fault_21 rfl (lv_at hl 0 rfl) ?_
      refine va_get (D := (dC, dI)) (ci := 12) (v := .int (-1)) (C := RX12) (T := TX12) (N := 163) hx hb hts iwsPX12_fault_in12 hown hK hP 0 rfl rfl 24 (by decide) (hts (.fieldLink RX12 47 "OptimaWorksModel" "latestPlace" "I") (by decide +kernel)) (fun _ h9 => h9) (congrArg some h_latestPlace) dX12_fault_22 ?_
      refine lv_goto (tgt := 29) hx hb dX12_fault_25 (by decide) ?_
      refine W.widen (k := 0) (n := 0) (by decide +kernel) (by decide +kernel) ?_
      exact W.iret (v := (-1)) hx hb hr (fun t ht hW => ⟨⟨(-1), (mUp v 0 (.int 0)), rfl, by first | (left; (refine ⟨?_, ?_, ?_⟩ <;> (first | rfl | assumption | trivial | omega | (simp [c_6, c_18]; done) | (simp; omega)))) | (right; (refine ⟨?_, ?_, ?_⟩ <;> (first | rfl | assumption | trivial | omega | (simp [c_6, c_18]; done) | (simp; omega)))), by rw [ht]; exact hP.sub [0] rfl, va_K.moved hW.alike (hK.sub [] rfl), hD.sub [0] (by decide) rfl⟩, hS.F ht⟩) hS.2.2 dX12_fault_29
  · have t_6 : (wh).toInt = 0 := toI_nne c_6 rfl (by decide)
    refine lv_aload_n hx hb dX12_fault_9 rfl (lv_at hl 0 rfl) ?_
    refine va_get (D := (dC, dI)) (ci := 12) (v := .int 0) (C := RX12) (T := TX12) (N := 163) hx hb hts iwsPX12_fault_in12 hown hK hP 0 rfl rfl 23 (by decide) (hts (.fieldLink RX12 820 "OptimaWorksModel" "latest" "I") (by decide +kernel)) (fun _ h9 => h9) (congrArg some h_latest) dX12_fault_10 ?_
    refine lv_goto (tgt := 29) hx hb dX12_fault_13 (by decide) ?_
    refine W.widen (k := 0) (n := 0) (by decide +kernel) (by decide +kernel) ?_
    exact W.iret (v := 0) hx hb hr (fun t ht hW => ⟨⟨0, (mUp v 0 (.int 0)), rfl, by first | (left; (refine ⟨?_, ?_, ?_⟩ <;> (first | rfl | assumption | trivial | omega | (simp [c_6]; done) | (simp; omega)))) | (right; (refine ⟨?_, ?_, ?_⟩ <;> (first | rfl | assumption | trivial | omega | (simp [c_6]; done) | (simp; omega)))), by rw [ht]; exact hP.sub [0] rfl, va_K.moved hW.alike (hK.sub [] rfl), hD.sub [0] (by decide) rfl⟩, hS.F ht⟩) hS.2.2 dX12_fault_29
def wsPX12_letter : List Cond := .code yX12_letter cX12_letter 2 (some .int) :: ([.fieldLink RX12 348 "OptimaWorksModel" "thrown" "I", .fieldLink RX12 933 "OptimaWorksModel" "printed" "I"] ++ wsX120)
theorem iwsPX12_letter_in12 : ∀ w ∈ wsX120, w ∈ wsPX12_letter := fun _ h => List.mem_cons_of_mem _ (List.mem_append_right _ h)
set_option maxHeartbeats 4000000 in
set_option maxRecDepth 100000 in
/-- letter(i) -/
theorem p_X12_letter (l : Launch) (dC : Nat → ClassId) (dI : Nat → Nat → Nat) (h0 : Nat) (v : Nat → Value) (h_printed : v 125 = .int 0) (qi : Int32) (sz : Nat) : Met l yX12_letter wsPX12_letter ({ frames := 0, cells := 0, slots := 0, locals := 0 }) (va_Pc [.ref h0, .int qi] (fun U => U.heap.size = sz ∧ va_P (dC, dI) vwCl [(h0, .inr (12, fM v))] U.heap ∧ va_K (dC, dI) vwCl [] U ∧ va_D (fun _ => True) [(h0, .inr (12, fM v))])) (va_Qi (fun (r : Int32) (u : Nat → Value) => r = (-1) ∧ (u 0 = .int 0)) (fun (u : Nat → Value) t => va_P (dC, dI) vwCl [(h0, .inr (12, fM u))] t.heap ∧ va_K (dC, dI) vwCl [] t ∧ va_D (va_A [(h0, .inr (12, fM v))] sz) [(h0, .inr (12, fM u))]) (va_A [(h0, .inr (12, fM v))] sz)) 0 0 (va_A [(h0, .inr (12, fM v))] sz) := by
  refine Met.ofW (cc := cX12_letter) (maxL := 2) (ret := (some .int)) (by decide) rfl ?_
  intro p e s m args below meth c s₁ B hml hv
  obtain ⟨rfl, hsz, hP, hK, hD0⟩ := hv
  have hx := B.exec
  have hb := B.bytes
  have hr := B.returns
  have hts := atoms_spec (ws := wsPX12_letter) B.pre
  have hown : s.vm.findClass RX12 = some m.cls := findClass_of_methodNamed B.named
  have hlocks := B.notSynchronized
  subst hsz
  have hD := hD0.self (sz := s.heap.size)
  generalize hAe : va_A [(h0, .inr (12, fM v))] s.heap.size = A at hD ⊢
  have hA : ∀ q : Nat, s.heap.size ≤ q → A q := fun q h => by rw [← hAe]; exact Or.inr h
  have hS : va_S A s.heap s.heap [] := va_S.rf
  have hP : va_P (dC, dI) vwCl [(h0, .inr (12, fM v))] s.heap := hP
  have hl := lv_entry ([.ref h0, .int qi]) (n := 2) (Nat.le_of_ble_eq_true rfl)
  rw [lg_entry_eq]
  generalize (lg_sl ([.ref h0, .int qi]) ++ List.replicate (2 - (lg_sl ([.ref h0, .int qi])).length) Slot.unset).toArray = ls at hl ⊢
  have hl : lv_has ls 2 [(0, .ref h0), (1, .int qi)] := hl
  refine lv_aload_n hx hb dX12_letter_0 rfl (lv_at hl 0 rfl) ?_
  refine lv_iconst (v := 0) hx hb dX12_letter_1 (by decide) ?_
  refine va_put (D := (dC, dI)) (ci := 12) (v := .int 0) (ty := .int) (C := RX12) (T := TX12) (N := 163) hx hb hts iwsPX12_letter_in12 tyX12 tyX12_ok nmX12 hown hK hP hD hS 0 rfl rfl 0 (by decide) (hts (.fieldLink RX12 348 "OptimaWorksModel" "thrown" "I") (by decide +kernel)) (fun _ h9 => h9) rfl (by decide +kernel) rfl rfl (Nat.le_of_ble_eq_true rfl) dX12_letter_2 (fun H locs hP hD hS => ?_)
  have hP : va_P (dC, dI) vwCl [(h0, .inr (12, fM (mUp v 0 (.int 0))))] H := hP
  have hD : va_D A [(h0, .inr (12, fM (mUp v 0 (.int 0))))] := hD
  refine lv_iload_n hx hb dX12_letter_5 rfl (lv_at hl 1 rfl) ?_
  refine lv_if_lt (tgt := 17) hx hb dX12_letter_6 (by decide) (fun c_6 => ?_) (fun c_6 => ?_)
  · have t_6 : (qi).toInt < 0 := toI_lt c_6 rfl (by decide)
    refine lv_iconst (v := (-1)) hx hb dX12_letter_17 (by decide) ?_
    refine lv_goto (tgt := 31) hx hb dX12_letter_18 (by decide) ?_
    refine W.widen (k := 0) (n := 0) (by decide +kernel) (by decide +kernel) ?_
    exact W.iret (v := (-1)) hx hb hr (fun t ht hW => ⟨⟨(-1), (mUp v 0 (.int 0)), rfl, by (refine ⟨?_, ?_⟩ <;> (first | rfl | assumption | trivial | omega | (simp [c_6]; done) | (simp; omega))), by rw [ht]; exact hP.sub [0] rfl, va_K.moved hW.alike (hK.sub [] rfl), hD.sub [0] (by decide) rfl⟩, hS.F ht⟩) hS.2.2 dX12_letter_31
  · have t_6 : ¬ (qi).toInt < 0 := toI_nlt c_6 rfl (by decide)
    refine lv_iload_n hx hb dX12_letter_9 rfl (lv_at hl 1 rfl) ?_
    refine lv_aload_n hx hb dX12_letter_10 rfl (lv_at hl 0 rfl) ?_
    refine va_get (D := (dC, dI)) (ci := 12) (v := .int 0) (C := RX12) (T := TX12) (N := 163) hx hb hts iwsPX12_letter_in12 hown hK hP 0 rfl rfl 125 (by decide) (hts (.fieldLink RX12 933 "OptimaWorksModel" "printed" "I") (by decide +kernel)) (fun _ h9 => h9) (congrArg some h_printed) dX12_letter_11 ?_
    refine lv_icmp_lt (tgt := 21) hx hb dX12_letter_14 (by decide) (fun c9 => False.elim (by have t9 : (qi).toInt < 0 := toI_lt c9 rfl (by decide); omega)) (fun c_14 => ?_)
    have t_14 : ¬ (qi).toInt < 0 := toI_nlt c_14 rfl (by decide)
    refine lv_iconst (v := (-1)) hx hb dX12_letter_17 (by decide) ?_
    refine lv_goto (tgt := 31) hx hb dX12_letter_18 (by decide) ?_
    refine W.widen (k := 0) (n := 0) (by decide +kernel) (by decide +kernel) ?_
    exact W.iret (v := (-1)) hx hb hr (fun t ht hW => ⟨⟨(-1), (mUp v 0 (.int 0)), rfl, by (refine ⟨?_, ?_⟩ <;> (first | rfl | assumption | trivial | omega | (simp [c_6]; done) | (simp; omega))), by rw [ht]; exact hP.sub [0] rfl, va_K.moved hW.alike (hK.sub [] rfl), hD.sub [0] (by decide) rfl⟩, hS.F ht⟩) hS.2.2 dX12_letter_31
def wsPX12_need : List Cond := .code yX12_need cX12_need 3 (some .int) :: ([.fieldLink RX12 348 "OptimaWorksModel" "thrown" "I", .fieldLink RX12 814 "OptimaWorksModel" "hasProof" "Z"] ++ wsX120)
theorem iwsPX12_need_in12 : ∀ w ∈ wsX120, w ∈ wsPX12_need := fun _ h => List.mem_cons_of_mem _ (List.mem_append_right _ h)
set_option maxHeartbeats 4000000 in
set_option maxRecDepth 100000 in
/-- need(i, what) -/
theorem p_X12_need (l : Launch) (dC : Nat → ClassId) (dI : Nat → Nat → Nat) (h0 : Nat) (v : Nat → Value) (h_hasProof : v 117 = .int 0) (qi : Int32) (wh : Int32) (sz : Nat) : Met l yX12_need wsPX12_need ({ frames := 0, cells := 0, slots := 0, locals := 0 }) (va_Pc [.ref h0, .int qi, .int wh] (fun U => U.heap.size = sz ∧ va_P (dC, dI) vwCl [(h0, .inr (12, fM v))] U.heap ∧ va_K (dC, dI) vwCl [] U ∧ va_D (fun _ => True) [(h0, .inr (12, fM v))])) (va_Qi (fun (r : Int32) (u : Nat → Value) => r = (-1) ∧ (u 0 = .int 0)) (fun (u : Nat → Value) t => va_P (dC, dI) vwCl [(h0, .inr (12, fM u))] t.heap ∧ va_K (dC, dI) vwCl [] t ∧ va_D (va_A [(h0, .inr (12, fM v))] sz) [(h0, .inr (12, fM u))]) (va_A [(h0, .inr (12, fM v))] sz)) 0 0 (va_A [(h0, .inr (12, fM v))] sz) := by
  refine Met.ofW (cc := cX12_need) (maxL := 3) (ret := (some .int)) (by decide) rfl ?_
  intro p e s m args below meth c s₁ B hml hv
  obtain ⟨rfl, hsz, hP, hK, hD0⟩ := hv
  have hx := B.exec
  have hb := B.bytes
  have hr := B.returns
  have hts := atoms_spec (ws := wsPX12_need) B.pre
  have hown : s.vm.findClass RX12 = some m.cls := findClass_of_methodNamed B.named
  have hlocks := B.notSynchronized
  subst hsz
  have hD := hD0.self (sz := s.heap.size)
  generalize hAe : va_A [(h0, .inr (12, fM v))] s.heap.size = A at hD ⊢
  have hA : ∀ q : Nat, s.heap.size ≤ q → A q := fun q h => by rw [← hAe]; exact Or.inr h
  have hS : va_S A s.heap s.heap [] := va_S.rf
  have hP : va_P (dC, dI) vwCl [(h0, .inr (12, fM v))] s.heap := hP
  have hl := lv_entry ([.ref h0, .int qi, .int wh]) (n := 3) (Nat.le_of_ble_eq_true rfl)
  rw [lg_entry_eq]
  generalize (lg_sl ([.ref h0, .int qi, .int wh]) ++ List.replicate (3 - (lg_sl ([.ref h0, .int qi, .int wh])).length) Slot.unset).toArray = ls at hl ⊢
  have hl : lv_has ls 3 [(0, .ref h0), (1, .int qi), (2, .int wh)] := hl
  refine lv_aload_n hx hb dX12_need_0 rfl (lv_at hl 0 rfl) ?_
  refine lv_iconst (v := 0) hx hb dX12_need_1 (by decide) ?_
  refine va_put (D := (dC, dI)) (ci := 12) (v := .int 0) (ty := .int) (C := RX12) (T := TX12) (N := 163) hx hb hts iwsPX12_need_in12 tyX12 tyX12_ok nmX12 hown hK hP hD hS 0 rfl rfl 0 (by decide) (hts (.fieldLink RX12 348 "OptimaWorksModel" "thrown" "I") (by decide +kernel)) (fun _ h9 => h9) rfl (by decide +kernel) rfl rfl (Nat.le_of_ble_eq_true rfl) dX12_need_2 (fun H locs hP hD hS => ?_)
  have hP : va_P (dC, dI) vwCl [(h0, .inr (12, fM (mUp v 0 (.int 0))))] H := hP
  have hD : va_D A [(h0, .inr (12, fM (mUp v 0 (.int 0))))] := hD
  refine lv_aload_n hx hb dX12_need_5 rfl (lv_at hl 0 rfl) ?_
  refine va_get (D := (dC, dI)) (ci := 12) (v := .int 0) (C := RX12) (T := TX12) (N := 163) hx hb hts iwsPX12_need_in12 hown hK hP 0 rfl rfl 117 (by decide) (hts (.fieldLink RX12 814 "OptimaWorksModel" "hasProof" "Z") (by decide +kernel)) (fun _ h9 => h9) (congrArg some h_hasProof) dX12_need_6 ?_
  refine lv_if_eq (tgt := 24) hx hb dX12_need_9 (by decide) (fun _ => ?_) (fun c9 => absurd (by decide) c9)
  refine lv_iconst (v := (-1)) hx hb dX12_need_24 (by decide) ?_
  refine W.widen (k := 0) (n := 0) (by decide +kernel) (by decide +kernel) ?_
  exact W.iret (v := (-1)) hx hb hr (fun t ht hW => ⟨⟨(-1), (mUp v 0 (.int 0)), rfl, by (refine ⟨?_, ?_⟩ <;> (first | rfl | assumption | trivial | omega | (simp []; done) | (simp; omega))), by rw [ht]; exact hP.sub [0] rfl, va_K.moved hW.alike (hK.sub [] rfl), hD.sub [0] (by decide) rfl⟩, hS.F ht⟩) hS.2.2 dX12_need_25
def wsPX12_multiplier : List Cond := .code yX12_multiplier cX12_multiplier 2 (some .int) :: ([.fieldLink RX12 814 "OptimaWorksModel" "hasProof" "Z", .fieldLink RX12 348 "OptimaWorksModel" "thrown" "I"] ++ wsX120)
theorem iwsPX12_multiplier_in12 : ∀ w ∈ wsX120, w ∈ wsPX12_multiplier := fun _ h => List.mem_cons_of_mem _ (List.mem_append_right _ h)
set_option maxHeartbeats 4000000 in
set_option maxRecDepth 100000 in
/-- multiplier(i) -/
theorem p_X12_multiplier (l : Launch) (dC : Nat → ClassId) (dI : Nat → Nat → Nat) (h0 : Nat) (v : Nat → Value) (h_hasProof : v 117 = .int 0) (qi : Int32) (sz : Nat) : Met l yX12_multiplier wsPX12_multiplier ({ frames := 0, cells := 0, slots := 0, locals := 0 }) (va_Pc [.ref h0, .int qi] (fun U => U.heap.size = sz ∧ va_P (dC, dI) vwCl [(h0, .inr (12, fM v))] U.heap ∧ va_K (dC, dI) vwCl [] U ∧ va_D (fun _ => True) [(h0, .inr (12, fM v))])) (va_Qi (fun (r : Int32) (u : Nat → Value) => r = 0 ∧ (u 0 = .int 1)) (fun (u : Nat → Value) t => va_P (dC, dI) vwCl [(h0, .inr (12, fM u))] t.heap ∧ va_K (dC, dI) vwCl [] t ∧ va_D (va_A [(h0, .inr (12, fM v))] sz) [(h0, .inr (12, fM u))]) (va_A [(h0, .inr (12, fM v))] sz)) 0 0 (va_A [(h0, .inr (12, fM v))] sz) := by
  refine Met.ofW (cc := cX12_multiplier) (maxL := 2) (ret := (some .int)) (by decide) rfl ?_
  intro p e s m args below meth c s₁ B hml hv
  obtain ⟨rfl, hsz, hP, hK, hD0⟩ := hv
  have hx := B.exec
  have hb := B.bytes
  have hr := B.returns
  have hts := atoms_spec (ws := wsPX12_multiplier) B.pre
  have hown : s.vm.findClass RX12 = some m.cls := findClass_of_methodNamed B.named
  have hlocks := B.notSynchronized
  subst hsz
  have hD := hD0.self (sz := s.heap.size)
  generalize hAe : va_A [(h0, .inr (12, fM v))] s.heap.size = A at hD ⊢
  have hA : ∀ q : Nat, s.heap.size ≤ q → A q := fun q h => by rw [← hAe]; exact Or.inr h
  have hS : va_S A s.heap s.heap [] := va_S.rf
  have hP : va_P (dC, dI) vwCl [(h0, .inr (12, fM v))] s.heap := hP
  have hl := lv_entry ([.ref h0, .int qi]) (n := 2) (Nat.le_of_ble_eq_true rfl)
  rw [lg_entry_eq]
  generalize (lg_sl ([.ref h0, .int qi]) ++ List.replicate (2 - (lg_sl ([.ref h0, .int qi])).length) Slot.unset).toArray = ls at hl ⊢
  have hl : lv_has ls 2 [(0, .ref h0), (1, .int qi)] := hl
  refine lv_aload_n hx hb dX12_multiplier_0 rfl (lv_at hl 0 rfl) ?_
  refine lv_aload_n hx hb dX12_multiplier_1 rfl (lv_at hl 0 rfl) ?_
  refine va_get (D := (dC, dI)) (ci := 12) (v := .int 0) (C := RX12) (T := TX12) (N := 163) hx hb hts iwsPX12_multiplier_in12 hown hK hP 0 rfl rfl 117 (by decide) (hts (.fieldLink RX12 814 "OptimaWorksModel" "hasProof" "Z") (by decide +kernel)) (fun _ h9 => h9) (congrArg some h_hasProof) dX12_multiplier_2 ?_
  refine lv_if_ne (tgt := 12) hx hb dX12_multiplier_5 (by decide) (fun c9 => absurd c9 (by decide)) (fun _ => ?_)
  refine lv_iconst (v := 1) hx hb dX12_multiplier_8 (by decide) ?_
  refine lv_goto (tgt := 34) hx hb dX12_multiplier_9 (by decide) ?_
  refine va_put (D := (dC, dI)) (ci := 12) (v := .int 1) (ty := .int) (C := RX12) (T := TX12) (N := 163) hx hb hts iwsPX12_multiplier_in12 tyX12 tyX12_ok nmX12 hown hK hP hD hS 0 rfl rfl 0 (by decide) (hts (.fieldLink RX12 348 "OptimaWorksModel" "thrown" "I") (by decide +kernel)) (fun _ h9 => h9) rfl (by decide +kernel) rfl rfl (Nat.le_of_ble_eq_true rfl) dX12_multiplier_34 (fun H locs hP hD hS => ?_)
  have hP : va_P (dC, dI) vwCl [(h0, .inr (12, fM (mUp v 0 (.int 1))))] H := hP
  have hD : va_D A [(h0, .inr (12, fM (mUp v 0 (.int 1))))] := hD
  refine lv_aload_n hx hb dX12_multiplier_37 rfl (lv_at hl 0 rfl) ?_
  refine va_get (D := (dC, dI)) (ci := 12) (v := .int 1) (C := RX12) (T := TX12) (N := 163) hx hb hts iwsPX12_multiplier_in12 hown hK hP 0 rfl rfl 0 (by decide) (hts (.fieldLink RX12 348 "OptimaWorksModel" "thrown" "I") (by decide +kernel)) (fun _ h9 => h9) rfl dX12_multiplier_38 ?_
  refine lv_if_le (tgt := 46) hx hb dX12_multiplier_41 (by decide) (fun c9 => absurd c9 (by decide)) (fun _ => ?_)
  refine lv_iconst (v := 0) hx hb dX12_multiplier_44 (by decide) ?_
  refine W.widen (k := 0) (n := 0) (by decide +kernel) (by decide +kernel) ?_
  exact W.iret (v := 0) hx hb hr (fun t ht hW => ⟨⟨0, (mUp v 0 (.int 1)), rfl, by (refine ⟨?_, ?_⟩ <;> (first | rfl | assumption | trivial | omega | (simp []; done) | (simp; omega))), by rw [ht]; exact hP.sub [0] rfl, va_K.moved hW.alike (hK.sub [] rfl), hD.sub [0] (by decide) rfl⟩, hS.F ht⟩) hS.2.2 dX12_multiplier_45
def wsPX12_write : List Cond := .code yX12_write cX12_write 4 (some .int) :: ([.fieldLink RX12 808 "OptimaWorksModel" "isModel" "Z", .fieldLink RX12 348 "OptimaWorksModel" "thrown" "I"] ++ wsX120)
theorem iwsPX12_write_in12 : ∀ w ∈ wsX120, w ∈ wsPX12_write := fun _ h => List.mem_cons_of_mem _ (List.mem_append_right _ h)
set_option maxHeartbeats 4000000 in
set_option maxRecDepth 100000 in
/-- write() without a model -/
theorem p_X12_write (l : Launch) (dC : Nat → ClassId) (dI : Nat → Nat → Nat) (h0 : Nat) (v : Nat → Value) (h_isModel : v 95 = .int 0) (sz : Nat) : Met l yX12_write wsPX12_write ({ frames := 0, cells := 0, slots := 0, locals := 0 }) (va_Pc [.ref h0] (fun U => U.heap.size = sz ∧ va_P (dC, dI) vwCl [(h0, .inr (12, fM v))] U.heap ∧ va_K (dC, dI) vwCl [] U ∧ va_D (fun _ => True) [(h0, .inr (12, fM v))])) (va_Qi (fun (r : Int32) (u : Nat → Value) => r = 0 ∧ (u 0 = .int 1)) (fun (u : Nat → Value) t => va_P (dC, dI) vwCl [(h0, .inr (12, fM u))] t.heap ∧ va_K (dC, dI) vwCl [] t ∧ va_D (va_A [(h0, .inr (12, fM v))] sz) [(h0, .inr (12, fM u))]) (va_A [(h0, .inr (12, fM v))] sz)) 0 0 (va_A [(h0, .inr (12, fM v))] sz) := by
  refine Met.ofW (cc := cX12_write) (maxL := 4) (ret := (some .int)) (by decide) rfl ?_
  intro p e s m args below meth c s₁ B hml hv
  obtain ⟨rfl, hsz, hP, hK, hD0⟩ := hv
  have hx := B.exec
  have hb := B.bytes
  have hr := B.returns
  have hts := atoms_spec (ws := wsPX12_write) B.pre
  have hown : s.vm.findClass RX12 = some m.cls := findClass_of_methodNamed B.named
  have hlocks := B.notSynchronized
  subst hsz
  have hD := hD0.self (sz := s.heap.size)
  generalize hAe : va_A [(h0, .inr (12, fM v))] s.heap.size = A at hD ⊢
  have hA : ∀ q : Nat, s.heap.size ≤ q → A q := fun q h => by rw [← hAe]; exact Or.inr h
  have hS : va_S A s.heap s.heap [] := va_S.rf
  have hP : va_P (dC, dI) vwCl [(h0, .inr (12, fM v))] s.heap := hP
  have hl := lv_entry ([.ref h0]) (n := 4) (Nat.le_of_ble_eq_true rfl)
  rw [lg_entry_eq]
  generalize (lg_sl ([.ref h0]) ++ List.replicate (4 - (lg_sl ([.ref h0])).length) Slot.unset).toArray = ls at hl ⊢
  have hl : lv_has ls 4 [(0, .ref h0)] := hl
  refine lv_aload_n hx hb dX12_write_0 rfl (lv_at hl 0 rfl) ?_
  refine lv_aload_n hx hb dX12_write_1 rfl (lv_at hl 0 rfl) ?_
  refine va_get (D := (dC, dI)) (ci := 12) (v := .int 0) (C := RX12) (T := TX12) (N := 163) hx hb hts iwsPX12_write_in12 hown hK hP 0 rfl rfl 95 (by decide) (hts (.fieldLink RX12 808 "OptimaWorksModel" "isModel" "Z") (by decide +kernel)) (fun _ h9 => h9) (congrArg some h_isModel) dX12_write_2 ?_
  refine lv_if_eq (tgt := 12) hx hb dX12_write_5 (by decide) (fun _ => ?_) (fun c9 => absurd (by decide) c9)
  refine lv_iconst (v := 1) hx hb dX12_write_12 (by decide) ?_
  refine va_put (D := (dC, dI)) (ci := 12) (v := .int 1) (ty := .int) (C := RX12) (T := TX12) (N := 163) hx hb hts iwsPX12_write_in12 tyX12 tyX12_ok nmX12 hown hK hP hD hS 0 rfl rfl 0 (by decide) (hts (.fieldLink RX12 348 "OptimaWorksModel" "thrown" "I") (by decide +kernel)) (fun _ h9 => h9) rfl (by decide +kernel) rfl rfl (Nat.le_of_ble_eq_true rfl) dX12_write_13 (fun H locs hP hD hS => ?_)
  have hP : va_P (dC, dI) vwCl [(h0, .inr (12, fM (mUp v 0 (.int 1))))] H := hP
  have hD : va_D A [(h0, .inr (12, fM (mUp v 0 (.int 1))))] := hD
  refine lv_aload_n hx hb dX12_write_16 rfl (lv_at hl 0 rfl) ?_
  refine va_get (D := (dC, dI)) (ci := 12) (v := .int 1) (C := RX12) (T := TX12) (N := 163) hx hb hts iwsPX12_write_in12 hown hK hP 0 rfl rfl 0 (by decide) (hts (.fieldLink RX12 348 "OptimaWorksModel" "thrown" "I") (by decide +kernel)) (fun _ h9 => h9) rfl dX12_write_17 ?_
  refine lv_if_le (tgt := 25) hx hb dX12_write_20 (by decide) (fun c9 => absurd c9 (by decide)) (fun _ => ?_)
  refine lv_iconst (v := 0) hx hb dX12_write_23 (by decide) ?_
  refine W.widen (k := 0) (n := 0) (by decide +kernel) (by decide +kernel) ?_
  exact W.iret (v := 0) hx hb hr (fun t ht hW => ⟨⟨0, (mUp v 0 (.int 1)), rfl, by (refine ⟨?_, ?_⟩ <;> (first | rfl | assumption | trivial | omega | (simp []; done) | (simp; omega))), by rw [ht]; exact hP.sub [0] rfl, va_K.moved hW.alike (hK.sub [] rfl), hD.sub [0] (by decide) rfl⟩, hS.F ht⟩) hS.2.2 dX12_write_24
def wsPX12_solve : List Cond := .code yX12_solve cX12_solve 4 (some .boolean) :: ([.fieldLink RX12 808 "OptimaWorksModel" "isModel" "Z", .fieldLink RX12 348 "OptimaWorksModel" "thrown" "I"] ++ wsX120)
theorem iwsPX12_solve_in12 : ∀ w ∈ wsX120, w ∈ wsPX12_solve := fun _ h => List.mem_cons_of_mem _ (List.mem_append_right _ h)
set_option maxHeartbeats 4000000 in
set_option maxRecDepth 100000 in
/-- solve() without a model -/
theorem p_X12_solve (l : Launch) (dC : Nat → ClassId) (dI : Nat → Nat → Nat) (h0 : Nat) (v : Nat → Value) (h_isModel : v 95 = .int 0) (rx : Int32) (sz : Nat) : Met l yX12_solve wsPX12_solve ({ frames := 0, cells := 0, slots := 0, locals := 0 }) (va_Pc [.ref h0, .int rx] (fun U => U.heap.size = sz ∧ va_P (dC, dI) vwCl [(h0, .inr (12, fM v))] U.heap ∧ va_K (dC, dI) vwCl [] U ∧ va_D (fun _ => True) [(h0, .inr (12, fM v))])) (va_Qi (fun (r : Int32) (u : Nat → Value) => r = 0 ∧ (u 0 = .int 1)) (fun (u : Nat → Value) t => va_P (dC, dI) vwCl [(h0, .inr (12, fM u))] t.heap ∧ va_K (dC, dI) vwCl [] t ∧ va_D (va_A [(h0, .inr (12, fM v))] sz) [(h0, .inr (12, fM u))]) (va_A [(h0, .inr (12, fM v))] sz)) 0 0 (va_A [(h0, .inr (12, fM v))] sz) := by
  refine Met.ofW (cc := cX12_solve) (maxL := 4) (ret := (some .boolean)) (by decide) rfl ?_
  intro p e s m args below meth c s₁ B hml hv
  obtain ⟨rfl, hsz, hP, hK, hD0⟩ := hv
  have hx := B.exec
  have hb := B.bytes
  have hr := B.returns
  have hts := atoms_spec (ws := wsPX12_solve) B.pre
  have hown : s.vm.findClass RX12 = some m.cls := findClass_of_methodNamed B.named
  have hlocks := B.notSynchronized
  subst hsz
  have hD := hD0.self (sz := s.heap.size)
  generalize hAe : va_A [(h0, .inr (12, fM v))] s.heap.size = A at hD ⊢
  have hA : ∀ q : Nat, s.heap.size ≤ q → A q := fun q h => by rw [← hAe]; exact Or.inr h
  have hS : va_S A s.heap s.heap [] := va_S.rf
  have hP : va_P (dC, dI) vwCl [(h0, .inr (12, fM v))] s.heap := hP
  have hl := lv_entry ([.ref h0, .int rx]) (n := 4) (Nat.le_of_ble_eq_true rfl)
  rw [lg_entry_eq]
  generalize (lg_sl ([.ref h0, .int rx]) ++ List.replicate (4 - (lg_sl ([.ref h0, .int rx])).length) Slot.unset).toArray = ls at hl ⊢
  have hl : lv_has ls 4 [(0, .ref h0), (1, .int rx)] := hl
  refine lv_aload_n hx hb dX12_solve_0 rfl (lv_at hl 0 rfl) ?_
  refine lv_aload_n hx hb dX12_solve_1 rfl (lv_at hl 0 rfl) ?_
  refine va_get (D := (dC, dI)) (ci := 12) (v := .int 0) (C := RX12) (T := TX12) (N := 163) hx hb hts iwsPX12_solve_in12 hown hK hP 0 rfl rfl 95 (by decide) (hts (.fieldLink RX12 808 "OptimaWorksModel" "isModel" "Z") (by decide +kernel)) (fun _ h9 => h9) (congrArg some h_isModel) dX12_solve_2 ?_
  refine lv_if_eq (tgt := 12) hx hb dX12_solve_5 (by decide) (fun _ => ?_) (fun c9 => absurd (by decide) c9)
  refine lv_iconst (v := 1) hx hb dX12_solve_12 (by decide) ?_
  refine va_put (D := (dC, dI)) (ci := 12) (v := .int 1) (ty := .int) (C := RX12) (T := TX12) (N := 163) hx hb hts iwsPX12_solve_in12 tyX12 tyX12_ok nmX12 hown hK hP hD hS 0 rfl rfl 0 (by decide) (hts (.fieldLink RX12 348 "OptimaWorksModel" "thrown" "I") (by decide +kernel)) (fun _ h9 => h9) rfl (by decide +kernel) rfl rfl (Nat.le_of_ble_eq_true rfl) dX12_solve_13 (fun H locs hP hD hS => ?_)
  have hP : va_P (dC, dI) vwCl [(h0, .inr (12, fM (mUp v 0 (.int 1))))] H := hP
  have hD : va_D A [(h0, .inr (12, fM (mUp v 0 (.int 1))))] := hD
  refine lv_aload_n hx hb dX12_solve_16 rfl (lv_at hl 0 rfl) ?_
  refine va_get (D := (dC, dI)) (ci := 12) (v := .int 1) (C := RX12) (T := TX12) (N := 163) hx hb hts iwsPX12_solve_in12 hown hK hP 0 rfl rfl 0 (by decide) (hts (.fieldLink RX12 348 "OptimaWorksModel" "thrown" "I") (by decide +kernel)) (fun _ h9 => h9) rfl dX12_solve_17 ?_
  refine lv_if_le (tgt := 25) hx hb dX12_solve_20 (by decide) (fun c9 => absurd c9 (by decide)) (fun _ => ?_)
  refine lv_iconst (v := 0) hx hb dX12_solve_23 (by decide) ?_
  refine W.widen (k := 0) (n := 0) (by decide +kernel) (by decide +kernel) ?_
  exact W.zret (v := 0) hx hb hr rfl (fun t ht hW => ⟨⟨0, (mUp v 0 (.int 1)), rfl, by (refine ⟨?_, ?_⟩ <;> (first | rfl | assumption | trivial | omega | (simp []; done) | (simp; omega))), by rw [ht]; exact hP.sub [0] rfl, va_K.moved hW.alike (hK.sub [] rfl), hD.sub [0] (by decide) rfl⟩, hS.F ht⟩) hS.2.2 dX12_solve_24
def wsPX12_count : List Cond := .code yX12_count cX12_count 3 (some .int) :: ([.fieldLink RX12 808 "OptimaWorksModel" "isModel" "Z", .fieldLink RX12 348 "OptimaWorksModel" "thrown" "I"] ++ wsX120)
theorem iwsPX12_count_in12 : ∀ w ∈ wsX120, w ∈ wsPX12_count := fun _ h => List.mem_cons_of_mem _ (List.mem_append_right _ h)
set_option maxHeartbeats 4000000 in
set_option maxRecDepth 100000 in
/-- count() without a model -/
theorem p_X12_count (l : Launch) (dC : Nat → ClassId) (dI : Nat → Nat → Nat) (h0 : Nat) (v : Nat → Value) (h_isModel : v 95 = .int 0) (sz : Nat) : Met l yX12_count wsPX12_count ({ frames := 0, cells := 0, slots := 0, locals := 0 }) (va_Pc [.ref h0] (fun U => U.heap.size = sz ∧ va_P (dC, dI) vwCl [(h0, .inr (12, fM v))] U.heap ∧ va_K (dC, dI) vwCl [] U ∧ va_D (fun _ => True) [(h0, .inr (12, fM v))])) (va_Qi (fun (r : Int32) (u : Nat → Value) => r = 0 ∧ (u 0 = .int 1)) (fun (u : Nat → Value) t => va_P (dC, dI) vwCl [(h0, .inr (12, fM u))] t.heap ∧ va_K (dC, dI) vwCl [] t ∧ va_D (va_A [(h0, .inr (12, fM v))] sz) [(h0, .inr (12, fM u))]) (va_A [(h0, .inr (12, fM v))] sz)) 0 0 (va_A [(h0, .inr (12, fM v))] sz) := by
  refine Met.ofW (cc := cX12_count) (maxL := 3) (ret := (some .int)) (by decide) rfl ?_
  intro p e s m args below meth c s₁ B hml hv
  obtain ⟨rfl, hsz, hP, hK, hD0⟩ := hv
  have hx := B.exec
  have hb := B.bytes
  have hr := B.returns
  have hts := atoms_spec (ws := wsPX12_count) B.pre
  have hown : s.vm.findClass RX12 = some m.cls := findClass_of_methodNamed B.named
  have hlocks := B.notSynchronized
  subst hsz
  have hD := hD0.self (sz := s.heap.size)
  generalize hAe : va_A [(h0, .inr (12, fM v))] s.heap.size = A at hD ⊢
  have hA : ∀ q : Nat, s.heap.size ≤ q → A q := fun q h => by rw [← hAe]; exact Or.inr h
  have hS : va_S A s.heap s.heap [] := va_S.rf
  have hP : va_P (dC, dI) vwCl [(h0, .inr (12, fM v))] s.heap := hP
  have hl := lv_entry ([.ref h0]) (n := 3) (Nat.le_of_ble_eq_true rfl)
  rw [lg_entry_eq]
  generalize (lg_sl ([.ref h0]) ++ List.replicate (3 - (lg_sl ([.ref h0])).length) Slot.unset).toArray = ls at hl ⊢
  have hl : lv_has ls 3 [(0, .ref h0)] := hl
  refine lv_aload_n hx hb dX12_count_0 rfl (lv_at hl 0 rfl) ?_
  refine lv_aload_n hx hb dX12_count_1 rfl (lv_at hl 0 rfl) ?_
  refine va_get (D := (dC, dI)) (ci := 12) (v := .int 0) (C := RX12) (T := TX12) (N := 163) hx hb hts iwsPX12_count_in12 hown hK hP 0 rfl rfl 95 (by decide) (hts (.fieldLink RX12 808 "OptimaWorksModel" "isModel" "Z") (by decide +kernel)) (fun _ h9 => h9) (congrArg some h_isModel) dX12_count_2 ?_
  refine lv_if_eq (tgt := 12) hx hb dX12_count_5 (by decide) (fun _ => ?_) (fun c9 => absurd (by decide) c9)
  refine lv_iconst (v := 1) hx hb dX12_count_12 (by decide) ?_
  refine va_put (D := (dC, dI)) (ci := 12) (v := .int 1) (ty := .int) (C := RX12) (T := TX12) (N := 163) hx hb hts iwsPX12_count_in12 tyX12 tyX12_ok nmX12 hown hK hP hD hS 0 rfl rfl 0 (by decide) (hts (.fieldLink RX12 348 "OptimaWorksModel" "thrown" "I") (by decide +kernel)) (fun _ h9 => h9) rfl (by decide +kernel) rfl rfl (Nat.le_of_ble_eq_true rfl) dX12_count_13 (fun H locs hP hD hS => ?_)
  have hP : va_P (dC, dI) vwCl [(h0, .inr (12, fM (mUp v 0 (.int 1))))] H := hP
  have hD : va_D A [(h0, .inr (12, fM (mUp v 0 (.int 1))))] := hD
  refine lv_aload_n hx hb dX12_count_16 rfl (lv_at hl 0 rfl) ?_
  refine va_get (D := (dC, dI)) (ci := 12) (v := .int 1) (C := RX12) (T := TX12) (N := 163) hx hb hts iwsPX12_count_in12 hown hK hP 0 rfl rfl 0 (by decide) (hts (.fieldLink RX12 348 "OptimaWorksModel" "thrown" "I") (by decide +kernel)) (fun _ h9 => h9) rfl dX12_count_17 ?_
  refine lv_if_le (tgt := 25) hx hb dX12_count_20 (by decide) (fun c9 => absurd c9 (by decide)) (fun _ => ?_)
  refine lv_iconst (v := 0) hx hb dX12_count_23 (by decide) ?_
  refine W.widen (k := 0) (n := 0) (by decide +kernel) (by decide +kernel) ?_
  exact W.iret (v := 0) hx hb hr (fun t ht hW => ⟨⟨0, (mUp v 0 (.int 1)), rfl, by (refine ⟨?_, ?_⟩ <;> (first | rfl | assumption | trivial | omega | (simp []; done) | (simp; omega))), by rw [ht]; exact hP.sub [0] rfl, va_K.moved hW.alike (hK.sub [] rfl), hD.sub [0] (by decide) rfl⟩, hS.F ht⟩) hS.2.2 dX12_count_24
def wsPX12_counted : List Cond := .code yX12_counted cX12_counted 5 (some .int) :: ([.fieldLink RX12 808 "OptimaWorksModel" "isModel" "Z", .fieldLink RX12 348 "OptimaWorksModel" "thrown" "I"] ++ wsX120)
theorem iwsPX12_counted_in12 : ∀ w ∈ wsX120, w ∈ wsPX12_counted := fun _ h => List.mem_cons_of_mem _ (List.mem_append_right _ h)
set_option maxHeartbeats 4000000 in
set_option maxRecDepth 100000 in
/-- counted() without a model -/
theorem p_X12_counted (l : Launch) (dC : Nat → ClassId) (dI : Nat → Nat → Nat) (h0 : Nat) (v : Nat → Value) (h_isModel : v 95 = .int 0) (ck : Int32) (cv : Int32) (sz : Nat) : Met l yX12_counted wsPX12_counted ({ frames := 0, cells := 0, slots := 0, locals := 0 }) (va_Pc [.ref h0, .int ck, .int cv] (fun U => U.heap.size = sz ∧ va_P (dC, dI) vwCl [(h0, .inr (12, fM v))] U.heap ∧ va_K (dC, dI) vwCl [] U ∧ va_D (fun _ => True) [(h0, .inr (12, fM v))])) (va_Qi (fun (r : Int32) (u : Nat → Value) => r = 0 ∧ (u 0 = .int 1)) (fun (u : Nat → Value) t => va_P (dC, dI) vwCl [(h0, .inr (12, fM u))] t.heap ∧ va_K (dC, dI) vwCl [] t ∧ va_D (va_A [(h0, .inr (12, fM v))] sz) [(h0, .inr (12, fM u))]) (va_A [(h0, .inr (12, fM v))] sz)) 0 0 (va_A [(h0, .inr (12, fM v))] sz) := by
  refine Met.ofW (cc := cX12_counted) (maxL := 5) (ret := (some .int)) (by decide) rfl ?_
  intro p e s m args below meth c s₁ B hml hv
  obtain ⟨rfl, hsz, hP, hK, hD0⟩ := hv
  have hx := B.exec
  have hb := B.bytes
  have hr := B.returns
  have hts := atoms_spec (ws := wsPX12_counted) B.pre
  have hown : s.vm.findClass RX12 = some m.cls := findClass_of_methodNamed B.named
  have hlocks := B.notSynchronized
  subst hsz
  have hD := hD0.self (sz := s.heap.size)
  generalize hAe : va_A [(h0, .inr (12, fM v))] s.heap.size = A at hD ⊢
  have hA : ∀ q : Nat, s.heap.size ≤ q → A q := fun q h => by rw [← hAe]; exact Or.inr h
  have hS : va_S A s.heap s.heap [] := va_S.rf
  have hP : va_P (dC, dI) vwCl [(h0, .inr (12, fM v))] s.heap := hP
  have hl := lv_entry ([.ref h0, .int ck, .int cv]) (n := 5) (Nat.le_of_ble_eq_true rfl)
  rw [lg_entry_eq]
  generalize (lg_sl ([.ref h0, .int ck, .int cv]) ++ List.replicate (5 - (lg_sl ([.ref h0, .int ck, .int cv])).length) Slot.unset).toArray = ls at hl ⊢
  have hl : lv_has ls 5 [(0, .ref h0), (1, .int ck), (2, .int cv)] := hl
  refine lv_aload_n hx hb dX12_counted_0 rfl (lv_at hl 0 rfl) ?_
  refine lv_aload_n hx hb dX12_counted_1 rfl (lv_at hl 0 rfl) ?_
  refine va_get (D := (dC, dI)) (ci := 12) (v := .int 0) (C := RX12) (T := TX12) (N := 163) hx hb hts iwsPX12_counted_in12 hown hK hP 0 rfl rfl 95 (by decide) (hts (.fieldLink RX12 808 "OptimaWorksModel" "isModel" "Z") (by decide +kernel)) (fun _ h9 => h9) (congrArg some h_isModel) dX12_counted_2 ?_
  refine lv_if_eq (tgt := 12) hx hb dX12_counted_5 (by decide) (fun _ => ?_) (fun c9 => absurd (by decide) c9)
  refine lv_iconst (v := 1) hx hb dX12_counted_12 (by decide) ?_
  refine va_put (D := (dC, dI)) (ci := 12) (v := .int 1) (ty := .int) (C := RX12) (T := TX12) (N := 163) hx hb hts iwsPX12_counted_in12 tyX12 tyX12_ok nmX12 hown hK hP hD hS 0 rfl rfl 0 (by decide) (hts (.fieldLink RX12 348 "OptimaWorksModel" "thrown" "I") (by decide +kernel)) (fun _ h9 => h9) rfl (by decide +kernel) rfl rfl (Nat.le_of_ble_eq_true rfl) dX12_counted_13 (fun H locs hP hD hS => ?_)
  have hP : va_P (dC, dI) vwCl [(h0, .inr (12, fM (mUp v 0 (.int 1))))] H := hP
  have hD : va_D A [(h0, .inr (12, fM (mUp v 0 (.int 1))))] := hD
  refine lv_aload_n hx hb dX12_counted_16 rfl (lv_at hl 0 rfl) ?_
  refine va_get (D := (dC, dI)) (ci := 12) (v := .int 1) (C := RX12) (T := TX12) (N := 163) hx hb hts iwsPX12_counted_in12 hown hK hP 0 rfl rfl 0 (by decide) (hts (.fieldLink RX12 348 "OptimaWorksModel" "thrown" "I") (by decide +kernel)) (fun _ h9 => h9) rfl dX12_counted_17 ?_
  refine lv_if_le (tgt := 25) hx hb dX12_counted_20 (by decide) (fun c9 => absurd c9 (by decide)) (fun _ => ?_)
  refine lv_iconst (v := 0) hx hb dX12_counted_23 (by decide) ?_
  refine W.widen (k := 0) (n := 0) (by decide +kernel) (by decide +kernel) ?_
  exact W.iret (v := 0) hx hb hr (fun t ht hW => ⟨⟨0, (mUp v 0 (.int 1)), rfl, by (refine ⟨?_, ?_⟩ <;> (first | rfl | assumption | trivial | omega | (simp []; done) | (simp; omega))), by rw [ht]; exact hP.sub [0] rfl, va_K.moved hW.alike (hK.sub [] rfl), hD.sub [0] (by decide) rfl⟩, hS.F ht⟩) hS.2.2 dX12_counted_24
def wsPX12_prove : List Cond := .code yX12_prove cX12_prove 3 (some .int) :: ([.fieldLink RX12 808 "OptimaWorksModel" "isModel" "Z", .fieldLink RX12 348 "OptimaWorksModel" "thrown" "I"] ++ wsX120)
theorem iwsPX12_prove_in12 : ∀ w ∈ wsX120, w ∈ wsPX12_prove := fun _ h => List.mem_cons_of_mem _ (List.mem_append_right _ h)
set_option maxHeartbeats 4000000 in
set_option maxRecDepth 100000 in
/-- prove() without a model -/
theorem p_X12_prove (l : Launch) (dC : Nat → ClassId) (dI : Nat → Nat → Nat) (h0 : Nat) (v : Nat → Value) (h_isModel : v 95 = .int 0) (sz : Nat) : Met l yX12_prove wsPX12_prove ({ frames := 0, cells := 0, slots := 0, locals := 0 }) (va_Pc [.ref h0] (fun U => U.heap.size = sz ∧ va_P (dC, dI) vwCl [(h0, .inr (12, fM v))] U.heap ∧ va_K (dC, dI) vwCl [] U ∧ va_D (fun _ => True) [(h0, .inr (12, fM v))])) (va_Qi (fun (r : Int32) (u : Nat → Value) => r = 0 ∧ (u 0 = .int 1)) (fun (u : Nat → Value) t => va_P (dC, dI) vwCl [(h0, .inr (12, fM u))] t.heap ∧ va_K (dC, dI) vwCl [] t ∧ va_D (va_A [(h0, .inr (12, fM v))] sz) [(h0, .inr (12, fM u))]) (va_A [(h0, .inr (12, fM v))] sz)) 0 0 (va_A [(h0, .inr (12, fM v))] sz) := by
  refine Met.ofW (cc := cX12_prove) (maxL := 3) (ret := (some .int)) (by decide) rfl ?_
  intro p e s m args below meth c s₁ B hml hv
  obtain ⟨rfl, hsz, hP, hK, hD0⟩ := hv
  have hx := B.exec
  have hb := B.bytes
  have hr := B.returns
  have hts := atoms_spec (ws := wsPX12_prove) B.pre
  have hown : s.vm.findClass RX12 = some m.cls := findClass_of_methodNamed B.named
  have hlocks := B.notSynchronized
  subst hsz
  have hD := hD0.self (sz := s.heap.size)
  generalize hAe : va_A [(h0, .inr (12, fM v))] s.heap.size = A at hD ⊢
  have hA : ∀ q : Nat, s.heap.size ≤ q → A q := fun q h => by rw [← hAe]; exact Or.inr h
  have hS : va_S A s.heap s.heap [] := va_S.rf
  have hP : va_P (dC, dI) vwCl [(h0, .inr (12, fM v))] s.heap := hP
  have hl := lv_entry ([.ref h0]) (n := 3) (Nat.le_of_ble_eq_true rfl)
  rw [lg_entry_eq]
  generalize (lg_sl ([.ref h0]) ++ List.replicate (3 - (lg_sl ([.ref h0])).length) Slot.unset).toArray = ls at hl ⊢
  have hl : lv_has ls 3 [(0, .ref h0)] := hl
  refine lv_aload_n hx hb dX12_prove_0 rfl (lv_at hl 0 rfl) ?_
  refine lv_aload_n hx hb dX12_prove_1 rfl (lv_at hl 0 rfl) ?_
  refine va_get (D := (dC, dI)) (ci := 12) (v := .int 0) (C := RX12) (T := TX12) (N := 163) hx hb hts iwsPX12_prove_in12 hown hK hP 0 rfl rfl 95 (by decide) (hts (.fieldLink RX12 808 "OptimaWorksModel" "isModel" "Z") (by decide +kernel)) (fun _ h9 => h9) (congrArg some h_isModel) dX12_prove_2 ?_
  refine lv_if_eq (tgt := 12) hx hb dX12_prove_5 (by decide) (fun _ => ?_) (fun c9 => absurd (by decide) c9)
  refine lv_iconst (v := 1) hx hb dX12_prove_12 (by decide) ?_
  refine va_put (D := (dC, dI)) (ci := 12) (v := .int 1) (ty := .int) (C := RX12) (T := TX12) (N := 163) hx hb hts iwsPX12_prove_in12 tyX12 tyX12_ok nmX12 hown hK hP hD hS 0 rfl rfl 0 (by decide) (hts (.fieldLink RX12 348 "OptimaWorksModel" "thrown" "I") (by decide +kernel)) (fun _ h9 => h9) rfl (by decide +kernel) rfl rfl (Nat.le_of_ble_eq_true rfl) dX12_prove_13 (fun H locs hP hD hS => ?_)
  have hP : va_P (dC, dI) vwCl [(h0, .inr (12, fM (mUp v 0 (.int 1))))] H := hP
  have hD : va_D A [(h0, .inr (12, fM (mUp v 0 (.int 1))))] := hD
  refine lv_aload_n hx hb dX12_prove_16 rfl (lv_at hl 0 rfl) ?_
  refine va_get (D := (dC, dI)) (ci := 12) (v := .int 1) (C := RX12) (T := TX12) (N := 163) hx hb hts iwsPX12_prove_in12 hown hK hP 0 rfl rfl 0 (by decide) (hts (.fieldLink RX12 348 "OptimaWorksModel" "thrown" "I") (by decide +kernel)) (fun _ h9 => h9) rfl dX12_prove_17 ?_
  refine lv_if_le (tgt := 25) hx hb dX12_prove_20 (by decide) (fun c9 => absurd c9 (by decide)) (fun _ => ?_)
  refine lv_iconst (v := 0) hx hb dX12_prove_23 (by decide) ?_
  refine W.widen (k := 0) (n := 0) (by decide +kernel) (by decide +kernel) ?_
  exact W.iret (v := 0) hx hb hr (fun t ht hW => ⟨⟨0, (mUp v 0 (.int 1)), rfl, by (refine ⟨?_, ?_⟩ <;> (first | rfl | assumption | trivial | omega | (simp []; done) | (simp; omega))), by rw [ht]; exact hP.sub [0] rfl, va_K.moved hW.alike (hK.sub [] rfl), hD.sub [0] (by decide) rfl⟩, hS.F ht⟩) hS.2.2 dX12_prove_24
def wsPX12_wipe : List Cond := .code yX12_wipe cX12_wipe 1 none :: ([.fieldLink RX12 348 "OptimaWorksModel" "thrown" "I", .fieldLink RX12 468 "OptimaWorksModel" "taped" "I"] ++ wsX120)
theorem iwsPX12_wipe_in12 : ∀ w ∈ wsX120, w ∈ wsPX12_wipe := fun _ h => List.mem_cons_of_mem _ (List.mem_append_right _ h)
set_option maxHeartbeats 4000000 in
set_option maxRecDepth 100000 in
/-- wipe() -/
theorem p_X12_wipe (l : Launch) (dC : Nat → ClassId) (dI : Nat → Nat → Nat) (h0 : Nat) (v : Nat → Value) (sz : Nat) : Met l yX12_wipe wsPX12_wipe ({ frames := 0, cells := 0, slots := 0, locals := 0 }) (va_Pc [.ref h0] (fun U => U.heap.size = sz ∧ va_P (dC, dI) vwCl [(h0, .inr (12, fM v))] U.heap ∧ va_K (dC, dI) vwCl [] U ∧ va_D (fun _ => True) [(h0, .inr (12, fM v))])) (va_Qv (fun (u : Nat → Value) => (u 0 = .int 0)) (fun (u : Nat → Value) t => va_P (dC, dI) vwCl [(h0, .inr (12, fM u))] t.heap ∧ va_K (dC, dI) vwCl [] t ∧ va_D (va_A [(h0, .inr (12, fM v))] sz) [(h0, .inr (12, fM u))]) (va_A [(h0, .inr (12, fM v))] sz)) 0 0 (va_A [(h0, .inr (12, fM v))] sz) := by
  refine Met.ofW (cc := cX12_wipe) (maxL := 1) (ret := none) (by decide) rfl ?_
  intro p e s m args below meth c s₁ B hml hv
  obtain ⟨rfl, hsz, hP, hK, hD0⟩ := hv
  have hx := B.exec
  have hb := B.bytes
  have hr := B.returns
  have hts := atoms_spec (ws := wsPX12_wipe) B.pre
  have hown : s.vm.findClass RX12 = some m.cls := findClass_of_methodNamed B.named
  have hlocks := B.notSynchronized
  subst hsz
  have hD := hD0.self (sz := s.heap.size)
  generalize hAe : va_A [(h0, .inr (12, fM v))] s.heap.size = A at hD ⊢
  have hA : ∀ q : Nat, s.heap.size ≤ q → A q := fun q h => by rw [← hAe]; exact Or.inr h
  have hS : va_S A s.heap s.heap [] := va_S.rf
  have hP : va_P (dC, dI) vwCl [(h0, .inr (12, fM v))] s.heap := hP
  have hl := lv_entry ([.ref h0]) (n := 1) (Nat.le_of_ble_eq_true rfl)
  rw [lg_entry_eq]
  generalize (lg_sl ([.ref h0]) ++ List.replicate (1 - (lg_sl ([.ref h0])).length) Slot.unset).toArray = ls at hl ⊢
  have hl : lv_has ls 1 [(0, .ref h0)] := hl
  refine lv_aload_n hx hb dX12_wipe_0 rfl (lv_at hl 0 rfl) ?_
  refine lv_iconst (v := 0) hx hb dX12_wipe_1 (by decide) ?_
  refine va_put (D := (dC, dI)) (ci := 12) (v := .int 0) (ty := .int) (C := RX12) (T := TX12) (N := 163) hx hb hts iwsPX12_wipe_in12 tyX12 tyX12_ok nmX12 hown hK hP hD hS 0 rfl rfl 0 (by decide) (hts (.fieldLink RX12 348 "OptimaWorksModel" "thrown" "I") (by decide +kernel)) (fun _ h9 => h9) rfl (by decide +kernel) rfl rfl (Nat.le_of_ble_eq_true rfl) dX12_wipe_2 (fun H locs hP hD hS => ?_)
  have hP : va_P (dC, dI) vwCl [(h0, .inr (12, fM (mUp v 0 (.int 0))))] H := hP
  have hD : va_D A [(h0, .inr (12, fM (mUp v 0 (.int 0))))] := hD
  refine lv_aload_n hx hb dX12_wipe_5 rfl (lv_at hl 0 rfl) ?_
  refine lv_iconst (v := 0) hx hb dX12_wipe_6 (by decide) ?_
  refine va_put (D := (dC, dI)) (ci := 12) (v := .int 0) (ty := .int) (C := RX12) (T := TX12) (N := 163) hx hb hts iwsPX12_wipe_in12 tyX12 tyX12_ok nmX12 hown hK hP hD hS 0 rfl rfl 16 (by decide) (hts (.fieldLink RX12 468 "OptimaWorksModel" "taped" "I") (by decide +kernel)) (fun _ h9 => h9) rfl (by decide +kernel) rfl rfl (Nat.le_of_ble_eq_true rfl) dX12_wipe_7 (fun H locs hP hD hS => ?_)
  have hP : va_P (dC, dI) vwCl [(h0, .inr (12, fM (mUp (mUp v 0 (.int 0)) 16 (.int 0))))] H := hP
  have hD : va_D A [(h0, .inr (12, fM (mUp (mUp v 0 (.int 0)) 16 (.int 0))))] := hD
  refine W.widen (k := 0) (n := 0) (by decide +kernel) (by decide +kernel) ?_
  exact W.vret hx hb hr (fun t ht hW => ⟨⟨(mUp (mUp v 0 (.int 0)) 16 (.int 0)), rfl, by (first | rfl | assumption | trivial | omega | (simp []; done) | (simp; omega)), by rw [ht]; exact hP.sub [0] rfl, va_K.moved hW.alike (hK.sub [] rfl), hD.sub [0] (by decide) rfl⟩, hS.F ht⟩) hS.2.2 dX12_wipe_10
def wsPX12_unsay : List Cond := .code yX12_unsay cX12_unsay 1 (some .boolean) :: ([.fieldLink RX12 348 "OptimaWorksModel" "thrown" "I", .fieldLink RX12 1051 "OptimaWorksModel" "clauses" "I"] ++ wsX120)
theorem iwsPX12_unsay_in12 : ∀ w ∈ wsX120, w ∈ wsPX12_unsay := fun _ h => List.mem_cons_of_mem _ (List.mem_append_right _ h)
set_option maxHeartbeats 4000000 in
set_option maxRecDepth 100000 in
/-- unsay() -/
theorem p_X12_unsay (l : Launch) (dC : Nat → ClassId) (dI : Nat → Nat → Nat) (h0 : Nat) (v : Nat → Value) (h_clauses : v 146 = .int 0) (sz : Nat) : Met l yX12_unsay wsPX12_unsay ({ frames := 0, cells := 0, slots := 0, locals := 0 }) (va_Pc [.ref h0] (fun U => U.heap.size = sz ∧ va_P (dC, dI) vwCl [(h0, .inr (12, fM v))] U.heap ∧ va_K (dC, dI) vwCl [] U ∧ va_D (fun _ => True) [(h0, .inr (12, fM v))])) (va_Qi (fun (r : Int32) (u : Nat → Value) => r = 0 ∧ (u 0 = .int 0)) (fun (u : Nat → Value) t => va_P (dC, dI) vwCl [(h0, .inr (12, fM u))] t.heap ∧ va_K (dC, dI) vwCl [] t ∧ va_D (va_A [(h0, .inr (12, fM v))] sz) [(h0, .inr (12, fM u))]) (va_A [(h0, .inr (12, fM v))] sz)) 0 0 (va_A [(h0, .inr (12, fM v))] sz) := by
  refine Met.ofW (cc := cX12_unsay) (maxL := 1) (ret := (some .boolean)) (by decide) rfl ?_
  intro p e s m args below meth c s₁ B hml hv
  obtain ⟨rfl, hsz, hP, hK, hD0⟩ := hv
  have hx := B.exec
  have hb := B.bytes
  have hr := B.returns
  have hts := atoms_spec (ws := wsPX12_unsay) B.pre
  have hown : s.vm.findClass RX12 = some m.cls := findClass_of_methodNamed B.named
  have hlocks := B.notSynchronized
  subst hsz
  have hD := hD0.self (sz := s.heap.size)
  generalize hAe : va_A [(h0, .inr (12, fM v))] s.heap.size = A at hD ⊢
  have hA : ∀ q : Nat, s.heap.size ≤ q → A q := fun q h => by rw [← hAe]; exact Or.inr h
  have hS : va_S A s.heap s.heap [] := va_S.rf
  have hP : va_P (dC, dI) vwCl [(h0, .inr (12, fM v))] s.heap := hP
  have hl := lv_entry ([.ref h0]) (n := 1) (Nat.le_of_ble_eq_true rfl)
  rw [lg_entry_eq]
  generalize (lg_sl ([.ref h0]) ++ List.replicate (1 - (lg_sl ([.ref h0])).length) Slot.unset).toArray = ls at hl ⊢
  have hl : lv_has ls 1 [(0, .ref h0)] := hl
  refine lv_aload_n hx hb dX12_unsay_0 rfl (lv_at hl 0 rfl) ?_
  refine lv_iconst (v := 0) hx hb dX12_unsay_1 (by decide) ?_
  refine va_put (D := (dC, dI)) (ci := 12) (v := .int 0) (ty := .int) (C := RX12) (T := TX12) (N := 163) hx hb hts iwsPX12_unsay_in12 tyX12 tyX12_ok nmX12 hown hK hP hD hS 0 rfl rfl 0 (by decide) (hts (.fieldLink RX12 348 "OptimaWorksModel" "thrown" "I") (by decide +kernel)) (fun _ h9 => h9) rfl (by decide +kernel) rfl rfl (Nat.le_of_ble_eq_true rfl) dX12_unsay_2 (fun H locs hP hD hS => ?_)
  have hP : va_P (dC, dI) vwCl [(h0, .inr (12, fM (mUp v 0 (.int 0))))] H := hP
  have hD : va_D A [(h0, .inr (12, fM (mUp v 0 (.int 0))))] := hD
  refine lv_aload_n hx hb dX12_unsay_5 rfl (lv_at hl 0 rfl) ?_
  refine va_get (D := (dC, dI)) (ci := 12) (v := .int 0) (C := RX12) (T := TX12) (N := 163) hx hb hts iwsPX12_unsay_in12 hown hK hP 0 rfl rfl 146 (by decide) (hts (.fieldLink RX12 1051 "OptimaWorksModel" "clauses" "I") (by decide +kernel)) (fun _ h9 => h9) (congrArg some h_clauses) dX12_unsay_6 ?_
  refine lv_if_ne (tgt := 14) hx hb dX12_unsay_9 (by decide) (fun c9 => absurd c9 (by decide)) (fun _ => ?_)
  refine lv_iconst (v := 0) hx hb dX12_unsay_12 (by decide) ?_
  refine W.widen (k := 0) (n := 0) (by decide +kernel) (by decide +kernel) ?_
  exact W.zret (v := 0) hx hb hr rfl (fun t ht hW => ⟨⟨0, (mUp v 0 (.int 0)), rfl, by (refine ⟨?_, ?_⟩ <;> (first | rfl | assumption | trivial | omega | (simp []; done) | (simp; omega))), by rw [ht]; exact hP.sub [0] rfl, va_K.moved hW.alike (hK.sub [] rfl), hD.sub [0] (by decide) rfl⟩, hS.F ht⟩) hS.2.2 dX12_unsay_13
def wsPX12_unarc : List Cond := .code yX12_unarc cX12_unarc 1 (some .boolean) :: ([.fieldLink RX12 348 "OptimaWorksModel" "thrown" "I", .fieldLink RX12 1069 "OptimaWorksModel" "arcs" "I"] ++ wsX120)
theorem iwsPX12_unarc_in12 : ∀ w ∈ wsX120, w ∈ wsPX12_unarc := fun _ h => List.mem_cons_of_mem _ (List.mem_append_right _ h)
set_option maxHeartbeats 4000000 in
set_option maxRecDepth 100000 in
/-- unarc() -/
theorem p_X12_unarc (l : Launch) (dC : Nat → ClassId) (dI : Nat → Nat → Nat) (h0 : Nat) (v : Nat → Value) (h_arcs : v 150 = .int 0) (sz : Nat) : Met l yX12_unarc wsPX12_unarc ({ frames := 0, cells := 0, slots := 0, locals := 0 }) (va_Pc [.ref h0] (fun U => U.heap.size = sz ∧ va_P (dC, dI) vwCl [(h0, .inr (12, fM v))] U.heap ∧ va_K (dC, dI) vwCl [] U ∧ va_D (fun _ => True) [(h0, .inr (12, fM v))])) (va_Qi (fun (r : Int32) (u : Nat → Value) => r = 0 ∧ (u 0 = .int 0)) (fun (u : Nat → Value) t => va_P (dC, dI) vwCl [(h0, .inr (12, fM u))] t.heap ∧ va_K (dC, dI) vwCl [] t ∧ va_D (va_A [(h0, .inr (12, fM v))] sz) [(h0, .inr (12, fM u))]) (va_A [(h0, .inr (12, fM v))] sz)) 0 0 (va_A [(h0, .inr (12, fM v))] sz) := by
  refine Met.ofW (cc := cX12_unarc) (maxL := 1) (ret := (some .boolean)) (by decide) rfl ?_
  intro p e s m args below meth c s₁ B hml hv
  obtain ⟨rfl, hsz, hP, hK, hD0⟩ := hv
  have hx := B.exec
  have hb := B.bytes
  have hr := B.returns
  have hts := atoms_spec (ws := wsPX12_unarc) B.pre
  have hown : s.vm.findClass RX12 = some m.cls := findClass_of_methodNamed B.named
  have hlocks := B.notSynchronized
  subst hsz
  have hD := hD0.self (sz := s.heap.size)
  generalize hAe : va_A [(h0, .inr (12, fM v))] s.heap.size = A at hD ⊢
  have hA : ∀ q : Nat, s.heap.size ≤ q → A q := fun q h => by rw [← hAe]; exact Or.inr h
  have hS : va_S A s.heap s.heap [] := va_S.rf
  have hP : va_P (dC, dI) vwCl [(h0, .inr (12, fM v))] s.heap := hP
  have hl := lv_entry ([.ref h0]) (n := 1) (Nat.le_of_ble_eq_true rfl)
  rw [lg_entry_eq]
  generalize (lg_sl ([.ref h0]) ++ List.replicate (1 - (lg_sl ([.ref h0])).length) Slot.unset).toArray = ls at hl ⊢
  have hl : lv_has ls 1 [(0, .ref h0)] := hl
  refine lv_aload_n hx hb dX12_unarc_0 rfl (lv_at hl 0 rfl) ?_
  refine lv_iconst (v := 0) hx hb dX12_unarc_1 (by decide) ?_
  refine va_put (D := (dC, dI)) (ci := 12) (v := .int 0) (ty := .int) (C := RX12) (T := TX12) (N := 163) hx hb hts iwsPX12_unarc_in12 tyX12 tyX12_ok nmX12 hown hK hP hD hS 0 rfl rfl 0 (by decide) (hts (.fieldLink RX12 348 "OptimaWorksModel" "thrown" "I") (by decide +kernel)) (fun _ h9 => h9) rfl (by decide +kernel) rfl rfl (Nat.le_of_ble_eq_true rfl) dX12_unarc_2 (fun H locs hP hD hS => ?_)
  have hP : va_P (dC, dI) vwCl [(h0, .inr (12, fM (mUp v 0 (.int 0))))] H := hP
  have hD : va_D A [(h0, .inr (12, fM (mUp v 0 (.int 0))))] := hD
  refine lv_aload_n hx hb dX12_unarc_5 rfl (lv_at hl 0 rfl) ?_
  refine va_get (D := (dC, dI)) (ci := 12) (v := .int 0) (C := RX12) (T := TX12) (N := 163) hx hb hts iwsPX12_unarc_in12 hown hK hP 0 rfl rfl 150 (by decide) (hts (.fieldLink RX12 1069 "OptimaWorksModel" "arcs" "I") (by decide +kernel)) (fun _ h9 => h9) (congrArg some h_arcs) dX12_unarc_6 ?_
  refine lv_if_ne (tgt := 14) hx hb dX12_unarc_9 (by decide) (fun c9 => absurd c9 (by decide)) (fun _ => ?_)
  refine lv_iconst (v := 0) hx hb dX12_unarc_12 (by decide) ?_
  refine W.widen (k := 0) (n := 0) (by decide +kernel) (by decide +kernel) ?_
  exact W.zret (v := 0) hx hb hr rfl (fun t ht hW => ⟨⟨0, (mUp v 0 (.int 0)), rfl, by (refine ⟨?_, ?_⟩ <;> (first | rfl | assumption | trivial | omega | (simp []; done) | (simp; omega))), by rw [ht]; exact hP.sub [0] rfl, va_K.moved hW.alike (hK.sub [] rfl), hD.sub [0] (by decide) rfl⟩, hS.F ht⟩) hS.2.2 dX12_unarc_13

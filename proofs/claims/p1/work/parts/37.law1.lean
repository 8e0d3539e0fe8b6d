theorem dL_read_0 : decode cL_read 0 = .ok (.aload_n 1, 1) := by decide +kernel
theorem dL_read_1 : decode cL_read 1 = .ok (.iconst 0, 1) := by decide +kernel
theorem dL_read_2 : decode cL_read 2 = .ok (.aload_n 0, 1) := by decide +kernel
theorem dL_read_3 : decode cL_read 3 = .ok (.invokevirtual 7, 3) := by decide +kernel
theorem dL_read_6 : decode cL_read 6 = .ok (.i2l, 1) := by decide +kernel
theorem dL_read_7 : decode cL_read 7 = .ok (.lastore, 1) := by decide +kernel
theorem dL_read_8 : decode cL_read 8 = .ok (.goto 6, 3) := by decide +kernel
theorem dL_read_14 : decode cL_read 14 = .ok (.iconst 0, 1) := by decide +kernel
theorem dL_read_15 : decode cL_read 15 = .ok (.ireturn, 1) := by decide +kernel
def wsPL_read : List Cond := .codeWith yL_read cL_read 3 (some .int) [(0, 8, 11, 13)] :: ([] ++ (wsV RL 7 RX11 yX11_read wsPX11_read))
theorem gwsPL_read_0 : GoodIn wsPL_read (wsV RL 7 RX11 yX11_read wsPX11_read) := goodIn_sub (fun _ h => List.mem_cons_of_mem _ (List.mem_append_right _ h)) (by decide +kernel)
set_option maxHeartbeats 4000000 in
set_option maxRecDepth 100000 in
/-- the law's read, on a fresh object -/
theorem p_L_read (l : Launch) (dC : Nat → ClassId) (dI : Nat → Nat → Nat) (h0 : Nat) (a : Nat → Nat) (o : Nat) (kO : ClassId) (sz : Nat) : Met l yL_read wsPL_read ({ frames := 5, cells := 15, slots := 1198, locals := 104 }) (va_Pc [.ref h0, .ref o] (fun U => U.heap.size = sz ∧ va_P (dC, dI) vwCl [(h0, .inr (11, [.ref (a 0), .ref (a 1), .ref (a 3), .ref (a 14), .int 0, .null, .null, .null, .null, .null, .null])), ((a 1), .inr (9, [.ref (a 2), .int 0, .int 0, .int (-1), .int 0, .int 0, .int 0, .long 0, .int 0])), ((a 3), .inr (1, [.int 0, .int 0, .int 0, .int 0, .int 0, .int 0, .ref (a 4), .ref (a 5), .ref (a 6), .ref (a 7), .int 0, .ref (a 8), .ref (a 9), .ref (a 10), .ref (a 11), .ref (a 12), .ref (a 13)])), (o, .inl (kO, 1, .inr (.inl (fun _ => 0))))] U.heap ∧ va_K (dC, dI) vwCl [(kO, .long)] U ∧ va_D (fun _ => True) [(h0, .inr (11, [.ref (a 0), .ref (a 1), .ref (a 3), .ref (a 14), .int 0, .null, .null, .null, .null, .null, .null])), ((a 1), .inr (9, [.ref (a 2), .int 0, .int 0, .int (-1), .int 0, .int 0, .int 0, .long 0, .int 0])), ((a 3), .inr (1, [.int 0, .int 0, .int 0, .int 0, .int 0, .int 0, .ref (a 4), .ref (a 5), .ref (a 6), .ref (a 7), .int 0, .ref (a 8), .ref (a 9), .ref (a 10), .ref (a 11), .ref (a 12), .ref (a 13)])), (o, .inl (kO, 1, .inr (.inl (fun _ => 0))))])) (va_Qi (fun (r : Int32) (u : Nat → Int64) => r = 0 ∧ (u 0 = 0)) (fun (u : Nat → Int64) t => va_P (dC, dI) vwCl [(o, .inl (kO, 1, .inr (.inl u)))] t.heap ∧ va_K (dC, dI) vwCl [] t ∧ va_D (va_A [(h0, .inr (11, [.ref (a 0), .ref (a 1), .ref (a 3), .ref (a 14), .int 0, .null, .null, .null, .null, .null, .null])), ((a 1), .inr (9, [.ref (a 2), .int 0, .int 0, .int (-1), .int 0, .int 0, .int 0, .long 0, .int 0])), ((a 3), .inr (1, [.int 0, .int 0, .int 0, .int 0, .int 0, .int 0, .ref (a 4), .ref (a 5), .ref (a 6), .ref (a 7), .int 0, .ref (a 8), .ref (a 9), .ref (a 10), .ref (a 11), .ref (a 12), .ref (a 13)])), (o, .inl (kO, 1, .inr (.inl (fun _ => 0))))] sz) [(o, .inl (kO, 1, .inr (.inl u)))]) (va_A [(h0, .inr (11, [.ref (a 0), .ref (a 1), .ref (a 3), .ref (a 14), .int 0, .null, .null, .null, .null, .null, .null])), ((a 1), .inr (9, [.ref (a 2), .int 0, .int 0, .int (-1), .int 0, .int 0, .int 0, .long 0, .int 0])), ((a 3), .inr (1, [.int 0, .int 0, .int 0, .int 0, .int 0, .int 0, .ref (a 4), .ref (a 5), .ref (a 6), .ref (a 7), .int 0, .ref (a 8), .ref (a 9), .ref (a 10), .ref (a 11), .ref (a 12), .ref (a 13)])), (o, .inl (kO, 1, .inr (.inl (fun _ => 0))))] sz)) 15 1198 (va_A [(h0, .inr (11, [.ref (a 0), .ref (a 1), .ref (a 3), .ref (a 14), .int 0, .null, .null, .null, .null, .null, .null])), ((a 1), .inr (9, [.ref (a 2), .int 0, .int 0, .int (-1), .int 0, .int 0, .int 0, .long 0, .int 0])), ((a 3), .inr (1, [.int 0, .int 0, .int 0, .int 0, .int 0, .int 0, .ref (a 4), .ref (a 5), .ref (a 6), .ref (a 7), .int 0, .ref (a 8), .ref (a 9), .ref (a 10), .ref (a 11), .ref (a 12), .ref (a 13)])), (o, .inl (kO, 1, .inr (.inl (fun _ => 0))))] sz) := by
  refine ofWC (hh := [(0, 8, 11, 13)]) (cc := cL_read) (maxL := 3) (ret := (some .int)) (by decide) rfl ?_
  intro p e s m args below meth c s₁ B hml hv
  obtain ⟨rfl, hsz, hP, hK, hD0⟩ := hv
  have hx := B.exec
  have hb := B.bytes
  have hr := B.returns
  have hts := atoms_spec (ws := wsPL_read) B.pre
  have hown : s.vm.findClass RL = some m.cls := findClass_of_methodNamed B.named
  have hlocks := B.notSynchronized
  have htb : c.exceptionTable.toList = tableOf [(0, 8, 11, 13)] := vx_table (x := yL_read) B (hts _ List.mem_cons_self)
  subst hsz
  have hD := hD0.self (sz := s.heap.size)
  generalize hAe : va_A [(h0, .inr (11, [.ref (a 0), .ref (a 1), .ref (a 3), .ref (a 14), .int 0, .null, .null, .null, .null, .null, .null])), ((a 1), .inr (9, [.ref (a 2), .int 0, .int 0, .int (-1), .int 0, .int 0, .int 0, .long 0, .int 0])), ((a 3), .inr (1, [.int 0, .int 0, .int 0, .int 0, .int 0, .int 0, .ref (a 4), .ref (a 5), .ref (a 6), .ref (a 7), .int 0, .ref (a 8), .ref (a 9), .ref (a 10), .ref (a 11), .ref (a 12), .ref (a 13)])), (o, .inl (kO, 1, .inr (.inl (fun _ => 0))))] s.heap.size = A at hD ⊢
  have hA : ∀ q : Nat, s.heap.size ≤ q → A q := fun q h => by rw [← hAe]; exact Or.inr h
  have hS : va_S A s.heap s.heap [] := va_S.rf
  have hP : va_P (dC, dI) vwCl [(h0, .inr (11, [.ref (a 0), .ref (a 1), .ref (a 3), .ref (a 14), .int 0, .null, .null, .null, .null, .null, .null])), ((a 1), .inr (9, [.ref (a 2), .int 0, .int 0, .int (-1), .int 0, .int 0, .int 0, .long 0, .int 0])), ((a 3), .inr (1, [.int 0, .int 0, .int 0, .int 0, .int 0, .int 0, .ref (a 4), .ref (a 5), .ref (a 6), .ref (a 7), .int 0, .ref (a 8), .ref (a 9), .ref (a 10), .ref (a 11), .ref (a 12), .ref (a 13)])), (o, .inl (kO, 1, .inr (.inl (fun _ => 0))))] s.heap := hP
  have hl := lv_entry ([.ref h0, .ref o]) (n := 3) (Nat.le_of_ble_eq_true rfl)
  rw [lg_entry_eq]
  generalize (lg_sl ([.ref h0, .ref o]) ++ List.replicate (3 - (lg_sl ([.ref h0, .ref o])).length) Slot.unset).toArray = ls at hl ⊢
  have hl : lv_has ls 3 [(0, .ref h0), (1, .ref o)] := hl
  refine lv_aload_n hx hb dL_read_0 rfl (lv_at hl 1 rfl) ?_
  refine lv_iconst (v := 0) hx hb dL_read_1 (by decide) ?_
  refine lv_aload_n hx hb dL_read_2 rfl (lv_at hl 0 rfl) ?_
  have hPc := hP.sub (ws' := [(h0, .inr (11, [.ref (a 0), .ref (a 1), .ref (a 3), .ref (a 14), .int 0, .null, .null, .null, .null, .null, .null])), ((a 1), .inr (9, [.ref (a 2), .int 0, .int 0, .int (-1), .int 0, .int 0, .int 0, .long 0, .int 0])), ((a 3), .inr (1, [.int 0, .int 0, .int 0, .int 0, .int 0, .int 0, .ref (a 4), .ref (a 5), .ref (a 6), .ref (a 7), .int 0, .ref (a 8), .ref (a 9), .ref (a 10), .ref (a 11), .ref (a 12), .ref (a 13)]))]) [0, 1, 2] rfl
  have hDc := hD.sub (ws' := [(h0, .inr (11, [.ref (a 0), .ref (a 1), .ref (a 3), .ref (a 14), .int 0, .null, .null, .null, .null, .null, .null])), ((a 1), .inr (9, [.ref (a 2), .int 0, .int 0, .int (-1), .int 0, .int 0, .int 0, .long 0, .int 0])), ((a 3), .inr (1, [.int 0, .int 0, .int 0, .int 0, .int 0, .int 0, .ref (a 4), .ref (a 5), .ref (a 6), .ref (a 7), .int 0, .ref (a 8), .ref (a 9), .ref (a 10), .ref (a 11), .ref (a 12), .ref (a 13)]))]) [0, 1, 2] (by decide) rfl
  have hKc := hK.sub (tys' := []) [] rfl
  have hFc := va_free (wc := [(h0, .inr (11, [.ref (a 0), .ref (a 1), .ref (a 3), .ref (a 14), .int 0, .null, .null, .null, .null, .null, .null])), ((a 1), .inr (9, [.ref (a 2), .int 0, .int 0, .int (-1), .int 0, .int 0, .int 0, .long 0, .int 0])), ((a 3), .inr (1, [.int 0, .int 0, .int 0, .int 0, .int 0, .int 0, .ref (a 4), .ref (a 5), .ref (a 6), .ref (a 7), .int 0, .ref (a 8), .ref (a 9), .ref (a 10), .ref (a 11), .ref (a 12), .ref (a 13)]))]) hD hS hA [0, 1, 2] rfl
  refine va_calli (va_runV (As := []) (rest := [.int 0, .ref o]) ⟨hx, hb, hml, hown, hts⟩ (p_X11_read l dC dI h0 a s.heap.size) (cwV 0 hts gwsPL_read_0 rfl rfl rfl (by decide +kernel) ⟨by decide +kernel, by decide +kernel⟩) ⟨fun a U g mk q => by obtain ⟨q0, q1, qP, qK, qD⟩ := q; exact ⟨q0, q1, qP, va_K.moved (u := U) (U := U.calling g mk a) (Vm.Alike.refl U.vm) qK, qD⟩, va_recv hKc hPc (ci := 11) (q0 := 0) rfl rfl, fun U hU9 hW => ⟨rfl, by rw [hU9], by rw [hU9]; exact hPc, va_K.moved hW.alike hKc, hDc.weaken (fun _ _ _ _ => trivial)⟩⟩ rfl rfl hl.1 rfl (lv_room (Nat.le_of_ble_eq_true rfl)) dL_read_3 ⟨by decide +kernel, by decide +kernel⟩) hS (fun q _ h => hFc q h) hFc (fun r3 u t H1 locs ht hvm hw hB hz1 hk1 hS => ?_)
  obtain ⟨hP1, hK1, hD1⟩ := hB
  rw [ht] at hP1
  have hK1 := va_K.moved hvm.symm hK1
  obtain ⟨hP, hD⟩ := va_join (wr := [(o, .inl (kO, 1, .inr (.inl (fun _ => 0))))]) (w1 := []) hP hD [0, 1, 2] [3] rfl rfl (by decide) (by decide) hk1 hFc hP1 hD1
  generalize H1 = H at hP hS ⊢
  have hP : va_P (dC, dI) vwCl [(o, .inl (kO, 1, .inr (.inl (fun _ => 0))))] H := hP
  have hD : va_D A [(o, .inl (kO, 1, .inr (.inl (fun _ => 0))))] := hD
  refine W.widen (k := 15) (n := 1198) (by decide +kernel) (by decide +kernel) ?_
  obtain rfl := hw
  refine lv_i2l hx hb dL_read_6 rfl ?_
  refine lv_topl (fun y1 hy1 => ?_)
  obtain rfl : 0 = y1 := (hy1.trans (by decide)).symm
  refine va_last hx hb hK hP hD hS 0 0 rfl rfl (show ¬ ((0 : Int32) < 0 ∨ 1 ≤ (0 : Int32).toNatClampNeg) by decide) dL_read_7 (fun H locs hP hD hS => ?_)
  have hP : va_P (dC, dI) vwCl [(o, .inl (kO, 1, .inr (.inl (vp_updL (fun _ => 0) (0 : Int32).toNatClampNeg 0))))] H := hP
  have hD : va_D A [(o, .inl (kO, 1, .inr (.inl (vp_updL (fun _ => 0) (0 : Int32).toNatClampNeg 0))))] := hD
  refine lv_goto (tgt := 14) hx hb dL_read_8 (by decide) ?_
  refine lv_iconst (v := 0) hx hb dL_read_14 (by decide) ?_
  refine W.widen (k := 15) (n := 1198) (by decide +kernel) (by decide +kernel) ?_
  exact W.iret (v := 0) hx hb hr (fun t ht hW => ⟨⟨0, (vp_updL (fun _ => 0) (0 : Int32).toNatClampNeg 0), rfl, by (refine ⟨?_, ?_⟩ <;> (first | rfl | assumption | trivial | omega | (simp []; done) | (simp; omega))), by rw [ht]; exact hP.sub [0] rfl, va_K.moved hW.alike (hK.sub [] rfl), hD.sub [0] (by decide) rfl⟩, hS.F ht⟩) hS.2.2 dL_read_15
theorem dL_variable_0 : decode cL_variable 0 = .ok (.aload_n 3, 1) := by decide +kernel
theorem dL_variable_1 : decode cL_variable 1 = .ok (.iconst 0, 1) := by decide +kernel
theorem dL_variable_2 : decode cL_variable 2 = .ok (.aload_n 0, 1) := by decide +kernel
theorem dL_variable_3 : decode cL_variable 3 = .ok (.iload_n 1, 1) := by decide +kernel
theorem dL_variable_4 : decode cL_variable 4 = .ok (.iload_n 2, 1) := by decide +kernel
theorem dL_variable_5 : decode cL_variable 5 = .ok (.invokevirtual 15, 3) := by decide +kernel
theorem dL_variable_13 : decode cL_variable 13 = .ok (.astore 4, 2) := by decide +kernel
theorem dL_variable_15 : decode cL_variable 15 = .ok (.iconst 1, 1) := by decide +kernel
theorem dL_variable_16 : decode cL_variable 16 = .ok (.ireturn, 1) := by decide +kernel
def wsPL_variable : List Cond := .codeWith yL_variable cL_variable 5 (some .int) [(0, 10, 13, 19)] :: ([.classLink RL 19 "java/lang/IndexOutOfBoundsException"] ++ (wsV RL 15 RX11 yX11_variable wsPX11_variable))
theorem gwsPL_variable_0 : GoodIn wsPL_variable (wsV RL 15 RX11 yX11_variable wsPX11_variable) := goodIn_sub (fun _ h => List.mem_cons_of_mem _ (List.mem_append_right _ h)) (by decide +kernel)
set_option maxHeartbeats 4000000 in
set_option maxRecDepth 100000 in
/-- the law's variable, on a fresh object -/
theorem p_L_variable (l : Launch) (hst : l.stackTraces = false) (dC : Nat → ClassId) (dI : Nat → Nat → Nat) (h0 : Nat) (a : Nat → Nat) (o : Nat) (kO : ClassId) (qk : Int32) (wh : Int32) (sz : Nat) : Met l yL_variable wsPL_variable ({ frames := 7, cells := 1, slots := 6, locals := 103 }) (va_Pc [.ref h0, .int qk, .int wh, .ref o] (fun U => U.heap.size = sz ∧ va_P (dC, dI) vwCl [(h0, .inr (11, [.ref (a 0), .ref (a 1), .ref (a 3), .ref (a 14), .int 0, .null, .null, .null, .null, .null, .null])), ((a 3), .inr (1, [.int 0, .int 0, .int 0, .int 0, .int 0, .int 0, .ref (a 4), .ref (a 5), .ref (a 6), .ref (a 7), .int 0, .ref (a 8), .ref (a 9), .ref (a 10), .ref (a 11), .ref (a 12), .ref (a 13)])), (o, .inl (kO, 1, .inr (.inl (fun _ => 0))))] U.heap ∧ va_K (dC, dI) vwCl [(kO, .long)] U ∧ va_D (fun _ => True) [(h0, .inr (11, [.ref (a 0), .ref (a 1), .ref (a 3), .ref (a 14), .int 0, .null, .null, .null, .null, .null, .null])), ((a 3), .inr (1, [.int 0, .int 0, .int 0, .int 0, .int 0, .int 0, .ref (a 4), .ref (a 5), .ref (a 6), .ref (a 7), .int 0, .ref (a 8), .ref (a 9), .ref (a 10), .ref (a 11), .ref (a 12), .ref (a 13)])), (o, .inl (kO, 1, .inr (.inl (fun _ => 0))))] ∧ vx_Zq Bundle.tN "UNASSIGNED_STACK" Bundle.steD (va_A [(h0, .inr (11, [.ref (a 0), .ref (a 1), .ref (a 3), .ref (a 14), .int 0, .null, .null, .null, .null, .null, .null])), ((a 3), .inr (1, [.int 0, .int 0, .int 0, .int 0, .int 0, .int 0, .ref (a 4), .ref (a 5), .ref (a 6), .ref (a 7), .int 0, .ref (a 8), .ref (a 9), .ref (a 10), .ref (a 11), .ref (a 12), .ref (a 13)])), (o, .inl (kO, 1, .inr (.inl (fun _ => 0))))] sz) U U.heap ∧ vx_Zq Bundle.tN "SUPPRESSED_SENTINEL" Bundle.listD (va_A [(h0, .inr (11, [.ref (a 0), .ref (a 1), .ref (a 3), .ref (a 14), .int 0, .null, .null, .null, .null, .null, .null])), ((a 3), .inr (1, [.int 0, .int 0, .int 0, .int 0, .int 0, .int 0, .ref (a 4), .ref (a 5), .ref (a 6), .ref (a 7), .int 0, .ref (a 8), .ref (a 9), .ref (a 10), .ref (a 11), .ref (a 12), .ref (a 13)])), (o, .inl (kO, 1, .inr (.inl (fun _ => 0))))] sz) U U.heap ∧ (∀ w ∈ ngX11_95, va_Nw w U))) (va_Qi (fun (r : Int32) (u : Nat → Int64) => r = 1) (fun (u : Nat → Int64) t => va_P (dC, dI) vwCl [(o, .inl (kO, 1, .inr (.inl u)))] t.heap ∧ va_K (dC, dI) vwCl [] t ∧ va_D (va_A [(h0, .inr (11, [.ref (a 0), .ref (a 1), .ref (a 3), .ref (a 14), .int 0, .null, .null, .null, .null, .null, .null])), ((a 3), .inr (1, [.int 0, .int 0, .int 0, .int 0, .int 0, .int 0, .ref (a 4), .ref (a 5), .ref (a 6), .ref (a 7), .int 0, .ref (a 8), .ref (a 9), .ref (a 10), .ref (a 11), .ref (a 12), .ref (a 13)])), (o, .inl (kO, 1, .inr (.inl (fun _ => 0))))] sz) [(o, .inl (kO, 1, .inr (.inl u)))]) (va_A [(h0, .inr (11, [.ref (a 0), .ref (a 1), .ref (a 3), .ref (a 14), .int 0, .null, .null, .null, .null, .null, .null])), ((a 3), .inr (1, [.int 0, .int 0, .int 0, .int 0, .int 0, .int 0, .ref (a 4), .ref (a 5), .ref (a 6), .ref (a 7), .int 0, .ref (a 8), .ref (a 9), .ref (a 10), .ref (a 11), .ref (a 12), .ref (a 13)])), (o, .inl (kO, 1, .inr (.inl (fun _ => 0))))] sz)) 1 6 (va_A [(h0, .inr (11, [.ref (a 0), .ref (a 1), .ref (a 3), .ref (a 14), .int 0, .null, .null, .null, .null, .null, .null])), ((a 3), .inr (1, [.int 0, .int 0, .int 0, .int 0, .int 0, .int 0, .ref (a 4), .ref (a 5), .ref (a 6), .ref (a 7), .int 0, .ref (a 8), .ref (a 9), .ref (a 10), .ref (a 11), .ref (a 12), .ref (a 13)])), (o, .inl (kO, 1, .inr (.inl (fun _ => 0))))] sz) := by
  refine ofWC (hh := [(0, 10, 13, 19)]) (cc := cL_variable) (maxL := 5) (ret := (some .int)) (by decide) rfl ?_
  intro p e s m args below meth c s₁ B hml hv
  obtain ⟨rfl, hsz, hP, hK, hD0, hU, hN, hngX11_95⟩ := hv
  have hx := B.exec
  have hb := B.bytes
  have hr := B.returns
  have hts := atoms_spec (ws := wsPL_variable) B.pre
  have hown : s.vm.findClass RL = some m.cls := findClass_of_methodNamed B.named
  have hlocks := B.notSynchronized
  have htb : c.exceptionTable.toList = tableOf [(0, 10, 13, 19)] := vx_table (x := yL_variable) B (hts _ List.mem_cons_self)
  subst hsz
  have hD := hD0.self (sz := s.heap.size)
  generalize hAe : va_A [(h0, .inr (11, [.ref (a 0), .ref (a 1), .ref (a 3), .ref (a 14), .int 0, .null, .null, .null, .null, .null, .null])), ((a 3), .inr (1, [.int 0, .int 0, .int 0, .int 0, .int 0, .int 0, .ref (a 4), .ref (a 5), .ref (a 6), .ref (a 7), .int 0, .ref (a 8), .ref (a 9), .ref (a 10), .ref (a 11), .ref (a 12), .ref (a 13)])), (o, .inl (kO, 1, .inr (.inl (fun _ => 0))))] s.heap.size = A at hD hU hN ⊢
  have hA : ∀ q : Nat, s.heap.size ≤ q → A q := fun q h => by rw [← hAe]; exact Or.inr h
  have hS : va_S A s.heap s.heap [] := va_S.rf
  have hP : va_P (dC, dI) vwCl [(h0, .inr (11, [.ref (a 0), .ref (a 1), .ref (a 3), .ref (a 14), .int 0, .null, .null, .null, .null, .null, .null])), ((a 3), .inr (1, [.int 0, .int 0, .int 0, .int 0, .int 0, .int 0, .ref (a 4), .ref (a 5), .ref (a 6), .ref (a 7), .int 0, .ref (a 8), .ref (a 9), .ref (a 10), .ref (a 11), .ref (a 12), .ref (a 13)])), (o, .inl (kO, 1, .inr (.inl (fun _ => 0))))] s.heap := hP
  have hl := lv_entry ([.ref h0, .int qk, .int wh, .ref o]) (n := 5) (Nat.le_of_ble_eq_true rfl)
  rw [lg_entry_eq]
  generalize (lg_sl ([.ref h0, .int qk, .int wh, .ref o]) ++ List.replicate (5 - (lg_sl ([.ref h0, .int qk, .int wh, .ref o])).length) Slot.unset).toArray = ls at hl ⊢
  have hl : lv_has ls 5 [(0, .ref h0), (1, .int qk), (2, .int wh), (3, .ref o)] := hl
  refine lv_aload_n hx hb dL_variable_0 rfl (lv_at hl 3 rfl) ?_
  refine lv_iconst (v := 0) hx hb dL_variable_1 (by decide) ?_
  refine lv_aload_n hx hb dL_variable_2 rfl (lv_at hl 0 rfl) ?_
  refine lv_iload_n hx hb dL_variable_3 rfl (lv_at hl 1 rfl) ?_
  refine lv_iload_n hx hb dL_variable_4 rfl (lv_at hl 2 rfl) ?_
  have hPc := hP.sub (ws' := [(h0, .inr (11, [.ref (a 0), .ref (a 1), .ref (a 3), .ref (a 14), .int 0, .null, .null, .null, .null, .null, .null])), ((a 3), .inr (1, [.int 0, .int 0, .int 0, .int 0, .int 0, .int 0, .ref (a 4), .ref (a 5), .ref (a 6), .ref (a 7), .int 0, .ref (a 8), .ref (a 9), .ref (a 10), .ref (a 11), .ref (a 12), .ref (a 13)]))]) [0, 1] rfl
  have hDc := hD.sub (ws' := [(h0, .inr (11, [.ref (a 0), .ref (a 1), .ref (a 3), .ref (a 14), .int 0, .null, .null, .null, .null, .null, .null])), ((a 3), .inr (1, [.int 0, .int 0, .int 0, .int 0, .int 0, .int 0, .ref (a 4), .ref (a 5), .ref (a 6), .ref (a 7), .int 0, .ref (a 8), .ref (a 9), .ref (a 10), .ref (a 11), .ref (a 12), .ref (a 13)]))]) [0, 1] (by decide) rfl
  have hKc := hK.sub (tys' := []) [] rfl
  have hFc := va_free (wc := [(h0, .inr (11, [.ref (a 0), .ref (a 1), .ref (a 3), .ref (a 14), .int 0, .null, .null, .null, .null, .null, .null])), ((a 3), .inr (1, [.int 0, .int 0, .int 0, .int 0, .int 0, .int 0, .ref (a 4), .ref (a 5), .ref (a 6), .ref (a 7), .int 0, .ref (a 8), .ref (a 9), .ref (a 10), .ref (a 11), .ref (a 12), .ref (a 13)]))]) hD hS hA [0, 1] rfl
  refine vx_calli (vx_runV (As := [.int qk, .int wh]) (rest := [.int 0, .ref o]) ⟨hx, hb, hml, hown, hts⟩ (p_X11_variable l hst dC dI h0 a qk wh s.heap.size) (cwV 2 hts gwsPL_variable_0 rfl rfl rfl (by decide +kernel) ⟨by decide +kernel, by decide +kernel⟩) ⟨fun a U g mk q => by obtain ⟨q0, q1, qP, qK, qD, qU, qN, qngX11_95⟩ := q; exact ⟨q0, q1, qP, va_K.moved (u := U) (U := U.calling g mk a) (Vm.Alike.refl U.vm) qK, qD, vx_Zq.moved (u := U) (U := U.calling g mk a) (Vm.Alike.refl U.vm) qU, vx_Zq.moved (u := U) (U := U.calling g mk a) (Vm.Alike.refl U.vm) qN, fun w h => va_Nw.same (u := U) (U := U.calling g mk a) (ngX11_95_ot w h) rfl (qngX11_95 w h)⟩, va_recv hKc hPc (ci := 11) (q0 := 0) rfl rfl, fun U hU9 hW => ⟨rfl, by rw [hU9], by rw [hU9]; exact hPc, va_K.moved hW.alike hKc, hDc.weaken (fun _ _ _ _ => trivial), by rw [hU9]; exact ((hU.kept (fun a h1 h2 => hS.2.1 a h1 h2)).narrow hFc).moved hW.alike, by rw [hU9]; exact ((hN.kept (fun a h1 h2 => hS.2.1 a h1 h2)).narrow hFc).moved hW.alike, fun w h => cd_warm (ngX11_95_cd w h) hW (hngX11_95 w h)⟩⟩ rfl rfl hl.1 rfl (lv_room (Nat.le_of_ble_eq_true rfl)) dL_variable_5 ⟨by decide +kernel, by decide +kernel⟩) hS (fun q _ h => hFc q h) hFc (fun q _ h => hFc q h) (fun E ce q9 u t H1 locs1 ht hvm hw hB hz1 hk1 hS hc1 hc2 hc3 => ?_) (fun r5 u t H1 locs ht hvm hw hB hz1 hk1 hS => ?_)
  · have hE : E = u := hB
    subst hE
    obtain ⟨hP, hD⟩ := va_join (wr := [(o, .inl (kO, 1, .inr (.inl (fun _ => 0))))]) (w1 := []) hP hD [0, 1] [2] rfl rfl (by decide) (by decide) hk1 hFc nilP nilD
    have hP : va_P (dC, dI) vwCl [(o, .inl (kO, 1, .inr (.inl (fun _ => 0))))] H1 := hP
    have hD : va_D A [(o, .inl (kO, 1, .inr (.inl (fun _ => 0))))] := hD
    refine vx_widen (k := 1) (n := 6) (by decide +kernel) (by decide +kernel) ?_
    obtain ⟨hu, hxc⟩ := hw
    subst hu
    refine vx_catch (own := RL) (name := "java/lang/IndexOutOfBoundsException") hown [] ⟨0, 10, 13, 19⟩ [] (by rw [htb]; rfl) (fun z hz => absurd hz List.not_mem_nil) (by decide) (by decide) (hts (.classLink RL 19 "java/lang/IndexOutOfBoundsException") (by decide +kernel)) (va_Nw.use rfl (hngX11_95 (.castable "java/lang/IndexOutOfBoundsException" "java/lang/IndexOutOfBoundsException") (by decide +kernel))) hc1 hc2 hc3 ?_
    generalize H1 = H at hP hS hc1 ⊢
    refine lv_astore (lv' := [(4, .ref q9), (0, .ref h0), (1, .int qk), (2, .int wh), (3, .ref o)]) hx hb dL_variable_13 hl (by decide) rfl (fun ls hl => ?_)
    refine lv_iconst (v := 1) hx hb dL_variable_15 (by decide) ?_
    refine W.widen (k := 1) (n := 6) (by decide +kernel) (by decide +kernel) ?_
    exact W.iret (v := 1) hx hb hr (fun t ht hW => ⟨⟨1, (fun _ => 0), rfl, by (first | rfl | assumption | trivial | omega | (simp []; done) | (simp; omega)), by rw [ht]; exact hP.sub [0] rfl, va_K.moved hW.alike (hK.sub [] rfl), hD.sub [0] (by decide) rfl⟩, hS.F ht⟩) hS.2.2 dL_variable_16
  exact False.elim hw
def wsPL_row : List Cond := .codeWith yL_row cL_row 6 (some .int) [(0, 12, 15, 19)] :: ([.classLink RL 19 "java/lang/IndexOutOfBoundsException"] ++ (wsV RL 21 RX11 yX11_row wsPX11_row))
theorem gwsPL_row_0 : GoodIn wsPL_row (wsV RL 21 RX11 yX11_row wsPX11_row) := goodIn_sub (fun _ h => List.mem_cons_of_mem _ (List.mem_append_right _ h)) (by decide +kernel)
set_option maxHeartbeats 4000000 in
set_option maxRecDepth 100000 in
/-- the law's row, on a fresh object -/
theorem p_L_row (l : Launch) (hst : l.stackTraces = false) (dC : Nat → ClassId) (dI : Nat → Nat → Nat) (h0 : Nat) (a : Nat → Nat) (o : Nat) (kO : ClassId) (qr : Int32) (qw : Int32) (qk : Int32) (sz : Nat) : Met l yL_row wsPL_row ({ frames := 7, cells := 1, slots := 6, locals := 104 }) (va_Pc [.ref h0, .int qr, .int qw, .int qk, .ref o] (fun U => U.heap.size = sz ∧ va_P (dC, dI) vwCl [(h0, .inr (11, [.ref (a 0), .ref (a 1), .ref (a 3), .ref (a 14), .int 0, .null, .null, .null, .null, .null, .null])), ((a 3), .inr (1, [.int 0, .int 0, .int 0, .int 0, .int 0, .int 0, .ref (a 4), .ref (a 5), .ref (a 6), .ref (a 7), .int 0, .ref (a 8), .ref (a 9), .ref (a 10), .ref (a 11), .ref (a 12), .ref (a 13)])), (o, .inl (kO, 1, .inr (.inl (fun _ => 0))))] U.heap ∧ va_K (dC, dI) vwCl [(kO, .long)] U ∧ va_D (fun _ => True) [(h0, .inr (11, [.ref (a 0), .ref (a 1), .ref (a 3), .ref (a 14), .int 0, .null, .null, .null, .null, .null, .null])), ((a 3), .inr (1, [.int 0, .int 0, .int 0, .int 0, .int 0, .int 0, .ref (a 4), .ref (a 5), .ref (a 6), .ref (a 7), .int 0, .ref (a 8), .ref (a 9), .ref (a 10), .ref (a 11), .ref (a 12), .ref (a 13)])), (o, .inl (kO, 1, .inr (.inl (fun _ => 0))))] ∧ vx_Zq Bundle.tN "UNASSIGNED_STACK" Bundle.steD (va_A [(h0, .inr (11, [.ref (a 0), .ref (a 1), .ref (a 3), .ref (a 14), .int 0, .null, .null, .null, .null, .null, .null])), ((a 3), .inr (1, [.int 0, .int 0, .int 0, .int 0, .int 0, .int 0, .ref (a 4), .ref (a 5), .ref (a 6), .ref (a 7), .int 0, .ref (a 8), .ref (a 9), .ref (a 10), .ref (a 11), .ref (a 12), .ref (a 13)])), (o, .inl (kO, 1, .inr (.inl (fun _ => 0))))] sz) U U.heap ∧ vx_Zq Bundle.tN "SUPPRESSED_SENTINEL" Bundle.listD (va_A [(h0, .inr (11, [.ref (a 0), .ref (a 1), .ref (a 3), .ref (a 14), .int 0, .null, .null, .null, .null, .null, .null])), ((a 3), .inr (1, [.int 0, .int 0, .int 0, .int 0, .int 0, .int 0, .ref (a 4), .ref (a 5), .ref (a 6), .ref (a 7), .int 0, .ref (a 8), .ref (a 9), .ref (a 10), .ref (a 11), .ref (a 12), .ref (a 13)])), (o, .inl (kO, 1, .inr (.inl (fun _ => 0))))] sz) U U.heap ∧ (∀ w ∈ ngX11_95, va_Nw w U))) (va_Qi (fun (r : Int32) (u : Nat → Int64) => r = 1) (fun (u : Nat → Int64) t => va_P (dC, dI) vwCl [(o, .inl (kO, 1, .inr (.inl u)))] t.heap ∧ va_K (dC, dI) vwCl [] t ∧ va_D (va_A [(h0, .inr (11, [.ref (a 0), .ref (a 1), .ref (a 3), .ref (a 14), .int 0, .null, .null, .null, .null, .null, .null])), ((a 3), .inr (1, [.int 0, .int 0, .int 0, .int 0, .int 0, .int 0, .ref (a 4), .ref (a 5), .ref (a 6), .ref (a 7), .int 0, .ref (a 8), .ref (a 9), .ref (a 10), .ref (a 11), .ref (a 12), .ref (a 13)])), (o, .inl (kO, 1, .inr (.inl (fun _ => 0))))] sz) [(o, .inl (kO, 1, .inr (.inl u)))]) (va_A [(h0, .inr (11, [.ref (a 0), .ref (a 1), .ref (a 3), .ref (a 14), .int 0, .null, .null, .null, .null, .null, .null])), ((a 3), .inr (1, [.int 0, .int 0, .int 0, .int 0, .int 0, .int 0, .ref (a 4), .ref (a 5), .ref (a 6), .ref (a 7), .int 0, .ref (a 8), .ref (a 9), .ref (a 10), .ref (a 11), .ref (a 12), .ref (a 13)])), (o, .inl (kO, 1, .inr (.inl (fun _ => 0))))] sz)) 1 6 (va_A [(h0, .inr (11, [.ref (a 0), .ref (a 1), .ref (a 3), .ref (a 14), .int 0, .null, .null, .null, .null, .null, .null])), ((a 3), .inr (1, [.int 0, .int 0, .int 0, .int 0, .int 0, .int 0, .ref (a 4), .ref (a 5), .ref (a 6), .ref (a 7), .int 0, .ref (a 8), .ref (a 9), .ref (a 10), .ref (a 11), .ref (a 12), .ref (a 13)])), (o, .inl (kO, 1, .inr (.inl (fun _ => 0))))] sz) := by
  refine ofWC (hh := [(0, 12, 15, 19)]) (cc := cL_row) (maxL := 6) (ret := (some .int)) (by decide) rfl ?_
  intro p e s m args below meth c s₁ B hml hv
  obtain ⟨rfl, hsz, hP, hK, hD0, hU, hN, hngX11_95⟩ := hv
  have hx := B.exec
  have hb := B.bytes
  have hr := B.returns
  have hts := atoms_spec (ws := wsPL_row) B.pre
  have hown : s.vm.findClass RL = some m.cls := findClass_of_methodNamed B.named
  have hlocks := B.notSynchronized
  have htb : c.exceptionTable.toList = tableOf [(0, 12, 15, 19)] := vx_table (x := yL_row) B (hts _ List.mem_cons_self)
  subst hsz
  have hD := hD0.self (sz := s.heap.size)
  generalize hAe : va_A [(h0, .inr (11, [.ref (a 0), .ref (a 1), .ref (a 3), .ref (a 14), .int 0, .null, .null, .null, .null, .null, .null])), ((a 3), .inr (1, [.int 0, .int 0, .int 0, .int 0, .int 0, .int 0, .ref (a 4), .ref (a 5), .ref (a 6), .ref (a 7), .int 0, .ref (a 8), .ref (a 9), .ref (a 10), .ref (a 11), .ref (a 12), .ref (a 13)])), (o, .inl (kO, 1, .inr (.inl (fun _ => 0))))] s.heap.size = A at hD hU hN ⊢
  have hA : ∀ q : Nat, s.heap.size ≤ q → A q := fun q h => by rw [← hAe]; exact Or.inr h
  have hS : va_S A s.heap s.heap [] := va_S.rf
  have hP : va_P (dC, dI) vwCl [(h0, .inr (11, [.ref (a 0), .ref (a 1), .ref (a 3), .ref (a 14), .int 0, .null, .null, .null, .null, .null, .null])), ((a 3), .inr (1, [.int 0, .int 0, .int 0, .int 0, .int 0, .int 0, .ref (a 4), .ref (a 5), .ref (a 6), .ref (a 7), .int 0, .ref (a 8), .ref (a 9), .ref (a 10), .ref (a 11), .ref (a 12), .ref (a 13)])), (o, .inl (kO, 1, .inr (.inl (fun _ => 0))))] s.heap := hP
  have hl := lv_entry ([.ref h0, .int qr, .int qw, .int qk, .ref o]) (n := 6) (Nat.le_of_ble_eq_true rfl)
  rw [lg_entry_eq]
  generalize (lg_sl ([.ref h0, .int qr, .int qw, .int qk, .ref o]) ++ List.replicate (6 - (lg_sl ([.ref h0, .int qr, .int qw, .int qk, .ref o])).length) Slot.unset).toArray = ls at hl ⊢
  have hl : lv_has ls 6 [(0, .ref h0), (1, .int qr), (2, .int qw), (3, .int qk), (4, .ref o)] := hl
  refine lv_aload hx hb dL_row_0 (lv_at hl 4 rfl) ?_
  refine lv_iconst (v := 0) hx hb dL_row_2 (by decide) ?_
  refine lv_aload_n hx hb dL_row_3 rfl (lv_at hl 0 rfl) ?_
  refine lv_iload_n hx hb dL_row_4 rfl (lv_at hl 1 rfl) ?_
  refine lv_iload_n hx hb dL_row_5 rfl (lv_at hl 2 rfl) ?_
  refine lv_iload_n hx hb dL_row_6 rfl (lv_at hl 3 rfl) ?_
  have hPc := hP.sub (ws' := [(h0, .inr (11, [.ref (a 0), .ref (a 1), .ref (a 3), .ref (a 14), .int 0, .null, .null, .null, .null, .null, .null])), ((a 3), .inr (1, [.int 0, .int 0, .int 0, .int 0, .int 0, .int 0, .ref (a 4), .ref (a 5), .ref (a 6), .ref (a 7), .int 0, .ref (a 8), .ref (a 9), .ref (a 10), .ref (a 11), .ref (a 12), .ref (a 13)]))]) [0, 1] rfl
  have hDc := hD.sub (ws' := [(h0, .inr (11, [.ref (a 0), .ref (a 1), .ref (a 3), .ref (a 14), .int 0, .null, .null, .null, .null, .null, .null])), ((a 3), .inr (1, [.int 0, .int 0, .int 0, .int 0, .int 0, .int 0, .ref (a 4), .ref (a 5), .ref (a 6), .ref (a 7), .int 0, .ref (a 8), .ref (a 9), .ref (a 10), .ref (a 11), .ref (a 12), .ref (a 13)]))]) [0, 1] (by decide) rfl
  have hKc := hK.sub (tys' := []) [] rfl
  have hFc := va_free (wc := [(h0, .inr (11, [.ref (a 0), .ref (a 1), .ref (a 3), .ref (a 14), .int 0, .null, .null, .null, .null, .null, .null])), ((a 3), .inr (1, [.int 0, .int 0, .int 0, .int 0, .int 0, .int 0, .ref (a 4), .ref (a 5), .ref (a 6), .ref (a 7), .int 0, .ref (a 8), .ref (a 9), .ref (a 10), .ref (a 11), .ref (a 12), .ref (a 13)]))]) hD hS hA [0, 1] rfl
  refine vx_calli (vx_runV (As := [.int qr, .int qw, .int qk]) (rest := [.int 0, .ref o]) ⟨hx, hb, hml, hown, hts⟩ (p_X11_row l hst dC dI h0 a qr qw qk s.heap.size) (cwV 3 hts gwsPL_row_0 rfl rfl rfl (by decide +kernel) ⟨by decide +kernel, by decide +kernel⟩) ⟨fun a U g mk q => by obtain ⟨q0, q1, qP, qK, qD, qU, qN, qngX11_95⟩ := q; exact ⟨q0, q1, qP, va_K.moved (u := U) (U := U.calling g mk a) (Vm.Alike.refl U.vm) qK, qD, vx_Zq.moved (u := U) (U := U.calling g mk a) (Vm.Alike.refl U.vm) qU, vx_Zq.moved (u := U) (U := U.calling g mk a) (Vm.Alike.refl U.vm) qN, fun w h => va_Nw.same (u := U) (U := U.calling g mk a) (ngX11_95_ot w h) rfl (qngX11_95 w h)⟩, va_recv hKc hPc (ci := 11) (q0 := 0) rfl rfl, fun U hU9 hW => ⟨rfl, by rw [hU9], by rw [hU9]; exact hPc, va_K.moved hW.alike hKc, hDc.weaken (fun _ _ _ _ => trivial), by rw [hU9]; exact ((hU.kept (fun a h1 h2 => hS.2.1 a h1 h2)).narrow hFc).moved hW.alike, by rw [hU9]; exact ((hN.kept (fun a h1 h2 => hS.2.1 a h1 h2)).narrow hFc).moved hW.alike, fun w h => cd_warm (ngX11_95_cd w h) hW (hngX11_95 w h)⟩⟩ rfl rfl hl.1 rfl (lv_room (Nat.le_of_ble_eq_true rfl)) dL_row_7 ⟨by decide +kernel, by decide +kernel⟩) hS (fun q _ h => hFc q h) hFc (fun q _ h => hFc q h) (fun E ce q9 u t H1 locs1 ht hvm hw hB hz1 hk1 hS hc1 hc2 hc3 => ?_) (fun r7 u t H1 locs ht hvm hw hB hz1 hk1 hS => ?_)
  · have hE : E = u := hB
    subst hE
    obtain ⟨hP, hD⟩ := va_join (wr := [(o, .inl (kO, 1, .inr (.inl (fun _ => 0))))]) (w1 := []) hP hD [0, 1] [2] rfl rfl (by decide) (by decide) hk1 hFc nilP nilD
    have hP : va_P (dC, dI) vwCl [(o, .inl (kO, 1, .inr (.inl (fun _ => 0))))] H1 := hP
    have hD : va_D A [(o, .inl (kO, 1, .inr (.inl (fun _ => 0))))] := hD
    refine vx_widen (k := 1) (n := 6) (by decide +kernel) (by decide +kernel) ?_
    obtain ⟨hu, hxc⟩ := hw
    subst hu
    refine vx_catch (own := RL) (name := "java/lang/IndexOutOfBoundsException") hown [] ⟨0, 12, 15, 19⟩ [] (by rw [htb]; rfl) (fun z hz => absurd hz List.not_mem_nil) (by decide) (by decide) (hts (.classLink RL 19 "java/lang/IndexOutOfBoundsException") (by decide +kernel)) (va_Nw.use rfl (hngX11_95 (.castable "java/lang/IndexOutOfBoundsException" "java/lang/IndexOutOfBoundsException") (by decide +kernel))) hc1 hc2 hc3 ?_
    generalize H1 = H at hP hS hc1 ⊢
    refine lv_astore (lv' := [(5, .ref q9), (0, .ref h0), (1, .int qr), (2, .int qw), (3, .int qk), (4, .ref o)]) hx hb dL_row_15 hl (by decide) rfl (fun ls hl => ?_)
    refine lv_iconst (v := 1) hx hb dL_row_17 (by decide) ?_
    refine W.widen (k := 1) (n := 6) (by decide +kernel) (by decide +kernel) ?_
    exact W.iret (v := 1) hx hb hr (fun t ht hW => ⟨⟨1, (fun _ => 0), rfl, by (first | rfl | assumption | trivial | omega | (simp []; done) | (simp; omega)), by rw [ht]; exact hP.sub [0] rfl, va_K.moved hW.alike (hK.sub [] rfl), hD.sub [0] (by decide) rfl⟩, hS.F ht⟩) hS.2.2 dL_row_18
  exact False.elim hw
def wsPL_goal : List Cond := .codeWith yL_goal cL_goal 6 (some .int) [(0, 12, 15, 19)] :: ([.classLink RL 19 "java/lang/IndexOutOfBoundsException"] ++ (wsV RL 25 RX11 yX11_goal wsPX11_goal))
theorem gwsPL_goal_0 : GoodIn wsPL_goal (wsV RL 25 RX11 yX11_goal wsPX11_goal) := goodIn_sub (fun _ h => List.mem_cons_of_mem _ (List.mem_append_right _ h)) (by decide +kernel)
set_option maxHeartbeats 4000000 in
set_option maxRecDepth 100000 in
/-- the law's goal, on a fresh object -/
theorem p_L_goal (l : Launch) (hst : l.stackTraces = false) (dC : Nat → ClassId) (dI : Nat → Nat → Nat) (h0 : Nat) (a : Nat → Nat) (o : Nat) (kO : ClassId) (qg : Int32) (qk : Int32) (qu : Int32) (sz : Nat) : Met l yL_goal wsPL_goal ({ frames := 7, cells := 1, slots := 6, locals := 105 }) (va_Pc [.ref h0, .int qg, .int qk, .int qu, .ref o] (fun U => U.heap.size = sz ∧ va_P (dC, dI) vwCl [(h0, .inr (11, [.ref (a 0), .ref (a 1), .ref (a 3), .ref (a 14), .int 0, .null, .null, .null, .null, .null, .null])), ((a 3), .inr (1, [.int 0, .int 0, .int 0, .int 0, .int 0, .int 0, .ref (a 4), .ref (a 5), .ref (a 6), .ref (a 7), .int 0, .ref (a 8), .ref (a 9), .ref (a 10), .ref (a 11), .ref (a 12), .ref (a 13)])), (o, .inl (kO, 1, .inr (.inl (fun _ => 0))))] U.heap ∧ va_K (dC, dI) vwCl [(kO, .long)] U ∧ va_D (fun _ => True) [(h0, .inr (11, [.ref (a 0), .ref (a 1), .ref (a 3), .ref (a 14), .int 0, .null, .null, .null, .null, .null, .null])), ((a 3), .inr (1, [.int 0, .int 0, .int 0, .int 0, .int 0, .int 0, .ref (a 4), .ref (a 5), .ref (a 6), .ref (a 7), .int 0, .ref (a 8), .ref (a 9), .ref (a 10), .ref (a 11), .ref (a 12), .ref (a 13)])), (o, .inl (kO, 1, .inr (.inl (fun _ => 0))))] ∧ vx_Zq Bundle.tN "UNASSIGNED_STACK" Bundle.steD (va_A [(h0, .inr (11, [.ref (a 0), .ref (a 1), .ref (a 3), .ref (a 14), .int 0, .null, .null, .null, .null, .null, .null])), ((a 3), .inr (1, [.int 0, .int 0, .int 0, .int 0, .int 0, .int 0, .ref (a 4), .ref (a 5), .ref (a 6), .ref (a 7), .int 0, .ref (a 8), .ref (a 9), .ref (a 10), .ref (a 11), .ref (a 12), .ref (a 13)])), (o, .inl (kO, 1, .inr (.inl (fun _ => 0))))] sz) U U.heap ∧ vx_Zq Bundle.tN "SUPPRESSED_SENTINEL" Bundle.listD (va_A [(h0, .inr (11, [.ref (a 0), .ref (a 1), .ref (a 3), .ref (a 14), .int 0, .null, .null, .null, .null, .null, .null])), ((a 3), .inr (1, [.int 0, .int 0, .int 0, .int 0, .int 0, .int 0, .ref (a 4), .ref (a 5), .ref (a 6), .ref (a 7), .int 0, .ref (a 8), .ref (a 9), .ref (a 10), .ref (a 11), .ref (a 12), .ref (a 13)])), (o, .inl (kO, 1, .inr (.inl (fun _ => 0))))] sz) U U.heap ∧ (∀ w ∈ ngX11_95, va_Nw w U))) (va_Qi (fun (r : Int32) (u : Nat → Int64) => r = 1) (fun (u : Nat → Int64) t => va_P (dC, dI) vwCl [(o, .inl (kO, 1, .inr (.inl u)))] t.heap ∧ va_K (dC, dI) vwCl [] t ∧ va_D (va_A [(h0, .inr (11, [.ref (a 0), .ref (a 1), .ref (a 3), .ref (a 14), .int 0, .null, .null, .null, .null, .null, .null])), ((a 3), .inr (1, [.int 0, .int 0, .int 0, .int 0, .int 0, .int 0, .ref (a 4), .ref (a 5), .ref (a 6), .ref (a 7), .int 0, .ref (a 8), .ref (a 9), .ref (a 10), .ref (a 11), .ref (a 12), .ref (a 13)])), (o, .inl (kO, 1, .inr (.inl (fun _ => 0))))] sz) [(o, .inl (kO, 1, .inr (.inl u)))]) (va_A [(h0, .inr (11, [.ref (a 0), .ref (a 1), .ref (a 3), .ref (a 14), .int 0, .null, .null, .null, .null, .null, .null])), ((a 3), .inr (1, [.int 0, .int 0, .int 0, .int 0, .int 0, .int 0, .ref (a 4), .ref (a 5), .ref (a 6), .ref (a 7), .int 0, .ref (a 8), .ref (a 9), .ref (a 10), .ref (a 11), .ref (a 12), .ref (a 13)])), (o, .inl (kO, 1, .inr (.inl (fun _ => 0))))] sz)) 1 6 (va_A [(h0, .inr (11, [.ref (a 0), .ref (a 1), .ref (a 3), .ref (a 14), .int 0, .null, .null, .null, .null, .null, .null])), ((a 3), .inr (1, [.int 0, .int 0, .int 0, .int 0, .int 0, .int 0, .ref (a 4), .ref (a 5), .ref (a 6), .ref (a 7), .int 0, .ref (a 8), .ref (a 9), .ref (a 10), .ref (a 11), .ref (a 12), .ref (a 13)])), (o, .inl (kO, 1, .inr (.inl (fun _ => 0))))] sz) := by
  refine ofWC (hh := [(0, 12, 15, 19)]) (cc := cL_goal) (maxL := 6) (ret := (some .int)) (by decide) rfl ?_
  intro p e s m args below meth c s₁ B hml hv
  obtain ⟨rfl, hsz, hP, hK, hD0, hU, hN, hngX11_95⟩ := hv
  have hx := B.exec
  have hb := B.bytes
  have hr := B.returns
  have hts := atoms_spec (ws := wsPL_goal) B.pre
  have hown : s.vm.findClass RL = some m.cls := findClass_of_methodNamed B.named
  have hlocks := B.notSynchronized
  have htb : c.exceptionTable.toList = tableOf [(0, 12, 15, 19)] := vx_table (x := yL_goal) B (hts _ List.mem_cons_self)
  subst hsz
  have hD := hD0.self (sz := s.heap.size)
  generalize hAe : va_A [(h0, .inr (11, [.ref (a 0), .ref (a 1), .ref (a 3), .ref (a 14), .int 0, .null, .null, .null, .null, .null, .null])), ((a 3), .inr (1, [.int 0, .int 0, .int 0, .int 0, .int 0, .int 0, .ref (a 4), .ref (a 5), .ref (a 6), .ref (a 7), .int 0, .ref (a 8), .ref (a 9), .ref (a 10), .ref (a 11), .ref (a 12), .ref (a 13)])), (o, .inl (kO, 1, .inr (.inl (fun _ => 0))))] s.heap.size = A at hD hU hN ⊢
  have hA : ∀ q : Nat, s.heap.size ≤ q → A q := fun q h => by rw [← hAe]; exact Or.inr h
  have hS : va_S A s.heap s.heap [] := va_S.rf
  have hP : va_P (dC, dI) vwCl [(h0, .inr (11, [.ref (a 0), .ref (a 1), .ref (a 3), .ref (a 14), .int 0, .null, .null, .null, .null, .null, .null])), ((a 3), .inr (1, [.int 0, .int 0, .int 0, .int 0, .int 0, .int 0, .ref (a 4), .ref (a 5), .ref (a 6), .ref (a 7), .int 0, .ref (a 8), .ref (a 9), .ref (a 10), .ref (a 11), .ref (a 12), .ref (a 13)])), (o, .inl (kO, 1, .inr (.inl (fun _ => 0))))] s.heap := hP
  have hl := lv_entry ([.ref h0, .int qg, .int qk, .int qu, .ref o]) (n := 6) (Nat.le_of_ble_eq_true rfl)
  rw [lg_entry_eq]
  generalize (lg_sl ([.ref h0, .int qg, .int qk, .int qu, .ref o]) ++ List.replicate (6 - (lg_sl ([.ref h0, .int qg, .int qk, .int qu, .ref o])).length) Slot.unset).toArray = ls at hl ⊢
  have hl : lv_has ls 6 [(0, .ref h0), (1, .int qg), (2, .int qk), (3, .int qu), (4, .ref o)] := hl
  refine lv_aload hx hb dL_goal_0 (lv_at hl 4 rfl) ?_
  refine lv_iconst (v := 0) hx hb dL_goal_2 (by decide) ?_
  refine lv_aload_n hx hb dL_goal_3 rfl (lv_at hl 0 rfl) ?_
  refine lv_iload_n hx hb dL_goal_4 rfl (lv_at hl 1 rfl) ?_
  refine lv_iload_n hx hb dL_goal_5 rfl (lv_at hl 2 rfl) ?_
  refine lv_iload_n hx hb dL_goal_6 rfl (lv_at hl 3 rfl) ?_
  have hPc := hP.sub (ws' := [(h0, .inr (11, [.ref (a 0), .ref (a 1), .ref (a 3), .ref (a 14), .int 0, .null, .null, .null, .null, .null, .null])), ((a 3), .inr (1, [.int 0, .int 0, .int 0, .int 0, .int 0, .int 0, .ref (a 4), .ref (a 5), .ref (a 6), .ref (a 7), .int 0, .ref (a 8), .ref (a 9), .ref (a 10), .ref (a 11), .ref (a 12), .ref (a 13)]))]) [0, 1] rfl
  have hDc := hD.sub (ws' := [(h0, .inr (11, [.ref (a 0), .ref (a 1), .ref (a 3), .ref (a 14), .int 0, .null, .null, .null, .null, .null, .null])), ((a 3), .inr (1, [.int 0, .int 0, .int 0, .int 0, .int 0, .int 0, .ref (a 4), .ref (a 5), .ref (a 6), .ref (a 7), .int 0, .ref (a 8), .ref (a 9), .ref (a 10), .ref (a 11), .ref (a 12), .ref (a 13)]))]) [0, 1] (by decide) rfl
  have hKc := hK.sub (tys' := []) [] rfl
  have hFc := va_free (wc := [(h0, .inr (11, [.ref (a 0), .ref (a 1), .ref (a 3), .ref (a 14), .int 0, .null, .null, .null, .null, .null, .null])), ((a 3), .inr (1, [.int 0, .int 0, .int 0, .int 0, .int 0, .int 0, .ref (a 4), .ref (a 5), .ref (a 6), .ref (a 7), .int 0, .ref (a 8), .ref (a 9), .ref (a 10), .ref (a 11), .ref (a 12), .ref (a 13)]))]) hD hS hA [0, 1] rfl
  refine vx_calli (vx_runV (As := [.int qg, .int qk, .int qu]) (rest := [.int 0, .ref o]) ⟨hx, hb, hml, hown, hts⟩ (p_X11_goal l hst dC dI h0 a qg qk qu s.heap.size) (cwV 3 hts gwsPL_goal_0 rfl rfl rfl (by decide +kernel) ⟨by decide +kernel, by decide +kernel⟩) ⟨fun a U g mk q => by obtain ⟨q0, q1, qP, qK, qD, qU, qN, qngX11_95⟩ := q; exact ⟨q0, q1, qP, va_K.moved (u := U) (U := U.calling g mk a) (Vm.Alike.refl U.vm) qK, qD, vx_Zq.moved (u := U) (U := U.calling g mk a) (Vm.Alike.refl U.vm) qU, vx_Zq.moved (u := U) (U := U.calling g mk a) (Vm.Alike.refl U.vm) qN, fun w h => va_Nw.same (u := U) (U := U.calling g mk a) (ngX11_95_ot w h) rfl (qngX11_95 w h)⟩, va_recv hKc hPc (ci := 11) (q0 := 0) rfl rfl, fun U hU9 hW => ⟨rfl, by rw [hU9], by rw [hU9]; exact hPc, va_K.moved hW.alike hKc, hDc.weaken (fun _ _ _ _ => trivial), by rw [hU9]; exact ((hU.kept (fun a h1 h2 => hS.2.1 a h1 h2)).narrow hFc).moved hW.alike, by rw [hU9]; exact ((hN.kept (fun a h1 h2 => hS.2.1 a h1 h2)).narrow hFc).moved hW.alike, fun w h => cd_warm (ngX11_95_cd w h) hW (hngX11_95 w h)⟩⟩ rfl rfl hl.1 rfl (lv_room (Nat.le_of_ble_eq_true rfl)) dL_goal_7 ⟨by decide +kernel, by decide +kernel⟩) hS (fun q _ h => hFc q h) hFc (fun q _ h => hFc q h) (fun E ce q9 u t H1 locs1 ht hvm hw hB hz1 hk1 hS hc1 hc2 hc3 => ?_) (fun r7 u t H1 locs ht hvm hw hB hz1 hk1 hS => ?_)
  · have hE : E = u := hB
    subst hE
    obtain ⟨hP, hD⟩ := va_join (wr := [(o, .inl (kO, 1, .inr (.inl (fun _ => 0))))]) (w1 := []) hP hD [0, 1] [2] rfl rfl (by decide) (by decide) hk1 hFc nilP nilD
    have hP : va_P (dC, dI) vwCl [(o, .inl (kO, 1, .inr (.inl (fun _ => 0))))] H1 := hP
    have hD : va_D A [(o, .inl (kO, 1, .inr (.inl (fun _ => 0))))] := hD
    refine vx_widen (k := 1) (n := 6) (by decide +kernel) (by decide +kernel) ?_
    obtain ⟨hu, hxc⟩ := hw
    subst hu
    refine vx_catch (own := RL) (name := "java/lang/IndexOutOfBoundsException") hown [] ⟨0, 12, 15, 19⟩ [] (by rw [htb]; rfl) (fun z hz => absurd hz List.not_mem_nil) (by decide) (by decide) (hts (.classLink RL 19 "java/lang/IndexOutOfBoundsException") (by decide +kernel)) (va_Nw.use rfl (hngX11_95 (.castable "java/lang/IndexOutOfBoundsException" "java/lang/IndexOutOfBoundsException") (by decide +kernel))) hc1 hc2 hc3 ?_
    generalize H1 = H at hP hS hc1 ⊢
    refine lv_astore (lv' := [(5, .ref q9), (0, .ref h0), (1, .int qg), (2, .int qk), (3, .int qu), (4, .ref o)]) hx hb dL_goal_15 hl (by decide) rfl (fun ls hl => ?_)
    refine lv_iconst (v := 1) hx hb dL_goal_17 (by decide) ?_
    refine W.widen (k := 1) (n := 6) (by decide +kernel) (by decide +kernel) ?_
    exact W.iret (v := 1) hx hb hr (fun t ht hW => ⟨⟨1, (fun _ => 0), rfl, by (first | rfl | assumption | trivial | omega | (simp []; done) | (simp; omega)), by rw [ht]; exact hP.sub [0] rfl, va_K.moved hW.alike (hK.sub [] rfl), hD.sub [0] (by decide) rfl⟩, hS.F ht⟩) hS.2.2 dL_goal_18
  exact False.elim hw
def wsPL_write : List Cond := .codeWith yL_write cL_write 3 (some .int) [(0, 8, 11, 32)] :: ([.classLink RL 32 "java/lang/IllegalStateException"] ++ (wsV RL 29 RX11 yX11_write wsPX11_write))
theorem gwsPL_write_0 : GoodIn wsPL_write (wsV RL 29 RX11 yX11_write wsPX11_write) := goodIn_sub (fun _ h => List.mem_cons_of_mem _ (List.mem_append_right _ h)) (by decide +kernel)
set_option maxHeartbeats 4000000 in
set_option maxRecDepth 100000 in
/-- the law's write, on a fresh object -/
theorem p_L_write (l : Launch) (hst : l.stackTraces = false) (dC : Nat → ClassId) (dI : Nat → Nat → Nat) (h0 : Nat) (a : Nat → Nat) (o : Nat) (kO : ClassId) (sz : Nat) : Met l yL_write wsPL_write ({ frames := 8, cells := 1, slots := 6, locals := 122 }) (va_Pc [.ref h0, .ref o] (fun U => U.heap.size = sz ∧ va_P (dC, dI) vwCl [(h0, .inr (11, [.ref (a 0), .ref (a 1), .ref (a 3), .ref (a 14), .int 0, .null, .null, .null, .null, .null, .null])), ((a 3), .inr (1, [.int 0, .int 0, .int 0, .int 0, .int 0, .int 0, .ref (a 4), .ref (a 5), .ref (a 6), .ref (a 7), .int 0, .ref (a 8), .ref (a 9), .ref (a 10), .ref (a 11), .ref (a 12), .ref (a 13)])), (o, .inl (kO, 1, .inr (.inl (fun _ => 0))))] U.heap ∧ va_K (dC, dI) vwCl [(kO, .long)] U ∧ va_D (fun _ => True) [(h0, .inr (11, [.ref (a 0), .ref (a 1), .ref (a 3), .ref (a 14), .int 0, .null, .null, .null, .null, .null, .null])), ((a 3), .inr (1, [.int 0, .int 0, .int 0, .int 0, .int 0, .int 0, .ref (a 4), .ref (a 5), .ref (a 6), .ref (a 7), .int 0, .ref (a 8), .ref (a 9), .ref (a 10), .ref (a 11), .ref (a 12), .ref (a 13)])), (o, .inl (kO, 1, .inr (.inl (fun _ => 0))))] ∧ vx_Zq Bundle.tN "UNASSIGNED_STACK" Bundle.steD (va_A [(h0, .inr (11, [.ref (a 0), .ref (a 1), .ref (a 3), .ref (a 14), .int 0, .null, .null, .null, .null, .null, .null])), ((a 3), .inr (1, [.int 0, .int 0, .int 0, .int 0, .int 0, .int 0, .ref (a 4), .ref (a 5), .ref (a 6), .ref (a 7), .int 0, .ref (a 8), .ref (a 9), .ref (a 10), .ref (a 11), .ref (a 12), .ref (a 13)])), (o, .inl (kO, 1, .inr (.inl (fun _ => 0))))] sz) U U.heap ∧ vx_Zq Bundle.tN "SUPPRESSED_SENTINEL" Bundle.listD (va_A [(h0, .inr (11, [.ref (a 0), .ref (a 1), .ref (a 3), .ref (a 14), .int 0, .null, .null, .null, .null, .null, .null])), ((a 3), .inr (1, [.int 0, .int 0, .int 0, .int 0, .int 0, .int 0, .ref (a 4), .ref (a 5), .ref (a 6), .ref (a 7), .int 0, .ref (a 8), .ref (a 9), .ref (a 10), .ref (a 11), .ref (a 12), .ref (a 13)])), (o, .inl (kO, 1, .inr (.inl (fun _ => 0))))] sz) U U.heap ∧ (∀ w ∈ ngX11_161, va_Nw w U))) (va_Qi (fun (r : Int32) (u : Nat → Int64) => r = 1) (fun (u : Nat → Int64) t => va_P (dC, dI) vwCl [(o, .inl (kO, 1, .inr (.inl u)))] t.heap ∧ va_K (dC, dI) vwCl [] t ∧ va_D (va_A [(h0, .inr (11, [.ref (a 0), .ref (a 1), .ref (a 3), .ref (a 14), .int 0, .null, .null, .null, .null, .null, .null])), ((a 3), .inr (1, [.int 0, .int 0, .int 0, .int 0, .int 0, .int 0, .ref (a 4), .ref (a 5), .ref (a 6), .ref (a 7), .int 0, .ref (a 8), .ref (a 9), .ref (a 10), .ref (a 11), .ref (a 12), .ref (a 13)])), (o, .inl (kO, 1, .inr (.inl (fun _ => 0))))] sz) [(o, .inl (kO, 1, .inr (.inl u)))]) (va_A [(h0, .inr (11, [.ref (a 0), .ref (a 1), .ref (a 3), .ref (a 14), .int 0, .null, .null, .null, .null, .null, .null])), ((a 3), .inr (1, [.int 0, .int 0, .int 0, .int 0, .int 0, .int 0, .ref (a 4), .ref (a 5), .ref (a 6), .ref (a 7), .int 0, .ref (a 8), .ref (a 9), .ref (a 10), .ref (a 11), .ref (a 12), .ref (a 13)])), (o, .inl (kO, 1, .inr (.inl (fun _ => 0))))] sz)) 1 6 (va_A [(h0, .inr (11, [.ref (a 0), .ref (a 1), .ref (a 3), .ref (a 14), .int 0, .null, .null, .null, .null, .null, .null])), ((a 3), .inr (1, [.int 0, .int 0, .int 0, .int 0, .int 0, .int 0, .ref (a 4), .ref (a 5), .ref (a 6), .ref (a 7), .int 0, .ref (a 8), .ref (a 9), .ref (a 10), .ref (a 11), .ref (a 12), .ref (a 13)])), (o, .inl (kO, 1, .inr (.inl (fun _ => 0))))] sz) := by
  refine ofWC (hh := [(0, 8, 11, 32)]) (cc := cL_write) (maxL := 3) (ret := (some .int)) (by decide) rfl ?_
  intro p e s m args below meth c s₁ B hml hv
  obtain ⟨rfl, hsz, hP, hK, hD0, hU, hN, hngX11_161⟩ := hv
  have hx := B.exec
  have hb := B.bytes
  have hr := B.returns
  have hts := atoms_spec (ws := wsPL_write) B.pre
  have hown : s.vm.findClass RL = some m.cls := findClass_of_methodNamed B.named
  have hlocks := B.notSynchronized
  have htb : c.exceptionTable.toList = tableOf [(0, 8, 11, 32)] := vx_table (x := yL_write) B (hts _ List.mem_cons_self)
  subst hsz
  have hD := hD0.self (sz := s.heap.size)
  generalize hAe : va_A [(h0, .inr (11, [.ref (a 0), .ref (a 1), .ref (a 3), .ref (a 14), .int 0, .null, .null, .null, .null, .null, .null])), ((a 3), .inr (1, [.int 0, .int 0, .int 0, .int 0, .int 0, .int 0, .ref (a 4), .ref (a 5), .ref (a 6), .ref (a 7), .int 0, .ref (a 8), .ref (a 9), .ref (a 10), .ref (a 11), .ref (a 12), .ref (a 13)])), (o, .inl (kO, 1, .inr (.inl (fun _ => 0))))] s.heap.size = A at hD hU hN ⊢
  have hA : ∀ q : Nat, s.heap.size ≤ q → A q := fun q h => by rw [← hAe]; exact Or.inr h
  have hS : va_S A s.heap s.heap [] := va_S.rf
  have hP : va_P (dC, dI) vwCl [(h0, .inr (11, [.ref (a 0), .ref (a 1), .ref (a 3), .ref (a 14), .int 0, .null, .null, .null, .null, .null, .null])), ((a 3), .inr (1, [.int 0, .int 0, .int 0, .int 0, .int 0, .int 0, .ref (a 4), .ref (a 5), .ref (a 6), .ref (a 7), .int 0, .ref (a 8), .ref (a 9), .ref (a 10), .ref (a 11), .ref (a 12), .ref (a 13)])), (o, .inl (kO, 1, .inr (.inl (fun _ => 0))))] s.heap := hP
  have hl := lv_entry ([.ref h0, .ref o]) (n := 3) (Nat.le_of_ble_eq_true rfl)
  rw [lg_entry_eq]
  generalize (lg_sl ([.ref h0, .ref o]) ++ List.replicate (3 - (lg_sl ([.ref h0, .ref o])).length) Slot.unset).toArray = ls at hl ⊢
  have hl : lv_has ls 3 [(0, .ref h0), (1, .ref o)] := hl
  refine lv_aload_n hx hb dL_write_0 rfl (lv_at hl 1 rfl) ?_
  refine lv_iconst (v := 0) hx hb dL_write_1 (by decide) ?_
  refine lv_aload_n hx hb dL_write_2 rfl (lv_at hl 0 rfl) ?_
  have hPc := hP.sub (ws' := [(h0, .inr (11, [.ref (a 0), .ref (a 1), .ref (a 3), .ref (a 14), .int 0, .null, .null, .null, .null, .null, .null])), ((a 3), .inr (1, [.int 0, .int 0, .int 0, .int 0, .int 0, .int 0, .ref (a 4), .ref (a 5), .ref (a 6), .ref (a 7), .int 0, .ref (a 8), .ref (a 9), .ref (a 10), .ref (a 11), .ref (a 12), .ref (a 13)]))]) [0, 1] rfl
  have hDc := hD.sub (ws' := [(h0, .inr (11, [.ref (a 0), .ref (a 1), .ref (a 3), .ref (a 14), .int 0, .null, .null, .null, .null, .null, .null])), ((a 3), .inr (1, [.int 0, .int 0, .int 0, .int 0, .int 0, .int 0, .ref (a 4), .ref (a 5), .ref (a 6), .ref (a 7), .int 0, .ref (a 8), .ref (a 9), .ref (a 10), .ref (a 11), .ref (a 12), .ref (a 13)]))]) [0, 1] (by decide) rfl
  have hKc := hK.sub (tys' := []) [] rfl
  have hFc := va_free (wc := [(h0, .inr (11, [.ref (a 0), .ref (a 1), .ref (a 3), .ref (a 14), .int 0, .null, .null, .null, .null, .null, .null])), ((a 3), .inr (1, [.int 0, .int 0, .int 0, .int 0, .int 0, .int 0, .ref (a 4), .ref (a 5), .ref (a 6), .ref (a 7), .int 0, .ref (a 8), .ref (a 9), .ref (a 10), .ref (a 11), .ref (a 12), .ref (a 13)]))]) hD hS hA [0, 1] rfl
  refine vx_calli (vx_runV (As := []) (rest := [.int 0, .ref o]) ⟨hx, hb, hml, hown, hts⟩ (p_X11_write l hst dC dI h0 a s.heap.size) (cwV 0 hts gwsPL_write_0 rfl rfl rfl (by decide +kernel) ⟨by decide +kernel, by decide +kernel⟩) ⟨fun a U g mk q => by obtain ⟨q0, q1, qP, qK, qD, qU, qN, qngX11_161⟩ := q; exact ⟨q0, q1, qP, va_K.moved (u := U) (U := U.calling g mk a) (Vm.Alike.refl U.vm) qK, qD, vx_Zq.moved (u := U) (U := U.calling g mk a) (Vm.Alike.refl U.vm) qU, vx_Zq.moved (u := U) (U := U.calling g mk a) (Vm.Alike.refl U.vm) qN, fun w h => va_Nw.same (u := U) (U := U.calling g mk a) (ngX11_161_ot w h) rfl (qngX11_161 w h)⟩, va_recv hKc hPc (ci := 11) (q0 := 0) rfl rfl, fun U hU9 hW => ⟨rfl, by rw [hU9], by rw [hU9]; exact hPc, va_K.moved hW.alike hKc, hDc.weaken (fun _ _ _ _ => trivial), by rw [hU9]; exact ((hU.kept (fun a h1 h2 => hS.2.1 a h1 h2)).narrow hFc).moved hW.alike, by rw [hU9]; exact ((hN.kept (fun a h1 h2 => hS.2.1 a h1 h2)).narrow hFc).moved hW.alike, fun w h => cd_warm (ngX11_161_cd w h) hW (hngX11_161 w h)⟩⟩ rfl rfl hl.1 rfl (lv_room (Nat.le_of_ble_eq_true rfl)) dL_write_3 ⟨by decide +kernel, by decide +kernel⟩) hS (fun q _ h => hFc q h) hFc (fun q _ h => hFc q h) (fun E ce q9 u t H1 locs1 ht hvm hw hB hz1 hk1 hS hc1 hc2 hc3 => ?_) (fun r3 u t H1 locs ht hvm hw hB hz1 hk1 hS => ?_)
  · have hE : E = u := hB
    subst hE
    obtain ⟨hP, hD⟩ := va_join (wr := [(o, .inl (kO, 1, .inr (.inl (fun _ => 0))))]) (w1 := []) hP hD [0, 1] [2] rfl rfl (by decide) (by decide) hk1 hFc nilP nilD
    have hP : va_P (dC, dI) vwCl [(o, .inl (kO, 1, .inr (.inl (fun _ => 0))))] H1 := hP
    have hD : va_D A [(o, .inl (kO, 1, .inr (.inl (fun _ => 0))))] := hD
    refine vx_widen (k := 1) (n := 6) (by decide +kernel) (by decide +kernel) ?_
    obtain ⟨hu, hxc⟩ := hw
    subst hu
    refine vx_catch (own := RL) (name := "java/lang/IllegalStateException") hown [] ⟨0, 8, 11, 32⟩ [] (by rw [htb]; rfl) (fun z hz => absurd hz List.not_mem_nil) (by decide) (by decide) (hts (.classLink RL 32 "java/lang/IllegalStateException") (by decide +kernel)) (va_Nw.use rfl (hngX11_161 (.castable "java/lang/IllegalStateException" "java/lang/IllegalStateException") (by decide +kernel))) hc1 hc2 hc3 ?_
    generalize H1 = H at hP hS hc1 ⊢
    refine lv_astore_n (lv' := [(2, .ref q9), (0, .ref h0), (1, .ref o)]) hx hb dL_write_11 rfl hl (by decide) rfl (fun ls hl => ?_)
    refine lv_iconst (v := 1) hx hb dL_write_12 (by decide) ?_
    refine W.widen (k := 1) (n := 6) (by decide +kernel) (by decide +kernel) ?_
    exact W.iret (v := 1) hx hb hr (fun t ht hW => ⟨⟨1, (fun _ => 0), rfl, by (first | rfl | assumption | trivial | omega | (simp []; done) | (simp; omega)), by rw [ht]; exact hP.sub [0] rfl, va_K.moved hW.alike (hK.sub [] rfl), hD.sub [0] (by decide) rfl⟩, hS.F ht⟩) hS.2.2 dL_write_13
  exact False.elim hw
def wsPL_solve : List Cond := .codeWith yL_solve cL_solve 4 (some .int) [(0, 16, 19, 32)] :: ([.classLink RL 32 "java/lang/IllegalStateException"] ++ (wsV RL 34 RX11 yX11_solve wsPX11_solve))
theorem gwsPL_solve_0 : GoodIn wsPL_solve (wsV RL 34 RX11 yX11_solve wsPX11_solve) := goodIn_sub (fun _ h => List.mem_cons_of_mem _ (List.mem_append_right _ h)) (by decide +kernel)
set_option maxHeartbeats 4000000 in
set_option maxRecDepth 100000 in
/-- the law's solve, on a fresh object -/
theorem p_L_solve (l : Launch) (hst : l.stackTraces = false) (dC : Nat → ClassId) (dI : Nat → Nat → Nat) (h0 : Nat) (a : Nat → Nat) (o : Nat) (kO : ClassId) (rx : Int32) (sz : Nat) : Met l yL_solve wsPL_solve ({ frames := 8, cells := 1, slots := 6, locals := 122 }) (va_Pc [.ref h0, .int rx, .ref o] (fun U => U.heap.size = sz ∧ va_P (dC, dI) vwCl [(h0, .inr (11, [.ref (a 0), .ref (a 1), .ref (a 3), .ref (a 14), .int 0, .null, .null, .null, .null, .null, .null])), ((a 3), .inr (1, [.int 0, .int 0, .int 0, .int 0, .int 0, .int 0, .ref (a 4), .ref (a 5), .ref (a 6), .ref (a 7), .int 0, .ref (a 8), .ref (a 9), .ref (a 10), .ref (a 11), .ref (a 12), .ref (a 13)])), (o, .inl (kO, 1, .inr (.inl (fun _ => 0))))] U.heap ∧ va_K (dC, dI) vwCl [(kO, .long)] U ∧ va_D (fun _ => True) [(h0, .inr (11, [.ref (a 0), .ref (a 1), .ref (a 3), .ref (a 14), .int 0, .null, .null, .null, .null, .null, .null])), ((a 3), .inr (1, [.int 0, .int 0, .int 0, .int 0, .int 0, .int 0, .ref (a 4), .ref (a 5), .ref (a 6), .ref (a 7), .int 0, .ref (a 8), .ref (a 9), .ref (a 10), .ref (a 11), .ref (a 12), .ref (a 13)])), (o, .inl (kO, 1, .inr (.inl (fun _ => 0))))] ∧ vx_Zq Bundle.tN "UNASSIGNED_STACK" Bundle.steD (va_A [(h0, .inr (11, [.ref (a 0), .ref (a 1), .ref (a 3), .ref (a 14), .int 0, .null, .null, .null, .null, .null, .null])), ((a 3), .inr (1, [.int 0, .int 0, .int 0, .int 0, .int 0, .int 0, .ref (a 4), .ref (a 5), .ref (a 6), .ref (a 7), .int 0, .ref (a 8), .ref (a 9), .ref (a 10), .ref (a 11), .ref (a 12), .ref (a 13)])), (o, .inl (kO, 1, .inr (.inl (fun _ => 0))))] sz) U U.heap ∧ vx_Zq Bundle.tN "SUPPRESSED_SENTINEL" Bundle.listD (va_A [(h0, .inr (11, [.ref (a 0), .ref (a 1), .ref (a 3), .ref (a 14), .int 0, .null, .null, .null, .null, .null, .null])), ((a 3), .inr (1, [.int 0, .int 0, .int 0, .int 0, .int 0, .int 0, .ref (a 4), .ref (a 5), .ref (a 6), .ref (a 7), .int 0, .ref (a 8), .ref (a 9), .ref (a 10), .ref (a 11), .ref (a 12), .ref (a 13)])), (o, .inl (kO, 1, .inr (.inl (fun _ => 0))))] sz) U U.heap ∧ (∀ w ∈ ngX11_161, va_Nw w U))) (va_Qi (fun (r : Int32) (u : Nat → Int64) => r = 1) (fun (u : Nat → Int64) t => va_P (dC, dI) vwCl [(o, .inl (kO, 1, .inr (.inl u)))] t.heap ∧ va_K (dC, dI) vwCl [] t ∧ va_D (va_A [(h0, .inr (11, [.ref (a 0), .ref (a 1), .ref (a 3), .ref (a 14), .int 0, .null, .null, .null, .null, .null, .null])), ((a 3), .inr (1, [.int 0, .int 0, .int 0, .int 0, .int 0, .int 0, .ref (a 4), .ref (a 5), .ref (a 6), .ref (a 7), .int 0, .ref (a 8), .ref (a 9), .ref (a 10), .ref (a 11), .ref (a 12), .ref (a 13)])), (o, .inl (kO, 1, .inr (.inl (fun _ => 0))))] sz) [(o, .inl (kO, 1, .inr (.inl u)))]) (va_A [(h0, .inr (11, [.ref (a 0), .ref (a 1), .ref (a 3), .ref (a 14), .int 0, .null, .null, .null, .null, .null, .null])), ((a 3), .inr (1, [.int 0, .int 0, .int 0, .int 0, .int 0, .int 0, .ref (a 4), .ref (a 5), .ref (a 6), .ref (a 7), .int 0, .ref (a 8), .ref (a 9), .ref (a 10), .ref (a 11), .ref (a 12), .ref (a 13)])), (o, .inl (kO, 1, .inr (.inl (fun _ => 0))))] sz)) 1 6 (va_A [(h0, .inr (11, [.ref (a 0), .ref (a 1), .ref (a 3), .ref (a 14), .int 0, .null, .null, .null, .null, .null, .null])), ((a 3), .inr (1, [.int 0, .int 0, .int 0, .int 0, .int 0, .int 0, .ref (a 4), .ref (a 5), .ref (a 6), .ref (a 7), .int 0, .ref (a 8), .ref (a 9), .ref (a 10), .ref (a 11), .ref (a 12), .ref (a 13)])), (o, .inl (kO, 1, .inr (.inl (fun _ => 0))))] sz) := by
  refine ofWC (hh := [(0, 16, 19, 32)]) (cc := cL_solve) (maxL := 4) (ret := (some .int)) (by decide) rfl ?_
  intro p e s m args below meth c s₁ B hml hv
  obtain ⟨rfl, hsz, hP, hK, hD0, hU, hN, hngX11_161⟩ := hv
  have hx := B.exec
  have hb := B.bytes
  have hr := B.returns
  have hts := atoms_spec (ws := wsPL_solve) B.pre
  have hown : s.vm.findClass RL = some m.cls := findClass_of_methodNamed B.named
  have hlocks := B.notSynchronized
  have htb : c.exceptionTable.toList = tableOf [(0, 16, 19, 32)] := vx_table (x := yL_solve) B (hts _ List.mem_cons_self)
  subst hsz
  have hD := hD0.self (sz := s.heap.size)
  generalize hAe : va_A [(h0, .inr (11, [.ref (a 0), .ref (a 1), .ref (a 3), .ref (a 14), .int 0, .null, .null, .null, .null, .null, .null])), ((a 3), .inr (1, [.int 0, .int 0, .int 0, .int 0, .int 0, .int 0, .ref (a 4), .ref (a 5), .ref (a 6), .ref (a 7), .int 0, .ref (a 8), .ref (a 9), .ref (a 10), .ref (a 11), .ref (a 12), .ref (a 13)])), (o, .inl (kO, 1, .inr (.inl (fun _ => 0))))] s.heap.size = A at hD hU hN ⊢
  have hA : ∀ q : Nat, s.heap.size ≤ q → A q := fun q h => by rw [← hAe]; exact Or.inr h
  have hS : va_S A s.heap s.heap [] := va_S.rf
  have hP : va_P (dC, dI) vwCl [(h0, .inr (11, [.ref (a 0), .ref (a 1), .ref (a 3), .ref (a 14), .int 0, .null, .null, .null, .null, .null, .null])), ((a 3), .inr (1, [.int 0, .int 0, .int 0, .int 0, .int 0, .int 0, .ref (a 4), .ref (a 5), .ref (a 6), .ref (a 7), .int 0, .ref (a 8), .ref (a 9), .ref (a 10), .ref (a 11), .ref (a 12), .ref (a 13)])), (o, .inl (kO, 1, .inr (.inl (fun _ => 0))))] s.heap := hP
  have hl := lv_entry ([.ref h0, .int rx, .ref o]) (n := 4) (Nat.le_of_ble_eq_true rfl)
  rw [lg_entry_eq]
  generalize (lg_sl ([.ref h0, .int rx, .ref o]) ++ List.replicate (4 - (lg_sl ([.ref h0, .int rx, .ref o])).length) Slot.unset).toArray = ls at hl ⊢
  have hl : lv_has ls 4 [(0, .ref h0), (1, .int rx), (2, .ref o)] := hl
  refine lv_aload_n hx hb dL_solve_0 rfl (lv_at hl 2 rfl) ?_
  refine lv_iconst (v := 0) hx hb dL_solve_1 (by decide) ?_
  refine lv_aload_n hx hb dL_solve_2 rfl (lv_at hl 0 rfl) ?_
  refine lv_iload_n hx hb dL_solve_3 rfl (lv_at hl 1 rfl) ?_
  have hPc := hP.sub (ws' := [(h0, .inr (11, [.ref (a 0), .ref (a 1), .ref (a 3), .ref (a 14), .int 0, .null, .null, .null, .null, .null, .null])), ((a 3), .inr (1, [.int 0, .int 0, .int 0, .int 0, .int 0, .int 0, .ref (a 4), .ref (a 5), .ref (a 6), .ref (a 7), .int 0, .ref (a 8), .ref (a 9), .ref (a 10), .ref (a 11), .ref (a 12), .ref (a 13)]))]) [0, 1] rfl
  have hDc := hD.sub (ws' := [(h0, .inr (11, [.ref (a 0), .ref (a 1), .ref (a 3), .ref (a 14), .int 0, .null, .null, .null, .null, .null, .null])), ((a 3), .inr (1, [.int 0, .int 0, .int 0, .int 0, .int 0, .int 0, .ref (a 4), .ref (a 5), .ref (a 6), .ref (a 7), .int 0, .ref (a 8), .ref (a 9), .ref (a 10), .ref (a 11), .ref (a 12), .ref (a 13)]))]) [0, 1] (by decide) rfl
  have hKc := hK.sub (tys' := []) [] rfl
  have hFc := va_free (wc := [(h0, .inr (11, [.ref (a 0), .ref (a 1), .ref (a 3), .ref (a 14), .int 0, .null, .null, .null, .null, .null, .null])), ((a 3), .inr (1, [.int 0, .int 0, .int 0, .int 0, .int 0, .int 0, .ref (a 4), .ref (a 5), .ref (a 6), .ref (a 7), .int 0, .ref (a 8), .ref (a 9), .ref (a 10), .ref (a 11), .ref (a 12), .ref (a 13)]))]) hD hS hA [0, 1] rfl
  refine vx_calli (vx_runV (As := [.int rx]) (rest := [.int 0, .ref o]) ⟨hx, hb, hml, hown, hts⟩ (p_X11_solve l hst dC dI h0 a rx s.heap.size) (cwV 1 hts gwsPL_solve_0 rfl rfl rfl (by decide +kernel) ⟨by decide +kernel, by decide +kernel⟩) ⟨fun a U g mk q => by obtain ⟨q0, q1, qP, qK, qD, qU, qN, qngX11_161⟩ := q; exact ⟨q0, q1, qP, va_K.moved (u := U) (U := U.calling g mk a) (Vm.Alike.refl U.vm) qK, qD, vx_Zq.moved (u := U) (U := U.calling g mk a) (Vm.Alike.refl U.vm) qU, vx_Zq.moved (u := U) (U := U.calling g mk a) (Vm.Alike.refl U.vm) qN, fun w h => va_Nw.same (u := U) (U := U.calling g mk a) (ngX11_161_ot w h) rfl (qngX11_161 w h)⟩, va_recv hKc hPc (ci := 11) (q0 := 0) rfl rfl, fun U hU9 hW => ⟨rfl, by rw [hU9], by rw [hU9]; exact hPc, va_K.moved hW.alike hKc, hDc.weaken (fun _ _ _ _ => trivial), by rw [hU9]; exact ((hU.kept (fun a h1 h2 => hS.2.1 a h1 h2)).narrow hFc).moved hW.alike, by rw [hU9]; exact ((hN.kept (fun a h1 h2 => hS.2.1 a h1 h2)).narrow hFc).moved hW.alike, fun w h => cd_warm (ngX11_161_cd w h) hW (hngX11_161 w h)⟩⟩ rfl rfl hl.1 rfl (lv_room (Nat.le_of_ble_eq_true rfl)) dL_solve_4 ⟨by decide +kernel, by decide +kernel⟩) hS (fun q _ h => hFc q h) hFc (fun q _ h => hFc q h) (fun E ce q9 u t H1 locs1 ht hvm hw hB hz1 hk1 hS hc1 hc2 hc3 => ?_) (fun r4 u t H1 locs ht hvm hw hB hz1 hk1 hS => ?_)
  · have hE : E = u := hB
    subst hE
    obtain ⟨hP, hD⟩ := va_join (wr := [(o, .inl (kO, 1, .inr (.inl (fun _ => 0))))]) (w1 := []) hP hD [0, 1] [2] rfl rfl (by decide) (by decide) hk1 hFc nilP nilD
    have hP : va_P (dC, dI) vwCl [(o, .inl (kO, 1, .inr (.inl (fun _ => 0))))] H1 := hP
    have hD : va_D A [(o, .inl (kO, 1, .inr (.inl (fun _ => 0))))] := hD
    refine vx_widen (k := 1) (n := 6) (by decide +kernel) (by decide +kernel) ?_
    obtain ⟨hu, hxc⟩ := hw
    subst hu
    refine vx_catch (own := RL) (name := "java/lang/IllegalStateException") hown [] ⟨0, 16, 19, 32⟩ [] (by rw [htb]; rfl) (fun z hz => absurd hz List.not_mem_nil) (by decide) (by decide) (hts (.classLink RL 32 "java/lang/IllegalStateException") (by decide +kernel)) (va_Nw.use rfl (hngX11_161 (.castable "java/lang/IllegalStateException" "java/lang/IllegalStateException") (by decide +kernel))) hc1 hc2 hc3 ?_
    generalize H1 = H at hP hS hc1 ⊢
    refine lv_astore_n (lv' := [(3, .ref q9), (0, .ref h0), (1, .int rx), (2, .ref o)]) hx hb dL_solve_19 rfl hl (by decide) rfl (fun ls hl => ?_)
    refine lv_iconst (v := 1) hx hb dL_solve_20 (by decide) ?_
    refine W.widen (k := 1) (n := 6) (by decide +kernel) (by decide +kernel) ?_
    exact W.iret (v := 1) hx hb hr (fun t ht hW => ⟨⟨1, (fun _ => 0), rfl, by (first | rfl | assumption | trivial | omega | (simp []; done) | (simp; omega)), by rw [ht]; exact hP.sub [0] rfl, va_K.moved hW.alike (hK.sub [] rfl), hD.sub [0] (by decide) rfl⟩, hS.F ht⟩) hS.2.2 dL_solve_21
  exact False.elim hw
def wsPL_value : List Cond := .codeWith yL_value cL_value 4 (some .int) [(0, 9, 12, 32), (0, 9, 15, 19)] :: ([.classLink RL 32 "java/lang/IllegalStateException"] ++ (wsV RL 38 RX11 yX11_value wsPX11_value))
theorem gwsPL_value_0 : GoodIn wsPL_value (wsV RL 38 RX11 yX11_value wsPX11_value) := goodIn_sub (fun _ h => List.mem_cons_of_mem _ (List.mem_append_right _ h)) (by decide +kernel)
set_option maxHeartbeats 4000000 in
set_option maxRecDepth 100000 in
/-- the law's value, on a fresh object -/
theorem p_L_value (l : Launch) (hst : l.stackTraces = false) (dC : Nat → ClassId) (dI : Nat → Nat → Nat) (h0 : Nat) (a : Nat → Nat) (o : Nat) (kO : ClassId) (qk : Int32) (sz : Nat) : Met l yL_value wsPL_value ({ frames := 8, cells := 1, slots := 6, locals := 124 }) (va_Pc [.ref h0, .int qk, .ref o] (fun U => U.heap.size = sz ∧ va_P (dC, dI) vwCl [(h0, .inr (11, [.ref (a 0), .ref (a 1), .ref (a 3), .ref (a 14), .int 0, .null, .null, .null, .null, .null, .null])), ((a 3), .inr (1, [.int 0, .int 0, .int 0, .int 0, .int 0, .int 0, .ref (a 4), .ref (a 5), .ref (a 6), .ref (a 7), .int 0, .ref (a 8), .ref (a 9), .ref (a 10), .ref (a 11), .ref (a 12), .ref (a 13)])), (o, .inl (kO, 1, .inr (.inl (fun _ => 0))))] U.heap ∧ va_K (dC, dI) vwCl [(kO, .long)] U ∧ va_D (fun _ => True) [(h0, .inr (11, [.ref (a 0), .ref (a 1), .ref (a 3), .ref (a 14), .int 0, .null, .null, .null, .null, .null, .null])), ((a 3), .inr (1, [.int 0, .int 0, .int 0, .int 0, .int 0, .int 0, .ref (a 4), .ref (a 5), .ref (a 6), .ref (a 7), .int 0, .ref (a 8), .ref (a 9), .ref (a 10), .ref (a 11), .ref (a 12), .ref (a 13)])), (o, .inl (kO, 1, .inr (.inl (fun _ => 0))))] ∧ vx_Zq Bundle.tN "UNASSIGNED_STACK" Bundle.steD (va_A [(h0, .inr (11, [.ref (a 0), .ref (a 1), .ref (a 3), .ref (a 14), .int 0, .null, .null, .null, .null, .null, .null])), ((a 3), .inr (1, [.int 0, .int 0, .int 0, .int 0, .int 0, .int 0, .ref (a 4), .ref (a 5), .ref (a 6), .ref (a 7), .int 0, .ref (a 8), .ref (a 9), .ref (a 10), .ref (a 11), .ref (a 12), .ref (a 13)])), (o, .inl (kO, 1, .inr (.inl (fun _ => 0))))] sz) U U.heap ∧ vx_Zq Bundle.tN "SUPPRESSED_SENTINEL" Bundle.listD (va_A [(h0, .inr (11, [.ref (a 0), .ref (a 1), .ref (a 3), .ref (a 14), .int 0, .null, .null, .null, .null, .null, .null])), ((a 3), .inr (1, [.int 0, .int 0, .int 0, .int 0, .int 0, .int 0, .ref (a 4), .ref (a 5), .ref (a 6), .ref (a 7), .int 0, .ref (a 8), .ref (a 9), .ref (a 10), .ref (a 11), .ref (a 12), .ref (a 13)])), (o, .inl (kO, 1, .inr (.inl (fun _ => 0))))] sz) U U.heap ∧ (∀ w ∈ ngX11_161, va_Nw w U))) (va_Qi (fun (r : Int32) (u : Nat → Int64) => r = 1) (fun (u : Nat → Int64) t => va_P (dC, dI) vwCl [(o, .inl (kO, 1, .inr (.inl u)))] t.heap ∧ va_K (dC, dI) vwCl [] t ∧ va_D (va_A [(h0, .inr (11, [.ref (a 0), .ref (a 1), .ref (a 3), .ref (a 14), .int 0, .null, .null, .null, .null, .null, .null])), ((a 3), .inr (1, [.int 0, .int 0, .int 0, .int 0, .int 0, .int 0, .ref (a 4), .ref (a 5), .ref (a 6), .ref (a 7), .int 0, .ref (a 8), .ref (a 9), .ref (a 10), .ref (a 11), .ref (a 12), .ref (a 13)])), (o, .inl (kO, 1, .inr (.inl (fun _ => 0))))] sz) [(o, .inl (kO, 1, .inr (.inl u)))]) (va_A [(h0, .inr (11, [.ref (a 0), .ref (a 1), .ref (a 3), .ref (a 14), .int 0, .null, .null, .null, .null, .null, .null])), ((a 3), .inr (1, [.int 0, .int 0, .int 0, .int 0, .int 0, .int 0, .ref (a 4), .ref (a 5), .ref (a 6), .ref (a 7), .int 0, .ref (a 8), .ref (a 9), .ref (a 10), .ref (a 11), .ref (a 12), .ref (a 13)])), (o, .inl (kO, 1, .inr (.inl (fun _ => 0))))] sz)) 1 6 (va_A [(h0, .inr (11, [.ref (a 0), .ref (a 1), .ref (a 3), .ref (a 14), .int 0, .null, .null, .null, .null, .null, .null])), ((a 3), .inr (1, [.int 0, .int 0, .int 0, .int 0, .int 0, .int 0, .ref (a 4), .ref (a 5), .ref (a 6), .ref (a 7), .int 0, .ref (a 8), .ref (a 9), .ref (a 10), .ref (a 11), .ref (a 12), .ref (a 13)])), (o, .inl (kO, 1, .inr (.inl (fun _ => 0))))] sz) := by
  refine ofWC (hh := [(0, 9, 12, 32), (0, 9, 15, 19)]) (cc := cL_value) (maxL := 4) (ret := (some .int)) (by decide) rfl ?_
  intro p e s m args below meth c s₁ B hml hv
  obtain ⟨rfl, hsz, hP, hK, hD0, hU, hN, hngX11_161⟩ := hv
  have hx := B.exec
  have hb := B.bytes
  have hr := B.returns
  have hts := atoms_spec (ws := wsPL_value) B.pre
  have hown : s.vm.findClass RL = some m.cls := findClass_of_methodNamed B.named
  have hlocks := B.notSynchronized
  have htb : c.exceptionTable.toList = tableOf [(0, 9, 12, 32), (0, 9, 15, 19)] := vx_table (x := yL_value) B (hts _ List.mem_cons_self)
  subst hsz
  have hD := hD0.self (sz := s.heap.size)
  generalize hAe : va_A [(h0, .inr (11, [.ref (a 0), .ref (a 1), .ref (a 3), .ref (a 14), .int 0, .null, .null, .null, .null, .null, .null])), ((a 3), .inr (1, [.int 0, .int 0, .int 0, .int 0, .int 0, .int 0, .ref (a 4), .ref (a 5), .ref (a 6), .ref (a 7), .int 0, .ref (a 8), .ref (a 9), .ref (a 10), .ref (a 11), .ref (a 12), .ref (a 13)])), (o, .inl (kO, 1, .inr (.inl (fun _ => 0))))] s.heap.size = A at hD hU hN ⊢
  have hA : ∀ q : Nat, s.heap.size ≤ q → A q := fun q h => by rw [← hAe]; exact Or.inr h
  have hS : va_S A s.heap s.heap [] := va_S.rf
  have hP : va_P (dC, dI) vwCl [(h0, .inr (11, [.ref (a 0), .ref (a 1), .ref (a 3), .ref (a 14), .int 0, .null, .null, .null, .null, .null, .null])), ((a 3), .inr (1, [.int 0, .int 0, .int 0, .int 0, .int 0, .int 0, .ref (a 4), .ref (a 5), .ref (a 6), .ref (a 7), .int 0, .ref (a 8), .ref (a 9), .ref (a 10), .ref (a 11), .ref (a 12), .ref (a 13)])), (o, .inl (kO, 1, .inr (.inl (fun _ => 0))))] s.heap := hP
  have hl := lv_entry ([.ref h0, .int qk, .ref o]) (n := 4) (Nat.le_of_ble_eq_true rfl)
  rw [lg_entry_eq]
  generalize (lg_sl ([.ref h0, .int qk, .ref o]) ++ List.replicate (4 - (lg_sl ([.ref h0, .int qk, .ref o])).length) Slot.unset).toArray = ls at hl ⊢
  have hl : lv_has ls 4 [(0, .ref h0), (1, .int qk), (2, .ref o)] := hl
  refine lv_aload_n hx hb dL_value_0 rfl (lv_at hl 2 rfl) ?_
  refine lv_iconst (v := 0) hx hb dL_value_1 (by decide) ?_
  refine lv_aload_n hx hb dL_value_2 rfl (lv_at hl 0 rfl) ?_
  refine lv_iload_n hx hb dL_value_3 rfl (lv_at hl 1 rfl) ?_
  have hPc := hP.sub (ws' := [(h0, .inr (11, [.ref (a 0), .ref (a 1), .ref (a 3), .ref (a 14), .int 0, .null, .null, .null, .null, .null, .null])), ((a 3), .inr (1, [.int 0, .int 0, .int 0, .int 0, .int 0, .int 0, .ref (a 4), .ref (a 5), .ref (a 6), .ref (a 7), .int 0, .ref (a 8), .ref (a 9), .ref (a 10), .ref (a 11), .ref (a 12), .ref (a 13)]))]) [0, 1] rfl
  have hDc := hD.sub (ws' := [(h0, .inr (11, [.ref (a 0), .ref (a 1), .ref (a 3), .ref (a 14), .int 0, .null, .null, .null, .null, .null, .null])), ((a 3), .inr (1, [.int 0, .int 0, .int 0, .int 0, .int 0, .int 0, .ref (a 4), .ref (a 5), .ref (a 6), .ref (a 7), .int 0, .ref (a 8), .ref (a 9), .ref (a 10), .ref (a 11), .ref (a 12), .ref (a 13)]))]) [0, 1] (by decide) rfl
  have hKc := hK.sub (tys' := []) [] rfl
  have hFc := va_free (wc := [(h0, .inr (11, [.ref (a 0), .ref (a 1), .ref (a 3), .ref (a 14), .int 0, .null, .null, .null, .null, .null, .null])), ((a 3), .inr (1, [.int 0, .int 0, .int 0, .int 0, .int 0, .int 0, .ref (a 4), .ref (a 5), .ref (a 6), .ref (a 7), .int 0, .ref (a 8), .ref (a 9), .ref (a 10), .ref (a 11), .ref (a 12), .ref (a 13)]))]) hD hS hA [0, 1] rfl
  refine vx_calli (vx_runV (As := [.int qk]) (rest := [.int 0, .ref o]) ⟨hx, hb, hml, hown, hts⟩ (p_X11_value l hst dC dI h0 a qk s.heap.size) (cwV 1 hts gwsPL_value_0 rfl rfl rfl (by decide +kernel) ⟨by decide +kernel, by decide +kernel⟩) ⟨fun a U g mk q => by obtain ⟨q0, q1, qP, qK, qD, qU, qN, qngX11_161⟩ := q; exact ⟨q0, q1, qP, va_K.moved (u := U) (U := U.calling g mk a) (Vm.Alike.refl U.vm) qK, qD, vx_Zq.moved (u := U) (U := U.calling g mk a) (Vm.Alike.refl U.vm) qU, vx_Zq.moved (u := U) (U := U.calling g mk a) (Vm.Alike.refl U.vm) qN, fun w h => va_Nw.same (u := U) (U := U.calling g mk a) (ngX11_161_ot w h) rfl (qngX11_161 w h)⟩, va_recv hKc hPc (ci := 11) (q0 := 0) rfl rfl, fun U hU9 hW => ⟨rfl, by rw [hU9], by rw [hU9]; exact hPc, va_K.moved hW.alike hKc, hDc.weaken (fun _ _ _ _ => trivial), by rw [hU9]; exact ((hU.kept (fun a h1 h2 => hS.2.1 a h1 h2)).narrow hFc).moved hW.alike, by rw [hU9]; exact ((hN.kept (fun a h1 h2 => hS.2.1 a h1 h2)).narrow hFc).moved hW.alike, fun w h => cd_warm (ngX11_161_cd w h) hW (hngX11_161 w h)⟩⟩ rfl rfl hl.1 rfl (lv_room (Nat.le_of_ble_eq_true rfl)) dL_value_4 ⟨by decide +kernel, by decide +kernel⟩) hS (fun q _ h => hFc q h) hFc (fun q _ h => hFc q h) (fun E ce q9 u t H1 locs1 ht hvm hw hB hz1 hk1 hS hc1 hc2 hc3 => ?_) (fun r4 u t H1 locs ht hvm hw hB hz1 hk1 hS => ?_)
  · have hE : E = u := hB
    subst hE
    obtain ⟨hP, hD⟩ := va_join (wr := [(o, .inl (kO, 1, .inr (.inl (fun _ => 0))))]) (w1 := []) hP hD [0, 1] [2] rfl rfl (by decide) (by decide) hk1 hFc nilP nilD
    have hP : va_P (dC, dI) vwCl [(o, .inl (kO, 1, .inr (.inl (fun _ => 0))))] H1 := hP
    have hD : va_D A [(o, .inl (kO, 1, .inr (.inl (fun _ => 0))))] := hD
    refine vx_widen (k := 1) (n := 6) (by decide +kernel) (by decide +kernel) ?_
    obtain ⟨hu, hxc⟩ := hw
    subst hu
    refine vx_catch (own := RL) (name := "java/lang/IllegalStateException") hown [] ⟨0, 9, 12, 32⟩ [⟨0, 9, 15, 19⟩] (by rw [htb]; rfl) (fun z hz => absurd hz List.not_mem_nil) (by decide) (by decide) (hts (.classLink RL 32 "java/lang/IllegalStateException") (by decide +kernel)) (va_Nw.use rfl (hngX11_161 (.castable "java/lang/IllegalStateException" "java/lang/IllegalStateException") (by decide +kernel))) hc1 hc2 hc3 ?_
    generalize H1 = H at hP hS hc1 ⊢
    refine lv_astore_n (lv' := [(3, .ref q9), (0, .ref h0), (1, .int qk), (2, .ref o)]) hx hb dL_value_12 rfl hl (by decide) rfl (fun ls hl => ?_)
    refine lv_iconst (v := 1) hx hb dL_value_13 (by decide) ?_
    refine W.widen (k := 1) (n := 6) (by decide +kernel) (by decide +kernel) ?_
    exact W.iret (v := 1) hx hb hr (fun t ht hW => ⟨⟨1, (fun _ => 0), rfl, by (first | rfl | assumption | trivial | omega | (simp []; done) | (simp; omega)), by rw [ht]; exact hP.sub [0] rfl, va_K.moved hW.alike (hK.sub [] rfl), hD.sub [0] (by decide) rfl⟩, hS.F ht⟩) hS.2.2 dL_value_14
  exact False.elim hw
def wsPL_best : List Cond := .codeWith yL_best cL_best 4 (some .int) [(0, 9, 12, 32), (0, 9, 15, 19)] :: ([.classLink RL 32 "java/lang/IllegalStateException"] ++ (wsV RL 42 RX11 yX11_best wsPX11_best))
theorem gwsPL_best_0 : GoodIn wsPL_best (wsV RL 42 RX11 yX11_best wsPX11_best) := goodIn_sub (fun _ h => List.mem_cons_of_mem _ (List.mem_append_right _ h)) (by decide +kernel)
set_option maxHeartbeats 4000000 in
set_option maxRecDepth 100000 in
/-- the law's best, on a fresh object -/
theorem p_L_best (l : Launch) (hst : l.stackTraces = false) (dC : Nat → ClassId) (dI : Nat → Nat → Nat) (h0 : Nat) (a : Nat → Nat) (o : Nat) (kO : ClassId) (qk : Int32) (sz : Nat) : Met l yL_best wsPL_best ({ frames := 8, cells := 1, slots := 6, locals := 124 }) (va_Pc [.ref h0, .int qk, .ref o] (fun U => U.heap.size = sz ∧ va_P (dC, dI) vwCl [(h0, .inr (11, [.ref (a 0), .ref (a 1), .ref (a 3), .ref (a 14), .int 0, .null, .null, .null, .null, .null, .null])), ((a 3), .inr (1, [.int 0, .int 0, .int 0, .int 0, .int 0, .int 0, .ref (a 4), .ref (a 5), .ref (a 6), .ref (a 7), .int 0, .ref (a 8), .ref (a 9), .ref (a 10), .ref (a 11), .ref (a 12), .ref (a 13)])), (o, .inl (kO, 1, .inr (.inl (fun _ => 0))))] U.heap ∧ va_K (dC, dI) vwCl [(kO, .long)] U ∧ va_D (fun _ => True) [(h0, .inr (11, [.ref (a 0), .ref (a 1), .ref (a 3), .ref (a 14), .int 0, .null, .null, .null, .null, .null, .null])), ((a 3), .inr (1, [.int 0, .int 0, .int 0, .int 0, .int 0, .int 0, .ref (a 4), .ref (a 5), .ref (a 6), .ref (a 7), .int 0, .ref (a 8), .ref (a 9), .ref (a 10), .ref (a 11), .ref (a 12), .ref (a 13)])), (o, .inl (kO, 1, .inr (.inl (fun _ => 0))))] ∧ vx_Zq Bundle.tN "UNASSIGNED_STACK" Bundle.steD (va_A [(h0, .inr (11, [.ref (a 0), .ref (a 1), .ref (a 3), .ref (a 14), .int 0, .null, .null, .null, .null, .null, .null])), ((a 3), .inr (1, [.int 0, .int 0, .int 0, .int 0, .int 0, .int 0, .ref (a 4), .ref (a 5), .ref (a 6), .ref (a 7), .int 0, .ref (a 8), .ref (a 9), .ref (a 10), .ref (a 11), .ref (a 12), .ref (a 13)])), (o, .inl (kO, 1, .inr (.inl (fun _ => 0))))] sz) U U.heap ∧ vx_Zq Bundle.tN "SUPPRESSED_SENTINEL" Bundle.listD (va_A [(h0, .inr (11, [.ref (a 0), .ref (a 1), .ref (a 3), .ref (a 14), .int 0, .null, .null, .null, .null, .null, .null])), ((a 3), .inr (1, [.int 0, .int 0, .int 0, .int 0, .int 0, .int 0, .ref (a 4), .ref (a 5), .ref (a 6), .ref (a 7), .int 0, .ref (a 8), .ref (a 9), .ref (a 10), .ref (a 11), .ref (a 12), .ref (a 13)])), (o, .inl (kO, 1, .inr (.inl (fun _ => 0))))] sz) U U.heap ∧ (∀ w ∈ ngX11_161, va_Nw w U))) (va_Qi (fun (r : Int32) (u : Nat → Int64) => r = 1) (fun (u : Nat → Int64) t => va_P (dC, dI) vwCl [(o, .inl (kO, 1, .inr (.inl u)))] t.heap ∧ va_K (dC, dI) vwCl [] t ∧ va_D (va_A [(h0, .inr (11, [.ref (a 0), .ref (a 1), .ref (a 3), .ref (a 14), .int 0, .null, .null, .null, .null, .null, .null])), ((a 3), .inr (1, [.int 0, .int 0, .int 0, .int 0, .int 0, .int 0, .ref (a 4), .ref (a 5), .ref (a 6), .ref (a 7), .int 0, .ref (a 8), .ref (a 9), .ref (a 10), .ref (a 11), .ref (a 12), .ref (a 13)])), (o, .inl (kO, 1, .inr (.inl (fun _ => 0))))] sz) [(o, .inl (kO, 1, .inr (.inl u)))]) (va_A [(h0, .inr (11, [.ref (a 0), .ref (a 1), .ref (a 3), .ref (a 14), .int 0, .null, .null, .null, .null, .null, .null])), ((a 3), .inr (1, [.int 0, .int 0, .int 0, .int 0, .int 0, .int 0, .ref (a 4), .ref (a 5), .ref (a 6), .ref (a 7), .int 0, .ref (a 8), .ref (a 9), .ref (a 10), .ref (a 11), .ref (a 12), .ref (a 13)])), (o, .inl (kO, 1, .inr (.inl (fun _ => 0))))] sz)) 1 6 (va_A [(h0, .inr (11, [.ref (a 0), .ref (a 1), .ref (a 3), .ref (a 14), .int 0, .null, .null, .null, .null, .null, .null])), ((a 3), .inr (1, [.int 0, .int 0, .int 0, .int 0, .int 0, .int 0, .ref (a 4), .ref (a 5), .ref (a 6), .ref (a 7), .int 0, .ref (a 8), .ref (a 9), .ref (a 10), .ref (a 11), .ref (a 12), .ref (a 13)])), (o, .inl (kO, 1, .inr (.inl (fun _ => 0))))] sz) := by
  refine ofWC (hh := [(0, 9, 12, 32), (0, 9, 15, 19)]) (cc := cL_best) (maxL := 4) (ret := (some .int)) (by decide) rfl ?_
  intro p e s m args below meth c s₁ B hml hv
  obtain ⟨rfl, hsz, hP, hK, hD0, hU, hN, hngX11_161⟩ := hv
  have hx := B.exec
  have hb := B.bytes
  have hr := B.returns
  have hts := atoms_spec (ws := wsPL_best) B.pre
  have hown : s.vm.findClass RL = some m.cls := findClass_of_methodNamed B.named
  have hlocks := B.notSynchronized
  have htb : c.exceptionTable.toList = tableOf [(0, 9, 12, 32), (0, 9, 15, 19)] := vx_table (x := yL_best) B (hts _ List.mem_cons_self)
  subst hsz
  have hD := hD0.self (sz := s.heap.size)
  generalize hAe : va_A [(h0, .inr (11, [.ref (a 0), .ref (a 1), .ref (a 3), .ref (a 14), .int 0, .null, .null, .null, .null, .null, .null])), ((a 3), .inr (1, [.int 0, .int 0, .int 0, .int 0, .int 0, .int 0, .ref (a 4), .ref (a 5), .ref (a 6), .ref (a 7), .int 0, .ref (a 8), .ref (a 9), .ref (a 10), .ref (a 11), .ref (a 12), .ref (a 13)])), (o, .inl (kO, 1, .inr (.inl (fun _ => 0))))] s.heap.size = A at hD hU hN ⊢
  have hA : ∀ q : Nat, s.heap.size ≤ q → A q := fun q h => by rw [← hAe]; exact Or.inr h
  have hS : va_S A s.heap s.heap [] := va_S.rf
  have hP : va_P (dC, dI) vwCl [(h0, .inr (11, [.ref (a 0), .ref (a 1), .ref (a 3), .ref (a 14), .int 0, .null, .null, .null, .null, .null, .null])), ((a 3), .inr (1, [.int 0, .int 0, .int 0, .int 0, .int 0, .int 0, .ref (a 4), .ref (a 5), .ref (a 6), .ref (a 7), .int 0, .ref (a 8), .ref (a 9), .ref (a 10), .ref (a 11), .ref (a 12), .ref (a 13)])), (o, .inl (kO, 1, .inr (.inl (fun _ => 0))))] s.heap := hP
  have hl := lv_entry ([.ref h0, .int qk, .ref o]) (n := 4) (Nat.le_of_ble_eq_true rfl)
  rw [lg_entry_eq]
  generalize (lg_sl ([.ref h0, .int qk, .ref o]) ++ List.replicate (4 - (lg_sl ([.ref h0, .int qk, .ref o])).length) Slot.unset).toArray = ls at hl ⊢
  have hl : lv_has ls 4 [(0, .ref h0), (1, .int qk), (2, .ref o)] := hl
  refine lv_aload_n hx hb dL_best_0 rfl (lv_at hl 2 rfl) ?_
  refine lv_iconst (v := 0) hx hb dL_best_1 (by decide) ?_
  refine lv_aload_n hx hb dL_best_2 rfl (lv_at hl 0 rfl) ?_
  refine lv_iload_n hx hb dL_best_3 rfl (lv_at hl 1 rfl) ?_
  have hPc := hP.sub (ws' := [(h0, .inr (11, [.ref (a 0), .ref (a 1), .ref (a 3), .ref (a 14), .int 0, .null, .null, .null, .null, .null, .null])), ((a 3), .inr (1, [.int 0, .int 0, .int 0, .int 0, .int 0, .int 0, .ref (a 4), .ref (a 5), .ref (a 6), .ref (a 7), .int 0, .ref (a 8), .ref (a 9), .ref (a 10), .ref (a 11), .ref (a 12), .ref (a 13)]))]) [0, 1] rfl
  have hDc := hD.sub (ws' := [(h0, .inr (11, [.ref (a 0), .ref (a 1), .ref (a 3), .ref (a 14), .int 0, .null, .null, .null, .null, .null, .null])), ((a 3), .inr (1, [.int 0, .int 0, .int 0, .int 0, .int 0, .int 0, .ref (a 4), .ref (a 5), .ref (a 6), .ref (a 7), .int 0, .ref (a 8), .ref (a 9), .ref (a 10), .ref (a 11), .ref (a 12), .ref (a 13)]))]) [0, 1] (by decide) rfl
  have hKc := hK.sub (tys' := []) [] rfl
  have hFc := va_free (wc := [(h0, .inr (11, [.ref (a 0), .ref (a 1), .ref (a 3), .ref (a 14), .int 0, .null, .null, .null, .null, .null, .null])), ((a 3), .inr (1, [.int 0, .int 0, .int 0, .int 0, .int 0, .int 0, .ref (a 4), .ref (a 5), .ref (a 6), .ref (a 7), .int 0, .ref (a 8), .ref (a 9), .ref (a 10), .ref (a 11), .ref (a 12), .ref (a 13)]))]) hD hS hA [0, 1] rfl
  refine vx_calli (vx_runV (As := [.int qk]) (rest := [.int 0, .ref o]) ⟨hx, hb, hml, hown, hts⟩ (p_X11_best l hst dC dI h0 a qk s.heap.size) (cwV 1 hts gwsPL_best_0 rfl rfl rfl (by decide +kernel) ⟨by decide +kernel, by decide +kernel⟩) ⟨fun a U g mk q => by obtain ⟨q0, q1, qP, qK, qD, qU, qN, qngX11_161⟩ := q; exact ⟨q0, q1, qP, va_K.moved (u := U) (U := U.calling g mk a) (Vm.Alike.refl U.vm) qK, qD, vx_Zq.moved (u := U) (U := U.calling g mk a) (Vm.Alike.refl U.vm) qU, vx_Zq.moved (u := U) (U := U.calling g mk a) (Vm.Alike.refl U.vm) qN, fun w h => va_Nw.same (u := U) (U := U.calling g mk a) (ngX11_161_ot w h) rfl (qngX11_161 w h)⟩, va_recv hKc hPc (ci := 11) (q0 := 0) rfl rfl, fun U hU9 hW => ⟨rfl, by rw [hU9], by rw [hU9]; exact hPc, va_K.moved hW.alike hKc, hDc.weaken (fun _ _ _ _ => trivial), by rw [hU9]; exact ((hU.kept (fun a h1 h2 => hS.2.1 a h1 h2)).narrow hFc).moved hW.alike, by rw [hU9]; exact ((hN.kept (fun a h1 h2 => hS.2.1 a h1 h2)).narrow hFc).moved hW.alike, fun w h => cd_warm (ngX11_161_cd w h) hW (hngX11_161 w h)⟩⟩ rfl rfl hl.1 rfl (lv_room (Nat.le_of_ble_eq_true rfl)) dL_best_4 ⟨by decide +kernel, by decide +kernel⟩) hS (fun q _ h => hFc q h) hFc (fun q _ h => hFc q h) (fun E ce q9 u t H1 locs1 ht hvm hw hB hz1 hk1 hS hc1 hc2 hc3 => ?_) (fun r4 u t H1 locs ht hvm hw hB hz1 hk1 hS => ?_)
  · have hE : E = u := hB
    subst hE
    obtain ⟨hP, hD⟩ := va_join (wr := [(o, .inl (kO, 1, .inr (.inl (fun _ => 0))))]) (w1 := []) hP hD [0, 1] [2] rfl rfl (by decide) (by decide) hk1 hFc nilP nilD
    have hP : va_P (dC, dI) vwCl [(o, .inl (kO, 1, .inr (.inl (fun _ => 0))))] H1 := hP
    have hD : va_D A [(o, .inl (kO, 1, .inr (.inl (fun _ => 0))))] := hD
    refine vx_widen (k := 1) (n := 6) (by decide +kernel) (by decide +kernel) ?_
    obtain ⟨hu, hxc⟩ := hw
    subst hu
    refine vx_catch (own := RL) (name := "java/lang/IllegalStateException") hown [] ⟨0, 9, 12, 32⟩ [⟨0, 9, 15, 19⟩] (by rw [htb]; rfl) (fun z hz => absurd hz List.not_mem_nil) (by decide) (by decide) (hts (.classLink RL 32 "java/lang/IllegalStateException") (by decide +kernel)) (va_Nw.use rfl (hngX11_161 (.castable "java/lang/IllegalStateException" "java/lang/IllegalStateException") (by decide +kernel))) hc1 hc2 hc3 ?_
    generalize H1 = H at hP hS hc1 ⊢
    refine lv_astore_n (lv' := [(3, .ref q9), (0, .ref h0), (1, .int qk), (2, .ref o)]) hx hb dL_best_12 rfl hl (by decide) rfl (fun ls hl => ?_)
    refine lv_iconst (v := 1) hx hb dL_best_13 (by decide) ?_
    refine W.widen (k := 1) (n := 6) (by decide +kernel) (by decide +kernel) ?_
    exact W.iret (v := 1) hx hb hr (fun t ht hW => ⟨⟨1, (fun _ => 0), rfl, by (first | rfl | assumption | trivial | omega | (simp []; done) | (simp; omega)), by rw [ht]; exact hP.sub [0] rfl, va_K.moved hW.alike (hK.sub [] rfl), hD.sub [0] (by decide) rfl⟩, hS.F ht⟩) hS.2.2 dL_best_14
  exact False.elim hw
def wsPL_way : List Cond := .codeWith yL_way cL_way 4 (some .int) [(0, 9, 12, 32), (0, 9, 15, 19)] :: ([.classLink RL 32 "java/lang/IllegalStateException"] ++ (wsV RL 45 RX11 yX11_way wsPX11_way))
theorem gwsPL_way_0 : GoodIn wsPL_way (wsV RL 45 RX11 yX11_way wsPX11_way) := goodIn_sub (fun _ h => List.mem_cons_of_mem _ (List.mem_append_right _ h)) (by decide +kernel)
set_option maxHeartbeats 4000000 in
set_option maxRecDepth 100000 in
/-- the law's way, on a fresh object -/
theorem p_L_way (l : Launch) (hst : l.stackTraces = false) (dC : Nat → ClassId) (dI : Nat → Nat → Nat) (h0 : Nat) (a : Nat → Nat) (o : Nat) (kO : ClassId) (qk : Int32) (sz : Nat) : Met l yL_way wsPL_way ({ frames := 8, cells := 1, slots := 6, locals := 124 }) (va_Pc [.ref h0, .int qk, .ref o] (fun U => U.heap.size = sz ∧ va_P (dC, dI) vwCl [(h0, .inr (11, [.ref (a 0), .ref (a 1), .ref (a 3), .ref (a 14), .int 0, .null, .null, .null, .null, .null, .null])), ((a 3), .inr (1, [.int 0, .int 0, .int 0, .int 0, .int 0, .int 0, .ref (a 4), .ref (a 5), .ref (a 6), .ref (a 7), .int 0, .ref (a 8), .ref (a 9), .ref (a 10), .ref (a 11), .ref (a 12), .ref (a 13)])), (o, .inl (kO, 1, .inr (.inl (fun _ => 0))))] U.heap ∧ va_K (dC, dI) vwCl [(kO, .long)] U ∧ va_D (fun _ => True) [(h0, .inr (11, [.ref (a 0), .ref (a 1), .ref (a 3), .ref (a 14), .int 0, .null, .null, .null, .null, .null, .null])), ((a 3), .inr (1, [.int 0, .int 0, .int 0, .int 0, .int 0, .int 0, .ref (a 4), .ref (a 5), .ref (a 6), .ref (a 7), .int 0, .ref (a 8), .ref (a 9), .ref (a 10), .ref (a 11), .ref (a 12), .ref (a 13)])), (o, .inl (kO, 1, .inr (.inl (fun _ => 0))))] ∧ vx_Zq Bundle.tN "UNASSIGNED_STACK" Bundle.steD (va_A [(h0, .inr (11, [.ref (a 0), .ref (a 1), .ref (a 3), .ref (a 14), .int 0, .null, .null, .null, .null, .null, .null])), ((a 3), .inr (1, [.int 0, .int 0, .int 0, .int 0, .int 0, .int 0, .ref (a 4), .ref (a 5), .ref (a 6), .ref (a 7), .int 0, .ref (a 8), .ref (a 9), .ref (a 10), .ref (a 11), .ref (a 12), .ref (a 13)])), (o, .inl (kO, 1, .inr (.inl (fun _ => 0))))] sz) U U.heap ∧ vx_Zq Bundle.tN "SUPPRESSED_SENTINEL" Bundle.listD (va_A [(h0, .inr (11, [.ref (a 0), .ref (a 1), .ref (a 3), .ref (a 14), .int 0, .null, .null, .null, .null, .null, .null])), ((a 3), .inr (1, [.int 0, .int 0, .int 0, .int 0, .int 0, .int 0, .ref (a 4), .ref (a 5), .ref (a 6), .ref (a 7), .int 0, .ref (a 8), .ref (a 9), .ref (a 10), .ref (a 11), .ref (a 12), .ref (a 13)])), (o, .inl (kO, 1, .inr (.inl (fun _ => 0))))] sz) U U.heap ∧ (∀ w ∈ ngX11_161, va_Nw w U))) (va_Qi (fun (r : Int32) (u : Nat → Int64) => r = 1) (fun (u : Nat → Int64) t => va_P (dC, dI) vwCl [(o, .inl (kO, 1, .inr (.inl u)))] t.heap ∧ va_K (dC, dI) vwCl [] t ∧ va_D (va_A [(h0, .inr (11, [.ref (a 0), .ref (a 1), .ref (a 3), .ref (a 14), .int 0, .null, .null, .null, .null, .null, .null])), ((a 3), .inr (1, [.int 0, .int 0, .int 0, .int 0, .int 0, .int 0, .ref (a 4), .ref (a 5), .ref (a 6), .ref (a 7), .int 0, .ref (a 8), .ref (a 9), .ref (a 10), .ref (a 11), .ref (a 12), .ref (a 13)])), (o, .inl (kO, 1, .inr (.inl (fun _ => 0))))] sz) [(o, .inl (kO, 1, .inr (.inl u)))]) (va_A [(h0, .inr (11, [.ref (a 0), .ref (a 1), .ref (a 3), .ref (a 14), .int 0, .null, .null, .null, .null, .null, .null])), ((a 3), .inr (1, [.int 0, .int 0, .int 0, .int 0, .int 0, .int 0, .ref (a 4), .ref (a 5), .ref (a 6), .ref (a 7), .int 0, .ref (a 8), .ref (a 9), .ref (a 10), .ref (a 11), .ref (a 12), .ref (a 13)])), (o, .inl (kO, 1, .inr (.inl (fun _ => 0))))] sz)) 1 6 (va_A [(h0, .inr (11, [.ref (a 0), .ref (a 1), .ref (a 3), .ref (a 14), .int 0, .null, .null, .null, .null, .null, .null])), ((a 3), .inr (1, [.int 0, .int 0, .int 0, .int 0, .int 0, .int 0, .ref (a 4), .ref (a 5), .ref (a 6), .ref (a 7), .int 0, .ref (a 8), .ref (a 9), .ref (a 10), .ref (a 11), .ref (a 12), .ref (a 13)])), (o, .inl (kO, 1, .inr (.inl (fun _ => 0))))] sz) := by
  refine ofWC (hh := [(0, 9, 12, 32), (0, 9, 15, 19)]) (cc := cL_way) (maxL := 4) (ret := (some .int)) (by decide) rfl ?_
  intro p e s m args below meth c s₁ B hml hv
  obtain ⟨rfl, hsz, hP, hK, hD0, hU, hN, hngX11_161⟩ := hv
  have hx := B.exec
  have hb := B.bytes
  have hr := B.returns
  have hts := atoms_spec (ws := wsPL_way) B.pre
  have hown : s.vm.findClass RL = some m.cls := findClass_of_methodNamed B.named
  have hlocks := B.notSynchronized
  have htb : c.exceptionTable.toList = tableOf [(0, 9, 12, 32), (0, 9, 15, 19)] := vx_table (x := yL_way) B (hts _ List.mem_cons_self)
  subst hsz
  have hD := hD0.self (sz := s.heap.size)
  generalize hAe : va_A [(h0, .inr (11, [.ref (a 0), .ref (a 1), .ref (a 3), .ref (a 14), .int 0, .null, .null, .null, .null, .null, .null])), ((a 3), .inr (1, [.int 0, .int 0, .int 0, .int 0, .int 0, .int 0, .ref (a 4), .ref (a 5), .ref (a 6), .ref (a 7), .int 0, .ref (a 8), .ref (a 9), .ref (a 10), .ref (a 11), .ref (a 12), .ref (a 13)])), (o, .inl (kO, 1, .inr (.inl (fun _ => 0))))] s.heap.size = A at hD hU hN ⊢
  have hA : ∀ q : Nat, s.heap.size ≤ q → A q := fun q h => by rw [← hAe]; exact Or.inr h
  have hS : va_S A s.heap s.heap [] := va_S.rf
  have hP : va_P (dC, dI) vwCl [(h0, .inr (11, [.ref (a 0), .ref (a 1), .ref (a 3), .ref (a 14), .int 0, .null, .null, .null, .null, .null, .null])), ((a 3), .inr (1, [.int 0, .int 0, .int 0, .int 0, .int 0, .int 0, .ref (a 4), .ref (a 5), .ref (a 6), .ref (a 7), .int 0, .ref (a 8), .ref (a 9), .ref (a 10), .ref (a 11), .ref (a 12), .ref (a 13)])), (o, .inl (kO, 1, .inr (.inl (fun _ => 0))))] s.heap := hP
  have hl := lv_entry ([.ref h0, .int qk, .ref o]) (n := 4) (Nat.le_of_ble_eq_true rfl)
  rw [lg_entry_eq]
  generalize (lg_sl ([.ref h0, .int qk, .ref o]) ++ List.replicate (4 - (lg_sl ([.ref h0, .int qk, .ref o])).length) Slot.unset).toArray = ls at hl ⊢
  have hl : lv_has ls 4 [(0, .ref h0), (1, .int qk), (2, .ref o)] := hl
  refine lv_aload_n hx hb dL_way_0 rfl (lv_at hl 2 rfl) ?_
  refine lv_iconst (v := 0) hx hb dL_way_1 (by decide) ?_
  refine lv_aload_n hx hb dL_way_2 rfl (lv_at hl 0 rfl) ?_
  refine lv_iload_n hx hb dL_way_3 rfl (lv_at hl 1 rfl) ?_
  have hPc := hP.sub (ws' := [(h0, .inr (11, [.ref (a 0), .ref (a 1), .ref (a 3), .ref (a 14), .int 0, .null, .null, .null, .null, .null, .null])), ((a 3), .inr (1, [.int 0, .int 0, .int 0, .int 0, .int 0, .int 0, .ref (a 4), .ref (a 5), .ref (a 6), .ref (a 7), .int 0, .ref (a 8), .ref (a 9), .ref (a 10), .ref (a 11), .ref (a 12), .ref (a 13)]))]) [0, 1] rfl
  have hDc := hD.sub (ws' := [(h0, .inr (11, [.ref (a 0), .ref (a 1), .ref (a 3), .ref (a 14), .int 0, .null, .null, .null, .null, .null, .null])), ((a 3), .inr (1, [.int 0, .int 0, .int 0, .int 0, .int 0, .int 0, .ref (a 4), .ref (a 5), .ref (a 6), .ref (a 7), .int 0, .ref (a 8), .ref (a 9), .ref (a 10), .ref (a 11), .ref (a 12), .ref (a 13)]))]) [0, 1] (by decide) rfl
  have hKc := hK.sub (tys' := []) [] rfl
  have hFc := va_free (wc := [(h0, .inr (11, [.ref (a 0), .ref (a 1), .ref (a 3), .ref (a 14), .int 0, .null, .null, .null, .null, .null, .null])), ((a 3), .inr (1, [.int 0, .int 0, .int 0, .int 0, .int 0, .int 0, .ref (a 4), .ref (a 5), .ref (a 6), .ref (a 7), .int 0, .ref (a 8), .ref (a 9), .ref (a 10), .ref (a 11), .ref (a 12), .ref (a 13)]))]) hD hS hA [0, 1] rfl
  refine vx_calli (vx_runV (As := [.int qk]) (rest := [.int 0, .ref o]) ⟨hx, hb, hml, hown, hts⟩ (p_X11_way l hst dC dI h0 a qk s.heap.size) (cwV 1 hts gwsPL_way_0 rfl rfl rfl (by decide +kernel) ⟨by decide +kernel, by decide +kernel⟩) ⟨fun a U g mk q => by obtain ⟨q0, q1, qP, qK, qD, qU, qN, qngX11_161⟩ := q; exact ⟨q0, q1, qP, va_K.moved (u := U) (U := U.calling g mk a) (Vm.Alike.refl U.vm) qK, qD, vx_Zq.moved (u := U) (U := U.calling g mk a) (Vm.Alike.refl U.vm) qU, vx_Zq.moved (u := U) (U := U.calling g mk a) (Vm.Alike.refl U.vm) qN, fun w h => va_Nw.same (u := U) (U := U.calling g mk a) (ngX11_161_ot w h) rfl (qngX11_161 w h)⟩, va_recv hKc hPc (ci := 11) (q0 := 0) rfl rfl, fun U hU9 hW => ⟨rfl, by rw [hU9], by rw [hU9]; exact hPc, va_K.moved hW.alike hKc, hDc.weaken (fun _ _ _ _ => trivial), by rw [hU9]; exact ((hU.kept (fun a h1 h2 => hS.2.1 a h1 h2)).narrow hFc).moved hW.alike, by rw [hU9]; exact ((hN.kept (fun a h1 h2 => hS.2.1 a h1 h2)).narrow hFc).moved hW.alike, fun w h => cd_warm (ngX11_161_cd w h) hW (hngX11_161 w h)⟩⟩ rfl rfl hl.1 rfl (lv_room (Nat.le_of_ble_eq_true rfl)) dL_way_4 ⟨by decide +kernel, by decide +kernel⟩) hS (fun q _ h => hFc q h) hFc (fun q _ h => hFc q h) (fun E ce q9 u t H1 locs1 ht hvm hw hB hz1 hk1 hS hc1 hc2 hc3 => ?_) (fun r4 u t H1 locs ht hvm hw hB hz1 hk1 hS => ?_)
  · have hE : E = u := hB
    subst hE
    obtain ⟨hP, hD⟩ := va_join (wr := [(o, .inl (kO, 1, .inr (.inl (fun _ => 0))))]) (w1 := []) hP hD [0, 1] [2] rfl rfl (by decide) (by decide) hk1 hFc nilP nilD
    have hP : va_P (dC, dI) vwCl [(o, .inl (kO, 1, .inr (.inl (fun _ => 0))))] H1 := hP
    have hD : va_D A [(o, .inl (kO, 1, .inr (.inl (fun _ => 0))))] := hD
    refine vx_widen (k := 1) (n := 6) (by decide +kernel) (by decide +kernel) ?_
    obtain ⟨hu, hxc⟩ := hw
    subst hu
    refine vx_catch (own := RL) (name := "java/lang/IllegalStateException") hown [] ⟨0, 9, 12, 32⟩ [⟨0, 9, 15, 19⟩] (by rw [htb]; rfl) (fun z hz => absurd hz List.not_mem_nil) (by decide) (by decide) (hts (.classLink RL 32 "java/lang/IllegalStateException") (by decide +kernel)) (va_Nw.use rfl (hngX11_161 (.castable "java/lang/IllegalStateException" "java/lang/IllegalStateException") (by decide +kernel))) hc1 hc2 hc3 ?_
    generalize H1 = H at hP hS hc1 ⊢
    refine lv_astore_n (lv' := [(3, .ref q9), (0, .ref h0), (1, .int qk), (2, .ref o)]) hx hb dL_way_12 rfl hl (by decide) rfl (fun ls hl => ?_)
    refine lv_iconst (v := 1) hx hb dL_way_13 (by decide) ?_
    refine W.widen (k := 1) (n := 6) (by decide +kernel) (by decide +kernel) ?_
    exact W.iret (v := 1) hx hb hr (fun t ht hW => ⟨⟨1, (fun _ => 0), rfl, by (first | rfl | assumption | trivial | omega | (simp []; done) | (simp; omega)), by rw [ht]; exact hP.sub [0] rfl, va_K.moved hW.alike (hK.sub [] rfl), hD.sub [0] (by decide) rfl⟩, hS.F ht⟩) hS.2.2 dL_way_14
  exact False.elim hw
def wsPL_count : List Cond := .codeWith yL_count cL_count 3 (some .int) [(0, 8, 11, 32)] :: ([.classLink RL 32 "java/lang/IllegalStateException"] ++ (wsV RL 48 RX11 yX11_count wsPX11_count))
theorem gwsPL_count_0 : GoodIn wsPL_count (wsV RL 48 RX11 yX11_count wsPX11_count) := goodIn_sub (fun _ h => List.mem_cons_of_mem _ (List.mem_append_right _ h)) (by decide +kernel)
set_option maxHeartbeats 4000000 in
set_option maxRecDepth 100000 in
/-- the law's count, on a fresh object -/
theorem p_L_count (l : Launch) (hst : l.stackTraces = false) (dC : Nat → ClassId) (dI : Nat → Nat → Nat) (h0 : Nat) (a : Nat → Nat) (o : Nat) (kO : ClassId) (sz : Nat) : Met l yL_count wsPL_count ({ frames := 8, cells := 1, slots := 6, locals := 121 }) (va_Pc [.ref h0, .ref o] (fun U => U.heap.size = sz ∧ va_P (dC, dI) vwCl [(h0, .inr (11, [.ref (a 0), .ref (a 1), .ref (a 3), .ref (a 14), .int 0, .null, .null, .null, .null, .null, .null])), ((a 3), .inr (1, [.int 0, .int 0, .int 0, .int 0, .int 0, .int 0, .ref (a 4), .ref (a 5), .ref (a 6), .ref (a 7), .int 0, .ref (a 8), .ref (a 9), .ref (a 10), .ref (a 11), .ref (a 12), .ref (a 13)])), (o, .inl (kO, 1, .inr (.inl (fun _ => 0))))] U.heap ∧ va_K (dC, dI) vwCl [(kO, .long)] U ∧ va_D (fun _ => True) [(h0, .inr (11, [.ref (a 0), .ref (a 1), .ref (a 3), .ref (a 14), .int 0, .null, .null, .null, .null, .null, .null])), ((a 3), .inr (1, [.int 0, .int 0, .int 0, .int 0, .int 0, .int 0, .ref (a 4), .ref (a 5), .ref (a 6), .ref (a 7), .int 0, .ref (a 8), .ref (a 9), .ref (a 10), .ref (a 11), .ref (a 12), .ref (a 13)])), (o, .inl (kO, 1, .inr (.inl (fun _ => 0))))] ∧ vx_Zq Bundle.tN "UNASSIGNED_STACK" Bundle.steD (va_A [(h0, .inr (11, [.ref (a 0), .ref (a 1), .ref (a 3), .ref (a 14), .int 0, .null, .null, .null, .null, .null, .null])), ((a 3), .inr (1, [.int 0, .int 0, .int 0, .int 0, .int 0, .int 0, .ref (a 4), .ref (a 5), .ref (a 6), .ref (a 7), .int 0, .ref (a 8), .ref (a 9), .ref (a 10), .ref (a 11), .ref (a 12), .ref (a 13)])), (o, .inl (kO, 1, .inr (.inl (fun _ => 0))))] sz) U U.heap ∧ vx_Zq Bundle.tN "SUPPRESSED_SENTINEL" Bundle.listD (va_A [(h0, .inr (11, [.ref (a 0), .ref (a 1), .ref (a 3), .ref (a 14), .int 0, .null, .null, .null, .null, .null, .null])), ((a 3), .inr (1, [.int 0, .int 0, .int 0, .int 0, .int 0, .int 0, .ref (a 4), .ref (a 5), .ref (a 6), .ref (a 7), .int 0, .ref (a 8), .ref (a 9), .ref (a 10), .ref (a 11), .ref (a 12), .ref (a 13)])), (o, .inl (kO, 1, .inr (.inl (fun _ => 0))))] sz) U U.heap ∧ (∀ w ∈ ngX11_161, va_Nw w U))) (va_Qi (fun (r : Int32) (u : Nat → Int64) => r = 1) (fun (u : Nat → Int64) t => va_P (dC, dI) vwCl [(o, .inl (kO, 1, .inr (.inl u)))] t.heap ∧ va_K (dC, dI) vwCl [] t ∧ va_D (va_A [(h0, .inr (11, [.ref (a 0), .ref (a 1), .ref (a 3), .ref (a 14), .int 0, .null, .null, .null, .null, .null, .null])), ((a 3), .inr (1, [.int 0, .int 0, .int 0, .int 0, .int 0, .int 0, .ref (a 4), .ref (a 5), .ref (a 6), .ref (a 7), .int 0, .ref (a 8), .ref (a 9), .ref (a 10), .ref (a 11), .ref (a 12), .ref (a 13)])), (o, .inl (kO, 1, .inr (.inl (fun _ => 0))))] sz) [(o, .inl (kO, 1, .inr (.inl u)))]) (va_A [(h0, .inr (11, [.ref (a 0), .ref (a 1), .ref (a 3), .ref (a 14), .int 0, .null, .null, .null, .null, .null, .null])), ((a 3), .inr (1, [.int 0, .int 0, .int 0, .int 0, .int 0, .int 0, .ref (a 4), .ref (a 5), .ref (a 6), .ref (a 7), .int 0, .ref (a 8), .ref (a 9), .ref (a 10), .ref (a 11), .ref (a 12), .ref (a 13)])), (o, .inl (kO, 1, .inr (.inl (fun _ => 0))))] sz)) 1 6 (va_A [(h0, .inr (11, [.ref (a 0), .ref (a 1), .ref (a 3), .ref (a 14), .int 0, .null, .null, .null, .null, .null, .null])), ((a 3), .inr (1, [.int 0, .int 0, .int 0, .int 0, .int 0, .int 0, .ref (a 4), .ref (a 5), .ref (a 6), .ref (a 7), .int 0, .ref (a 8), .ref (a 9), .ref (a 10), .ref (a 11), .ref (a 12), .ref (a 13)])), (o, .inl (kO, 1, .inr (.inl (fun _ => 0))))] sz) := by
  refine ofWC (hh := [(0, 8, 11, 32)]) (cc := cL_count) (maxL := 3) (ret := (some .int)) (by decide) rfl ?_
  intro p e s m args below meth c s₁ B hml hv
  obtain ⟨rfl, hsz, hP, hK, hD0, hU, hN, hngX11_161⟩ := hv
  have hx := B.exec
  have hb := B.bytes
  have hr := B.returns
  have hts := atoms_spec (ws := wsPL_count) B.pre
  have hown : s.vm.findClass RL = some m.cls := findClass_of_methodNamed B.named
  have hlocks := B.notSynchronized
  have htb : c.exceptionTable.toList = tableOf [(0, 8, 11, 32)] := vx_table (x := yL_count) B (hts _ List.mem_cons_self)
  subst hsz
  have hD := hD0.self (sz := s.heap.size)
  generalize hAe : va_A [(h0, .inr (11, [.ref (a 0), .ref (a 1), .ref (a 3), .ref (a 14), .int 0, .null, .null, .null, .null, .null, .null])), ((a 3), .inr (1, [.int 0, .int 0, .int 0, .int 0, .int 0, .int 0, .ref (a 4), .ref (a 5), .ref (a 6), .ref (a 7), .int 0, .ref (a 8), .ref (a 9), .ref (a 10), .ref (a 11), .ref (a 12), .ref (a 13)])), (o, .inl (kO, 1, .inr (.inl (fun _ => 0))))] s.heap.size = A at hD hU hN ⊢
  have hA : ∀ q : Nat, s.heap.size ≤ q → A q := fun q h => by rw [← hAe]; exact Or.inr h
  have hS : va_S A s.heap s.heap [] := va_S.rf
  have hP : va_P (dC, dI) vwCl [(h0, .inr (11, [.ref (a 0), .ref (a 1), .ref (a 3), .ref (a 14), .int 0, .null, .null, .null, .null, .null, .null])), ((a 3), .inr (1, [.int 0, .int 0, .int 0, .int 0, .int 0, .int 0, .ref (a 4), .ref (a 5), .ref (a 6), .ref (a 7), .int 0, .ref (a 8), .ref (a 9), .ref (a 10), .ref (a 11), .ref (a 12), .ref (a 13)])), (o, .inl (kO, 1, .inr (.inl (fun _ => 0))))] s.heap := hP
  have hl := lv_entry ([.ref h0, .ref o]) (n := 3) (Nat.le_of_ble_eq_true rfl)
  rw [lg_entry_eq]
  generalize (lg_sl ([.ref h0, .ref o]) ++ List.replicate (3 - (lg_sl ([.ref h0, .ref o])).length) Slot.unset).toArray = ls at hl ⊢
  have hl : lv_has ls 3 [(0, .ref h0), (1, .ref o)] := hl
  refine lv_aload_n hx hb dL_count_0 rfl (lv_at hl 1 rfl) ?_
  refine lv_iconst (v := 0) hx hb dL_count_1 (by decide) ?_
  refine lv_aload_n hx hb dL_count_2 rfl (lv_at hl 0 rfl) ?_
  have hPc := hP.sub (ws' := [(h0, .inr (11, [.ref (a 0), .ref (a 1), .ref (a 3), .ref (a 14), .int 0, .null, .null, .null, .null, .null, .null])), ((a 3), .inr (1, [.int 0, .int 0, .int 0, .int 0, .int 0, .int 0, .ref (a 4), .ref (a 5), .ref (a 6), .ref (a 7), .int 0, .ref (a 8), .ref (a 9), .ref (a 10), .ref (a 11), .ref (a 12), .ref (a 13)]))]) [0, 1] rfl
  have hDc := hD.sub (ws' := [(h0, .inr (11, [.ref (a 0), .ref (a 1), .ref (a 3), .ref (a 14), .int 0, .null, .null, .null, .null, .null, .null])), ((a 3), .inr (1, [.int 0, .int 0, .int 0, .int 0, .int 0, .int 0, .ref (a 4), .ref (a 5), .ref (a 6), .ref (a 7), .int 0, .ref (a 8), .ref (a 9), .ref (a 10), .ref (a 11), .ref (a 12), .ref (a 13)]))]) [0, 1] (by decide) rfl
  have hKc := hK.sub (tys' := []) [] rfl
  have hFc := va_free (wc := [(h0, .inr (11, [.ref (a 0), .ref (a 1), .ref (a 3), .ref (a 14), .int 0, .null, .null, .null, .null, .null, .null])), ((a 3), .inr (1, [.int 0, .int 0, .int 0, .int 0, .int 0, .int 0, .ref (a 4), .ref (a 5), .ref (a 6), .ref (a 7), .int 0, .ref (a 8), .ref (a 9), .ref (a 10), .ref (a 11), .ref (a 12), .ref (a 13)]))]) hD hS hA [0, 1] rfl
  refine vx_calli (vx_runV (As := []) (rest := [.int 0, .ref o]) ⟨hx, hb, hml, hown, hts⟩ (p_X11_count l hst dC dI h0 a s.heap.size) (cwV 0 hts gwsPL_count_0 rfl rfl rfl (by decide +kernel) ⟨by decide +kernel, by decide +kernel⟩) ⟨fun a U g mk q => by obtain ⟨q0, q1, qP, qK, qD, qU, qN, qngX11_161⟩ := q; exact ⟨q0, q1, qP, va_K.moved (u := U) (U := U.calling g mk a) (Vm.Alike.refl U.vm) qK, qD, vx_Zq.moved (u := U) (U := U.calling g mk a) (Vm.Alike.refl U.vm) qU, vx_Zq.moved (u := U) (U := U.calling g mk a) (Vm.Alike.refl U.vm) qN, fun w h => va_Nw.same (u := U) (U := U.calling g mk a) (ngX11_161_ot w h) rfl (qngX11_161 w h)⟩, va_recv hKc hPc (ci := 11) (q0 := 0) rfl rfl, fun U hU9 hW => ⟨rfl, by rw [hU9], by rw [hU9]; exact hPc, va_K.moved hW.alike hKc, hDc.weaken (fun _ _ _ _ => trivial), by rw [hU9]; exact ((hU.kept (fun a h1 h2 => hS.2.1 a h1 h2)).narrow hFc).moved hW.alike, by rw [hU9]; exact ((hN.kept (fun a h1 h2 => hS.2.1 a h1 h2)).narrow hFc).moved hW.alike, fun w h => cd_warm (ngX11_161_cd w h) hW (hngX11_161 w h)⟩⟩ rfl rfl hl.1 rfl (lv_room (Nat.le_of_ble_eq_true rfl)) dL_count_3 ⟨by decide +kernel, by decide +kernel⟩) hS (fun q _ h => hFc q h) hFc (fun q _ h => hFc q h) (fun E ce q9 u t H1 locs1 ht hvm hw hB hz1 hk1 hS hc1 hc2 hc3 => ?_) (fun r3 u t H1 locs ht hvm hw hB hz1 hk1 hS => ?_)
  · have hE : E = u := hB
    subst hE
    obtain ⟨hP, hD⟩ := va_join (wr := [(o, .inl (kO, 1, .inr (.inl (fun _ => 0))))]) (w1 := []) hP hD [0, 1] [2] rfl rfl (by decide) (by decide) hk1 hFc nilP nilD
    have hP : va_P (dC, dI) vwCl [(o, .inl (kO, 1, .inr (.inl (fun _ => 0))))] H1 := hP
    have hD : va_D A [(o, .inl (kO, 1, .inr (.inl (fun _ => 0))))] := hD
    refine vx_widen (k := 1) (n := 6) (by decide +kernel) (by decide +kernel) ?_
    obtain ⟨hu, hxc⟩ := hw
    subst hu
    refine vx_catch (own := RL) (name := "java/lang/IllegalStateException") hown [] ⟨0, 8, 11, 32⟩ [] (by rw [htb]; rfl) (fun z hz => absurd hz List.not_mem_nil) (by decide) (by decide) (hts (.classLink RL 32 "java/lang/IllegalStateException") (by decide +kernel)) (va_Nw.use rfl (hngX11_161 (.castable "java/lang/IllegalStateException" "java/lang/IllegalStateException") (by decide +kernel))) hc1 hc2 hc3 ?_
    generalize H1 = H at hP hS hc1 ⊢
    refine lv_astore_n (lv' := [(2, .ref q9), (0, .ref h0), (1, .ref o)]) hx hb dL_count_11 rfl hl (by decide) rfl (fun ls hl => ?_)
    refine lv_iconst (v := 1) hx hb dL_count_12 (by decide) ?_
    refine W.widen (k := 1) (n := 6) (by decide +kernel) (by decide +kernel) ?_
    exact W.iret (v := 1) hx hb hr (fun t ht hW => ⟨⟨1, (fun _ => 0), rfl, by (first | rfl | assumption | trivial | omega | (simp []; done) | (simp; omega)), by rw [ht]; exact hP.sub [0] rfl, va_K.moved hW.alike (hK.sub [] rfl), hD.sub [0] (by decide) rfl⟩, hS.F ht⟩) hS.2.2 dL_count_13
  exact False.elim hw
def wsPL_counted : List Cond := .codeWith yL_counted cL_counted 5 (some .int) [(0, 10, 13, 32)] :: ([.classLink RL 32 "java/lang/IllegalStateException"] ++ (wsV RL 51 RX11 yX11_counted wsPX11_counted))
theorem gwsPL_counted_0 : GoodIn wsPL_counted (wsV RL 51 RX11 yX11_counted wsPX11_counted) := goodIn_sub (fun _ h => List.mem_cons_of_mem _ (List.mem_append_right _ h)) (by decide +kernel)
set_option maxHeartbeats 4000000 in
set_option maxRecDepth 100000 in
/-- the law's counted, on a fresh object -/
theorem p_L_counted (l : Launch) (hst : l.stackTraces = false) (dC : Nat → ClassId) (dI : Nat → Nat → Nat) (h0 : Nat) (a : Nat → Nat) (o : Nat) (kO : ClassId) (ck : Int32) (cv : Int32) (sz : Nat) : Met l yL_counted wsPL_counted ({ frames := 8, cells := 1, slots := 6, locals := 123 }) (va_Pc [.ref h0, .int ck, .int cv, .ref o] (fun U => U.heap.size = sz ∧ va_P (dC, dI) vwCl [(h0, .inr (11, [.ref (a 0), .ref (a 1), .ref (a 3), .ref (a 14), .int 0, .null, .null, .null, .null, .null, .null])), ((a 3), .inr (1, [.int 0, .int 0, .int 0, .int 0, .int 0, .int 0, .ref (a 4), .ref (a 5), .ref (a 6), .ref (a 7), .int 0, .ref (a 8), .ref (a 9), .ref (a 10), .ref (a 11), .ref (a 12), .ref (a 13)])), (o, .inl (kO, 1, .inr (.inl (fun _ => 0))))] U.heap ∧ va_K (dC, dI) vwCl [(kO, .long)] U ∧ va_D (fun _ => True) [(h0, .inr (11, [.ref (a 0), .ref (a 1), .ref (a 3), .ref (a 14), .int 0, .null, .null, .null, .null, .null, .null])), ((a 3), .inr (1, [.int 0, .int 0, .int 0, .int 0, .int 0, .int 0, .ref (a 4), .ref (a 5), .ref (a 6), .ref (a 7), .int 0, .ref (a 8), .ref (a 9), .ref (a 10), .ref (a 11), .ref (a 12), .ref (a 13)])), (o, .inl (kO, 1, .inr (.inl (fun _ => 0))))] ∧ vx_Zq Bundle.tN "UNASSIGNED_STACK" Bundle.steD (va_A [(h0, .inr (11, [.ref (a 0), .ref (a 1), .ref (a 3), .ref (a 14), .int 0, .null, .null, .null, .null, .null, .null])), ((a 3), .inr (1, [.int 0, .int 0, .int 0, .int 0, .int 0, .int 0, .ref (a 4), .ref (a 5), .ref (a 6), .ref (a 7), .int 0, .ref (a 8), .ref (a 9), .ref (a 10), .ref (a 11), .ref (a 12), .ref (a 13)])), (o, .inl (kO, 1, .inr (.inl (fun _ => 0))))] sz) U U.heap ∧ vx_Zq Bundle.tN "SUPPRESSED_SENTINEL" Bundle.listD (va_A [(h0, .inr (11, [.ref (a 0), .ref (a 1), .ref (a 3), .ref (a 14), .int 0, .null, .null, .null, .null, .null, .null])), ((a 3), .inr (1, [.int 0, .int 0, .int 0, .int 0, .int 0, .int 0, .ref (a 4), .ref (a 5), .ref (a 6), .ref (a 7), .int 0, .ref (a 8), .ref (a 9), .ref (a 10), .ref (a 11), .ref (a 12), .ref (a 13)])), (o, .inl (kO, 1, .inr (.inl (fun _ => 0))))] sz) U U.heap ∧ (∀ w ∈ ngX11_161, va_Nw w U))) (va_Qi (fun (r : Int32) (u : Nat → Int64) => r = 1) (fun (u : Nat → Int64) t => va_P (dC, dI) vwCl [(o, .inl (kO, 1, .inr (.inl u)))] t.heap ∧ va_K (dC, dI) vwCl [] t ∧ va_D (va_A [(h0, .inr (11, [.ref (a 0), .ref (a 1), .ref (a 3), .ref (a 14), .int 0, .null, .null, .null, .null, .null, .null])), ((a 3), .inr (1, [.int 0, .int 0, .int 0, .int 0, .int 0, .int 0, .ref (a 4), .ref (a 5), .ref (a 6), .ref (a 7), .int 0, .ref (a 8), .ref (a 9), .ref (a 10), .ref (a 11), .ref (a 12), .ref (a 13)])), (o, .inl (kO, 1, .inr (.inl (fun _ => 0))))] sz) [(o, .inl (kO, 1, .inr (.inl u)))]) (va_A [(h0, .inr (11, [.ref (a 0), .ref (a 1), .ref (a 3), .ref (a 14), .int 0, .null, .null, .null, .null, .null, .null])), ((a 3), .inr (1, [.int 0, .int 0, .int 0, .int 0, .int 0, .int 0, .ref (a 4), .ref (a 5), .ref (a 6), .ref (a 7), .int 0, .ref (a 8), .ref (a 9), .ref (a 10), .ref (a 11), .ref (a 12), .ref (a 13)])), (o, .inl (kO, 1, .inr (.inl (fun _ => 0))))] sz)) 1 6 (va_A [(h0, .inr (11, [.ref (a 0), .ref (a 1), .ref (a 3), .ref (a 14), .int 0, .null, .null, .null, .null, .null, .null])), ((a 3), .inr (1, [.int 0, .int 0, .int 0, .int 0, .int 0, .int 0, .ref (a 4), .ref (a 5), .ref (a 6), .ref (a 7), .int 0, .ref (a 8), .ref (a 9), .ref (a 10), .ref (a 11), .ref (a 12), .ref (a 13)])), (o, .inl (kO, 1, .inr (.inl (fun _ => 0))))] sz) := by
  refine ofWC (hh := [(0, 10, 13, 32)]) (cc := cL_counted) (maxL := 5) (ret := (some .int)) (by decide) rfl ?_
  intro p e s m args below meth c s₁ B hml hv
  obtain ⟨rfl, hsz, hP, hK, hD0, hU, hN, hngX11_161⟩ := hv
  have hx := B.exec
  have hb := B.bytes
  have hr := B.returns
  have hts := atoms_spec (ws := wsPL_counted) B.pre
  have hown : s.vm.findClass RL = some m.cls := findClass_of_methodNamed B.named
  have hlocks := B.notSynchronized
  have htb : c.exceptionTable.toList = tableOf [(0, 10, 13, 32)] := vx_table (x := yL_counted) B (hts _ List.mem_cons_self)
  subst hsz
  have hD := hD0.self (sz := s.heap.size)
  generalize hAe : va_A [(h0, .inr (11, [.ref (a 0), .ref (a 1), .ref (a 3), .ref (a 14), .int 0, .null, .null, .null, .null, .null, .null])), ((a 3), .inr (1, [.int 0, .int 0, .int 0, .int 0, .int 0, .int 0, .ref (a 4), .ref (a 5), .ref (a 6), .ref (a 7), .int 0, .ref (a 8), .ref (a 9), .ref (a 10), .ref (a 11), .ref (a 12), .ref (a 13)])), (o, .inl (kO, 1, .inr (.inl (fun _ => 0))))] s.heap.size = A at hD hU hN ⊢
  have hA : ∀ q : Nat, s.heap.size ≤ q → A q := fun q h => by rw [← hAe]; exact Or.inr h
  have hS : va_S A s.heap s.heap [] := va_S.rf
  have hP : va_P (dC, dI) vwCl [(h0, .inr (11, [.ref (a 0), .ref (a 1), .ref (a 3), .ref (a 14), .int 0, .null, .null, .null, .null, .null, .null])), ((a 3), .inr (1, [.int 0, .int 0, .int 0, .int 0, .int 0, .int 0, .ref (a 4), .ref (a 5), .ref (a 6), .ref (a 7), .int 0, .ref (a 8), .ref (a 9), .ref (a 10), .ref (a 11), .ref (a 12), .ref (a 13)])), (o, .inl (kO, 1, .inr (.inl (fun _ => 0))))] s.heap := hP
  have hl := lv_entry ([.ref h0, .int ck, .int cv, .ref o]) (n := 5) (Nat.le_of_ble_eq_true rfl)
  rw [lg_entry_eq]
  generalize (lg_sl ([.ref h0, .int ck, .int cv, .ref o]) ++ List.replicate (5 - (lg_sl ([.ref h0, .int ck, .int cv, .ref o])).length) Slot.unset).toArray = ls at hl ⊢
  have hl : lv_has ls 5 [(0, .ref h0), (1, .int ck), (2, .int cv), (3, .ref o)] := hl
  refine lv_aload_n hx hb dL_counted_0 rfl (lv_at hl 3 rfl) ?_
  refine lv_iconst (v := 0) hx hb dL_counted_1 (by decide) ?_
  refine lv_aload_n hx hb dL_counted_2 rfl (lv_at hl 0 rfl) ?_
  refine lv_iload_n hx hb dL_counted_3 rfl (lv_at hl 1 rfl) ?_
  refine lv_iload_n hx hb dL_counted_4 rfl (lv_at hl 2 rfl) ?_
  have hPc := hP.sub (ws' := [(h0, .inr (11, [.ref (a 0), .ref (a 1), .ref (a 3), .ref (a 14), .int 0, .null, .null, .null, .null, .null, .null])), ((a 3), .inr (1, [.int 0, .int 0, .int 0, .int 0, .int 0, .int 0, .ref (a 4), .ref (a 5), .ref (a 6), .ref (a 7), .int 0, .ref (a 8), .ref (a 9), .ref (a 10), .ref (a 11), .ref (a 12), .ref (a 13)]))]) [0, 1] rfl
  have hDc := hD.sub (ws' := [(h0, .inr (11, [.ref (a 0), .ref (a 1), .ref (a 3), .ref (a 14), .int 0, .null, .null, .null, .null, .null, .null])), ((a 3), .inr (1, [.int 0, .int 0, .int 0, .int 0, .int 0, .int 0, .ref (a 4), .ref (a 5), .ref (a 6), .ref (a 7), .int 0, .ref (a 8), .ref (a 9), .ref (a 10), .ref (a 11), .ref (a 12), .ref (a 13)]))]) [0, 1] (by decide) rfl
  have hKc := hK.sub (tys' := []) [] rfl
  have hFc := va_free (wc := [(h0, .inr (11, [.ref (a 0), .ref (a 1), .ref (a 3), .ref (a 14), .int 0, .null, .null, .null, .null, .null, .null])), ((a 3), .inr (1, [.int 0, .int 0, .int 0, .int 0, .int 0, .int 0, .ref (a 4), .ref (a 5), .ref (a 6), .ref (a 7), .int 0, .ref (a 8), .ref (a 9), .ref (a 10), .ref (a 11), .ref (a 12), .ref (a 13)]))]) hD hS hA [0, 1] rfl
  refine vx_calli (vx_runV (As := [.int ck, .int cv]) (rest := [.int 0, .ref o]) ⟨hx, hb, hml, hown, hts⟩ (p_X11_counted l hst dC dI h0 a ck cv s.heap.size) (cwV 2 hts gwsPL_counted_0 rfl rfl rfl (by decide +kernel) ⟨by decide +kernel, by decide +kernel⟩) ⟨fun a U g mk q => by obtain ⟨q0, q1, qP, qK, qD, qU, qN, qngX11_161⟩ := q; exact ⟨q0, q1, qP, va_K.moved (u := U) (U := U.calling g mk a) (Vm.Alike.refl U.vm) qK, qD, vx_Zq.moved (u := U) (U := U.calling g mk a) (Vm.Alike.refl U.vm) qU, vx_Zq.moved (u := U) (U := U.calling g mk a) (Vm.Alike.refl U.vm) qN, fun w h => va_Nw.same (u := U) (U := U.calling g mk a) (ngX11_161_ot w h) rfl (qngX11_161 w h)⟩, va_recv hKc hPc (ci := 11) (q0 := 0) rfl rfl, fun U hU9 hW => ⟨rfl, by rw [hU9], by rw [hU9]; exact hPc, va_K.moved hW.alike hKc, hDc.weaken (fun _ _ _ _ => trivial), by rw [hU9]; exact ((hU.kept (fun a h1 h2 => hS.2.1 a h1 h2)).narrow hFc).moved hW.alike, by rw [hU9]; exact ((hN.kept (fun a h1 h2 => hS.2.1 a h1 h2)).narrow hFc).moved hW.alike, fun w h => cd_warm (ngX11_161_cd w h) hW (hngX11_161 w h)⟩⟩ rfl rfl hl.1 rfl (lv_room (Nat.le_of_ble_eq_true rfl)) dL_counted_5 ⟨by decide +kernel, by decide +kernel⟩) hS (fun q _ h => hFc q h) hFc (fun q _ h => hFc q h) (fun E ce q9 u t H1 locs1 ht hvm hw hB hz1 hk1 hS hc1 hc2 hc3 => ?_) (fun r5 u t H1 locs ht hvm hw hB hz1 hk1 hS => ?_)
  · have hE : E = u := hB
    subst hE
    obtain ⟨hP, hD⟩ := va_join (wr := [(o, .inl (kO, 1, .inr (.inl (fun _ => 0))))]) (w1 := []) hP hD [0, 1] [2] rfl rfl (by decide) (by decide) hk1 hFc nilP nilD
    have hP : va_P (dC, dI) vwCl [(o, .inl (kO, 1, .inr (.inl (fun _ => 0))))] H1 := hP
    have hD : va_D A [(o, .inl (kO, 1, .inr (.inl (fun _ => 0))))] := hD
    refine vx_widen (k := 1) (n := 6) (by decide +kernel) (by decide +kernel) ?_
    obtain ⟨hu, hxc⟩ := hw
    subst hu
    refine vx_catch (own := RL) (name := "java/lang/IllegalStateException") hown [] ⟨0, 10, 13, 32⟩ [] (by rw [htb]; rfl) (fun z hz => absurd hz List.not_mem_nil) (by decide) (by decide) (hts (.classLink RL 32 "java/lang/IllegalStateException") (by decide +kernel)) (va_Nw.use rfl (hngX11_161 (.castable "java/lang/IllegalStateException" "java/lang/IllegalStateException") (by decide +kernel))) hc1 hc2 hc3 ?_
    generalize H1 = H at hP hS hc1 ⊢
    refine lv_astore (lv' := [(4, .ref q9), (0, .ref h0), (1, .int ck), (2, .int cv), (3, .ref o)]) hx hb dL_counted_13 hl (by decide) rfl (fun ls hl => ?_)
    refine lv_iconst (v := 1) hx hb dL_counted_15 (by decide) ?_
    refine W.widen (k := 1) (n := 6) (by decide +kernel) (by decide +kernel) ?_
    exact W.iret (v := 1) hx hb hr (fun t ht hW => ⟨⟨1, (fun _ => 0), rfl, by (first | rfl | assumption | trivial | omega | (simp []; done) | (simp; omega)), by rw [ht]; exact hP.sub [0] rfl, va_K.moved hW.alike (hK.sub [] rfl), hD.sub [0] (by decide) rfl⟩, hS.F ht⟩) hS.2.2 dL_counted_16
  exact False.elim hw
def wsPL_prove : List Cond := .codeWith yL_prove cL_prove 3 (some .int) [(0, 8, 11, 32)] :: ([.classLink RL 32 "java/lang/IllegalStateException"] ++ (wsV RL 54 RX11 yX11_prove wsPX11_prove))
theorem gwsPL_prove_0 : GoodIn wsPL_prove (wsV RL 54 RX11 yX11_prove wsPX11_prove) := goodIn_sub (fun _ h => List.mem_cons_of_mem _ (List.mem_append_right _ h)) (by decide +kernel)
set_option maxHeartbeats 4000000 in
set_option maxRecDepth 100000 in
/-- the law's prove, on a fresh object -/
theorem p_L_prove (l : Launch) (hst : l.stackTraces = false) (dC : Nat → ClassId) (dI : Nat → Nat → Nat) (h0 : Nat) (a : Nat → Nat) (o : Nat) (kO : ClassId) (sz : Nat) : Met l yL_prove wsPL_prove ({ frames := 8, cells := 1, slots := 6, locals := 121 }) (va_Pc [.ref h0, .ref o] (fun U => U.heap.size = sz ∧ va_P (dC, dI) vwCl [(h0, .inr (11, [.ref (a 0), .ref (a 1), .ref (a 3), .ref (a 14), .int 0, .null, .null, .null, .null, .null, .null])), ((a 3), .inr (1, [.int 0, .int 0, .int 0, .int 0, .int 0, .int 0, .ref (a 4), .ref (a 5), .ref (a 6), .ref (a 7), .int 0, .ref (a 8), .ref (a 9), .ref (a 10), .ref (a 11), .ref (a 12), .ref (a 13)])), (o, .inl (kO, 1, .inr (.inl (fun _ => 0))))] U.heap ∧ va_K (dC, dI) vwCl [(kO, .long)] U ∧ va_D (fun _ => True) [(h0, .inr (11, [.ref (a 0), .ref (a 1), .ref (a 3), .ref (a 14), .int 0, .null, .null, .null, .null, .null, .null])), ((a 3), .inr (1, [.int 0, .int 0, .int 0, .int 0, .int 0, .int 0, .ref (a 4), .ref (a 5), .ref (a 6), .ref (a 7), .int 0, .ref (a 8), .ref (a 9), .ref (a 10), .ref (a 11), .ref (a 12), .ref (a 13)])), (o, .inl (kO, 1, .inr (.inl (fun _ => 0))))] ∧ vx_Zq Bundle.tN "UNASSIGNED_STACK" Bundle.steD (va_A [(h0, .inr (11, [.ref (a 0), .ref (a 1), .ref (a 3), .ref (a 14), .int 0, .null, .null, .null, .null, .null, .null])), ((a 3), .inr (1, [.int 0, .int 0, .int 0, .int 0, .int 0, .int 0, .ref (a 4), .ref (a 5), .ref (a 6), .ref (a 7), .int 0, .ref (a 8), .ref (a 9), .ref (a 10), .ref (a 11), .ref (a 12), .ref (a 13)])), (o, .inl (kO, 1, .inr (.inl (fun _ => 0))))] sz) U U.heap ∧ vx_Zq Bundle.tN "SUPPRESSED_SENTINEL" Bundle.listD (va_A [(h0, .inr (11, [.ref (a 0), .ref (a 1), .ref (a 3), .ref (a 14), .int 0, .null, .null, .null, .null, .null, .null])), ((a 3), .inr (1, [.int 0, .int 0, .int 0, .int 0, .int 0, .int 0, .ref (a 4), .ref (a 5), .ref (a 6), .ref (a 7), .int 0, .ref (a 8), .ref (a 9), .ref (a 10), .ref (a 11), .ref (a 12), .ref (a 13)])), (o, .inl (kO, 1, .inr (.inl (fun _ => 0))))] sz) U U.heap ∧ (∀ w ∈ ngX11_161, va_Nw w U))) (va_Qi (fun (r : Int32) (u : Nat → Int64) => r = 1) (fun (u : Nat → Int64) t => va_P (dC, dI) vwCl [(o, .inl (kO, 1, .inr (.inl u)))] t.heap ∧ va_K (dC, dI) vwCl [] t ∧ va_D (va_A [(h0, .inr (11, [.ref (a 0), .ref (a 1), .ref (a 3), .ref (a 14), .int 0, .null, .null, .null, .null, .null, .null])), ((a 3), .inr (1, [.int 0, .int 0, .int 0, .int 0, .int 0, .int 0, .ref (a 4), .ref (a 5), .ref (a 6), .ref (a 7), .int 0, .ref (a 8), .ref (a 9), .ref (a 10), .ref (a 11), .ref (a 12), .ref (a 13)])), (o, .inl (kO, 1, .inr (.inl (fun _ => 0))))] sz) [(o, .inl (kO, 1, .inr (.inl u)))]) (va_A [(h0, .inr (11, [.ref (a 0), .ref (a 1), .ref (a 3), .ref (a 14), .int 0, .null, .null, .null, .null, .null, .null])), ((a 3), .inr (1, [.int 0, .int 0, .int 0, .int 0, .int 0, .int 0, .ref (a 4), .ref (a 5), .ref (a 6), .ref (a 7), .int 0, .ref (a 8), .ref (a 9), .ref (a 10), .ref (a 11), .ref (a 12), .ref (a 13)])), (o, .inl (kO, 1, .inr (.inl (fun _ => 0))))] sz)) 1 6 (va_A [(h0, .inr (11, [.ref (a 0), .ref (a 1), .ref (a 3), .ref (a 14), .int 0, .null, .null, .null, .null, .null, .null])), ((a 3), .inr (1, [.int 0, .int 0, .int 0, .int 0, .int 0, .int 0, .ref (a 4), .ref (a 5), .ref (a 6), .ref (a 7), .int 0, .ref (a 8), .ref (a 9), .ref (a 10), .ref (a 11), .ref (a 12), .ref (a 13)])), (o, .inl (kO, 1, .inr (.inl (fun _ => 0))))] sz) := by
  refine ofWC (hh := [(0, 8, 11, 32)]) (cc := cL_prove) (maxL := 3) (ret := (some .int)) (by decide) rfl ?_
  intro p e s m args below meth c s₁ B hml hv
  obtain ⟨rfl, hsz, hP, hK, hD0, hU, hN, hngX11_161⟩ := hv
  have hx := B.exec
  have hb := B.bytes
  have hr := B.returns
  have hts := atoms_spec (ws := wsPL_prove) B.pre
  have hown : s.vm.findClass RL = some m.cls := findClass_of_methodNamed B.named
  have hlocks := B.notSynchronized
  have htb : c.exceptionTable.toList = tableOf [(0, 8, 11, 32)] := vx_table (x := yL_prove) B (hts _ List.mem_cons_self)
  subst hsz
  have hD := hD0.self (sz := s.heap.size)
  generalize hAe : va_A [(h0, .inr (11, [.ref (a 0), .ref (a 1), .ref (a 3), .ref (a 14), .int 0, .null, .null, .null, .null, .null, .null])), ((a 3), .inr (1, [.int 0, .int 0, .int 0, .int 0, .int 0, .int 0, .ref (a 4), .ref (a 5), .ref (a 6), .ref (a 7), .int 0, .ref (a 8), .ref (a 9), .ref (a 10), .ref (a 11), .ref (a 12), .ref (a 13)])), (o, .inl (kO, 1, .inr (.inl (fun _ => 0))))] s.heap.size = A at hD hU hN ⊢
  have hA : ∀ q : Nat, s.heap.size ≤ q → A q := fun q h => by rw [← hAe]; exact Or.inr h
  have hS : va_S A s.heap s.heap [] := va_S.rf
  have hP : va_P (dC, dI) vwCl [(h0, .inr (11, [.ref (a 0), .ref (a 1), .ref (a 3), .ref (a 14), .int 0, .null, .null, .null, .null, .null, .null])), ((a 3), .inr (1, [.int 0, .int 0, .int 0, .int 0, .int 0, .int 0, .ref (a 4), .ref (a 5), .ref (a 6), .ref (a 7), .int 0, .ref (a 8), .ref (a 9), .ref (a 10), .ref (a 11), .ref (a 12), .ref (a 13)])), (o, .inl (kO, 1, .inr (.inl (fun _ => 0))))] s.heap := hP
  have hl := lv_entry ([.ref h0, .ref o]) (n := 3) (Nat.le_of_ble_eq_true rfl)
  rw [lg_entry_eq]
  generalize (lg_sl ([.ref h0, .ref o]) ++ List.replicate (3 - (lg_sl ([.ref h0, .ref o])).length) Slot.unset).toArray = ls at hl ⊢
  have hl : lv_has ls 3 [(0, .ref h0), (1, .ref o)] := hl
  refine lv_aload_n hx hb dL_prove_0 rfl (lv_at hl 1 rfl) ?_
  refine lv_iconst (v := 0) hx hb dL_prove_1 (by decide) ?_
  refine lv_aload_n hx hb dL_prove_2 rfl (lv_at hl 0 rfl) ?_
  have hPc := hP.sub (ws' := [(h0, .inr (11, [.ref (a 0), .ref (a 1), .ref (a 3), .ref (a 14), .int 0, .null, .null, .null, .null, .null, .null])), ((a 3), .inr (1, [.int 0, .int 0, .int 0, .int 0, .int 0, .int 0, .ref (a 4), .ref (a 5), .ref (a 6), .ref (a 7), .int 0, .ref (a 8), .ref (a 9), .ref (a 10), .ref (a 11), .ref (a 12), .ref (a 13)]))]) [0, 1] rfl
  have hDc := hD.sub (ws' := [(h0, .inr (11, [.ref (a 0), .ref (a 1), .ref (a 3), .ref (a 14), .int 0, .null, .null, .null, .null, .null, .null])), ((a 3), .inr (1, [.int 0, .int 0, .int 0, .int 0, .int 0, .int 0, .ref (a 4), .ref (a 5), .ref (a 6), .ref (a 7), .int 0, .ref (a 8), .ref (a 9), .ref (a 10), .ref (a 11), .ref (a 12), .ref (a 13)]))]) [0, 1] (by decide) rfl
  have hKc := hK.sub (tys' := []) [] rfl
  have hFc := va_free (wc := [(h0, .inr (11, [.ref (a 0), .ref (a 1), .ref (a 3), .ref (a 14), .int 0, .null, .null, .null, .null, .null, .null])), ((a 3), .inr (1, [.int 0, .int 0, .int 0, .int 0, .int 0, .int 0, .ref (a 4), .ref (a 5), .ref (a 6), .ref (a 7), .int 0, .ref (a 8), .ref (a 9), .ref (a 10), .ref (a 11), .ref (a 12), .ref (a 13)]))]) hD hS hA [0, 1] rfl
  refine vx_calli (vx_runV (As := []) (rest := [.int 0, .ref o]) ⟨hx, hb, hml, hown, hts⟩ (p_X11_prove l hst dC dI h0 a s.heap.size) (cwV 0 hts gwsPL_prove_0 rfl rfl rfl (by decide +kernel) ⟨by decide +kernel, by decide +kernel⟩) ⟨fun a U g mk q => by obtain ⟨q0, q1, qP, qK, qD, qU, qN, qngX11_161⟩ := q; exact ⟨q0, q1, qP, va_K.moved (u := U) (U := U.calling g mk a) (Vm.Alike.refl U.vm) qK, qD, vx_Zq.moved (u := U) (U := U.calling g mk a) (Vm.Alike.refl U.vm) qU, vx_Zq.moved (u := U) (U := U.calling g mk a) (Vm.Alike.refl U.vm) qN, fun w h => va_Nw.same (u := U) (U := U.calling g mk a) (ngX11_161_ot w h) rfl (qngX11_161 w h)⟩, va_recv hKc hPc (ci := 11) (q0 := 0) rfl rfl, fun U hU9 hW => ⟨rfl, by rw [hU9], by rw [hU9]; exact hPc, va_K.moved hW.alike hKc, hDc.weaken (fun _ _ _ _ => trivial), by rw [hU9]; exact ((hU.kept (fun a h1 h2 => hS.2.1 a h1 h2)).narrow hFc).moved hW.alike, by rw [hU9]; exact ((hN.kept (fun a h1 h2 => hS.2.1 a h1 h2)).narrow hFc).moved hW.alike, fun w h => cd_warm (ngX11_161_cd w h) hW (hngX11_161 w h)⟩⟩ rfl rfl hl.1 rfl (lv_room (Nat.le_of_ble_eq_true rfl)) dL_prove_3 ⟨by decide +kernel, by decide +kernel⟩) hS (fun q _ h => hFc q h) hFc (fun q _ h => hFc q h) (fun E ce q9 u t H1 locs1 ht hvm hw hB hz1 hk1 hS hc1 hc2 hc3 => ?_) (fun r3 u t H1 locs ht hvm hw hB hz1 hk1 hS => ?_)
  · have hE : E = u := hB
    subst hE
    obtain ⟨hP, hD⟩ := va_join (wr := [(o, .inl (kO, 1, .inr (.inl (fun _ => 0))))]) (w1 := []) hP hD [0, 1] [2] rfl rfl (by decide) (by decide) hk1 hFc nilP nilD
    have hP : va_P (dC, dI) vwCl [(o, .inl (kO, 1, .inr (.inl (fun _ => 0))))] H1 := hP
    have hD : va_D A [(o, .inl (kO, 1, .inr (.inl (fun _ => 0))))] := hD
    refine vx_widen (k := 1) (n := 6) (by decide +kernel) (by decide +kernel) ?_
    obtain ⟨hu, hxc⟩ := hw
    subst hu
    refine vx_catch (own := RL) (name := "java/lang/IllegalStateException") hown [] ⟨0, 8, 11, 32⟩ [] (by rw [htb]; rfl) (fun z hz => absurd hz List.not_mem_nil) (by decide) (by decide) (hts (.classLink RL 32 "java/lang/IllegalStateException") (by decide +kernel)) (va_Nw.use rfl (hngX11_161 (.castable "java/lang/IllegalStateException" "java/lang/IllegalStateException") (by decide +kernel))) hc1 hc2 hc3 ?_
    generalize H1 = H at hP hS hc1 ⊢
    refine lv_astore_n (lv' := [(2, .ref q9), (0, .ref h0), (1, .ref o)]) hx hb dL_prove_11 rfl hl (by decide) rfl (fun ls hl => ?_)
    refine lv_iconst (v := 1) hx hb dL_prove_12 (by decide) ?_
    refine W.widen (k := 1) (n := 6) (by decide +kernel) (by decide +kernel) ?_
    exact W.iret (v := 1) hx hb hr (fun t ht hW => ⟨⟨1, (fun _ => 0), rfl, by (first | rfl | assumption | trivial | omega | (simp []; done) | (simp; omega)), by rw [ht]; exact hP.sub [0] rfl, va_K.moved hW.alike (hK.sub [] rfl), hD.sub [0] (by decide) rfl⟩, hS.F ht⟩) hS.2.2 dL_prove_13
  exact False.elim hw
def wsPL_multiplier : List Cond := .codeWith yL_multiplier cL_multiplier 4 (some .int) [(0, 9, 12, 32), (0, 9, 15, 19)] :: ([.classLink RL 32 "java/lang/IllegalStateException"] ++ (wsV RL 57 RX11 yX11_multiplier wsPX11_multiplier))
theorem gwsPL_multiplier_0 : GoodIn wsPL_multiplier (wsV RL 57 RX11 yX11_multiplier wsPX11_multiplier) := goodIn_sub (fun _ h => List.mem_cons_of_mem _ (List.mem_append_right _ h)) (by decide +kernel)
set_option maxHeartbeats 4000000 in
set_option maxRecDepth 100000 in
/-- the law's multiplier, on a fresh object -/
theorem p_L_multiplier (l : Launch) (hst : l.stackTraces = false) (dC : Nat → ClassId) (dI : Nat → Nat → Nat) (h0 : Nat) (a : Nat → Nat) (o : Nat) (kO : ClassId) (qi : Int32) (sz : Nat) : Met l yL_multiplier wsPL_multiplier ({ frames := 7, cells := 1, slots := 6, locals := 102 }) (va_Pc [.ref h0, .int qi, .ref o] (fun U => U.heap.size = sz ∧ va_P (dC, dI) vwCl [(h0, .inr (11, [.ref (a 0), .ref (a 1), .ref (a 3), .ref (a 14), .int 0, .null, .null, .null, .null, .null, .null])), (o, .inl (kO, 1, .inr (.inl (fun _ => 0))))] U.heap ∧ va_K (dC, dI) vwCl [(kO, .long)] U ∧ va_D (fun _ => True) [(h0, .inr (11, [.ref (a 0), .ref (a 1), .ref (a 3), .ref (a 14), .int 0, .null, .null, .null, .null, .null, .null])), (o, .inl (kO, 1, .inr (.inl (fun _ => 0))))] ∧ vx_Zq Bundle.tN "UNASSIGNED_STACK" Bundle.steD (va_A [(h0, .inr (11, [.ref (a 0), .ref (a 1), .ref (a 3), .ref (a 14), .int 0, .null, .null, .null, .null, .null, .null])), (o, .inl (kO, 1, .inr (.inl (fun _ => 0))))] sz) U U.heap ∧ vx_Zq Bundle.tN "SUPPRESSED_SENTINEL" Bundle.listD (va_A [(h0, .inr (11, [.ref (a 0), .ref (a 1), .ref (a 3), .ref (a 14), .int 0, .null, .null, .null, .null, .null, .null])), (o, .inl (kO, 1, .inr (.inl (fun _ => 0))))] sz) U U.heap ∧ (∀ w ∈ ngX11_161, va_Nw w U))) (va_Qi (fun (r : Int32) (u : Nat → Int64) => r = 1) (fun (u : Nat → Int64) t => va_P (dC, dI) vwCl [(o, .inl (kO, 1, .inr (.inl u)))] t.heap ∧ va_K (dC, dI) vwCl [] t ∧ va_D (va_A [(h0, .inr (11, [.ref (a 0), .ref (a 1), .ref (a 3), .ref (a 14), .int 0, .null, .null, .null, .null, .null, .null])), (o, .inl (kO, 1, .inr (.inl (fun _ => 0))))] sz) [(o, .inl (kO, 1, .inr (.inl u)))]) (va_A [(h0, .inr (11, [.ref (a 0), .ref (a 1), .ref (a 3), .ref (a 14), .int 0, .null, .null, .null, .null, .null, .null])), (o, .inl (kO, 1, .inr (.inl (fun _ => 0))))] sz)) 1 6 (va_A [(h0, .inr (11, [.ref (a 0), .ref (a 1), .ref (a 3), .ref (a 14), .int 0, .null, .null, .null, .null, .null, .null])), (o, .inl (kO, 1, .inr (.inl (fun _ => 0))))] sz) := by
  refine ofWC (hh := [(0, 9, 12, 32), (0, 9, 15, 19)]) (cc := cL_multiplier) (maxL := 4) (ret := (some .int)) (by decide) rfl ?_
  intro p e s m args below meth c s₁ B hml hv
  obtain ⟨rfl, hsz, hP, hK, hD0, hU, hN, hngX11_161⟩ := hv
  have hx := B.exec
  have hb := B.bytes
  have hr := B.returns
  have hts := atoms_spec (ws := wsPL_multiplier) B.pre
  have hown : s.vm.findClass RL = some m.cls := findClass_of_methodNamed B.named
  have hlocks := B.notSynchronized
  have htb : c.exceptionTable.toList = tableOf [(0, 9, 12, 32), (0, 9, 15, 19)] := vx_table (x := yL_multiplier) B (hts _ List.mem_cons_self)
  subst hsz
  have hD := hD0.self (sz := s.heap.size)
  generalize hAe : va_A [(h0, .inr (11, [.ref (a 0), .ref (a 1), .ref (a 3), .ref (a 14), .int 0, .null, .null, .null, .null, .null, .null])), (o, .inl (kO, 1, .inr (.inl (fun _ => 0))))] s.heap.size = A at hD hU hN ⊢
  have hA : ∀ q : Nat, s.heap.size ≤ q → A q := fun q h => by rw [← hAe]; exact Or.inr h
  have hS : va_S A s.heap s.heap [] := va_S.rf
  have hP : va_P (dC, dI) vwCl [(h0, .inr (11, [.ref (a 0), .ref (a 1), .ref (a 3), .ref (a 14), .int 0, .null, .null, .null, .null, .null, .null])), (o, .inl (kO, 1, .inr (.inl (fun _ => 0))))] s.heap := hP
  have hl := lv_entry ([.ref h0, .int qi, .ref o]) (n := 4) (Nat.le_of_ble_eq_true rfl)
  rw [lg_entry_eq]
  generalize (lg_sl ([.ref h0, .int qi, .ref o]) ++ List.replicate (4 - (lg_sl ([.ref h0, .int qi, .ref o])).length) Slot.unset).toArray = ls at hl ⊢
  have hl : lv_has ls 4 [(0, .ref h0), (1, .int qi), (2, .ref o)] := hl
  refine lv_aload_n hx hb dL_multiplier_0 rfl (lv_at hl 2 rfl) ?_
  refine lv_iconst (v := 0) hx hb dL_multiplier_1 (by decide) ?_
  refine lv_aload_n hx hb dL_multiplier_2 rfl (lv_at hl 0 rfl) ?_
  refine lv_iload_n hx hb dL_multiplier_3 rfl (lv_at hl 1 rfl) ?_
  have hPc := hP.sub (ws' := [(h0, .inr (11, [.ref (a 0), .ref (a 1), .ref (a 3), .ref (a 14), .int 0, .null, .null, .null, .null, .null, .null]))]) [0] rfl
  have hDc := hD.sub (ws' := [(h0, .inr (11, [.ref (a 0), .ref (a 1), .ref (a 3), .ref (a 14), .int 0, .null, .null, .null, .null, .null, .null]))]) [0] (by decide) rfl
  have hKc := hK.sub (tys' := []) [] rfl
  have hFc := va_free (wc := [(h0, .inr (11, [.ref (a 0), .ref (a 1), .ref (a 3), .ref (a 14), .int 0, .null, .null, .null, .null, .null, .null]))]) hD hS hA [0] rfl
  refine vx_calli (vx_runV (As := [.int qi]) (rest := [.int 0, .ref o]) ⟨hx, hb, hml, hown, hts⟩ (p_X11_multiplier l hst dC dI h0 a qi s.heap.size) (cwV 1 hts gwsPL_multiplier_0 rfl rfl rfl (by decide +kernel) ⟨by decide +kernel, by decide +kernel⟩) ⟨fun a U g mk q => by obtain ⟨q0, q1, qP, qK, qD, qU, qN, qngX11_161⟩ := q; exact ⟨q0, q1, qP, va_K.moved (u := U) (U := U.calling g mk a) (Vm.Alike.refl U.vm) qK, qD, vx_Zq.moved (u := U) (U := U.calling g mk a) (Vm.Alike.refl U.vm) qU, vx_Zq.moved (u := U) (U := U.calling g mk a) (Vm.Alike.refl U.vm) qN, fun w h => va_Nw.same (u := U) (U := U.calling g mk a) (ngX11_161_ot w h) rfl (qngX11_161 w h)⟩, va_recv hKc hPc (ci := 11) (q0 := 0) rfl rfl, fun U hU9 hW => ⟨rfl, by rw [hU9], by rw [hU9]; exact hPc, va_K.moved hW.alike hKc, hDc.weaken (fun _ _ _ _ => trivial), by rw [hU9]; exact ((hU.kept (fun a h1 h2 => hS.2.1 a h1 h2)).narrow hFc).moved hW.alike, by rw [hU9]; exact ((hN.kept (fun a h1 h2 => hS.2.1 a h1 h2)).narrow hFc).moved hW.alike, fun w h => cd_warm (ngX11_161_cd w h) hW (hngX11_161 w h)⟩⟩ rfl rfl hl.1 rfl (lv_room (Nat.le_of_ble_eq_true rfl)) dL_multiplier_4 ⟨by decide +kernel, by decide +kernel⟩) hS (fun q _ h => hFc q h) hFc (fun q _ h => hFc q h) (fun E ce q9 u t H1 locs1 ht hvm hw hB hz1 hk1 hS hc1 hc2 hc3 => ?_) (fun r4 u t H1 locs ht hvm hw hB hz1 hk1 hS => ?_)
  · have hE : E = u := hB
    subst hE
    obtain ⟨hP, hD⟩ := va_join (wr := [(o, .inl (kO, 1, .inr (.inl (fun _ => 0))))]) (w1 := []) hP hD [0] [1] rfl rfl (by decide) (by decide) hk1 hFc nilP nilD
    have hP : va_P (dC, dI) vwCl [(o, .inl (kO, 1, .inr (.inl (fun _ => 0))))] H1 := hP
    have hD : va_D A [(o, .inl (kO, 1, .inr (.inl (fun _ => 0))))] := hD
    refine vx_widen (k := 1) (n := 6) (by decide +kernel) (by decide +kernel) ?_
    obtain ⟨hu, hxc⟩ := hw
    subst hu
    refine vx_catch (own := RL) (name := "java/lang/IllegalStateException") hown [] ⟨0, 9, 12, 32⟩ [⟨0, 9, 15, 19⟩] (by rw [htb]; rfl) (fun z hz => absurd hz List.not_mem_nil) (by decide) (by decide) (hts (.classLink RL 32 "java/lang/IllegalStateException") (by decide +kernel)) (va_Nw.use rfl (hngX11_161 (.castable "java/lang/IllegalStateException" "java/lang/IllegalStateException") (by decide +kernel))) hc1 hc2 hc3 ?_
    generalize H1 = H at hP hS hc1 ⊢
    refine lv_astore_n (lv' := [(3, .ref q9), (0, .ref h0), (1, .int qi), (2, .ref o)]) hx hb dL_multiplier_12 rfl hl (by decide) rfl (fun ls hl => ?_)
    refine lv_iconst (v := 1) hx hb dL_multiplier_13 (by decide) ?_
    refine W.widen (k := 1) (n := 6) (by decide +kernel) (by decide +kernel) ?_
    exact W.iret (v := 1) hx hb hr (fun t ht hW => ⟨⟨1, (fun _ => 0), rfl, by (first | rfl | assumption | trivial | omega | (simp []; done) | (simp; omega)), by rw [ht]; exact hP.sub [0] rfl, va_K.moved hW.alike (hK.sub [] rfl), hD.sub [0] (by decide) rfl⟩, hS.F ht⟩) hS.2.2 dL_multiplier_14
  exact False.elim hw
theorem dL_rule_0 : decode cL_rule 0 = .ok (.aload 5, 2) := by decide +kernel
theorem dL_rule_2 : decode cL_rule 2 = .ok (.iconst 0, 1) := by decide +kernel
theorem dL_rule_3 : decode cL_rule 3 = .ok (.aload_n 0, 1) := by decide +kernel
theorem dL_rule_4 : decode cL_rule 4 = .ok (.iload_n 1, 1) := by decide +kernel
theorem dL_rule_5 : decode cL_rule 5 = .ok (.iload_n 2, 1) := by decide +kernel
theorem dL_rule_6 : decode cL_rule 6 = .ok (.iload_n 3, 1) := by decide +kernel
theorem dL_rule_7 : decode cL_rule 7 = .ok (.iload 4, 2) := by decide +kernel
theorem dL_rule_9 : decode cL_rule 9 = .ok (.invokevirtual 63, 3) := by decide +kernel
theorem dL_rule_17 : decode cL_rule 17 = .ok (.astore 6, 2) := by decide +kernel
theorem dL_rule_19 : decode cL_rule 19 = .ok (.iconst 1, 1) := by decide +kernel
theorem dL_rule_20 : decode cL_rule 20 = .ok (.ireturn, 1) := by decide +kernel
def wsPL_rule : List Cond := .codeWith yL_rule cL_rule 7 (some .int) [(0, 14, 17, 13), (0, 14, 21, 32)] :: ([.classLink RL 13 "java/lang/IllegalArgumentException"] ++ (wsV RL 63 RX11 yX11_rule wsPX11_rule))
theorem gwsPL_rule_0 : GoodIn wsPL_rule (wsV RL 63 RX11 yX11_rule wsPX11_rule) := goodIn_sub (fun _ h => List.mem_cons_of_mem _ (List.mem_append_right _ h)) (by decide +kernel)
set_option maxHeartbeats 4000000 in
set_option maxRecDepth 100000 in
/-- the law's rule, on a fresh object -/
theorem p_L_rule (l : Launch) (hst : l.stackTraces = false) (dC : Nat → ClassId) (dI : Nat → Nat → Nat) (h0 : Nat) (a : Nat → Nat) (o : Nat) (kO : ClassId) (qk : Int32) (qa : Int32) (qb : Int32) (qc : Int32) (sz : Nat) : Met l yL_rule wsPL_rule ({ frames := 7, cells := 16, slots := 1414, locals := 105 }) (va_Pc [.ref h0, .int qk, .int qa, .int qb, .int qc, .ref o] (fun U => U.heap.size = sz ∧ va_P (dC, dI) vwCl [(h0, .inr (11, [.ref (a 0), .ref (a 1), .ref (a 3), .ref (a 14), .int 0, .null, .null, .null, .null, .null, .null])), (o, .inl (kO, 1, .inr (.inl (fun _ => 0))))] U.heap ∧ va_K (dC, dI) vwCl [(kO, .long)] U ∧ va_D (fun _ => True) [(h0, .inr (11, [.ref (a 0), .ref (a 1), .ref (a 3), .ref (a 14), .int 0, .null, .null, .null, .null, .null, .null])), (o, .inl (kO, 1, .inr (.inl (fun _ => 0))))] ∧ vx_Zq Bundle.tN "UNASSIGNED_STACK" Bundle.steD (va_A [(h0, .inr (11, [.ref (a 0), .ref (a 1), .ref (a 3), .ref (a 14), .int 0, .null, .null, .null, .null, .null, .null])), (o, .inl (kO, 1, .inr (.inl (fun _ => 0))))] sz) U U.heap ∧ vx_Zq Bundle.tN "SUPPRESSED_SENTINEL" Bundle.listD (va_A [(h0, .inr (11, [.ref (a 0), .ref (a 1), .ref (a 3), .ref (a 14), .int 0, .null, .null, .null, .null, .null, .null])), (o, .inl (kO, 1, .inr (.inl (fun _ => 0))))] sz) U U.heap ∧ (∀ w ∈ ngX11_79, va_Nw w U) ∧ va_Nw (.methodLinkNest RX11 343 yX7_init RX11) U)) (va_Qi (fun (r : Int32) (u : Nat → Int64) => r = 1) (fun (u : Nat → Int64) t => va_P (dC, dI) vwCl [(o, .inl (kO, 1, .inr (.inl u)))] t.heap ∧ va_K (dC, dI) vwCl [] t ∧ va_D (va_A [(h0, .inr (11, [.ref (a 0), .ref (a 1), .ref (a 3), .ref (a 14), .int 0, .null, .null, .null, .null, .null, .null])), (o, .inl (kO, 1, .inr (.inl (fun _ => 0))))] sz) [(o, .inl (kO, 1, .inr (.inl u)))]) (va_A [(h0, .inr (11, [.ref (a 0), .ref (a 1), .ref (a 3), .ref (a 14), .int 0, .null, .null, .null, .null, .null, .null])), (o, .inl (kO, 1, .inr (.inl (fun _ => 0))))] sz)) 16 1414 (va_A [(h0, .inr (11, [.ref (a 0), .ref (a 1), .ref (a 3), .ref (a 14), .int 0, .null, .null, .null, .null, .null, .null])), (o, .inl (kO, 1, .inr (.inl (fun _ => 0))))] sz) := by
  refine ofWC (hh := [(0, 14, 17, 13), (0, 14, 21, 32)]) (cc := cL_rule) (maxL := 7) (ret := (some .int)) (by decide) rfl ?_
  intro p e s m args below meth c s₁ B hml hv
  obtain ⟨rfl, hsz, hP, hK, hD0, hU, hN, hngX11_79, hnX11_343⟩ := hv
  have hx := B.exec
  have hb := B.bytes
  have hr := B.returns
  have hts := atoms_spec (ws := wsPL_rule) B.pre
  have hown : s.vm.findClass RL = some m.cls := findClass_of_methodNamed B.named
  have hlocks := B.notSynchronized
  have htb : c.exceptionTable.toList = tableOf [(0, 14, 17, 13), (0, 14, 21, 32)] := vx_table (x := yL_rule) B (hts _ List.mem_cons_self)
  subst hsz
  have hD := hD0.self (sz := s.heap.size)
  generalize hAe : va_A [(h0, .inr (11, [.ref (a 0), .ref (a 1), .ref (a 3), .ref (a 14), .int 0, .null, .null, .null, .null, .null, .null])), (o, .inl (kO, 1, .inr (.inl (fun _ => 0))))] s.heap.size = A at hD hU hN ⊢
  have hA : ∀ q : Nat, s.heap.size ≤ q → A q := fun q h => by rw [← hAe]; exact Or.inr h
  have hS : va_S A s.heap s.heap [] := va_S.rf
  have hP : va_P (dC, dI) vwCl [(h0, .inr (11, [.ref (a 0), .ref (a 1), .ref (a 3), .ref (a 14), .int 0, .null, .null, .null, .null, .null, .null])), (o, .inl (kO, 1, .inr (.inl (fun _ => 0))))] s.heap := hP
  have hl := lv_entry ([.ref h0, .int qk, .int qa, .int qb, .int qc, .ref o]) (n := 7) (Nat.le_of_ble_eq_true rfl)
  rw [lg_entry_eq]
  generalize (lg_sl ([.ref h0, .int qk, .int qa, .int qb, .int qc, .ref o]) ++ List.replicate (7 - (lg_sl ([.ref h0, .int qk, .int qa, .int qb, .int qc, .ref o])).length) Slot.unset).toArray = ls at hl ⊢
  have hl : lv_has ls 7 [(0, .ref h0), (1, .int qk), (2, .int qa), (3, .int qb), (4, .int qc), (5, .ref o)] := hl
  refine lv_aload hx hb dL_rule_0 (lv_at hl 5 rfl) ?_
  refine lv_iconst (v := 0) hx hb dL_rule_2 (by decide) ?_
  refine lv_aload_n hx hb dL_rule_3 rfl (lv_at hl 0 rfl) ?_
  refine lv_iload_n hx hb dL_rule_4 rfl (lv_at hl 1 rfl) ?_
  refine lv_iload_n hx hb dL_rule_5 rfl (lv_at hl 2 rfl) ?_
  refine lv_iload_n hx hb dL_rule_6 rfl (lv_at hl 3 rfl) ?_
  refine lv_iload hx hb dL_rule_7 (lv_at hl 4 rfl) ?_
  have hPc := hP.sub (ws' := [(h0, .inr (11, [.ref (a 0), .ref (a 1), .ref (a 3), .ref (a 14), .int 0, .null, .null, .null, .null, .null, .null]))]) [0] rfl
  have hDc := hD.sub (ws' := [(h0, .inr (11, [.ref (a 0), .ref (a 1), .ref (a 3), .ref (a 14), .int 0, .null, .null, .null, .null, .null, .null]))]) [0] (by decide) rfl
  have hKc := hK.sub (tys' := []) [] rfl
  have hFc := va_free (wc := [(h0, .inr (11, [.ref (a 0), .ref (a 1), .ref (a 3), .ref (a 14), .int 0, .null, .null, .null, .null, .null, .null]))]) hD hS hA [0] rfl
  refine vx_calli (vx_runV (As := [.int qk, .int qa, .int qb, .int qc]) (rest := [.int 0, .ref o]) ⟨hx, hb, hml, hown, hts⟩ (p_X11_rule l hst dC dI h0 a qk qa qb qc s.heap.size) (cwV 4 hts gwsPL_rule_0 rfl rfl rfl (by decide +kernel) ⟨by decide +kernel, by decide +kernel⟩) ⟨fun a U g mk q => by obtain ⟨q0, q1, qP, qK, qD, qU, qN, qngX11_79, qhnX11_343⟩ := q; exact ⟨q0, q1, qP, va_K.moved (u := U) (U := U.calling g mk a) (Vm.Alike.refl U.vm) qK, qD, vx_Zq.moved (u := U) (U := U.calling g mk a) (Vm.Alike.refl U.vm) qU, vx_Zq.moved (u := U) (U := U.calling g mk a) (Vm.Alike.refl U.vm) qN, fun w h => va_Nw.same (u := U) (U := U.calling g mk a) (ngX11_79_ot w h) rfl (qngX11_79 w h), va_Nw.same (u := U) (U := U.calling g mk a) rfl rfl qhnX11_343⟩, va_recv hKc hPc (ci := 11) (q0 := 0) rfl rfl, fun U hU9 hW => ⟨rfl, by rw [hU9], by rw [hU9]; exact hPc, va_K.moved hW.alike hKc, hDc.weaken (fun _ _ _ _ => trivial), by rw [hU9]; exact ((hU.kept (fun a h1 h2 => hS.2.1 a h1 h2)).narrow hFc).moved hW.alike, by rw [hU9]; exact ((hN.kept (fun a h1 h2 => hS.2.1 a h1 h2)).narrow hFc).moved hW.alike, fun w h => cd_warm (ngX11_79_cd w h) hW (hngX11_79 w h), va_Nw.warmM hW hnX11_343⟩⟩ rfl rfl hl.1 rfl (lv_room (Nat.le_of_ble_eq_true rfl)) dL_rule_9 ⟨by decide +kernel, by decide +kernel⟩) hS (fun q _ h => hFc q h) hFc (fun q _ h => hFc q h) (fun E ce q9 u t H1 locs1 ht hvm hw hB hz1 hk1 hS hc1 hc2 hc3 => ?_) (fun r9 u t H1 locs ht hvm hw hB hz1 hk1 hS => ?_)
  · have hE : E = u := hB
    subst hE
    obtain ⟨hP, hD⟩ := va_join (wr := [(o, .inl (kO, 1, .inr (.inl (fun _ => 0))))]) (w1 := []) hP hD [0] [1] rfl rfl (by decide) (by decide) hk1 hFc nilP nilD
    have hP : va_P (dC, dI) vwCl [(o, .inl (kO, 1, .inr (.inl (fun _ => 0))))] H1 := hP
    have hD : va_D A [(o, .inl (kO, 1, .inr (.inl (fun _ => 0))))] := hD
    refine vx_widen (k := 16) (n := 1414) (by decide +kernel) (by decide +kernel) ?_
    obtain ⟨hu, hxc⟩ := hw
    subst hu
    refine vx_catch (own := RL) (name := "java/lang/IllegalArgumentException") hown [] ⟨0, 14, 17, 13⟩ [⟨0, 14, 21, 32⟩] (by rw [htb]; rfl) (fun z hz => absurd hz List.not_mem_nil) (by decide) (by decide) (hts (.classLink RL 13 "java/lang/IllegalArgumentException") (by decide +kernel)) (va_Nw.use rfl (hngX11_79 (.castable "java/lang/IllegalArgumentException" "java/lang/IllegalArgumentException") (by decide +kernel))) hc1 hc2 hc3 ?_
    generalize H1 = H at hP hS hc1 ⊢
    refine lv_astore (lv' := [(6, .ref q9), (0, .ref h0), (1, .int qk), (2, .int qa), (3, .int qb), (4, .int qc), (5, .ref o)]) hx hb dL_rule_17 hl (by decide) rfl (fun ls hl => ?_)
    refine lv_iconst (v := 1) hx hb dL_rule_19 (by decide) ?_
    refine W.widen (k := 16) (n := 1414) (by decide +kernel) (by decide +kernel) ?_
    exact W.iret (v := 1) hx hb hr (fun t ht hW => ⟨⟨1, (fun _ => 0), rfl, by (first | rfl | assumption | trivial | omega | (simp []; done) | (simp; omega)), by rw [ht]; exact hP.sub [0] rfl, va_K.moved hW.alike (hK.sub [] rfl), hD.sub [0] (by decide) rfl⟩, hS.F ht⟩) hS.2.2 dL_rule_20
  exact False.elim hw

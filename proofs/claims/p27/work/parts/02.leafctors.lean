def wsX0_init : List Cond := .code yX0_init cX0_init 1 none :: ([.methodLink RX0 3 objectInit, .instanceMethod objectInit, .code objectInit ⟨#[0xb1]⟩ 1 none, .arrayClass .int, .fieldLink RX0 11 "OptimaWorks$ClauseDesk" "wants" "[I", .fieldLink RX0 15 "OptimaWorks$ClauseDesk" "wantsNot" "[I", .fieldLink RX0 18 "OptimaWorks$ClauseDesk" "weight" "[I", .fieldLink RX0 21 "OptimaWorks$ClauseDesk" "broken" "[I", .fieldLink RX0 24 "OptimaWorks$ClauseDesk" "loss" "[I"] ++ wsX00)
def wX0 (a : Nat → Nat) (k : Nat → ClassId) (h0 : Nat) : va_W := [(h0, .inr (0, [.int 0, .ref (a 0), .ref (a 1), .ref (a 2), .ref (a 3), .ref (a 4), .int 0])), ((a 0), .inl ((k 0), 24, .inl (fun _ => 0))), ((a 1), .inl ((k 1), 24, .inl (fun _ => 0))), ((a 2), .inl ((k 2), 24, .inl (fun _ => 0))), ((a 3), .inl ((k 3), 4096, .inl (fun _ => 0))), ((a 4), .inl ((k 4), 4096, .inl (fun _ => 0)))]
def tX0 (k : Nat → ClassId) : List (ClassId × FieldType) := [((k 0), .int), ((k 1), .int), ((k 2), .int), ((k 3), .int), ((k 4), .int)]
theorem dX0_init_0 : decode cX0_init 0 = .ok (.aload_n 0, 1) := dk_42 (by decide +kernel)
theorem dX0_init_1 : decode cX0_init 1 = .ok (.invokespecial 3, 3) := dk_183 (by decide +kernel)
theorem dX0_init_4 : decode cX0_init 4 = .ok (.aload_n 0, 1) := dk_42 (by decide +kernel)
theorem dX0_init_5 : decode cX0_init 5 = .ok (.bipush 24, 2) := dk_16 (by decide +kernel)
theorem dX0_init_7 : decode cX0_init 7 = .ok (.newarray .int, 2) := by decide +kernel
theorem dX0_init_9 : decode cX0_init 9 = .ok (.putfield 11, 3) := dk_181 (by decide +kernel)
theorem dX0_init_12 : decode cX0_init 12 = .ok (.aload_n 0, 1) := dk_42 (by decide +kernel)
theorem dX0_init_13 : decode cX0_init 13 = .ok (.bipush 24, 2) := dk_16 (by decide +kernel)
theorem dX0_init_15 : decode cX0_init 15 = .ok (.newarray .int, 2) := by decide +kernel
theorem dX0_init_17 : decode cX0_init 17 = .ok (.putfield 15, 3) := dk_181 (by decide +kernel)
theorem dX0_init_20 : decode cX0_init 20 = .ok (.aload_n 0, 1) := dk_42 (by decide +kernel)
theorem dX0_init_21 : decode cX0_init 21 = .ok (.bipush 24, 2) := dk_16 (by decide +kernel)
theorem dX0_init_23 : decode cX0_init 23 = .ok (.newarray .int, 2) := by decide +kernel
theorem dX0_init_25 : decode cX0_init 25 = .ok (.putfield 18, 3) := dk_181 (by decide +kernel)
theorem dX0_init_28 : decode cX0_init 28 = .ok (.aload_n 0, 1) := dk_42 (by decide +kernel)
theorem dX0_init_29 : decode cX0_init 29 = .ok (.sipush 4096, 3) := dk_17 (by decide +kernel)
theorem dX0_init_32 : decode cX0_init 32 = .ok (.newarray .int, 2) := by decide +kernel
theorem dX0_init_34 : decode cX0_init 34 = .ok (.putfield 21, 3) := dk_181 (by decide +kernel)
theorem dX0_init_37 : decode cX0_init 37 = .ok (.aload_n 0, 1) := dk_42 (by decide +kernel)
theorem dX0_init_38 : decode cX0_init 38 = .ok (.sipush 4096, 3) := dk_17 (by decide +kernel)
theorem dX0_init_41 : decode cX0_init 41 = .ok (.newarray .int, 2) := by decide +kernel
theorem dX0_init_43 : decode cX0_init 43 = .ok (.putfield 24, 3) := dk_181 (by decide +kernel)
theorem dX0_init_46 : decode cX0_init 46 = .ok (.return_, 1) := dk_177 (by decide +kernel)
theorem iX0_init_in0 : ∀ w ∈ wsX00, w ∈ wsX0_init := fun _ h => List.mem_cons_of_mem _ (List.mem_append_right _ h)
set_option maxHeartbeats 4000000 in
set_option maxRecDepth 100000 in
/-- ClauseDesk(): five rows of ints come -/
theorem c_X0_init (l : Launch) (dC : Nat → ClassId) (dI : Nat → Nat → Nat) (h0 : Nat) (sz : Nat) : Met l yX0_init wsX0_init ({ frames := 1, cells := 5, slots := 8264, locals := 12 }) (va_Pc [.ref h0] (fun U => U.heap.size = sz ∧ va_P (dC, dI) vwCl [(h0, .inr (0, [.int 0, .null, .null, .null, .null, .null, .int 0]))] U.heap ∧ va_K (dC, dI) vwCl [] U ∧ va_D (fun _ => True) [(h0, .inr (0, [.int 0, .null, .null, .null, .null, .null, .int 0]))])) (va_Qv (fun _ : (Nat → Nat) × (Nat → ClassId) => True) (fun u t => va_P (dC, dI) vwCl (wX0 u.1 u.2 h0) t.heap ∧ va_K (dC, dI) vwCl (tX0 u.2) t ∧ va_D (va_A [(h0, .inr (0, [.int 0, .null, .null, .null, .null, .null, .int 0]))] sz) (wX0 u.1 u.2 h0)) (va_A [(h0, .inr (0, [.int 0, .null, .null, .null, .null, .null, .int 0]))] sz)) 5 8264 (va_A [(h0, .inr (0, [.int 0, .null, .null, .null, .null, .null, .int 0]))] sz) := by
  refine Met.ofW (cc := cX0_init) (maxL := 1) (ret := none) (by decide) rfl ?_
  intro p e s m args below meth c s₁ B hml hv
  obtain ⟨rfl, hsz, hP, hK, hD0⟩ := hv
  have hx := B.exec
  have hb := B.bytes
  have hr := B.returns
  have hts := atoms_spec (ws := wsX0_init) B.pre
  have hown : s.vm.findClass RX0 = some m.cls := findClass_of_methodNamed B.named
  have hlocks := B.notSynchronized
  have hin : meth.name = "<init>" := (name_of_methodNamed B.named B.method).1
  subst hsz
  have hD := hD0.self (sz := s.heap.size)
  generalize hAe : va_A [(h0, .inr (0, [.int 0, .null, .null, .null, .null, .null, .int 0]))] s.heap.size = A at hD ⊢
  have hA : ∀ q : Nat, s.heap.size ≤ q → A q := fun q h => by rw [← hAe]; exact Or.inr h
  have hS : va_S A s.heap s.heap [] := va_S.rf
  have hP : va_P (dC, dI) vwCl [(h0, .inr (0, [.int 0, .null, .null, .null, .null, .null, .int 0]))] s.heap := hP
  have hl := lv_entry ([.ref h0]) (n := 1) (Nat.le_of_ble_eq_true rfl)
  rw [lg_entry_eq]
  generalize (lg_sl ([.ref h0]) ++ List.replicate (1 - (lg_sl ([.ref h0])).length) Slot.unset).toArray = ls at hl ⊢
  have hl : lv_has ls 1 [(0, .ref h0)] := hl
  refine lv_aload_n hx hb dX0_init_0 rfl (lv_at hl 0 rfl) ?_
  refine W.objInit hx hb hown (hts (.methodLink RX0 3 objectInit) (by decide +kernel)) (hts (.instanceMethod objectInit) (by decide +kernel)) (hts (.code objectInit ⟨#[0xb1]⟩ 1 none) (by decide +kernel)) rfl (by rw [hml]; exact hl.1) rfl dX0_init_1 (by decide +kernel) (Nat.le_of_ble_eq_true rfl) ?_
  refine W.eq (g2 := F0 m 4 ls []) rfl ?_
  refine lv_aload_n hx hb dX0_init_4 rfl (lv_at hl 0 rfl) ?_
  refine lv_bipush (v := 24) hx hb dX0_init_5 (by decide) ?_
  refine va_newa (atype := .int) (ty := .int) (N' := 24) (a0 := (24, .inl (fun _ => 0))) hx hb (hts (.arrayClass .int) (by decide +kernel)) rfl hK hP hD hS hA (fun _ => rfl) (by decide) (by decide) (by decide +kernel) (by decide +kernel) (by decide +kernel) dX0_init_7 (fun q7 k7 H hK hP hD hS => ?_)
  have hP : va_P (dC, dI) vwCl [(h0, .inr (0, [.int 0, .null, .null, .null, .null, .null, .int 0])), (q7, .inl (k7, 24, .inl (fun _ => 0)))] H := hP
  have hD : va_D A [(h0, .inr (0, [.int 0, .null, .null, .null, .null, .null, .int 0])), (q7, .inl (k7, 24, .inl (fun _ => 0)))] := hD
  have hK : va_K (dC, dI) vwCl [(k7, .int)] s := hK
  refine W.widen (k := 1) (n := 24) (by decide +kernel) (by decide +kernel) ?_
  refine va_putF (D := (dC, dI)) (ci := 0) (v := .ref q7) (ty := .array .int) (C := RX0) (T := TX0) (N := 7) hx hb hts iX0_init_in0 tyX0 tyX0_ok nmX0 hown hK hP hD hS 0 rfl rfl 1 (by decide) (hts (.fieldLink RX0 11 "OptimaWorks$ClauseDesk" "wants" "[I") (by decide +kernel)) (fun _ h9 => h9) rfl hin rfl (by decide +kernel) rfl rfl (Nat.le_of_ble_eq_true rfl) dX0_init_9 (fun H locs hP hD hS => ?_)
  have hP : va_P (dC, dI) vwCl [(h0, .inr (0, [.int 0, .ref q7, .null, .null, .null, .null, .int 0])), (q7, .inl (k7, 24, .inl (fun _ => 0)))] H := hP
  have hD : va_D A [(h0, .inr (0, [.int 0, .ref q7, .null, .null, .null, .null, .int 0])), (q7, .inl (k7, 24, .inl (fun _ => 0)))] := hD
  refine lv_aload_n hx hb dX0_init_12 rfl (lv_at hl 0 rfl) ?_
  refine lv_bipush (v := 24) hx hb dX0_init_13 (by decide) ?_
  refine va_newa (atype := .int) (ty := .int) (N' := 24) (a0 := (24, .inl (fun _ => 0))) hx hb (hts (.arrayClass .int) (by decide +kernel)) rfl hK hP hD hS hA (fun _ => rfl) (by decide) (by decide) (by decide +kernel) (by decide +kernel) (by decide +kernel) dX0_init_15 (fun q15 k15 H hK hP hD hS => ?_)
  have hP : va_P (dC, dI) vwCl [(h0, .inr (0, [.int 0, .ref q7, .null, .null, .null, .null, .int 0])), (q7, .inl (k7, 24, .inl (fun _ => 0))), (q15, .inl (k15, 24, .inl (fun _ => 0)))] H := hP
  have hD : va_D A [(h0, .inr (0, [.int 0, .ref q7, .null, .null, .null, .null, .int 0])), (q7, .inl (k7, 24, .inl (fun _ => 0))), (q15, .inl (k15, 24, .inl (fun _ => 0)))] := hD
  have hK : va_K (dC, dI) vwCl [(k7, .int), (k15, .int)] s := hK
  refine W.widen (k := 2) (n := 48) (by decide +kernel) (by decide +kernel) ?_
  refine va_putF (D := (dC, dI)) (ci := 0) (v := .ref q15) (ty := .array .int) (C := RX0) (T := TX0) (N := 7) hx hb hts iX0_init_in0 tyX0 tyX0_ok nmX0 hown hK hP hD hS 0 rfl rfl 2 (by decide) (hts (.fieldLink RX0 15 "OptimaWorks$ClauseDesk" "wantsNot" "[I") (by decide +kernel)) (fun _ h9 => h9) rfl hin rfl (by decide +kernel) rfl rfl (Nat.le_of_ble_eq_true rfl) dX0_init_17 (fun H locs hP hD hS => ?_)
  have hP : va_P (dC, dI) vwCl [(h0, .inr (0, [.int 0, .ref q7, .ref q15, .null, .null, .null, .int 0])), (q7, .inl (k7, 24, .inl (fun _ => 0))), (q15, .inl (k15, 24, .inl (fun _ => 0)))] H := hP
  have hD : va_D A [(h0, .inr (0, [.int 0, .ref q7, .ref q15, .null, .null, .null, .int 0])), (q7, .inl (k7, 24, .inl (fun _ => 0))), (q15, .inl (k15, 24, .inl (fun _ => 0)))] := hD
  refine lv_aload_n hx hb dX0_init_20 rfl (lv_at hl 0 rfl) ?_
  refine lv_bipush (v := 24) hx hb dX0_init_21 (by decide) ?_
  refine va_newa (atype := .int) (ty := .int) (N' := 24) (a0 := (24, .inl (fun _ => 0))) hx hb (hts (.arrayClass .int) (by decide +kernel)) rfl hK hP hD hS hA (fun _ => rfl) (by decide) (by decide) (by decide +kernel) (by decide +kernel) (by decide +kernel) dX0_init_23 (fun q23 k23 H hK hP hD hS => ?_)
  have hP : va_P (dC, dI) vwCl [(h0, .inr (0, [.int 0, .ref q7, .ref q15, .null, .null, .null, .int 0])), (q7, .inl (k7, 24, .inl (fun _ => 0))), (q15, .inl (k15, 24, .inl (fun _ => 0))), (q23, .inl (k23, 24, .inl (fun _ => 0)))] H := hP
  have hD : va_D A [(h0, .inr (0, [.int 0, .ref q7, .ref q15, .null, .null, .null, .int 0])), (q7, .inl (k7, 24, .inl (fun _ => 0))), (q15, .inl (k15, 24, .inl (fun _ => 0))), (q23, .inl (k23, 24, .inl (fun _ => 0)))] := hD
  have hK : va_K (dC, dI) vwCl [(k7, .int), (k15, .int), (k23, .int)] s := hK
  refine W.widen (k := 3) (n := 72) (by decide +kernel) (by decide +kernel) ?_
  refine va_putF (D := (dC, dI)) (ci := 0) (v := .ref q23) (ty := .array .int) (C := RX0) (T := TX0) (N := 7) hx hb hts iX0_init_in0 tyX0 tyX0_ok nmX0 hown hK hP hD hS 0 rfl rfl 3 (by decide) (hts (.fieldLink RX0 18 "OptimaWorks$ClauseDesk" "weight" "[I") (by decide +kernel)) (fun _ h9 => h9) rfl hin rfl (by decide +kernel) rfl rfl (Nat.le_of_ble_eq_true rfl) dX0_init_25 (fun H locs hP hD hS => ?_)
  have hP : va_P (dC, dI) vwCl [(h0, .inr (0, [.int 0, .ref q7, .ref q15, .ref q23, .null, .null, .int 0])), (q7, .inl (k7, 24, .inl (fun _ => 0))), (q15, .inl (k15, 24, .inl (fun _ => 0))), (q23, .inl (k23, 24, .inl (fun _ => 0)))] H := hP
  have hD : va_D A [(h0, .inr (0, [.int 0, .ref q7, .ref q15, .ref q23, .null, .null, .int 0])), (q7, .inl (k7, 24, .inl (fun _ => 0))), (q15, .inl (k15, 24, .inl (fun _ => 0))), (q23, .inl (k23, 24, .inl (fun _ => 0)))] := hD
  refine lv_aload_n hx hb dX0_init_28 rfl (lv_at hl 0 rfl) ?_
  refine lv_sipush (v := 4096) hx hb dX0_init_29 (by decide) ?_
  refine va_newa (atype := .int) (ty := .int) (N' := 4096) (a0 := (4096, .inl (fun _ => 0))) hx hb (hts (.arrayClass .int) (by decide +kernel)) rfl hK hP hD hS hA (fun _ => rfl) (by decide) (by decide) (by decide +kernel) (by decide +kernel) (by decide +kernel) dX0_init_32 (fun q32 k32 H hK hP hD hS => ?_)
  have hP : va_P (dC, dI) vwCl [(h0, .inr (0, [.int 0, .ref q7, .ref q15, .ref q23, .null, .null, .int 0])), (q7, .inl (k7, 24, .inl (fun _ => 0))), (q15, .inl (k15, 24, .inl (fun _ => 0))), (q23, .inl (k23, 24, .inl (fun _ => 0))), (q32, .inl (k32, 4096, .inl (fun _ => 0)))] H := hP
  have hD : va_D A [(h0, .inr (0, [.int 0, .ref q7, .ref q15, .ref q23, .null, .null, .int 0])), (q7, .inl (k7, 24, .inl (fun _ => 0))), (q15, .inl (k15, 24, .inl (fun _ => 0))), (q23, .inl (k23, 24, .inl (fun _ => 0))), (q32, .inl (k32, 4096, .inl (fun _ => 0)))] := hD
  have hK : va_K (dC, dI) vwCl [(k7, .int), (k15, .int), (k23, .int), (k32, .int)] s := hK
  refine W.widen (k := 4) (n := 4168) (by decide +kernel) (by decide +kernel) ?_
  refine va_putF (D := (dC, dI)) (ci := 0) (v := .ref q32) (ty := .array .int) (C := RX0) (T := TX0) (N := 7) hx hb hts iX0_init_in0 tyX0 tyX0_ok nmX0 hown hK hP hD hS 0 rfl rfl 4 (by decide) (hts (.fieldLink RX0 21 "OptimaWorks$ClauseDesk" "broken" "[I") (by decide +kernel)) (fun _ h9 => h9) rfl hin rfl (by decide +kernel) rfl rfl (Nat.le_of_ble_eq_true rfl) dX0_init_34 (fun H locs hP hD hS => ?_)
  have hP : va_P (dC, dI) vwCl [(h0, .inr (0, [.int 0, .ref q7, .ref q15, .ref q23, .ref q32, .null, .int 0])), (q7, .inl (k7, 24, .inl (fun _ => 0))), (q15, .inl (k15, 24, .inl (fun _ => 0))), (q23, .inl (k23, 24, .inl (fun _ => 0))), (q32, .inl (k32, 4096, .inl (fun _ => 0)))] H := hP
  have hD : va_D A [(h0, .inr (0, [.int 0, .ref q7, .ref q15, .ref q23, .ref q32, .null, .int 0])), (q7, .inl (k7, 24, .inl (fun _ => 0))), (q15, .inl (k15, 24, .inl (fun _ => 0))), (q23, .inl (k23, 24, .inl (fun _ => 0))), (q32, .inl (k32, 4096, .inl (fun _ => 0)))] := hD
  refine lv_aload_n hx hb dX0_init_37 rfl (lv_at hl 0 rfl) ?_
  refine lv_sipush (v := 4096) hx hb dX0_init_38 (by decide) ?_
  refine va_newa (atype := .int) (ty := .int) (N' := 4096) (a0 := (4096, .inl (fun _ => 0))) hx hb (hts (.arrayClass .int) (by decide +kernel)) rfl hK hP hD hS hA (fun _ => rfl) (by decide) (by decide) (by decide +kernel) (by decide +kernel) (by decide +kernel) dX0_init_41 (fun q41 k41 H hK hP hD hS => ?_)
  have hP : va_P (dC, dI) vwCl [(h0, .inr (0, [.int 0, .ref q7, .ref q15, .ref q23, .ref q32, .null, .int 0])), (q7, .inl (k7, 24, .inl (fun _ => 0))), (q15, .inl (k15, 24, .inl (fun _ => 0))), (q23, .inl (k23, 24, .inl (fun _ => 0))), (q32, .inl (k32, 4096, .inl (fun _ => 0))), (q41, .inl (k41, 4096, .inl (fun _ => 0)))] H := hP
  have hD : va_D A [(h0, .inr (0, [.int 0, .ref q7, .ref q15, .ref q23, .ref q32, .null, .int 0])), (q7, .inl (k7, 24, .inl (fun _ => 0))), (q15, .inl (k15, 24, .inl (fun _ => 0))), (q23, .inl (k23, 24, .inl (fun _ => 0))), (q32, .inl (k32, 4096, .inl (fun _ => 0))), (q41, .inl (k41, 4096, .inl (fun _ => 0)))] := hD
  have hK : va_K (dC, dI) vwCl [(k7, .int), (k15, .int), (k23, .int), (k32, .int), (k41, .int)] s := hK
  refine W.widen (k := 5) (n := 8264) (by decide +kernel) (by decide +kernel) ?_
  refine va_putF (D := (dC, dI)) (ci := 0) (v := .ref q41) (ty := .array .int) (C := RX0) (T := TX0) (N := 7) hx hb hts iX0_init_in0 tyX0 tyX0_ok nmX0 hown hK hP hD hS 0 rfl rfl 5 (by decide) (hts (.fieldLink RX0 24 "OptimaWorks$ClauseDesk" "loss" "[I") (by decide +kernel)) (fun _ h9 => h9) rfl hin rfl (by decide +kernel) rfl rfl (Nat.le_of_ble_eq_true rfl) dX0_init_43 (fun H locs hP hD hS => ?_)
  have hP : va_P (dC, dI) vwCl [(h0, .inr (0, [.int 0, .ref q7, .ref q15, .ref q23, .ref q32, .ref q41, .int 0])), (q7, .inl (k7, 24, .inl (fun _ => 0))), (q15, .inl (k15, 24, .inl (fun _ => 0))), (q23, .inl (k23, 24, .inl (fun _ => 0))), (q32, .inl (k32, 4096, .inl (fun _ => 0))), (q41, .inl (k41, 4096, .inl (fun _ => 0)))] H := hP
  have hD : va_D A [(h0, .inr (0, [.int 0, .ref q7, .ref q15, .ref q23, .ref q32, .ref q41, .int 0])), (q7, .inl (k7, 24, .inl (fun _ => 0))), (q15, .inl (k15, 24, .inl (fun _ => 0))), (q23, .inl (k23, 24, .inl (fun _ => 0))), (q32, .inl (k32, 4096, .inl (fun _ => 0))), (q41, .inl (k41, 4096, .inl (fun _ => 0)))] := hD
  refine W.widen (k := 5) (n := 8264) (by decide +kernel) (by decide +kernel) ?_
  exact W.vret hx hb hr (fun t ht hW => ⟨⟨((fun n => [q7, q15, q23, q32, q41].getD n 0), (fun n => [k7, k15, k23, k32, k41].getD n k7)), rfl, trivial, by rw [ht]; exact hP, va_K.moved hW.alike hK, hD⟩, hS.F ht⟩) hS.2.2 dX0_init_46
def wsX9_init : List Cond := .code yX9_init cX9_init 1 none :: ([.methodLink RX9 3 objectInit, .instanceMethod objectInit, .code objectInit ⟨#[0xb1]⟩ 1 none, .arrayClass .byte, .fieldLink RX9 9 "OptimaWorks$Words" "tape" "[B", .fieldLink RX9 15 "OptimaWorks$Words" "place" "I"] ++ wsX90)
def wX9 (a : Nat → Nat) (k : Nat → ClassId) (h0 : Nat) : va_W := [(h0, .inr (9, [.ref (a 0), .int 0, .int 0, .int (-1), .int 0, .int 0, .int 0, .long 0, .int 0])), ((a 0), .inl ((k 0), 64, .inl (fun _ => 0)))]
def tX9 (k : Nat → ClassId) : List (ClassId × FieldType) := [((k 0), .byte)]
theorem dX9_init_0 : decode cX9_init 0 = .ok (.aload_n 0, 1) := dk_42 (by decide +kernel)
theorem dX9_init_1 : decode cX9_init 1 = .ok (.invokespecial 3, 3) := dk_183 (by decide +kernel)
theorem dX9_init_4 : decode cX9_init 4 = .ok (.aload_n 0, 1) := dk_42 (by decide +kernel)
theorem dX9_init_5 : decode cX9_init 5 = .ok (.bipush 64, 2) := dk_16 (by decide +kernel)
theorem dX9_init_7 : decode cX9_init 7 = .ok (.newarray .byte, 2) := by decide +kernel
theorem dX9_init_9 : decode cX9_init 9 = .ok (.putfield 9, 3) := dk_181 (by decide +kernel)
theorem dX9_init_12 : decode cX9_init 12 = .ok (.aload_n 0, 1) := dk_42 (by decide +kernel)
theorem dX9_init_13 : decode cX9_init 13 = .ok (.iconst (-1), 1) := dk_2 (by decide +kernel)
theorem dX9_init_14 : decode cX9_init 14 = .ok (.putfield 15, 3) := dk_181 (by decide +kernel)
theorem dX9_init_17 : decode cX9_init 17 = .ok (.return_, 1) := dk_177 (by decide +kernel)
theorem iX9_init_in9 : ∀ w ∈ wsX90, w ∈ wsX9_init := fun _ h => List.mem_cons_of_mem _ (List.mem_append_right _ h)
set_option maxHeartbeats 4000000 in
set_option maxRecDepth 100000 in
/-- Words(): the tape of 64 bytes; no place -/
theorem c_X9_init (l : Launch) (dC : Nat → ClassId) (dI : Nat → Nat → Nat) (h0 : Nat) (sz : Nat) : Met l yX9_init wsX9_init ({ frames := 1, cells := 1, slots := 64, locals := 12 }) (va_Pc [.ref h0] (fun U => U.heap.size = sz ∧ va_P (dC, dI) vwCl [(h0, .inr (9, [.null, .int 0, .int 0, .int 0, .int 0, .int 0, .int 0, .long 0, .int 0]))] U.heap ∧ va_K (dC, dI) vwCl [] U ∧ va_D (fun _ => True) [(h0, .inr (9, [.null, .int 0, .int 0, .int 0, .int 0, .int 0, .int 0, .long 0, .int 0]))])) (va_Qv (fun _ : (Nat → Nat) × (Nat → ClassId) => True) (fun u t => va_P (dC, dI) vwCl (wX9 u.1 u.2 h0) t.heap ∧ va_K (dC, dI) vwCl (tX9 u.2) t ∧ va_D (va_A [(h0, .inr (9, [.null, .int 0, .int 0, .int 0, .int 0, .int 0, .int 0, .long 0, .int 0]))] sz) (wX9 u.1 u.2 h0)) (va_A [(h0, .inr (9, [.null, .int 0, .int 0, .int 0, .int 0, .int 0, .int 0, .long 0, .int 0]))] sz)) 1 64 (va_A [(h0, .inr (9, [.null, .int 0, .int 0, .int 0, .int 0, .int 0, .int 0, .long 0, .int 0]))] sz) := by
  refine Met.ofW (cc := cX9_init) (maxL := 1) (ret := none) (by decide) rfl ?_
  intro p e s m args below meth c s₁ B hml hv
  obtain ⟨rfl, hsz, hP, hK, hD0⟩ := hv
  have hx := B.exec
  have hb := B.bytes
  have hr := B.returns
  have hts := atoms_spec (ws := wsX9_init) B.pre
  have hown : s.vm.findClass RX9 = some m.cls := findClass_of_methodNamed B.named
  have hlocks := B.notSynchronized
  have hin : meth.name = "<init>" := (name_of_methodNamed B.named B.method).1
  subst hsz
  have hD := hD0.self (sz := s.heap.size)
  generalize hAe : va_A [(h0, .inr (9, [.null, .int 0, .int 0, .int 0, .int 0, .int 0, .int 0, .long 0, .int 0]))] s.heap.size = A at hD ⊢
  have hA : ∀ q : Nat, s.heap.size ≤ q → A q := fun q h => by rw [← hAe]; exact Or.inr h
  have hS : va_S A s.heap s.heap [] := va_S.rf
  have hP : va_P (dC, dI) vwCl [(h0, .inr (9, [.null, .int 0, .int 0, .int 0, .int 0, .int 0, .int 0, .long 0, .int 0]))] s.heap := hP
  have hl := lv_entry ([.ref h0]) (n := 1) (Nat.le_of_ble_eq_true rfl)
  rw [lg_entry_eq]
  generalize (lg_sl ([.ref h0]) ++ List.replicate (1 - (lg_sl ([.ref h0])).length) Slot.unset).toArray = ls at hl ⊢
  have hl : lv_has ls 1 [(0, .ref h0)] := hl
  refine lv_aload_n hx hb dX9_init_0 rfl (lv_at hl 0 rfl) ?_
  refine W.objInit hx hb hown (hts (.methodLink RX9 3 objectInit) (by decide +kernel)) (hts (.instanceMethod objectInit) (by decide +kernel)) (hts (.code objectInit ⟨#[0xb1]⟩ 1 none) (by decide +kernel)) rfl (by rw [hml]; exact hl.1) rfl dX9_init_1 (by decide +kernel) (Nat.le_of_ble_eq_true rfl) ?_
  refine W.eq (g2 := F0 m 4 ls []) rfl ?_
  refine lv_aload_n hx hb dX9_init_4 rfl (lv_at hl 0 rfl) ?_
  refine lv_bipush (v := 64) hx hb dX9_init_5 (by decide) ?_
  refine va_newa (atype := .byte) (ty := .byte) (N' := 64) (a0 := (64, .inl (fun _ => 0))) hx hb (hts (.arrayClass .byte) (by decide +kernel)) rfl hK hP hD hS hA (fun _ => rfl) (by decide) (by decide) (by decide +kernel) (by decide +kernel) (by decide +kernel) dX9_init_7 (fun q7 k7 H hK hP hD hS => ?_)
  have hP : va_P (dC, dI) vwCl [(h0, .inr (9, [.null, .int 0, .int 0, .int 0, .int 0, .int 0, .int 0, .long 0, .int 0])), (q7, .inl (k7, 64, .inl (fun _ => 0)))] H := hP
  have hD : va_D A [(h0, .inr (9, [.null, .int 0, .int 0, .int 0, .int 0, .int 0, .int 0, .long 0, .int 0])), (q7, .inl (k7, 64, .inl (fun _ => 0)))] := hD
  have hK : va_K (dC, dI) vwCl [(k7, .byte)] s := hK
  refine W.widen (k := 1) (n := 64) (by decide +kernel) (by decide +kernel) ?_
  refine va_put (D := (dC, dI)) (ci := 9) (v := .ref q7) (ty := .array .byte) (C := RX9) (T := TX9) (N := 9) hx hb hts iX9_init_in9 tyX9 tyX9_ok nmX9 hown hK hP hD hS 0 rfl rfl 0 (by decide) (hts (.fieldLink RX9 9 "OptimaWorks$Words" "tape" "[B") (by decide +kernel)) (fun _ h9 => h9) rfl (by decide +kernel) rfl rfl (Nat.le_of_ble_eq_true rfl) dX9_init_9 (fun H locs hP hD hS => ?_)
  have hP : va_P (dC, dI) vwCl [(h0, .inr (9, [.ref q7, .int 0, .int 0, .int 0, .int 0, .int 0, .int 0, .long 0, .int 0])), (q7, .inl (k7, 64, .inl (fun _ => 0)))] H := hP
  have hD : va_D A [(h0, .inr (9, [.ref q7, .int 0, .int 0, .int 0, .int 0, .int 0, .int 0, .long 0, .int 0])), (q7, .inl (k7, 64, .inl (fun _ => 0)))] := hD
  refine lv_aload_n hx hb dX9_init_12 rfl (lv_at hl 0 rfl) ?_
  refine lv_iconst (v := (-1)) hx hb dX9_init_13 (by decide) ?_
  refine va_put (D := (dC, dI)) (ci := 9) (v := .int (-1)) (ty := .int) (C := RX9) (T := TX9) (N := 9) hx hb hts iX9_init_in9 tyX9 tyX9_ok nmX9 hown hK hP hD hS 0 rfl rfl 3 (by decide) (hts (.fieldLink RX9 15 "OptimaWorks$Words" "place" "I") (by decide +kernel)) (fun _ h9 => h9) rfl (by decide +kernel) rfl rfl (Nat.le_of_ble_eq_true rfl) dX9_init_14 (fun H locs hP hD hS => ?_)
  have hP : va_P (dC, dI) vwCl [(h0, .inr (9, [.ref q7, .int 0, .int 0, .int (-1), .int 0, .int 0, .int 0, .long 0, .int 0])), (q7, .inl (k7, 64, .inl (fun _ => 0)))] H := hP
  have hD : va_D A [(h0, .inr (9, [.ref q7, .int 0, .int 0, .int (-1), .int 0, .int 0, .int 0, .long 0, .int 0])), (q7, .inl (k7, 64, .inl (fun _ => 0)))] := hD
  refine W.widen (k := 1) (n := 64) (by decide +kernel) (by decide +kernel) ?_
  exact W.vret hx hb hr (fun t ht hW => ⟨⟨((fun n => [q7].getD n 0), (fun n => [k7].getD n k7)), rfl, trivial, by rw [ht]; exact hP, va_K.moved hW.alike hK, hD⟩, hS.F ht⟩) hS.2.2 dX9_init_17
def wsX1_init : List Cond := .code yX1_init cX1_init 1 none :: ([.methodLink RX1 3 objectInit, .instanceMethod objectInit, .code objectInit ⟨#[0xb1]⟩ 1 none, .arrayClass .int, .fieldLink RX1 9 "OptimaWorks$Model" "from" "[I", .fieldLink RX1 13 "OptimaWorks$Model" "to" "[I", .arrayClass .boolean, .fieldLink RX1 16 "OptimaWorks$Model" "whole" "[Z", .fieldLink RX1 20 "OptimaWorks$Model" "ways" "[I", .fieldLink RX1 23 "OptimaWorks$Model" "plainRow" "[I", .fieldLink RX1 26 "OptimaWorks$Model" "kept" "[I", .fieldLink RX1 29 "OptimaWorks$Model" "goalOver" "[I", .fieldLink RX1 32 "OptimaWorks$Model" "goalUnder" "[I", .fieldLink RX1 35 "OptimaWorks$Model" "goalMax" "[Z", .fieldLink RX1 38 "OptimaWorks$Model" "different" "[I"] ++ wsX10)
def wX1 (a : Nat → Nat) (k : Nat → ClassId) (h0 : Nat) : va_W := [(h0, .inr (1, [.int 0, .int 0, .int 0, .int 0, .int 0, .int 0, .ref (a 0), .ref (a 1), .ref (a 2), .ref (a 3), .int 0, .ref (a 4), .ref (a 5), .ref (a 6), .ref (a 7), .ref (a 8), .ref (a 9)])), ((a 0), .inl ((k 0), 8, .inl (fun _ => 0))), ((a 1), .inl ((k 1), 8, .inl (fun _ => 0))), ((a 2), .inl ((k 2), 8, .inl (fun _ => 0))), ((a 3), .inl ((k 3), 12, .inl (fun _ => 0))), ((a 4), .inl ((k 4), 12, .inl (fun _ => 0))), ((a 5), .inl ((k 5), 360, .inl (fun _ => 0))), ((a 6), .inl ((k 6), 27, .inl (fun _ => 0))), ((a 7), .inl ((k 7), 27, .inl (fun _ => 0))), ((a 8), .inl ((k 8), 3, .inl (fun _ => 0))), ((a 9), .inl ((k 9), 8, .inl (fun _ => 0)))]
def tX1 (k : Nat → ClassId) : List (ClassId × FieldType) := [((k 0), .int), ((k 1), .int), ((k 2), .boolean), ((k 3), .int), ((k 4), .int), ((k 5), .int), ((k 6), .int), ((k 7), .int), ((k 8), .boolean), ((k 9), .int)]
theorem dX1_init_0 : decode cX1_init 0 = .ok (.aload_n 0, 1) := dk_42 (by decide +kernel)
theorem dX1_init_1 : decode cX1_init 1 = .ok (.invokespecial 3, 3) := dk_183 (by decide +kernel)
theorem dX1_init_4 : decode cX1_init 4 = .ok (.aload_n 0, 1) := dk_42 (by decide +kernel)
theorem dX1_init_5 : decode cX1_init 5 = .ok (.bipush 8, 2) := dk_16 (by decide +kernel)
theorem dX1_init_7 : decode cX1_init 7 = .ok (.newarray .int, 2) := by decide +kernel
theorem dX1_init_9 : decode cX1_init 9 = .ok (.putfield 9, 3) := dk_181 (by decide +kernel)
theorem dX1_init_12 : decode cX1_init 12 = .ok (.aload_n 0, 1) := dk_42 (by decide +kernel)
theorem dX1_init_13 : decode cX1_init 13 = .ok (.bipush 8, 2) := dk_16 (by decide +kernel)
theorem dX1_init_15 : decode cX1_init 15 = .ok (.newarray .int, 2) := by decide +kernel
theorem dX1_init_17 : decode cX1_init 17 = .ok (.putfield 13, 3) := dk_181 (by decide +kernel)
theorem dX1_init_20 : decode cX1_init 20 = .ok (.aload_n 0, 1) := dk_42 (by decide +kernel)
theorem dX1_init_21 : decode cX1_init 21 = .ok (.bipush 8, 2) := dk_16 (by decide +kernel)
theorem dX1_init_23 : decode cX1_init 23 = .ok (.newarray .boolean, 2) := by decide +kernel
theorem dX1_init_25 : decode cX1_init 25 = .ok (.putfield 16, 3) := dk_181 (by decide +kernel)
theorem dX1_init_28 : decode cX1_init 28 = .ok (.aload_n 0, 1) := dk_42 (by decide +kernel)
theorem dX1_init_29 : decode cX1_init 29 = .ok (.bipush 12, 2) := dk_16 (by decide +kernel)
theorem dX1_init_31 : decode cX1_init 31 = .ok (.newarray .int, 2) := by decide +kernel
theorem dX1_init_33 : decode cX1_init 33 = .ok (.putfield 20, 3) := dk_181 (by decide +kernel)
theorem dX1_init_36 : decode cX1_init 36 = .ok (.aload_n 0, 1) := dk_42 (by decide +kernel)
theorem dX1_init_37 : decode cX1_init 37 = .ok (.bipush 12, 2) := dk_16 (by decide +kernel)
theorem dX1_init_39 : decode cX1_init 39 = .ok (.newarray .int, 2) := by decide +kernel
theorem dX1_init_41 : decode cX1_init 41 = .ok (.putfield 23, 3) := dk_181 (by decide +kernel)
theorem dX1_init_44 : decode cX1_init 44 = .ok (.aload_n 0, 1) := dk_42 (by decide +kernel)
theorem dX1_init_45 : decode cX1_init 45 = .ok (.sipush 360, 3) := dk_17 (by decide +kernel)
theorem dX1_init_48 : decode cX1_init 48 = .ok (.newarray .int, 2) := by decide +kernel
theorem dX1_init_50 : decode cX1_init 50 = .ok (.putfield 26, 3) := dk_181 (by decide +kernel)
theorem dX1_init_53 : decode cX1_init 53 = .ok (.aload_n 0, 1) := dk_42 (by decide +kernel)
theorem dX1_init_54 : decode cX1_init 54 = .ok (.bipush 27, 2) := dk_16 (by decide +kernel)
theorem dX1_init_56 : decode cX1_init 56 = .ok (.newarray .int, 2) := by decide +kernel
theorem dX1_init_58 : decode cX1_init 58 = .ok (.putfield 29, 3) := dk_181 (by decide +kernel)
theorem dX1_init_61 : decode cX1_init 61 = .ok (.aload_n 0, 1) := dk_42 (by decide +kernel)
theorem dX1_init_62 : decode cX1_init 62 = .ok (.bipush 27, 2) := dk_16 (by decide +kernel)
theorem dX1_init_64 : decode cX1_init 64 = .ok (.newarray .int, 2) := by decide +kernel
theorem dX1_init_66 : decode cX1_init 66 = .ok (.putfield 32, 3) := dk_181 (by decide +kernel)
theorem dX1_init_69 : decode cX1_init 69 = .ok (.aload_n 0, 1) := dk_42 (by decide +kernel)
theorem dX1_init_70 : decode cX1_init 70 = .ok (.iconst 3, 1) := dk_6 (by decide +kernel)
theorem dX1_init_71 : decode cX1_init 71 = .ok (.newarray .boolean, 2) := by decide +kernel
theorem dX1_init_73 : decode cX1_init 73 = .ok (.putfield 35, 3) := dk_181 (by decide +kernel)
theorem dX1_init_76 : decode cX1_init 76 = .ok (.aload_n 0, 1) := dk_42 (by decide +kernel)
theorem dX1_init_77 : decode cX1_init 77 = .ok (.bipush 8, 2) := dk_16 (by decide +kernel)
theorem dX1_init_79 : decode cX1_init 79 = .ok (.newarray .int, 2) := by decide +kernel
theorem dX1_init_81 : decode cX1_init 81 = .ok (.putfield 38, 3) := dk_181 (by decide +kernel)
theorem dX1_init_84 : decode cX1_init 84 = .ok (.return_, 1) := dk_177 (by decide +kernel)
theorem iX1_init_in1 : ∀ w ∈ wsX10, w ∈ wsX1_init := fun _ h => List.mem_cons_of_mem _ (List.mem_append_right _ h)
set_option maxHeartbeats 4000000 in
set_option maxRecDepth 100000 in
/-- Model(): its rows come -/
theorem c_X1_init (l : Launch) (dC : Nat → ClassId) (dI : Nat → Nat → Nat) (h0 : Nat) (sz : Nat) : Met l yX1_init wsX1_init ({ frames := 1, cells := 10, slots := 473, locals := 12 }) (va_Pc [.ref h0] (fun U => U.heap.size = sz ∧ va_P (dC, dI) vwCl [(h0, .inr (1, [.int 0, .int 0, .int 0, .int 0, .int 0, .int 0, .null, .null, .null, .null, .int 0, .null, .null, .null, .null, .null, .null]))] U.heap ∧ va_K (dC, dI) vwCl [] U ∧ va_D (fun _ => True) [(h0, .inr (1, [.int 0, .int 0, .int 0, .int 0, .int 0, .int 0, .null, .null, .null, .null, .int 0, .null, .null, .null, .null, .null, .null]))])) (va_Qv (fun _ : (Nat → Nat) × (Nat → ClassId) => True) (fun u t => va_P (dC, dI) vwCl (wX1 u.1 u.2 h0) t.heap ∧ va_K (dC, dI) vwCl (tX1 u.2) t ∧ va_D (va_A [(h0, .inr (1, [.int 0, .int 0, .int 0, .int 0, .int 0, .int 0, .null, .null, .null, .null, .int 0, .null, .null, .null, .null, .null, .null]))] sz) (wX1 u.1 u.2 h0)) (va_A [(h0, .inr (1, [.int 0, .int 0, .int 0, .int 0, .int 0, .int 0, .null, .null, .null, .null, .int 0, .null, .null, .null, .null, .null, .null]))] sz)) 10 473 (va_A [(h0, .inr (1, [.int 0, .int 0, .int 0, .int 0, .int 0, .int 0, .null, .null, .null, .null, .int 0, .null, .null, .null, .null, .null, .null]))] sz) := by
  refine Met.ofW (cc := cX1_init) (maxL := 1) (ret := none) (by decide) rfl ?_
  intro p e s m args below meth c s₁ B hml hv
  obtain ⟨rfl, hsz, hP, hK, hD0⟩ := hv
  have hx := B.exec
  have hb := B.bytes
  have hr := B.returns
  have hts := atoms_spec (ws := wsX1_init) B.pre
  have hown : s.vm.findClass RX1 = some m.cls := findClass_of_methodNamed B.named
  have hlocks := B.notSynchronized
  have hin : meth.name = "<init>" := (name_of_methodNamed B.named B.method).1
  subst hsz
  have hD := hD0.self (sz := s.heap.size)
  generalize hAe : va_A [(h0, .inr (1, [.int 0, .int 0, .int 0, .int 0, .int 0, .int 0, .null, .null, .null, .null, .int 0, .null, .null, .null, .null, .null, .null]))] s.heap.size = A at hD ⊢
  have hA : ∀ q : Nat, s.heap.size ≤ q → A q := fun q h => by rw [← hAe]; exact Or.inr h
  have hS : va_S A s.heap s.heap [] := va_S.rf
  have hP : va_P (dC, dI) vwCl [(h0, .inr (1, [.int 0, .int 0, .int 0, .int 0, .int 0, .int 0, .null, .null, .null, .null, .int 0, .null, .null, .null, .null, .null, .null]))] s.heap := hP
  have hl := lv_entry ([.ref h0]) (n := 1) (Nat.le_of_ble_eq_true rfl)
  rw [lg_entry_eq]
  generalize (lg_sl ([.ref h0]) ++ List.replicate (1 - (lg_sl ([.ref h0])).length) Slot.unset).toArray = ls at hl ⊢
  have hl : lv_has ls 1 [(0, .ref h0)] := hl
  refine lv_aload_n hx hb dX1_init_0 rfl (lv_at hl 0 rfl) ?_
  refine W.objInit hx hb hown (hts (.methodLink RX1 3 objectInit) (by decide +kernel)) (hts (.instanceMethod objectInit) (by decide +kernel)) (hts (.code objectInit ⟨#[0xb1]⟩ 1 none) (by decide +kernel)) rfl (by rw [hml]; exact hl.1) rfl dX1_init_1 (by decide +kernel) (Nat.le_of_ble_eq_true rfl) ?_
  refine W.eq (g2 := F0 m 4 ls []) rfl ?_
  refine lv_aload_n hx hb dX1_init_4 rfl (lv_at hl 0 rfl) ?_
  refine lv_bipush (v := 8) hx hb dX1_init_5 (by decide) ?_
  refine va_newa (atype := .int) (ty := .int) (N' := 8) (a0 := (8, .inl (fun _ => 0))) hx hb (hts (.arrayClass .int) (by decide +kernel)) rfl hK hP hD hS hA (fun _ => rfl) (by decide) (by decide) (by decide +kernel) (by decide +kernel) (by decide +kernel) dX1_init_7 (fun q7 k7 H hK hP hD hS => ?_)
  have hP : va_P (dC, dI) vwCl [(h0, .inr (1, [.int 0, .int 0, .int 0, .int 0, .int 0, .int 0, .null, .null, .null, .null, .int 0, .null, .null, .null, .null, .null, .null])), (q7, .inl (k7, 8, .inl (fun _ => 0)))] H := hP
  have hD : va_D A [(h0, .inr (1, [.int 0, .int 0, .int 0, .int 0, .int 0, .int 0, .null, .null, .null, .null, .int 0, .null, .null, .null, .null, .null, .null])), (q7, .inl (k7, 8, .inl (fun _ => 0)))] := hD
  have hK : va_K (dC, dI) vwCl [(k7, .int)] s := hK
  refine W.widen (k := 1) (n := 8) (by decide +kernel) (by decide +kernel) ?_
  refine va_putF (D := (dC, dI)) (ci := 1) (v := .ref q7) (ty := .array .int) (C := RX1) (T := TX1) (N := 17) hx hb hts iX1_init_in1 tyX1 tyX1_ok nmX1 hown hK hP hD hS 0 rfl rfl 6 (by decide) (hts (.fieldLink RX1 9 "OptimaWorks$Model" "from" "[I") (by decide +kernel)) (fun _ h9 => h9) rfl hin rfl (by decide +kernel) rfl rfl (Nat.le_of_ble_eq_true rfl) dX1_init_9 (fun H locs hP hD hS => ?_)
  have hP : va_P (dC, dI) vwCl [(h0, .inr (1, [.int 0, .int 0, .int 0, .int 0, .int 0, .int 0, .ref q7, .null, .null, .null, .int 0, .null, .null, .null, .null, .null, .null])), (q7, .inl (k7, 8, .inl (fun _ => 0)))] H := hP
  have hD : va_D A [(h0, .inr (1, [.int 0, .int 0, .int 0, .int 0, .int 0, .int 0, .ref q7, .null, .null, .null, .int 0, .null, .null, .null, .null, .null, .null])), (q7, .inl (k7, 8, .inl (fun _ => 0)))] := hD
  refine lv_aload_n hx hb dX1_init_12 rfl (lv_at hl 0 rfl) ?_
  refine lv_bipush (v := 8) hx hb dX1_init_13 (by decide) ?_
  refine va_newa (atype := .int) (ty := .int) (N' := 8) (a0 := (8, .inl (fun _ => 0))) hx hb (hts (.arrayClass .int) (by decide +kernel)) rfl hK hP hD hS hA (fun _ => rfl) (by decide) (by decide) (by decide +kernel) (by decide +kernel) (by decide +kernel) dX1_init_15 (fun q15 k15 H hK hP hD hS => ?_)
  have hP : va_P (dC, dI) vwCl [(h0, .inr (1, [.int 0, .int 0, .int 0, .int 0, .int 0, .int 0, .ref q7, .null, .null, .null, .int 0, .null, .null, .null, .null, .null, .null])), (q7, .inl (k7, 8, .inl (fun _ => 0))), (q15, .inl (k15, 8, .inl (fun _ => 0)))] H := hP
  have hD : va_D A [(h0, .inr (1, [.int 0, .int 0, .int 0, .int 0, .int 0, .int 0, .ref q7, .null, .null, .null, .int 0, .null, .null, .null, .null, .null, .null])), (q7, .inl (k7, 8, .inl (fun _ => 0))), (q15, .inl (k15, 8, .inl (fun _ => 0)))] := hD
  have hK : va_K (dC, dI) vwCl [(k7, .int), (k15, .int)] s := hK
  refine W.widen (k := 2) (n := 16) (by decide +kernel) (by decide +kernel) ?_
  refine va_putF (D := (dC, dI)) (ci := 1) (v := .ref q15) (ty := .array .int) (C := RX1) (T := TX1) (N := 17) hx hb hts iX1_init_in1 tyX1 tyX1_ok nmX1 hown hK hP hD hS 0 rfl rfl 7 (by decide) (hts (.fieldLink RX1 13 "OptimaWorks$Model" "to" "[I") (by decide +kernel)) (fun _ h9 => h9) rfl hin rfl (by decide +kernel) rfl rfl (Nat.le_of_ble_eq_true rfl) dX1_init_17 (fun H locs hP hD hS => ?_)
  have hP : va_P (dC, dI) vwCl [(h0, .inr (1, [.int 0, .int 0, .int 0, .int 0, .int 0, .int 0, .ref q7, .ref q15, .null, .null, .int 0, .null, .null, .null, .null, .null, .null])), (q7, .inl (k7, 8, .inl (fun _ => 0))), (q15, .inl (k15, 8, .inl (fun _ => 0)))] H := hP
  have hD : va_D A [(h0, .inr (1, [.int 0, .int 0, .int 0, .int 0, .int 0, .int 0, .ref q7, .ref q15, .null, .null, .int 0, .null, .null, .null, .null, .null, .null])), (q7, .inl (k7, 8, .inl (fun _ => 0))), (q15, .inl (k15, 8, .inl (fun _ => 0)))] := hD
  refine lv_aload_n hx hb dX1_init_20 rfl (lv_at hl 0 rfl) ?_
  refine lv_bipush (v := 8) hx hb dX1_init_21 (by decide) ?_
  refine va_newa (atype := .boolean) (ty := .boolean) (N' := 8) (a0 := (8, .inl (fun _ => 0))) hx hb (hts (.arrayClass .boolean) (by decide +kernel)) rfl hK hP hD hS hA (fun _ => rfl) (by decide) (by decide) (by decide +kernel) (by decide +kernel) (by decide +kernel) dX1_init_23 (fun q23 k23 H hK hP hD hS => ?_)
  have hP : va_P (dC, dI) vwCl [(h0, .inr (1, [.int 0, .int 0, .int 0, .int 0, .int 0, .int 0, .ref q7, .ref q15, .null, .null, .int 0, .null, .null, .null, .null, .null, .null])), (q7, .inl (k7, 8, .inl (fun _ => 0))), (q15, .inl (k15, 8, .inl (fun _ => 0))), (q23, .inl (k23, 8, .inl (fun _ => 0)))] H := hP
  have hD : va_D A [(h0, .inr (1, [.int 0, .int 0, .int 0, .int 0, .int 0, .int 0, .ref q7, .ref q15, .null, .null, .int 0, .null, .null, .null, .null, .null, .null])), (q7, .inl (k7, 8, .inl (fun _ => 0))), (q15, .inl (k15, 8, .inl (fun _ => 0))), (q23, .inl (k23, 8, .inl (fun _ => 0)))] := hD
  have hK : va_K (dC, dI) vwCl [(k7, .int), (k15, .int), (k23, .boolean)] s := hK
  refine W.widen (k := 3) (n := 24) (by decide +kernel) (by decide +kernel) ?_
  refine va_putF (D := (dC, dI)) (ci := 1) (v := .ref q23) (ty := .array .boolean) (C := RX1) (T := TX1) (N := 17) hx hb hts iX1_init_in1 tyX1 tyX1_ok nmX1 hown hK hP hD hS 0 rfl rfl 8 (by decide) (hts (.fieldLink RX1 16 "OptimaWorks$Model" "whole" "[Z") (by decide +kernel)) (fun _ h9 => h9) rfl hin rfl (by decide +kernel) rfl rfl (Nat.le_of_ble_eq_true rfl) dX1_init_25 (fun H locs hP hD hS => ?_)
  have hP : va_P (dC, dI) vwCl [(h0, .inr (1, [.int 0, .int 0, .int 0, .int 0, .int 0, .int 0, .ref q7, .ref q15, .ref q23, .null, .int 0, .null, .null, .null, .null, .null, .null])), (q7, .inl (k7, 8, .inl (fun _ => 0))), (q15, .inl (k15, 8, .inl (fun _ => 0))), (q23, .inl (k23, 8, .inl (fun _ => 0)))] H := hP
  have hD : va_D A [(h0, .inr (1, [.int 0, .int 0, .int 0, .int 0, .int 0, .int 0, .ref q7, .ref q15, .ref q23, .null, .int 0, .null, .null, .null, .null, .null, .null])), (q7, .inl (k7, 8, .inl (fun _ => 0))), (q15, .inl (k15, 8, .inl (fun _ => 0))), (q23, .inl (k23, 8, .inl (fun _ => 0)))] := hD
  refine lv_aload_n hx hb dX1_init_28 rfl (lv_at hl 0 rfl) ?_
  refine lv_bipush (v := 12) hx hb dX1_init_29 (by decide) ?_
  refine va_newa (atype := .int) (ty := .int) (N' := 12) (a0 := (12, .inl (fun _ => 0))) hx hb (hts (.arrayClass .int) (by decide +kernel)) rfl hK hP hD hS hA (fun _ => rfl) (by decide) (by decide) (by decide +kernel) (by decide +kernel) (by decide +kernel) dX1_init_31 (fun q31 k31 H hK hP hD hS => ?_)
  have hP : va_P (dC, dI) vwCl [(h0, .inr (1, [.int 0, .int 0, .int 0, .int 0, .int 0, .int 0, .ref q7, .ref q15, .ref q23, .null, .int 0, .null, .null, .null, .null, .null, .null])), (q7, .inl (k7, 8, .inl (fun _ => 0))), (q15, .inl (k15, 8, .inl (fun _ => 0))), (q23, .inl (k23, 8, .inl (fun _ => 0))), (q31, .inl (k31, 12, .inl (fun _ => 0)))] H := hP
  have hD : va_D A [(h0, .inr (1, [.int 0, .int 0, .int 0, .int 0, .int 0, .int 0, .ref q7, .ref q15, .ref q23, .null, .int 0, .null, .null, .null, .null, .null, .null])), (q7, .inl (k7, 8, .inl (fun _ => 0))), (q15, .inl (k15, 8, .inl (fun _ => 0))), (q23, .inl (k23, 8, .inl (fun _ => 0))), (q31, .inl (k31, 12, .inl (fun _ => 0)))] := hD
  have hK : va_K (dC, dI) vwCl [(k7, .int), (k15, .int), (k23, .boolean), (k31, .int)] s := hK
  refine W.widen (k := 4) (n := 36) (by decide +kernel) (by decide +kernel) ?_
  refine va_putF (D := (dC, dI)) (ci := 1) (v := .ref q31) (ty := .array .int) (C := RX1) (T := TX1) (N := 17) hx hb hts iX1_init_in1 tyX1 tyX1_ok nmX1 hown hK hP hD hS 0 rfl rfl 9 (by decide) (hts (.fieldLink RX1 20 "OptimaWorks$Model" "ways" "[I") (by decide +kernel)) (fun _ h9 => h9) rfl hin rfl (by decide +kernel) rfl rfl (Nat.le_of_ble_eq_true rfl) dX1_init_33 (fun H locs hP hD hS => ?_)
  have hP : va_P (dC, dI) vwCl [(h0, .inr (1, [.int 0, .int 0, .int 0, .int 0, .int 0, .int 0, .ref q7, .ref q15, .ref q23, .ref q31, .int 0, .null, .null, .null, .null, .null, .null])), (q7, .inl (k7, 8, .inl (fun _ => 0))), (q15, .inl (k15, 8, .inl (fun _ => 0))), (q23, .inl (k23, 8, .inl (fun _ => 0))), (q31, .inl (k31, 12, .inl (fun _ => 0)))] H := hP
  have hD : va_D A [(h0, .inr (1, [.int 0, .int 0, .int 0, .int 0, .int 0, .int 0, .ref q7, .ref q15, .ref q23, .ref q31, .int 0, .null, .null, .null, .null, .null, .null])), (q7, .inl (k7, 8, .inl (fun _ => 0))), (q15, .inl (k15, 8, .inl (fun _ => 0))), (q23, .inl (k23, 8, .inl (fun _ => 0))), (q31, .inl (k31, 12, .inl (fun _ => 0)))] := hD
  refine lv_aload_n hx hb dX1_init_36 rfl (lv_at hl 0 rfl) ?_
  refine lv_bipush (v := 12) hx hb dX1_init_37 (by decide) ?_
  refine va_newa (atype := .int) (ty := .int) (N' := 12) (a0 := (12, .inl (fun _ => 0))) hx hb (hts (.arrayClass .int) (by decide +kernel)) rfl hK hP hD hS hA (fun _ => rfl) (by decide) (by decide) (by decide +kernel) (by decide +kernel) (by decide +kernel) dX1_init_39 (fun q39 k39 H hK hP hD hS => ?_)
  have hP : va_P (dC, dI) vwCl [(h0, .inr (1, [.int 0, .int 0, .int 0, .int 0, .int 0, .int 0, .ref q7, .ref q15, .ref q23, .ref q31, .int 0, .null, .null, .null, .null, .null, .null])), (q7, .inl (k7, 8, .inl (fun _ => 0))), (q15, .inl (k15, 8, .inl (fun _ => 0))), (q23, .inl (k23, 8, .inl (fun _ => 0))), (q31, .inl (k31, 12, .inl (fun _ => 0))), (q39, .inl (k39, 12, .inl (fun _ => 0)))] H := hP
  have hD : va_D A [(h0, .inr (1, [.int 0, .int 0, .int 0, .int 0, .int 0, .int 0, .ref q7, .ref q15, .ref q23, .ref q31, .int 0, .null, .null, .null, .null, .null, .null])), (q7, .inl (k7, 8, .inl (fun _ => 0))), (q15, .inl (k15, 8, .inl (fun _ => 0))), (q23, .inl (k23, 8, .inl (fun _ => 0))), (q31, .inl (k31, 12, .inl (fun _ => 0))), (q39, .inl (k39, 12, .inl (fun _ => 0)))] := hD
  have hK : va_K (dC, dI) vwCl [(k7, .int), (k15, .int), (k23, .boolean), (k31, .int), (k39, .int)] s := hK
  refine W.widen (k := 5) (n := 48) (by decide +kernel) (by decide +kernel) ?_
  refine va_putF (D := (dC, dI)) (ci := 1) (v := .ref q39) (ty := .array .int) (C := RX1) (T := TX1) (N := 17) hx hb hts iX1_init_in1 tyX1 tyX1_ok nmX1 hown hK hP hD hS 0 rfl rfl 11 (by decide) (hts (.fieldLink RX1 23 "OptimaWorks$Model" "plainRow" "[I") (by decide +kernel)) (fun _ h9 => h9) rfl hin rfl (by decide +kernel) rfl rfl (Nat.le_of_ble_eq_true rfl) dX1_init_41 (fun H locs hP hD hS => ?_)
  have hP : va_P (dC, dI) vwCl [(h0, .inr (1, [.int 0, .int 0, .int 0, .int 0, .int 0, .int 0, .ref q7, .ref q15, .ref q23, .ref q31, .int 0, .ref q39, .null, .null, .null, .null, .null])), (q7, .inl (k7, 8, .inl (fun _ => 0))), (q15, .inl (k15, 8, .inl (fun _ => 0))), (q23, .inl (k23, 8, .inl (fun _ => 0))), (q31, .inl (k31, 12, .inl (fun _ => 0))), (q39, .inl (k39, 12, .inl (fun _ => 0)))] H := hP
  have hD : va_D A [(h0, .inr (1, [.int 0, .int 0, .int 0, .int 0, .int 0, .int 0, .ref q7, .ref q15, .ref q23, .ref q31, .int 0, .ref q39, .null, .null, .null, .null, .null])), (q7, .inl (k7, 8, .inl (fun _ => 0))), (q15, .inl (k15, 8, .inl (fun _ => 0))), (q23, .inl (k23, 8, .inl (fun _ => 0))), (q31, .inl (k31, 12, .inl (fun _ => 0))), (q39, .inl (k39, 12, .inl (fun _ => 0)))] := hD
  refine lv_aload_n hx hb dX1_init_44 rfl (lv_at hl 0 rfl) ?_
  refine lv_sipush (v := 360) hx hb dX1_init_45 (by decide) ?_
  refine va_newa (atype := .int) (ty := .int) (N' := 360) (a0 := (360, .inl (fun _ => 0))) hx hb (hts (.arrayClass .int) (by decide +kernel)) rfl hK hP hD hS hA (fun _ => rfl) (by decide) (by decide) (by decide +kernel) (by decide +kernel) (by decide +kernel) dX1_init_48 (fun q48 k48 H hK hP hD hS => ?_)
  have hP : va_P (dC, dI) vwCl [(h0, .inr (1, [.int 0, .int 0, .int 0, .int 0, .int 0, .int 0, .ref q7, .ref q15, .ref q23, .ref q31, .int 0, .ref q39, .null, .null, .null, .null, .null])), (q7, .inl (k7, 8, .inl (fun _ => 0))), (q15, .inl (k15, 8, .inl (fun _ => 0))), (q23, .inl (k23, 8, .inl (fun _ => 0))), (q31, .inl (k31, 12, .inl (fun _ => 0))), (q39, .inl (k39, 12, .inl (fun _ => 0))), (q48, .inl (k48, 360, .inl (fun _ => 0)))] H := hP
  have hD : va_D A [(h0, .inr (1, [.int 0, .int 0, .int 0, .int 0, .int 0, .int 0, .ref q7, .ref q15, .ref q23, .ref q31, .int 0, .ref q39, .null, .null, .null, .null, .null])), (q7, .inl (k7, 8, .inl (fun _ => 0))), (q15, .inl (k15, 8, .inl (fun _ => 0))), (q23, .inl (k23, 8, .inl (fun _ => 0))), (q31, .inl (k31, 12, .inl (fun _ => 0))), (q39, .inl (k39, 12, .inl (fun _ => 0))), (q48, .inl (k48, 360, .inl (fun _ => 0)))] := hD
  have hK : va_K (dC, dI) vwCl [(k7, .int), (k15, .int), (k23, .boolean), (k31, .int), (k39, .int), (k48, .int)] s := hK
  refine W.widen (k := 6) (n := 408) (by decide +kernel) (by decide +kernel) ?_
  refine va_putF (D := (dC, dI)) (ci := 1) (v := .ref q48) (ty := .array .int) (C := RX1) (T := TX1) (N := 17) hx hb hts iX1_init_in1 tyX1 tyX1_ok nmX1 hown hK hP hD hS 0 rfl rfl 12 (by decide) (hts (.fieldLink RX1 26 "OptimaWorks$Model" "kept" "[I") (by decide +kernel)) (fun _ h9 => h9) rfl hin rfl (by decide +kernel) rfl rfl (Nat.le_of_ble_eq_true rfl) dX1_init_50 (fun H locs hP hD hS => ?_)
  have hP : va_P (dC, dI) vwCl [(h0, .inr (1, [.int 0, .int 0, .int 0, .int 0, .int 0, .int 0, .ref q7, .ref q15, .ref q23, .ref q31, .int 0, .ref q39, .ref q48, .null, .null, .null, .null])), (q7, .inl (k7, 8, .inl (fun _ => 0))), (q15, .inl (k15, 8, .inl (fun _ => 0))), (q23, .inl (k23, 8, .inl (fun _ => 0))), (q31, .inl (k31, 12, .inl (fun _ => 0))), (q39, .inl (k39, 12, .inl (fun _ => 0))), (q48, .inl (k48, 360, .inl (fun _ => 0)))] H := hP
  have hD : va_D A [(h0, .inr (1, [.int 0, .int 0, .int 0, .int 0, .int 0, .int 0, .ref q7, .ref q15, .ref q23, .ref q31, .int 0, .ref q39, .ref q48, .null, .null, .null, .null])), (q7, .inl (k7, 8, .inl (fun _ => 0))), (q15, .inl (k15, 8, .inl (fun _ => 0))), (q23, .inl (k23, 8, .inl (fun _ => 0))), (q31, .inl (k31, 12, .inl (fun _ => 0))), (q39, .inl (k39, 12, .inl (fun _ => 0))), (q48, .inl (k48, 360, .inl (fun _ => 0)))] := hD
  refine lv_aload_n hx hb dX1_init_53 rfl (lv_at hl 0 rfl) ?_
  refine lv_bipush (v := 27) hx hb dX1_init_54 (by decide) ?_
  refine va_newa (atype := .int) (ty := .int) (N' := 27) (a0 := (27, .inl (fun _ => 0))) hx hb (hts (.arrayClass .int) (by decide +kernel)) rfl hK hP hD hS hA (fun _ => rfl) (by decide) (by decide) (by decide +kernel) (by decide +kernel) (by decide +kernel) dX1_init_56 (fun q56 k56 H hK hP hD hS => ?_)
  have hP : va_P (dC, dI) vwCl [(h0, .inr (1, [.int 0, .int 0, .int 0, .int 0, .int 0, .int 0, .ref q7, .ref q15, .ref q23, .ref q31, .int 0, .ref q39, .ref q48, .null, .null, .null, .null])), (q7, .inl (k7, 8, .inl (fun _ => 0))), (q15, .inl (k15, 8, .inl (fun _ => 0))), (q23, .inl (k23, 8, .inl (fun _ => 0))), (q31, .inl (k31, 12, .inl (fun _ => 0))), (q39, .inl (k39, 12, .inl (fun _ => 0))), (q48, .inl (k48, 360, .inl (fun _ => 0))), (q56, .inl (k56, 27, .inl (fun _ => 0)))] H := hP
  have hD : va_D A [(h0, .inr (1, [.int 0, .int 0, .int 0, .int 0, .int 0, .int 0, .ref q7, .ref q15, .ref q23, .ref q31, .int 0, .ref q39, .ref q48, .null, .null, .null, .null])), (q7, .inl (k7, 8, .inl (fun _ => 0))), (q15, .inl (k15, 8, .inl (fun _ => 0))), (q23, .inl (k23, 8, .inl (fun _ => 0))), (q31, .inl (k31, 12, .inl (fun _ => 0))), (q39, .inl (k39, 12, .inl (fun _ => 0))), (q48, .inl (k48, 360, .inl (fun _ => 0))), (q56, .inl (k56, 27, .inl (fun _ => 0)))] := hD
  have hK : va_K (dC, dI) vwCl [(k7, .int), (k15, .int), (k23, .boolean), (k31, .int), (k39, .int), (k48, .int), (k56, .int)] s := hK
  refine W.widen (k := 7) (n := 435) (by decide +kernel) (by decide +kernel) ?_
  refine va_putF (D := (dC, dI)) (ci := 1) (v := .ref q56) (ty := .array .int) (C := RX1) (T := TX1) (N := 17) hx hb hts iX1_init_in1 tyX1 tyX1_ok nmX1 hown hK hP hD hS 0 rfl rfl 13 (by decide) (hts (.fieldLink RX1 29 "OptimaWorks$Model" "goalOver" "[I") (by decide +kernel)) (fun _ h9 => h9) rfl hin rfl (by decide +kernel) rfl rfl (Nat.le_of_ble_eq_true rfl) dX1_init_58 (fun H locs hP hD hS => ?_)
  have hP : va_P (dC, dI) vwCl [(h0, .inr (1, [.int 0, .int 0, .int 0, .int 0, .int 0, .int 0, .ref q7, .ref q15, .ref q23, .ref q31, .int 0, .ref q39, .ref q48, .ref q56, .null, .null, .null])), (q7, .inl (k7, 8, .inl (fun _ => 0))), (q15, .inl (k15, 8, .inl (fun _ => 0))), (q23, .inl (k23, 8, .inl (fun _ => 0))), (q31, .inl (k31, 12, .inl (fun _ => 0))), (q39, .inl (k39, 12, .inl (fun _ => 0))), (q48, .inl (k48, 360, .inl (fun _ => 0))), (q56, .inl (k56, 27, .inl (fun _ => 0)))] H := hP
  have hD : va_D A [(h0, .inr (1, [.int 0, .int 0, .int 0, .int 0, .int 0, .int 0, .ref q7, .ref q15, .ref q23, .ref q31, .int 0, .ref q39, .ref q48, .ref q56, .null, .null, .null])), (q7, .inl (k7, 8, .inl (fun _ => 0))), (q15, .inl (k15, 8, .inl (fun _ => 0))), (q23, .inl (k23, 8, .inl (fun _ => 0))), (q31, .inl (k31, 12, .inl (fun _ => 0))), (q39, .inl (k39, 12, .inl (fun _ => 0))), (q48, .inl (k48, 360, .inl (fun _ => 0))), (q56, .inl (k56, 27, .inl (fun _ => 0)))] := hD
  refine lv_aload_n hx hb dX1_init_61 rfl (lv_at hl 0 rfl) ?_
  refine lv_bipush (v := 27) hx hb dX1_init_62 (by decide) ?_
  refine va_newa (atype := .int) (ty := .int) (N' := 27) (a0 := (27, .inl (fun _ => 0))) hx hb (hts (.arrayClass .int) (by decide +kernel)) rfl hK hP hD hS hA (fun _ => rfl) (by decide) (by decide) (by decide +kernel) (by decide +kernel) (by decide +kernel) dX1_init_64 (fun q64 k64 H hK hP hD hS => ?_)
  have hP : va_P (dC, dI) vwCl [(h0, .inr (1, [.int 0, .int 0, .int 0, .int 0, .int 0, .int 0, .ref q7, .ref q15, .ref q23, .ref q31, .int 0, .ref q39, .ref q48, .ref q56, .null, .null, .null])), (q7, .inl (k7, 8, .inl (fun _ => 0))), (q15, .inl (k15, 8, .inl (fun _ => 0))), (q23, .inl (k23, 8, .inl (fun _ => 0))), (q31, .inl (k31, 12, .inl (fun _ => 0))), (q39, .inl (k39, 12, .inl (fun _ => 0))), (q48, .inl (k48, 360, .inl (fun _ => 0))), (q56, .inl (k56, 27, .inl (fun _ => 0))), (q64, .inl (k64, 27, .inl (fun _ => 0)))] H := hP
  have hD : va_D A [(h0, .inr (1, [.int 0, .int 0, .int 0, .int 0, .int 0, .int 0, .ref q7, .ref q15, .ref q23, .ref q31, .int 0, .ref q39, .ref q48, .ref q56, .null, .null, .null])), (q7, .inl (k7, 8, .inl (fun _ => 0))), (q15, .inl (k15, 8, .inl (fun _ => 0))), (q23, .inl (k23, 8, .inl (fun _ => 0))), (q31, .inl (k31, 12, .inl (fun _ => 0))), (q39, .inl (k39, 12, .inl (fun _ => 0))), (q48, .inl (k48, 360, .inl (fun _ => 0))), (q56, .inl (k56, 27, .inl (fun _ => 0))), (q64, .inl (k64, 27, .inl (fun _ => 0)))] := hD
  have hK : va_K (dC, dI) vwCl [(k7, .int), (k15, .int), (k23, .boolean), (k31, .int), (k39, .int), (k48, .int), (k56, .int), (k64, .int)] s := hK
  refine W.widen (k := 8) (n := 462) (by decide +kernel) (by decide +kernel) ?_
  refine va_putF (D := (dC, dI)) (ci := 1) (v := .ref q64) (ty := .array .int) (C := RX1) (T := TX1) (N := 17) hx hb hts iX1_init_in1 tyX1 tyX1_ok nmX1 hown hK hP hD hS 0 rfl rfl 14 (by decide) (hts (.fieldLink RX1 32 "OptimaWorks$Model" "goalUnder" "[I") (by decide +kernel)) (fun _ h9 => h9) rfl hin rfl (by decide +kernel) rfl rfl (Nat.le_of_ble_eq_true rfl) dX1_init_66 (fun H locs hP hD hS => ?_)
  have hP : va_P (dC, dI) vwCl [(h0, .inr (1, [.int 0, .int 0, .int 0, .int 0, .int 0, .int 0, .ref q7, .ref q15, .ref q23, .ref q31, .int 0, .ref q39, .ref q48, .ref q56, .ref q64, .null, .null])), (q7, .inl (k7, 8, .inl (fun _ => 0))), (q15, .inl (k15, 8, .inl (fun _ => 0))), (q23, .inl (k23, 8, .inl (fun _ => 0))), (q31, .inl (k31, 12, .inl (fun _ => 0))), (q39, .inl (k39, 12, .inl (fun _ => 0))), (q48, .inl (k48, 360, .inl (fun _ => 0))), (q56, .inl (k56, 27, .inl (fun _ => 0))), (q64, .inl (k64, 27, .inl (fun _ => 0)))] H := hP
  have hD : va_D A [(h0, .inr (1, [.int 0, .int 0, .int 0, .int 0, .int 0, .int 0, .ref q7, .ref q15, .ref q23, .ref q31, .int 0, .ref q39, .ref q48, .ref q56, .ref q64, .null, .null])), (q7, .inl (k7, 8, .inl (fun _ => 0))), (q15, .inl (k15, 8, .inl (fun _ => 0))), (q23, .inl (k23, 8, .inl (fun _ => 0))), (q31, .inl (k31, 12, .inl (fun _ => 0))), (q39, .inl (k39, 12, .inl (fun _ => 0))), (q48, .inl (k48, 360, .inl (fun _ => 0))), (q56, .inl (k56, 27, .inl (fun _ => 0))), (q64, .inl (k64, 27, .inl (fun _ => 0)))] := hD
  refine lv_aload_n hx hb dX1_init_69 rfl (lv_at hl 0 rfl) ?_
  refine lv_iconst (v := 3) hx hb dX1_init_70 (by decide) ?_
  refine va_newa (atype := .boolean) (ty := .boolean) (N' := 3) (a0 := (3, .inl (fun _ => 0))) hx hb (hts (.arrayClass .boolean) (by decide +kernel)) rfl hK hP hD hS hA (fun _ => rfl) (by decide) (by decide) (by decide +kernel) (by decide +kernel) (by decide +kernel) dX1_init_71 (fun q71 k71 H hK hP hD hS => ?_)
  have hP : va_P (dC, dI) vwCl [(h0, .inr (1, [.int 0, .int 0, .int 0, .int 0, .int 0, .int 0, .ref q7, .ref q15, .ref q23, .ref q31, .int 0, .ref q39, .ref q48, .ref q56, .ref q64, .null, .null])), (q7, .inl (k7, 8, .inl (fun _ => 0))), (q15, .inl (k15, 8, .inl (fun _ => 0))), (q23, .inl (k23, 8, .inl (fun _ => 0))), (q31, .inl (k31, 12, .inl (fun _ => 0))), (q39, .inl (k39, 12, .inl (fun _ => 0))), (q48, .inl (k48, 360, .inl (fun _ => 0))), (q56, .inl (k56, 27, .inl (fun _ => 0))), (q64, .inl (k64, 27, .inl (fun _ => 0))), (q71, .inl (k71, 3, .inl (fun _ => 0)))] H := hP
  have hD : va_D A [(h0, .inr (1, [.int 0, .int 0, .int 0, .int 0, .int 0, .int 0, .ref q7, .ref q15, .ref q23, .ref q31, .int 0, .ref q39, .ref q48, .ref q56, .ref q64, .null, .null])), (q7, .inl (k7, 8, .inl (fun _ => 0))), (q15, .inl (k15, 8, .inl (fun _ => 0))), (q23, .inl (k23, 8, .inl (fun _ => 0))), (q31, .inl (k31, 12, .inl (fun _ => 0))), (q39, .inl (k39, 12, .inl (fun _ => 0))), (q48, .inl (k48, 360, .inl (fun _ => 0))), (q56, .inl (k56, 27, .inl (fun _ => 0))), (q64, .inl (k64, 27, .inl (fun _ => 0))), (q71, .inl (k71, 3, .inl (fun _ => 0)))] := hD
  have hK : va_K (dC, dI) vwCl [(k7, .int), (k15, .int), (k23, .boolean), (k31, .int), (k39, .int), (k48, .int), (k56, .int), (k64, .int), (k71, .boolean)] s := hK
  refine W.widen (k := 9) (n := 465) (by decide +kernel) (by decide +kernel) ?_
  refine va_putF (D := (dC, dI)) (ci := 1) (v := .ref q71) (ty := .array .boolean) (C := RX1) (T := TX1) (N := 17) hx hb hts iX1_init_in1 tyX1 tyX1_ok nmX1 hown hK hP hD hS 0 rfl rfl 15 (by decide) (hts (.fieldLink RX1 35 "OptimaWorks$Model" "goalMax" "[Z") (by decide +kernel)) (fun _ h9 => h9) rfl hin rfl (by decide +kernel) rfl rfl (Nat.le_of_ble_eq_true rfl) dX1_init_73 (fun H locs hP hD hS => ?_)
  have hP : va_P (dC, dI) vwCl [(h0, .inr (1, [.int 0, .int 0, .int 0, .int 0, .int 0, .int 0, .ref q7, .ref q15, .ref q23, .ref q31, .int 0, .ref q39, .ref q48, .ref q56, .ref q64, .ref q71, .null])), (q7, .inl (k7, 8, .inl (fun _ => 0))), (q15, .inl (k15, 8, .inl (fun _ => 0))), (q23, .inl (k23, 8, .inl (fun _ => 0))), (q31, .inl (k31, 12, .inl (fun _ => 0))), (q39, .inl (k39, 12, .inl (fun _ => 0))), (q48, .inl (k48, 360, .inl (fun _ => 0))), (q56, .inl (k56, 27, .inl (fun _ => 0))), (q64, .inl (k64, 27, .inl (fun _ => 0))), (q71, .inl (k71, 3, .inl (fun _ => 0)))] H := hP
  have hD : va_D A [(h0, .inr (1, [.int 0, .int 0, .int 0, .int 0, .int 0, .int 0, .ref q7, .ref q15, .ref q23, .ref q31, .int 0, .ref q39, .ref q48, .ref q56, .ref q64, .ref q71, .null])), (q7, .inl (k7, 8, .inl (fun _ => 0))), (q15, .inl (k15, 8, .inl (fun _ => 0))), (q23, .inl (k23, 8, .inl (fun _ => 0))), (q31, .inl (k31, 12, .inl (fun _ => 0))), (q39, .inl (k39, 12, .inl (fun _ => 0))), (q48, .inl (k48, 360, .inl (fun _ => 0))), (q56, .inl (k56, 27, .inl (fun _ => 0))), (q64, .inl (k64, 27, .inl (fun _ => 0))), (q71, .inl (k71, 3, .inl (fun _ => 0)))] := hD
  refine lv_aload_n hx hb dX1_init_76 rfl (lv_at hl 0 rfl) ?_
  refine lv_bipush (v := 8) hx hb dX1_init_77 (by decide) ?_
  refine va_newa (atype := .int) (ty := .int) (N' := 8) (a0 := (8, .inl (fun _ => 0))) hx hb (hts (.arrayClass .int) (by decide +kernel)) rfl hK hP hD hS hA (fun _ => rfl) (by decide) (by decide) (by decide +kernel) (by decide +kernel) (by decide +kernel) dX1_init_79 (fun q79 k79 H hK hP hD hS => ?_)
  have hP : va_P (dC, dI) vwCl [(h0, .inr (1, [.int 0, .int 0, .int 0, .int 0, .int 0, .int 0, .ref q7, .ref q15, .ref q23, .ref q31, .int 0, .ref q39, .ref q48, .ref q56, .ref q64, .ref q71, .null])), (q7, .inl (k7, 8, .inl (fun _ => 0))), (q15, .inl (k15, 8, .inl (fun _ => 0))), (q23, .inl (k23, 8, .inl (fun _ => 0))), (q31, .inl (k31, 12, .inl (fun _ => 0))), (q39, .inl (k39, 12, .inl (fun _ => 0))), (q48, .inl (k48, 360, .inl (fun _ => 0))), (q56, .inl (k56, 27, .inl (fun _ => 0))), (q64, .inl (k64, 27, .inl (fun _ => 0))), (q71, .inl (k71, 3, .inl (fun _ => 0))), (q79, .inl (k79, 8, .inl (fun _ => 0)))] H := hP
  have hD : va_D A [(h0, .inr (1, [.int 0, .int 0, .int 0, .int 0, .int 0, .int 0, .ref q7, .ref q15, .ref q23, .ref q31, .int 0, .ref q39, .ref q48, .ref q56, .ref q64, .ref q71, .null])), (q7, .inl (k7, 8, .inl (fun _ => 0))), (q15, .inl (k15, 8, .inl (fun _ => 0))), (q23, .inl (k23, 8, .inl (fun _ => 0))), (q31, .inl (k31, 12, .inl (fun _ => 0))), (q39, .inl (k39, 12, .inl (fun _ => 0))), (q48, .inl (k48, 360, .inl (fun _ => 0))), (q56, .inl (k56, 27, .inl (fun _ => 0))), (q64, .inl (k64, 27, .inl (fun _ => 0))), (q71, .inl (k71, 3, .inl (fun _ => 0))), (q79, .inl (k79, 8, .inl (fun _ => 0)))] := hD
  have hK : va_K (dC, dI) vwCl [(k7, .int), (k15, .int), (k23, .boolean), (k31, .int), (k39, .int), (k48, .int), (k56, .int), (k64, .int), (k71, .boolean), (k79, .int)] s := hK
  refine W.widen (k := 10) (n := 473) (by decide +kernel) (by decide +kernel) ?_
  refine va_putF (D := (dC, dI)) (ci := 1) (v := .ref q79) (ty := .array .int) (C := RX1) (T := TX1) (N := 17) hx hb hts iX1_init_in1 tyX1 tyX1_ok nmX1 hown hK hP hD hS 0 rfl rfl 16 (by decide) (hts (.fieldLink RX1 38 "OptimaWorks$Model" "different" "[I") (by decide +kernel)) (fun _ h9 => h9) rfl hin rfl (by decide +kernel) rfl rfl (Nat.le_of_ble_eq_true rfl) dX1_init_81 (fun H locs hP hD hS => ?_)
  have hP : va_P (dC, dI) vwCl [(h0, .inr (1, [.int 0, .int 0, .int 0, .int 0, .int 0, .int 0, .ref q7, .ref q15, .ref q23, .ref q31, .int 0, .ref q39, .ref q48, .ref q56, .ref q64, .ref q71, .ref q79])), (q7, .inl (k7, 8, .inl (fun _ => 0))), (q15, .inl (k15, 8, .inl (fun _ => 0))), (q23, .inl (k23, 8, .inl (fun _ => 0))), (q31, .inl (k31, 12, .inl (fun _ => 0))), (q39, .inl (k39, 12, .inl (fun _ => 0))), (q48, .inl (k48, 360, .inl (fun _ => 0))), (q56, .inl (k56, 27, .inl (fun _ => 0))), (q64, .inl (k64, 27, .inl (fun _ => 0))), (q71, .inl (k71, 3, .inl (fun _ => 0))), (q79, .inl (k79, 8, .inl (fun _ => 0)))] H := hP
  have hD : va_D A [(h0, .inr (1, [.int 0, .int 0, .int 0, .int 0, .int 0, .int 0, .ref q7, .ref q15, .ref q23, .ref q31, .int 0, .ref q39, .ref q48, .ref q56, .ref q64, .ref q71, .ref q79])), (q7, .inl (k7, 8, .inl (fun _ => 0))), (q15, .inl (k15, 8, .inl (fun _ => 0))), (q23, .inl (k23, 8, .inl (fun _ => 0))), (q31, .inl (k31, 12, .inl (fun _ => 0))), (q39, .inl (k39, 12, .inl (fun _ => 0))), (q48, .inl (k48, 360, .inl (fun _ => 0))), (q56, .inl (k56, 27, .inl (fun _ => 0))), (q64, .inl (k64, 27, .inl (fun _ => 0))), (q71, .inl (k71, 3, .inl (fun _ => 0))), (q79, .inl (k79, 8, .inl (fun _ => 0)))] := hD
  refine W.widen (k := 10) (n := 473) (by decide +kernel) (by decide +kernel) ?_
  exact W.vret hx hb hr (fun t ht hW => ⟨⟨((fun n => [q7, q15, q23, q31, q39, q48, q56, q64, q71, q79].getD n 0), (fun n => [k7, k15, k23, k31, k39, k48, k56, k64, k71, k79].getD n k7)), rfl, trivial, by rw [ht]; exact hP, va_K.moved hW.alike hK, hD⟩, hS.F ht⟩) hS.2.2 dX1_init_84

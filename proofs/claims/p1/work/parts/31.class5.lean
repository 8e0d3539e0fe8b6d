theorem dJ7_copyOf_c38d5_0 : decode cJ7_copyOf_c38d5 0 = .ok (.iload_n 1, 1) := by decide +kernel
theorem dJ7_copyOf_c38d5_1 : decode cJ7_copyOf_c38d5 1 = .ok (.aload_n 0, 1) := by decide +kernel
theorem dJ7_copyOf_c38d5_2 : decode cJ7_copyOf_c38d5 2 = .ok (.arraylength, 1) := by decide +kernel
theorem dJ7_copyOf_c38d5_3 : decode cJ7_copyOf_c38d5 3 = .ok (.if_icmp .ne 11, 3) := by decide +kernel
theorem dJ7_copyOf_c38d5_14 : decode cJ7_copyOf_c38d5 14 = .ok (.iload_n 1, 1) := by decide +kernel
theorem dJ7_copyOf_c38d5_15 : decode cJ7_copyOf_c38d5 15 = .ok (.newarray .long, 2) := by decide +kernel
theorem dJ7_copyOf_c38d5_17 : decode cJ7_copyOf_c38d5 17 = .ok (.astore_n 2, 1) := by decide +kernel
theorem dJ7_copyOf_c38d5_18 : decode cJ7_copyOf_c38d5 18 = .ok (.aload_n 0, 1) := by decide +kernel
theorem dJ7_copyOf_c38d5_19 : decode cJ7_copyOf_c38d5 19 = .ok (.iconst 0, 1) := by decide +kernel
theorem dJ7_copyOf_c38d5_20 : decode cJ7_copyOf_c38d5 20 = .ok (.aload_n 2, 1) := by decide +kernel
theorem dJ7_copyOf_c38d5_21 : decode cJ7_copyOf_c38d5 21 = .ok (.iconst 0, 1) := by decide +kernel
theorem dJ7_copyOf_c38d5_22 : decode cJ7_copyOf_c38d5 22 = .ok (.aload_n 0, 1) := by decide +kernel
theorem dJ7_copyOf_c38d5_23 : decode cJ7_copyOf_c38d5 23 = .ok (.arraylength, 1) := by decide +kernel
theorem dJ7_copyOf_c38d5_24 : decode cJ7_copyOf_c38d5 24 = .ok (.iload_n 1, 1) := by decide +kernel
theorem dJ7_copyOf_c38d5_25 : decode cJ7_copyOf_c38d5 25 = .ok (.invokestatic 304, 3) := by decide +kernel
theorem dJ7_copyOf_c38d5_28 : decode cJ7_copyOf_c38d5 28 = .ok (.invokestatic 150, 3) := by decide +kernel
theorem dJ7_copyOf_c38d5_31 : decode cJ7_copyOf_c38d5 31 = .ok (.aload_n 2, 1) := by decide +kernel
theorem dJ7_copyOf_c38d5_32 : decode cJ7_copyOf_c38d5 32 = .ok (.areturn, 1) := by decide +kernel
def wsPJ7_copyOf_c38d5 : List Cond := .code yJ7_copyOf_c38d5 cJ7_copyOf_c38d5 3 (some (.array .long)) :: ([.arrayClass .long, .methodLink RJ7 304 Lib.Math.min.name, .static Lib.Math.min.name, .initialized "java/lang/Math", .code Lib.Math.min.name Lib.Math.min.code 2 (some .int), .methodLink RJ7 150 arraycopyName, .native arraycopyName, .static arraycopyName, .initialized "java/lang/System"])
set_option maxHeartbeats 4000000 in
set_option maxRecDepth 100000 in
/-- Arrays.copyOf(row, 8) of an empty row -/
theorem p_J7_copyOf_c38d5 (l : Launch) (dC : Nat → ClassId) (dI : Nat → Nat → Nat) (b : Nat) (kA : ClassId) (f : Nat → Int64) (sz : Nat) : Met l yJ7_copyOf_c38d5 wsPJ7_copyOf_c38d5 ({ frames := 1, cells := 1, slots := 8, locals := 18 }) (va_Pc [.ref b, .int 8] (fun U => U.heap.size = sz ∧ va_P (dC, dI) vwCl [(b, .inl (kA, 0, .inr (.inl f)))] U.heap ∧ va_K (dC, dI) vwCl [(kA, .long)] U ∧ va_D (fun _ => True) [(b, .inl (kA, 0, .inr (.inl f)))])) (va_Qr (fun (u : (ClassId) × (Nat → Int64)) => True) (fun (u : (ClassId) × (Nat → Int64)) ra t => va_P (dC, dI) vwCl [(ra, .inl ((u.1), 8, .inr (.inl (u.2))))] t.heap ∧ va_K (dC, dI) vwCl [((u.1), .long)] t ∧ va_D (va_A [(b, .inl (kA, 0, .inr (.inl f)))] sz) [(ra, .inl ((u.1), 8, .inr (.inl (u.2))))]) (va_A [(b, .inl (kA, 0, .inr (.inl f)))] sz)) 1 8 (va_A [(b, .inl (kA, 0, .inr (.inl f)))] sz) := by
  refine Met.ofW (cc := cJ7_copyOf_c38d5) (maxL := 3) (ret := (some (.array .long))) (by decide) rfl ?_
  intro p e s m args below meth c s₁ B hml hv
  obtain ⟨rfl, hsz, hP, hK, hD0⟩ := hv
  have hx := B.exec
  have hb := B.bytes
  have hr := B.returns
  have hts := atoms_spec (ws := wsPJ7_copyOf_c38d5) B.pre
  have hown : s.vm.findClass RJ7 = some m.cls := findClass_of_methodNamed B.named
  have hlocks := B.notSynchronized
  subst hsz
  have hD := hD0.self (sz := s.heap.size)
  generalize hAe : va_A [(b, .inl (kA, 0, .inr (.inl f)))] s.heap.size = A at hD ⊢
  have hA : ∀ q : Nat, s.heap.size ≤ q → A q := fun q h => by rw [← hAe]; exact Or.inr h
  have hS : va_S A s.heap s.heap [] := va_S.rf
  have hP : va_P (dC, dI) vwCl [(b, .inl (kA, 0, .inr (.inl f)))] s.heap := hP
  have hl := lv_entry ([.ref b, .int 8]) (n := 3) (Nat.le_of_ble_eq_true rfl)
  rw [lg_entry_eq]
  generalize (lg_sl ([.ref b, .int 8]) ++ List.replicate (3 - (lg_sl ([.ref b, .int 8])).length) Slot.unset).toArray = ls at hl ⊢
  have hl : lv_has ls 3 [(0, .ref b), (1, .int 8)] := hl
  refine lv_iload_n hx hb dJ7_copyOf_c38d5_0 rfl (lv_at hl 1 rfl) ?_
  refine lv_aload_n hx hb dJ7_copyOf_c38d5_1 rfl (lv_at hl 0 rfl) ?_
  refine va_alen hx hb hK hP 0 0 rfl rfl (v := 0) rfl dJ7_copyOf_c38d5_2 ?_
  refine lv_icmp_ne (tgt := 14) hx hb dJ7_copyOf_c38d5_3 (by decide) (fun _ => ?_) (fun c9 => absurd c9 (by decide))
  refine lv_iload_n hx hb dJ7_copyOf_c38d5_14 rfl (lv_at hl 1 rfl) ?_
  refine va_newa (atype := .long) (ty := .long) (N' := 8) (a0 := (8, .inr (.inl (fun _ => 0)))) hx hb (hts (.arrayClass .long) (by decide +kernel)) rfl hK hP hD hS hA (fun _ => rfl) (by decide) (by decide) (by decide +kernel) (by decide +kernel) (by decide +kernel) dJ7_copyOf_c38d5_15 (fun q15 k15 H hK hP hD hS => ?_)
  have hP : va_P (dC, dI) vwCl [(b, .inl (kA, 0, .inr (.inl f))), (q15, .inl (k15, 8, .inr (.inl (fun _ => 0))))] H := hP
  have hD : va_D A [(b, .inl (kA, 0, .inr (.inl f))), (q15, .inl (k15, 8, .inr (.inl (fun _ => 0))))] := hD
  have hK : va_K (dC, dI) vwCl [(kA, .long), (k15, .long)] s := hK
  refine W.widen (k := 1) (n := 8) (by decide +kernel) (by decide +kernel) ?_
  refine lv_astore_n (lv' := [(2, .ref q15), (0, .ref b), (1, .int 8)]) hx hb dJ7_copyOf_c38d5_17 rfl hl (by decide) rfl (fun ls hl => ?_)
  refine lv_aload_n hx hb dJ7_copyOf_c38d5_18 rfl (lv_at hl 1 rfl) ?_
  refine lv_iconst (v := 0) hx hb dJ7_copyOf_c38d5_19 (by decide) ?_
  refine lv_aload_n hx hb dJ7_copyOf_c38d5_20 rfl (lv_at hl 0 rfl) ?_
  refine lv_iconst (v := 0) hx hb dJ7_copyOf_c38d5_21 (by decide) ?_
  refine lv_aload_n hx hb dJ7_copyOf_c38d5_22 rfl (lv_at hl 1 rfl) ?_
  refine va_alen hx hb hK hP 0 0 rfl rfl (v := 0) rfl dJ7_copyOf_c38d5_23 ?_
  refine lv_iload_n hx hb dJ7_copyOf_c38d5_24 rfl (lv_at hl 2 rfl) ?_
  refine va_mmin hx hb (by rw [hml]; exact hl.1.symm) hown (hts (.methodLink RJ7 304 Lib.Math.min.name) (by decide +kernel)) (hts (.static Lib.Math.min.name) (by decide +kernel)) (hts (.initialized "java/lang/Math") (by decide +kernel)) (hts (.code Lib.Math.min.name Lib.Math.min.code 2 (some .int)) (by decide +kernel)) (by decide +kernel) (Nat.le_of_ble_eq_true rfl) (by decide +kernel) (by decide +kernel) dJ7_copyOf_c38d5_25 ?_
  refine lv_topi (fun y1 hy1 => ?_)
  obtain rfl : 0 = y1 := (hy1.trans (by decide)).symm
  refine va_copyl hx hb (by rw [hml]; exact hl.1.symm) hown (hts (.methodLink RJ7 150 arraycopyName) (by decide +kernel)) (hts (.native arraycopyName) (by decide +kernel)) (hts (.static arraycopyName) (by decide +kernel)) (hts (.initialized "java/lang/System") (by decide +kernel)) hK hP hD hS 0 1 0 1 rfl rfl rfl rfl rfl (by decide) (by decide) (by decide) (by decide) (by decide) (fun i9 h9 => absurd h9 (Nat.not_lt_zero i9)) (by decide +kernel) (Nat.le_of_ble_eq_true rfl) dJ7_copyOf_c38d5_28 (fun H locs hP hD hS => ?_)
  have hP : va_P (dC, dI) vwCl [(b, .inl (kA, 0, .inr (.inl f))), (q15, .inl (k15, 8, .inr (.inl (va_cpy f (fun _ => 0) (0 : Int32).toNatClampNeg (0 : Int32).toNatClampNeg (0 : Int32).toNatClampNeg))))] H := hP
  have hD : va_D A [(b, .inl (kA, 0, .inr (.inl f))), (q15, .inl (k15, 8, .inr (.inl (va_cpy f (fun _ => 0) (0 : Int32).toNatClampNeg (0 : Int32).toNatClampNeg (0 : Int32).toNatClampNeg))))] := hD
  refine lv_aload_n hx hb dJ7_copyOf_c38d5_31 rfl (lv_at hl 0 rfl) ?_
  refine W.widen (k := 1) (n := 8) (by decide +kernel) (by decide +kernel) ?_
  exact W.aret hx hb hr (Or.inr ⟨_, rfl⟩) (Or.inr ⟨_, rfl⟩) (fun t ht hW => ⟨⟨(k15, (va_cpy f (fun _ => 0) (0 : Int32).toNatClampNeg (0 : Int32).toNatClampNeg (0 : Int32).toNatClampNeg)), _, rfl, trivial, by rw [ht]; exact hP.sub [1] rfl, va_K.moved hW.alike (hK.sub [1] rfl), hD.sub [1] (by decide) rfl⟩, hS.F ht⟩) hS.2.2 dJ7_copyOf_c38d5_32
theorem dX7_isListable_0 : decode cX7_isListable 0 = .ok (.iconst 1, 1) := by decide +kernel
theorem dX7_isListable_1 : decode cX7_isListable 1 = .ok (.istore_n 1, 1) := by decide +kernel
theorem dX7_isListable_2 : decode cX7_isListable 2 = .ok (.iconst 0, 1) := by decide +kernel
theorem dX7_isListable_3 : decode cX7_isListable 3 = .ok (.istore_n 2, 1) := by decide +kernel
theorem dX7_isListable_4 : decode cX7_isListable 4 = .ok (.iload_n 2, 1) := by decide +kernel
theorem dX7_isListable_5 : decode cX7_isListable 5 = .ok (.aload_n 0, 1) := by decide +kernel
theorem dX7_isListable_6 : decode cX7_isListable 6 = .ok (.getfield 59, 3) := by decide +kernel
theorem dX7_isListable_9 : decode cX7_isListable 9 = .ok (.if_icmp .ge 28, 3) := by decide +kernel
theorem dX7_isListable_37 : decode cX7_isListable 37 = .ok (.iload_n 1, 1) := by decide +kernel
theorem dX7_isListable_38 : decode cX7_isListable 38 = .ok (.sipush 20000, 3) := by decide +kernel
theorem dX7_isListable_41 : decode cX7_isListable 41 = .ok (.if_icmp .gt 7, 3) := by decide +kernel
theorem dX7_isListable_44 : decode cX7_isListable 44 = .ok (.iconst 1, 1) := by decide +kernel
theorem dX7_isListable_45 : decode cX7_isListable 45 = .ok (.goto 4, 3) := by decide +kernel
theorem dX7_isListable_49 : decode cX7_isListable 49 = .ok (.ireturn, 1) := by decide +kernel
def wsPX7_isListable : List Cond := .code yX7_isListable cX7_isListable 3 (some .boolean) :: ([.fieldLink RX7 59 "OptimaWorks$ValueDesk" "holders" "I"] ++ wsX70)
theorem iwsPX7_isListable_in7 : ∀ w ∈ wsX70, w ∈ wsPX7_isListable := fun _ h => List.mem_cons_of_mem _ (List.mem_append_right _ h)
set_option maxHeartbeats 4000000 in
set_option maxRecDepth 100000 in
/-- isListable() without holders -/
theorem p_X7_isListable (l : Launch) (dC : Nat → ClassId) (dI : Nat → Nat → Nat) (d0 : Nat) (bb : Nat → Nat) (sz : Nat) : Met l yX7_isListable wsPX7_isListable ({ frames := 0, cells := 0, slots := 0, locals := 0 }) (va_Pc [.ref d0] (fun U => U.heap.size = sz ∧ va_P (dC, dI) vwCl [(d0, .inr (7, [.int 0, .int 0, .ref (bb 0), .ref (bb 1), .ref (bb 2), .ref (bb 3), .ref (bb 4), .ref (bb 5), .ref (bb 6), .ref (bb 7), .ref (bb 8), .int (-1), .int 0, .ref (bb 9), .ref (bb 10), .ref (bb 11), .ref (bb 12), .ref (bb 13), .int 0, .int 1]))] U.heap ∧ va_K (dC, dI) vwCl [] U ∧ va_D (fun _ => True) [(d0, .inr (7, [.int 0, .int 0, .ref (bb 0), .ref (bb 1), .ref (bb 2), .ref (bb 3), .ref (bb 4), .ref (bb 5), .ref (bb 6), .ref (bb 7), .ref (bb 8), .int (-1), .int 0, .ref (bb 9), .ref (bb 10), .ref (bb 11), .ref (bb 12), .ref (bb 13), .int 0, .int 1]))])) (va_Qi (fun (r : Int32) (u : Unit) => r = 1) (fun (u : Unit) t => va_P (dC, dI) vwCl [(d0, .inr (7, [.int 0, .int 0, .ref (bb 0), .ref (bb 1), .ref (bb 2), .ref (bb 3), .ref (bb 4), .ref (bb 5), .ref (bb 6), .ref (bb 7), .ref (bb 8), .int (-1), .int 0, .ref (bb 9), .ref (bb 10), .ref (bb 11), .ref (bb 12), .ref (bb 13), .int 0, .int 1]))] t.heap ∧ va_K (dC, dI) vwCl [] t ∧ va_D (va_A [(d0, .inr (7, [.int 0, .int 0, .ref (bb 0), .ref (bb 1), .ref (bb 2), .ref (bb 3), .ref (bb 4), .ref (bb 5), .ref (bb 6), .ref (bb 7), .ref (bb 8), .int (-1), .int 0, .ref (bb 9), .ref (bb 10), .ref (bb 11), .ref (bb 12), .ref (bb 13), .int 0, .int 1]))] sz) [(d0, .inr (7, [.int 0, .int 0, .ref (bb 0), .ref (bb 1), .ref (bb 2), .ref (bb 3), .ref (bb 4), .ref (bb 5), .ref (bb 6), .ref (bb 7), .ref (bb 8), .int (-1), .int 0, .ref (bb 9), .ref (bb 10), .ref (bb 11), .ref (bb 12), .ref (bb 13), .int 0, .int 1]))]) (va_A [(d0, .inr (7, [.int 0, .int 0, .ref (bb 0), .ref (bb 1), .ref (bb 2), .ref (bb 3), .ref (bb 4), .ref (bb 5), .ref (bb 6), .ref (bb 7), .ref (bb 8), .int (-1), .int 0, .ref (bb 9), .ref (bb 10), .ref (bb 11), .ref (bb 12), .ref (bb 13), .int 0, .int 1]))] sz)) 0 0 (va_A [(d0, .inr (7, [.int 0, .int 0, .ref (bb 0), .ref (bb 1), .ref (bb 2), .ref (bb 3), .ref (bb 4), .ref (bb 5), .ref (bb 6), .ref (bb 7), .ref (bb 8), .int (-1), .int 0, .ref (bb 9), .ref (bb 10), .ref (bb 11), .ref (bb 12), .ref (bb 13), .int 0, .int 1]))] sz) := by
  refine Met.ofW (cc := cX7_isListable) (maxL := 3) (ret := (some .boolean)) (by decide) rfl ?_
  intro p e s m args below meth c s₁ B hml hv
  obtain ⟨rfl, hsz, hP, hK, hD0⟩ := hv
  have hx := B.exec
  have hb := B.bytes
  have hr := B.returns
  have hts := atoms_spec (ws := wsPX7_isListable) B.pre
  have hown : s.vm.findClass RX7 = some m.cls := findClass_of_methodNamed B.named
  have hlocks := B.notSynchronized
  subst hsz
  have hD := hD0.self (sz := s.heap.size)
  generalize hAe : va_A [(d0, .inr (7, [.int 0, .int 0, .ref (bb 0), .ref (bb 1), .ref (bb 2), .ref (bb 3), .ref (bb 4), .ref (bb 5), .ref (bb 6), .ref (bb 7), .ref (bb 8), .int (-1), .int 0, .ref (bb 9), .ref (bb 10), .ref (bb 11), .ref (bb 12), .ref (bb 13), .int 0, .int 1]))] s.heap.size = A at hD ⊢
  have hA : ∀ q : Nat, s.heap.size ≤ q → A q := fun q h => by rw [← hAe]; exact Or.inr h
  have hS : va_S A s.heap s.heap [] := va_S.rf
  have hP : va_P (dC, dI) vwCl [(d0, .inr (7, [.int 0, .int 0, .ref (bb 0), .ref (bb 1), .ref (bb 2), .ref (bb 3), .ref (bb 4), .ref (bb 5), .ref (bb 6), .ref (bb 7), .ref (bb 8), .int (-1), .int 0, .ref (bb 9), .ref (bb 10), .ref (bb 11), .ref (bb 12), .ref (bb 13), .int 0, .int 1]))] s.heap := hP
  have hl := lv_entry ([.ref d0]) (n := 3) (Nat.le_of_ble_eq_true rfl)
  rw [lg_entry_eq]
  generalize (lg_sl ([.ref d0]) ++ List.replicate (3 - (lg_sl ([.ref d0])).length) Slot.unset).toArray = ls at hl ⊢
  have hl : lv_has ls 3 [(0, .ref d0)] := hl
  refine lv_iconst (v := 1) hx hb dX7_isListable_0 (by decide) ?_
  refine lv_istore_n (lv' := [(1, .int 1), (0, .ref d0)]) hx hb dX7_isListable_1 rfl hl (by decide) rfl (fun ls hl => ?_)
  refine lv_iconst (v := 0) hx hb dX7_isListable_2 (by decide) ?_
  refine lv_istore_n (lv' := [(2, .int 0), (1, .int 1), (0, .ref d0)]) hx hb dX7_isListable_3 rfl hl (by decide) rfl (fun ls hl => ?_)
  refine lv_iload_n hx hb dX7_isListable_4 rfl (lv_at hl 0 rfl) ?_
  refine lv_aload_n hx hb dX7_isListable_5 rfl (lv_at hl 2 rfl) ?_
  refine va_get (D := (dC, dI)) (ci := 7) (v := .int 0) (C := RX7) (T := TX7) (N := 20) hx hb hts iwsPX7_isListable_in7 hown hK hP 0 rfl rfl 0 (by decide) (hts (.fieldLink RX7 59 "OptimaWorks$ValueDesk" "holders" "I") (by decide +kernel)) (fun _ h9 => h9) rfl dX7_isListable_6 ?_
  refine lv_icmp_ge (tgt := 37) hx hb dX7_isListable_9 (by decide) (fun _ => ?_) (fun c9 => absurd (by decide) c9)
  refine lv_iload_n hx hb dX7_isListable_37 rfl (lv_at hl 1 rfl) ?_
  refine lv_sipush (v := 20000) hx hb dX7_isListable_38 (by decide) ?_
  refine lv_icmp_gt (tgt := 48) hx hb dX7_isListable_41 (by decide) (fun c9 => absurd c9 (by decide)) (fun _ => ?_)
  refine lv_iconst (v := 1) hx hb dX7_isListable_44 (by decide) ?_
  refine lv_goto (tgt := 49) hx hb dX7_isListable_45 (by decide) ?_
  refine W.widen (k := 0) (n := 0) (by decide +kernel) (by decide +kernel) ?_
  exact W.zret (v := 1) hx hb hr rfl (fun t ht hW => ⟨⟨1, (), rfl, by (first | rfl | assumption | trivial | omega | (simp []; done) | (simp; omega)), by rw [ht]; exact hP.sub [0] rfl, va_K.moved hW.alike (hK.sub [] rfl), hD.sub [0] (by decide) rfl⟩, hS.F ht⟩) hS.2.2 dX7_isListable_49
theorem dX7_keepListed_0 : decode cX7_keepListed 0 = .ok (.aload_n 0, 1) := by decide +kernel
theorem dX7_keepListed_1 : decode cX7_keepListed 1 = .ok (.getfield 166, 3) := by decide +kernel
theorem dX7_keepListed_4 : decode cX7_keepListed 4 = .ok (.aload_n 0, 1) := by decide +kernel
theorem dX7_keepListed_5 : decode cX7_keepListed 5 = .ok (.getfield 56, 3) := by decide +kernel
theorem dX7_keepListed_8 : decode cX7_keepListed 8 = .ok (.arraylength, 1) := by decide +kernel
theorem dX7_keepListed_9 : decode cX7_keepListed 9 = .ok (.if_icmp .lt 25, 3) := by decide +kernel
theorem dX7_keepListed_12 : decode cX7_keepListed 12 = .ok (.aload_n 0, 1) := by decide +kernel
theorem dX7_keepListed_13 : decode cX7_keepListed 13 = .ok (.aload_n 0, 1) := by decide +kernel
theorem dX7_keepListed_14 : decode cX7_keepListed 14 = .ok (.getfield 56, 3) := by decide +kernel
theorem dX7_keepListed_17 : decode cX7_keepListed 17 = .ok (.bipush 8, 2) := by decide +kernel
theorem dX7_keepListed_19 : decode cX7_keepListed 19 = .ok (.iconst 2, 1) := by decide +kernel
theorem dX7_keepListed_20 : decode cX7_keepListed 20 = .ok (.aload_n 0, 1) := by decide +kernel
theorem dX7_keepListed_21 : decode cX7_keepListed 21 = .ok (.getfield 166, 3) := by decide +kernel
theorem dX7_keepListed_24 : decode cX7_keepListed 24 = .ok (.imul, 1) := by decide +kernel
theorem dX7_keepListed_25 : decode cX7_keepListed 25 = .ok (.invokestatic 89, 3) := by decide +kernel
theorem dX7_keepListed_28 : decode cX7_keepListed 28 = .ok (.invokestatic 188, 3) := by decide +kernel
theorem dX7_keepListed_31 : decode cX7_keepListed 31 = .ok (.putfield 56, 3) := by decide +kernel
theorem dX7_keepListed_34 : decode cX7_keepListed 34 = .ok (.lconst 0, 1) := by decide +kernel
theorem dX7_keepListed_35 : decode cX7_keepListed 35 = .ok (.lstore_n 1, 1) := by decide +kernel
theorem dX7_keepListed_36 : decode cX7_keepListed 36 = .ok (.aload_n 0, 1) := by decide +kernel
theorem dX7_keepListed_37 : decode cX7_keepListed 37 = .ok (.getfield 59, 3) := by decide +kernel
theorem dX7_keepListed_40 : decode cX7_keepListed 40 = .ok (.iconst 1, 1) := by decide +kernel
theorem dX7_keepListed_41 : decode cX7_keepListed 41 = .ok (.isub, 1) := by decide +kernel
theorem dX7_keepListed_42 : decode cX7_keepListed 42 = .ok (.istore_n 3, 1) := by decide +kernel
theorem dX7_keepListed_43 : decode cX7_keepListed 43 = .ok (.iload_n 3, 1) := by decide +kernel
theorem dX7_keepListed_44 : decode cX7_keepListed 44 = .ok (.ifCond .lt 21, 3) := by decide +kernel
theorem dX7_keepListed_65 : decode cX7_keepListed 65 = .ok (.aload_n 0, 1) := by decide +kernel
theorem dX7_keepListed_66 : decode cX7_keepListed 66 = .ok (.getfield 56, 3) := by decide +kernel
theorem dX7_keepListed_69 : decode cX7_keepListed 69 = .ok (.aload_n 0, 1) := by decide +kernel
theorem dX7_keepListed_70 : decode cX7_keepListed 70 = .ok (.getfield 166, 3) := by decide +kernel
theorem dX7_keepListed_73 : decode cX7_keepListed 73 = .ok (.lload_n 1, 1) := by decide +kernel
theorem dX7_keepListed_74 : decode cX7_keepListed 74 = .ok (.lastore, 1) := by decide +kernel
theorem dX7_keepListed_75 : decode cX7_keepListed 75 = .ok (.aload_n 0, 1) := by decide +kernel
theorem dX7_keepListed_76 : decode cX7_keepListed 76 = .ok (.dup, 1) := by decide +kernel
theorem dX7_keepListed_77 : decode cX7_keepListed 77 = .ok (.getfield 166, 3) := by decide +kernel
theorem dX7_keepListed_80 : decode cX7_keepListed 80 = .ok (.iconst 1, 1) := by decide +kernel
theorem dX7_keepListed_81 : decode cX7_keepListed 81 = .ok (.iadd, 1) := by decide +kernel
theorem dX7_keepListed_82 : decode cX7_keepListed 82 = .ok (.putfield 166, 3) := by decide +kernel
theorem dX7_keepListed_85 : decode cX7_keepListed 85 = .ok (.return_, 1) := by decide +kernel
def wsPX7_keepListed : List Cond := .code yX7_keepListed cX7_keepListed 4 none :: ([.fieldLink RX7 166 "OptimaWorks$ValueDesk" "listed" "I", .fieldLink RX7 56 "OptimaWorks$ValueDesk" "list" "[J", .methodLink RX7 89 Lib.Math.max.name, .static Lib.Math.max.name, .initialized "java/lang/Math", .code Lib.Math.max.name Lib.Math.max.code 2 (some .int), .fieldLink RX7 59 "OptimaWorks$ValueDesk" "holders" "I"] ++ wsX70 ++ (va_wsS RX7 188 yJ7_copyOf_c38d5 wsPJ7_copyOf_c38d5))
theorem iwsPX7_keepListed_in7 : ∀ w ∈ wsX70, w ∈ wsPX7_keepListed := fun _ h => List.mem_cons_of_mem _ (List.mem_append_left _ (List.mem_append_right _ h))
theorem gwsPX7_keepListed_0 : GoodIn wsPX7_keepListed (va_wsS RX7 188 yJ7_copyOf_c38d5 wsPJ7_copyOf_c38d5) := goodIn_sub (fun _ h => List.mem_cons_of_mem _ (List.mem_append_right _ h)) (by decide +kernel)
set_option maxHeartbeats 4000000 in
set_option maxRecDepth 100000 in
/-- keepListed(): the first -/
theorem p_X7_keepListed (l : Launch) (dC : Nat → ClassId) (dI : Nat → Nat → Nat) (d0 : Nat) (bb : Nat → Nat) (kd : Nat → ClassId) (sz : Nat) : Met l yX7_keepListed wsPX7_keepListed ({ frames := 2, cells := 1, slots := 8, locals := 40 }) (va_Pc [.ref d0] (fun U => U.heap.size = sz ∧ va_P (dC, dI) vwCl [(d0, .inr (7, [.int 0, .int 0, .ref (bb 0), .ref (bb 1), .ref (bb 2), .ref (bb 3), .ref (bb 4), .ref (bb 5), .ref (bb 6), .ref (bb 7), .ref (bb 8), .int (-1), .int 0, .ref (bb 9), .ref (bb 10), .ref (bb 11), .ref (bb 12), .ref (bb 13), .int 0, .int 1])), ((bb 13), .inl ((kd 13), 0, .inr (.inl (fun _ => 0))))] U.heap ∧ va_K (dC, dI) vwCl [((kd 13), .long)] U ∧ va_D (fun _ => True) [(d0, .inr (7, [.int 0, .int 0, .ref (bb 0), .ref (bb 1), .ref (bb 2), .ref (bb 3), .ref (bb 4), .ref (bb 5), .ref (bb 6), .ref (bb 7), .ref (bb 8), .int (-1), .int 0, .ref (bb 9), .ref (bb 10), .ref (bb 11), .ref (bb 12), .ref (bb 13), .int 0, .int 1])), ((bb 13), .inl ((kd 13), 0, .inr (.inl (fun _ => 0))))])) (va_Qv (fun (u : Nat) => True) (fun (u : Nat) t => va_P (dC, dI) vwCl [(d0, .inr (7, [.int 0, .int 0, .ref (bb 0), .ref (bb 1), .ref (bb 2), .ref (bb 3), .ref (bb 4), .ref (bb 5), .ref (bb 6), .ref (bb 7), .ref (bb 8), .int (-1), .int 0, .ref (bb 9), .ref (bb 10), .ref (bb 11), .ref (bb 12), .ref u, .int 1, .int 1]))] t.heap ∧ va_K (dC, dI) vwCl [] t ∧ va_D (va_A [(d0, .inr (7, [.int 0, .int 0, .ref (bb 0), .ref (bb 1), .ref (bb 2), .ref (bb 3), .ref (bb 4), .ref (bb 5), .ref (bb 6), .ref (bb 7), .ref (bb 8), .int (-1), .int 0, .ref (bb 9), .ref (bb 10), .ref (bb 11), .ref (bb 12), .ref (bb 13), .int 0, .int 1])), ((bb 13), .inl ((kd 13), 0, .inr (.inl (fun _ => 0))))] sz) [(d0, .inr (7, [.int 0, .int 0, .ref (bb 0), .ref (bb 1), .ref (bb 2), .ref (bb 3), .ref (bb 4), .ref (bb 5), .ref (bb 6), .ref (bb 7), .ref (bb 8), .int (-1), .int 0, .ref (bb 9), .ref (bb 10), .ref (bb 11), .ref (bb 12), .ref u, .int 1, .int 1]))]) (va_A [(d0, .inr (7, [.int 0, .int 0, .ref (bb 0), .ref (bb 1), .ref (bb 2), .ref (bb 3), .ref (bb 4), .ref (bb 5), .ref (bb 6), .ref (bb 7), .ref (bb 8), .int (-1), .int 0, .ref (bb 9), .ref (bb 10), .ref (bb 11), .ref (bb 12), .ref (bb 13), .int 0, .int 1])), ((bb 13), .inl ((kd 13), 0, .inr (.inl (fun _ => 0))))] sz)) 1 8 (va_A [(d0, .inr (7, [.int 0, .int 0, .ref (bb 0), .ref (bb 1), .ref (bb 2), .ref (bb 3), .ref (bb 4), .ref (bb 5), .ref (bb 6), .ref (bb 7), .ref (bb 8), .int (-1), .int 0, .ref (bb 9), .ref (bb 10), .ref (bb 11), .ref (bb 12), .ref (bb 13), .int 0, .int 1])), ((bb 13), .inl ((kd 13), 0, .inr (.inl (fun _ => 0))))] sz) := by
  refine Met.ofW (cc := cX7_keepListed) (maxL := 4) (ret := none) (by decide) rfl ?_
  intro p e s m args below meth c s₁ B hml hv
  obtain ⟨rfl, hsz, hP, hK, hD0⟩ := hv
  have hx := B.exec
  have hb := B.bytes
  have hr := B.returns
  have hts := atoms_spec (ws := wsPX7_keepListed) B.pre
  have hown : s.vm.findClass RX7 = some m.cls := findClass_of_methodNamed B.named
  have hlocks := B.notSynchronized
  subst hsz
  have hD := hD0.self (sz := s.heap.size)
  generalize hAe : va_A [(d0, .inr (7, [.int 0, .int 0, .ref (bb 0), .ref (bb 1), .ref (bb 2), .ref (bb 3), .ref (bb 4), .ref (bb 5), .ref (bb 6), .ref (bb 7), .ref (bb 8), .int (-1), .int 0, .ref (bb 9), .ref (bb 10), .ref (bb 11), .ref (bb 12), .ref (bb 13), .int 0, .int 1])), ((bb 13), .inl ((kd 13), 0, .inr (.inl (fun _ => 0))))] s.heap.size = A at hD ⊢
  have hA : ∀ q : Nat, s.heap.size ≤ q → A q := fun q h => by rw [← hAe]; exact Or.inr h
  have hS : va_S A s.heap s.heap [] := va_S.rf
  have hP : va_P (dC, dI) vwCl [(d0, .inr (7, [.int 0, .int 0, .ref (bb 0), .ref (bb 1), .ref (bb 2), .ref (bb 3), .ref (bb 4), .ref (bb 5), .ref (bb 6), .ref (bb 7), .ref (bb 8), .int (-1), .int 0, .ref (bb 9), .ref (bb 10), .ref (bb 11), .ref (bb 12), .ref (bb 13), .int 0, .int 1])), ((bb 13), .inl ((kd 13), 0, .inr (.inl (fun _ => 0))))] s.heap := hP
  have hl := lv_entry ([.ref d0]) (n := 4) (Nat.le_of_ble_eq_true rfl)
  rw [lg_entry_eq]
  generalize (lg_sl ([.ref d0]) ++ List.replicate (4 - (lg_sl ([.ref d0])).length) Slot.unset).toArray = ls at hl ⊢
  have hl : lv_has ls 4 [(0, .ref d0)] := hl
  refine lv_aload_n hx hb dX7_keepListed_0 rfl (lv_at hl 0 rfl) ?_
  refine va_get (D := (dC, dI)) (ci := 7) (v := .int 0) (C := RX7) (T := TX7) (N := 20) hx hb hts iwsPX7_keepListed_in7 hown hK hP 0 rfl rfl 18 (by decide) (hts (.fieldLink RX7 166 "OptimaWorks$ValueDesk" "listed" "I") (by decide +kernel)) (fun _ h9 => h9) rfl dX7_keepListed_1 ?_
  refine lv_aload_n hx hb dX7_keepListed_4 rfl (lv_at hl 0 rfl) ?_
  refine va_get (D := (dC, dI)) (ci := 7) (v := .ref (bb 13)) (C := RX7) (T := TX7) (N := 20) hx hb hts iwsPX7_keepListed_in7 hown hK hP 0 rfl rfl 17 (by decide) (hts (.fieldLink RX7 56 "OptimaWorks$ValueDesk" "list" "[J") (by decide +kernel)) (fun _ h9 => h9) rfl dX7_keepListed_5 ?_
  refine va_alen hx hb hK hP 1 0 rfl rfl (v := 0) rfl dX7_keepListed_8 ?_
  refine lv_icmp_lt (tgt := 34) hx hb dX7_keepListed_9 (by decide) (fun c9 => absurd c9 (by decide)) (fun _ => ?_)
  refine lv_aload_n hx hb dX7_keepListed_12 rfl (lv_at hl 0 rfl) ?_
  refine lv_aload_n hx hb dX7_keepListed_13 rfl (lv_at hl 0 rfl) ?_
  refine va_get (D := (dC, dI)) (ci := 7) (v := .ref (bb 13)) (C := RX7) (T := TX7) (N := 20) hx hb hts iwsPX7_keepListed_in7 hown hK hP 0 rfl rfl 17 (by decide) (hts (.fieldLink RX7 56 "OptimaWorks$ValueDesk" "list" "[J") (by decide +kernel)) (fun _ h9 => h9) rfl dX7_keepListed_14 ?_
  refine lv_bipush (v := 8) hx hb dX7_keepListed_17 (by decide) ?_
  refine lv_iconst (v := 2) hx hb dX7_keepListed_19 (by decide) ?_
  refine lv_aload_n hx hb dX7_keepListed_20 rfl (lv_at hl 0 rfl) ?_
  refine va_get (D := (dC, dI)) (ci := 7) (v := .int 0) (C := RX7) (T := TX7) (N := 20) hx hb hts iwsPX7_keepListed_in7 hown hK hP 0 rfl rfl 18 (by decide) (hts (.fieldLink RX7 166 "OptimaWorks$ValueDesk" "listed" "I") (by decide +kernel)) (fun _ h9 => h9) rfl dX7_keepListed_21 ?_
  refine lv_imul hx hb dX7_keepListed_24 ?_
  refine lv_topi (fun y1 hy1 => ?_)
  obtain rfl : 0 = y1 := (hy1.trans (by decide)).symm
  refine va_mmax hx hb (by rw [hml]; exact hl.1.symm) hown (hts (.methodLink RX7 89 Lib.Math.max.name) (by decide +kernel)) (hts (.static Lib.Math.max.name) (by decide +kernel)) (hts (.initialized "java/lang/Math") (by decide +kernel)) (hts (.code Lib.Math.max.name Lib.Math.max.code 2 (some .int)) (by decide +kernel)) (by decide +kernel) (Nat.le_of_ble_eq_true rfl) (by decide +kernel) (by decide +kernel) dX7_keepListed_25 ?_
  refine lv_topi (fun y2 hy2 => ?_)
  obtain rfl : 8 = y2 := (hy2.trans (by decide)).symm
  have hPc := hP.sub (ws' := [((bb 13), .inl ((kd 13), 0, .inr (.inl (fun _ => 0))))]) [1] rfl
  have hDc := hD.sub (ws' := [((bb 13), .inl ((kd 13), 0, .inr (.inl (fun _ => 0))))]) [1] (by decide) rfl
  have hKc := hK.sub (tys' := [((kd 13), .long)]) [0] rfl
  have hFc := va_free (wc := [((bb 13), .inl ((kd 13), 0, .inr (.inl (fun _ => 0))))]) hD hS hA [1] rfl
  refine va_callr (va_runS (As := [.ref (bb 13), .int 8]) (rest := [.ref d0]) ⟨hx, hb, hml, hown, hts⟩ (p_J7_copyOf_c38d5 l dC dI (bb 13) (kd 13) (fun _ => 0) s.heap.size) (va_cwS 2 hts gwsPX7_keepListed_0 rfl rfl rfl (by decide +kernel) ⟨by decide +kernel, by decide +kernel⟩) ⟨fun a U g mk q => by obtain ⟨q0, q1, qP, qK, qD⟩ := q; exact ⟨q0, q1, qP, va_K.moved (u := U) (U := U.calling g mk a) (Vm.Alike.refl U.vm) qK, qD⟩, fun U hU9 hW => ⟨rfl, by rw [hU9], by rw [hU9]; exact hPc, va_K.moved hW.alike hKc, hDc.weaken (fun _ _ _ _ => trivial)⟩⟩ rfl rfl hl.1 rfl (lv_room (Nat.le_of_ble_eq_true rfl)) dX7_keepListed_28 ⟨by decide +kernel, by decide +kernel⟩) hS (fun q _ h => hFc q h) hFc (fun u a28 t H1 locs ht hvm hw hB hz1 hk1 hS => ?_)
  obtain ⟨kn28, gg28⟩ := u
  obtain ⟨hP1, hK1, hD1⟩ := hB
  rw [ht] at hP1
  have hK1 := va_K.moved hvm.symm hK1
  obtain ⟨hP, hD⟩ := va_join (wr := [(d0, .inr (7, [.int 0, .int 0, .ref (bb 0), .ref (bb 1), .ref (bb 2), .ref (bb 3), .ref (bb 4), .ref (bb 5), .ref (bb 6), .ref (bb 7), .ref (bb 8), .int (-1), .int 0, .ref (bb 9), .ref (bb 10), .ref (bb 11), .ref (bb 12), .ref (bb 13), .int 0, .int 1]))]) (w1 := [(a28, .inl (kn28, 8, .inr (.inl gg28)))]) hP hD [1] [0] rfl rfl (by decide) (by decide) hk1 hFc hP1 hD1
  have hK := hK.app hK1
  generalize H1 = H at hP hS ⊢
  have hP : va_P (dC, dI) vwCl [(d0, .inr (7, [.int 0, .int 0, .ref (bb 0), .ref (bb 1), .ref (bb 2), .ref (bb 3), .ref (bb 4), .ref (bb 5), .ref (bb 6), .ref (bb 7), .ref (bb 8), .int (-1), .int 0, .ref (bb 9), .ref (bb 10), .ref (bb 11), .ref (bb 12), .ref (bb 13), .int 0, .int 1])), (a28, .inl (kn28, 8, .inr (.inl gg28)))] H := hP
  have hD : va_D A [(d0, .inr (7, [.int 0, .int 0, .ref (bb 0), .ref (bb 1), .ref (bb 2), .ref (bb 3), .ref (bb 4), .ref (bb 5), .ref (bb 6), .ref (bb 7), .ref (bb 8), .int (-1), .int 0, .ref (bb 9), .ref (bb 10), .ref (bb 11), .ref (bb 12), .ref (bb 13), .int 0, .int 1])), (a28, .inl (kn28, 8, .inr (.inl gg28)))] := hD
  have hK : va_K (dC, dI) vwCl [((kd 13), .long), (kn28, .long)] s := hK
  refine W.widen (k := 1) (n := 8) (by decide +kernel) (by decide +kernel) ?_
  refine va_put (D := (dC, dI)) (ci := 7) (v := .ref a28) (ty := .array .long) (C := RX7) (T := TX7) (N := 20) hx hb hts iwsPX7_keepListed_in7 tyX7 tyX7_ok nmX7 hown hK hP hD hS 0 rfl rfl 17 (by decide) (hts (.fieldLink RX7 56 "OptimaWorks$ValueDesk" "list" "[J") (by decide +kernel)) (fun _ h9 => h9) rfl (by decide +kernel) rfl rfl (Nat.le_of_ble_eq_true rfl) dX7_keepListed_31 (fun H locs hP hD hS => ?_)
  have hP : va_P (dC, dI) vwCl [(d0, .inr (7, [.int 0, .int 0, .ref (bb 0), .ref (bb 1), .ref (bb 2), .ref (bb 3), .ref (bb 4), .ref (bb 5), .ref (bb 6), .ref (bb 7), .ref (bb 8), .int (-1), .int 0, .ref (bb 9), .ref (bb 10), .ref (bb 11), .ref (bb 12), .ref a28, .int 0, .int 1])), (a28, .inl (kn28, 8, .inr (.inl gg28)))] H := hP
  have hD : va_D A [(d0, .inr (7, [.int 0, .int 0, .ref (bb 0), .ref (bb 1), .ref (bb 2), .ref (bb 3), .ref (bb 4), .ref (bb 5), .ref (bb 6), .ref (bb 7), .ref (bb 8), .int (-1), .int 0, .ref (bb 9), .ref (bb 10), .ref (bb 11), .ref (bb 12), .ref a28, .int 0, .int 1])), (a28, .inl (kn28, 8, .inr (.inl gg28)))] := hD
  refine lv_lconst (v := 0) hx hb dX7_keepListed_34 (by decide) ?_
  refine lv_lstore_n (lv' := [(1, .long 0), (0, .ref d0)]) hx hb dX7_keepListed_35 rfl hl (by decide) rfl (fun ls hl => ?_)
  refine lv_aload_n hx hb dX7_keepListed_36 rfl (lv_at hl 1 rfl) ?_
  refine va_get (D := (dC, dI)) (ci := 7) (v := .int 0) (C := RX7) (T := TX7) (N := 20) hx hb hts iwsPX7_keepListed_in7 hown hK hP 0 rfl rfl 0 (by decide) (hts (.fieldLink RX7 59 "OptimaWorks$ValueDesk" "holders" "I") (by decide +kernel)) (fun _ h9 => h9) rfl dX7_keepListed_37 ?_
  refine lv_iconst (v := 1) hx hb dX7_keepListed_40 (by decide) ?_
  refine lv_isub hx hb dX7_keepListed_41 ?_
  refine lv_topi (fun y3 hy3 => ?_)
  obtain rfl : (-1) = y3 := (hy3.trans (by decide)).symm
  refine lv_istore_n (lv' := [(3, .int (-1)), (1, .long 0), (0, .ref d0)]) hx hb dX7_keepListed_42 rfl hl (by decide) rfl (fun ls hl => ?_)
  refine lv_iload_n hx hb dX7_keepListed_43 rfl (lv_at hl 0 rfl) ?_
  refine lv_if_lt (tgt := 65) hx hb dX7_keepListed_44 (by decide) (fun _ => ?_) (fun c9 => absurd (by decide) c9)
  refine lv_aload_n hx hb dX7_keepListed_65 rfl (lv_at hl 2 rfl) ?_
  refine va_get (D := (dC, dI)) (ci := 7) (v := .ref a28) (C := RX7) (T := TX7) (N := 20) hx hb hts iwsPX7_keepListed_in7 hown hK hP 0 rfl rfl 17 (by decide) (hts (.fieldLink RX7 56 "OptimaWorks$ValueDesk" "list" "[J") (by decide +kernel)) (fun _ h9 => h9) rfl dX7_keepListed_66 ?_
  refine lv_aload_n hx hb dX7_keepListed_69 rfl (lv_at hl 2 rfl) ?_
  refine va_get (D := (dC, dI)) (ci := 7) (v := .int 0) (C := RX7) (T := TX7) (N := 20) hx hb hts iwsPX7_keepListed_in7 hown hK hP 0 rfl rfl 18 (by decide) (hts (.fieldLink RX7 166 "OptimaWorks$ValueDesk" "listed" "I") (by decide +kernel)) (fun _ h9 => h9) rfl dX7_keepListed_70 ?_
  refine lv_lload_n hx hb dX7_keepListed_73 rfl (lv_at hl 1 rfl) ?_
  refine va_last hx hb hK hP hD hS 1 1 rfl rfl (show ¬ ((0 : Int32) < 0 ∨ 8 ≤ (0 : Int32).toNatClampNeg) by decide) dX7_keepListed_74 (fun H locs hP hD hS => ?_)
  have hP : va_P (dC, dI) vwCl [(d0, .inr (7, [.int 0, .int 0, .ref (bb 0), .ref (bb 1), .ref (bb 2), .ref (bb 3), .ref (bb 4), .ref (bb 5), .ref (bb 6), .ref (bb 7), .ref (bb 8), .int (-1), .int 0, .ref (bb 9), .ref (bb 10), .ref (bb 11), .ref (bb 12), .ref a28, .int 0, .int 1])), (a28, .inl (kn28, 8, .inr (.inl (vp_updL gg28 (0 : Int32).toNatClampNeg 0))))] H := hP
  have hD : va_D A [(d0, .inr (7, [.int 0, .int 0, .ref (bb 0), .ref (bb 1), .ref (bb 2), .ref (bb 3), .ref (bb 4), .ref (bb 5), .ref (bb 6), .ref (bb 7), .ref (bb 8), .int (-1), .int 0, .ref (bb 9), .ref (bb 10), .ref (bb 11), .ref (bb 12), .ref a28, .int 0, .int 1])), (a28, .inl (kn28, 8, .inr (.inl (vp_updL gg28 (0 : Int32).toNatClampNeg 0))))] := hD
  refine lv_aload_n hx hb dX7_keepListed_75 rfl (lv_at hl 2 rfl) ?_
  refine lv_dup hx hb dX7_keepListed_76 rfl ?_
  refine va_get (D := (dC, dI)) (ci := 7) (v := .int 0) (C := RX7) (T := TX7) (N := 20) hx hb hts iwsPX7_keepListed_in7 hown hK hP 0 rfl rfl 18 (by decide) (hts (.fieldLink RX7 166 "OptimaWorks$ValueDesk" "listed" "I") (by decide +kernel)) (fun _ h9 => h9) rfl dX7_keepListed_77 ?_
  refine lv_iconst (v := 1) hx hb dX7_keepListed_80 (by decide) ?_
  refine lv_iadd hx hb dX7_keepListed_81 ?_
  refine lv_topi (fun y4 hy4 => ?_)
  obtain rfl : 1 = y4 := (hy4.trans (by decide)).symm
  refine va_put (D := (dC, dI)) (ci := 7) (v := .int 1) (ty := .int) (C := RX7) (T := TX7) (N := 20) hx hb hts iwsPX7_keepListed_in7 tyX7 tyX7_ok nmX7 hown hK hP hD hS 0 rfl rfl 18 (by decide) (hts (.fieldLink RX7 166 "OptimaWorks$ValueDesk" "listed" "I") (by decide +kernel)) (fun _ h9 => h9) rfl (by decide +kernel) rfl rfl (Nat.le_of_ble_eq_true rfl) dX7_keepListed_82 (fun H locs hP hD hS => ?_)
  have hP : va_P (dC, dI) vwCl [(d0, .inr (7, [.int 0, .int 0, .ref (bb 0), .ref (bb 1), .ref (bb 2), .ref (bb 3), .ref (bb 4), .ref (bb 5), .ref (bb 6), .ref (bb 7), .ref (bb 8), .int (-1), .int 0, .ref (bb 9), .ref (bb 10), .ref (bb 11), .ref (bb 12), .ref a28, .int 1, .int 1])), (a28, .inl (kn28, 8, .inr (.inl (vp_updL gg28 (0 : Int32).toNatClampNeg 0))))] H := hP
  have hD : va_D A [(d0, .inr (7, [.int 0, .int 0, .ref (bb 0), .ref (bb 1), .ref (bb 2), .ref (bb 3), .ref (bb 4), .ref (bb 5), .ref (bb 6), .ref (bb 7), .ref (bb 8), .int (-1), .int 0, .ref (bb 9), .ref (bb 10), .ref (bb 11), .ref (bb 12), .ref a28, .int 1, .int 1])), (a28, .inl (kn28, 8, .inr (.inl (vp_updL gg28 (0 : Int32).toNatClampNeg 0))))] := hD
  refine W.widen (k := 1) (n := 8) (by decide +kernel) (by decide +kernel) ?_
  exact W.vret hx hb hr (fun t ht hW => ⟨⟨a28, rfl, trivial, by rw [ht]; exact hP.sub [0] rfl, va_K.moved hW.alike (hK.sub [] rfl), hD.sub [0] (by decide) rfl⟩, hS.F ht⟩) hS.2.2 dX7_keepListed_85
theorem dX7_makeListing_0 : decode cX7_makeListing 0 = .ok (.aload_n 0, 1) := by decide +kernel
theorem dX7_makeListing_1 : decode cX7_makeListing 1 = .ok (.aload_n 0, 1) := by decide +kernel
theorem dX7_makeListing_2 : decode cX7_makeListing 2 = .ok (.invokevirtual 175, 3) := by decide +kernel
theorem dX7_makeListing_5 : decode cX7_makeListing 5 = .ok (.ifCond .eq 7, 3) := by decide +kernel
theorem dX7_makeListing_8 : decode cX7_makeListing 8 = .ok (.iconst 0, 1) := by decide +kernel
theorem dX7_makeListing_9 : decode cX7_makeListing 9 = .ok (.goto 4, 3) := by decide +kernel
theorem dX7_makeListing_13 : decode cX7_makeListing 13 = .ok (.putfield 166, 3) := by decide +kernel
theorem dX7_makeListing_16 : decode cX7_makeListing 16 = .ok (.aload_n 0, 1) := by decide +kernel
theorem dX7_makeListing_17 : decode cX7_makeListing 17 = .ok (.getfield 166, 3) := by decide +kernel
theorem dX7_makeListing_20 : decode cX7_makeListing 20 = .ok (.iconst (-1), 1) := by decide +kernel
theorem dX7_makeListing_21 : decode cX7_makeListing 21 = .ok (.if_icmp .ne 4, 3) := by decide +kernel
theorem dX7_makeListing_25 : decode cX7_makeListing 25 = .ok (.aload_n 0, 1) := by decide +kernel
theorem dX7_makeListing_26 : decode cX7_makeListing 26 = .ok (.getfield 59, 3) := by decide +kernel
theorem dX7_makeListing_29 : decode cX7_makeListing 29 = .ok (.ifCond .ne 8, 3) := by decide +kernel
theorem dX7_makeListing_32 : decode cX7_makeListing 32 = .ok (.aload_n 0, 1) := by decide +kernel
theorem dX7_makeListing_33 : decode cX7_makeListing 33 = .ok (.invokevirtual 178, 3) := by decide +kernel
theorem dX7_makeListing_36 : decode cX7_makeListing 36 = .ok (.return_, 1) := by decide +kernel
def wsPX7_makeListing : List Cond := .code yX7_makeListing cX7_makeListing 3 none :: ([.fieldLink RX7 166 "OptimaWorks$ValueDesk" "listed" "I", .fieldLink RX7 59 "OptimaWorks$ValueDesk" "holders" "I"] ++ wsX70 ++ (wsV RX7 175 RX7 yX7_isListable wsPX7_isListable) ++ (wsV RX7 178 RX7 yX7_keepListed wsPX7_keepListed))
theorem iwsPX7_makeListing_in7 : ∀ w ∈ wsX70, w ∈ wsPX7_makeListing := fun _ h => List.mem_cons_of_mem _ (List.mem_append_left _ (List.mem_append_left _ (List.mem_append_right _ h)))
theorem gwsPX7_makeListing_0 : GoodIn wsPX7_makeListing (wsV RX7 175 RX7 yX7_isListable wsPX7_isListable) := goodIn_sub (fun _ h => List.mem_cons_of_mem _ (List.mem_append_left _ (List.mem_append_right _ h))) (by decide +kernel)
theorem gwsPX7_makeListing_1 : GoodIn wsPX7_makeListing (wsV RX7 178 RX7 yX7_keepListed wsPX7_keepListed) := goodIn_sub (fun _ h => List.mem_cons_of_mem _ (List.mem_append_right _ h)) (by decide +kernel)
set_option maxHeartbeats 4000000 in
set_option maxRecDepth 100000 in
/-- makeListing() without holders -/
theorem p_X7_makeListing (l : Launch) (dC : Nat → ClassId) (dI : Nat → Nat → Nat) (d0 : Nat) (bb : Nat → Nat) (kd : Nat → ClassId) (sz : Nat) : Met l yX7_makeListing wsPX7_makeListing ({ frames := 3, cells := 1, slots := 8, locals := 63 }) (va_Pc [.ref d0] (fun U => U.heap.size = sz ∧ va_P (dC, dI) vwCl [(d0, .inr (7, [.int 0, .int 0, .ref (bb 0), .ref (bb 1), .ref (bb 2), .ref (bb 3), .ref (bb 4), .ref (bb 5), .ref (bb 6), .ref (bb 7), .ref (bb 8), .int (-1), .int 0, .ref (bb 9), .ref (bb 10), .ref (bb 11), .ref (bb 12), .ref (bb 13), .int 0, .int 1])), ((bb 13), .inl ((kd 13), 0, .inr (.inl (fun _ => 0))))] U.heap ∧ va_K (dC, dI) vwCl [((kd 13), .long)] U ∧ va_D (fun _ => True) [(d0, .inr (7, [.int 0, .int 0, .ref (bb 0), .ref (bb 1), .ref (bb 2), .ref (bb 3), .ref (bb 4), .ref (bb 5), .ref (bb 6), .ref (bb 7), .ref (bb 8), .int (-1), .int 0, .ref (bb 9), .ref (bb 10), .ref (bb 11), .ref (bb 12), .ref (bb 13), .int 0, .int 1])), ((bb 13), .inl ((kd 13), 0, .inr (.inl (fun _ => 0))))])) (va_Qv (fun (u : Nat) => True) (fun (u : Nat) t => va_P (dC, dI) vwCl [(d0, .inr (7, [.int 0, .int 0, .ref (bb 0), .ref (bb 1), .ref (bb 2), .ref (bb 3), .ref (bb 4), .ref (bb 5), .ref (bb 6), .ref (bb 7), .ref (bb 8), .int (-1), .int 0, .ref (bb 9), .ref (bb 10), .ref (bb 11), .ref (bb 12), .ref u, .int 1, .int 1]))] t.heap ∧ va_K (dC, dI) vwCl [] t ∧ va_D (va_A [(d0, .inr (7, [.int 0, .int 0, .ref (bb 0), .ref (bb 1), .ref (bb 2), .ref (bb 3), .ref (bb 4), .ref (bb 5), .ref (bb 6), .ref (bb 7), .ref (bb 8), .int (-1), .int 0, .ref (bb 9), .ref (bb 10), .ref (bb 11), .ref (bb 12), .ref (bb 13), .int 0, .int 1])), ((bb 13), .inl ((kd 13), 0, .inr (.inl (fun _ => 0))))] sz) [(d0, .inr (7, [.int 0, .int 0, .ref (bb 0), .ref (bb 1), .ref (bb 2), .ref (bb 3), .ref (bb 4), .ref (bb 5), .ref (bb 6), .ref (bb 7), .ref (bb 8), .int (-1), .int 0, .ref (bb 9), .ref (bb 10), .ref (bb 11), .ref (bb 12), .ref u, .int 1, .int 1]))]) (va_A [(d0, .inr (7, [.int 0, .int 0, .ref (bb 0), .ref (bb 1), .ref (bb 2), .ref (bb 3), .ref (bb 4), .ref (bb 5), .ref (bb 6), .ref (bb 7), .ref (bb 8), .int (-1), .int 0, .ref (bb 9), .ref (bb 10), .ref (bb 11), .ref (bb 12), .ref (bb 13), .int 0, .int 1])), ((bb 13), .inl ((kd 13), 0, .inr (.inl (fun _ => 0))))] sz)) 1 8 (va_A [(d0, .inr (7, [.int 0, .int 0, .ref (bb 0), .ref (bb 1), .ref (bb 2), .ref (bb 3), .ref (bb 4), .ref (bb 5), .ref (bb 6), .ref (bb 7), .ref (bb 8), .int (-1), .int 0, .ref (bb 9), .ref (bb 10), .ref (bb 11), .ref (bb 12), .ref (bb 13), .int 0, .int 1])), ((bb 13), .inl ((kd 13), 0, .inr (.inl (fun _ => 0))))] sz) := by
  refine Met.ofW (cc := cX7_makeListing) (maxL := 3) (ret := none) (by decide) rfl ?_
  intro p e s m args below meth c s₁ B hml hv
  obtain ⟨rfl, hsz, hP, hK, hD0⟩ := hv
  have hx := B.exec
  have hb := B.bytes
  have hr := B.returns
  have hts := atoms_spec (ws := wsPX7_makeListing) B.pre
  have hown : s.vm.findClass RX7 = some m.cls := findClass_of_methodNamed B.named
  have hlocks := B.notSynchronized
  subst hsz
  have hD := hD0.self (sz := s.heap.size)
  generalize hAe : va_A [(d0, .inr (7, [.int 0, .int 0, .ref (bb 0), .ref (bb 1), .ref (bb 2), .ref (bb 3), .ref (bb 4), .ref (bb 5), .ref (bb 6), .ref (bb 7), .ref (bb 8), .int (-1), .int 0, .ref (bb 9), .ref (bb 10), .ref (bb 11), .ref (bb 12), .ref (bb 13), .int 0, .int 1])), ((bb 13), .inl ((kd 13), 0, .inr (.inl (fun _ => 0))))] s.heap.size = A at hD ⊢
  have hA : ∀ q : Nat, s.heap.size ≤ q → A q := fun q h => by rw [← hAe]; exact Or.inr h
  have hS : va_S A s.heap s.heap [] := va_S.rf
  have hP : va_P (dC, dI) vwCl [(d0, .inr (7, [.int 0, .int 0, .ref (bb 0), .ref (bb 1), .ref (bb 2), .ref (bb 3), .ref (bb 4), .ref (bb 5), .ref (bb 6), .ref (bb 7), .ref (bb 8), .int (-1), .int 0, .ref (bb 9), .ref (bb 10), .ref (bb 11), .ref (bb 12), .ref (bb 13), .int 0, .int 1])), ((bb 13), .inl ((kd 13), 0, .inr (.inl (fun _ => 0))))] s.heap := hP
  have hl := lv_entry ([.ref d0]) (n := 3) (Nat.le_of_ble_eq_true rfl)
  rw [lg_entry_eq]
  generalize (lg_sl ([.ref d0]) ++ List.replicate (3 - (lg_sl ([.ref d0])).length) Slot.unset).toArray = ls at hl ⊢
  have hl : lv_has ls 3 [(0, .ref d0)] := hl
  refine lv_aload_n hx hb dX7_makeListing_0 rfl (lv_at hl 0 rfl) ?_
  refine lv_aload_n hx hb dX7_makeListing_1 rfl (lv_at hl 0 rfl) ?_
  have hPc := hP.sub (ws' := [(d0, .inr (7, [.int 0, .int 0, .ref (bb 0), .ref (bb 1), .ref (bb 2), .ref (bb 3), .ref (bb 4), .ref (bb 5), .ref (bb 6), .ref (bb 7), .ref (bb 8), .int (-1), .int 0, .ref (bb 9), .ref (bb 10), .ref (bb 11), .ref (bb 12), .ref (bb 13), .int 0, .int 1]))]) [0] rfl
  have hDc := hD.sub (ws' := [(d0, .inr (7, [.int 0, .int 0, .ref (bb 0), .ref (bb 1), .ref (bb 2), .ref (bb 3), .ref (bb 4), .ref (bb 5), .ref (bb 6), .ref (bb 7), .ref (bb 8), .int (-1), .int 0, .ref (bb 9), .ref (bb 10), .ref (bb 11), .ref (bb 12), .ref (bb 13), .int 0, .int 1]))]) [0] (by decide) rfl
  have hKc := hK.sub (tys' := []) [] rfl
  have hFc := va_free (wc := [(d0, .inr (7, [.int 0, .int 0, .ref (bb 0), .ref (bb 1), .ref (bb 2), .ref (bb 3), .ref (bb 4), .ref (bb 5), .ref (bb 6), .ref (bb 7), .ref (bb 8), .int (-1), .int 0, .ref (bb 9), .ref (bb 10), .ref (bb 11), .ref (bb 12), .ref (bb 13), .int 0, .int 1]))]) hD hS hA [0] rfl
  refine va_calli (va_runV (As := []) (rest := [.ref d0]) ⟨hx, hb, hml, hown, hts⟩ (p_X7_isListable l dC dI d0 bb s.heap.size) (cwV 0 hts gwsPX7_makeListing_0 rfl rfl rfl (by decide +kernel) ⟨by decide +kernel, by decide +kernel⟩) ⟨fun a U g mk q => by obtain ⟨q0, q1, qP, qK, qD⟩ := q; exact ⟨q0, q1, qP, va_K.moved (u := U) (U := U.calling g mk a) (Vm.Alike.refl U.vm) qK, qD⟩, va_recv hKc hPc (ci := 7) (q0 := 0) rfl rfl, fun U hU9 hW => ⟨rfl, by rw [hU9], by rw [hU9]; exact hPc, va_K.moved hW.alike hKc, hDc.weaken (fun _ _ _ _ => trivial)⟩⟩ rfl rfl hl.1 rfl (lv_room (Nat.le_of_ble_eq_true rfl)) dX7_makeListing_2 ⟨by decide +kernel, by decide +kernel⟩) hS (fun q _ h => hFc q h) hFc (fun r2 u t H1 locs ht hvm hw hB hz1 hk1 hS => ?_)
  obtain ⟨hP1, hK1, hD1⟩ := hB
  rw [ht] at hP1
  have hK1 := va_K.moved hvm.symm hK1
  obtain ⟨hP, hD⟩ := va_join (wr := [((bb 13), .inl ((kd 13), 0, .inr (.inl (fun _ => 0))))]) (w1 := [(d0, .inr (7, [.int 0, .int 0, .ref (bb 0), .ref (bb 1), .ref (bb 2), .ref (bb 3), .ref (bb 4), .ref (bb 5), .ref (bb 6), .ref (bb 7), .ref (bb 8), .int (-1), .int 0, .ref (bb 9), .ref (bb 10), .ref (bb 11), .ref (bb 12), .ref (bb 13), .int 0, .int 1]))]) hP hD [0] [1] rfl rfl (by decide) (by decide) hk1 hFc hP1 hD1
  generalize H1 = H at hP hS ⊢
  have hP : va_P (dC, dI) vwCl [((bb 13), .inl ((kd 13), 0, .inr (.inl (fun _ => 0)))), (d0, .inr (7, [.int 0, .int 0, .ref (bb 0), .ref (bb 1), .ref (bb 2), .ref (bb 3), .ref (bb 4), .ref (bb 5), .ref (bb 6), .ref (bb 7), .ref (bb 8), .int (-1), .int 0, .ref (bb 9), .ref (bb 10), .ref (bb 11), .ref (bb 12), .ref (bb 13), .int 0, .int 1]))] H := hP
  have hD : va_D A [((bb 13), .inl ((kd 13), 0, .inr (.inl (fun _ => 0)))), (d0, .inr (7, [.int 0, .int 0, .ref (bb 0), .ref (bb 1), .ref (bb 2), .ref (bb 3), .ref (bb 4), .ref (bb 5), .ref (bb 6), .ref (bb 7), .ref (bb 8), .int (-1), .int 0, .ref (bb 9), .ref (bb 10), .ref (bb 11), .ref (bb 12), .ref (bb 13), .int 0, .int 1]))] := hD
  obtain rfl := hw
  refine lv_if_eq (tgt := 12) hx hb dX7_makeListing_5 (by decide) (fun c9 => absurd c9 (by decide)) (fun _ => ?_)
  refine lv_iconst (v := 0) hx hb dX7_makeListing_8 (by decide) ?_
  refine lv_goto (tgt := 13) hx hb dX7_makeListing_9 (by decide) ?_
  refine va_put (D := (dC, dI)) (ci := 7) (v := .int 0) (ty := .int) (C := RX7) (T := TX7) (N := 20) hx hb hts iwsPX7_makeListing_in7 tyX7 tyX7_ok nmX7 hown hK hP hD hS 1 rfl rfl 18 (by decide) (hts (.fieldLink RX7 166 "OptimaWorks$ValueDesk" "listed" "I") (by decide +kernel)) (fun _ h9 => h9) rfl (by decide +kernel) rfl rfl (Nat.le_of_ble_eq_true rfl) dX7_makeListing_13 (fun H locs hP hD hS => ?_)
  have hP : va_P (dC, dI) vwCl [((bb 13), .inl ((kd 13), 0, .inr (.inl (fun _ => 0)))), (d0, .inr (7, [.int 0, .int 0, .ref (bb 0), .ref (bb 1), .ref (bb 2), .ref (bb 3), .ref (bb 4), .ref (bb 5), .ref (bb 6), .ref (bb 7), .ref (bb 8), .int (-1), .int 0, .ref (bb 9), .ref (bb 10), .ref (bb 11), .ref (bb 12), .ref (bb 13), .int 0, .int 1]))] H := hP
  have hD : va_D A [((bb 13), .inl ((kd 13), 0, .inr (.inl (fun _ => 0)))), (d0, .inr (7, [.int 0, .int 0, .ref (bb 0), .ref (bb 1), .ref (bb 2), .ref (bb 3), .ref (bb 4), .ref (bb 5), .ref (bb 6), .ref (bb 7), .ref (bb 8), .int (-1), .int 0, .ref (bb 9), .ref (bb 10), .ref (bb 11), .ref (bb 12), .ref (bb 13), .int 0, .int 1]))] := hD
  refine lv_aload_n hx hb dX7_makeListing_16 rfl (lv_at hl 0 rfl) ?_
  refine va_get (D := (dC, dI)) (ci := 7) (v := .int 0) (C := RX7) (T := TX7) (N := 20) hx hb hts iwsPX7_makeListing_in7 hown hK hP 1 rfl rfl 18 (by decide) (hts (.fieldLink RX7 166 "OptimaWorks$ValueDesk" "listed" "I") (by decide +kernel)) (fun _ h9 => h9) rfl dX7_makeListing_17 ?_
  refine lv_iconst (v := (-1)) hx hb dX7_makeListing_20 (by decide) ?_
  refine lv_icmp_ne (tgt := 25) hx hb dX7_makeListing_21 (by decide) (fun _ => ?_) (fun c9 => absurd c9 (by decide))
  refine lv_aload_n hx hb dX7_makeListing_25 rfl (lv_at hl 0 rfl) ?_
  refine va_get (D := (dC, dI)) (ci := 7) (v := .int 0) (C := RX7) (T := TX7) (N := 20) hx hb hts iwsPX7_makeListing_in7 hown hK hP 1 rfl rfl 0 (by decide) (hts (.fieldLink RX7 59 "OptimaWorks$ValueDesk" "holders" "I") (by decide +kernel)) (fun _ h9 => h9) rfl dX7_makeListing_26 ?_
  refine lv_if_ne (tgt := 37) hx hb dX7_makeListing_29 (by decide) (fun c9 => absurd c9 (by decide)) (fun _ => ?_)
  refine lv_aload_n hx hb dX7_makeListing_32 rfl (lv_at hl 0 rfl) ?_
  have hPc := hP.sub (ws' := [(d0, .inr (7, [.int 0, .int 0, .ref (bb 0), .ref (bb 1), .ref (bb 2), .ref (bb 3), .ref (bb 4), .ref (bb 5), .ref (bb 6), .ref (bb 7), .ref (bb 8), .int (-1), .int 0, .ref (bb 9), .ref (bb 10), .ref (bb 11), .ref (bb 12), .ref (bb 13), .int 0, .int 1])), ((bb 13), .inl ((kd 13), 0, .inr (.inl (fun _ => 0))))]) [1, 0] rfl
  have hDc := hD.sub (ws' := [(d0, .inr (7, [.int 0, .int 0, .ref (bb 0), .ref (bb 1), .ref (bb 2), .ref (bb 3), .ref (bb 4), .ref (bb 5), .ref (bb 6), .ref (bb 7), .ref (bb 8), .int (-1), .int 0, .ref (bb 9), .ref (bb 10), .ref (bb 11), .ref (bb 12), .ref (bb 13), .int 0, .int 1])), ((bb 13), .inl ((kd 13), 0, .inr (.inl (fun _ => 0))))]) [1, 0] (by decide) rfl
  have hKc := hK.sub (tys' := [((kd 13), .long)]) [0] rfl
  have hFc := va_free (wc := [(d0, .inr (7, [.int 0, .int 0, .ref (bb 0), .ref (bb 1), .ref (bb 2), .ref (bb 3), .ref (bb 4), .ref (bb 5), .ref (bb 6), .ref (bb 7), .ref (bb 8), .int (-1), .int 0, .ref (bb 9), .ref (bb 10), .ref (bb 11), .ref (bb 12), .ref (bb 13), .int 0, .int 1])), ((bb 13), .inl ((kd 13), 0, .inr (.inl (fun _ => 0))))]) hD hS hA [1, 0] rfl
  refine va_callv (va_runV (As := []) (rest := []) ⟨hx, hb, hml, hown, hts⟩ (p_X7_keepListed l dC dI d0 bb kd H.size) (cwV 0 hts gwsPX7_makeListing_1 rfl rfl rfl (by decide +kernel) ⟨by decide +kernel, by decide +kernel⟩) ⟨fun a U g mk q => by obtain ⟨q0, q1, qP, qK, qD⟩ := q; exact ⟨q0, q1, qP, va_K.moved (u := U) (U := U.calling g mk a) (Vm.Alike.refl U.vm) qK, qD⟩, va_recv hKc hPc (ci := 7) (q0 := 0) rfl rfl, fun U hU9 hW => ⟨rfl, by rw [hU9], by rw [hU9]; exact hPc, va_K.moved hW.alike hKc, hDc.weaken (fun _ _ _ _ => trivial)⟩⟩ rfl rfl hl.1 rfl (lv_room (Nat.le_of_ble_eq_true rfl)) dX7_makeListing_33 ⟨by decide +kernel, by decide +kernel⟩) hS (fun q _ h => hFc q h) hFc (fun u t H1 locs ht hvm hw hB hz1 hk1 hS => ?_)
  obtain ⟨ln33, hwit33⟩ : ∃ w9, w9 = u := ⟨u, rfl⟩
  subst hwit33
  obtain ⟨hP1, hK1, hD1⟩ := hB
  rw [ht] at hP1
  have hK1 := va_K.moved hvm.symm hK1
  obtain ⟨hP, hD⟩ := va_join (wr := []) (w1 := [(d0, .inr (7, [.int 0, .int 0, .ref (bb 0), .ref (bb 1), .ref (bb 2), .ref (bb 3), .ref (bb 4), .ref (bb 5), .ref (bb 6), .ref (bb 7), .ref (bb 8), .int (-1), .int 0, .ref (bb 9), .ref (bb 10), .ref (bb 11), .ref (bb 12), .ref ln33, .int 1, .int 1]))]) hP hD [1, 0] [] rfl rfl (by decide) (by decide) hk1 hFc hP1 hD1
  generalize H1 = H at hP hS ⊢
  have hP : va_P (dC, dI) vwCl [(d0, .inr (7, [.int 0, .int 0, .ref (bb 0), .ref (bb 1), .ref (bb 2), .ref (bb 3), .ref (bb 4), .ref (bb 5), .ref (bb 6), .ref (bb 7), .ref (bb 8), .int (-1), .int 0, .ref (bb 9), .ref (bb 10), .ref (bb 11), .ref (bb 12), .ref ln33, .int 1, .int 1]))] H := hP
  have hD : va_D A [(d0, .inr (7, [.int 0, .int 0, .ref (bb 0), .ref (bb 1), .ref (bb 2), .ref (bb 3), .ref (bb 4), .ref (bb 5), .ref (bb 6), .ref (bb 7), .ref (bb 8), .int (-1), .int 0, .ref (bb 9), .ref (bb 10), .ref (bb 11), .ref (bb 12), .ref ln33, .int 1, .int 1]))] := hD
  refine W.widen (k := 1) (n := 8) (by decide +kernel) (by decide +kernel) ?_
  refine W.widen (k := 1) (n := 8) (by decide +kernel) (by decide +kernel) ?_
  exact W.vret hx hb hr (fun t ht hW => ⟨⟨ln33, rfl, trivial, by rw [ht]; exact hP.sub [0] rfl, va_K.moved hW.alike (hK.sub [] rfl), hD.sub [0] (by decide) rfl⟩, hS.F ht⟩) hS.2.2 dX7_makeListing_36
theorem dX7_listingSize_0 : decode cX7_listingSize 0 = .ok (.aload_n 0, 1) := by decide +kernel
theorem dX7_listingSize_1 : decode cX7_listingSize 1 = .ok (.getfield 68, 3) := by decide +kernel
theorem dX7_listingSize_4 : decode cX7_listingSize 4 = .ok (.ifCond .ne 12, 3) := by decide +kernel
theorem dX7_listingSize_7 : decode cX7_listingSize 7 = .ok (.aload_n 0, 1) := by decide +kernel
theorem dX7_listingSize_8 : decode cX7_listingSize 8 = .ok (.iconst 1, 1) := by decide +kernel
theorem dX7_listingSize_9 : decode cX7_listingSize 9 = .ok (.putfield 68, 3) := by decide +kernel
theorem dX7_listingSize_12 : decode cX7_listingSize 12 = .ok (.aload_n 0, 1) := by decide +kernel
theorem dX7_listingSize_13 : decode cX7_listingSize 13 = .ok (.invokevirtual 163, 3) := by decide +kernel
theorem dX7_listingSize_16 : decode cX7_listingSize 16 = .ok (.aload_n 0, 1) := by decide +kernel
theorem dX7_listingSize_17 : decode cX7_listingSize 17 = .ok (.getfield 166, 3) := by decide +kernel
theorem dX7_listingSize_20 : decode cX7_listingSize 20 = .ok (.ireturn, 1) := by decide +kernel
def wsPX7_listingSize : List Cond := .code yX7_listingSize cX7_listingSize 1 (some .int) :: ([.fieldLink RX7 68 "OptimaWorks$ValueDesk" "listDone" "Z", .fieldLink RX7 166 "OptimaWorks$ValueDesk" "listed" "I"] ++ wsX70 ++ (wsV RX7 163 RX7 yX7_makeListing wsPX7_makeListing))
theorem iwsPX7_listingSize_in7 : ∀ w ∈ wsX70, w ∈ wsPX7_listingSize := fun _ h => List.mem_cons_of_mem _ (List.mem_append_left _ (List.mem_append_right _ h))
theorem gwsPX7_listingSize_0 : GoodIn wsPX7_listingSize (wsV RX7 163 RX7 yX7_makeListing wsPX7_makeListing) := goodIn_sub (fun _ h => List.mem_cons_of_mem _ (List.mem_append_right _ h)) (by decide +kernel)
set_option maxHeartbeats 4000000 in
set_option maxRecDepth 100000 in
/-- listingSize() of a fresh desk -/
theorem p_X7_listingSize (l : Launch) (dC : Nat → ClassId) (dI : Nat → Nat → Nat) (d0 : Nat) (bb : Nat → Nat) (kd : Nat → ClassId) (sz : Nat) : Met l yX7_listingSize wsPX7_listingSize ({ frames := 4, cells := 1, slots := 8, locals := 85 }) (va_Pc [.ref d0] (fun U => U.heap.size = sz ∧ va_P (dC, dI) vwCl [(d0, .inr (7, [.int 0, .int 0, .ref (bb 0), .ref (bb 1), .ref (bb 2), .ref (bb 3), .ref (bb 4), .ref (bb 5), .ref (bb 6), .ref (bb 7), .ref (bb 8), .int (-1), .int 0, .ref (bb 9), .ref (bb 10), .ref (bb 11), .ref (bb 12), .ref (bb 13), .int 0, .int 0])), ((bb 13), .inl ((kd 13), 0, .inr (.inl (fun _ => 0))))] U.heap ∧ va_K (dC, dI) vwCl [((kd 13), .long)] U ∧ va_D (fun _ => True) [(d0, .inr (7, [.int 0, .int 0, .ref (bb 0), .ref (bb 1), .ref (bb 2), .ref (bb 3), .ref (bb 4), .ref (bb 5), .ref (bb 6), .ref (bb 7), .ref (bb 8), .int (-1), .int 0, .ref (bb 9), .ref (bb 10), .ref (bb 11), .ref (bb 12), .ref (bb 13), .int 0, .int 0])), ((bb 13), .inl ((kd 13), 0, .inr (.inl (fun _ => 0))))])) (va_Qi (fun (r : Int32) (u : Unit) => r = 1) (fun (u : Unit) t => va_P (dC, dI) vwCl [] t.heap ∧ va_K (dC, dI) vwCl [] t ∧ va_D (va_A [(d0, .inr (7, [.int 0, .int 0, .ref (bb 0), .ref (bb 1), .ref (bb 2), .ref (bb 3), .ref (bb 4), .ref (bb 5), .ref (bb 6), .ref (bb 7), .ref (bb 8), .int (-1), .int 0, .ref (bb 9), .ref (bb 10), .ref (bb 11), .ref (bb 12), .ref (bb 13), .int 0, .int 0])), ((bb 13), .inl ((kd 13), 0, .inr (.inl (fun _ => 0))))] sz) []) (va_A [(d0, .inr (7, [.int 0, .int 0, .ref (bb 0), .ref (bb 1), .ref (bb 2), .ref (bb 3), .ref (bb 4), .ref (bb 5), .ref (bb 6), .ref (bb 7), .ref (bb 8), .int (-1), .int 0, .ref (bb 9), .ref (bb 10), .ref (bb 11), .ref (bb 12), .ref (bb 13), .int 0, .int 0])), ((bb 13), .inl ((kd 13), 0, .inr (.inl (fun _ => 0))))] sz)) 1 8 (va_A [(d0, .inr (7, [.int 0, .int 0, .ref (bb 0), .ref (bb 1), .ref (bb 2), .ref (bb 3), .ref (bb 4), .ref (bb 5), .ref (bb 6), .ref (bb 7), .ref (bb 8), .int (-1), .int 0, .ref (bb 9), .ref (bb 10), .ref (bb 11), .ref (bb 12), .ref (bb 13), .int 0, .int 0])), ((bb 13), .inl ((kd 13), 0, .inr (.inl (fun _ => 0))))] sz) := by
  refine Met.ofW (cc := cX7_listingSize) (maxL := 1) (ret := (some .int)) (by decide) rfl ?_
  intro p e s m args below meth c s₁ B hml hv
  obtain ⟨rfl, hsz, hP, hK, hD0⟩ := hv
  have hx := B.exec
  have hb := B.bytes
  have hr := B.returns
  have hts := atoms_spec (ws := wsPX7_listingSize) B.pre
  have hown : s.vm.findClass RX7 = some m.cls := findClass_of_methodNamed B.named
  have hlocks := B.notSynchronized
  subst hsz
  have hD := hD0.self (sz := s.heap.size)
  generalize hAe : va_A [(d0, .inr (7, [.int 0, .int 0, .ref (bb 0), .ref (bb 1), .ref (bb 2), .ref (bb 3), .ref (bb 4), .ref (bb 5), .ref (bb 6), .ref (bb 7), .ref (bb 8), .int (-1), .int 0, .ref (bb 9), .ref (bb 10), .ref (bb 11), .ref (bb 12), .ref (bb 13), .int 0, .int 0])), ((bb 13), .inl ((kd 13), 0, .inr (.inl (fun _ => 0))))] s.heap.size = A at hD ⊢
  have hA : ∀ q : Nat, s.heap.size ≤ q → A q := fun q h => by rw [← hAe]; exact Or.inr h
  have hS : va_S A s.heap s.heap [] := va_S.rf
  have hP : va_P (dC, dI) vwCl [(d0, .inr (7, [.int 0, .int 0, .ref (bb 0), .ref (bb 1), .ref (bb 2), .ref (bb 3), .ref (bb 4), .ref (bb 5), .ref (bb 6), .ref (bb 7), .ref (bb 8), .int (-1), .int 0, .ref (bb 9), .ref (bb 10), .ref (bb 11), .ref (bb 12), .ref (bb 13), .int 0, .int 0])), ((bb 13), .inl ((kd 13), 0, .inr (.inl (fun _ => 0))))] s.heap := hP
  have hl := lv_entry ([.ref d0]) (n := 1) (Nat.le_of_ble_eq_true rfl)
  rw [lg_entry_eq]
  generalize (lg_sl ([.ref d0]) ++ List.replicate (1 - (lg_sl ([.ref d0])).length) Slot.unset).toArray = ls at hl ⊢
  have hl : lv_has ls 1 [(0, .ref d0)] := hl
  refine lv_aload_n hx hb dX7_listingSize_0 rfl (lv_at hl 0 rfl) ?_
  refine va_get (D := (dC, dI)) (ci := 7) (v := .int 0) (C := RX7) (T := TX7) (N := 20) hx hb hts iwsPX7_listingSize_in7 hown hK hP 0 rfl rfl 19 (by decide) (hts (.fieldLink RX7 68 "OptimaWorks$ValueDesk" "listDone" "Z") (by decide +kernel)) (fun _ h9 => h9) rfl dX7_listingSize_1 ?_
  refine lv_if_ne (tgt := 16) hx hb dX7_listingSize_4 (by decide) (fun c9 => absurd c9 (by decide)) (fun _ => ?_)
  refine lv_aload_n hx hb dX7_listingSize_7 rfl (lv_at hl 0 rfl) ?_
  refine lv_iconst (v := 1) hx hb dX7_listingSize_8 (by decide) ?_
  refine va_put (D := (dC, dI)) (ci := 7) (v := .int 1) (ty := .boolean) (C := RX7) (T := TX7) (N := 20) hx hb hts iwsPX7_listingSize_in7 tyX7 tyX7_ok nmX7 hown hK hP hD hS 0 rfl rfl 19 (by decide) (hts (.fieldLink RX7 68 "OptimaWorks$ValueDesk" "listDone" "Z") (by decide +kernel)) (fun _ h9 => h9) rfl (by decide +kernel) rfl rfl (Nat.le_of_ble_eq_true rfl) dX7_listingSize_9 (fun H locs hP hD hS => ?_)
  have hP : va_P (dC, dI) vwCl [(d0, .inr (7, [.int 0, .int 0, .ref (bb 0), .ref (bb 1), .ref (bb 2), .ref (bb 3), .ref (bb 4), .ref (bb 5), .ref (bb 6), .ref (bb 7), .ref (bb 8), .int (-1), .int 0, .ref (bb 9), .ref (bb 10), .ref (bb 11), .ref (bb 12), .ref (bb 13), .int 0, .int 1])), ((bb 13), .inl ((kd 13), 0, .inr (.inl (fun _ => 0))))] H := hP
  have hD : va_D A [(d0, .inr (7, [.int 0, .int 0, .ref (bb 0), .ref (bb 1), .ref (bb 2), .ref (bb 3), .ref (bb 4), .ref (bb 5), .ref (bb 6), .ref (bb 7), .ref (bb 8), .int (-1), .int 0, .ref (bb 9), .ref (bb 10), .ref (bb 11), .ref (bb 12), .ref (bb 13), .int 0, .int 1])), ((bb 13), .inl ((kd 13), 0, .inr (.inl (fun _ => 0))))] := hD
  refine lv_aload_n hx hb dX7_listingSize_12 rfl (lv_at hl 0 rfl) ?_
  have hPc := hP.sub (ws' := [(d0, .inr (7, [.int 0, .int 0, .ref (bb 0), .ref (bb 1), .ref (bb 2), .ref (bb 3), .ref (bb 4), .ref (bb 5), .ref (bb 6), .ref (bb 7), .ref (bb 8), .int (-1), .int 0, .ref (bb 9), .ref (bb 10), .ref (bb 11), .ref (bb 12), .ref (bb 13), .int 0, .int 1])), ((bb 13), .inl ((kd 13), 0, .inr (.inl (fun _ => 0))))]) [0, 1] rfl
  have hDc := hD.sub (ws' := [(d0, .inr (7, [.int 0, .int 0, .ref (bb 0), .ref (bb 1), .ref (bb 2), .ref (bb 3), .ref (bb 4), .ref (bb 5), .ref (bb 6), .ref (bb 7), .ref (bb 8), .int (-1), .int 0, .ref (bb 9), .ref (bb 10), .ref (bb 11), .ref (bb 12), .ref (bb 13), .int 0, .int 1])), ((bb 13), .inl ((kd 13), 0, .inr (.inl (fun _ => 0))))]) [0, 1] (by decide) rfl
  have hKc := hK.sub (tys' := [((kd 13), .long)]) [0] rfl
  have hFc := va_free (wc := [(d0, .inr (7, [.int 0, .int 0, .ref (bb 0), .ref (bb 1), .ref (bb 2), .ref (bb 3), .ref (bb 4), .ref (bb 5), .ref (bb 6), .ref (bb 7), .ref (bb 8), .int (-1), .int 0, .ref (bb 9), .ref (bb 10), .ref (bb 11), .ref (bb 12), .ref (bb 13), .int 0, .int 1])), ((bb 13), .inl ((kd 13), 0, .inr (.inl (fun _ => 0))))]) hD hS hA [0, 1] rfl
  refine va_callv (va_runV (As := []) (rest := []) ⟨hx, hb, hml, hown, hts⟩ (p_X7_makeListing l dC dI d0 bb kd H.size) (cwV 0 hts gwsPX7_listingSize_0 rfl rfl rfl (by decide +kernel) ⟨by decide +kernel, by decide +kernel⟩) ⟨fun a U g mk q => by obtain ⟨q0, q1, qP, qK, qD⟩ := q; exact ⟨q0, q1, qP, va_K.moved (u := U) (U := U.calling g mk a) (Vm.Alike.refl U.vm) qK, qD⟩, va_recv hKc hPc (ci := 7) (q0 := 0) rfl rfl, fun U hU9 hW => ⟨rfl, by rw [hU9], by rw [hU9]; exact hPc, va_K.moved hW.alike hKc, hDc.weaken (fun _ _ _ _ => trivial)⟩⟩ rfl rfl hl.1 rfl (lv_room (Nat.le_of_ble_eq_true rfl)) dX7_listingSize_13 ⟨by decide +kernel, by decide +kernel⟩) hS (fun q _ h => hFc q h) hFc (fun u t H1 locs ht hvm hw hB hz1 hk1 hS => ?_)
  obtain ⟨ln13, hwit13⟩ : ∃ w9, w9 = u := ⟨u, rfl⟩
  subst hwit13
  obtain ⟨hP1, hK1, hD1⟩ := hB
  rw [ht] at hP1
  have hK1 := va_K.moved hvm.symm hK1
  obtain ⟨hP, hD⟩ := va_join (wr := []) (w1 := [(d0, .inr (7, [.int 0, .int 0, .ref (bb 0), .ref (bb 1), .ref (bb 2), .ref (bb 3), .ref (bb 4), .ref (bb 5), .ref (bb 6), .ref (bb 7), .ref (bb 8), .int (-1), .int 0, .ref (bb 9), .ref (bb 10), .ref (bb 11), .ref (bb 12), .ref ln13, .int 1, .int 1]))]) hP hD [0, 1] [] rfl rfl (by decide) (by decide) hk1 hFc hP1 hD1
  generalize H1 = H at hP hS ⊢
  have hP : va_P (dC, dI) vwCl [(d0, .inr (7, [.int 0, .int 0, .ref (bb 0), .ref (bb 1), .ref (bb 2), .ref (bb 3), .ref (bb 4), .ref (bb 5), .ref (bb 6), .ref (bb 7), .ref (bb 8), .int (-1), .int 0, .ref (bb 9), .ref (bb 10), .ref (bb 11), .ref (bb 12), .ref ln13, .int 1, .int 1]))] H := hP
  have hD : va_D A [(d0, .inr (7, [.int 0, .int 0, .ref (bb 0), .ref (bb 1), .ref (bb 2), .ref (bb 3), .ref (bb 4), .ref (bb 5), .ref (bb 6), .ref (bb 7), .ref (bb 8), .int (-1), .int 0, .ref (bb 9), .ref (bb 10), .ref (bb 11), .ref (bb 12), .ref ln13, .int 1, .int 1]))] := hD
  refine W.widen (k := 1) (n := 8) (by decide +kernel) (by decide +kernel) ?_
  refine lv_aload_n hx hb dX7_listingSize_16 rfl (lv_at hl 0 rfl) ?_
  refine va_get (D := (dC, dI)) (ci := 7) (v := .int 1) (C := RX7) (T := TX7) (N := 20) hx hb hts iwsPX7_listingSize_in7 hown hK hP 0 rfl rfl 18 (by decide) (hts (.fieldLink RX7 166 "OptimaWorks$ValueDesk" "listed" "I") (by decide +kernel)) (fun _ h9 => h9) rfl dX7_listingSize_17 ?_
  refine W.widen (k := 1) (n := 8) (by decide +kernel) (by decide +kernel) ?_
  exact W.iret (v := 1) hx hb hr (fun t ht hW => ⟨⟨1, (), rfl, by (first | rfl | assumption | trivial | omega | (simp []; done) | (simp; omega)), by rw [ht]; exact hP.sub [] rfl, va_K.moved hW.alike (hK.sub [] rfl), hD.sub [] (by decide) rfl⟩, hS.F ht⟩) hS.2.2 dX7_listingSize_20
theorem dX11_listing_0 : decode cX11_listing 0 = .ok (.aload_n 0, 1) := by decide +kernel
theorem dX11_listing_1 : decode cX11_listing 1 = .ok (.invokevirtual 345, 3) := by decide +kernel
theorem dX11_listing_4 : decode cX11_listing 4 = .ok (.invokevirtual 376, 3) := by decide +kernel
theorem dX11_listing_7 : decode cX11_listing 7 = .ok (.ireturn, 1) := by decide +kernel
def wsPX11_listing : List Cond := .code yX11_listing cX11_listing 1 (some .int) :: ([] ++ (wsV RX11 345 RX11 yX11_theValues wsPX11_theValues) ++ (wsV RX11 376 RX7 yX7_listingSize wsPX7_listingSize))
theorem gwsPX11_listing_0 : GoodIn wsPX11_listing (wsV RX11 345 RX11 yX11_theValues wsPX11_theValues) := goodIn_sub (fun _ h => List.mem_cons_of_mem _ (List.mem_append_left _ (List.mem_append_right _ h))) (by decide +kernel)
theorem gwsPX11_listing_1 : GoodIn wsPX11_listing (wsV RX11 376 RX7 yX7_listingSize wsPX7_listingSize) := goodIn_sub (fun _ h => List.mem_cons_of_mem _ (List.mem_append_right _ h)) (by decide +kernel)
set_option maxHeartbeats 4000000 in
set_option maxRecDepth 100000 in
/-- listing() -/
theorem p_X11_listing (l : Launch) (dC : Nat → ClassId) (dI : Nat → Nat → Nat) (h0 : Nat) (a : Nat → Nat) (sz : Nat) : Met l yX11_listing wsPX11_listing ({ frames := 5, cells := 16, slots := 1416, locals := 105 }) (va_Pc [.ref h0] (fun U => U.heap.size = sz ∧ va_P (dC, dI) vwCl [(h0, .inr (11, [.ref (a 0), .ref (a 1), .ref (a 3), .ref (a 14), .int 0, .null, .null, .null, .null, .null, .null]))] U.heap ∧ va_K (dC, dI) vwCl [] U ∧ va_D (fun _ => True) [(h0, .inr (11, [.ref (a 0), .ref (a 1), .ref (a 3), .ref (a 14), .int 0, .null, .null, .null, .null, .null, .null]))] ∧ va_Nw (.methodLinkNest RX11 343 yX7_init RX11) U)) (va_Qi (fun (r : Int32) (u : Unit) => r = 1) (fun (u : Unit) t => va_P (dC, dI) vwCl [] t.heap ∧ va_K (dC, dI) vwCl [] t ∧ va_D (va_A [(h0, .inr (11, [.ref (a 0), .ref (a 1), .ref (a 3), .ref (a 14), .int 0, .null, .null, .null, .null, .null, .null]))] sz) []) (va_A [(h0, .inr (11, [.ref (a 0), .ref (a 1), .ref (a 3), .ref (a 14), .int 0, .null, .null, .null, .null, .null, .null]))] sz)) 16 1416 (va_A [(h0, .inr (11, [.ref (a 0), .ref (a 1), .ref (a 3), .ref (a 14), .int 0, .null, .null, .null, .null, .null, .null]))] sz) := by
  refine Met.ofW (cc := cX11_listing) (maxL := 1) (ret := (some .int)) (by decide) rfl ?_
  intro p e s m args below meth c s₁ B hml hv
  obtain ⟨rfl, hsz, hP, hK, hD0, hnX11_343⟩ := hv
  have hx := B.exec
  have hb := B.bytes
  have hr := B.returns
  have hts := atoms_spec (ws := wsPX11_listing) B.pre
  have hown : s.vm.findClass RX11 = some m.cls := findClass_of_methodNamed B.named
  have hlocks := B.notSynchronized
  subst hsz
  have hD := hD0.self (sz := s.heap.size)
  generalize hAe : va_A [(h0, .inr (11, [.ref (a 0), .ref (a 1), .ref (a 3), .ref (a 14), .int 0, .null, .null, .null, .null, .null, .null]))] s.heap.size = A at hD ⊢
  have hA : ∀ q : Nat, s.heap.size ≤ q → A q := fun q h => by rw [← hAe]; exact Or.inr h
  have hS : va_S A s.heap s.heap [] := va_S.rf
  have hP : va_P (dC, dI) vwCl [(h0, .inr (11, [.ref (a 0), .ref (a 1), .ref (a 3), .ref (a 14), .int 0, .null, .null, .null, .null, .null, .null]))] s.heap := hP
  have hl := lv_entry ([.ref h0]) (n := 1) (Nat.le_of_ble_eq_true rfl)
  rw [lg_entry_eq]
  generalize (lg_sl ([.ref h0]) ++ List.replicate (1 - (lg_sl ([.ref h0])).length) Slot.unset).toArray = ls at hl ⊢
  have hl : lv_has ls 1 [(0, .ref h0)] := hl
  refine lv_aload_n hx hb dX11_listing_0 rfl (lv_at hl 0 rfl) ?_
  have hPc := hP.sub (ws' := [(h0, .inr (11, [.ref (a 0), .ref (a 1), .ref (a 3), .ref (a 14), .int 0, .null, .null, .null, .null, .null, .null]))]) [0] rfl
  have hDc := hD.sub (ws' := [(h0, .inr (11, [.ref (a 0), .ref (a 1), .ref (a 3), .ref (a 14), .int 0, .null, .null, .null, .null, .null, .null]))]) [0] (by decide) rfl
  have hKc := hK.sub (tys' := []) [] rfl
  have hFc := va_free (wc := [(h0, .inr (11, [.ref (a 0), .ref (a 1), .ref (a 3), .ref (a 14), .int 0, .null, .null, .null, .null, .null, .null]))]) hD hS hA [0] rfl
  refine va_callr (va_runV (As := []) (rest := []) ⟨hx, hb, hml, hown, hts⟩ (p_X11_theValues l dC dI h0 a s.heap.size) (cwV 0 hts gwsPX11_listing_0 rfl rfl rfl (by decide +kernel) ⟨by decide +kernel, by decide +kernel⟩) ⟨fun a U g mk q => by obtain ⟨q0, q1, qP, qK, qD, qhnX11_343⟩ := q; exact ⟨q0, q1, qP, va_K.moved (u := U) (U := U.calling g mk a) (Vm.Alike.refl U.vm) qK, qD, va_Nw.same (u := U) (U := U.calling g mk a) rfl rfl qhnX11_343⟩, va_recv hKc hPc (ci := 11) (q0 := 0) rfl rfl, fun U hU9 hW => ⟨rfl, by rw [hU9], by rw [hU9]; exact hPc, va_K.moved hW.alike hKc, hDc.weaken (fun _ _ _ _ => trivial), va_Nw.warmM hW hnX11_343⟩⟩ rfl rfl hl.1 rfl (lv_room (Nat.le_of_ble_eq_true rfl)) dX11_listing_1 ⟨by decide +kernel, by decide +kernel⟩) hS (fun q _ h => hFc q h) hFc (fun u a1 t H1 locs ht hvm hw hB hz1 hk1 hS => ?_)
  obtain ⟨aa1, kk1⟩ := u
  obtain ⟨hP1, hK1, hD1⟩ := hB
  rw [ht] at hP1
  have hK1 := va_K.moved hvm.symm hK1
  obtain ⟨hP, hD⟩ := va_join (wr := []) (w1 := [(h0, .inr (11, [.ref (a 0), .ref (a 1), .ref (a 3), .ref (a 14), .int 0, .null, .null, .null, .ref a1, .null, .null])), (a1, .inr (7, [.int 0, .int 0, .ref (aa1 0), .ref (aa1 1), .ref (aa1 2), .ref (aa1 3), .ref (aa1 4), .ref (aa1 5), .ref (aa1 6), .ref (aa1 7), .ref (aa1 8), .int (-1), .int 0, .ref (aa1 9), .ref (aa1 10), .ref (aa1 11), .ref (aa1 12), .ref (aa1 13), .int 0, .int 0])), ((aa1 0), .inl ((kk1 0), 16, .inl (fun _ => 0))), ((aa1 1), .inl ((kk1 1), 10, .inl (fun _ => 0))), ((aa1 2), .inl ((kk1 2), 12, .inl (fun _ => 0))), ((aa1 3), .inl ((kk1 3), 12, .inl (fun _ => 0))), ((aa1 4), .inl ((kk1 4), 12, .inl (fun _ => 0))), ((aa1 5), .inl ((kk1 5), 12, .inl (fun _ => 0))), ((aa1 6), .inl ((kk1 6), 192, .inl (fun _ => 0))), ((aa1 7), .inl ((kk1 7), 12, .inl (fun _ => 0))), ((aa1 8), .inl ((kk1 8), 10, .inl (fun _ => 0))), ((aa1 9), .inl ((kk1 9), 33, .inr (.inl (fun _ => 0)))), ((aa1 10), .inl ((kk1 10), 33, .inr (.inl (fun _ => 0)))), ((aa1 11), .inl ((kk1 11), 1024, .inl (fun _ => 0))), ((aa1 12), .inl ((kk1 12), 10, .inl (fun _ => 0))), ((aa1 13), .inl ((kk1 13), 0, .inr (.inl (fun _ => 0))))]) hP hD [0] [] rfl rfl (by decide) (by decide) hk1 hFc hP1 hD1
  have hK := hK.app hK1
  generalize H1 = H at hP hS ⊢
  have hP : va_P (dC, dI) vwCl [(h0, .inr (11, [.ref (a 0), .ref (a 1), .ref (a 3), .ref (a 14), .int 0, .null, .null, .null, .ref a1, .null, .null])), (a1, .inr (7, [.int 0, .int 0, .ref (aa1 0), .ref (aa1 1), .ref (aa1 2), .ref (aa1 3), .ref (aa1 4), .ref (aa1 5), .ref (aa1 6), .ref (aa1 7), .ref (aa1 8), .int (-1), .int 0, .ref (aa1 9), .ref (aa1 10), .ref (aa1 11), .ref (aa1 12), .ref (aa1 13), .int 0, .int 0])), ((aa1 0), .inl ((kk1 0), 16, .inl (fun _ => 0))), ((aa1 1), .inl ((kk1 1), 10, .inl (fun _ => 0))), ((aa1 2), .inl ((kk1 2), 12, .inl (fun _ => 0))), ((aa1 3), .inl ((kk1 3), 12, .inl (fun _ => 0))), ((aa1 4), .inl ((kk1 4), 12, .inl (fun _ => 0))), ((aa1 5), .inl ((kk1 5), 12, .inl (fun _ => 0))), ((aa1 6), .inl ((kk1 6), 192, .inl (fun _ => 0))), ((aa1 7), .inl ((kk1 7), 12, .inl (fun _ => 0))), ((aa1 8), .inl ((kk1 8), 10, .inl (fun _ => 0))), ((aa1 9), .inl ((kk1 9), 33, .inr (.inl (fun _ => 0)))), ((aa1 10), .inl ((kk1 10), 33, .inr (.inl (fun _ => 0)))), ((aa1 11), .inl ((kk1 11), 1024, .inl (fun _ => 0))), ((aa1 12), .inl ((kk1 12), 10, .inl (fun _ => 0))), ((aa1 13), .inl ((kk1 13), 0, .inr (.inl (fun _ => 0))))] H := hP
  have hD : va_D A [(h0, .inr (11, [.ref (a 0), .ref (a 1), .ref (a 3), .ref (a 14), .int 0, .null, .null, .null, .ref a1, .null, .null])), (a1, .inr (7, [.int 0, .int 0, .ref (aa1 0), .ref (aa1 1), .ref (aa1 2), .ref (aa1 3), .ref (aa1 4), .ref (aa1 5), .ref (aa1 6), .ref (aa1 7), .ref (aa1 8), .int (-1), .int 0, .ref (aa1 9), .ref (aa1 10), .ref (aa1 11), .ref (aa1 12), .ref (aa1 13), .int 0, .int 0])), ((aa1 0), .inl ((kk1 0), 16, .inl (fun _ => 0))), ((aa1 1), .inl ((kk1 1), 10, .inl (fun _ => 0))), ((aa1 2), .inl ((kk1 2), 12, .inl (fun _ => 0))), ((aa1 3), .inl ((kk1 3), 12, .inl (fun _ => 0))), ((aa1 4), .inl ((kk1 4), 12, .inl (fun _ => 0))), ((aa1 5), .inl ((kk1 5), 12, .inl (fun _ => 0))), ((aa1 6), .inl ((kk1 6), 192, .inl (fun _ => 0))), ((aa1 7), .inl ((kk1 7), 12, .inl (fun _ => 0))), ((aa1 8), .inl ((kk1 8), 10, .inl (fun _ => 0))), ((aa1 9), .inl ((kk1 9), 33, .inr (.inl (fun _ => 0)))), ((aa1 10), .inl ((kk1 10), 33, .inr (.inl (fun _ => 0)))), ((aa1 11), .inl ((kk1 11), 1024, .inl (fun _ => 0))), ((aa1 12), .inl ((kk1 12), 10, .inl (fun _ => 0))), ((aa1 13), .inl ((kk1 13), 0, .inr (.inl (fun _ => 0))))] := hD
  have hK : va_K (dC, dI) vwCl [((kk1 0), .int), ((kk1 1), .int), ((kk1 2), .int), ((kk1 3), .int), ((kk1 4), .int), ((kk1 5), .int), ((kk1 6), .int), ((kk1 7), .int), ((kk1 8), .int), ((kk1 9), .long), ((kk1 10), .long), ((kk1 11), .int), ((kk1 12), .int), ((kk1 13), .long)] s := hK
  refine W.widen (k := 15) (n := 1408) (by decide +kernel) (by decide +kernel) ?_
  have hPc := hP.sub (ws' := [(a1, .inr (7, [.int 0, .int 0, .ref (aa1 0), .ref (aa1 1), .ref (aa1 2), .ref (aa1 3), .ref (aa1 4), .ref (aa1 5), .ref (aa1 6), .ref (aa1 7), .ref (aa1 8), .int (-1), .int 0, .ref (aa1 9), .ref (aa1 10), .ref (aa1 11), .ref (aa1 12), .ref (aa1 13), .int 0, .int 0])), ((aa1 13), .inl ((kk1 13), 0, .inr (.inl (fun _ => 0))))]) [1, 15] rfl
  have hDc := hD.sub (ws' := [(a1, .inr (7, [.int 0, .int 0, .ref (aa1 0), .ref (aa1 1), .ref (aa1 2), .ref (aa1 3), .ref (aa1 4), .ref (aa1 5), .ref (aa1 6), .ref (aa1 7), .ref (aa1 8), .int (-1), .int 0, .ref (aa1 9), .ref (aa1 10), .ref (aa1 11), .ref (aa1 12), .ref (aa1 13), .int 0, .int 0])), ((aa1 13), .inl ((kk1 13), 0, .inr (.inl (fun _ => 0))))]) [1, 15] (by decide) rfl
  have hKc := hK.sub (tys' := [((kk1 13), .long)]) [13] rfl
  have hFc := va_free (wc := [(a1, .inr (7, [.int 0, .int 0, .ref (aa1 0), .ref (aa1 1), .ref (aa1 2), .ref (aa1 3), .ref (aa1 4), .ref (aa1 5), .ref (aa1 6), .ref (aa1 7), .ref (aa1 8), .int (-1), .int 0, .ref (aa1 9), .ref (aa1 10), .ref (aa1 11), .ref (aa1 12), .ref (aa1 13), .int 0, .int 0])), ((aa1 13), .inl ((kk1 13), 0, .inr (.inl (fun _ => 0))))]) hD hS hA [1, 15] rfl
  refine va_calli (va_runV (As := []) (rest := []) ⟨hx, hb, hml, hown, hts⟩ (p_X7_listingSize l dC dI a1 aa1 kk1 H.size) (cwV 0 hts gwsPX11_listing_1 rfl rfl rfl (by decide +kernel) ⟨by decide +kernel, by decide +kernel⟩) ⟨fun a U g mk q => by obtain ⟨q0, q1, qP, qK, qD⟩ := q; exact ⟨q0, q1, qP, va_K.moved (u := U) (U := U.calling g mk a) (Vm.Alike.refl U.vm) qK, qD⟩, va_recv hKc hPc (ci := 7) (q0 := 0) rfl rfl, fun U hU9 hW => ⟨rfl, by rw [hU9], by rw [hU9]; exact hPc, va_K.moved hW.alike hKc, hDc.weaken (fun _ _ _ _ => trivial)⟩⟩ rfl rfl hl.1 rfl (lv_room (Nat.le_of_ble_eq_true rfl)) dX11_listing_4 ⟨by decide +kernel, by decide +kernel⟩) hS (fun q _ h => hFc q h) hFc (fun r4 u t H1 locs ht hvm hw hB hz1 hk1 hS => ?_)
  obtain ⟨hP1, hK1, hD1⟩ := hB
  rw [ht] at hP1
  have hK1 := va_K.moved hvm.symm hK1
  obtain ⟨hP, hD⟩ := va_join (wr := [(h0, .inr (11, [.ref (a 0), .ref (a 1), .ref (a 3), .ref (a 14), .int 0, .null, .null, .null, .ref a1, .null, .null])), ((aa1 0), .inl ((kk1 0), 16, .inl (fun _ => 0))), ((aa1 1), .inl ((kk1 1), 10, .inl (fun _ => 0))), ((aa1 2), .inl ((kk1 2), 12, .inl (fun _ => 0))), ((aa1 3), .inl ((kk1 3), 12, .inl (fun _ => 0))), ((aa1 4), .inl ((kk1 4), 12, .inl (fun _ => 0))), ((aa1 5), .inl ((kk1 5), 12, .inl (fun _ => 0))), ((aa1 6), .inl ((kk1 6), 192, .inl (fun _ => 0))), ((aa1 7), .inl ((kk1 7), 12, .inl (fun _ => 0))), ((aa1 8), .inl ((kk1 8), 10, .inl (fun _ => 0))), ((aa1 9), .inl ((kk1 9), 33, .inr (.inl (fun _ => 0)))), ((aa1 10), .inl ((kk1 10), 33, .inr (.inl (fun _ => 0)))), ((aa1 11), .inl ((kk1 11), 1024, .inl (fun _ => 0))), ((aa1 12), .inl ((kk1 12), 10, .inl (fun _ => 0)))]) (w1 := []) hP hD [1, 15] [0, 2, 3, 4, 5, 6, 7, 8, 9, 10, 11, 12, 13, 14] rfl rfl (by decide) (by decide) hk1 hFc hP1 hD1
  generalize H1 = H at hP hS ⊢
  have hP : va_P (dC, dI) vwCl [(h0, .inr (11, [.ref (a 0), .ref (a 1), .ref (a 3), .ref (a 14), .int 0, .null, .null, .null, .ref a1, .null, .null])), ((aa1 0), .inl ((kk1 0), 16, .inl (fun _ => 0))), ((aa1 1), .inl ((kk1 1), 10, .inl (fun _ => 0))), ((aa1 2), .inl ((kk1 2), 12, .inl (fun _ => 0))), ((aa1 3), .inl ((kk1 3), 12, .inl (fun _ => 0))), ((aa1 4), .inl ((kk1 4), 12, .inl (fun _ => 0))), ((aa1 5), .inl ((kk1 5), 12, .inl (fun _ => 0))), ((aa1 6), .inl ((kk1 6), 192, .inl (fun _ => 0))), ((aa1 7), .inl ((kk1 7), 12, .inl (fun _ => 0))), ((aa1 8), .inl ((kk1 8), 10, .inl (fun _ => 0))), ((aa1 9), .inl ((kk1 9), 33, .inr (.inl (fun _ => 0)))), ((aa1 10), .inl ((kk1 10), 33, .inr (.inl (fun _ => 0)))), ((aa1 11), .inl ((kk1 11), 1024, .inl (fun _ => 0))), ((aa1 12), .inl ((kk1 12), 10, .inl (fun _ => 0)))] H := hP
  have hD : va_D A [(h0, .inr (11, [.ref (a 0), .ref (a 1), .ref (a 3), .ref (a 14), .int 0, .null, .null, .null, .ref a1, .null, .null])), ((aa1 0), .inl ((kk1 0), 16, .inl (fun _ => 0))), ((aa1 1), .inl ((kk1 1), 10, .inl (fun _ => 0))), ((aa1 2), .inl ((kk1 2), 12, .inl (fun _ => 0))), ((aa1 3), .inl ((kk1 3), 12, .inl (fun _ => 0))), ((aa1 4), .inl ((kk1 4), 12, .inl (fun _ => 0))), ((aa1 5), .inl ((kk1 5), 12, .inl (fun _ => 0))), ((aa1 6), .inl ((kk1 6), 192, .inl (fun _ => 0))), ((aa1 7), .inl ((kk1 7), 12, .inl (fun _ => 0))), ((aa1 8), .inl ((kk1 8), 10, .inl (fun _ => 0))), ((aa1 9), .inl ((kk1 9), 33, .inr (.inl (fun _ => 0)))), ((aa1 10), .inl ((kk1 10), 33, .inr (.inl (fun _ => 0)))), ((aa1 11), .inl ((kk1 11), 1024, .inl (fun _ => 0))), ((aa1 12), .inl ((kk1 12), 10, .inl (fun _ => 0)))] := hD
  refine W.widen (k := 16) (n := 1416) (by decide +kernel) (by decide +kernel) ?_
  obtain rfl := hw
  refine W.widen (k := 16) (n := 1416) (by decide +kernel) (by decide +kernel) ?_
  exact W.iret (v := 1) hx hb hr (fun t ht hW => ⟨⟨1, (), rfl, by (first | rfl | assumption | trivial | omega | (simp []; done) | (simp; omega)), by rw [ht]; exact hP.sub [] rfl, va_K.moved hW.alike (hK.sub [] rfl), hD.sub [] (by decide) rfl⟩, hS.F ht⟩) hS.2.2 dX11_listing_7
theorem dX1_empty_0 : decode cX1_empty 0 = .ok (.aload_n 0, 1) := by decide +kernel
theorem dX1_empty_1 : decode cX1_empty 1 = .ok (.iconst 0, 1) := by decide +kernel
theorem dX1_empty_2 : decode cX1_empty 2 = .ok (.putfield 41, 3) := by decide +kernel
theorem dX1_empty_5 : decode cX1_empty 5 = .ok (.aload_n 0, 1) := by decide +kernel
theorem dX1_empty_6 : decode cX1_empty 6 = .ok (.iconst 0, 1) := by decide +kernel
theorem dX1_empty_7 : decode cX1_empty 7 = .ok (.putfield 45, 3) := by decide +kernel
theorem dX1_empty_10 : decode cX1_empty 10 = .ok (.aload_n 0, 1) := by decide +kernel
theorem dX1_empty_11 : decode cX1_empty 11 = .ok (.iconst 0, 1) := by decide +kernel
theorem dX1_empty_12 : decode cX1_empty 12 = .ok (.putfield 49, 3) := by decide +kernel
theorem dX1_empty_15 : decode cX1_empty 15 = .ok (.aload_n 0, 1) := by decide +kernel
theorem dX1_empty_16 : decode cX1_empty 16 = .ok (.iconst 0, 1) := by decide +kernel
theorem dX1_empty_17 : decode cX1_empty 17 = .ok (.putfield 52, 3) := by decide +kernel
theorem dX1_empty_20 : decode cX1_empty 20 = .ok (.aload_n 0, 1) := by decide +kernel
theorem dX1_empty_21 : decode cX1_empty 21 = .ok (.iconst 0, 1) := by decide +kernel
theorem dX1_empty_22 : decode cX1_empty 22 = .ok (.putfield 55, 3) := by decide +kernel
theorem dX1_empty_25 : decode cX1_empty 25 = .ok (.aload_n 0, 1) := by decide +kernel
theorem dX1_empty_26 : decode cX1_empty 26 = .ok (.iconst 0, 1) := by decide +kernel
theorem dX1_empty_27 : decode cX1_empty 27 = .ok (.putfield 58, 3) := by decide +kernel
theorem dX1_empty_30 : decode cX1_empty 30 = .ok (.aload_n 0, 1) := by decide +kernel
theorem dX1_empty_31 : decode cX1_empty 31 = .ok (.iconst 1, 1) := by decide +kernel
theorem dX1_empty_32 : decode cX1_empty 32 = .ok (.putfield 61, 3) := by decide +kernel
theorem dX1_empty_35 : decode cX1_empty 35 = .ok (.return_, 1) := by decide +kernel
def wsPX1_empty : List Cond := .code yX1_empty cX1_empty 1 none :: ([.fieldLink RX1 41 "OptimaWorks$Model" "stands" "Z", .fieldLink RX1 45 "OptimaWorks$Model" "variables" "I", .fieldLink RX1 49 "OptimaWorks$Model" "rows" "I", .fieldLink RX1 52 "OptimaWorks$Model" "plainRows" "I", .fieldLink RX1 55 "OptimaWorks$Model" "goals" "I", .fieldLink RX1 58 "OptimaWorks$Model" "differents" "I", .fieldLink RX1 61 "OptimaWorks$Model" "cases" "I"] ++ wsX10)
theorem iwsPX1_empty_in1 : ∀ w ∈ wsX10, w ∈ wsPX1_empty := fun _ h => List.mem_cons_of_mem _ (List.mem_append_right _ h)
set_option maxHeartbeats 4000000 in
set_option maxRecDepth 100000 in
/-- empty() -/
theorem p_X1_empty (l : Launch) (dC : Nat → ClassId) (dI : Nat → Nat → Nat) (w0 : Nat) (q0 : Value) (q1 : Value) (q2 : Value) (q3 : Value) (q4 : Value) (q5 : Value) (q6 : Value) (q7 : Value) (q8 : Value) (q9 : Value) (q10 : Value) (q11 : Value) (q12 : Value) (q13 : Value) (q14 : Value) (q15 : Value) (q16 : Value) (sz : Nat) : Met l yX1_empty wsPX1_empty ({ frames := 0, cells := 0, slots := 0, locals := 0 }) (va_Pc [.ref w0] (fun U => U.heap.size = sz ∧ va_P (dC, dI) vwCl [(w0, .inr (1, [q0, q1, q2, q3, q4, q5, q6, q7, q8, q9, q10, q11, q12, q13, q14, q15, q16]))] U.heap ∧ va_K (dC, dI) vwCl [] U ∧ va_D (fun _ => True) [(w0, .inr (1, [q0, q1, q2, q3, q4, q5, q6, q7, q8, q9, q10, q11, q12, q13, q14, q15, q16]))])) (va_Qv (fun (u : Unit) => True) (fun (u : Unit) t => va_P (dC, dI) vwCl [(w0, .inr (1, [.int 0, .int 0, .int 0, .int 0, .int 0, .int 1, q6, q7, q8, q9, .int 0, q11, q12, q13, q14, q15, q16]))] t.heap ∧ va_K (dC, dI) vwCl [] t ∧ va_D (va_A [(w0, .inr (1, [q0, q1, q2, q3, q4, q5, q6, q7, q8, q9, q10, q11, q12, q13, q14, q15, q16]))] sz) [(w0, .inr (1, [.int 0, .int 0, .int 0, .int 0, .int 0, .int 1, q6, q7, q8, q9, .int 0, q11, q12, q13, q14, q15, q16]))]) (va_A [(w0, .inr (1, [q0, q1, q2, q3, q4, q5, q6, q7, q8, q9, q10, q11, q12, q13, q14, q15, q16]))] sz)) 0 0 (va_A [(w0, .inr (1, [q0, q1, q2, q3, q4, q5, q6, q7, q8, q9, q10, q11, q12, q13, q14, q15, q16]))] sz) := by
  refine Met.ofW (cc := cX1_empty) (maxL := 1) (ret := none) (by decide) rfl ?_
  intro p e s m args below meth c s₁ B hml hv
  obtain ⟨rfl, hsz, hP, hK, hD0⟩ := hv
  have hx := B.exec
  have hb := B.bytes
  have hr := B.returns
  have hts := atoms_spec (ws := wsPX1_empty) B.pre
  have hown : s.vm.findClass RX1 = some m.cls := findClass_of_methodNamed B.named
  have hlocks := B.notSynchronized
  subst hsz
  have hD := hD0.self (sz := s.heap.size)
  generalize hAe : va_A [(w0, .inr (1, [q0, q1, q2, q3, q4, q5, q6, q7, q8, q9, q10, q11, q12, q13, q14, q15, q16]))] s.heap.size = A at hD ⊢
  have hA : ∀ q : Nat, s.heap.size ≤ q → A q := fun q h => by rw [← hAe]; exact Or.inr h
  have hS : va_S A s.heap s.heap [] := va_S.rf
  have hP : va_P (dC, dI) vwCl [(w0, .inr (1, [q0, q1, q2, q3, q4, q5, q6, q7, q8, q9, q10, q11, q12, q13, q14, q15, q16]))] s.heap := hP
  have hl := lv_entry ([.ref w0]) (n := 1) (Nat.le_of_ble_eq_true rfl)
  rw [lg_entry_eq]
  generalize (lg_sl ([.ref w0]) ++ List.replicate (1 - (lg_sl ([.ref w0])).length) Slot.unset).toArray = ls at hl ⊢
  have hl : lv_has ls 1 [(0, .ref w0)] := hl
  refine lv_aload_n hx hb dX1_empty_0 rfl (lv_at hl 0 rfl) ?_
  refine lv_iconst (v := 0) hx hb dX1_empty_1 (by decide) ?_
  refine va_put (D := (dC, dI)) (ci := 1) (v := .int 0) (ty := .boolean) (C := RX1) (T := TX1) (N := 17) hx hb hts iwsPX1_empty_in1 tyX1 tyX1_ok nmX1 hown hK hP hD hS 0 rfl rfl 0 (by decide) (hts (.fieldLink RX1 41 "OptimaWorks$Model" "stands" "Z") (by decide +kernel)) (fun _ h9 => h9) rfl (by decide +kernel) rfl rfl (Nat.le_of_ble_eq_true rfl) dX1_empty_2 (fun H locs hP hD hS => ?_)
  have hP : va_P (dC, dI) vwCl [(w0, .inr (1, [.int 0, q1, q2, q3, q4, q5, q6, q7, q8, q9, q10, q11, q12, q13, q14, q15, q16]))] H := hP
  have hD : va_D A [(w0, .inr (1, [.int 0, q1, q2, q3, q4, q5, q6, q7, q8, q9, q10, q11, q12, q13, q14, q15, q16]))] := hD
  refine lv_aload_n hx hb dX1_empty_5 rfl (lv_at hl 0 rfl) ?_
  refine lv_iconst (v := 0) hx hb dX1_empty_6 (by decide) ?_
  refine va_put (D := (dC, dI)) (ci := 1) (v := .int 0) (ty := .int) (C := RX1) (T := TX1) (N := 17) hx hb hts iwsPX1_empty_in1 tyX1 tyX1_ok nmX1 hown hK hP hD hS 0 rfl rfl 1 (by decide) (hts (.fieldLink RX1 45 "OptimaWorks$Model" "variables" "I") (by decide +kernel)) (fun _ h9 => h9) rfl (by decide +kernel) rfl rfl (Nat.le_of_ble_eq_true rfl) dX1_empty_7 (fun H locs hP hD hS => ?_)
  have hP : va_P (dC, dI) vwCl [(w0, .inr (1, [.int 0, .int 0, q2, q3, q4, q5, q6, q7, q8, q9, q10, q11, q12, q13, q14, q15, q16]))] H := hP
  have hD : va_D A [(w0, .inr (1, [.int 0, .int 0, q2, q3, q4, q5, q6, q7, q8, q9, q10, q11, q12, q13, q14, q15, q16]))] := hD
  refine lv_aload_n hx hb dX1_empty_10 rfl (lv_at hl 0 rfl) ?_
  refine lv_iconst (v := 0) hx hb dX1_empty_11 (by decide) ?_
  refine va_put (D := (dC, dI)) (ci := 1) (v := .int 0) (ty := .int) (C := RX1) (T := TX1) (N := 17) hx hb hts iwsPX1_empty_in1 tyX1 tyX1_ok nmX1 hown hK hP hD hS 0 rfl rfl 2 (by decide) (hts (.fieldLink RX1 49 "OptimaWorks$Model" "rows" "I") (by decide +kernel)) (fun _ h9 => h9) rfl (by decide +kernel) rfl rfl (Nat.le_of_ble_eq_true rfl) dX1_empty_12 (fun H locs hP hD hS => ?_)
  have hP : va_P (dC, dI) vwCl [(w0, .inr (1, [.int 0, .int 0, .int 0, q3, q4, q5, q6, q7, q8, q9, q10, q11, q12, q13, q14, q15, q16]))] H := hP
  have hD : va_D A [(w0, .inr (1, [.int 0, .int 0, .int 0, q3, q4, q5, q6, q7, q8, q9, q10, q11, q12, q13, q14, q15, q16]))] := hD
  refine lv_aload_n hx hb dX1_empty_15 rfl (lv_at hl 0 rfl) ?_
  refine lv_iconst (v := 0) hx hb dX1_empty_16 (by decide) ?_
  refine va_put (D := (dC, dI)) (ci := 1) (v := .int 0) (ty := .int) (C := RX1) (T := TX1) (N := 17) hx hb hts iwsPX1_empty_in1 tyX1 tyX1_ok nmX1 hown hK hP hD hS 0 rfl rfl 10 (by decide) (hts (.fieldLink RX1 52 "OptimaWorks$Model" "plainRows" "I") (by decide +kernel)) (fun _ h9 => h9) rfl (by decide +kernel) rfl rfl (Nat.le_of_ble_eq_true rfl) dX1_empty_17 (fun H locs hP hD hS => ?_)
  have hP : va_P (dC, dI) vwCl [(w0, .inr (1, [.int 0, .int 0, .int 0, q3, q4, q5, q6, q7, q8, q9, .int 0, q11, q12, q13, q14, q15, q16]))] H := hP
  have hD : va_D A [(w0, .inr (1, [.int 0, .int 0, .int 0, q3, q4, q5, q6, q7, q8, q9, .int 0, q11, q12, q13, q14, q15, q16]))] := hD
  refine lv_aload_n hx hb dX1_empty_20 rfl (lv_at hl 0 rfl) ?_
  refine lv_iconst (v := 0) hx hb dX1_empty_21 (by decide) ?_
  refine va_put (D := (dC, dI)) (ci := 1) (v := .int 0) (ty := .int) (C := RX1) (T := TX1) (N := 17) hx hb hts iwsPX1_empty_in1 tyX1 tyX1_ok nmX1 hown hK hP hD hS 0 rfl rfl 3 (by decide) (hts (.fieldLink RX1 55 "OptimaWorks$Model" "goals" "I") (by decide +kernel)) (fun _ h9 => h9) rfl (by decide +kernel) rfl rfl (Nat.le_of_ble_eq_true rfl) dX1_empty_22 (fun H locs hP hD hS => ?_)
  have hP : va_P (dC, dI) vwCl [(w0, .inr (1, [.int 0, .int 0, .int 0, .int 0, q4, q5, q6, q7, q8, q9, .int 0, q11, q12, q13, q14, q15, q16]))] H := hP
  have hD : va_D A [(w0, .inr (1, [.int 0, .int 0, .int 0, .int 0, q4, q5, q6, q7, q8, q9, .int 0, q11, q12, q13, q14, q15, q16]))] := hD
  refine lv_aload_n hx hb dX1_empty_25 rfl (lv_at hl 0 rfl) ?_
  refine lv_iconst (v := 0) hx hb dX1_empty_26 (by decide) ?_
  refine va_put (D := (dC, dI)) (ci := 1) (v := .int 0) (ty := .int) (C := RX1) (T := TX1) (N := 17) hx hb hts iwsPX1_empty_in1 tyX1 tyX1_ok nmX1 hown hK hP hD hS 0 rfl rfl 4 (by decide) (hts (.fieldLink RX1 58 "OptimaWorks$Model" "differents" "I") (by decide +kernel)) (fun _ h9 => h9) rfl (by decide +kernel) rfl rfl (Nat.le_of_ble_eq_true rfl) dX1_empty_27 (fun H locs hP hD hS => ?_)
  have hP : va_P (dC, dI) vwCl [(w0, .inr (1, [.int 0, .int 0, .int 0, .int 0, .int 0, q5, q6, q7, q8, q9, .int 0, q11, q12, q13, q14, q15, q16]))] H := hP
  have hD : va_D A [(w0, .inr (1, [.int 0, .int 0, .int 0, .int 0, .int 0, q5, q6, q7, q8, q9, .int 0, q11, q12, q13, q14, q15, q16]))] := hD
  refine lv_aload_n hx hb dX1_empty_30 rfl (lv_at hl 0 rfl) ?_
  refine lv_iconst (v := 1) hx hb dX1_empty_31 (by decide) ?_
  refine va_put (D := (dC, dI)) (ci := 1) (v := .int 1) (ty := .int) (C := RX1) (T := TX1) (N := 17) hx hb hts iwsPX1_empty_in1 tyX1 tyX1_ok nmX1 hown hK hP hD hS 0 rfl rfl 5 (by decide) (hts (.fieldLink RX1 61 "OptimaWorks$Model" "cases" "I") (by decide +kernel)) (fun _ h9 => h9) rfl (by decide +kernel) rfl rfl (Nat.le_of_ble_eq_true rfl) dX1_empty_32 (fun H locs hP hD hS => ?_)
  have hP : va_P (dC, dI) vwCl [(w0, .inr (1, [.int 0, .int 0, .int 0, .int 0, .int 0, .int 1, q6, q7, q8, q9, .int 0, q11, q12, q13, q14, q15, q16]))] H := hP
  have hD : va_D A [(w0, .inr (1, [.int 0, .int 0, .int 0, .int 0, .int 0, .int 1, q6, q7, q8, q9, .int 0, q11, q12, q13, q14, q15, q16]))] := hD
  refine W.widen (k := 0) (n := 0) (by decide +kernel) (by decide +kernel) ?_
  exact W.vret hx hb hr (fun t ht hW => ⟨⟨(), rfl, trivial, by rw [ht]; exact hP.sub [0] rfl, va_K.moved hW.alike (hK.sub [] rfl), hD.sub [0] (by decide) rfl⟩, hS.F ht⟩) hS.2.2 dX1_empty_35
theorem dX10_init_0 : decode cX10_init 0 = .ok (.aload_n 0, 1) := by decide +kernel
theorem dX10_init_1 : decode cX10_init 1 = .ok (.invokespecial 5, 3) := by decide +kernel
theorem dX10_init_4 : decode cX10_init 4 = .ok (.aload_n 0, 1) := by decide +kernel
theorem dX10_init_5 : decode cX10_init 5 = .ok (.bipush 40, 2) := by decide +kernel
theorem dX10_init_7 : decode cX10_init 7 = .ok (.newarray .long, 2) := by decide +kernel
theorem dX10_init_9 : decode cX10_init 9 = .ok (.putfield 13, 3) := by decide +kernel
theorem dX10_init_12 : decode cX10_init 12 = .ok (.aload_n 0, 1) := by decide +kernel
theorem dX10_init_13 : decode cX10_init 13 = .ok (.bipush 40, 2) := by decide +kernel
theorem dX10_init_15 : decode cX10_init 15 = .ok (.newarray .int, 2) := by decide +kernel
theorem dX10_init_17 : decode cX10_init 17 = .ok (.putfield 17, 3) := by decide +kernel
theorem dX10_init_20 : decode cX10_init 20 = .ok (.aload_n 0, 1) := by decide +kernel
theorem dX10_init_21 : decode cX10_init 21 = .ok (.bipush 40, 2) := by decide +kernel
theorem dX10_init_23 : decode cX10_init 23 = .ok (.newarray .int, 2) := by decide +kernel
theorem dX10_init_25 : decode cX10_init 25 = .ok (.putfield 21, 3) := by decide +kernel
theorem dX10_init_28 : decode cX10_init 28 = .ok (.aload_n 0, 1) := by decide +kernel
theorem dX10_init_29 : decode cX10_init 29 = .ok (.bipush 40, 2) := by decide +kernel
theorem dX10_init_31 : decode cX10_init 31 = .ok (.newarray .int, 2) := by decide +kernel
theorem dX10_init_33 : decode cX10_init 33 = .ok (.putfield 24, 3) := by decide +kernel
theorem dX10_init_36 : decode cX10_init 36 = .ok (.aload_n 0, 1) := by decide +kernel
theorem dX10_init_37 : decode cX10_init 37 = .ok (.bipush 40, 2) := by decide +kernel
theorem dX10_init_39 : decode cX10_init 39 = .ok (.newarray .int, 2) := by decide +kernel
theorem dX10_init_41 : decode cX10_init 41 = .ok (.putfield 27, 3) := by decide +kernel
theorem dX10_init_44 : decode cX10_init 44 = .ok (.aload_n 0, 1) := by decide +kernel
theorem dX10_init_45 : decode cX10_init 45 = .ok (.iconst 0, 1) := by decide +kernel
theorem dX10_init_46 : decode cX10_init 46 = .ok (.newarray .int, 2) := by decide +kernel
theorem dX10_init_48 : decode cX10_init 48 = .ok (.putfield 30, 3) := by decide +kernel
theorem dX10_init_51 : decode cX10_init 51 = .ok (.aload_n 0, 1) := by decide +kernel
theorem dX10_init_52 : decode cX10_init 52 = .ok (.iconst 0, 1) := by decide +kernel
theorem dX10_init_53 : decode cX10_init 53 = .ok (.newarray .int, 2) := by decide +kernel
theorem dX10_init_55 : decode cX10_init 55 = .ok (.putfield 33, 3) := by decide +kernel
theorem dX10_init_58 : decode cX10_init 58 = .ok (.aload_n 0, 1) := by decide +kernel
theorem dX10_init_59 : decode cX10_init 59 = .ok (.sipush 360, 3) := by decide +kernel
theorem dX10_init_62 : decode cX10_init 62 = .ok (.newarray .long, 2) := by decide +kernel
theorem dX10_init_64 : decode cX10_init 64 = .ok (.putfield 36, 3) := by decide +kernel
theorem dX10_init_67 : decode cX10_init 67 = .ok (.aload_n 0, 1) := by decide +kernel
theorem dX10_init_68 : decode cX10_init 68 = .ok (.sipush 360, 3) := by decide +kernel
theorem dX10_init_71 : decode cX10_init 71 = .ok (.newarray .long, 2) := by decide +kernel
theorem dX10_init_73 : decode cX10_init 73 = .ok (.putfield 39, 3) := by decide +kernel
theorem dX10_init_76 : decode cX10_init 76 = .ok (.aload_n 0, 1) := by decide +kernel
theorem dX10_init_77 : decode cX10_init 77 = .ok (.bipush 64, 2) := by decide +kernel
theorem dX10_init_79 : decode cX10_init 79 = .ok (.newarray .int, 2) := by decide +kernel
theorem dX10_init_81 : decode cX10_init 81 = .ok (.putfield 44, 3) := by decide +kernel
theorem dX10_init_84 : decode cX10_init 84 = .ok (.aload_n 0, 1) := by decide +kernel
theorem dX10_init_85 : decode cX10_init 85 = .ok (.aload_n 1, 1) := by decide +kernel
theorem dX10_init_86 : decode cX10_init 86 = .ok (.putfield 47, 3) := by decide +kernel
theorem dX10_init_89 : decode cX10_init 89 = .ok (.aload_n 0, 1) := by decide +kernel
theorem dX10_init_90 : decode cX10_init 90 = .ok (.aload_n 2, 1) := by decide +kernel
theorem dX10_init_91 : decode cX10_init 91 = .ok (.putfield 51, 3) := by decide +kernel
theorem dX10_init_94 : decode cX10_init 94 = .ok (.return_, 1) := by decide +kernel
def wsPX10_init : List Cond := .code yX10_init cX10_init 3 none :: ([.methodLink RX10 5 objectInit, .instanceMethod objectInit, .code objectInit ⟨#[0xb1]⟩ 1 none, .arrayClass .long, .fieldLink RX10 13 "OptimaWorks$Worker" "key" "[J", .arrayClass .int, .fieldLink RX10 17 "OptimaWorks$Worker" "kind" "[I", .fieldLink RX10 21 "OptimaWorks$Worker" "one" "[I", .fieldLink RX10 24 "OptimaWorks$Worker" "two" "[I", .fieldLink RX10 27 "OptimaWorks$Worker" "base" "[I", .fieldLink RX10 30 "OptimaWorks$Worker" "paramOver" "[I", .fieldLink RX10 33 "OptimaWorks$Worker" "paramUnder" "[I", .fieldLink RX10 36 "OptimaWorks$Worker" "over" "[J", .fieldLink RX10 39 "OptimaWorks$Worker" "under" "[J", .fieldLink RX10 44 "OptimaWorks$Worker" "bound" "[I", .fieldLink RX10 47 "OptimaWorks$Worker" "words" "LOptimaWorks$Words;", .fieldLink RX10 51 "OptimaWorks$Worker" "model" "LOptimaWorks$Model;"] ++ wsX100)
theorem iwsPX10_init_in10 : ∀ w ∈ wsX100, w ∈ wsPX10_init := fun _ h => List.mem_cons_of_mem _ (List.mem_append_right _ h)
set_option maxHeartbeats 4000000 in
set_option maxRecDepth 100000 in
/-- Worker(words, model) -/
theorem p_X10_init (l : Launch) (dC : Nat → ClassId) (dI : Nat → Nat → Nat) (h0 : Nat) (wa : Nat) (ma : Nat) (sz : Nat) : Met l yX10_init wsPX10_init ({ frames := 1, cells := 10, slots := 984, locals := 12 }) (va_Pc [.ref h0, .ref wa, .ref ma] (fun U => U.heap.size = sz ∧ va_P (dC, dI) vwCl [(h0, .inr (10, [.null, .null, .null, .int 0, .null, .null, .null, .null, .null, .int 0, .null, .null, .null, .null, .null, .int 0, .int 0, .int 0, .long 0, .long 0]))] U.heap ∧ va_K (dC, dI) vwCl [] U ∧ va_D (fun _ => True) [(h0, .inr (10, [.null, .null, .null, .int 0, .null, .null, .null, .null, .null, .int 0, .null, .null, .null, .null, .null, .int 0, .int 0, .int 0, .long 0, .long 0]))])) (va_Qv (fun (u : (Nat) × (Nat) × (Nat) × (Nat) × (Nat) × (Nat) × (Nat) × (Nat) × (Nat) × (Nat) × (ClassId)) => True) (fun (u : (Nat) × (Nat) × (Nat) × (Nat) × (Nat) × (Nat) × (Nat) × (Nat) × (Nat) × (Nat) × (ClassId)) t => va_P (dC, dI) vwCl [(h0, .inr (10, [.ref wa, .ref ma, .null, .int 0, .ref (u.1), .ref (u.2.1), .ref (u.2.2.1), .ref (u.2.2.2.1), .ref (u.2.2.2.2.1), .int 0, .ref (u.2.2.2.2.2.1), .ref (u.2.2.2.2.2.2.1), .ref (u.2.2.2.2.2.2.2.1), .ref (u.2.2.2.2.2.2.2.2.1), .ref (u.2.2.2.2.2.2.2.2.2.1), .int 0, .int 0, .int 0, .long 0, .long 0])), ((u.2.2.2.2.2.1), .inl ((u.2.2.2.2.2.2.2.2.2.2), 0, .inl (fun _ => 0)))] t.heap ∧ va_K (dC, dI) vwCl [((u.2.2.2.2.2.2.2.2.2.2), .int)] t ∧ va_D (va_A [(h0, .inr (10, [.null, .null, .null, .int 0, .null, .null, .null, .null, .null, .int 0, .null, .null, .null, .null, .null, .int 0, .int 0, .int 0, .long 0, .long 0]))] sz) [(h0, .inr (10, [.ref wa, .ref ma, .null, .int 0, .ref (u.1), .ref (u.2.1), .ref (u.2.2.1), .ref (u.2.2.2.1), .ref (u.2.2.2.2.1), .int 0, .ref (u.2.2.2.2.2.1), .ref (u.2.2.2.2.2.2.1), .ref (u.2.2.2.2.2.2.2.1), .ref (u.2.2.2.2.2.2.2.2.1), .ref (u.2.2.2.2.2.2.2.2.2.1), .int 0, .int 0, .int 0, .long 0, .long 0])), ((u.2.2.2.2.2.1), .inl ((u.2.2.2.2.2.2.2.2.2.2), 0, .inl (fun _ => 0)))]) (va_A [(h0, .inr (10, [.null, .null, .null, .int 0, .null, .null, .null, .null, .null, .int 0, .null, .null, .null, .null, .null, .int 0, .int 0, .int 0, .long 0, .long 0]))] sz)) 10 984 (va_A [(h0, .inr (10, [.null, .null, .null, .int 0, .null, .null, .null, .null, .null, .int 0, .null, .null, .null, .null, .null, .int 0, .int 0, .int 0, .long 0, .long 0]))] sz) := by
  refine Met.ofW (cc := cX10_init) (maxL := 3) (ret := none) (by decide) rfl ?_
  intro p e s m args below meth c s₁ B hml hv
  obtain ⟨rfl, hsz, hP, hK, hD0⟩ := hv
  have hx := B.exec
  have hb := B.bytes
  have hr := B.returns
  have hts := atoms_spec (ws := wsPX10_init) B.pre
  have hown : s.vm.findClass RX10 = some m.cls := findClass_of_methodNamed B.named
  have hlocks := B.notSynchronized
  have hin : meth.name = "<init>" := (name_of_methodNamed B.named B.method).1
  subst hsz
  have hD := hD0.self (sz := s.heap.size)
  generalize hAe : va_A [(h0, .inr (10, [.null, .null, .null, .int 0, .null, .null, .null, .null, .null, .int 0, .null, .null, .null, .null, .null, .int 0, .int 0, .int 0, .long 0, .long 0]))] s.heap.size = A at hD ⊢
  have hA : ∀ q : Nat, s.heap.size ≤ q → A q := fun q h => by rw [← hAe]; exact Or.inr h
  have hS : va_S A s.heap s.heap [] := va_S.rf
  have hP : va_P (dC, dI) vwCl [(h0, .inr (10, [.null, .null, .null, .int 0, .null, .null, .null, .null, .null, .int 0, .null, .null, .null, .null, .null, .int 0, .int 0, .int 0, .long 0, .long 0]))] s.heap := hP
  have hl := lv_entry ([.ref h0, .ref wa, .ref ma]) (n := 3) (Nat.le_of_ble_eq_true rfl)
  rw [lg_entry_eq]
  generalize (lg_sl ([.ref h0, .ref wa, .ref ma]) ++ List.replicate (3 - (lg_sl ([.ref h0, .ref wa, .ref ma])).length) Slot.unset).toArray = ls at hl ⊢
  have hl : lv_has ls 3 [(0, .ref h0), (1, .ref wa), (2, .ref ma)] := hl
  refine lv_aload_n hx hb dX10_init_0 rfl (lv_at hl 0 rfl) ?_
  refine W.objInit hx hb hown (hts (.methodLink RX10 5 objectInit) (by decide +kernel)) (hts (.instanceMethod objectInit) (by decide +kernel)) (hts (.code objectInit ⟨#[0xb1]⟩ 1 none) (by decide +kernel)) rfl (by rw [hml]; exact hl.1) rfl dX10_init_1 (by decide +kernel) (Nat.le_of_ble_eq_true rfl) ?_
  refine W.eq (g2 := F0 m 4 ls []) rfl ?_
  refine lv_aload_n hx hb dX10_init_4 rfl (lv_at hl 0 rfl) ?_
  refine lv_bipush (v := 40) hx hb dX10_init_5 (by decide) ?_
  refine va_newa (atype := .long) (ty := .long) (N' := 40) (a0 := (40, .inr (.inl (fun _ => 0)))) hx hb (hts (.arrayClass .long) (by decide +kernel)) rfl hK hP hD hS hA (fun _ => rfl) (by decide) (by decide) (by decide +kernel) (by decide +kernel) (by decide +kernel) dX10_init_7 (fun q7 k7 H hK hP hD hS => ?_)
  have hP : va_P (dC, dI) vwCl [(h0, .inr (10, [.null, .null, .null, .int 0, .null, .null, .null, .null, .null, .int 0, .null, .null, .null, .null, .null, .int 0, .int 0, .int 0, .long 0, .long 0])), (q7, .inl (k7, 40, .inr (.inl (fun _ => 0))))] H := hP
  have hD : va_D A [(h0, .inr (10, [.null, .null, .null, .int 0, .null, .null, .null, .null, .null, .int 0, .null, .null, .null, .null, .null, .int 0, .int 0, .int 0, .long 0, .long 0])), (q7, .inl (k7, 40, .inr (.inl (fun _ => 0))))] := hD
  have hK : va_K (dC, dI) vwCl [(k7, .long)] s := hK
  refine W.widen (k := 1) (n := 40) (by decide +kernel) (by decide +kernel) ?_
  refine va_putF (D := (dC, dI)) (ci := 10) (v := .ref q7) (ty := .array .long) (C := RX10) (T := TX10) (N := 20) hx hb hts iwsPX10_init_in10 tyX10 tyX10_ok nmX10 hown hK hP hD hS 0 rfl rfl 4 (by decide) (hts (.fieldLink RX10 13 "OptimaWorks$Worker" "key" "[J") (by decide +kernel)) (fun _ h9 => h9) rfl hin rfl (by decide +kernel) rfl rfl (Nat.le_of_ble_eq_true rfl) dX10_init_9 (fun H locs hP hD hS => ?_)
  have hP : va_P (dC, dI) vwCl [(h0, .inr (10, [.null, .null, .null, .int 0, .ref q7, .null, .null, .null, .null, .int 0, .null, .null, .null, .null, .null, .int 0, .int 0, .int 0, .long 0, .long 0])), (q7, .inl (k7, 40, .inr (.inl (fun _ => 0))))] H := hP
  have hD : va_D A [(h0, .inr (10, [.null, .null, .null, .int 0, .ref q7, .null, .null, .null, .null, .int 0, .null, .null, .null, .null, .null, .int 0, .int 0, .int 0, .long 0, .long 0])), (q7, .inl (k7, 40, .inr (.inl (fun _ => 0))))] := hD
  refine lv_aload_n hx hb dX10_init_12 rfl (lv_at hl 0 rfl) ?_
  refine lv_bipush (v := 40) hx hb dX10_init_13 (by decide) ?_
  refine va_newa (atype := .int) (ty := .int) (N' := 40) (a0 := (40, .inl (fun _ => 0))) hx hb (hts (.arrayClass .int) (by decide +kernel)) rfl hK hP hD hS hA (fun _ => rfl) (by decide) (by decide) (by decide +kernel) (by decide +kernel) (by decide +kernel) dX10_init_15 (fun q15 k15 H hK hP hD hS => ?_)
  have hP : va_P (dC, dI) vwCl [(h0, .inr (10, [.null, .null, .null, .int 0, .ref q7, .null, .null, .null, .null, .int 0, .null, .null, .null, .null, .null, .int 0, .int 0, .int 0, .long 0, .long 0])), (q7, .inl (k7, 40, .inr (.inl (fun _ => 0)))), (q15, .inl (k15, 40, .inl (fun _ => 0)))] H := hP
  have hD : va_D A [(h0, .inr (10, [.null, .null, .null, .int 0, .ref q7, .null, .null, .null, .null, .int 0, .null, .null, .null, .null, .null, .int 0, .int 0, .int 0, .long 0, .long 0])), (q7, .inl (k7, 40, .inr (.inl (fun _ => 0)))), (q15, .inl (k15, 40, .inl (fun _ => 0)))] := hD
  have hK : va_K (dC, dI) vwCl [(k7, .long), (k15, .int)] s := hK
  refine W.widen (k := 2) (n := 80) (by decide +kernel) (by decide +kernel) ?_
  refine va_putF (D := (dC, dI)) (ci := 10) (v := .ref q15) (ty := .array .int) (C := RX10) (T := TX10) (N := 20) hx hb hts iwsPX10_init_in10 tyX10 tyX10_ok nmX10 hown hK hP hD hS 0 rfl rfl 5 (by decide) (hts (.fieldLink RX10 17 "OptimaWorks$Worker" "kind" "[I") (by decide +kernel)) (fun _ h9 => h9) rfl hin rfl (by decide +kernel) rfl rfl (Nat.le_of_ble_eq_true rfl) dX10_init_17 (fun H locs hP hD hS => ?_)
  have hP : va_P (dC, dI) vwCl [(h0, .inr (10, [.null, .null, .null, .int 0, .ref q7, .ref q15, .null, .null, .null, .int 0, .null, .null, .null, .null, .null, .int 0, .int 0, .int 0, .long 0, .long 0])), (q7, .inl (k7, 40, .inr (.inl (fun _ => 0)))), (q15, .inl (k15, 40, .inl (fun _ => 0)))] H := hP
  have hD : va_D A [(h0, .inr (10, [.null, .null, .null, .int 0, .ref q7, .ref q15, .null, .null, .null, .int 0, .null, .null, .null, .null, .null, .int 0, .int 0, .int 0, .long 0, .long 0])), (q7, .inl (k7, 40, .inr (.inl (fun _ => 0)))), (q15, .inl (k15, 40, .inl (fun _ => 0)))] := hD
  refine lv_aload_n hx hb dX10_init_20 rfl (lv_at hl 0 rfl) ?_
  refine lv_bipush (v := 40) hx hb dX10_init_21 (by decide) ?_
  refine va_newa (atype := .int) (ty := .int) (N' := 40) (a0 := (40, .inl (fun _ => 0))) hx hb (hts (.arrayClass .int) (by decide +kernel)) rfl hK hP hD hS hA (fun _ => rfl) (by decide) (by decide) (by decide +kernel) (by decide +kernel) (by decide +kernel) dX10_init_23 (fun q23 k23 H hK hP hD hS => ?_)
  have hP : va_P (dC, dI) vwCl [(h0, .inr (10, [.null, .null, .null, .int 0, .ref q7, .ref q15, .null, .null, .null, .int 0, .null, .null, .null, .null, .null, .int 0, .int 0, .int 0, .long 0, .long 0])), (q7, .inl (k7, 40, .inr (.inl (fun _ => 0)))), (q15, .inl (k15, 40, .inl (fun _ => 0))), (q23, .inl (k23, 40, .inl (fun _ => 0)))] H := hP
  have hD : va_D A [(h0, .inr (10, [.null, .null, .null, .int 0, .ref q7, .ref q15, .null, .null, .null, .int 0, .null, .null, .null, .null, .null, .int 0, .int 0, .int 0, .long 0, .long 0])), (q7, .inl (k7, 40, .inr (.inl (fun _ => 0)))), (q15, .inl (k15, 40, .inl (fun _ => 0))), (q23, .inl (k23, 40, .inl (fun _ => 0)))] := hD
  have hK : va_K (dC, dI) vwCl [(k7, .long), (k15, .int), (k23, .int)] s := hK
  refine W.widen (k := 3) (n := 120) (by decide +kernel) (by decide +kernel) ?_
  refine va_putF (D := (dC, dI)) (ci := 10) (v := .ref q23) (ty := .array .int) (C := RX10) (T := TX10) (N := 20) hx hb hts iwsPX10_init_in10 tyX10 tyX10_ok nmX10 hown hK hP hD hS 0 rfl rfl 6 (by decide) (hts (.fieldLink RX10 21 "OptimaWorks$Worker" "one" "[I") (by decide +kernel)) (fun _ h9 => h9) rfl hin rfl (by decide +kernel) rfl rfl (Nat.le_of_ble_eq_true rfl) dX10_init_25 (fun H locs hP hD hS => ?_)
  have hP : va_P (dC, dI) vwCl [(h0, .inr (10, [.null, .null, .null, .int 0, .ref q7, .ref q15, .ref q23, .null, .null, .int 0, .null, .null, .null, .null, .null, .int 0, .int 0, .int 0, .long 0, .long 0])), (q7, .inl (k7, 40, .inr (.inl (fun _ => 0)))), (q15, .inl (k15, 40, .inl (fun _ => 0))), (q23, .inl (k23, 40, .inl (fun _ => 0)))] H := hP
  have hD : va_D A [(h0, .inr (10, [.null, .null, .null, .int 0, .ref q7, .ref q15, .ref q23, .null, .null, .int 0, .null, .null, .null, .null, .null, .int 0, .int 0, .int 0, .long 0, .long 0])), (q7, .inl (k7, 40, .inr (.inl (fun _ => 0)))), (q15, .inl (k15, 40, .inl (fun _ => 0))), (q23, .inl (k23, 40, .inl (fun _ => 0)))] := hD
  refine lv_aload_n hx hb dX10_init_28 rfl (lv_at hl 0 rfl) ?_
  refine lv_bipush (v := 40) hx hb dX10_init_29 (by decide) ?_
  refine va_newa (atype := .int) (ty := .int) (N' := 40) (a0 := (40, .inl (fun _ => 0))) hx hb (hts (.arrayClass .int) (by decide +kernel)) rfl hK hP hD hS hA (fun _ => rfl) (by decide) (by decide) (by decide +kernel) (by decide +kernel) (by decide +kernel) dX10_init_31 (fun q31 k31 H hK hP hD hS => ?_)
  have hP : va_P (dC, dI) vwCl [(h0, .inr (10, [.null, .null, .null, .int 0, .ref q7, .ref q15, .ref q23, .null, .null, .int 0, .null, .null, .null, .null, .null, .int 0, .int 0, .int 0, .long 0, .long 0])), (q7, .inl (k7, 40, .inr (.inl (fun _ => 0)))), (q15, .inl (k15, 40, .inl (fun _ => 0))), (q23, .inl (k23, 40, .inl (fun _ => 0))), (q31, .inl (k31, 40, .inl (fun _ => 0)))] H := hP
  have hD : va_D A [(h0, .inr (10, [.null, .null, .null, .int 0, .ref q7, .ref q15, .ref q23, .null, .null, .int 0, .null, .null, .null, .null, .null, .int 0, .int 0, .int 0, .long 0, .long 0])), (q7, .inl (k7, 40, .inr (.inl (fun _ => 0)))), (q15, .inl (k15, 40, .inl (fun _ => 0))), (q23, .inl (k23, 40, .inl (fun _ => 0))), (q31, .inl (k31, 40, .inl (fun _ => 0)))] := hD
  have hK : va_K (dC, dI) vwCl [(k7, .long), (k15, .int), (k23, .int), (k31, .int)] s := hK
  refine W.widen (k := 4) (n := 160) (by decide +kernel) (by decide +kernel) ?_
  refine va_putF (D := (dC, dI)) (ci := 10) (v := .ref q31) (ty := .array .int) (C := RX10) (T := TX10) (N := 20) hx hb hts iwsPX10_init_in10 tyX10 tyX10_ok nmX10 hown hK hP hD hS 0 rfl rfl 7 (by decide) (hts (.fieldLink RX10 24 "OptimaWorks$Worker" "two" "[I") (by decide +kernel)) (fun _ h9 => h9) rfl hin rfl (by decide +kernel) rfl rfl (Nat.le_of_ble_eq_true rfl) dX10_init_33 (fun H locs hP hD hS => ?_)
  have hP : va_P (dC, dI) vwCl [(h0, .inr (10, [.null, .null, .null, .int 0, .ref q7, .ref q15, .ref q23, .ref q31, .null, .int 0, .null, .null, .null, .null, .null, .int 0, .int 0, .int 0, .long 0, .long 0])), (q7, .inl (k7, 40, .inr (.inl (fun _ => 0)))), (q15, .inl (k15, 40, .inl (fun _ => 0))), (q23, .inl (k23, 40, .inl (fun _ => 0))), (q31, .inl (k31, 40, .inl (fun _ => 0)))] H := hP
  have hD : va_D A [(h0, .inr (10, [.null, .null, .null, .int 0, .ref q7, .ref q15, .ref q23, .ref q31, .null, .int 0, .null, .null, .null, .null, .null, .int 0, .int 0, .int 0, .long 0, .long 0])), (q7, .inl (k7, 40, .inr (.inl (fun _ => 0)))), (q15, .inl (k15, 40, .inl (fun _ => 0))), (q23, .inl (k23, 40, .inl (fun _ => 0))), (q31, .inl (k31, 40, .inl (fun _ => 0)))] := hD
  refine lv_aload_n hx hb dX10_init_36 rfl (lv_at hl 0 rfl) ?_
  refine lv_bipush (v := 40) hx hb dX10_init_37 (by decide) ?_
  refine va_newa (atype := .int) (ty := .int) (N' := 40) (a0 := (40, .inl (fun _ => 0))) hx hb (hts (.arrayClass .int) (by decide +kernel)) rfl hK hP hD hS hA (fun _ => rfl) (by decide) (by decide) (by decide +kernel) (by decide +kernel) (by decide +kernel) dX10_init_39 (fun q39 k39 H hK hP hD hS => ?_)
  have hP : va_P (dC, dI) vwCl [(h0, .inr (10, [.null, .null, .null, .int 0, .ref q7, .ref q15, .ref q23, .ref q31, .null, .int 0, .null, .null, .null, .null, .null, .int 0, .int 0, .int 0, .long 0, .long 0])), (q7, .inl (k7, 40, .inr (.inl (fun _ => 0)))), (q15, .inl (k15, 40, .inl (fun _ => 0))), (q23, .inl (k23, 40, .inl (fun _ => 0))), (q31, .inl (k31, 40, .inl (fun _ => 0))), (q39, .inl (k39, 40, .inl (fun _ => 0)))] H := hP
  have hD : va_D A [(h0, .inr (10, [.null, .null, .null, .int 0, .ref q7, .ref q15, .ref q23, .ref q31, .null, .int 0, .null, .null, .null, .null, .null, .int 0, .int 0, .int 0, .long 0, .long 0])), (q7, .inl (k7, 40, .inr (.inl (fun _ => 0)))), (q15, .inl (k15, 40, .inl (fun _ => 0))), (q23, .inl (k23, 40, .inl (fun _ => 0))), (q31, .inl (k31, 40, .inl (fun _ => 0))), (q39, .inl (k39, 40, .inl (fun _ => 0)))] := hD
  have hK : va_K (dC, dI) vwCl [(k7, .long), (k15, .int), (k23, .int), (k31, .int), (k39, .int)] s := hK
  refine W.widen (k := 5) (n := 200) (by decide +kernel) (by decide +kernel) ?_
  refine va_putF (D := (dC, dI)) (ci := 10) (v := .ref q39) (ty := .array .int) (C := RX10) (T := TX10) (N := 20) hx hb hts iwsPX10_init_in10 tyX10 tyX10_ok nmX10 hown hK hP hD hS 0 rfl rfl 8 (by decide) (hts (.fieldLink RX10 27 "OptimaWorks$Worker" "base" "[I") (by decide +kernel)) (fun _ h9 => h9) rfl hin rfl (by decide +kernel) rfl rfl (Nat.le_of_ble_eq_true rfl) dX10_init_41 (fun H locs hP hD hS => ?_)
  have hP : va_P (dC, dI) vwCl [(h0, .inr (10, [.null, .null, .null, .int 0, .ref q7, .ref q15, .ref q23, .ref q31, .ref q39, .int 0, .null, .null, .null, .null, .null, .int 0, .int 0, .int 0, .long 0, .long 0])), (q7, .inl (k7, 40, .inr (.inl (fun _ => 0)))), (q15, .inl (k15, 40, .inl (fun _ => 0))), (q23, .inl (k23, 40, .inl (fun _ => 0))), (q31, .inl (k31, 40, .inl (fun _ => 0))), (q39, .inl (k39, 40, .inl (fun _ => 0)))] H := hP
  have hD : va_D A [(h0, .inr (10, [.null, .null, .null, .int 0, .ref q7, .ref q15, .ref q23, .ref q31, .ref q39, .int 0, .null, .null, .null, .null, .null, .int 0, .int 0, .int 0, .long 0, .long 0])), (q7, .inl (k7, 40, .inr (.inl (fun _ => 0)))), (q15, .inl (k15, 40, .inl (fun _ => 0))), (q23, .inl (k23, 40, .inl (fun _ => 0))), (q31, .inl (k31, 40, .inl (fun _ => 0))), (q39, .inl (k39, 40, .inl (fun _ => 0)))] := hD
  refine lv_aload_n hx hb dX10_init_44 rfl (lv_at hl 0 rfl) ?_
  refine lv_iconst (v := 0) hx hb dX10_init_45 (by decide) ?_
  refine va_newa (atype := .int) (ty := .int) (N' := 0) (a0 := (0, .inl (fun _ => 0))) hx hb (hts (.arrayClass .int) (by decide +kernel)) rfl hK hP hD hS hA (fun _ => rfl) (by decide) (by decide) (by decide +kernel) (by decide +kernel) (by decide +kernel) dX10_init_46 (fun q46 k46 H hK hP hD hS => ?_)
  have hP : va_P (dC, dI) vwCl [(h0, .inr (10, [.null, .null, .null, .int 0, .ref q7, .ref q15, .ref q23, .ref q31, .ref q39, .int 0, .null, .null, .null, .null, .null, .int 0, .int 0, .int 0, .long 0, .long 0])), (q7, .inl (k7, 40, .inr (.inl (fun _ => 0)))), (q15, .inl (k15, 40, .inl (fun _ => 0))), (q23, .inl (k23, 40, .inl (fun _ => 0))), (q31, .inl (k31, 40, .inl (fun _ => 0))), (q39, .inl (k39, 40, .inl (fun _ => 0))), (q46, .inl (k46, 0, .inl (fun _ => 0)))] H := hP
  have hD : va_D A [(h0, .inr (10, [.null, .null, .null, .int 0, .ref q7, .ref q15, .ref q23, .ref q31, .ref q39, .int 0, .null, .null, .null, .null, .null, .int 0, .int 0, .int 0, .long 0, .long 0])), (q7, .inl (k7, 40, .inr (.inl (fun _ => 0)))), (q15, .inl (k15, 40, .inl (fun _ => 0))), (q23, .inl (k23, 40, .inl (fun _ => 0))), (q31, .inl (k31, 40, .inl (fun _ => 0))), (q39, .inl (k39, 40, .inl (fun _ => 0))), (q46, .inl (k46, 0, .inl (fun _ => 0)))] := hD
  have hK : va_K (dC, dI) vwCl [(k7, .long), (k15, .int), (k23, .int), (k31, .int), (k39, .int), (k46, .int)] s := hK
  refine W.widen (k := 6) (n := 200) (by decide +kernel) (by decide +kernel) ?_
  refine va_put (D := (dC, dI)) (ci := 10) (v := .ref q46) (ty := .array .int) (C := RX10) (T := TX10) (N := 20) hx hb hts iwsPX10_init_in10 tyX10 tyX10_ok nmX10 hown hK hP hD hS 0 rfl rfl 10 (by decide) (hts (.fieldLink RX10 30 "OptimaWorks$Worker" "paramOver" "[I") (by decide +kernel)) (fun _ h9 => h9) rfl (by decide +kernel) rfl rfl (Nat.le_of_ble_eq_true rfl) dX10_init_48 (fun H locs hP hD hS => ?_)
  have hP : va_P (dC, dI) vwCl [(h0, .inr (10, [.null, .null, .null, .int 0, .ref q7, .ref q15, .ref q23, .ref q31, .ref q39, .int 0, .ref q46, .null, .null, .null, .null, .int 0, .int 0, .int 0, .long 0, .long 0])), (q7, .inl (k7, 40, .inr (.inl (fun _ => 0)))), (q15, .inl (k15, 40, .inl (fun _ => 0))), (q23, .inl (k23, 40, .inl (fun _ => 0))), (q31, .inl (k31, 40, .inl (fun _ => 0))), (q39, .inl (k39, 40, .inl (fun _ => 0))), (q46, .inl (k46, 0, .inl (fun _ => 0)))] H := hP
  have hD : va_D A [(h0, .inr (10, [.null, .null, .null, .int 0, .ref q7, .ref q15, .ref q23, .ref q31, .ref q39, .int 0, .ref q46, .null, .null, .null, .null, .int 0, .int 0, .int 0, .long 0, .long 0])), (q7, .inl (k7, 40, .inr (.inl (fun _ => 0)))), (q15, .inl (k15, 40, .inl (fun _ => 0))), (q23, .inl (k23, 40, .inl (fun _ => 0))), (q31, .inl (k31, 40, .inl (fun _ => 0))), (q39, .inl (k39, 40, .inl (fun _ => 0))), (q46, .inl (k46, 0, .inl (fun _ => 0)))] := hD
  refine lv_aload_n hx hb dX10_init_51 rfl (lv_at hl 0 rfl) ?_
  refine lv_iconst (v := 0) hx hb dX10_init_52 (by decide) ?_
  refine va_newa (atype := .int) (ty := .int) (N' := 0) (a0 := (0, .inl (fun _ => 0))) hx hb (hts (.arrayClass .int) (by decide +kernel)) rfl hK hP hD hS hA (fun _ => rfl) (by decide) (by decide) (by decide +kernel) (by decide +kernel) (by decide +kernel) dX10_init_53 (fun q53 k53 H hK hP hD hS => ?_)
  have hP : va_P (dC, dI) vwCl [(h0, .inr (10, [.null, .null, .null, .int 0, .ref q7, .ref q15, .ref q23, .ref q31, .ref q39, .int 0, .ref q46, .null, .null, .null, .null, .int 0, .int 0, .int 0, .long 0, .long 0])), (q7, .inl (k7, 40, .inr (.inl (fun _ => 0)))), (q15, .inl (k15, 40, .inl (fun _ => 0))), (q23, .inl (k23, 40, .inl (fun _ => 0))), (q31, .inl (k31, 40, .inl (fun _ => 0))), (q39, .inl (k39, 40, .inl (fun _ => 0))), (q46, .inl (k46, 0, .inl (fun _ => 0))), (q53, .inl (k53, 0, .inl (fun _ => 0)))] H := hP
  have hD : va_D A [(h0, .inr (10, [.null, .null, .null, .int 0, .ref q7, .ref q15, .ref q23, .ref q31, .ref q39, .int 0, .ref q46, .null, .null, .null, .null, .int 0, .int 0, .int 0, .long 0, .long 0])), (q7, .inl (k7, 40, .inr (.inl (fun _ => 0)))), (q15, .inl (k15, 40, .inl (fun _ => 0))), (q23, .inl (k23, 40, .inl (fun _ => 0))), (q31, .inl (k31, 40, .inl (fun _ => 0))), (q39, .inl (k39, 40, .inl (fun _ => 0))), (q46, .inl (k46, 0, .inl (fun _ => 0))), (q53, .inl (k53, 0, .inl (fun _ => 0)))] := hD
  have hK : va_K (dC, dI) vwCl [(k7, .long), (k15, .int), (k23, .int), (k31, .int), (k39, .int), (k46, .int), (k53, .int)] s := hK
  refine W.widen (k := 7) (n := 200) (by decide +kernel) (by decide +kernel) ?_
  refine va_put (D := (dC, dI)) (ci := 10) (v := .ref q53) (ty := .array .int) (C := RX10) (T := TX10) (N := 20) hx hb hts iwsPX10_init_in10 tyX10 tyX10_ok nmX10 hown hK hP hD hS 0 rfl rfl 11 (by decide) (hts (.fieldLink RX10 33 "OptimaWorks$Worker" "paramUnder" "[I") (by decide +kernel)) (fun _ h9 => h9) rfl (by decide +kernel) rfl rfl (Nat.le_of_ble_eq_true rfl) dX10_init_55 (fun H locs hP hD hS => ?_)
  have hP : va_P (dC, dI) vwCl [(h0, .inr (10, [.null, .null, .null, .int 0, .ref q7, .ref q15, .ref q23, .ref q31, .ref q39, .int 0, .ref q46, .ref q53, .null, .null, .null, .int 0, .int 0, .int 0, .long 0, .long 0])), (q7, .inl (k7, 40, .inr (.inl (fun _ => 0)))), (q15, .inl (k15, 40, .inl (fun _ => 0))), (q23, .inl (k23, 40, .inl (fun _ => 0))), (q31, .inl (k31, 40, .inl (fun _ => 0))), (q39, .inl (k39, 40, .inl (fun _ => 0))), (q46, .inl (k46, 0, .inl (fun _ => 0))), (q53, .inl (k53, 0, .inl (fun _ => 0)))] H := hP
  have hD : va_D A [(h0, .inr (10, [.null, .null, .null, .int 0, .ref q7, .ref q15, .ref q23, .ref q31, .ref q39, .int 0, .ref q46, .ref q53, .null, .null, .null, .int 0, .int 0, .int 0, .long 0, .long 0])), (q7, .inl (k7, 40, .inr (.inl (fun _ => 0)))), (q15, .inl (k15, 40, .inl (fun _ => 0))), (q23, .inl (k23, 40, .inl (fun _ => 0))), (q31, .inl (k31, 40, .inl (fun _ => 0))), (q39, .inl (k39, 40, .inl (fun _ => 0))), (q46, .inl (k46, 0, .inl (fun _ => 0))), (q53, .inl (k53, 0, .inl (fun _ => 0)))] := hD
  refine lv_aload_n hx hb dX10_init_58 rfl (lv_at hl 0 rfl) ?_
  refine lv_sipush (v := 360) hx hb dX10_init_59 (by decide) ?_
  refine va_newa (atype := .long) (ty := .long) (N' := 360) (a0 := (360, .inr (.inl (fun _ => 0)))) hx hb (hts (.arrayClass .long) (by decide +kernel)) rfl hK hP hD hS hA (fun _ => rfl) (by decide) (by decide) (by decide +kernel) (by decide +kernel) (by decide +kernel) dX10_init_62 (fun q62 k62 H hK hP hD hS => ?_)
  have hP : va_P (dC, dI) vwCl [(h0, .inr (10, [.null, .null, .null, .int 0, .ref q7, .ref q15, .ref q23, .ref q31, .ref q39, .int 0, .ref q46, .ref q53, .null, .null, .null, .int 0, .int 0, .int 0, .long 0, .long 0])), (q7, .inl (k7, 40, .inr (.inl (fun _ => 0)))), (q15, .inl (k15, 40, .inl (fun _ => 0))), (q23, .inl (k23, 40, .inl (fun _ => 0))), (q31, .inl (k31, 40, .inl (fun _ => 0))), (q39, .inl (k39, 40, .inl (fun _ => 0))), (q46, .inl (k46, 0, .inl (fun _ => 0))), (q53, .inl (k53, 0, .inl (fun _ => 0))), (q62, .inl (k62, 360, .inr (.inl (fun _ => 0))))] H := hP
  have hD : va_D A [(h0, .inr (10, [.null, .null, .null, .int 0, .ref q7, .ref q15, .ref q23, .ref q31, .ref q39, .int 0, .ref q46, .ref q53, .null, .null, .null, .int 0, .int 0, .int 0, .long 0, .long 0])), (q7, .inl (k7, 40, .inr (.inl (fun _ => 0)))), (q15, .inl (k15, 40, .inl (fun _ => 0))), (q23, .inl (k23, 40, .inl (fun _ => 0))), (q31, .inl (k31, 40, .inl (fun _ => 0))), (q39, .inl (k39, 40, .inl (fun _ => 0))), (q46, .inl (k46, 0, .inl (fun _ => 0))), (q53, .inl (k53, 0, .inl (fun _ => 0))), (q62, .inl (k62, 360, .inr (.inl (fun _ => 0))))] := hD
  have hK : va_K (dC, dI) vwCl [(k7, .long), (k15, .int), (k23, .int), (k31, .int), (k39, .int), (k46, .int), (k53, .int), (k62, .long)] s := hK
  refine W.widen (k := 8) (n := 560) (by decide +kernel) (by decide +kernel) ?_
  refine va_putF (D := (dC, dI)) (ci := 10) (v := .ref q62) (ty := .array .long) (C := RX10) (T := TX10) (N := 20) hx hb hts iwsPX10_init_in10 tyX10 tyX10_ok nmX10 hown hK hP hD hS 0 rfl rfl 12 (by decide) (hts (.fieldLink RX10 36 "OptimaWorks$Worker" "over" "[J") (by decide +kernel)) (fun _ h9 => h9) rfl hin rfl (by decide +kernel) rfl rfl (Nat.le_of_ble_eq_true rfl) dX10_init_64 (fun H locs hP hD hS => ?_)
  have hP : va_P (dC, dI) vwCl [(h0, .inr (10, [.null, .null, .null, .int 0, .ref q7, .ref q15, .ref q23, .ref q31, .ref q39, .int 0, .ref q46, .ref q53, .ref q62, .null, .null, .int 0, .int 0, .int 0, .long 0, .long 0])), (q7, .inl (k7, 40, .inr (.inl (fun _ => 0)))), (q15, .inl (k15, 40, .inl (fun _ => 0))), (q23, .inl (k23, 40, .inl (fun _ => 0))), (q31, .inl (k31, 40, .inl (fun _ => 0))), (q39, .inl (k39, 40, .inl (fun _ => 0))), (q46, .inl (k46, 0, .inl (fun _ => 0))), (q53, .inl (k53, 0, .inl (fun _ => 0))), (q62, .inl (k62, 360, .inr (.inl (fun _ => 0))))] H := hP
  have hD : va_D A [(h0, .inr (10, [.null, .null, .null, .int 0, .ref q7, .ref q15, .ref q23, .ref q31, .ref q39, .int 0, .ref q46, .ref q53, .ref q62, .null, .null, .int 0, .int 0, .int 0, .long 0, .long 0])), (q7, .inl (k7, 40, .inr (.inl (fun _ => 0)))), (q15, .inl (k15, 40, .inl (fun _ => 0))), (q23, .inl (k23, 40, .inl (fun _ => 0))), (q31, .inl (k31, 40, .inl (fun _ => 0))), (q39, .inl (k39, 40, .inl (fun _ => 0))), (q46, .inl (k46, 0, .inl (fun _ => 0))), (q53, .inl (k53, 0, .inl (fun _ => 0))), (q62, .inl (k62, 360, .inr (.inl (fun _ => 0))))] := hD
  refine lv_aload_n hx hb dX10_init_67 rfl (lv_at hl 0 rfl) ?_
  refine lv_sipush (v := 360) hx hb dX10_init_68 (by decide) ?_
  refine va_newa (atype := .long) (ty := .long) (N' := 360) (a0 := (360, .inr (.inl (fun _ => 0)))) hx hb (hts (.arrayClass .long) (by decide +kernel)) rfl hK hP hD hS hA (fun _ => rfl) (by decide) (by decide) (by decide +kernel) (by decide +kernel) (by decide +kernel) dX10_init_71 (fun q71 k71 H hK hP hD hS => ?_)
  have hP : va_P (dC, dI) vwCl [(h0, .inr (10, [.null, .null, .null, .int 0, .ref q7, .ref q15, .ref q23, .ref q31, .ref q39, .int 0, .ref q46, .ref q53, .ref q62, .null, .null, .int 0, .int 0, .int 0, .long 0, .long 0])), (q7, .inl (k7, 40, .inr (.inl (fun _ => 0)))), (q15, .inl (k15, 40, .inl (fun _ => 0))), (q23, .inl (k23, 40, .inl (fun _ => 0))), (q31, .inl (k31, 40, .inl (fun _ => 0))), (q39, .inl (k39, 40, .inl (fun _ => 0))), (q46, .inl (k46, 0, .inl (fun _ => 0))), (q53, .inl (k53, 0, .inl (fun _ => 0))), (q62, .inl (k62, 360, .inr (.inl (fun _ => 0)))), (q71, .inl (k71, 360, .inr (.inl (fun _ => 0))))] H := hP
  have hD : va_D A [(h0, .inr (10, [.null, .null, .null, .int 0, .ref q7, .ref q15, .ref q23, .ref q31, .ref q39, .int 0, .ref q46, .ref q53, .ref q62, .null, .null, .int 0, .int 0, .int 0, .long 0, .long 0])), (q7, .inl (k7, 40, .inr (.inl (fun _ => 0)))), (q15, .inl (k15, 40, .inl (fun _ => 0))), (q23, .inl (k23, 40, .inl (fun _ => 0))), (q31, .inl (k31, 40, .inl (fun _ => 0))), (q39, .inl (k39, 40, .inl (fun _ => 0))), (q46, .inl (k46, 0, .inl (fun _ => 0))), (q53, .inl (k53, 0, .inl (fun _ => 0))), (q62, .inl (k62, 360, .inr (.inl (fun _ => 0)))), (q71, .inl (k71, 360, .inr (.inl (fun _ => 0))))] := hD
  have hK : va_K (dC, dI) vwCl [(k7, .long), (k15, .int), (k23, .int), (k31, .int), (k39, .int), (k46, .int), (k53, .int), (k62, .long), (k71, .long)] s := hK
  refine W.widen (k := 9) (n := 920) (by decide +kernel) (by decide +kernel) ?_
  refine va_putF (D := (dC, dI)) (ci := 10) (v := .ref q71) (ty := .array .long) (C := RX10) (T := TX10) (N := 20) hx hb hts iwsPX10_init_in10 tyX10 tyX10_ok nmX10 hown hK hP hD hS 0 rfl rfl 13 (by decide) (hts (.fieldLink RX10 39 "OptimaWorks$Worker" "under" "[J") (by decide +kernel)) (fun _ h9 => h9) rfl hin rfl (by decide +kernel) rfl rfl (Nat.le_of_ble_eq_true rfl) dX10_init_73 (fun H locs hP hD hS => ?_)
  have hP : va_P (dC, dI) vwCl [(h0, .inr (10, [.null, .null, .null, .int 0, .ref q7, .ref q15, .ref q23, .ref q31, .ref q39, .int 0, .ref q46, .ref q53, .ref q62, .ref q71, .null, .int 0, .int 0, .int 0, .long 0, .long 0])), (q7, .inl (k7, 40, .inr (.inl (fun _ => 0)))), (q15, .inl (k15, 40, .inl (fun _ => 0))), (q23, .inl (k23, 40, .inl (fun _ => 0))), (q31, .inl (k31, 40, .inl (fun _ => 0))), (q39, .inl (k39, 40, .inl (fun _ => 0))), (q46, .inl (k46, 0, .inl (fun _ => 0))), (q53, .inl (k53, 0, .inl (fun _ => 0))), (q62, .inl (k62, 360, .inr (.inl (fun _ => 0)))), (q71, .inl (k71, 360, .inr (.inl (fun _ => 0))))] H := hP
  have hD : va_D A [(h0, .inr (10, [.null, .null, .null, .int 0, .ref q7, .ref q15, .ref q23, .ref q31, .ref q39, .int 0, .ref q46, .ref q53, .ref q62, .ref q71, .null, .int 0, .int 0, .int 0, .long 0, .long 0])), (q7, .inl (k7, 40, .inr (.inl (fun _ => 0)))), (q15, .inl (k15, 40, .inl (fun _ => 0))), (q23, .inl (k23, 40, .inl (fun _ => 0))), (q31, .inl (k31, 40, .inl (fun _ => 0))), (q39, .inl (k39, 40, .inl (fun _ => 0))), (q46, .inl (k46, 0, .inl (fun _ => 0))), (q53, .inl (k53, 0, .inl (fun _ => 0))), (q62, .inl (k62, 360, .inr (.inl (fun _ => 0)))), (q71, .inl (k71, 360, .inr (.inl (fun _ => 0))))] := hD
  refine lv_aload_n hx hb dX10_init_76 rfl (lv_at hl 0 rfl) ?_
  refine lv_bipush (v := 64) hx hb dX10_init_77 (by decide) ?_
  refine va_newa (atype := .int) (ty := .int) (N' := 64) (a0 := (64, .inl (fun _ => 0))) hx hb (hts (.arrayClass .int) (by decide +kernel)) rfl hK hP hD hS hA (fun _ => rfl) (by decide) (by decide) (by decide +kernel) (by decide +kernel) (by decide +kernel) dX10_init_79 (fun q79 k79 H hK hP hD hS => ?_)
  have hP : va_P (dC, dI) vwCl [(h0, .inr (10, [.null, .null, .null, .int 0, .ref q7, .ref q15, .ref q23, .ref q31, .ref q39, .int 0, .ref q46, .ref q53, .ref q62, .ref q71, .null, .int 0, .int 0, .int 0, .long 0, .long 0])), (q7, .inl (k7, 40, .inr (.inl (fun _ => 0)))), (q15, .inl (k15, 40, .inl (fun _ => 0))), (q23, .inl (k23, 40, .inl (fun _ => 0))), (q31, .inl (k31, 40, .inl (fun _ => 0))), (q39, .inl (k39, 40, .inl (fun _ => 0))), (q46, .inl (k46, 0, .inl (fun _ => 0))), (q53, .inl (k53, 0, .inl (fun _ => 0))), (q62, .inl (k62, 360, .inr (.inl (fun _ => 0)))), (q71, .inl (k71, 360, .inr (.inl (fun _ => 0)))), (q79, .inl (k79, 64, .inl (fun _ => 0)))] H := hP
  have hD : va_D A [(h0, .inr (10, [.null, .null, .null, .int 0, .ref q7, .ref q15, .ref q23, .ref q31, .ref q39, .int 0, .ref q46, .ref q53, .ref q62, .ref q71, .null, .int 0, .int 0, .int 0, .long 0, .long 0])), (q7, .inl (k7, 40, .inr (.inl (fun _ => 0)))), (q15, .inl (k15, 40, .inl (fun _ => 0))), (q23, .inl (k23, 40, .inl (fun _ => 0))), (q31, .inl (k31, 40, .inl (fun _ => 0))), (q39, .inl (k39, 40, .inl (fun _ => 0))), (q46, .inl (k46, 0, .inl (fun _ => 0))), (q53, .inl (k53, 0, .inl (fun _ => 0))), (q62, .inl (k62, 360, .inr (.inl (fun _ => 0)))), (q71, .inl (k71, 360, .inr (.inl (fun _ => 0)))), (q79, .inl (k79, 64, .inl (fun _ => 0)))] := hD
  have hK : va_K (dC, dI) vwCl [(k7, .long), (k15, .int), (k23, .int), (k31, .int), (k39, .int), (k46, .int), (k53, .int), (k62, .long), (k71, .long), (k79, .int)] s := hK
  refine W.widen (k := 10) (n := 984) (by decide +kernel) (by decide +kernel) ?_
  refine va_putF (D := (dC, dI)) (ci := 10) (v := .ref q79) (ty := .array .int) (C := RX10) (T := TX10) (N := 20) hx hb hts iwsPX10_init_in10 tyX10 tyX10_ok nmX10 hown hK hP hD hS 0 rfl rfl 14 (by decide) (hts (.fieldLink RX10 44 "OptimaWorks$Worker" "bound" "[I") (by decide +kernel)) (fun _ h9 => h9) rfl hin rfl (by decide +kernel) rfl rfl (Nat.le_of_ble_eq_true rfl) dX10_init_81 (fun H locs hP hD hS => ?_)
  have hP : va_P (dC, dI) vwCl [(h0, .inr (10, [.null, .null, .null, .int 0, .ref q7, .ref q15, .ref q23, .ref q31, .ref q39, .int 0, .ref q46, .ref q53, .ref q62, .ref q71, .ref q79, .int 0, .int 0, .int 0, .long 0, .long 0])), (q7, .inl (k7, 40, .inr (.inl (fun _ => 0)))), (q15, .inl (k15, 40, .inl (fun _ => 0))), (q23, .inl (k23, 40, .inl (fun _ => 0))), (q31, .inl (k31, 40, .inl (fun _ => 0))), (q39, .inl (k39, 40, .inl (fun _ => 0))), (q46, .inl (k46, 0, .inl (fun _ => 0))), (q53, .inl (k53, 0, .inl (fun _ => 0))), (q62, .inl (k62, 360, .inr (.inl (fun _ => 0)))), (q71, .inl (k71, 360, .inr (.inl (fun _ => 0)))), (q79, .inl (k79, 64, .inl (fun _ => 0)))] H := hP
  have hD : va_D A [(h0, .inr (10, [.null, .null, .null, .int 0, .ref q7, .ref q15, .ref q23, .ref q31, .ref q39, .int 0, .ref q46, .ref q53, .ref q62, .ref q71, .ref q79, .int 0, .int 0, .int 0, .long 0, .long 0])), (q7, .inl (k7, 40, .inr (.inl (fun _ => 0)))), (q15, .inl (k15, 40, .inl (fun _ => 0))), (q23, .inl (k23, 40, .inl (fun _ => 0))), (q31, .inl (k31, 40, .inl (fun _ => 0))), (q39, .inl (k39, 40, .inl (fun _ => 0))), (q46, .inl (k46, 0, .inl (fun _ => 0))), (q53, .inl (k53, 0, .inl (fun _ => 0))), (q62, .inl (k62, 360, .inr (.inl (fun _ => 0)))), (q71, .inl (k71, 360, .inr (.inl (fun _ => 0)))), (q79, .inl (k79, 64, .inl (fun _ => 0)))] := hD
  refine lv_aload_n hx hb dX10_init_84 rfl (lv_at hl 0 rfl) ?_
  refine lv_aload_n hx hb dX10_init_85 rfl (lv_at hl 1 rfl) ?_
  refine va_putF (D := (dC, dI)) (ci := 10) (v := .ref wa) (ty := .object "OptimaWorks$Words") (C := RX10) (T := TX10) (N := 20) hx hb hts iwsPX10_init_in10 tyX10 tyX10_ok nmX10 hown hK hP hD hS 0 rfl rfl 0 (by decide) (hts (.fieldLink RX10 47 "OptimaWorks$Worker" "words" "LOptimaWorks$Words;") (by decide +kernel)) (fun _ h9 => h9) rfl hin rfl (by decide +kernel) rfl rfl (Nat.le_of_ble_eq_true rfl) dX10_init_86 (fun H locs hP hD hS => ?_)
  have hP : va_P (dC, dI) vwCl [(h0, .inr (10, [.ref wa, .null, .null, .int 0, .ref q7, .ref q15, .ref q23, .ref q31, .ref q39, .int 0, .ref q46, .ref q53, .ref q62, .ref q71, .ref q79, .int 0, .int 0, .int 0, .long 0, .long 0])), (q7, .inl (k7, 40, .inr (.inl (fun _ => 0)))), (q15, .inl (k15, 40, .inl (fun _ => 0))), (q23, .inl (k23, 40, .inl (fun _ => 0))), (q31, .inl (k31, 40, .inl (fun _ => 0))), (q39, .inl (k39, 40, .inl (fun _ => 0))), (q46, .inl (k46, 0, .inl (fun _ => 0))), (q53, .inl (k53, 0, .inl (fun _ => 0))), (q62, .inl (k62, 360, .inr (.inl (fun _ => 0)))), (q71, .inl (k71, 360, .inr (.inl (fun _ => 0)))), (q79, .inl (k79, 64, .inl (fun _ => 0)))] H := hP
  have hD : va_D A [(h0, .inr (10, [.ref wa, .null, .null, .int 0, .ref q7, .ref q15, .ref q23, .ref q31, .ref q39, .int 0, .ref q46, .ref q53, .ref q62, .ref q71, .ref q79, .int 0, .int 0, .int 0, .long 0, .long 0])), (q7, .inl (k7, 40, .inr (.inl (fun _ => 0)))), (q15, .inl (k15, 40, .inl (fun _ => 0))), (q23, .inl (k23, 40, .inl (fun _ => 0))), (q31, .inl (k31, 40, .inl (fun _ => 0))), (q39, .inl (k39, 40, .inl (fun _ => 0))), (q46, .inl (k46, 0, .inl (fun _ => 0))), (q53, .inl (k53, 0, .inl (fun _ => 0))), (q62, .inl (k62, 360, .inr (.inl (fun _ => 0)))), (q71, .inl (k71, 360, .inr (.inl (fun _ => 0)))), (q79, .inl (k79, 64, .inl (fun _ => 0)))] := hD
  refine lv_aload_n hx hb dX10_init_89 rfl (lv_at hl 0 rfl) ?_
  refine lv_aload_n hx hb dX10_init_90 rfl (lv_at hl 2 rfl) ?_
  refine va_putF (D := (dC, dI)) (ci := 10) (v := .ref ma) (ty := .object "OptimaWorks$Model") (C := RX10) (T := TX10) (N := 20) hx hb hts iwsPX10_init_in10 tyX10 tyX10_ok nmX10 hown hK hP hD hS 0 rfl rfl 1 (by decide) (hts (.fieldLink RX10 51 "OptimaWorks$Worker" "model" "LOptimaWorks$Model;") (by decide +kernel)) (fun _ h9 => h9) rfl hin rfl (by decide +kernel) rfl rfl (Nat.le_of_ble_eq_true rfl) dX10_init_91 (fun H locs hP hD hS => ?_)
  have hP : va_P (dC, dI) vwCl [(h0, .inr (10, [.ref wa, .ref ma, .null, .int 0, .ref q7, .ref q15, .ref q23, .ref q31, .ref q39, .int 0, .ref q46, .ref q53, .ref q62, .ref q71, .ref q79, .int 0, .int 0, .int 0, .long 0, .long 0])), (q7, .inl (k7, 40, .inr (.inl (fun _ => 0)))), (q15, .inl (k15, 40, .inl (fun _ => 0))), (q23, .inl (k23, 40, .inl (fun _ => 0))), (q31, .inl (k31, 40, .inl (fun _ => 0))), (q39, .inl (k39, 40, .inl (fun _ => 0))), (q46, .inl (k46, 0, .inl (fun _ => 0))), (q53, .inl (k53, 0, .inl (fun _ => 0))), (q62, .inl (k62, 360, .inr (.inl (fun _ => 0)))), (q71, .inl (k71, 360, .inr (.inl (fun _ => 0)))), (q79, .inl (k79, 64, .inl (fun _ => 0)))] H := hP
  have hD : va_D A [(h0, .inr (10, [.ref wa, .ref ma, .null, .int 0, .ref q7, .ref q15, .ref q23, .ref q31, .ref q39, .int 0, .ref q46, .ref q53, .ref q62, .ref q71, .ref q79, .int 0, .int 0, .int 0, .long 0, .long 0])), (q7, .inl (k7, 40, .inr (.inl (fun _ => 0)))), (q15, .inl (k15, 40, .inl (fun _ => 0))), (q23, .inl (k23, 40, .inl (fun _ => 0))), (q31, .inl (k31, 40, .inl (fun _ => 0))), (q39, .inl (k39, 40, .inl (fun _ => 0))), (q46, .inl (k46, 0, .inl (fun _ => 0))), (q53, .inl (k53, 0, .inl (fun _ => 0))), (q62, .inl (k62, 360, .inr (.inl (fun _ => 0)))), (q71, .inl (k71, 360, .inr (.inl (fun _ => 0)))), (q79, .inl (k79, 64, .inl (fun _ => 0)))] := hD
  refine W.widen (k := 10) (n := 984) (by decide +kernel) (by decide +kernel) ?_
  exact W.vret hx hb hr (fun t ht hW => ⟨⟨(q7, q15, q23, q31, q39, q46, q53, q62, q71, q79, k46), rfl, trivial, by rw [ht]; exact hP.sub [0, 6] rfl, va_K.moved hW.alike (hK.sub [5] rfl), hD.sub [0, 6] (by decide) rfl⟩, hS.F ht⟩) hS.2.2 dX10_init_94
theorem dX4_init_0 : decode cX4_init 0 = .ok (.aload_n 0, 1) := by decide +kernel
theorem dX4_init_1 : decode cX4_init 1 = .ok (.invokespecial 3, 3) := by decide +kernel
theorem dX4_init_4 : decode cX4_init 4 = .ok (.aload_n 0, 1) := by decide +kernel
theorem dX4_init_5 : decode cX4_init 5 = .ok (.bipush 7, 2) := by decide +kernel
theorem dX4_init_7 : decode cX4_init 7 = .ok (.newarray .int, 2) := by decide +kernel
theorem dX4_init_9 : decode cX4_init 9 = .ok (.putfield 11, 3) := by decide +kernel
theorem dX4_init_12 : decode cX4_init 12 = .ok (.aload_n 0, 1) := by decide +kernel
theorem dX4_init_13 : decode cX4_init 13 = .ok (.bipush 64, 2) := by decide +kernel
theorem dX4_init_15 : decode cX4_init 15 = .ok (.newarray .long, 2) := by decide +kernel
theorem dX4_init_17 : decode cX4_init 17 = .ok (.putfield 15, 3) := by decide +kernel
theorem dX4_init_20 : decode cX4_init 20 = .ok (.aload_n 0, 1) := by decide +kernel
theorem dX4_init_21 : decode cX4_init 21 = .ok (.aload_n 1, 1) := by decide +kernel
theorem dX4_init_22 : decode cX4_init 22 = .ok (.putfield 19, 3) := by decide +kernel
theorem dX4_init_25 : decode cX4_init 25 = .ok (.aload_n 0, 1) := by decide +kernel
theorem dX4_init_26 : decode cX4_init 26 = .ok (.aload_n 2, 1) := by decide +kernel
theorem dX4_init_27 : decode cX4_init 27 = .ok (.putfield 23, 3) := by decide +kernel
theorem dX4_init_30 : decode cX4_init 30 = .ok (.aload_n 0, 1) := by decide +kernel
theorem dX4_init_31 : decode cX4_init 31 = .ok (.new 27, 3) := by decide +kernel
theorem dX4_init_34 : decode cX4_init 34 = .ok (.dup, 1) := by decide +kernel
theorem dX4_init_35 : decode cX4_init 35 = .ok (.aload_n 1, 1) := by decide +kernel
theorem dX4_init_36 : decode cX4_init 36 = .ok (.aload_n 2, 1) := by decide +kernel
theorem dX4_init_37 : decode cX4_init 37 = .ok (.invokespecial 29, 3) := by decide +kernel
theorem dX4_init_40 : decode cX4_init 40 = .ok (.putfield 32, 3) := by decide +kernel
theorem dX4_init_43 : decode cX4_init 43 = .ok (.return_, 1) := by decide +kernel
def wsPX4_init : List Cond := .code yX4_init cX4_init 3 none :: ([.methodLink RX4 3 objectInit, .instanceMethod objectInit, .code objectInit ⟨#[0xb1]⟩ 1 none, .arrayClass .int, .fieldLink RX4 11 "OptimaWorks$Reader" "tree" "[I", .arrayClass .long, .fieldLink RX4 15 "OptimaWorks$Reader" "binder" "[J", .fieldLink RX4 19 "OptimaWorks$Reader" "words" "LOptimaWorks$Words;", .fieldLink RX4 23 "OptimaWorks$Reader" "model" "LOptimaWorks$Model;", .classLink RX4 27 RX10, .instantiable RX10 20, .initialized RX10, .methodLink RX4 29 yX10_init, .instanceMethod yX10_init, .fieldLink RX4 32 "OptimaWorks$Reader" "worker" "LOptimaWorks$Worker;"] ++ wsX40 ++ wsX100 ++ (wsPX10_init))
theorem iwsPX4_init_in4 : ∀ w ∈ wsX40, w ∈ wsPX4_init := fun _ h => List.mem_cons_of_mem _ (List.mem_append_left _ (List.mem_append_left _ (List.mem_append_right _ h)))
theorem iwsPX4_init_in10 : ∀ w ∈ wsX100, w ∈ wsPX4_init := fun _ h => List.mem_cons_of_mem _ (List.mem_append_left _ (List.mem_append_right _ h))
theorem gwsPX4_init_0 : GoodIn wsPX4_init (wsPX10_init) := goodIn_sub (fun _ h => List.mem_cons_of_mem _ (List.mem_append_right _ h)) (by decide +kernel)
set_option maxHeartbeats 4000000 in
set_option maxRecDepth 100000 in
/-- Reader(words, model) -/
theorem p_X4_init (l : Launch) (dC : Nat → ClassId) (dI : Nat → Nat → Nat) (h0 : Nat) (wa : Nat) (ma : Nat) (sz : Nat) : Met l yX4_init wsPX4_init ({ frames := 2, cells := 13, slots := 1075, locals := 34 }) (va_Pc [.ref h0, .ref wa, .ref ma] (fun U => U.heap.size = sz ∧ va_P (dC, dI) vwCl [(h0, .inr (4, [.null, .null, .null, .null, .int 0, .int 0, .long 0, .null, .int 0, .int 0, .int 0]))] U.heap ∧ va_K (dC, dI) vwCl [] U ∧ va_D (fun _ => True) [(h0, .inr (4, [.null, .null, .null, .null, .int 0, .int 0, .long 0, .null, .int 0, .int 0, .int 0]))])) (va_Qv (fun (u : (Nat) × (Nat) × (Nat) × (Nat) × (Nat) × (Nat) × (Nat) × (Nat) × (Nat) × (Nat) × (Nat) × (Nat) × (Nat) × (ClassId) × (ClassId)) => True) (fun (u : (Nat) × (Nat) × (Nat) × (Nat) × (Nat) × (Nat) × (Nat) × (Nat) × (Nat) × (Nat) × (Nat) × (Nat) × (Nat) × (ClassId) × (ClassId)) t => va_P (dC, dI) vwCl [(h0, .inr (4, [.ref wa, .ref ma, .ref (u.1), .ref (u.2.1), .int 0, .int 0, .long 0, .ref (u.2.2.1), .int 0, .int 0, .int 0])), ((u.1), .inr (10, [.ref wa, .ref ma, .null, .int 0, .ref (u.2.2.2.1), .ref (u.2.2.2.2.1), .ref (u.2.2.2.2.2.1), .ref (u.2.2.2.2.2.2.1), .ref (u.2.2.2.2.2.2.2.1), .int 0, .ref (u.2.2.2.2.2.2.2.2.1), .ref (u.2.2.2.2.2.2.2.2.2.1), .ref (u.2.2.2.2.2.2.2.2.2.2.1), .ref (u.2.2.2.2.2.2.2.2.2.2.2.1), .ref (u.2.2.2.2.2.2.2.2.2.2.2.2.1), .int 0, .int 0, .int 0, .long 0, .long 0])), ((u.2.1), .inl ((u.2.2.2.2.2.2.2.2.2.2.2.2.2.1), 7, .inl (fun _ => 0))), ((u.2.2.2.2.2.2.2.2.1), .inl ((u.2.2.2.2.2.2.2.2.2.2.2.2.2.2), 0, .inl (fun _ => 0)))] t.heap ∧ va_K (dC, dI) vwCl [((u.2.2.2.2.2.2.2.2.2.2.2.2.2.1), .int), ((u.2.2.2.2.2.2.2.2.2.2.2.2.2.2), .int)] t ∧ va_D (va_A [(h0, .inr (4, [.null, .null, .null, .null, .int 0, .int 0, .long 0, .null, .int 0, .int 0, .int 0]))] sz) [(h0, .inr (4, [.ref wa, .ref ma, .ref (u.1), .ref (u.2.1), .int 0, .int 0, .long 0, .ref (u.2.2.1), .int 0, .int 0, .int 0])), ((u.1), .inr (10, [.ref wa, .ref ma, .null, .int 0, .ref (u.2.2.2.1), .ref (u.2.2.2.2.1), .ref (u.2.2.2.2.2.1), .ref (u.2.2.2.2.2.2.1), .ref (u.2.2.2.2.2.2.2.1), .int 0, .ref (u.2.2.2.2.2.2.2.2.1), .ref (u.2.2.2.2.2.2.2.2.2.1), .ref (u.2.2.2.2.2.2.2.2.2.2.1), .ref (u.2.2.2.2.2.2.2.2.2.2.2.1), .ref (u.2.2.2.2.2.2.2.2.2.2.2.2.1), .int 0, .int 0, .int 0, .long 0, .long 0])), ((u.2.1), .inl ((u.2.2.2.2.2.2.2.2.2.2.2.2.2.1), 7, .inl (fun _ => 0))), ((u.2.2.2.2.2.2.2.2.1), .inl ((u.2.2.2.2.2.2.2.2.2.2.2.2.2.2), 0, .inl (fun _ => 0)))]) (va_A [(h0, .inr (4, [.null, .null, .null, .null, .int 0, .int 0, .long 0, .null, .int 0, .int 0, .int 0]))] sz)) 13 1075 (va_A [(h0, .inr (4, [.null, .null, .null, .null, .int 0, .int 0, .long 0, .null, .int 0, .int 0, .int 0]))] sz) := by
  refine Met.ofW (cc := cX4_init) (maxL := 3) (ret := none) (by decide) rfl ?_
  intro p e s m args below meth c s₁ B hml hv
  obtain ⟨rfl, hsz, hP, hK, hD0⟩ := hv
  have hx := B.exec
  have hb := B.bytes
  have hr := B.returns
  have hts := atoms_spec (ws := wsPX4_init) B.pre
  have hown : s.vm.findClass RX4 = some m.cls := findClass_of_methodNamed B.named
  have hlocks := B.notSynchronized
  have hin : meth.name = "<init>" := (name_of_methodNamed B.named B.method).1
  subst hsz
  have hD := hD0.self (sz := s.heap.size)
  generalize hAe : va_A [(h0, .inr (4, [.null, .null, .null, .null, .int 0, .int 0, .long 0, .null, .int 0, .int 0, .int 0]))] s.heap.size = A at hD ⊢
  have hA : ∀ q : Nat, s.heap.size ≤ q → A q := fun q h => by rw [← hAe]; exact Or.inr h
  have hS : va_S A s.heap s.heap [] := va_S.rf
  have hP : va_P (dC, dI) vwCl [(h0, .inr (4, [.null, .null, .null, .null, .int 0, .int 0, .long 0, .null, .int 0, .int 0, .int 0]))] s.heap := hP
  have hl := lv_entry ([.ref h0, .ref wa, .ref ma]) (n := 3) (Nat.le_of_ble_eq_true rfl)
  rw [lg_entry_eq]
  generalize (lg_sl ([.ref h0, .ref wa, .ref ma]) ++ List.replicate (3 - (lg_sl ([.ref h0, .ref wa, .ref ma])).length) Slot.unset).toArray = ls at hl ⊢
  have hl : lv_has ls 3 [(0, .ref h0), (1, .ref wa), (2, .ref ma)] := hl
  refine lv_aload_n hx hb dX4_init_0 rfl (lv_at hl 0 rfl) ?_
  refine W.objInit hx hb hown (hts (.methodLink RX4 3 objectInit) (by decide +kernel)) (hts (.instanceMethod objectInit) (by decide +kernel)) (hts (.code objectInit ⟨#[0xb1]⟩ 1 none) (by decide +kernel)) rfl (by rw [hml]; exact hl.1) rfl dX4_init_1 (by decide +kernel) (Nat.le_of_ble_eq_true rfl) ?_
  refine W.eq (g2 := F0 m 4 ls []) rfl ?_
  refine lv_aload_n hx hb dX4_init_4 rfl (lv_at hl 0 rfl) ?_
  refine lv_bipush (v := 7) hx hb dX4_init_5 (by decide) ?_
  refine va_newa (atype := .int) (ty := .int) (N' := 7) (a0 := (7, .inl (fun _ => 0))) hx hb (hts (.arrayClass .int) (by decide +kernel)) rfl hK hP hD hS hA (fun _ => rfl) (by decide) (by decide) (by decide +kernel) (by decide +kernel) (by decide +kernel) dX4_init_7 (fun q7 k7 H hK hP hD hS => ?_)
  have hP : va_P (dC, dI) vwCl [(h0, .inr (4, [.null, .null, .null, .null, .int 0, .int 0, .long 0, .null, .int 0, .int 0, .int 0])), (q7, .inl (k7, 7, .inl (fun _ => 0)))] H := hP
  have hD : va_D A [(h0, .inr (4, [.null, .null, .null, .null, .int 0, .int 0, .long 0, .null, .int 0, .int 0, .int 0])), (q7, .inl (k7, 7, .inl (fun _ => 0)))] := hD
  have hK : va_K (dC, dI) vwCl [(k7, .int)] s := hK
  refine W.widen (k := 1) (n := 7) (by decide +kernel) (by decide +kernel) ?_
  refine va_put (D := (dC, dI)) (ci := 4) (v := .ref q7) (ty := .array .int) (C := RX4) (T := TX4) (N := 11) hx hb hts iwsPX4_init_in4 tyX4 tyX4_ok nmX4 hown hK hP hD hS 0 rfl rfl 3 (by decide) (hts (.fieldLink RX4 11 "OptimaWorks$Reader" "tree" "[I") (by decide +kernel)) (fun _ h9 => h9) rfl (by decide +kernel) rfl rfl (Nat.le_of_ble_eq_true rfl) dX4_init_9 (fun H locs hP hD hS => ?_)
  have hP : va_P (dC, dI) vwCl [(h0, .inr (4, [.null, .null, .null, .ref q7, .int 0, .int 0, .long 0, .null, .int 0, .int 0, .int 0])), (q7, .inl (k7, 7, .inl (fun _ => 0)))] H := hP
  have hD : va_D A [(h0, .inr (4, [.null, .null, .null, .ref q7, .int 0, .int 0, .long 0, .null, .int 0, .int 0, .int 0])), (q7, .inl (k7, 7, .inl (fun _ => 0)))] := hD
  refine lv_aload_n hx hb dX4_init_12 rfl (lv_at hl 0 rfl) ?_
  refine lv_bipush (v := 64) hx hb dX4_init_13 (by decide) ?_
  refine va_newa (atype := .long) (ty := .long) (N' := 64) (a0 := (64, .inr (.inl (fun _ => 0)))) hx hb (hts (.arrayClass .long) (by decide +kernel)) rfl hK hP hD hS hA (fun _ => rfl) (by decide) (by decide) (by decide +kernel) (by decide +kernel) (by decide +kernel) dX4_init_15 (fun q15 k15 H hK hP hD hS => ?_)
  have hP : va_P (dC, dI) vwCl [(h0, .inr (4, [.null, .null, .null, .ref q7, .int 0, .int 0, .long 0, .null, .int 0, .int 0, .int 0])), (q7, .inl (k7, 7, .inl (fun _ => 0))), (q15, .inl (k15, 64, .inr (.inl (fun _ => 0))))] H := hP
  have hD : va_D A [(h0, .inr (4, [.null, .null, .null, .ref q7, .int 0, .int 0, .long 0, .null, .int 0, .int 0, .int 0])), (q7, .inl (k7, 7, .inl (fun _ => 0))), (q15, .inl (k15, 64, .inr (.inl (fun _ => 0))))] := hD
  have hK : va_K (dC, dI) vwCl [(k7, .int), (k15, .long)] s := hK
  refine W.widen (k := 2) (n := 71) (by decide +kernel) (by decide +kernel) ?_
  refine va_putF (D := (dC, dI)) (ci := 4) (v := .ref q15) (ty := .array .long) (C := RX4) (T := TX4) (N := 11) hx hb hts iwsPX4_init_in4 tyX4 tyX4_ok nmX4 hown hK hP hD hS 0 rfl rfl 7 (by decide) (hts (.fieldLink RX4 15 "OptimaWorks$Reader" "binder" "[J") (by decide +kernel)) (fun _ h9 => h9) rfl hin rfl (by decide +kernel) rfl rfl (Nat.le_of_ble_eq_true rfl) dX4_init_17 (fun H locs hP hD hS => ?_)
  have hP : va_P (dC, dI) vwCl [(h0, .inr (4, [.null, .null, .null, .ref q7, .int 0, .int 0, .long 0, .ref q15, .int 0, .int 0, .int 0])), (q7, .inl (k7, 7, .inl (fun _ => 0))), (q15, .inl (k15, 64, .inr (.inl (fun _ => 0))))] H := hP
  have hD : va_D A [(h0, .inr (4, [.null, .null, .null, .ref q7, .int 0, .int 0, .long 0, .ref q15, .int 0, .int 0, .int 0])), (q7, .inl (k7, 7, .inl (fun _ => 0))), (q15, .inl (k15, 64, .inr (.inl (fun _ => 0))))] := hD
  refine lv_aload_n hx hb dX4_init_20 rfl (lv_at hl 0 rfl) ?_
  refine lv_aload_n hx hb dX4_init_21 rfl (lv_at hl 1 rfl) ?_
  refine va_putF (D := (dC, dI)) (ci := 4) (v := .ref wa) (ty := .object "OptimaWorks$Words") (C := RX4) (T := TX4) (N := 11) hx hb hts iwsPX4_init_in4 tyX4 tyX4_ok nmX4 hown hK hP hD hS 0 rfl rfl 0 (by decide) (hts (.fieldLink RX4 19 "OptimaWorks$Reader" "words" "LOptimaWorks$Words;") (by decide +kernel)) (fun _ h9 => h9) rfl hin rfl (by decide +kernel) rfl rfl (Nat.le_of_ble_eq_true rfl) dX4_init_22 (fun H locs hP hD hS => ?_)
  have hP : va_P (dC, dI) vwCl [(h0, .inr (4, [.ref wa, .null, .null, .ref q7, .int 0, .int 0, .long 0, .ref q15, .int 0, .int 0, .int 0])), (q7, .inl (k7, 7, .inl (fun _ => 0))), (q15, .inl (k15, 64, .inr (.inl (fun _ => 0))))] H := hP
  have hD : va_D A [(h0, .inr (4, [.ref wa, .null, .null, .ref q7, .int 0, .int 0, .long 0, .ref q15, .int 0, .int 0, .int 0])), (q7, .inl (k7, 7, .inl (fun _ => 0))), (q15, .inl (k15, 64, .inr (.inl (fun _ => 0))))] := hD
  refine lv_aload_n hx hb dX4_init_25 rfl (lv_at hl 0 rfl) ?_
  refine lv_aload_n hx hb dX4_init_26 rfl (lv_at hl 2 rfl) ?_
  refine va_putF (D := (dC, dI)) (ci := 4) (v := .ref ma) (ty := .object "OptimaWorks$Model") (C := RX4) (T := TX4) (N := 11) hx hb hts iwsPX4_init_in4 tyX4 tyX4_ok nmX4 hown hK hP hD hS 0 rfl rfl 1 (by decide) (hts (.fieldLink RX4 23 "OptimaWorks$Reader" "model" "LOptimaWorks$Model;") (by decide +kernel)) (fun _ h9 => h9) rfl hin rfl (by decide +kernel) rfl rfl (Nat.le_of_ble_eq_true rfl) dX4_init_27 (fun H locs hP hD hS => ?_)
  have hP : va_P (dC, dI) vwCl [(h0, .inr (4, [.ref wa, .ref ma, .null, .ref q7, .int 0, .int 0, .long 0, .ref q15, .int 0, .int 0, .int 0])), (q7, .inl (k7, 7, .inl (fun _ => 0))), (q15, .inl (k15, 64, .inr (.inl (fun _ => 0))))] H := hP
  have hD : va_D A [(h0, .inr (4, [.ref wa, .ref ma, .null, .ref q7, .int 0, .int 0, .long 0, .ref q15, .int 0, .int 0, .int 0])), (q7, .inl (k7, 7, .inl (fun _ => 0))), (q15, .inl (k15, 64, .inr (.inl (fun _ => 0))))] := hD
  refine lv_aload_n hx hb dX4_init_30 rfl (lv_at hl 0 rfl) ?_
  refine va_new (ci := 10) (fs := [.null, .null, .null, .int 0, .null, .null, .null, .null, .null, .int 0, .null, .null, .null, .null, .null, .int 0, .int 0, .int 0, .long 0, .long 0]) (C := RX10) (T := TX10) (N := 20) hx hb hts iwsPX4_init_in10 tyX10 tyX10_ok hown (hts (.classLink RX4 27 RX10) (by decide +kernel)) (hts (.instantiable RX10 20) (by decide +kernel)) (hts (.initialized RX10) (by decide +kernel)) hK hP hD hS hA rfl (by decide +kernel) (by decide +kernel) (by decide +kernel) dX4_init_31 (fun q31 H hP hD hS => ?_)
  have hP : va_P (dC, dI) vwCl [(h0, .inr (4, [.ref wa, .ref ma, .null, .ref q7, .int 0, .int 0, .long 0, .ref q15, .int 0, .int 0, .int 0])), (q7, .inl (k7, 7, .inl (fun _ => 0))), (q15, .inl (k15, 64, .inr (.inl (fun _ => 0)))), (q31, .inr (10, [.null, .null, .null, .int 0, .null, .null, .null, .null, .null, .int 0, .null, .null, .null, .null, .null, .int 0, .int 0, .int 0, .long 0, .long 0]))] H := hP
  have hD : va_D A [(h0, .inr (4, [.ref wa, .ref ma, .null, .ref q7, .int 0, .int 0, .long 0, .ref q15, .int 0, .int 0, .int 0])), (q7, .inl (k7, 7, .inl (fun _ => 0))), (q15, .inl (k15, 64, .inr (.inl (fun _ => 0)))), (q31, .inr (10, [.null, .null, .null, .int 0, .null, .null, .null, .null, .null, .int 0, .null, .null, .null, .null, .null, .int 0, .int 0, .int 0, .long 0, .long 0]))] := hD
  refine W.widen (k := 3) (n := 91) (by decide +kernel) (by decide +kernel) ?_
  refine lv_dup hx hb dX4_init_34 rfl ?_
  refine lv_aload_n hx hb dX4_init_35 rfl (lv_at hl 1 rfl) ?_
  refine lv_aload_n hx hb dX4_init_36 rfl (lv_at hl 2 rfl) ?_
  have hPc := hP.sub (ws' := [(q31, .inr (10, [.null, .null, .null, .int 0, .null, .null, .null, .null, .null, .int 0, .null, .null, .null, .null, .null, .int 0, .int 0, .int 0, .long 0, .long 0]))]) [3] rfl
  have hDc := hD.sub (ws' := [(q31, .inr (10, [.null, .null, .null, .int 0, .null, .null, .null, .null, .null, .int 0, .null, .null, .null, .null, .null, .int 0, .int 0, .int 0, .long 0, .long 0]))]) [3] (by decide) rfl
  have hKc := hK.sub (tys' := []) [] rfl
  have hFc := va_free (wc := [(q31, .inr (10, [.null, .null, .null, .int 0, .null, .null, .null, .null, .null, .int 0, .null, .null, .null, .null, .null, .int 0, .int 0, .int 0, .long 0, .long 0]))]) hD hS hA [3] rfl
  refine va_callv (va_runI (As := [.ref wa, .ref ma]) (rest := [.ref q31, .ref h0]) ⟨hx, hb, hml, hown, hts⟩ (p_X10_init l dC dI q31 wa ma H.size) (cwI 2 hts gwsPX4_init_0 rfl rfl rfl (hts (.initialized RX10) (by decide +kernel)) (hts (.methodLink RX4 29 yX10_init) (by decide +kernel)) (hts (.instanceMethod yX10_init) (by decide +kernel)) rfl (by decide +kernel) ⟨by decide +kernel, by decide +kernel⟩) ⟨fun a U g mk q => by obtain ⟨q0, q1, qP, qK, qD⟩ := q; exact ⟨q0, q1, qP, va_K.moved (u := U) (U := U.calling g mk a) (Vm.Alike.refl U.vm) qK, qD⟩, fun U hU9 hW => ⟨rfl, by rw [hU9], by rw [hU9]; exact hPc, va_K.moved hW.alike hKc, hDc.weaken (fun _ _ _ _ => trivial)⟩⟩ rfl rfl hl.1 rfl (lv_room (Nat.le_of_ble_eq_true rfl)) dX4_init_37 ⟨by decide +kernel, by decide +kernel⟩) hS (fun q _ h => hFc q h) hFc (fun u t H1 locs ht hvm hw hB hz1 hk1 hS => ?_)
  obtain ⟨y037, y137, y237, y337, y437, y537, y637, y737, y837, y937, kp37⟩ := u
  obtain ⟨hP1, hK1, hD1⟩ := hB
  rw [ht] at hP1
  have hK1 := va_K.moved hvm.symm hK1
  obtain ⟨hP, hD⟩ := va_join (wr := [(h0, .inr (4, [.ref wa, .ref ma, .null, .ref q7, .int 0, .int 0, .long 0, .ref q15, .int 0, .int 0, .int 0])), (q7, .inl (k7, 7, .inl (fun _ => 0))), (q15, .inl (k15, 64, .inr (.inl (fun _ => 0))))]) (w1 := [(q31, .inr (10, [.ref wa, .ref ma, .null, .int 0, .ref y037, .ref y137, .ref y237, .ref y337, .ref y437, .int 0, .ref y537, .ref y637, .ref y737, .ref y837, .ref y937, .int 0, .int 0, .int 0, .long 0, .long 0])), (y537, .inl (kp37, 0, .inl (fun _ => 0)))]) hP hD [3] [0, 1, 2] rfl rfl (by decide) (by decide) hk1 hFc hP1 hD1
  have hK := hK.app hK1
  generalize H1 = H at hP hS ⊢
  have hP : va_P (dC, dI) vwCl [(h0, .inr (4, [.ref wa, .ref ma, .null, .ref q7, .int 0, .int 0, .long 0, .ref q15, .int 0, .int 0, .int 0])), (q7, .inl (k7, 7, .inl (fun _ => 0))), (q15, .inl (k15, 64, .inr (.inl (fun _ => 0)))), (q31, .inr (10, [.ref wa, .ref ma, .null, .int 0, .ref y037, .ref y137, .ref y237, .ref y337, .ref y437, .int 0, .ref y537, .ref y637, .ref y737, .ref y837, .ref y937, .int 0, .int 0, .int 0, .long 0, .long 0])), (y537, .inl (kp37, 0, .inl (fun _ => 0)))] H := hP
  have hD : va_D A [(h0, .inr (4, [.ref wa, .ref ma, .null, .ref q7, .int 0, .int 0, .long 0, .ref q15, .int 0, .int 0, .int 0])), (q7, .inl (k7, 7, .inl (fun _ => 0))), (q15, .inl (k15, 64, .inr (.inl (fun _ => 0)))), (q31, .inr (10, [.ref wa, .ref ma, .null, .int 0, .ref y037, .ref y137, .ref y237, .ref y337, .ref y437, .int 0, .ref y537, .ref y637, .ref y737, .ref y837, .ref y937, .int 0, .int 0, .int 0, .long 0, .long 0])), (y537, .inl (kp37, 0, .inl (fun _ => 0)))] := hD
  have hK : va_K (dC, dI) vwCl [(k7, .int), (k15, .long), (kp37, .int)] s := hK
  refine W.widen (k := 13) (n := 1075) (by decide +kernel) (by decide +kernel) ?_
  refine va_putF (D := (dC, dI)) (ci := 4) (v := .ref q31) (ty := .object "OptimaWorks$Worker") (C := RX4) (T := TX4) (N := 11) hx hb hts iwsPX4_init_in4 tyX4 tyX4_ok nmX4 hown hK hP hD hS 0 rfl rfl 2 (by decide) (hts (.fieldLink RX4 32 "OptimaWorks$Reader" "worker" "LOptimaWorks$Worker;") (by decide +kernel)) (fun _ h9 => h9) rfl hin rfl (by decide +kernel) rfl rfl (Nat.le_of_ble_eq_true rfl) dX4_init_40 (fun H locs hP hD hS => ?_)
  have hP : va_P (dC, dI) vwCl [(h0, .inr (4, [.ref wa, .ref ma, .ref q31, .ref q7, .int 0, .int 0, .long 0, .ref q15, .int 0, .int 0, .int 0])), (q7, .inl (k7, 7, .inl (fun _ => 0))), (q15, .inl (k15, 64, .inr (.inl (fun _ => 0)))), (q31, .inr (10, [.ref wa, .ref ma, .null, .int 0, .ref y037, .ref y137, .ref y237, .ref y337, .ref y437, .int 0, .ref y537, .ref y637, .ref y737, .ref y837, .ref y937, .int 0, .int 0, .int 0, .long 0, .long 0])), (y537, .inl (kp37, 0, .inl (fun _ => 0)))] H := hP
  have hD : va_D A [(h0, .inr (4, [.ref wa, .ref ma, .ref q31, .ref q7, .int 0, .int 0, .long 0, .ref q15, .int 0, .int 0, .int 0])), (q7, .inl (k7, 7, .inl (fun _ => 0))), (q15, .inl (k15, 64, .inr (.inl (fun _ => 0)))), (q31, .inr (10, [.ref wa, .ref ma, .null, .int 0, .ref y037, .ref y137, .ref y237, .ref y337, .ref y437, .int 0, .ref y537, .ref y637, .ref y737, .ref y837, .ref y937, .int 0, .int 0, .int 0, .long 0, .long 0])), (y537, .inl (kp37, 0, .inl (fun _ => 0)))] := hD
  refine W.widen (k := 13) (n := 1075) (by decide +kernel) (by decide +kernel) ?_
  exact W.vret hx hb hr (fun t ht hW => ⟨⟨(q31, q7, q15, y037, y137, y237, y337, y437, y537, y637, y737, y837, y937, k7, kp37), rfl, trivial, by rw [ht]; exact hP.sub [0, 3, 1, 4] rfl, va_K.moved hW.alike (hK.sub [0, 2] rfl), hD.sub [0, 3, 1, 4] (by decide) rfl⟩, hS.F ht⟩) hS.2.2 dX4_init_43
theorem dX9_skipBlanks_0 : decode cX9_skipBlanks 0 = .ok (.iconst 0, 1) := by decide +kernel
theorem dX9_skipBlanks_1 : decode cX9_skipBlanks 1 = .ok (.istore_n 1, 1) := by decide +kernel
theorem dX9_skipBlanks_2 : decode cX9_skipBlanks 2 = .ok (.aload_n 0, 1) := by decide +kernel
theorem dX9_skipBlanks_3 : decode cX9_skipBlanks 3 = .ok (.getfield 40, 3) := by decide +kernel
theorem dX9_skipBlanks_6 : decode cX9_skipBlanks 6 = .ok (.aload_n 0, 1) := by decide +kernel
theorem dX9_skipBlanks_7 : decode cX9_skipBlanks 7 = .ok (.getfield 19, 3) := by decide +kernel
theorem dX9_skipBlanks_10 : decode cX9_skipBlanks 10 = .ok (.if_icmp .ge 71, 3) := by decide +kernel
theorem dX9_skipBlanks_81 : decode cX9_skipBlanks 81 = .ok (.return_, 1) := by decide +kernel
def wsPX9_skipBlanks : List Cond := .code yX9_skipBlanks cX9_skipBlanks 3 none :: ([.fieldLink RX9 40 "OptimaWorks$Words" "next" "I", .fieldLink RX9 19 "OptimaWorks$Words" "length" "I"] ++ wsX90)
theorem iwsPX9_skipBlanks_in9 : ∀ w ∈ wsX90, w ∈ wsPX9_skipBlanks := fun _ h => List.mem_cons_of_mem _ (List.mem_append_right _ h)
set_option maxHeartbeats 4000000 in
set_option maxRecDepth 100000 in
/-- skipBlanks() on an empty tape -/
theorem p_X9_skipBlanks (l : Launch) (dC : Nat → ClassId) (dI : Nat → Nat → Nat) (w0 : Nat) (tp : Nat) (fl : Value) (pl : Value) (kn : Value) (wt : Value) (nu : Value) (na : Value) (sz : Nat) : Met l yX9_skipBlanks wsPX9_skipBlanks ({ frames := 0, cells := 0, slots := 0, locals := 0 }) (va_Pc [.ref w0] (fun U => U.heap.size = sz ∧ va_P (dC, dI) vwCl [(w0, .inr (9, [.ref tp, .int 0, fl, pl, kn, wt, nu, na, .int 0]))] U.heap ∧ va_K (dC, dI) vwCl [] U ∧ va_D (fun _ => True) [(w0, .inr (9, [.ref tp, .int 0, fl, pl, kn, wt, nu, na, .int 0]))])) (va_Qv (fun (u : Unit) => True) (fun (u : Unit) t => va_P (dC, dI) vwCl [(w0, .inr (9, [.ref tp, .int 0, fl, pl, kn, wt, nu, na, .int 0]))] t.heap ∧ va_K (dC, dI) vwCl [] t ∧ va_D (va_A [(w0, .inr (9, [.ref tp, .int 0, fl, pl, kn, wt, nu, na, .int 0]))] sz) [(w0, .inr (9, [.ref tp, .int 0, fl, pl, kn, wt, nu, na, .int 0]))]) (va_A [(w0, .inr (9, [.ref tp, .int 0, fl, pl, kn, wt, nu, na, .int 0]))] sz)) 0 0 (va_A [(w0, .inr (9, [.ref tp, .int 0, fl, pl, kn, wt, nu, na, .int 0]))] sz) := by
  refine Met.ofW (cc := cX9_skipBlanks) (maxL := 3) (ret := none) (by decide) rfl ?_
  intro p e s m args below meth c s₁ B hml hv
  obtain ⟨rfl, hsz, hP, hK, hD0⟩ := hv
  have hx := B.exec
  have hb := B.bytes
  have hr := B.returns
  have hts := atoms_spec (ws := wsPX9_skipBlanks) B.pre
  have hown : s.vm.findClass RX9 = some m.cls := findClass_of_methodNamed B.named
  have hlocks := B.notSynchronized
  subst hsz
  have hD := hD0.self (sz := s.heap.size)
  generalize hAe : va_A [(w0, .inr (9, [.ref tp, .int 0, fl, pl, kn, wt, nu, na, .int 0]))] s.heap.size = A at hD ⊢
  have hA : ∀ q : Nat, s.heap.size ≤ q → A q := fun q h => by rw [← hAe]; exact Or.inr h
  have hS : va_S A s.heap s.heap [] := va_S.rf
  have hP : va_P (dC, dI) vwCl [(w0, .inr (9, [.ref tp, .int 0, fl, pl, kn, wt, nu, na, .int 0]))] s.heap := hP
  have hl := lv_entry ([.ref w0]) (n := 3) (Nat.le_of_ble_eq_true rfl)
  rw [lg_entry_eq]
  generalize (lg_sl ([.ref w0]) ++ List.replicate (3 - (lg_sl ([.ref w0])).length) Slot.unset).toArray = ls at hl ⊢
  have hl : lv_has ls 3 [(0, .ref w0)] := hl
  refine lv_iconst (v := 0) hx hb dX9_skipBlanks_0 (by decide) ?_
  refine lv_istore_n (lv' := [(1, .int 0), (0, .ref w0)]) hx hb dX9_skipBlanks_1 rfl hl (by decide) rfl (fun ls hl => ?_)
  refine lv_aload_n hx hb dX9_skipBlanks_2 rfl (lv_at hl 1 rfl) ?_
  refine va_get (D := (dC, dI)) (ci := 9) (v := .int 0) (C := RX9) (T := TX9) (N := 9) hx hb hts iwsPX9_skipBlanks_in9 hown hK hP 0 rfl rfl 8 (by decide) (hts (.fieldLink RX9 40 "OptimaWorks$Words" "next" "I") (by decide +kernel)) (fun _ h9 => h9) rfl dX9_skipBlanks_3 ?_
  refine lv_aload_n hx hb dX9_skipBlanks_6 rfl (lv_at hl 1 rfl) ?_
  refine va_get (D := (dC, dI)) (ci := 9) (v := .int 0) (C := RX9) (T := TX9) (N := 9) hx hb hts iwsPX9_skipBlanks_in9 hown hK hP 0 rfl rfl 1 (by decide) (hts (.fieldLink RX9 19 "OptimaWorks$Words" "length" "I") (by decide +kernel)) (fun _ h9 => h9) rfl dX9_skipBlanks_7 ?_
  refine lv_icmp_ge (tgt := 81) hx hb dX9_skipBlanks_10 (by decide) (fun _ => ?_) (fun c9 => absurd (by decide) c9)
  refine W.widen (k := 0) (n := 0) (by decide +kernel) (by decide +kernel) ?_
  exact W.vret hx hb hr (fun t ht hW => ⟨⟨(), rfl, trivial, by rw [ht]; exact hP.sub [0] rfl, va_K.moved hW.alike (hK.sub [] rfl), hD.sub [0] (by decide) rfl⟩, hS.F ht⟩) hS.2.2 dX9_skipBlanks_81
theorem dX9_advance_0 : decode cX9_advance 0 = .ok (.aload_n 0, 1) := by decide +kernel
theorem dX9_advance_1 : decode cX9_advance 1 = .ok (.invokevirtual 46, 3) := by decide +kernel
theorem dX9_advance_4 : decode cX9_advance 4 = .ok (.aload_n 0, 1) := by decide +kernel
theorem dX9_advance_5 : decode cX9_advance 5 = .ok (.aload_n 0, 1) := by decide +kernel
theorem dX9_advance_6 : decode cX9_advance 6 = .ok (.getfield 40, 3) := by decide +kernel
theorem dX9_advance_9 : decode cX9_advance 9 = .ok (.putfield 34, 3) := by decide +kernel
theorem dX9_advance_12 : decode cX9_advance 12 = .ok (.aload_n 0, 1) := by decide +kernel
theorem dX9_advance_13 : decode cX9_advance 13 = .ok (.getfield 40, 3) := by decide +kernel
theorem dX9_advance_16 : decode cX9_advance 16 = .ok (.aload_n 0, 1) := by decide +kernel
theorem dX9_advance_17 : decode cX9_advance 17 = .ok (.getfield 19, 3) := by decide +kernel
theorem dX9_advance_20 : decode cX9_advance 20 = .ok (.if_icmp .ge 19, 3) := by decide +kernel
theorem dX9_advance_39 : decode cX9_advance 39 = .ok (.iconst (-1), 1) := by decide +kernel
theorem dX9_advance_40 : decode cX9_advance 40 = .ok (.istore_n 1, 1) := by decide +kernel
theorem dX9_advance_41 : decode cX9_advance 41 = .ok (.iload_n 1, 1) := by decide +kernel
theorem dX9_advance_42 : decode cX9_advance 42 = .ok (.iconst (-1), 1) := by decide +kernel
theorem dX9_advance_43 : decode cX9_advance 43 = .ok (.if_icmp .ne 11, 3) := by decide +kernel
theorem dX9_advance_46 : decode cX9_advance 46 = .ok (.aload_n 0, 1) := by decide +kernel
theorem dX9_advance_47 : decode cX9_advance 47 = .ok (.iconst 0, 1) := by decide +kernel
theorem dX9_advance_48 : decode cX9_advance 48 = .ok (.putfield 37, 3) := by decide +kernel
theorem dX9_advance_51 : decode cX9_advance 51 = .ok (.goto 106, 3) := by decide +kernel
theorem dX9_advance_157 : decode cX9_advance 157 = .ok (.return_, 1) := by decide +kernel
def wsPX9_advance : List Cond := .code yX9_advance cX9_advance 2 none :: ([.fieldLink RX9 40 "OptimaWorks$Words" "next" "I", .fieldLink RX9 34 "OptimaWorks$Words" "at" "I", .fieldLink RX9 19 "OptimaWorks$Words" "length" "I", .fieldLink RX9 37 "OptimaWorks$Words" "kind" "I"] ++ wsX90 ++ (wsV RX9 46 RX9 yX9_skipBlanks wsPX9_skipBlanks))
theorem iwsPX9_advance_in9 : ∀ w ∈ wsX90, w ∈ wsPX9_advance := fun _ h => List.mem_cons_of_mem _ (List.mem_append_left _ (List.mem_append_right _ h))
theorem gwsPX9_advance_0 : GoodIn wsPX9_advance (wsV RX9 46 RX9 yX9_skipBlanks wsPX9_skipBlanks) := goodIn_sub (fun _ h => List.mem_cons_of_mem _ (List.mem_append_right _ h)) (by decide +kernel)
set_option maxHeartbeats 4000000 in
set_option maxRecDepth 100000 in
/-- advance() on an empty tape -/
theorem p_X9_advance (l : Launch) (dC : Nat → ClassId) (dI : Nat → Nat → Nat) (w0 : Nat) (tp : Nat) (fl : Value) (pl : Value) (kn : Value) (wt : Value) (nu : Value) (na : Value) (sz : Nat) : Met l yX9_advance wsPX9_advance ({ frames := 1, cells := 0, slots := 0, locals := 22 }) (va_Pc [.ref w0] (fun U => U.heap.size = sz ∧ va_P (dC, dI) vwCl [(w0, .inr (9, [.ref tp, .int 0, fl, pl, kn, wt, nu, na, .int 0]))] U.heap ∧ va_K (dC, dI) vwCl [] U ∧ va_D (fun _ => True) [(w0, .inr (9, [.ref tp, .int 0, fl, pl, kn, wt, nu, na, .int 0]))])) (va_Qv (fun (u : Unit) => True) (fun (u : Unit) t => va_P (dC, dI) vwCl [(w0, .inr (9, [.ref tp, .int 0, fl, pl, .int 0, .int 0, nu, na, .int 0]))] t.heap ∧ va_K (dC, dI) vwCl [] t ∧ va_D (va_A [(w0, .inr (9, [.ref tp, .int 0, fl, pl, kn, wt, nu, na, .int 0]))] sz) [(w0, .inr (9, [.ref tp, .int 0, fl, pl, .int 0, .int 0, nu, na, .int 0]))]) (va_A [(w0, .inr (9, [.ref tp, .int 0, fl, pl, kn, wt, nu, na, .int 0]))] sz)) 0 0 (va_A [(w0, .inr (9, [.ref tp, .int 0, fl, pl, kn, wt, nu, na, .int 0]))] sz) := by
  refine Met.ofW (cc := cX9_advance) (maxL := 2) (ret := none) (by decide) rfl ?_
  intro p e s m args below meth c s₁ B hml hv
  obtain ⟨rfl, hsz, hP, hK, hD0⟩ := hv
  have hx := B.exec
  have hb := B.bytes
  have hr := B.returns
  have hts := atoms_spec (ws := wsPX9_advance) B.pre
  have hown : s.vm.findClass RX9 = some m.cls := findClass_of_methodNamed B.named
  have hlocks := B.notSynchronized
  subst hsz
  have hD := hD0.self (sz := s.heap.size)
  generalize hAe : va_A [(w0, .inr (9, [.ref tp, .int 0, fl, pl, kn, wt, nu, na, .int 0]))] s.heap.size = A at hD ⊢
  have hA : ∀ q : Nat, s.heap.size ≤ q → A q := fun q h => by rw [← hAe]; exact Or.inr h
  have hS : va_S A s.heap s.heap [] := va_S.rf
  have hP : va_P (dC, dI) vwCl [(w0, .inr (9, [.ref tp, .int 0, fl, pl, kn, wt, nu, na, .int 0]))] s.heap := hP
  have hl := lv_entry ([.ref w0]) (n := 2) (Nat.le_of_ble_eq_true rfl)
  rw [lg_entry_eq]
  generalize (lg_sl ([.ref w0]) ++ List.replicate (2 - (lg_sl ([.ref w0])).length) Slot.unset).toArray = ls at hl ⊢
  have hl : lv_has ls 2 [(0, .ref w0)] := hl
  refine lv_aload_n hx hb dX9_advance_0 rfl (lv_at hl 0 rfl) ?_
  have hPc := hP.sub (ws' := [(w0, .inr (9, [.ref tp, .int 0, fl, pl, kn, wt, nu, na, .int 0]))]) [0] rfl
  have hDc := hD.sub (ws' := [(w0, .inr (9, [.ref tp, .int 0, fl, pl, kn, wt, nu, na, .int 0]))]) [0] (by decide) rfl
  have hKc := hK.sub (tys' := []) [] rfl
  have hFc := va_free (wc := [(w0, .inr (9, [.ref tp, .int 0, fl, pl, kn, wt, nu, na, .int 0]))]) hD hS hA [0] rfl
  refine va_callv (va_runV (As := []) (rest := []) ⟨hx, hb, hml, hown, hts⟩ (p_X9_skipBlanks l dC dI w0 tp fl pl kn wt nu na s.heap.size) (cwV 0 hts gwsPX9_advance_0 rfl rfl rfl (by decide +kernel) ⟨by decide +kernel, by decide +kernel⟩) ⟨fun a U g mk q => by obtain ⟨q0, q1, qP, qK, qD⟩ := q; exact ⟨q0, q1, qP, va_K.moved (u := U) (U := U.calling g mk a) (Vm.Alike.refl U.vm) qK, qD⟩, va_recv hKc hPc (ci := 9) (q0 := 0) rfl rfl, fun U hU9 hW => ⟨rfl, by rw [hU9], by rw [hU9]; exact hPc, va_K.moved hW.alike hKc, hDc.weaken (fun _ _ _ _ => trivial)⟩⟩ rfl rfl hl.1 rfl (lv_room (Nat.le_of_ble_eq_true rfl)) dX9_advance_1 ⟨by decide +kernel, by decide +kernel⟩) hS (fun q _ h => hFc q h) hFc (fun u t H1 locs ht hvm hw hB hz1 hk1 hS => ?_)
  obtain ⟨hP1, hK1, hD1⟩ := hB
  rw [ht] at hP1
  have hK1 := va_K.moved hvm.symm hK1
  obtain ⟨hP, hD⟩ := va_join (wr := []) (w1 := [(w0, .inr (9, [.ref tp, .int 0, fl, pl, kn, wt, nu, na, .int 0]))]) hP hD [0] [] rfl rfl (by decide) (by decide) hk1 hFc hP1 hD1
  generalize H1 = H at hP hS ⊢
  have hP : va_P (dC, dI) vwCl [(w0, .inr (9, [.ref tp, .int 0, fl, pl, kn, wt, nu, na, .int 0]))] H := hP
  have hD : va_D A [(w0, .inr (9, [.ref tp, .int 0, fl, pl, kn, wt, nu, na, .int 0]))] := hD
  refine lv_aload_n hx hb dX9_advance_4 rfl (lv_at hl 0 rfl) ?_
  refine lv_aload_n hx hb dX9_advance_5 rfl (lv_at hl 0 rfl) ?_
  refine va_get (D := (dC, dI)) (ci := 9) (v := .int 0) (C := RX9) (T := TX9) (N := 9) hx hb hts iwsPX9_advance_in9 hown hK hP 0 rfl rfl 8 (by decide) (hts (.fieldLink RX9 40 "OptimaWorks$Words" "next" "I") (by decide +kernel)) (fun _ h9 => h9) rfl dX9_advance_6 ?_
  refine va_put (D := (dC, dI)) (ci := 9) (v := .int 0) (ty := .int) (C := RX9) (T := TX9) (N := 9) hx hb hts iwsPX9_advance_in9 tyX9 tyX9_ok nmX9 hown hK hP hD hS 0 rfl rfl 5 (by decide) (hts (.fieldLink RX9 34 "OptimaWorks$Words" "at" "I") (by decide +kernel)) (fun _ h9 => h9) rfl (by decide +kernel) rfl rfl (Nat.le_of_ble_eq_true rfl) dX9_advance_9 (fun H locs hP hD hS => ?_)
  have hP : va_P (dC, dI) vwCl [(w0, .inr (9, [.ref tp, .int 0, fl, pl, kn, .int 0, nu, na, .int 0]))] H := hP
  have hD : va_D A [(w0, .inr (9, [.ref tp, .int 0, fl, pl, kn, .int 0, nu, na, .int 0]))] := hD
  refine lv_aload_n hx hb dX9_advance_12 rfl (lv_at hl 0 rfl) ?_
  refine va_get (D := (dC, dI)) (ci := 9) (v := .int 0) (C := RX9) (T := TX9) (N := 9) hx hb hts iwsPX9_advance_in9 hown hK hP 0 rfl rfl 8 (by decide) (hts (.fieldLink RX9 40 "OptimaWorks$Words" "next" "I") (by decide +kernel)) (fun _ h9 => h9) rfl dX9_advance_13 ?_
  refine lv_aload_n hx hb dX9_advance_16 rfl (lv_at hl 0 rfl) ?_
  refine va_get (D := (dC, dI)) (ci := 9) (v := .int 0) (C := RX9) (T := TX9) (N := 9) hx hb hts iwsPX9_advance_in9 hown hK hP 0 rfl rfl 1 (by decide) (hts (.fieldLink RX9 19 "OptimaWorks$Words" "length" "I") (by decide +kernel)) (fun _ h9 => h9) rfl dX9_advance_17 ?_
  refine lv_icmp_ge (tgt := 39) hx hb dX9_advance_20 (by decide) (fun _ => ?_) (fun c9 => absurd (by decide) c9)
  refine lv_iconst (v := (-1)) hx hb dX9_advance_39 (by decide) ?_
  refine lv_istore_n (lv' := [(1, .int (-1)), (0, .ref w0)]) hx hb dX9_advance_40 rfl hl (by decide) rfl (fun ls hl => ?_)
  refine lv_iload_n hx hb dX9_advance_41 rfl (lv_at hl 0 rfl) ?_
  refine lv_iconst (v := (-1)) hx hb dX9_advance_42 (by decide) ?_
  refine lv_icmp_ne (tgt := 54) hx hb dX9_advance_43 (by decide) (fun c9 => absurd c9 (by decide)) (fun _ => ?_)
  refine lv_aload_n hx hb dX9_advance_46 rfl (lv_at hl 1 rfl) ?_
  refine lv_iconst (v := 0) hx hb dX9_advance_47 (by decide) ?_
  refine va_put (D := (dC, dI)) (ci := 9) (v := .int 0) (ty := .int) (C := RX9) (T := TX9) (N := 9) hx hb hts iwsPX9_advance_in9 tyX9 tyX9_ok nmX9 hown hK hP hD hS 0 rfl rfl 4 (by decide) (hts (.fieldLink RX9 37 "OptimaWorks$Words" "kind" "I") (by decide +kernel)) (fun _ h9 => h9) rfl (by decide +kernel) rfl rfl (Nat.le_of_ble_eq_true rfl) dX9_advance_48 (fun H locs hP hD hS => ?_)
  have hP : va_P (dC, dI) vwCl [(w0, .inr (9, [.ref tp, .int 0, fl, pl, .int 0, .int 0, nu, na, .int 0]))] H := hP
  have hD : va_D A [(w0, .inr (9, [.ref tp, .int 0, fl, pl, .int 0, .int 0, nu, na, .int 0]))] := hD
  refine lv_goto (tgt := 157) hx hb dX9_advance_51 (by decide) ?_
  refine W.widen (k := 0) (n := 0) (by decide +kernel) (by decide +kernel) ?_
  exact W.vret hx hb hr (fun t ht hW => ⟨⟨(), rfl, trivial, by rw [ht]; exact hP.sub [0] rfl, va_K.moved hW.alike (hK.sub [] rfl), hD.sub [0] (by decide) rfl⟩, hS.F ht⟩) hS.2.2 dX9_advance_157
theorem dX9_begin_0 : decode cX9_begin 0 = .ok (.aload_n 0, 1) := by decide +kernel
theorem dX9_begin_1 : decode cX9_begin 1 = .ok (.iconst 0, 1) := by decide +kernel
theorem dX9_begin_2 : decode cX9_begin 2 = .ok (.putfield 28, 3) := by decide +kernel
theorem dX9_begin_5 : decode cX9_begin 5 = .ok (.aload_n 0, 1) := by decide +kernel
theorem dX9_begin_6 : decode cX9_begin 6 = .ok (.iconst (-1), 1) := by decide +kernel
theorem dX9_begin_7 : decode cX9_begin 7 = .ok (.putfield 15, 3) := by decide +kernel
theorem dX9_begin_10 : decode cX9_begin 10 = .ok (.aload_n 0, 1) := by decide +kernel
theorem dX9_begin_11 : decode cX9_begin 11 = .ok (.iconst 0, 1) := by decide +kernel
theorem dX9_begin_12 : decode cX9_begin 12 = .ok (.putfield 40, 3) := by decide +kernel
theorem dX9_begin_15 : decode cX9_begin 15 = .ok (.aload_n 0, 1) := by decide +kernel
theorem dX9_begin_16 : decode cX9_begin 16 = .ok (.invokevirtual 43, 3) := by decide +kernel
theorem dX9_begin_19 : decode cX9_begin 19 = .ok (.return_, 1) := by decide +kernel
def wsPX9_begin : List Cond := .code yX9_begin cX9_begin 1 none :: ([.fieldLink RX9 28 "OptimaWorks$Words" "fault" "I", .fieldLink RX9 15 "OptimaWorks$Words" "place" "I", .fieldLink RX9 40 "OptimaWorks$Words" "next" "I"] ++ wsX90 ++ (wsV RX9 43 RX9 yX9_advance wsPX9_advance))
theorem iwsPX9_begin_in9 : ∀ w ∈ wsX90, w ∈ wsPX9_begin := fun _ h => List.mem_cons_of_mem _ (List.mem_append_left _ (List.mem_append_right _ h))
theorem gwsPX9_begin_0 : GoodIn wsPX9_begin (wsV RX9 43 RX9 yX9_advance wsPX9_advance) := goodIn_sub (fun _ h => List.mem_cons_of_mem _ (List.mem_append_right _ h)) (by decide +kernel)
set_option maxHeartbeats 4000000 in
set_option maxRecDepth 100000 in
/-- begin() on an empty tape -/
theorem p_X9_begin (l : Launch) (dC : Nat → ClassId) (dI : Nat → Nat → Nat) (w0 : Nat) (tp : Nat) (fl : Value) (pl : Value) (kn : Value) (wt : Value) (nu : Value) (na : Value) (nx : Value) (sz : Nat) : Met l yX9_begin wsPX9_begin ({ frames := 2, cells := 0, slots := 0, locals := 43 }) (va_Pc [.ref w0] (fun U => U.heap.size = sz ∧ va_P (dC, dI) vwCl [(w0, .inr (9, [.ref tp, .int 0, fl, pl, kn, wt, nu, na, nx]))] U.heap ∧ va_K (dC, dI) vwCl [] U ∧ va_D (fun _ => True) [(w0, .inr (9, [.ref tp, .int 0, fl, pl, kn, wt, nu, na, nx]))])) (va_Qv (fun (u : Unit) => True) (fun (u : Unit) t => va_P (dC, dI) vwCl [(w0, .inr (9, [.ref tp, .int 0, .int 0, .int (-1), .int 0, .int 0, nu, na, .int 0]))] t.heap ∧ va_K (dC, dI) vwCl [] t ∧ va_D (va_A [(w0, .inr (9, [.ref tp, .int 0, fl, pl, kn, wt, nu, na, nx]))] sz) [(w0, .inr (9, [.ref tp, .int 0, .int 0, .int (-1), .int 0, .int 0, nu, na, .int 0]))]) (va_A [(w0, .inr (9, [.ref tp, .int 0, fl, pl, kn, wt, nu, na, nx]))] sz)) 0 0 (va_A [(w0, .inr (9, [.ref tp, .int 0, fl, pl, kn, wt, nu, na, nx]))] sz) := by
  refine Met.ofW (cc := cX9_begin) (maxL := 1) (ret := none) (by decide) rfl ?_
  intro p e s m args below meth c s₁ B hml hv
  obtain ⟨rfl, hsz, hP, hK, hD0⟩ := hv
  have hx := B.exec
  have hb := B.bytes
  have hr := B.returns
  have hts := atoms_spec (ws := wsPX9_begin) B.pre
  have hown : s.vm.findClass RX9 = some m.cls := findClass_of_methodNamed B.named
  have hlocks := B.notSynchronized
  subst hsz
  have hD := hD0.self (sz := s.heap.size)
  generalize hAe : va_A [(w0, .inr (9, [.ref tp, .int 0, fl, pl, kn, wt, nu, na, nx]))] s.heap.size = A at hD ⊢
  have hA : ∀ q : Nat, s.heap.size ≤ q → A q := fun q h => by rw [← hAe]; exact Or.inr h
  have hS : va_S A s.heap s.heap [] := va_S.rf
  have hP : va_P (dC, dI) vwCl [(w0, .inr (9, [.ref tp, .int 0, fl, pl, kn, wt, nu, na, nx]))] s.heap := hP
  have hl := lv_entry ([.ref w0]) (n := 1) (Nat.le_of_ble_eq_true rfl)
  rw [lg_entry_eq]
  generalize (lg_sl ([.ref w0]) ++ List.replicate (1 - (lg_sl ([.ref w0])).length) Slot.unset).toArray = ls at hl ⊢
  have hl : lv_has ls 1 [(0, .ref w0)] := hl
  refine lv_aload_n hx hb dX9_begin_0 rfl (lv_at hl 0 rfl) ?_
  refine lv_iconst (v := 0) hx hb dX9_begin_1 (by decide) ?_
  refine va_put (D := (dC, dI)) (ci := 9) (v := .int 0) (ty := .int) (C := RX9) (T := TX9) (N := 9) hx hb hts iwsPX9_begin_in9 tyX9 tyX9_ok nmX9 hown hK hP hD hS 0 rfl rfl 2 (by decide) (hts (.fieldLink RX9 28 "OptimaWorks$Words" "fault" "I") (by decide +kernel)) (fun _ h9 => h9) rfl (by decide +kernel) rfl rfl (Nat.le_of_ble_eq_true rfl) dX9_begin_2 (fun H locs hP hD hS => ?_)
  have hP : va_P (dC, dI) vwCl [(w0, .inr (9, [.ref tp, .int 0, .int 0, pl, kn, wt, nu, na, nx]))] H := hP
  have hD : va_D A [(w0, .inr (9, [.ref tp, .int 0, .int 0, pl, kn, wt, nu, na, nx]))] := hD
  refine lv_aload_n hx hb dX9_begin_5 rfl (lv_at hl 0 rfl) ?_
  refine lv_iconst (v := (-1)) hx hb dX9_begin_6 (by decide) ?_
  refine va_put (D := (dC, dI)) (ci := 9) (v := .int (-1)) (ty := .int) (C := RX9) (T := TX9) (N := 9) hx hb hts iwsPX9_begin_in9 tyX9 tyX9_ok nmX9 hown hK hP hD hS 0 rfl rfl 3 (by decide) (hts (.fieldLink RX9 15 "OptimaWorks$Words" "place" "I") (by decide +kernel)) (fun _ h9 => h9) rfl (by decide +kernel) rfl rfl (Nat.le_of_ble_eq_true rfl) dX9_begin_7 (fun H locs hP hD hS => ?_)
  have hP : va_P (dC, dI) vwCl [(w0, .inr (9, [.ref tp, .int 0, .int 0, .int (-1), kn, wt, nu, na, nx]))] H := hP
  have hD : va_D A [(w0, .inr (9, [.ref tp, .int 0, .int 0, .int (-1), kn, wt, nu, na, nx]))] := hD
  refine lv_aload_n hx hb dX9_begin_10 rfl (lv_at hl 0 rfl) ?_
  refine lv_iconst (v := 0) hx hb dX9_begin_11 (by decide) ?_
  refine va_put (D := (dC, dI)) (ci := 9) (v := .int 0) (ty := .int) (C := RX9) (T := TX9) (N := 9) hx hb hts iwsPX9_begin_in9 tyX9 tyX9_ok nmX9 hown hK hP hD hS 0 rfl rfl 8 (by decide) (hts (.fieldLink RX9 40 "OptimaWorks$Words" "next" "I") (by decide +kernel)) (fun _ h9 => h9) rfl (by decide +kernel) rfl rfl (Nat.le_of_ble_eq_true rfl) dX9_begin_12 (fun H locs hP hD hS => ?_)
  have hP : va_P (dC, dI) vwCl [(w0, .inr (9, [.ref tp, .int 0, .int 0, .int (-1), kn, wt, nu, na, .int 0]))] H := hP
  have hD : va_D A [(w0, .inr (9, [.ref tp, .int 0, .int 0, .int (-1), kn, wt, nu, na, .int 0]))] := hD
  refine lv_aload_n hx hb dX9_begin_15 rfl (lv_at hl 0 rfl) ?_
  have hPc := hP.sub (ws' := [(w0, .inr (9, [.ref tp, .int 0, .int 0, .int (-1), kn, wt, nu, na, .int 0]))]) [0] rfl
  have hDc := hD.sub (ws' := [(w0, .inr (9, [.ref tp, .int 0, .int 0, .int (-1), kn, wt, nu, na, .int 0]))]) [0] (by decide) rfl
  have hKc := hK.sub (tys' := []) [] rfl
  have hFc := va_free (wc := [(w0, .inr (9, [.ref tp, .int 0, .int 0, .int (-1), kn, wt, nu, na, .int 0]))]) hD hS hA [0] rfl
  refine va_callv (va_runV (As := []) (rest := []) ⟨hx, hb, hml, hown, hts⟩ (p_X9_advance l dC dI w0 tp (.int 0) (.int (-1)) kn wt nu na H.size) (cwV 0 hts gwsPX9_begin_0 rfl rfl rfl (by decide +kernel) ⟨by decide +kernel, by decide +kernel⟩) ⟨fun a U g mk q => by obtain ⟨q0, q1, qP, qK, qD⟩ := q; exact ⟨q0, q1, qP, va_K.moved (u := U) (U := U.calling g mk a) (Vm.Alike.refl U.vm) qK, qD⟩, va_recv hKc hPc (ci := 9) (q0 := 0) rfl rfl, fun U hU9 hW => ⟨rfl, by rw [hU9], by rw [hU9]; exact hPc, va_K.moved hW.alike hKc, hDc.weaken (fun _ _ _ _ => trivial)⟩⟩ rfl rfl hl.1 rfl (lv_room (Nat.le_of_ble_eq_true rfl)) dX9_begin_16 ⟨by decide +kernel, by decide +kernel⟩) hS (fun q _ h => hFc q h) hFc (fun u t H1 locs ht hvm hw hB hz1 hk1 hS => ?_)
  obtain ⟨hP1, hK1, hD1⟩ := hB
  rw [ht] at hP1
  have hK1 := va_K.moved hvm.symm hK1
  obtain ⟨hP, hD⟩ := va_join (wr := []) (w1 := [(w0, .inr (9, [.ref tp, .int 0, .int 0, .int (-1), .int 0, .int 0, nu, na, .int 0]))]) hP hD [0] [] rfl rfl (by decide) (by decide) hk1 hFc hP1 hD1
  generalize H1 = H at hP hS ⊢
  have hP : va_P (dC, dI) vwCl [(w0, .inr (9, [.ref tp, .int 0, .int 0, .int (-1), .int 0, .int 0, nu, na, .int 0]))] H := hP
  have hD : va_D A [(w0, .inr (9, [.ref tp, .int 0, .int 0, .int (-1), .int 0, .int 0, nu, na, .int 0]))] := hD
  refine W.widen (k := 0) (n := 0) (by decide +kernel) (by decide +kernel) ?_
  exact W.vret hx hb hr (fun t ht hW => ⟨⟨(), rfl, trivial, by rw [ht]; exact hP.sub [0] rfl, va_K.moved hW.alike (hK.sub [] rfl), hD.sub [0] (by decide) rfl⟩, hS.F ht⟩) hS.2.2 dX9_begin_19
theorem dX4_makeRoom_0 : decode cX4_makeRoom 0 = .ok (.bipush 7, 2) := by decide +kernel
theorem dX4_makeRoom_2 : decode cX4_makeRoom 2 = .ok (.iconst 2, 1) := by decide +kernel
theorem dX4_makeRoom_3 : decode cX4_makeRoom 3 = .ok (.aload_n 0, 1) := by decide +kernel
theorem dX4_makeRoom_4 : decode cX4_makeRoom 4 = .ok (.getfield 19, 3) := by decide +kernel
theorem dX4_makeRoom_7 : decode cX4_makeRoom 7 = .ok (.getfield 39, 3) := by decide +kernel
theorem dX4_makeRoom_10 : decode cX4_makeRoom 10 = .ok (.imul, 1) := by decide +kernel
theorem dX4_makeRoom_11 : decode cX4_makeRoom 11 = .ok (.bipush 16, 2) := by decide +kernel
theorem dX4_makeRoom_13 : decode cX4_makeRoom 13 = .ok (.iadd, 1) := by decide +kernel
theorem dX4_makeRoom_14 : decode cX4_makeRoom 14 = .ok (.imul, 1) := by decide +kernel
theorem dX4_makeRoom_15 : decode cX4_makeRoom 15 = .ok (.istore_n 1, 1) := by decide +kernel
theorem dX4_makeRoom_16 : decode cX4_makeRoom 16 = .ok (.aload_n 0, 1) := by decide +kernel
theorem dX4_makeRoom_17 : decode cX4_makeRoom 17 = .ok (.getfield 11, 3) := by decide +kernel
theorem dX4_makeRoom_20 : decode cX4_makeRoom 20 = .ok (.arraylength, 1) := by decide +kernel
theorem dX4_makeRoom_21 : decode cX4_makeRoom 21 = .ok (.iload_n 1, 1) := by decide +kernel
theorem dX4_makeRoom_22 : decode cX4_makeRoom 22 = .ok (.if_icmp .ge 20, 3) := by decide +kernel
theorem dX4_makeRoom_25 : decode cX4_makeRoom 25 = .ok (.aload_n 0, 1) := by decide +kernel
theorem dX4_makeRoom_26 : decode cX4_makeRoom 26 = .ok (.iload_n 1, 1) := by decide +kernel
theorem dX4_makeRoom_27 : decode cX4_makeRoom 27 = .ok (.iconst 2, 1) := by decide +kernel
theorem dX4_makeRoom_28 : decode cX4_makeRoom 28 = .ok (.aload_n 0, 1) := by decide +kernel
theorem dX4_makeRoom_29 : decode cX4_makeRoom 29 = .ok (.getfield 11, 3) := by decide +kernel
theorem dX4_makeRoom_32 : decode cX4_makeRoom 32 = .ok (.arraylength, 1) := by decide +kernel
theorem dX4_makeRoom_33 : decode cX4_makeRoom 33 = .ok (.imul, 1) := by decide +kernel
theorem dX4_makeRoom_34 : decode cX4_makeRoom 34 = .ok (.invokestatic 97, 3) := by decide +kernel
theorem dX4_makeRoom_37 : decode cX4_makeRoom 37 = .ok (.newarray .int, 2) := by decide +kernel
theorem dX4_makeRoom_39 : decode cX4_makeRoom 39 = .ok (.putfield 11, 3) := by decide +kernel
theorem dX4_makeRoom_42 : decode cX4_makeRoom 42 = .ok (.return_, 1) := by decide +kernel
def wsPX4_makeRoom : List Cond := .code yX4_makeRoom cX4_makeRoom 2 none :: ([.fieldLink RX4 19 "OptimaWorks$Reader" "words" "LOptimaWorks$Words;", .fieldLink RX4 39 "OptimaWorks$Words" "length" "I", .fieldLink RX4 11 "OptimaWorks$Reader" "tree" "[I", .methodLink RX4 97 Lib.Math.max.name, .static Lib.Math.max.name, .initialized "java/lang/Math", .code Lib.Math.max.name Lib.Math.max.code 2 (some .int), .arrayClass .int] ++ wsX40 ++ wsX90)
theorem iwsPX4_makeRoom_in4 : ∀ w ∈ wsX40, w ∈ wsPX4_makeRoom := fun _ h => List.mem_cons_of_mem _ (List.mem_append_left _ (List.mem_append_right _ h))
theorem iwsPX4_makeRoom_in9 : ∀ w ∈ wsX90, w ∈ wsPX4_makeRoom := fun _ h => List.mem_cons_of_mem _ (List.mem_append_right _ h)
set_option maxHeartbeats 4000000 in
set_option maxRecDepth 100000 in
/-- makeRoom() for an empty tape -/
theorem p_X4_makeRoom (l : Launch) (dC : Nat → ClassId) (dI : Nat → Nat → Nat) (h0 : Nat) (wa : Nat) (ma : Nat) (wk : Nat) (tr : Nat) (bi : Nat) (kt : ClassId) (tp : Nat) (fl : Value) (pl : Value) (kn : Value) (wt : Value) (nu : Value) (na : Value) (nx : Value) (sz : Nat) : Met l yX4_makeRoom wsPX4_makeRoom ({ frames := 1, cells := 1, slots := 112, locals := 14 }) (va_Pc [.ref h0] (fun U => U.heap.size = sz ∧ va_P (dC, dI) vwCl [(h0, .inr (4, [.ref wa, .ref ma, .ref wk, .ref tr, .int 0, .int 0, .long 0, .ref bi, .int 0, .int 0, .int 0])), (wa, .inr (9, [.ref tp, .int 0, fl, pl, kn, wt, nu, na, nx])), (tr, .inl (kt, 7, .inl (fun _ => 0)))] U.heap ∧ va_K (dC, dI) vwCl [(kt, .int)] U ∧ va_D (fun _ => True) [(h0, .inr (4, [.ref wa, .ref ma, .ref wk, .ref tr, .int 0, .int 0, .long 0, .ref bi, .int 0, .int 0, .int 0])), (wa, .inr (9, [.ref tp, .int 0, fl, pl, kn, wt, nu, na, nx])), (tr, .inl (kt, 7, .inl (fun _ => 0)))])) (va_Qv (fun (u : Nat) => True) (fun (u : Nat) t => va_P (dC, dI) vwCl [(h0, .inr (4, [.ref wa, .ref ma, .ref wk, .ref u, .int 0, .int 0, .long 0, .ref bi, .int 0, .int 0, .int 0])), (wa, .inr (9, [.ref tp, .int 0, fl, pl, kn, wt, nu, na, nx]))] t.heap ∧ va_K (dC, dI) vwCl [] t ∧ va_D (va_A [(h0, .inr (4, [.ref wa, .ref ma, .ref wk, .ref tr, .int 0, .int 0, .long 0, .ref bi, .int 0, .int 0, .int 0])), (wa, .inr (9, [.ref tp, .int 0, fl, pl, kn, wt, nu, na, nx])), (tr, .inl (kt, 7, .inl (fun _ => 0)))] sz) [(h0, .inr (4, [.ref wa, .ref ma, .ref wk, .ref u, .int 0, .int 0, .long 0, .ref bi, .int 0, .int 0, .int 0])), (wa, .inr (9, [.ref tp, .int 0, fl, pl, kn, wt, nu, na, nx]))]) (va_A [(h0, .inr (4, [.ref wa, .ref ma, .ref wk, .ref tr, .int 0, .int 0, .long 0, .ref bi, .int 0, .int 0, .int 0])), (wa, .inr (9, [.ref tp, .int 0, fl, pl, kn, wt, nu, na, nx])), (tr, .inl (kt, 7, .inl (fun _ => 0)))] sz)) 1 112 (va_A [(h0, .inr (4, [.ref wa, .ref ma, .ref wk, .ref tr, .int 0, .int 0, .long 0, .ref bi, .int 0, .int 0, .int 0])), (wa, .inr (9, [.ref tp, .int 0, fl, pl, kn, wt, nu, na, nx])), (tr, .inl (kt, 7, .inl (fun _ => 0)))] sz) := by
  refine Met.ofW (cc := cX4_makeRoom) (maxL := 2) (ret := none) (by decide) rfl ?_
  intro p e s m args below meth c s₁ B hml hv
  obtain ⟨rfl, hsz, hP, hK, hD0⟩ := hv
  have hx := B.exec
  have hb := B.bytes
  have hr := B.returns
  have hts := atoms_spec (ws := wsPX4_makeRoom) B.pre
  have hown : s.vm.findClass RX4 = some m.cls := findClass_of_methodNamed B.named
  have hlocks := B.notSynchronized
  subst hsz
  have hD := hD0.self (sz := s.heap.size)
  generalize hAe : va_A [(h0, .inr (4, [.ref wa, .ref ma, .ref wk, .ref tr, .int 0, .int 0, .long 0, .ref bi, .int 0, .int 0, .int 0])), (wa, .inr (9, [.ref tp, .int 0, fl, pl, kn, wt, nu, na, nx])), (tr, .inl (kt, 7, .inl (fun _ => 0)))] s.heap.size = A at hD ⊢
  have hA : ∀ q : Nat, s.heap.size ≤ q → A q := fun q h => by rw [← hAe]; exact Or.inr h
  have hS : va_S A s.heap s.heap [] := va_S.rf
  have hP : va_P (dC, dI) vwCl [(h0, .inr (4, [.ref wa, .ref ma, .ref wk, .ref tr, .int 0, .int 0, .long 0, .ref bi, .int 0, .int 0, .int 0])), (wa, .inr (9, [.ref tp, .int 0, fl, pl, kn, wt, nu, na, nx])), (tr, .inl (kt, 7, .inl (fun _ => 0)))] s.heap := hP
  have hl := lv_entry ([.ref h0]) (n := 2) (Nat.le_of_ble_eq_true rfl)
  rw [lg_entry_eq]
  generalize (lg_sl ([.ref h0]) ++ List.replicate (2 - (lg_sl ([.ref h0])).length) Slot.unset).toArray = ls at hl ⊢
  have hl : lv_has ls 2 [(0, .ref h0)] := hl
  refine lv_bipush (v := 7) hx hb dX4_makeRoom_0 (by decide) ?_
  refine lv_iconst (v := 2) hx hb dX4_makeRoom_2 (by decide) ?_
  refine lv_aload_n hx hb dX4_makeRoom_3 rfl (lv_at hl 0 rfl) ?_
  refine va_get (D := (dC, dI)) (ci := 4) (v := .ref wa) (C := RX4) (T := TX4) (N := 11) hx hb hts iwsPX4_makeRoom_in4 hown hK hP 0 rfl rfl 0 (by decide) (hts (.fieldLink RX4 19 "OptimaWorks$Reader" "words" "LOptimaWorks$Words;") (by decide +kernel)) (fun _ h9 => h9) rfl dX4_makeRoom_4 ?_
  refine va_get (D := (dC, dI)) (ci := 9) (v := .int 0) (C := RX9) (T := TX9) (N := 9) hx hb hts iwsPX4_makeRoom_in9 hown hK hP 1 rfl rfl 1 (by decide) (hts (.fieldLink RX4 39 "OptimaWorks$Words" "length" "I") (by decide +kernel)) (fun _ h9 => h9) rfl dX4_makeRoom_7 ?_
  refine lv_imul hx hb dX4_makeRoom_10 ?_
  refine lv_topi (fun y1 hy1 => ?_)
  obtain rfl : 0 = y1 := (hy1.trans (by decide)).symm
  refine lv_bipush (v := 16) hx hb dX4_makeRoom_11 (by decide) ?_
  refine lv_iadd hx hb dX4_makeRoom_13 ?_
  refine lv_topi (fun y2 hy2 => ?_)
  obtain rfl : 16 = y2 := (hy2.trans (by decide)).symm
  refine lv_imul hx hb dX4_makeRoom_14 ?_
  refine lv_topi (fun y3 hy3 => ?_)
  obtain rfl : 112 = y3 := (hy3.trans (by decide)).symm
  refine lv_istore_n (lv' := [(1, .int 112), (0, .ref h0)]) hx hb dX4_makeRoom_15 rfl hl (by decide) rfl (fun ls hl => ?_)
  refine lv_aload_n hx hb dX4_makeRoom_16 rfl (lv_at hl 1 rfl) ?_
  refine va_get (D := (dC, dI)) (ci := 4) (v := .ref tr) (C := RX4) (T := TX4) (N := 11) hx hb hts iwsPX4_makeRoom_in4 hown hK hP 0 rfl rfl 3 (by decide) (hts (.fieldLink RX4 11 "OptimaWorks$Reader" "tree" "[I") (by decide +kernel)) (fun _ h9 => h9) rfl dX4_makeRoom_17 ?_
  refine va_alen hx hb hK hP 2 0 rfl rfl (v := 7) rfl dX4_makeRoom_20 ?_
  refine lv_iload_n hx hb dX4_makeRoom_21 rfl (lv_at hl 0 rfl) ?_
  refine lv_icmp_ge (tgt := 42) hx hb dX4_makeRoom_22 (by decide) (fun c9 => absurd c9 (by decide)) (fun _ => ?_)
  refine lv_aload_n hx hb dX4_makeRoom_25 rfl (lv_at hl 1 rfl) ?_
  refine lv_iload_n hx hb dX4_makeRoom_26 rfl (lv_at hl 0 rfl) ?_
  refine lv_iconst (v := 2) hx hb dX4_makeRoom_27 (by decide) ?_
  refine lv_aload_n hx hb dX4_makeRoom_28 rfl (lv_at hl 1 rfl) ?_
  refine va_get (D := (dC, dI)) (ci := 4) (v := .ref tr) (C := RX4) (T := TX4) (N := 11) hx hb hts iwsPX4_makeRoom_in4 hown hK hP 0 rfl rfl 3 (by decide) (hts (.fieldLink RX4 11 "OptimaWorks$Reader" "tree" "[I") (by decide +kernel)) (fun _ h9 => h9) rfl dX4_makeRoom_29 ?_
  refine va_alen hx hb hK hP 2 0 rfl rfl (v := 7) rfl dX4_makeRoom_32 ?_
  refine lv_imul hx hb dX4_makeRoom_33 ?_
  refine lv_topi (fun y4 hy4 => ?_)
  obtain rfl : 14 = y4 := (hy4.trans (by decide)).symm
  refine va_mmax hx hb (by rw [hml]; exact hl.1.symm) hown (hts (.methodLink RX4 97 Lib.Math.max.name) (by decide +kernel)) (hts (.static Lib.Math.max.name) (by decide +kernel)) (hts (.initialized "java/lang/Math") (by decide +kernel)) (hts (.code Lib.Math.max.name Lib.Math.max.code 2 (some .int)) (by decide +kernel)) (by decide +kernel) (Nat.le_of_ble_eq_true rfl) (by decide +kernel) (by decide +kernel) dX4_makeRoom_34 ?_
  refine lv_topi (fun y5 hy5 => ?_)
  obtain rfl : 112 = y5 := (hy5.trans (by decide)).symm
  refine va_newa (atype := .int) (ty := .int) (N' := 112) (a0 := (112, .inl (fun _ => 0))) hx hb (hts (.arrayClass .int) (by decide +kernel)) rfl hK hP hD hS hA (fun _ => rfl) (by decide) (by decide) (by decide +kernel) (by decide +kernel) (by decide +kernel) dX4_makeRoom_37 (fun q37 k37 H hK hP hD hS => ?_)
  have hP : va_P (dC, dI) vwCl [(h0, .inr (4, [.ref wa, .ref ma, .ref wk, .ref tr, .int 0, .int 0, .long 0, .ref bi, .int 0, .int 0, .int 0])), (wa, .inr (9, [.ref tp, .int 0, fl, pl, kn, wt, nu, na, nx])), (tr, .inl (kt, 7, .inl (fun _ => 0))), (q37, .inl (k37, 112, .inl (fun _ => 0)))] H := hP
  have hD : va_D A [(h0, .inr (4, [.ref wa, .ref ma, .ref wk, .ref tr, .int 0, .int 0, .long 0, .ref bi, .int 0, .int 0, .int 0])), (wa, .inr (9, [.ref tp, .int 0, fl, pl, kn, wt, nu, na, nx])), (tr, .inl (kt, 7, .inl (fun _ => 0))), (q37, .inl (k37, 112, .inl (fun _ => 0)))] := hD
  have hK : va_K (dC, dI) vwCl [(kt, .int), (k37, .int)] s := hK
  refine W.widen (k := 1) (n := 112) (by decide +kernel) (by decide +kernel) ?_
  refine va_put (D := (dC, dI)) (ci := 4) (v := .ref q37) (ty := .array .int) (C := RX4) (T := TX4) (N := 11) hx hb hts iwsPX4_makeRoom_in4 tyX4 tyX4_ok nmX4 hown hK hP hD hS 0 rfl rfl 3 (by decide) (hts (.fieldLink RX4 11 "OptimaWorks$Reader" "tree" "[I") (by decide +kernel)) (fun _ h9 => h9) rfl (by decide +kernel) rfl rfl (Nat.le_of_ble_eq_true rfl) dX4_makeRoom_39 (fun H locs hP hD hS => ?_)
  have hP : va_P (dC, dI) vwCl [(h0, .inr (4, [.ref wa, .ref ma, .ref wk, .ref q37, .int 0, .int 0, .long 0, .ref bi, .int 0, .int 0, .int 0])), (wa, .inr (9, [.ref tp, .int 0, fl, pl, kn, wt, nu, na, nx])), (tr, .inl (kt, 7, .inl (fun _ => 0))), (q37, .inl (k37, 112, .inl (fun _ => 0)))] H := hP
  have hD : va_D A [(h0, .inr (4, [.ref wa, .ref ma, .ref wk, .ref q37, .int 0, .int 0, .long 0, .ref bi, .int 0, .int 0, .int 0])), (wa, .inr (9, [.ref tp, .int 0, fl, pl, kn, wt, nu, na, nx])), (tr, .inl (kt, 7, .inl (fun _ => 0))), (q37, .inl (k37, 112, .inl (fun _ => 0)))] := hD
  refine W.widen (k := 1) (n := 112) (by decide +kernel) (by decide +kernel) ?_
  exact W.vret hx hb hr (fun t ht hW => ⟨⟨q37, rfl, trivial, by rw [ht]; exact hP.sub [0, 1] rfl, va_K.moved hW.alike (hK.sub [] rfl), hD.sub [0, 1] (by decide) rfl⟩, hS.F ht⟩) hS.2.2 dX4_makeRoom_42
theorem dX10_begin_0 : decode cX10_begin 0 = .ok (.aload_n 0, 1) := by decide +kernel
theorem dX10_begin_1 : decode cX10_begin 1 = .ok (.aload_n 1, 1) := by decide +kernel
theorem dX10_begin_2 : decode cX10_begin 2 = .ok (.putfield 55, 3) := by decide +kernel
theorem dX10_begin_5 : decode cX10_begin 5 = .ok (.aload_n 0, 1) := by decide +kernel
theorem dX10_begin_6 : decode cX10_begin 6 = .ok (.iconst 0, 1) := by decide +kernel
theorem dX10_begin_7 : decode cX10_begin 7 = .ok (.putfield 58, 3) := by decide +kernel
theorem dX10_begin_10 : decode cX10_begin 10 = .ok (.aload_n 0, 1) := by decide +kernel
theorem dX10_begin_11 : decode cX10_begin 11 = .ok (.iconst 0, 1) := by decide +kernel
theorem dX10_begin_12 : decode cX10_begin 12 = .ok (.putfield 62, 3) := by decide +kernel
theorem dX10_begin_15 : decode cX10_begin 15 = .ok (.aload_n 0, 1) := by decide +kernel
theorem dX10_begin_16 : decode cX10_begin 16 = .ok (.getfield 30, 3) := by decide +kernel
theorem dX10_begin_19 : decode cX10_begin 19 = .ok (.arraylength, 1) := by decide +kernel
theorem dX10_begin_20 : decode cX10_begin 20 = .ok (.iload_n 2, 1) := by decide +kernel
theorem dX10_begin_21 : decode cX10_begin 21 = .ok (.if_icmp .ge 29, 3) := by decide +kernel
theorem dX10_begin_50 : decode cX10_begin 50 = .ok (.return_, 1) := by decide +kernel
def wsPX10_begin : List Cond := .code yX10_begin cX10_begin 4 none :: ([.fieldLink RX10 55 "OptimaWorks$Worker" "tree" "[I", .fieldLink RX10 58 "OptimaWorks$Worker" "names" "I", .fieldLink RX10 62 "OptimaWorks$Worker" "params" "I", .fieldLink RX10 30 "OptimaWorks$Worker" "paramOver" "[I"] ++ wsX100)
theorem iwsPX10_begin_in10 : ∀ w ∈ wsX100, w ∈ wsPX10_begin := fun _ h => List.mem_cons_of_mem _ (List.mem_append_right _ h)
set_option maxHeartbeats 4000000 in
set_option maxRecDepth 100000 in
/-- begin(tree, 0) -/
theorem p_X10_begin (l : Launch) (dC : Nat → ClassId) (dI : Nat → Nat → Nat) (h0 : Nat) (wa : Nat) (ma : Nat) (y0 : Nat) (y1 : Nat) (y2 : Nat) (y3 : Nat) (y4 : Nat) (y5 : Nat) (y6 : Nat) (y7 : Nat) (y8 : Nat) (y9 : Nat) (kp : ClassId) (tr : Nat) (sz : Nat) : Met l yX10_begin wsPX10_begin ({ frames := 0, cells := 0, slots := 0, locals := 0 }) (va_Pc [.ref h0, .ref tr, .int 0] (fun U => U.heap.size = sz ∧ va_P (dC, dI) vwCl [(h0, .inr (10, [.ref wa, .ref ma, .null, .int 0, .ref y0, .ref y1, .ref y2, .ref y3, .ref y4, .int 0, .ref y5, .ref y6, .ref y7, .ref y8, .ref y9, .int 0, .int 0, .int 0, .long 0, .long 0])), (y5, .inl (kp, 0, .inl (fun _ => 0)))] U.heap ∧ va_K (dC, dI) vwCl [(kp, .int)] U ∧ va_D (fun _ => True) [(h0, .inr (10, [.ref wa, .ref ma, .null, .int 0, .ref y0, .ref y1, .ref y2, .ref y3, .ref y4, .int 0, .ref y5, .ref y6, .ref y7, .ref y8, .ref y9, .int 0, .int 0, .int 0, .long 0, .long 0])), (y5, .inl (kp, 0, .inl (fun _ => 0)))])) (va_Qv (fun (u : Unit) => True) (fun (u : Unit) t => va_P (dC, dI) vwCl [] t.heap ∧ va_K (dC, dI) vwCl [] t ∧ va_D (va_A [(h0, .inr (10, [.ref wa, .ref ma, .null, .int 0, .ref y0, .ref y1, .ref y2, .ref y3, .ref y4, .int 0, .ref y5, .ref y6, .ref y7, .ref y8, .ref y9, .int 0, .int 0, .int 0, .long 0, .long 0])), (y5, .inl (kp, 0, .inl (fun _ => 0)))] sz) []) (va_A [(h0, .inr (10, [.ref wa, .ref ma, .null, .int 0, .ref y0, .ref y1, .ref y2, .ref y3, .ref y4, .int 0, .ref y5, .ref y6, .ref y7, .ref y8, .ref y9, .int 0, .int 0, .int 0, .long 0, .long 0])), (y5, .inl (kp, 0, .inl (fun _ => 0)))] sz)) 0 0 (va_A [(h0, .inr (10, [.ref wa, .ref ma, .null, .int 0, .ref y0, .ref y1, .ref y2, .ref y3, .ref y4, .int 0, .ref y5, .ref y6, .ref y7, .ref y8, .ref y9, .int 0, .int 0, .int 0, .long 0, .long 0])), (y5, .inl (kp, 0, .inl (fun _ => 0)))] sz) := by
  refine Met.ofW (cc := cX10_begin) (maxL := 4) (ret := none) (by decide) rfl ?_
  intro p e s m args below meth c s₁ B hml hv
  obtain ⟨rfl, hsz, hP, hK, hD0⟩ := hv
  have hx := B.exec
  have hb := B.bytes
  have hr := B.returns
  have hts := atoms_spec (ws := wsPX10_begin) B.pre
  have hown : s.vm.findClass RX10 = some m.cls := findClass_of_methodNamed B.named
  have hlocks := B.notSynchronized
  subst hsz
  have hD := hD0.self (sz := s.heap.size)
  generalize hAe : va_A [(h0, .inr (10, [.ref wa, .ref ma, .null, .int 0, .ref y0, .ref y1, .ref y2, .ref y3, .ref y4, .int 0, .ref y5, .ref y6, .ref y7, .ref y8, .ref y9, .int 0, .int 0, .int 0, .long 0, .long 0])), (y5, .inl (kp, 0, .inl (fun _ => 0)))] s.heap.size = A at hD ⊢
  have hA : ∀ q : Nat, s.heap.size ≤ q → A q := fun q h => by rw [← hAe]; exact Or.inr h
  have hS : va_S A s.heap s.heap [] := va_S.rf
  have hP : va_P (dC, dI) vwCl [(h0, .inr (10, [.ref wa, .ref ma, .null, .int 0, .ref y0, .ref y1, .ref y2, .ref y3, .ref y4, .int 0, .ref y5, .ref y6, .ref y7, .ref y8, .ref y9, .int 0, .int 0, .int 0, .long 0, .long 0])), (y5, .inl (kp, 0, .inl (fun _ => 0)))] s.heap := hP
  have hl := lv_entry ([.ref h0, .ref tr, .int 0]) (n := 4) (Nat.le_of_ble_eq_true rfl)
  rw [lg_entry_eq]
  generalize (lg_sl ([.ref h0, .ref tr, .int 0]) ++ List.replicate (4 - (lg_sl ([.ref h0, .ref tr, .int 0])).length) Slot.unset).toArray = ls at hl ⊢
  have hl : lv_has ls 4 [(0, .ref h0), (1, .ref tr), (2, .int 0)] := hl
  refine lv_aload_n hx hb dX10_begin_0 rfl (lv_at hl 0 rfl) ?_
  refine lv_aload_n hx hb dX10_begin_1 rfl (lv_at hl 1 rfl) ?_
  refine va_put (D := (dC, dI)) (ci := 10) (v := .ref tr) (ty := .array .int) (C := RX10) (T := TX10) (N := 20) hx hb hts iwsPX10_begin_in10 tyX10 tyX10_ok nmX10 hown hK hP hD hS 0 rfl rfl 2 (by decide) (hts (.fieldLink RX10 55 "OptimaWorks$Worker" "tree" "[I") (by decide +kernel)) (fun _ h9 => h9) rfl (by decide +kernel) rfl rfl (Nat.le_of_ble_eq_true rfl) dX10_begin_2 (fun H locs hP hD hS => ?_)
  have hP : va_P (dC, dI) vwCl [(h0, .inr (10, [.ref wa, .ref ma, .ref tr, .int 0, .ref y0, .ref y1, .ref y2, .ref y3, .ref y4, .int 0, .ref y5, .ref y6, .ref y7, .ref y8, .ref y9, .int 0, .int 0, .int 0, .long 0, .long 0])), (y5, .inl (kp, 0, .inl (fun _ => 0)))] H := hP
  have hD : va_D A [(h0, .inr (10, [.ref wa, .ref ma, .ref tr, .int 0, .ref y0, .ref y1, .ref y2, .ref y3, .ref y4, .int 0, .ref y5, .ref y6, .ref y7, .ref y8, .ref y9, .int 0, .int 0, .int 0, .long 0, .long 0])), (y5, .inl (kp, 0, .inl (fun _ => 0)))] := hD
  refine lv_aload_n hx hb dX10_begin_5 rfl (lv_at hl 0 rfl) ?_
  refine lv_iconst (v := 0) hx hb dX10_begin_6 (by decide) ?_
  refine va_put (D := (dC, dI)) (ci := 10) (v := .int 0) (ty := .int) (C := RX10) (T := TX10) (N := 20) hx hb hts iwsPX10_begin_in10 tyX10 tyX10_ok nmX10 hown hK hP hD hS 0 rfl rfl 3 (by decide) (hts (.fieldLink RX10 58 "OptimaWorks$Worker" "names" "I") (by decide +kernel)) (fun _ h9 => h9) rfl (by decide +kernel) rfl rfl (Nat.le_of_ble_eq_true rfl) dX10_begin_7 (fun H locs hP hD hS => ?_)
  have hP : va_P (dC, dI) vwCl [(h0, .inr (10, [.ref wa, .ref ma, .ref tr, .int 0, .ref y0, .ref y1, .ref y2, .ref y3, .ref y4, .int 0, .ref y5, .ref y6, .ref y7, .ref y8, .ref y9, .int 0, .int 0, .int 0, .long 0, .long 0])), (y5, .inl (kp, 0, .inl (fun _ => 0)))] H := hP
  have hD : va_D A [(h0, .inr (10, [.ref wa, .ref ma, .ref tr, .int 0, .ref y0, .ref y1, .ref y2, .ref y3, .ref y4, .int 0, .ref y5, .ref y6, .ref y7, .ref y8, .ref y9, .int 0, .int 0, .int 0, .long 0, .long 0])), (y5, .inl (kp, 0, .inl (fun _ => 0)))] := hD
  refine lv_aload_n hx hb dX10_begin_10 rfl (lv_at hl 0 rfl) ?_
  refine lv_iconst (v := 0) hx hb dX10_begin_11 (by decide) ?_
  refine va_put (D := (dC, dI)) (ci := 10) (v := .int 0) (ty := .int) (C := RX10) (T := TX10) (N := 20) hx hb hts iwsPX10_begin_in10 tyX10 tyX10_ok nmX10 hown hK hP hD hS 0 rfl rfl 9 (by decide) (hts (.fieldLink RX10 62 "OptimaWorks$Worker" "params" "I") (by decide +kernel)) (fun _ h9 => h9) rfl (by decide +kernel) rfl rfl (Nat.le_of_ble_eq_true rfl) dX10_begin_12 (fun H locs hP hD hS => ?_)
  have hP : va_P (dC, dI) vwCl [(h0, .inr (10, [.ref wa, .ref ma, .ref tr, .int 0, .ref y0, .ref y1, .ref y2, .ref y3, .ref y4, .int 0, .ref y5, .ref y6, .ref y7, .ref y8, .ref y9, .int 0, .int 0, .int 0, .long 0, .long 0])), (y5, .inl (kp, 0, .inl (fun _ => 0)))] H := hP
  have hD : va_D A [(h0, .inr (10, [.ref wa, .ref ma, .ref tr, .int 0, .ref y0, .ref y1, .ref y2, .ref y3, .ref y4, .int 0, .ref y5, .ref y6, .ref y7, .ref y8, .ref y9, .int 0, .int 0, .int 0, .long 0, .long 0])), (y5, .inl (kp, 0, .inl (fun _ => 0)))] := hD
  refine lv_aload_n hx hb dX10_begin_15 rfl (lv_at hl 0 rfl) ?_
  refine va_get (D := (dC, dI)) (ci := 10) (v := .ref y5) (C := RX10) (T := TX10) (N := 20) hx hb hts iwsPX10_begin_in10 hown hK hP 0 rfl rfl 10 (by decide) (hts (.fieldLink RX10 30 "OptimaWorks$Worker" "paramOver" "[I") (by decide +kernel)) (fun _ h9 => h9) rfl dX10_begin_16 ?_
  refine va_alen hx hb hK hP 1 0 rfl rfl (v := 0) rfl dX10_begin_19 ?_
  refine lv_iload_n hx hb dX10_begin_20 rfl (lv_at hl 2 rfl) ?_
  refine lv_icmp_ge (tgt := 50) hx hb dX10_begin_21 (by decide) (fun _ => ?_) (fun c9 => absurd (by decide) c9)
  refine W.widen (k := 0) (n := 0) (by decide +kernel) (by decide +kernel) ?_
  exact W.vret hx hb hr (fun t ht hW => ⟨⟨(), rfl, trivial, by rw [ht]; exact hP.sub [] rfl, va_K.moved hW.alike (hK.sub [] rfl), hD.sub [] (by decide) rfl⟩, hS.F ht⟩) hS.2.2 dX10_begin_50
theorem dX4_readAll_0 : decode cX4_readAll 0 = .ok (.aload_n 0, 1) := by decide +kernel
theorem dX4_readAll_1 : decode cX4_readAll 1 = .ok (.invokevirtual 36, 3) := by decide +kernel
theorem dX4_readAll_4 : decode cX4_readAll 4 = .ok (.aload_n 0, 1) := by decide +kernel
theorem dX4_readAll_5 : decode cX4_readAll 5 = .ok (.getfield 32, 3) := by decide +kernel
theorem dX4_readAll_8 : decode cX4_readAll 8 = .ok (.aload_n 0, 1) := by decide +kernel
theorem dX4_readAll_9 : decode cX4_readAll 9 = .ok (.getfield 11, 3) := by decide +kernel
theorem dX4_readAll_12 : decode cX4_readAll 12 = .ok (.aload_n 0, 1) := by decide +kernel
theorem dX4_readAll_13 : decode cX4_readAll 13 = .ok (.getfield 19, 3) := by decide +kernel
theorem dX4_readAll_16 : decode cX4_readAll 16 = .ok (.getfield 39, 3) := by decide +kernel
theorem dX4_readAll_19 : decode cX4_readAll 19 = .ok (.invokevirtual 45, 3) := by decide +kernel
theorem dX4_readAll_22 : decode cX4_readAll 22 = .ok (.aload_n 0, 1) := by decide +kernel
theorem dX4_readAll_23 : decode cX4_readAll 23 = .ok (.getfield 19, 3) := by decide +kernel
theorem dX4_readAll_26 : decode cX4_readAll 26 = .ok (.invokevirtual 49, 3) := by decide +kernel
theorem dX4_readAll_29 : decode cX4_readAll 29 = .ok (.iconst 0, 1) := by decide +kernel
theorem dX4_readAll_30 : decode cX4_readAll 30 = .ok (.istore_n 1, 1) := by decide +kernel
theorem dX4_readAll_31 : decode cX4_readAll 31 = .ok (.iload_n 1, 1) := by decide +kernel
theorem dX4_readAll_32 : decode cX4_readAll 32 = .ok (.sipush 4000, 3) := by decide +kernel
theorem dX4_readAll_35 : decode cX4_readAll 35 = .ok (.if_icmp .ge 188, 3) := by decide +kernel
theorem dX4_readAll_38 : decode cX4_readAll 38 = .ok (.aload_n 0, 1) := by decide +kernel
theorem dX4_readAll_39 : decode cX4_readAll 39 = .ok (.getfield 19, 3) := by decide +kernel
theorem dX4_readAll_42 : decode cX4_readAll 42 = .ok (.getfield 51, 3) := by decide +kernel
theorem dX4_readAll_45 : decode cX4_readAll 45 = .ok (.ifCond .eq 178, 3) := by decide +kernel
theorem dX4_readAll_223 : decode cX4_readAll 223 = .ok (.iconst 1, 1) := by decide +kernel
theorem dX4_readAll_224 : decode cX4_readAll 224 = .ok (.ireturn, 1) := by decide +kernel
def wsPX4_readAll : List Cond := .codeWith yX4_readAll cX4_readAll 2 (some .boolean) [(29, 224, 225, 95)] :: ([.fieldLink RX4 32 "OptimaWorks$Reader" "worker" "LOptimaWorks$Worker;", .fieldLink RX4 11 "OptimaWorks$Reader" "tree" "[I", .fieldLink RX4 19 "OptimaWorks$Reader" "words" "LOptimaWorks$Words;", .fieldLink RX4 39 "OptimaWorks$Words" "length" "I", .fieldLink RX4 51 "OptimaWorks$Words" "kind" "I"] ++ wsX40 ++ wsX90 ++ (wsV RX4 36 RX4 yX4_makeRoom wsPX4_makeRoom) ++ (wsV RX4 45 RX10 yX10_begin wsPX10_begin) ++ (wsV RX4 49 RX9 yX9_begin wsPX9_begin))
theorem iwsPX4_readAll_in4 : ∀ w ∈ wsX40, w ∈ wsPX4_readAll := fun _ h => List.mem_cons_of_mem _ (List.mem_append_left _ (List.mem_append_left _ (List.mem_append_left _ (List.mem_append_left _ (List.mem_append_right _ h)))))
theorem iwsPX4_readAll_in9 : ∀ w ∈ wsX90, w ∈ wsPX4_readAll := fun _ h => List.mem_cons_of_mem _ (List.mem_append_left _ (List.mem_append_left _ (List.mem_append_left _ (List.mem_append_right _ h))))
theorem gwsPX4_readAll_0 : GoodIn wsPX4_readAll (wsV RX4 36 RX4 yX4_makeRoom wsPX4_makeRoom) := goodIn_sub (fun _ h => List.mem_cons_of_mem _ (List.mem_append_left _ (List.mem_append_left _ (List.mem_append_right _ h)))) (by decide +kernel)
theorem gwsPX4_readAll_1 : GoodIn wsPX4_readAll (wsV RX4 45 RX10 yX10_begin wsPX10_begin) := goodIn_sub (fun _ h => List.mem_cons_of_mem _ (List.mem_append_left _ (List.mem_append_right _ h))) (by decide +kernel)
theorem gwsPX4_readAll_2 : GoodIn wsPX4_readAll (wsV RX4 49 RX9 yX9_begin wsPX9_begin) := goodIn_sub (fun _ h => List.mem_cons_of_mem _ (List.mem_append_right _ h)) (by decide +kernel)
set_option maxHeartbeats 4000000 in
set_option maxRecDepth 100000 in
/-- readAll() of an empty tape -/
theorem p_X4_readAll (l : Launch) (dC : Nat → ClassId) (dI : Nat → Nat → Nat) (h0 : Nat) (wa : Nat) (ma : Nat) (wk : Nat) (tr : Nat) (bi : Nat) (y0 : Nat) (y1 : Nat) (y2 : Nat) (y3 : Nat) (y4 : Nat) (y5 : Nat) (y6 : Nat) (y7 : Nat) (y8 : Nat) (y9 : Nat) (kt : ClassId) (kp : ClassId) (tp : Nat) (fl : Value) (pl : Value) (kn : Value) (wt : Value) (nu : Value) (na : Value) (nx : Value) (sz : Nat) : Met l yX4_readAll wsPX4_readAll ({ frames := 3, cells := 1, slots := 112, locals := 63 }) (va_Pc [.ref h0] (fun U => U.heap.size = sz ∧ va_P (dC, dI) vwCl [(h0, .inr (4, [.ref wa, .ref ma, .ref wk, .ref tr, .int 0, .int 0, .long 0, .ref bi, .int 0, .int 0, .int 0])), (wk, .inr (10, [.ref wa, .ref ma, .null, .int 0, .ref y0, .ref y1, .ref y2, .ref y3, .ref y4, .int 0, .ref y5, .ref y6, .ref y7, .ref y8, .ref y9, .int 0, .int 0, .int 0, .long 0, .long 0])), (wa, .inr (9, [.ref tp, .int 0, fl, pl, kn, wt, nu, na, nx])), (tr, .inl (kt, 7, .inl (fun _ => 0))), (y5, .inl (kp, 0, .inl (fun _ => 0)))] U.heap ∧ va_K (dC, dI) vwCl [(kt, .int), (kp, .int)] U ∧ va_D (fun _ => True) [(h0, .inr (4, [.ref wa, .ref ma, .ref wk, .ref tr, .int 0, .int 0, .long 0, .ref bi, .int 0, .int 0, .int 0])), (wk, .inr (10, [.ref wa, .ref ma, .null, .int 0, .ref y0, .ref y1, .ref y2, .ref y3, .ref y4, .int 0, .ref y5, .ref y6, .ref y7, .ref y8, .ref y9, .int 0, .int 0, .int 0, .long 0, .long 0])), (wa, .inr (9, [.ref tp, .int 0, fl, pl, kn, wt, nu, na, nx])), (tr, .inl (kt, 7, .inl (fun _ => 0))), (y5, .inl (kp, 0, .inl (fun _ => 0)))])) (va_Qi (fun (r : Int32) (u : Unit) => r = 1) (fun (u : Unit) t => va_P (dC, dI) vwCl [] t.heap ∧ va_K (dC, dI) vwCl [] t ∧ va_D (va_A [(h0, .inr (4, [.ref wa, .ref ma, .ref wk, .ref tr, .int 0, .int 0, .long 0, .ref bi, .int 0, .int 0, .int 0])), (wk, .inr (10, [.ref wa, .ref ma, .null, .int 0, .ref y0, .ref y1, .ref y2, .ref y3, .ref y4, .int 0, .ref y5, .ref y6, .ref y7, .ref y8, .ref y9, .int 0, .int 0, .int 0, .long 0, .long 0])), (wa, .inr (9, [.ref tp, .int 0, fl, pl, kn, wt, nu, na, nx])), (tr, .inl (kt, 7, .inl (fun _ => 0))), (y5, .inl (kp, 0, .inl (fun _ => 0)))] sz) []) (va_A [(h0, .inr (4, [.ref wa, .ref ma, .ref wk, .ref tr, .int 0, .int 0, .long 0, .ref bi, .int 0, .int 0, .int 0])), (wk, .inr (10, [.ref wa, .ref ma, .null, .int 0, .ref y0, .ref y1, .ref y2, .ref y3, .ref y4, .int 0, .ref y5, .ref y6, .ref y7, .ref y8, .ref y9, .int 0, .int 0, .int 0, .long 0, .long 0])), (wa, .inr (9, [.ref tp, .int 0, fl, pl, kn, wt, nu, na, nx])), (tr, .inl (kt, 7, .inl (fun _ => 0))), (y5, .inl (kp, 0, .inl (fun _ => 0)))] sz)) 1 112 (va_A [(h0, .inr (4, [.ref wa, .ref ma, .ref wk, .ref tr, .int 0, .int 0, .long 0, .ref bi, .int 0, .int 0, .int 0])), (wk, .inr (10, [.ref wa, .ref ma, .null, .int 0, .ref y0, .ref y1, .ref y2, .ref y3, .ref y4, .int 0, .ref y5, .ref y6, .ref y7, .ref y8, .ref y9, .int 0, .int 0, .int 0, .long 0, .long 0])), (wa, .inr (9, [.ref tp, .int 0, fl, pl, kn, wt, nu, na, nx])), (tr, .inl (kt, 7, .inl (fun _ => 0))), (y5, .inl (kp, 0, .inl (fun _ => 0)))] sz) := by
  refine ofWC (hh := [(29, 224, 225, 95)]) (cc := cX4_readAll) (maxL := 2) (ret := (some .boolean)) (by decide) rfl ?_
  intro p e s m args below meth c s₁ B hml hv
  obtain ⟨rfl, hsz, hP, hK, hD0⟩ := hv
  have hx := B.exec
  have hb := B.bytes
  have hr := B.returns
  have hts := atoms_spec (ws := wsPX4_readAll) B.pre
  have hown : s.vm.findClass RX4 = some m.cls := findClass_of_methodNamed B.named
  have hlocks := B.notSynchronized
  have htb : c.exceptionTable.toList = tableOf [(29, 224, 225, 95)] := vx_table (x := yX4_readAll) B (hts _ List.mem_cons_self)
  subst hsz
  have hD := hD0.self (sz := s.heap.size)
  generalize hAe : va_A [(h0, .inr (4, [.ref wa, .ref ma, .ref wk, .ref tr, .int 0, .int 0, .long 0, .ref bi, .int 0, .int 0, .int 0])), (wk, .inr (10, [.ref wa, .ref ma, .null, .int 0, .ref y0, .ref y1, .ref y2, .ref y3, .ref y4, .int 0, .ref y5, .ref y6, .ref y7, .ref y8, .ref y9, .int 0, .int 0, .int 0, .long 0, .long 0])), (wa, .inr (9, [.ref tp, .int 0, fl, pl, kn, wt, nu, na, nx])), (tr, .inl (kt, 7, .inl (fun _ => 0))), (y5, .inl (kp, 0, .inl (fun _ => 0)))] s.heap.size = A at hD ⊢
  have hA : ∀ q : Nat, s.heap.size ≤ q → A q := fun q h => by rw [← hAe]; exact Or.inr h
  have hS : va_S A s.heap s.heap [] := va_S.rf
  have hP : va_P (dC, dI) vwCl [(h0, .inr (4, [.ref wa, .ref ma, .ref wk, .ref tr, .int 0, .int 0, .long 0, .ref bi, .int 0, .int 0, .int 0])), (wk, .inr (10, [.ref wa, .ref ma, .null, .int 0, .ref y0, .ref y1, .ref y2, .ref y3, .ref y4, .int 0, .ref y5, .ref y6, .ref y7, .ref y8, .ref y9, .int 0, .int 0, .int 0, .long 0, .long 0])), (wa, .inr (9, [.ref tp, .int 0, fl, pl, kn, wt, nu, na, nx])), (tr, .inl (kt, 7, .inl (fun _ => 0))), (y5, .inl (kp, 0, .inl (fun _ => 0)))] s.heap := hP
  have hl := lv_entry ([.ref h0]) (n := 2) (Nat.le_of_ble_eq_true rfl)
  rw [lg_entry_eq]
  generalize (lg_sl ([.ref h0]) ++ List.replicate (2 - (lg_sl ([.ref h0])).length) Slot.unset).toArray = ls at hl ⊢
  have hl : lv_has ls 2 [(0, .ref h0)] := hl
  refine lv_aload_n hx hb dX4_readAll_0 rfl (lv_at hl 0 rfl) ?_
  have hPc := hP.sub (ws' := [(h0, .inr (4, [.ref wa, .ref ma, .ref wk, .ref tr, .int 0, .int 0, .long 0, .ref bi, .int 0, .int 0, .int 0])), (wa, .inr (9, [.ref tp, .int 0, fl, pl, kn, wt, nu, na, nx])), (tr, .inl (kt, 7, .inl (fun _ => 0)))]) [0, 2, 3] rfl
  have hDc := hD.sub (ws' := [(h0, .inr (4, [.ref wa, .ref ma, .ref wk, .ref tr, .int 0, .int 0, .long 0, .ref bi, .int 0, .int 0, .int 0])), (wa, .inr (9, [.ref tp, .int 0, fl, pl, kn, wt, nu, na, nx])), (tr, .inl (kt, 7, .inl (fun _ => 0)))]) [0, 2, 3] (by decide) rfl
  have hKc := hK.sub (tys' := [(kt, .int)]) [0] rfl
  have hFc := va_free (wc := [(h0, .inr (4, [.ref wa, .ref ma, .ref wk, .ref tr, .int 0, .int 0, .long 0, .ref bi, .int 0, .int 0, .int 0])), (wa, .inr (9, [.ref tp, .int 0, fl, pl, kn, wt, nu, na, nx])), (tr, .inl (kt, 7, .inl (fun _ => 0)))]) hD hS hA [0, 2, 3] rfl
  refine va_callv (va_runV (As := []) (rest := []) ⟨hx, hb, hml, hown, hts⟩ (p_X4_makeRoom l dC dI h0 wa ma wk tr bi kt tp fl pl kn wt nu na nx s.heap.size) (cwV 0 hts gwsPX4_readAll_0 rfl rfl rfl (by decide +kernel) ⟨by decide +kernel, by decide +kernel⟩) ⟨fun a U g mk q => by obtain ⟨q0, q1, qP, qK, qD⟩ := q; exact ⟨q0, q1, qP, va_K.moved (u := U) (U := U.calling g mk a) (Vm.Alike.refl U.vm) qK, qD⟩, va_recv hKc hPc (ci := 4) (q0 := 0) rfl rfl, fun U hU9 hW => ⟨rfl, by rw [hU9], by rw [hU9]; exact hPc, va_K.moved hW.alike hKc, hDc.weaken (fun _ _ _ _ => trivial)⟩⟩ rfl rfl hl.1 rfl (lv_room (Nat.le_of_ble_eq_true rfl)) dX4_readAll_1 ⟨by decide +kernel, by decide +kernel⟩) hS (fun q _ h => hFc q h) hFc (fun u t H1 locs ht hvm hw hB hz1 hk1 hS => ?_)
  obtain ⟨tn1, hwit1⟩ : ∃ w9, w9 = u := ⟨u, rfl⟩
  subst hwit1
  obtain ⟨hP1, hK1, hD1⟩ := hB
  rw [ht] at hP1
  have hK1 := va_K.moved hvm.symm hK1
  obtain ⟨hP, hD⟩ := va_join (wr := [(wk, .inr (10, [.ref wa, .ref ma, .null, .int 0, .ref y0, .ref y1, .ref y2, .ref y3, .ref y4, .int 0, .ref y5, .ref y6, .ref y7, .ref y8, .ref y9, .int 0, .int 0, .int 0, .long 0, .long 0])), (y5, .inl (kp, 0, .inl (fun _ => 0)))]) (w1 := [(h0, .inr (4, [.ref wa, .ref ma, .ref wk, .ref tn1, .int 0, .int 0, .long 0, .ref bi, .int 0, .int 0, .int 0])), (wa, .inr (9, [.ref tp, .int 0, fl, pl, kn, wt, nu, na, nx]))]) hP hD [0, 2, 3] [1, 4] rfl rfl (by decide) (by decide) hk1 hFc hP1 hD1
  generalize H1 = H at hP hS ⊢
  have hP : va_P (dC, dI) vwCl [(wk, .inr (10, [.ref wa, .ref ma, .null, .int 0, .ref y0, .ref y1, .ref y2, .ref y3, .ref y4, .int 0, .ref y5, .ref y6, .ref y7, .ref y8, .ref y9, .int 0, .int 0, .int 0, .long 0, .long 0])), (y5, .inl (kp, 0, .inl (fun _ => 0))), (h0, .inr (4, [.ref wa, .ref ma, .ref wk, .ref tn1, .int 0, .int 0, .long 0, .ref bi, .int 0, .int 0, .int 0])), (wa, .inr (9, [.ref tp, .int 0, fl, pl, kn, wt, nu, na, nx]))] H := hP
  have hD : va_D A [(wk, .inr (10, [.ref wa, .ref ma, .null, .int 0, .ref y0, .ref y1, .ref y2, .ref y3, .ref y4, .int 0, .ref y5, .ref y6, .ref y7, .ref y8, .ref y9, .int 0, .int 0, .int 0, .long 0, .long 0])), (y5, .inl (kp, 0, .inl (fun _ => 0))), (h0, .inr (4, [.ref wa, .ref ma, .ref wk, .ref tn1, .int 0, .int 0, .long 0, .ref bi, .int 0, .int 0, .int 0])), (wa, .inr (9, [.ref tp, .int 0, fl, pl, kn, wt, nu, na, nx]))] := hD
  refine W.widen (k := 1) (n := 112) (by decide +kernel) (by decide +kernel) ?_
  refine lv_aload_n hx hb dX4_readAll_4 rfl (lv_at hl 0 rfl) ?_
  refine va_get (D := (dC, dI)) (ci := 4) (v := .ref wk) (C := RX4) (T := TX4) (N := 11) hx hb hts iwsPX4_readAll_in4 hown hK hP 2 rfl rfl 2 (by decide) (hts (.fieldLink RX4 32 "OptimaWorks$Reader" "worker" "LOptimaWorks$Worker;") (by decide +kernel)) (fun _ h9 => h9) rfl dX4_readAll_5 ?_
  refine lv_aload_n hx hb dX4_readAll_8 rfl (lv_at hl 0 rfl) ?_
  refine va_get (D := (dC, dI)) (ci := 4) (v := .ref tn1) (C := RX4) (T := TX4) (N := 11) hx hb hts iwsPX4_readAll_in4 hown hK hP 2 rfl rfl 3 (by decide) (hts (.fieldLink RX4 11 "OptimaWorks$Reader" "tree" "[I") (by decide +kernel)) (fun _ h9 => h9) rfl dX4_readAll_9 ?_
  refine lv_aload_n hx hb dX4_readAll_12 rfl (lv_at hl 0 rfl) ?_
  refine va_get (D := (dC, dI)) (ci := 4) (v := .ref wa) (C := RX4) (T := TX4) (N := 11) hx hb hts iwsPX4_readAll_in4 hown hK hP 2 rfl rfl 0 (by decide) (hts (.fieldLink RX4 19 "OptimaWorks$Reader" "words" "LOptimaWorks$Words;") (by decide +kernel)) (fun _ h9 => h9) rfl dX4_readAll_13 ?_
  refine va_get (D := (dC, dI)) (ci := 9) (v := .int 0) (C := RX9) (T := TX9) (N := 9) hx hb hts iwsPX4_readAll_in9 hown hK hP 3 rfl rfl 1 (by decide) (hts (.fieldLink RX4 39 "OptimaWorks$Words" "length" "I") (by decide +kernel)) (fun _ h9 => h9) rfl dX4_readAll_16 ?_
  have hPc := hP.sub (ws' := [(wk, .inr (10, [.ref wa, .ref ma, .null, .int 0, .ref y0, .ref y1, .ref y2, .ref y3, .ref y4, .int 0, .ref y5, .ref y6, .ref y7, .ref y8, .ref y9, .int 0, .int 0, .int 0, .long 0, .long 0])), (y5, .inl (kp, 0, .inl (fun _ => 0)))]) [0, 1] rfl
  have hDc := hD.sub (ws' := [(wk, .inr (10, [.ref wa, .ref ma, .null, .int 0, .ref y0, .ref y1, .ref y2, .ref y3, .ref y4, .int 0, .ref y5, .ref y6, .ref y7, .ref y8, .ref y9, .int 0, .int 0, .int 0, .long 0, .long 0])), (y5, .inl (kp, 0, .inl (fun _ => 0)))]) [0, 1] (by decide) rfl
  have hKc := hK.sub (tys' := [(kp, .int)]) [1] rfl
  have hFc := va_free (wc := [(wk, .inr (10, [.ref wa, .ref ma, .null, .int 0, .ref y0, .ref y1, .ref y2, .ref y3, .ref y4, .int 0, .ref y5, .ref y6, .ref y7, .ref y8, .ref y9, .int 0, .int 0, .int 0, .long 0, .long 0])), (y5, .inl (kp, 0, .inl (fun _ => 0)))]) hD hS hA [0, 1] rfl
  refine va_callv (va_runV (As := [.ref tn1, .int 0]) (rest := []) ⟨hx, hb, hml, hown, hts⟩ (p_X10_begin l dC dI wk wa ma y0 y1 y2 y3 y4 y5 y6 y7 y8 y9 kp tn1 H.size) (cwV 2 hts gwsPX4_readAll_1 rfl rfl rfl (by decide +kernel) ⟨by decide +kernel, by decide +kernel⟩) ⟨fun a U g mk q => by obtain ⟨q0, q1, qP, qK, qD⟩ := q; exact ⟨q0, q1, qP, va_K.moved (u := U) (U := U.calling g mk a) (Vm.Alike.refl U.vm) qK, qD⟩, va_recv hKc hPc (ci := 10) (q0 := 0) rfl rfl, fun U hU9 hW => ⟨rfl, by rw [hU9], by rw [hU9]; exact hPc, va_K.moved hW.alike hKc, hDc.weaken (fun _ _ _ _ => trivial)⟩⟩ rfl rfl hl.1 rfl (lv_room (Nat.le_of_ble_eq_true rfl)) dX4_readAll_19 ⟨by decide +kernel, by decide +kernel⟩) hS (fun q _ h => hFc q h) hFc (fun u t H1 locs ht hvm hw hB hz1 hk1 hS => ?_)
  obtain ⟨hP1, hK1, hD1⟩ := hB
  rw [ht] at hP1
  have hK1 := va_K.moved hvm.symm hK1
  obtain ⟨hP, hD⟩ := va_join (wr := [(h0, .inr (4, [.ref wa, .ref ma, .ref wk, .ref tn1, .int 0, .int 0, .long 0, .ref bi, .int 0, .int 0, .int 0])), (wa, .inr (9, [.ref tp, .int 0, fl, pl, kn, wt, nu, na, nx]))]) (w1 := []) hP hD [0, 1] [2, 3] rfl rfl (by decide) (by decide) hk1 hFc hP1 hD1
  generalize H1 = H at hP hS ⊢
  have hP : va_P (dC, dI) vwCl [(h0, .inr (4, [.ref wa, .ref ma, .ref wk, .ref tn1, .int 0, .int 0, .long 0, .ref bi, .int 0, .int 0, .int 0])), (wa, .inr (9, [.ref tp, .int 0, fl, pl, kn, wt, nu, na, nx]))] H := hP
  have hD : va_D A [(h0, .inr (4, [.ref wa, .ref ma, .ref wk, .ref tn1, .int 0, .int 0, .long 0, .ref bi, .int 0, .int 0, .int 0])), (wa, .inr (9, [.ref tp, .int 0, fl, pl, kn, wt, nu, na, nx]))] := hD
  refine lv_aload_n hx hb dX4_readAll_22 rfl (lv_at hl 0 rfl) ?_
  refine va_get (D := (dC, dI)) (ci := 4) (v := .ref wa) (C := RX4) (T := TX4) (N := 11) hx hb hts iwsPX4_readAll_in4 hown hK hP 0 rfl rfl 0 (by decide) (hts (.fieldLink RX4 19 "OptimaWorks$Reader" "words" "LOptimaWorks$Words;") (by decide +kernel)) (fun _ h9 => h9) rfl dX4_readAll_23 ?_
  have hPc := hP.sub (ws' := [(wa, .inr (9, [.ref tp, .int 0, fl, pl, kn, wt, nu, na, nx]))]) [1] rfl
  have hDc := hD.sub (ws' := [(wa, .inr (9, [.ref tp, .int 0, fl, pl, kn, wt, nu, na, nx]))]) [1] (by decide) rfl
  have hKc := hK.sub (tys' := []) [] rfl
  have hFc := va_free (wc := [(wa, .inr (9, [.ref tp, .int 0, fl, pl, kn, wt, nu, na, nx]))]) hD hS hA [1] rfl
  refine va_callv (va_runV (As := []) (rest := []) ⟨hx, hb, hml, hown, hts⟩ (p_X9_begin l dC dI wa tp fl pl kn wt nu na nx H.size) (cwV 0 hts gwsPX4_readAll_2 rfl rfl rfl (by decide +kernel) ⟨by decide +kernel, by decide +kernel⟩) ⟨fun a U g mk q => by obtain ⟨q0, q1, qP, qK, qD⟩ := q; exact ⟨q0, q1, qP, va_K.moved (u := U) (U := U.calling g mk a) (Vm.Alike.refl U.vm) qK, qD⟩, va_recv hKc hPc (ci := 9) (q0 := 0) rfl rfl, fun U hU9 hW => ⟨rfl, by rw [hU9], by rw [hU9]; exact hPc, va_K.moved hW.alike hKc, hDc.weaken (fun _ _ _ _ => trivial)⟩⟩ rfl rfl hl.1 rfl (lv_room (Nat.le_of_ble_eq_true rfl)) dX4_readAll_26 ⟨by decide +kernel, by decide +kernel⟩) hS (fun q _ h => hFc q h) hFc (fun u t H1 locs ht hvm hw hB hz1 hk1 hS => ?_)
  obtain ⟨hP1, hK1, hD1⟩ := hB
  rw [ht] at hP1
  have hK1 := va_K.moved hvm.symm hK1
  obtain ⟨hP, hD⟩ := va_join (wr := [(h0, .inr (4, [.ref wa, .ref ma, .ref wk, .ref tn1, .int 0, .int 0, .long 0, .ref bi, .int 0, .int 0, .int 0]))]) (w1 := [(wa, .inr (9, [.ref tp, .int 0, .int 0, .int (-1), .int 0, .int 0, nu, na, .int 0]))]) hP hD [1] [0] rfl rfl (by decide) (by decide) hk1 hFc hP1 hD1
  generalize H1 = H at hP hS ⊢
  have hP : va_P (dC, dI) vwCl [(h0, .inr (4, [.ref wa, .ref ma, .ref wk, .ref tn1, .int 0, .int 0, .long 0, .ref bi, .int 0, .int 0, .int 0])), (wa, .inr (9, [.ref tp, .int 0, .int 0, .int (-1), .int 0, .int 0, nu, na, .int 0]))] H := hP
  have hD : va_D A [(h0, .inr (4, [.ref wa, .ref ma, .ref wk, .ref tn1, .int 0, .int 0, .long 0, .ref bi, .int 0, .int 0, .int 0])), (wa, .inr (9, [.ref tp, .int 0, .int 0, .int (-1), .int 0, .int 0, nu, na, .int 0]))] := hD
  refine lv_iconst (v := 0) hx hb dX4_readAll_29 (by decide) ?_
  refine lv_istore_n (lv' := [(1, .int 0), (0, .ref h0)]) hx hb dX4_readAll_30 rfl hl (by decide) rfl (fun ls hl => ?_)
  refine lv_iload_n hx hb dX4_readAll_31 rfl (lv_at hl 0 rfl) ?_
  refine lv_sipush (v := 4000) hx hb dX4_readAll_32 (by decide) ?_
  refine lv_icmp_ge (tgt := 223) hx hb dX4_readAll_35 (by decide) (fun c9 => absurd c9 (by decide)) (fun _ => ?_)
  refine lv_aload_n hx hb dX4_readAll_38 rfl (lv_at hl 1 rfl) ?_
  refine va_get (D := (dC, dI)) (ci := 4) (v := .ref wa) (C := RX4) (T := TX4) (N := 11) hx hb hts iwsPX4_readAll_in4 hown hK hP 0 rfl rfl 0 (by decide) (hts (.fieldLink RX4 19 "OptimaWorks$Reader" "words" "LOptimaWorks$Words;") (by decide +kernel)) (fun _ h9 => h9) rfl dX4_readAll_39 ?_
  refine va_get (D := (dC, dI)) (ci := 9) (v := .int 0) (C := RX9) (T := TX9) (N := 9) hx hb hts iwsPX4_readAll_in9 hown hK hP 1 rfl rfl 4 (by decide) (hts (.fieldLink RX4 51 "OptimaWorks$Words" "kind" "I") (by decide +kernel)) (fun _ h9 => h9) rfl dX4_readAll_42 ?_
  refine lv_if_eq (tgt := 223) hx hb dX4_readAll_45 (by decide) (fun _ => ?_) (fun c9 => absurd (by decide) c9)
  refine lv_iconst (v := 1) hx hb dX4_readAll_223 (by decide) ?_
  refine W.widen (k := 1) (n := 112) (by decide +kernel) (by decide +kernel) ?_
  exact W.zret (v := 1) hx hb hr rfl (fun t ht hW => ⟨⟨1, (), rfl, by (first | rfl | assumption | trivial | omega | (simp []; done) | (simp; omega)), by rw [ht]; exact hP.sub [] rfl, va_K.moved hW.alike (hK.sub [] rfl), hD.sub [] (by decide) rfl⟩, hS.F ht⟩) hS.2.2 dX4_readAll_224
theorem dX11_read_0 : decode cX11_read 0 = .ok (.aload_n 0, 1) := by decide +kernel
theorem dX11_read_1 : decode cX11_read 1 = .ok (.getfield 23, 3) := by decide +kernel
theorem dX11_read_4 : decode cX11_read 4 = .ok (.invokevirtual 45, 3) := by decide +kernel
theorem dX11_read_7 : decode cX11_read 7 = .ok (.aload_n 0, 1) := by decide +kernel
theorem dX11_read_8 : decode cX11_read 8 = .ok (.getfield 48, 3) := by decide +kernel
theorem dX11_read_11 : decode cX11_read 11 = .ok (.ifnull 10, 3) := by decide +kernel
theorem dX11_read_21 : decode cX11_read 21 = .ok (.aload_n 0, 1) := by decide +kernel
theorem dX11_read_22 : decode cX11_read 22 = .ok (.getfield 57, 3) := by decide +kernel
theorem dX11_read_25 : decode cX11_read 25 = .ok (.ifnull 10, 3) := by decide +kernel
theorem dX11_read_35 : decode cX11_read 35 = .ok (.aload_n 0, 1) := by decide +kernel
theorem dX11_read_36 : decode cX11_read 36 = .ok (.getfield 64, 3) := by decide +kernel
theorem dX11_read_39 : decode cX11_read 39 = .ok (.ifnonnull 22, 3) := by decide +kernel
theorem dX11_read_42 : decode cX11_read 42 = .ok (.aload_n 0, 1) := by decide +kernel
theorem dX11_read_43 : decode cX11_read 43 = .ok (.new 68, 3) := by decide +kernel
theorem dX11_read_46 : decode cX11_read 46 = .ok (.dup, 1) := by decide +kernel
theorem dX11_read_47 : decode cX11_read 47 = .ok (.aload_n 0, 1) := by decide +kernel
theorem dX11_read_48 : decode cX11_read 48 = .ok (.getfield 16, 3) := by decide +kernel
theorem dX11_read_51 : decode cX11_read 51 = .ok (.aload_n 0, 1) := by decide +kernel
theorem dX11_read_52 : decode cX11_read 52 = .ok (.getfield 23, 3) := by decide +kernel
theorem dX11_read_55 : decode cX11_read 55 = .ok (.invokespecial 70, 3) := by decide +kernel
theorem dX11_read_58 : decode cX11_read 58 = .ok (.putfield 64, 3) := by decide +kernel
theorem dX11_read_61 : decode cX11_read 61 = .ok (.aload_n 0, 1) := by decide +kernel
theorem dX11_read_62 : decode cX11_read 62 = .ok (.getfield 64, 3) := by decide +kernel
theorem dX11_read_65 : decode cX11_read 65 = .ok (.invokevirtual 73, 3) := by decide +kernel
theorem dX11_read_68 : decode cX11_read 68 = .ok (.ifCond .ne 18, 3) := by decide +kernel
theorem dX11_read_86 : decode cX11_read 86 = .ok (.aload_n 0, 1) := by decide +kernel
theorem dX11_read_87 : decode cX11_read 87 = .ok (.getfield 23, 3) := by decide +kernel
theorem dX11_read_90 : decode cX11_read 90 = .ok (.iconst 1, 1) := by decide +kernel
theorem dX11_read_91 : decode cX11_read 91 = .ok (.putfield 80, 3) := by decide +kernel
theorem dX11_read_94 : decode cX11_read 94 = .ok (.aload_n 0, 1) := by decide +kernel
theorem dX11_read_95 : decode cX11_read 95 = .ok (.getfield 23, 3) := by decide +kernel
theorem dX11_read_98 : decode cX11_read 98 = .ok (.getfield 84, 3) := by decide +kernel
theorem dX11_read_101 : decode cX11_read 101 = .ok (.ireturn, 1) := by decide +kernel
def wsPX11_read : List Cond := .code yX11_read cX11_read 1 (some .int) :: ([.fieldLink RX11 23 "OptimaWorks" "model" "LOptimaWorks$Model;", .fieldLink RX11 48 "OptimaWorks" "solver" "LOptimaWorks$Solver;", .fieldLink RX11 57 "OptimaWorks" "prover" "LOptimaWorks$Prover;", .fieldLink RX11 64 "OptimaWorks" "reader" "LOptimaWorks$Reader;", .classLink RX11 68 RX4, .instantiable RX4 11, .initialized RX4, .fieldLink RX11 16 "OptimaWorks" "words" "LOptimaWorks$Words;", .methodLink RX11 70 yX4_init, .instanceMethod yX4_init, .fieldLink RX11 80 "OptimaWorks$Model" "stands" "Z", .fieldLink RX11 84 "OptimaWorks$Model" "variables" "I"] ++ wsX10 ++ wsX40 ++ wsX110 ++ (wsV RX11 45 RX1 yX1_empty wsPX1_empty) ++ (wsPX4_init) ++ (wsV RX11 73 RX4 yX4_readAll wsPX4_readAll))
theorem iwsPX11_read_in1 : ∀ w ∈ wsX10, w ∈ wsPX11_read := fun _ h => List.mem_cons_of_mem _ (List.mem_append_left _ (List.mem_append_left _ (List.mem_append_left _ (List.mem_append_left _ (List.mem_append_left _ (List.mem_append_right _ h))))))
theorem iwsPX11_read_in4 : ∀ w ∈ wsX40, w ∈ wsPX11_read := fun _ h => List.mem_cons_of_mem _ (List.mem_append_left _ (List.mem_append_left _ (List.mem_append_left _ (List.mem_append_left _ (List.mem_append_right _ h)))))
theorem iwsPX11_read_in11 : ∀ w ∈ wsX110, w ∈ wsPX11_read := fun _ h => List.mem_cons_of_mem _ (List.mem_append_left _ (List.mem_append_left _ (List.mem_append_left _ (List.mem_append_right _ h))))
theorem gwsPX11_read_0 : GoodIn wsPX11_read (wsV RX11 45 RX1 yX1_empty wsPX1_empty) := goodIn_sub (fun _ h => List.mem_cons_of_mem _ (List.mem_append_left _ (List.mem_append_left _ (List.mem_append_right _ h)))) (by decide +kernel)
theorem gwsPX11_read_1 : GoodIn wsPX11_read (wsPX4_init) := goodIn_sub (fun _ h => List.mem_cons_of_mem _ (List.mem_append_left _ (List.mem_append_right _ h))) (by decide +kernel)
theorem gwsPX11_read_2 : GoodIn wsPX11_read (wsV RX11 73 RX4 yX4_readAll wsPX4_readAll) := goodIn_sub (fun _ h => List.mem_cons_of_mem _ (List.mem_append_right _ h)) (by decide +kernel)
set_option maxHeartbeats 4000000 in
set_option maxRecDepth 100000 in
/-- read() of an empty tape -/
theorem p_X11_read (l : Launch) (dC : Nat → ClassId) (dI : Nat → Nat → Nat) (h0 : Nat) (a : Nat → Nat) (sz : Nat) : Met l yX11_read wsPX11_read ({ frames := 4, cells := 15, slots := 1198, locals := 84 }) (va_Pc [.ref h0] (fun U => U.heap.size = sz ∧ va_P (dC, dI) vwCl [(h0, .inr (11, [.ref (a 0), .ref (a 1), .ref (a 3), .ref (a 14), .int 0, .null, .null, .null, .null, .null, .null])), ((a 1), .inr (9, [.ref (a 2), .int 0, .int 0, .int (-1), .int 0, .int 0, .int 0, .long 0, .int 0])), ((a 3), .inr (1, [.int 0, .int 0, .int 0, .int 0, .int 0, .int 0, .ref (a 4), .ref (a 5), .ref (a 6), .ref (a 7), .int 0, .ref (a 8), .ref (a 9), .ref (a 10), .ref (a 11), .ref (a 12), .ref (a 13)]))] U.heap ∧ va_K (dC, dI) vwCl [] U ∧ va_D (fun _ => True) [(h0, .inr (11, [.ref (a 0), .ref (a 1), .ref (a 3), .ref (a 14), .int 0, .null, .null, .null, .null, .null, .null])), ((a 1), .inr (9, [.ref (a 2), .int 0, .int 0, .int (-1), .int 0, .int 0, .int 0, .long 0, .int 0])), ((a 3), .inr (1, [.int 0, .int 0, .int 0, .int 0, .int 0, .int 0, .ref (a 4), .ref (a 5), .ref (a 6), .ref (a 7), .int 0, .ref (a 8), .ref (a 9), .ref (a 10), .ref (a 11), .ref (a 12), .ref (a 13)]))])) (va_Qi (fun (r : Int32) (u : Unit) => r = 0) (fun (u : Unit) t => va_P (dC, dI) vwCl [] t.heap ∧ va_K (dC, dI) vwCl [] t ∧ va_D (va_A [(h0, .inr (11, [.ref (a 0), .ref (a 1), .ref (a 3), .ref (a 14), .int 0, .null, .null, .null, .null, .null, .null])), ((a 1), .inr (9, [.ref (a 2), .int 0, .int 0, .int (-1), .int 0, .int 0, .int 0, .long 0, .int 0])), ((a 3), .inr (1, [.int 0, .int 0, .int 0, .int 0, .int 0, .int 0, .ref (a 4), .ref (a 5), .ref (a 6), .ref (a 7), .int 0, .ref (a 8), .ref (a 9), .ref (a 10), .ref (a 11), .ref (a 12), .ref (a 13)]))] sz) []) (va_A [(h0, .inr (11, [.ref (a 0), .ref (a 1), .ref (a 3), .ref (a 14), .int 0, .null, .null, .null, .null, .null, .null])), ((a 1), .inr (9, [.ref (a 2), .int 0, .int 0, .int (-1), .int 0, .int 0, .int 0, .long 0, .int 0])), ((a 3), .inr (1, [.int 0, .int 0, .int 0, .int 0, .int 0, .int 0, .ref (a 4), .ref (a 5), .ref (a 6), .ref (a 7), .int 0, .ref (a 8), .ref (a 9), .ref (a 10), .ref (a 11), .ref (a 12), .ref (a 13)]))] sz)) 15 1198 (va_A [(h0, .inr (11, [.ref (a 0), .ref (a 1), .ref (a 3), .ref (a 14), .int 0, .null, .null, .null, .null, .null, .null])), ((a 1), .inr (9, [.ref (a 2), .int 0, .int 0, .int (-1), .int 0, .int 0, .int 0, .long 0, .int 0])), ((a 3), .inr (1, [.int 0, .int 0, .int 0, .int 0, .int 0, .int 0, .ref (a 4), .ref (a 5), .ref (a 6), .ref (a 7), .int 0, .ref (a 8), .ref (a 9), .ref (a 10), .ref (a 11), .ref (a 12), .ref (a 13)]))] sz) := by
  refine Met.ofW (cc := cX11_read) (maxL := 1) (ret := (some .int)) (by decide) rfl ?_
  intro p e s m args below meth c s₁ B hml hv
  obtain ⟨rfl, hsz, hP, hK, hD0⟩ := hv
  have hx := B.exec
  have hb := B.bytes
  have hr := B.returns
  have hts := atoms_spec (ws := wsPX11_read) B.pre
  have hown : s.vm.findClass RX11 = some m.cls := findClass_of_methodNamed B.named
  have hlocks := B.notSynchronized
  subst hsz
  have hD := hD0.self (sz := s.heap.size)
  generalize hAe : va_A [(h0, .inr (11, [.ref (a 0), .ref (a 1), .ref (a 3), .ref (a 14), .int 0, .null, .null, .null, .null, .null, .null])), ((a 1), .inr (9, [.ref (a 2), .int 0, .int 0, .int (-1), .int 0, .int 0, .int 0, .long 0, .int 0])), ((a 3), .inr (1, [.int 0, .int 0, .int 0, .int 0, .int 0, .int 0, .ref (a 4), .ref (a 5), .ref (a 6), .ref (a 7), .int 0, .ref (a 8), .ref (a 9), .ref (a 10), .ref (a 11), .ref (a 12), .ref (a 13)]))] s.heap.size = A at hD ⊢
  have hA : ∀ q : Nat, s.heap.size ≤ q → A q := fun q h => by rw [← hAe]; exact Or.inr h
  have hS : va_S A s.heap s.heap [] := va_S.rf
  have hP : va_P (dC, dI) vwCl [(h0, .inr (11, [.ref (a 0), .ref (a 1), .ref (a 3), .ref (a 14), .int 0, .null, .null, .null, .null, .null, .null])), ((a 1), .inr (9, [.ref (a 2), .int 0, .int 0, .int (-1), .int 0, .int 0, .int 0, .long 0, .int 0])), ((a 3), .inr (1, [.int 0, .int 0, .int 0, .int 0, .int 0, .int 0, .ref (a 4), .ref (a 5), .ref (a 6), .ref (a 7), .int 0, .ref (a 8), .ref (a 9), .ref (a 10), .ref (a 11), .ref (a 12), .ref (a 13)]))] s.heap := hP
  have hl := lv_entry ([.ref h0]) (n := 1) (Nat.le_of_ble_eq_true rfl)
  rw [lg_entry_eq]
  generalize (lg_sl ([.ref h0]) ++ List.replicate (1 - (lg_sl ([.ref h0])).length) Slot.unset).toArray = ls at hl ⊢
  have hl : lv_has ls 1 [(0, .ref h0)] := hl
  refine lv_aload_n hx hb dX11_read_0 rfl (lv_at hl 0 rfl) ?_
  refine va_get (D := (dC, dI)) (ci := 11) (v := .ref (a 3)) (C := RX11) (T := TX11) (N := 11) hx hb hts iwsPX11_read_in11 hown hK hP 0 rfl rfl 2 (by decide) (hts (.fieldLink RX11 23 "OptimaWorks" "model" "LOptimaWorks$Model;") (by decide +kernel)) (fun _ h9 => h9) rfl dX11_read_1 ?_
  have hPc := hP.sub (ws' := [((a 3), .inr (1, [.int 0, .int 0, .int 0, .int 0, .int 0, .int 0, .ref (a 4), .ref (a 5), .ref (a 6), .ref (a 7), .int 0, .ref (a 8), .ref (a 9), .ref (a 10), .ref (a 11), .ref (a 12), .ref (a 13)]))]) [2] rfl
  have hDc := hD.sub (ws' := [((a 3), .inr (1, [.int 0, .int 0, .int 0, .int 0, .int 0, .int 0, .ref (a 4), .ref (a 5), .ref (a 6), .ref (a 7), .int 0, .ref (a 8), .ref (a 9), .ref (a 10), .ref (a 11), .ref (a 12), .ref (a 13)]))]) [2] (by decide) rfl
  have hKc := hK.sub (tys' := []) [] rfl
  have hFc := va_free (wc := [((a 3), .inr (1, [.int 0, .int 0, .int 0, .int 0, .int 0, .int 0, .ref (a 4), .ref (a 5), .ref (a 6), .ref (a 7), .int 0, .ref (a 8), .ref (a 9), .ref (a 10), .ref (a 11), .ref (a 12), .ref (a 13)]))]) hD hS hA [2] rfl
  refine va_callv (va_runV (As := []) (rest := []) ⟨hx, hb, hml, hown, hts⟩ (p_X1_empty l dC dI (a 3) (.int 0) (.int 0) (.int 0) (.int 0) (.int 0) (.int 0) (.ref (a 4)) (.ref (a 5)) (.ref (a 6)) (.ref (a 7)) (.int 0) (.ref (a 8)) (.ref (a 9)) (.ref (a 10)) (.ref (a 11)) (.ref (a 12)) (.ref (a 13)) s.heap.size) (cwV 0 hts gwsPX11_read_0 rfl rfl rfl (by decide +kernel) ⟨by decide +kernel, by decide +kernel⟩) ⟨fun a U g mk q => by obtain ⟨q0, q1, qP, qK, qD⟩ := q; exact ⟨q0, q1, qP, va_K.moved (u := U) (U := U.calling g mk a) (Vm.Alike.refl U.vm) qK, qD⟩, va_recv hKc hPc (ci := 1) (q0 := 0) rfl rfl, fun U hU9 hW => ⟨rfl, by rw [hU9], by rw [hU9]; exact hPc, va_K.moved hW.alike hKc, hDc.weaken (fun _ _ _ _ => trivial)⟩⟩ rfl rfl hl.1 rfl (lv_room (Nat.le_of_ble_eq_true rfl)) dX11_read_4 ⟨by decide +kernel, by decide +kernel⟩) hS (fun q _ h => hFc q h) hFc (fun u t H1 locs ht hvm hw hB hz1 hk1 hS => ?_)
  obtain ⟨hP1, hK1, hD1⟩ := hB
  rw [ht] at hP1
  have hK1 := va_K.moved hvm.symm hK1
  obtain ⟨hP, hD⟩ := va_join (wr := [(h0, .inr (11, [.ref (a 0), .ref (a 1), .ref (a 3), .ref (a 14), .int 0, .null, .null, .null, .null, .null, .null])), ((a 1), .inr (9, [.ref (a 2), .int 0, .int 0, .int (-1), .int 0, .int 0, .int 0, .long 0, .int 0]))]) (w1 := [((a 3), .inr (1, [.int 0, .int 0, .int 0, .int 0, .int 0, .int 1, .ref (a 4), .ref (a 5), .ref (a 6), .ref (a 7), .int 0, .ref (a 8), .ref (a 9), .ref (a 10), .ref (a 11), .ref (a 12), .ref (a 13)]))]) hP hD [2] [0, 1] rfl rfl (by decide) (by decide) hk1 hFc hP1 hD1
  generalize H1 = H at hP hS ⊢
  have hP : va_P (dC, dI) vwCl [(h0, .inr (11, [.ref (a 0), .ref (a 1), .ref (a 3), .ref (a 14), .int 0, .null, .null, .null, .null, .null, .null])), ((a 1), .inr (9, [.ref (a 2), .int 0, .int 0, .int (-1), .int 0, .int 0, .int 0, .long 0, .int 0])), ((a 3), .inr (1, [.int 0, .int 0, .int 0, .int 0, .int 0, .int 1, .ref (a 4), .ref (a 5), .ref (a 6), .ref (a 7), .int 0, .ref (a 8), .ref (a 9), .ref (a 10), .ref (a 11), .ref (a 12), .ref (a 13)]))] H := hP
  have hD : va_D A [(h0, .inr (11, [.ref (a 0), .ref (a 1), .ref (a 3), .ref (a 14), .int 0, .null, .null, .null, .null, .null, .null])), ((a 1), .inr (9, [.ref (a 2), .int 0, .int 0, .int (-1), .int 0, .int 0, .int 0, .long 0, .int 0])), ((a 3), .inr (1, [.int 0, .int 0, .int 0, .int 0, .int 0, .int 1, .ref (a 4), .ref (a 5), .ref (a 6), .ref (a 7), .int 0, .ref (a 8), .ref (a 9), .ref (a 10), .ref (a 11), .ref (a 12), .ref (a 13)]))] := hD
  refine lv_aload_n hx hb dX11_read_7 rfl (lv_at hl 0 rfl) ?_
  refine va_get (D := (dC, dI)) (ci := 11) (v := .null) (C := RX11) (T := TX11) (N := 11) hx hb hts iwsPX11_read_in11 hown hK hP 0 rfl rfl 6 (by decide) (hts (.fieldLink RX11 48 "OptimaWorks" "solver" "LOptimaWorks$Solver;") (by decide +kernel)) (fun _ h9 => h9) rfl dX11_read_8 ?_
  refine lv_ifnullN (tgt := 21) hx hb dX11_read_11 (by decide) ?_
  refine lv_aload_n hx hb dX11_read_21 rfl (lv_at hl 0 rfl) ?_
  refine va_get (D := (dC, dI)) (ci := 11) (v := .null) (C := RX11) (T := TX11) (N := 11) hx hb hts iwsPX11_read_in11 hown hK hP 0 rfl rfl 7 (by decide) (hts (.fieldLink RX11 57 "OptimaWorks" "prover" "LOptimaWorks$Prover;") (by decide +kernel)) (fun _ h9 => h9) rfl dX11_read_22 ?_
  refine lv_ifnullN (tgt := 35) hx hb dX11_read_25 (by decide) ?_
  refine lv_aload_n hx hb dX11_read_35 rfl (lv_at hl 0 rfl) ?_
  refine va_get (D := (dC, dI)) (ci := 11) (v := .null) (C := RX11) (T := TX11) (N := 11) hx hb hts iwsPX11_read_in11 hown hK hP 0 rfl rfl 5 (by decide) (hts (.fieldLink RX11 64 "OptimaWorks" "reader" "LOptimaWorks$Reader;") (by decide +kernel)) (fun _ h9 => h9) rfl dX11_read_36 ?_
  refine lv_ifnonnullN hx hb dX11_read_39 ?_
  refine lv_aload_n hx hb dX11_read_42 rfl (lv_at hl 0 rfl) ?_
  refine va_new (ci := 4) (fs := [.null, .null, .null, .null, .int 0, .int 0, .long 0, .null, .int 0, .int 0, .int 0]) (C := RX4) (T := TX4) (N := 11) hx hb hts iwsPX11_read_in4 tyX4 tyX4_ok hown (hts (.classLink RX11 68 RX4) (by decide +kernel)) (hts (.instantiable RX4 11) (by decide +kernel)) (hts (.initialized RX4) (by decide +kernel)) hK hP hD hS hA rfl (by decide +kernel) (by decide +kernel) (by decide +kernel) dX11_read_43 (fun q43 H hP hD hS => ?_)
  have hP : va_P (dC, dI) vwCl [(h0, .inr (11, [.ref (a 0), .ref (a 1), .ref (a 3), .ref (a 14), .int 0, .null, .null, .null, .null, .null, .null])), ((a 1), .inr (9, [.ref (a 2), .int 0, .int 0, .int (-1), .int 0, .int 0, .int 0, .long 0, .int 0])), ((a 3), .inr (1, [.int 0, .int 0, .int 0, .int 0, .int 0, .int 1, .ref (a 4), .ref (a 5), .ref (a 6), .ref (a 7), .int 0, .ref (a 8), .ref (a 9), .ref (a 10), .ref (a 11), .ref (a 12), .ref (a 13)])), (q43, .inr (4, [.null, .null, .null, .null, .int 0, .int 0, .long 0, .null, .int 0, .int 0, .int 0]))] H := hP
  have hD : va_D A [(h0, .inr (11, [.ref (a 0), .ref (a 1), .ref (a 3), .ref (a 14), .int 0, .null, .null, .null, .null, .null, .null])), ((a 1), .inr (9, [.ref (a 2), .int 0, .int 0, .int (-1), .int 0, .int 0, .int 0, .long 0, .int 0])), ((a 3), .inr (1, [.int 0, .int 0, .int 0, .int 0, .int 0, .int 1, .ref (a 4), .ref (a 5), .ref (a 6), .ref (a 7), .int 0, .ref (a 8), .ref (a 9), .ref (a 10), .ref (a 11), .ref (a 12), .ref (a 13)])), (q43, .inr (4, [.null, .null, .null, .null, .int 0, .int 0, .long 0, .null, .int 0, .int 0, .int 0]))] := hD
  refine W.widen (k := 1) (n := 11) (by decide +kernel) (by decide +kernel) ?_
  refine lv_dup hx hb dX11_read_46 rfl ?_
  refine lv_aload_n hx hb dX11_read_47 rfl (lv_at hl 0 rfl) ?_
  refine va_get (D := (dC, dI)) (ci := 11) (v := .ref (a 1)) (C := RX11) (T := TX11) (N := 11) hx hb hts iwsPX11_read_in11 hown hK hP 0 rfl rfl 1 (by decide) (hts (.fieldLink RX11 16 "OptimaWorks" "words" "LOptimaWorks$Words;") (by decide +kernel)) (fun _ h9 => h9) rfl dX11_read_48 ?_
  refine lv_aload_n hx hb dX11_read_51 rfl (lv_at hl 0 rfl) ?_
  refine va_get (D := (dC, dI)) (ci := 11) (v := .ref (a 3)) (C := RX11) (T := TX11) (N := 11) hx hb hts iwsPX11_read_in11 hown hK hP 0 rfl rfl 2 (by decide) (hts (.fieldLink RX11 23 "OptimaWorks" "model" "LOptimaWorks$Model;") (by decide +kernel)) (fun _ h9 => h9) rfl dX11_read_52 ?_
  have hPc := hP.sub (ws' := [(q43, .inr (4, [.null, .null, .null, .null, .int 0, .int 0, .long 0, .null, .int 0, .int 0, .int 0]))]) [3] rfl
  have hDc := hD.sub (ws' := [(q43, .inr (4, [.null, .null, .null, .null, .int 0, .int 0, .long 0, .null, .int 0, .int 0, .int 0]))]) [3] (by decide) rfl
  have hKc := hK.sub (tys' := []) [] rfl
  have hFc := va_free (wc := [(q43, .inr (4, [.null, .null, .null, .null, .int 0, .int 0, .long 0, .null, .int 0, .int 0, .int 0]))]) hD hS hA [3] rfl
  refine va_callv (va_runI (As := [.ref (a 1), .ref (a 3)]) (rest := [.ref q43, .ref h0]) ⟨hx, hb, hml, hown, hts⟩ (p_X4_init l dC dI q43 (a 1) (a 3) H.size) (cwI 2 hts gwsPX11_read_1 rfl rfl rfl (hts (.initialized RX4) (by decide +kernel)) (hts (.methodLink RX11 70 yX4_init) (by decide +kernel)) (hts (.instanceMethod yX4_init) (by decide +kernel)) rfl (by decide +kernel) ⟨by decide +kernel, by decide +kernel⟩) ⟨fun a U g mk q => by obtain ⟨q0, q1, qP, qK, qD⟩ := q; exact ⟨q0, q1, qP, va_K.moved (u := U) (U := U.calling g mk a) (Vm.Alike.refl U.vm) qK, qD⟩, fun U hU9 hW => ⟨rfl, by rw [hU9], by rw [hU9]; exact hPc, va_K.moved hW.alike hKc, hDc.weaken (fun _ _ _ _ => trivial)⟩⟩ rfl rfl hl.1 rfl (lv_room (Nat.le_of_ble_eq_true rfl)) dX11_read_55 ⟨by decide +kernel, by decide +kernel⟩) hS (fun q _ h => hFc q h) hFc (fun u t H1 locs ht hvm hw hB hz1 hk1 hS => ?_)
  obtain ⟨wk55, tr55, bi55, y055, y155, y255, y355, y455, y555, y655, y755, y855, y955, kt55, kp55⟩ := u
  obtain ⟨hP1, hK1, hD1⟩ := hB
  rw [ht] at hP1
  have hK1 := va_K.moved hvm.symm hK1
  obtain ⟨hP, hD⟩ := va_join (wr := [(h0, .inr (11, [.ref (a 0), .ref (a 1), .ref (a 3), .ref (a 14), .int 0, .null, .null, .null, .null, .null, .null])), ((a 1), .inr (9, [.ref (a 2), .int 0, .int 0, .int (-1), .int 0, .int 0, .int 0, .long 0, .int 0])), ((a 3), .inr (1, [.int 0, .int 0, .int 0, .int 0, .int 0, .int 1, .ref (a 4), .ref (a 5), .ref (a 6), .ref (a 7), .int 0, .ref (a 8), .ref (a 9), .ref (a 10), .ref (a 11), .ref (a 12), .ref (a 13)]))]) (w1 := [(q43, .inr (4, [.ref (a 1), .ref (a 3), .ref wk55, .ref tr55, .int 0, .int 0, .long 0, .ref bi55, .int 0, .int 0, .int 0])), (wk55, .inr (10, [.ref (a 1), .ref (a 3), .null, .int 0, .ref y055, .ref y155, .ref y255, .ref y355, .ref y455, .int 0, .ref y555, .ref y655, .ref y755, .ref y855, .ref y955, .int 0, .int 0, .int 0, .long 0, .long 0])), (tr55, .inl (kt55, 7, .inl (fun _ => 0))), (y555, .inl (kp55, 0, .inl (fun _ => 0)))]) hP hD [3] [0, 1, 2] rfl rfl (by decide) (by decide) hk1 hFc hP1 hD1
  have hK := hK.app hK1
  generalize H1 = H at hP hS ⊢
  have hP : va_P (dC, dI) vwCl [(h0, .inr (11, [.ref (a 0), .ref (a 1), .ref (a 3), .ref (a 14), .int 0, .null, .null, .null, .null, .null, .null])), ((a 1), .inr (9, [.ref (a 2), .int 0, .int 0, .int (-1), .int 0, .int 0, .int 0, .long 0, .int 0])), ((a 3), .inr (1, [.int 0, .int 0, .int 0, .int 0, .int 0, .int 1, .ref (a 4), .ref (a 5), .ref (a 6), .ref (a 7), .int 0, .ref (a 8), .ref (a 9), .ref (a 10), .ref (a 11), .ref (a 12), .ref (a 13)])), (q43, .inr (4, [.ref (a 1), .ref (a 3), .ref wk55, .ref tr55, .int 0, .int 0, .long 0, .ref bi55, .int 0, .int 0, .int 0])), (wk55, .inr (10, [.ref (a 1), .ref (a 3), .null, .int 0, .ref y055, .ref y155, .ref y255, .ref y355, .ref y455, .int 0, .ref y555, .ref y655, .ref y755, .ref y855, .ref y955, .int 0, .int 0, .int 0, .long 0, .long 0])), (tr55, .inl (kt55, 7, .inl (fun _ => 0))), (y555, .inl (kp55, 0, .inl (fun _ => 0)))] H := hP
  have hD : va_D A [(h0, .inr (11, [.ref (a 0), .ref (a 1), .ref (a 3), .ref (a 14), .int 0, .null, .null, .null, .null, .null, .null])), ((a 1), .inr (9, [.ref (a 2), .int 0, .int 0, .int (-1), .int 0, .int 0, .int 0, .long 0, .int 0])), ((a 3), .inr (1, [.int 0, .int 0, .int 0, .int 0, .int 0, .int 1, .ref (a 4), .ref (a 5), .ref (a 6), .ref (a 7), .int 0, .ref (a 8), .ref (a 9), .ref (a 10), .ref (a 11), .ref (a 12), .ref (a 13)])), (q43, .inr (4, [.ref (a 1), .ref (a 3), .ref wk55, .ref tr55, .int 0, .int 0, .long 0, .ref bi55, .int 0, .int 0, .int 0])), (wk55, .inr (10, [.ref (a 1), .ref (a 3), .null, .int 0, .ref y055, .ref y155, .ref y255, .ref y355, .ref y455, .int 0, .ref y555, .ref y655, .ref y755, .ref y855, .ref y955, .int 0, .int 0, .int 0, .long 0, .long 0])), (tr55, .inl (kt55, 7, .inl (fun _ => 0))), (y555, .inl (kp55, 0, .inl (fun _ => 0)))] := hD
  have hK : va_K (dC, dI) vwCl [(kt55, .int), (kp55, .int)] s := hK
  refine W.widen (k := 14) (n := 1086) (by decide +kernel) (by decide +kernel) ?_
  refine va_put (D := (dC, dI)) (ci := 11) (v := .ref q43) (ty := .object "OptimaWorks$Reader") (C := RX11) (T := TX11) (N := 11) hx hb hts iwsPX11_read_in11 tyX11 tyX11_ok nmX11 hown hK hP hD hS 0 rfl rfl 5 (by decide) (hts (.fieldLink RX11 64 "OptimaWorks" "reader" "LOptimaWorks$Reader;") (by decide +kernel)) (fun _ h9 => h9) rfl (by decide +kernel) rfl rfl (Nat.le_of_ble_eq_true rfl) dX11_read_58 (fun H locs hP hD hS => ?_)
  have hP : va_P (dC, dI) vwCl [(h0, .inr (11, [.ref (a 0), .ref (a 1), .ref (a 3), .ref (a 14), .int 0, .ref q43, .null, .null, .null, .null, .null])), ((a 1), .inr (9, [.ref (a 2), .int 0, .int 0, .int (-1), .int 0, .int 0, .int 0, .long 0, .int 0])), ((a 3), .inr (1, [.int 0, .int 0, .int 0, .int 0, .int 0, .int 1, .ref (a 4), .ref (a 5), .ref (a 6), .ref (a 7), .int 0, .ref (a 8), .ref (a 9), .ref (a 10), .ref (a 11), .ref (a 12), .ref (a 13)])), (q43, .inr (4, [.ref (a 1), .ref (a 3), .ref wk55, .ref tr55, .int 0, .int 0, .long 0, .ref bi55, .int 0, .int 0, .int 0])), (wk55, .inr (10, [.ref (a 1), .ref (a 3), .null, .int 0, .ref y055, .ref y155, .ref y255, .ref y355, .ref y455, .int 0, .ref y555, .ref y655, .ref y755, .ref y855, .ref y955, .int 0, .int 0, .int 0, .long 0, .long 0])), (tr55, .inl (kt55, 7, .inl (fun _ => 0))), (y555, .inl (kp55, 0, .inl (fun _ => 0)))] H := hP
  have hD : va_D A [(h0, .inr (11, [.ref (a 0), .ref (a 1), .ref (a 3), .ref (a 14), .int 0, .ref q43, .null, .null, .null, .null, .null])), ((a 1), .inr (9, [.ref (a 2), .int 0, .int 0, .int (-1), .int 0, .int 0, .int 0, .long 0, .int 0])), ((a 3), .inr (1, [.int 0, .int 0, .int 0, .int 0, .int 0, .int 1, .ref (a 4), .ref (a 5), .ref (a 6), .ref (a 7), .int 0, .ref (a 8), .ref (a 9), .ref (a 10), .ref (a 11), .ref (a 12), .ref (a 13)])), (q43, .inr (4, [.ref (a 1), .ref (a 3), .ref wk55, .ref tr55, .int 0, .int 0, .long 0, .ref bi55, .int 0, .int 0, .int 0])), (wk55, .inr (10, [.ref (a 1), .ref (a 3), .null, .int 0, .ref y055, .ref y155, .ref y255, .ref y355, .ref y455, .int 0, .ref y555, .ref y655, .ref y755, .ref y855, .ref y955, .int 0, .int 0, .int 0, .long 0, .long 0])), (tr55, .inl (kt55, 7, .inl (fun _ => 0))), (y555, .inl (kp55, 0, .inl (fun _ => 0)))] := hD
  refine lv_aload_n hx hb dX11_read_61 rfl (lv_at hl 0 rfl) ?_
  refine va_get (D := (dC, dI)) (ci := 11) (v := .ref q43) (C := RX11) (T := TX11) (N := 11) hx hb hts iwsPX11_read_in11 hown hK hP 0 rfl rfl 5 (by decide) (hts (.fieldLink RX11 64 "OptimaWorks" "reader" "LOptimaWorks$Reader;") (by decide +kernel)) (fun _ h9 => h9) rfl dX11_read_62 ?_
  have hPc := hP.sub (ws' := [(q43, .inr (4, [.ref (a 1), .ref (a 3), .ref wk55, .ref tr55, .int 0, .int 0, .long 0, .ref bi55, .int 0, .int 0, .int 0])), (wk55, .inr (10, [.ref (a 1), .ref (a 3), .null, .int 0, .ref y055, .ref y155, .ref y255, .ref y355, .ref y455, .int 0, .ref y555, .ref y655, .ref y755, .ref y855, .ref y955, .int 0, .int 0, .int 0, .long 0, .long 0])), ((a 1), .inr (9, [.ref (a 2), .int 0, .int 0, .int (-1), .int 0, .int 0, .int 0, .long 0, .int 0])), (tr55, .inl (kt55, 7, .inl (fun _ => 0))), (y555, .inl (kp55, 0, .inl (fun _ => 0)))]) [3, 4, 1, 5, 6] rfl
  have hDc := hD.sub (ws' := [(q43, .inr (4, [.ref (a 1), .ref (a 3), .ref wk55, .ref tr55, .int 0, .int 0, .long 0, .ref bi55, .int 0, .int 0, .int 0])), (wk55, .inr (10, [.ref (a 1), .ref (a 3), .null, .int 0, .ref y055, .ref y155, .ref y255, .ref y355, .ref y455, .int 0, .ref y555, .ref y655, .ref y755, .ref y855, .ref y955, .int 0, .int 0, .int 0, .long 0, .long 0])), ((a 1), .inr (9, [.ref (a 2), .int 0, .int 0, .int (-1), .int 0, .int 0, .int 0, .long 0, .int 0])), (tr55, .inl (kt55, 7, .inl (fun _ => 0))), (y555, .inl (kp55, 0, .inl (fun _ => 0)))]) [3, 4, 1, 5, 6] (by decide) rfl
  have hKc := hK.sub (tys' := [(kt55, .int), (kp55, .int)]) [0, 1] rfl
  have hFc := va_free (wc := [(q43, .inr (4, [.ref (a 1), .ref (a 3), .ref wk55, .ref tr55, .int 0, .int 0, .long 0, .ref bi55, .int 0, .int 0, .int 0])), (wk55, .inr (10, [.ref (a 1), .ref (a 3), .null, .int 0, .ref y055, .ref y155, .ref y255, .ref y355, .ref y455, .int 0, .ref y555, .ref y655, .ref y755, .ref y855, .ref y955, .int 0, .int 0, .int 0, .long 0, .long 0])), ((a 1), .inr (9, [.ref (a 2), .int 0, .int 0, .int (-1), .int 0, .int 0, .int 0, .long 0, .int 0])), (tr55, .inl (kt55, 7, .inl (fun _ => 0))), (y555, .inl (kp55, 0, .inl (fun _ => 0)))]) hD hS hA [3, 4, 1, 5, 6] rfl
  refine va_calli (vx_runVW (As := []) (rest := []) ⟨hx, hb, hml, hown, hts⟩ (p_X4_readAll l dC dI q43 (a 1) (a 3) wk55 tr55 bi55 y055 y155 y255 y355 y455 y555 y655 y755 y855 y955 kt55 kp55 (a 2) (.int 0) (.int (-1)) (.int 0) (.int 0) (.int 0) (.long 0) (.int 0) H.size) (vx_cwVW 0 hts gwsPX11_read_2 rfl rfl rfl (by decide +kernel) ⟨by decide +kernel, by decide +kernel⟩) ⟨fun a U g mk q => by obtain ⟨q0, q1, qP, qK, qD⟩ := q; exact ⟨q0, q1, qP, va_K.moved (u := U) (U := U.calling g mk a) (Vm.Alike.refl U.vm) qK, qD⟩, va_recv hKc hPc (ci := 4) (q0 := 0) rfl rfl, fun U hU9 hW => ⟨rfl, by rw [hU9], by rw [hU9]; exact hPc, va_K.moved hW.alike hKc, hDc.weaken (fun _ _ _ _ => trivial)⟩⟩ rfl rfl hl.1 rfl (lv_room (Nat.le_of_ble_eq_true rfl)) dX11_read_65 ⟨by decide +kernel, by decide +kernel⟩) hS (fun q _ h => hFc q h) hFc (fun r65 u t H1 locs ht hvm hw hB hz1 hk1 hS => ?_)
  obtain ⟨hP1, hK1, hD1⟩ := hB
  rw [ht] at hP1
  have hK1 := va_K.moved hvm.symm hK1
  obtain ⟨hP, hD⟩ := va_join (wr := [(h0, .inr (11, [.ref (a 0), .ref (a 1), .ref (a 3), .ref (a 14), .int 0, .ref q43, .null, .null, .null, .null, .null])), ((a 3), .inr (1, [.int 0, .int 0, .int 0, .int 0, .int 0, .int 1, .ref (a 4), .ref (a 5), .ref (a 6), .ref (a 7), .int 0, .ref (a 8), .ref (a 9), .ref (a 10), .ref (a 11), .ref (a 12), .ref (a 13)]))]) (w1 := []) hP hD [3, 4, 1, 5, 6] [0, 2] rfl rfl (by decide) (by decide) hk1 hFc hP1 hD1
  generalize H1 = H at hP hS ⊢
  have hP : va_P (dC, dI) vwCl [(h0, .inr (11, [.ref (a 0), .ref (a 1), .ref (a 3), .ref (a 14), .int 0, .ref q43, .null, .null, .null, .null, .null])), ((a 3), .inr (1, [.int 0, .int 0, .int 0, .int 0, .int 0, .int 1, .ref (a 4), .ref (a 5), .ref (a 6), .ref (a 7), .int 0, .ref (a 8), .ref (a 9), .ref (a 10), .ref (a 11), .ref (a 12), .ref (a 13)]))] H := hP
  have hD : va_D A [(h0, .inr (11, [.ref (a 0), .ref (a 1), .ref (a 3), .ref (a 14), .int 0, .ref q43, .null, .null, .null, .null, .null])), ((a 3), .inr (1, [.int 0, .int 0, .int 0, .int 0, .int 0, .int 1, .ref (a 4), .ref (a 5), .ref (a 6), .ref (a 7), .int 0, .ref (a 8), .ref (a 9), .ref (a 10), .ref (a 11), .ref (a 12), .ref (a 13)]))] := hD
  refine W.widen (k := 15) (n := 1198) (by decide +kernel) (by decide +kernel) ?_
  obtain rfl := hw
  refine lv_if_ne (tgt := 86) hx hb dX11_read_68 (by decide) (fun _ => ?_) (fun c9 => absurd c9 (by decide))
  refine lv_aload_n hx hb dX11_read_86 rfl (lv_at hl 0 rfl) ?_
  refine va_get (D := (dC, dI)) (ci := 11) (v := .ref (a 3)) (C := RX11) (T := TX11) (N := 11) hx hb hts iwsPX11_read_in11 hown hK hP 0 rfl rfl 2 (by decide) (hts (.fieldLink RX11 23 "OptimaWorks" "model" "LOptimaWorks$Model;") (by decide +kernel)) (fun _ h9 => h9) rfl dX11_read_87 ?_
  refine lv_iconst (v := 1) hx hb dX11_read_90 (by decide) ?_
  refine va_put (D := (dC, dI)) (ci := 1) (v := .int 1) (ty := .boolean) (C := RX1) (T := TX1) (N := 17) hx hb hts iwsPX11_read_in1 tyX1 tyX1_ok nmX1 hown hK hP hD hS 1 rfl rfl 0 (by decide) (hts (.fieldLink RX11 80 "OptimaWorks$Model" "stands" "Z") (by decide +kernel)) (fun _ h9 => h9) rfl (by decide +kernel) rfl rfl (Nat.le_of_ble_eq_true rfl) dX11_read_91 (fun H locs hP hD hS => ?_)
  have hP : va_P (dC, dI) vwCl [(h0, .inr (11, [.ref (a 0), .ref (a 1), .ref (a 3), .ref (a 14), .int 0, .ref q43, .null, .null, .null, .null, .null])), ((a 3), .inr (1, [.int 1, .int 0, .int 0, .int 0, .int 0, .int 1, .ref (a 4), .ref (a 5), .ref (a 6), .ref (a 7), .int 0, .ref (a 8), .ref (a 9), .ref (a 10), .ref (a 11), .ref (a 12), .ref (a 13)]))] H := hP
  have hD : va_D A [(h0, .inr (11, [.ref (a 0), .ref (a 1), .ref (a 3), .ref (a 14), .int 0, .ref q43, .null, .null, .null, .null, .null])), ((a 3), .inr (1, [.int 1, .int 0, .int 0, .int 0, .int 0, .int 1, .ref (a 4), .ref (a 5), .ref (a 6), .ref (a 7), .int 0, .ref (a 8), .ref (a 9), .ref (a 10), .ref (a 11), .ref (a 12), .ref (a 13)]))] := hD
  refine lv_aload_n hx hb dX11_read_94 rfl (lv_at hl 0 rfl) ?_
  refine va_get (D := (dC, dI)) (ci := 11) (v := .ref (a 3)) (C := RX11) (T := TX11) (N := 11) hx hb hts iwsPX11_read_in11 hown hK hP 0 rfl rfl 2 (by decide) (hts (.fieldLink RX11 23 "OptimaWorks" "model" "LOptimaWorks$Model;") (by decide +kernel)) (fun _ h9 => h9) rfl dX11_read_95 ?_
  refine va_get (D := (dC, dI)) (ci := 1) (v := .int 0) (C := RX1) (T := TX1) (N := 17) hx hb hts iwsPX11_read_in1 hown hK hP 1 rfl rfl 1 (by decide) (hts (.fieldLink RX11 84 "OptimaWorks$Model" "variables" "I") (by decide +kernel)) (fun _ h9 => h9) rfl dX11_read_98 ?_
  refine W.widen (k := 15) (n := 1198) (by decide +kernel) (by decide +kernel) ?_
  exact W.iret (v := 0) hx hb hr (fun t ht hW => ⟨⟨0, (), rfl, by (first | rfl | assumption | trivial | omega | (simp []; done) | (simp; omega)), by rw [ht]; exact hP.sub [] rfl, va_K.moved hW.alike (hK.sub [] rfl), hD.sub [] (by decide) rfl⟩, hS.F ht⟩) hS.2.2 dX11_read_101
theorem dX12_byteAt_0 : decode cX12_byteAt 0 = .ok (.iload_n 1, 1) := by decide +kernel
theorem dX12_byteAt_1 : decode cX12_byteAt 1 = .ok (.aload_n 0, 1) := by decide +kernel
theorem dX12_byteAt_2 : decode cX12_byteAt 2 = .ok (.getfield 468, 3) := by decide +kernel
theorem dX12_byteAt_5 : decode cX12_byteAt 5 = .ok (.if_icmp .ge 16, 3) := by decide +kernel
theorem dX12_byteAt_21 : decode cX12_byteAt 21 = .ok (.iconst (-1), 1) := by decide +kernel
theorem dX12_byteAt_22 : decode cX12_byteAt 22 = .ok (.ireturn, 1) := by decide +kernel
def wsPX12_byteAt : List Cond := .code yX12_byteAt cX12_byteAt 2 (some .int) :: ([.fieldLink RX12 468 "OptimaWorksModel" "taped" "I"] ++ wsX120)
theorem iwsPX12_byteAt_in12 : ∀ w ∈ wsX120, w ∈ wsPX12_byteAt := fun _ h => List.mem_cons_of_mem _ (List.mem_append_right _ h)
set_option maxHeartbeats 4000000 in
set_option maxRecDepth 100000 in
/-- byteAt(k) on an empty tape -/
theorem p_X12_byteAt (l : Launch) (dC : Nat → ClassId) (dI : Nat → Nat → Nat) (h0 : Nat) (v : Nat → Value) (h_taped : v 16 = .int 0) (qk : Int32) (hk : 0 ≤ (qk).toInt) (sz : Nat) : Met l yX12_byteAt wsPX12_byteAt ({ frames := 0, cells := 0, slots := 0, locals := 0 }) (va_Pc [.ref h0, .int qk] (fun U => U.heap.size = sz ∧ va_P (dC, dI) vwCl [(h0, .inr (12, fM v))] U.heap ∧ va_K (dC, dI) vwCl [] U ∧ va_D (fun _ => True) [(h0, .inr (12, fM v))])) (va_Qi (fun (r : Int32) (u : Unit) => r = (-1)) (fun (u : Unit) t => va_P (dC, dI) vwCl [(h0, .inr (12, fM v))] t.heap ∧ va_K (dC, dI) vwCl [] t ∧ va_D (va_A [(h0, .inr (12, fM v))] sz) [(h0, .inr (12, fM v))]) (va_A [(h0, .inr (12, fM v))] sz)) 0 0 (va_A [(h0, .inr (12, fM v))] sz) := by
  refine Met.ofW (cc := cX12_byteAt) (maxL := 2) (ret := (some .int)) (by decide) rfl ?_
  intro p e s m args below meth c s₁ B hml hv
  obtain ⟨rfl, hsz, hP, hK, hD0⟩ := hv
  have hx := B.exec
  have hb := B.bytes
  have hr := B.returns
  have hts := atoms_spec (ws := wsPX12_byteAt) B.pre
  have hown : s.vm.findClass RX12 = some m.cls := findClass_of_methodNamed B.named
  have hlocks := B.notSynchronized
  subst hsz
  have hD := hD0.self (sz := s.heap.size)
  generalize hAe : va_A [(h0, .inr (12, fM v))] s.heap.size = A at hD ⊢
  have hA : ∀ q : Nat, s.heap.size ≤ q → A q := fun q h => by rw [← hAe]; exact Or.inr h
  have hS : va_S A s.heap s.heap [] := va_S.rf
  have hP : va_P (dC, dI) vwCl [(h0, .inr (12, fM v))] s.heap := hP
  have hl := lv_entry ([.ref h0, .int qk]) (n := 2) (Nat.le_of_ble_eq_true rfl)
  rw [lg_entry_eq]
  generalize (lg_sl ([.ref h0, .int qk]) ++ List.replicate (2 - (lg_sl ([.ref h0, .int qk])).length) Slot.unset).toArray = ls at hl ⊢
  have hl : lv_has ls 2 [(0, .ref h0), (1, .int qk)] := hl
  refine lv_iload_n hx hb dX12_byteAt_0 rfl (lv_at hl 1 rfl) ?_
  refine lv_aload_n hx hb dX12_byteAt_1 rfl (lv_at hl 0 rfl) ?_
  refine va_get (D := (dC, dI)) (ci := 12) (v := .int 0) (C := RX12) (T := TX12) (N := 163) hx hb hts iwsPX12_byteAt_in12 hown hK hP 0 rfl rfl 16 (by decide) (hts (.fieldLink RX12 468 "OptimaWorksModel" "taped" "I") (by decide +kernel)) (fun _ h9 => h9) (congrArg some h_taped) dX12_byteAt_2 ?_
  refine lv_icmp_ge (tgt := 21) hx hb dX12_byteAt_5 (by decide) (fun c_5 => ?_) (fun c9 => False.elim (by have t9 : ¬ (qk).toInt ≥ 0 := toI_nge c9 rfl (by decide); omega))
  have t_5 : (qk).toInt ≥ 0 := toI_ge c_5 rfl (by decide)
  refine lv_iconst (v := (-1)) hx hb dX12_byteAt_21 (by decide) ?_
  refine W.widen (k := 0) (n := 0) (by decide +kernel) (by decide +kernel) ?_
  exact W.iret (v := (-1)) hx hb hr (fun t ht hW => ⟨⟨(-1), (), rfl, by (first | rfl | assumption | trivial | omega | (simp []; done) | (simp; omega)), by rw [ht]; exact hP.sub [0] rfl, va_K.moved hW.alike (hK.sub [] rfl), hD.sub [0] (by decide) rfl⟩, hS.F ht⟩) hS.2.2 dX12_byteAt_22

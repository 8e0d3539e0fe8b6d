def WH (hH : Nat → Nat) (aH : Nat → Nat) (kH : Nat → ClassId) (nH : Nat) (fH : Nat → Int32) : va_W := [(aH 0, .inl (kH 0, nH, .inl fH))]
def tH (kH : Nat → ClassId) : List (ClassId × FieldType) := [(kH 0, .byte)]
theorem dJ7_copyOf_9075b_0 : decode cJ7_copyOf_9075b 0 = .ok (.iload_n 1, 1) := dk_27 (by decide +kernel)
theorem dJ7_copyOf_9075b_1 : decode cJ7_copyOf_9075b 1 = .ok (.aload_n 0, 1) := dk_42 (by decide +kernel)
theorem dJ7_copyOf_9075b_2 : decode cJ7_copyOf_9075b 2 = .ok (.arraylength, 1) := dk_190 (by decide +kernel)
theorem dJ7_copyOf_9075b_3 : decode cJ7_copyOf_9075b 3 = .ok (.if_icmp .ne 11, 3) := dk_160 (by decide +kernel)
theorem dJ7_copyOf_9075b_14 : decode cJ7_copyOf_9075b 14 = .ok (.iload_n 1, 1) := dk_27 (by decide +kernel)
theorem dJ7_copyOf_9075b_15 : decode cJ7_copyOf_9075b 15 = .ok (.newarray .byte, 2) := by decide +kernel
theorem dJ7_copyOf_9075b_17 : decode cJ7_copyOf_9075b 17 = .ok (.astore_n 2, 1) := dk_77 (by decide +kernel)
theorem dJ7_copyOf_9075b_18 : decode cJ7_copyOf_9075b 18 = .ok (.aload_n 0, 1) := dk_42 (by decide +kernel)
theorem dJ7_copyOf_9075b_19 : decode cJ7_copyOf_9075b 19 = .ok (.iconst 0, 1) := dk_3 (by decide +kernel)
theorem dJ7_copyOf_9075b_20 : decode cJ7_copyOf_9075b 20 = .ok (.aload_n 2, 1) := dk_44 (by decide +kernel)
theorem dJ7_copyOf_9075b_21 : decode cJ7_copyOf_9075b 21 = .ok (.iconst 0, 1) := dk_3 (by decide +kernel)
theorem dJ7_copyOf_9075b_22 : decode cJ7_copyOf_9075b 22 = .ok (.aload_n 0, 1) := dk_42 (by decide +kernel)
theorem dJ7_copyOf_9075b_23 : decode cJ7_copyOf_9075b 23 = .ok (.arraylength, 1) := dk_190 (by decide +kernel)
theorem dJ7_copyOf_9075b_24 : decode cJ7_copyOf_9075b 24 = .ok (.iload_n 1, 1) := dk_27 (by decide +kernel)
theorem dJ7_copyOf_9075b_25 : decode cJ7_copyOf_9075b 25 = .ok (.invokestatic 304, 3) := dk_184 (by decide +kernel)
theorem dJ7_copyOf_9075b_28 : decode cJ7_copyOf_9075b 28 = .ok (.invokestatic 150, 3) := dk_184 (by decide +kernel)
theorem dJ7_copyOf_9075b_31 : decode cJ7_copyOf_9075b 31 = .ok (.aload_n 2, 1) := dk_44 (by decide +kernel)
theorem dJ7_copyOf_9075b_32 : decode cJ7_copyOf_9075b 32 = .ok (.areturn, 1) := dk_176 (by decide +kernel)
def wsMJ7_copyOf_9075b : List Cond := .code yJ7_copyOf_9075b cJ7_copyOf_9075b 3 (some (.array .byte)) :: ([.arrayClass .byte, .methodLink RJ7 304 Lib.Math.min.name, .static Lib.Math.min.name, .initialized "java/lang/Math", .code Lib.Math.min.name Lib.Math.min.code 2 (some .int), .methodLink RJ7 150 arraycopyName, .native arraycopyName, .static arraycopyName, .initialized "java/lang/System"])
theorem gdwsMJ7_copyOf_9075b : wsMJ7_copyOf_9075b.all goodWord = true := gdC rfl (by decide +kernel : ([.arrayClass .byte, .methodLink RJ7 304 Lib.Math.min.name, .static Lib.Math.min.name, .initialized "java/lang/Math", .code Lib.Math.min.name Lib.Math.min.code 2 (some .int), .methodLink RJ7 150 arraycopyName, .native arraycopyName, .static arraycopyName, .initialized "java/lang/System"] : List Cond).all goodWord = true)
set_option maxHeartbeats 4000000 in
set_option maxRecDepth 100000 in
/-- Arrays.copyOf of bytes -/
theorem m_J7_copyOf_9075b (l : Launch) (dC : Nat → ClassId) (dI : Nat → Nat → Nat) (hH : Nat → Nat) (aH : Nat → Nat) (kH : Nat → ClassId) (nH : Nat) (fH : Nat → Int32) (p1 : Int32) (nn : Nat) (b_nH : 0 ≤ nH ∧ nH ≤ 1000000) (b_fH : ∀ q : Nat, (-128) ≤ (fH q).toInt ∧ (fH q).toInt ≤ 127) (hp1 : p1.toInt = ((nn : Nat) : Int)) (hne : nH < nn) (hle : nn ≤ 1000000) (sz : Nat) : Met l yJ7_copyOf_9075b wsMJ7_copyOf_9075b ({ frames := 1, cells := 1, slots := nn, locals := 18 }) (va_Pc [.ref (aH 0), .int p1] (fun U => U.heap.size = sz ∧ va_P (dC, dI) vwCl (WH hH aH kH nH fH) U.heap ∧ va_K (dC, dI) vwCl (tH kH) U ∧ va_D (fun _ => True) (WH hH aH kH nH fH))) (va_Qr (fun (u : Nat → Int32) => ∀ q : Nat, (-128) ≤ (u q).toInt ∧ (u q).toInt ≤ 127) (fun u ra t => va_P (dC, dI) vwCl ((WH hH aH kH nH fH) ++ [(ra, .inl (kH 0, nn, .inl u))]) t.heap ∧ va_D (va_A (WH hH aH kH nH fH) sz) ((WH hH aH kH nH fH) ++ [(ra, .inl (kH 0, nn, .inl u))])) (va_A (WH hH aH kH nH fH) sz)) 1 nn (va_A (WH hH aH kH nH fH) sz) := by
  refine Met.ofW (cc := cJ7_copyOf_9075b) (maxL := 3) (ret := (some (.array .byte))) (by decide) rfl ?_
  intro p e s m args below meth c s₁ B hml hv
  obtain ⟨rfl, hsz, hP, hK, hD0⟩ := hv
  have hx := B.exec
  have hb := B.bytes
  have hr := B.returns
  have hts := atoms_spec (ws := wsMJ7_copyOf_9075b) B.pre
  have hown : s.vm.findClass RJ7 = some m.cls := findClass_of_methodNamed B.named
  have hlocks := B.notSynchronized
  subst hsz
  have hD := hD0.self (sz := s.heap.size)
  generalize hAe : va_A (WH hH aH kH nH fH) s.heap.size = A at hD ⊢
  have hA : ∀ q : Nat, s.heap.size ≤ q → A q := fun q h => by rw [← hAe]; exact Or.inr h
  have hS : va_S A s.heap s.heap [] := va_S.rf
  have hl := lv_entry ([.ref (aH 0), .int p1]) (n := 3) (Nat.le_of_ble_eq_true rfl)
  rw [lg_entry_eq]
  generalize (lg_sl ([.ref (aH 0), .int p1]) ++ List.replicate (3 - (lg_sl ([.ref (aH 0), .int p1])).length) Slot.unset).toArray = ls at hl ⊢
  have hl : lv_has ls 3 [(0, .ref (aH 0)), (1, .int p1)] := hl
  refine lv_iload_n hx hb dJ7_copyOf_9075b_0 rfl (lv_at hl 1 rfl) ?_
  refine lv_aload_n hx hb dJ7_copyOf_9075b_1 rfl (lv_at hl 0 rfl) ?_
  refine va_alen hx hb hK hP 0 0 rfl rfl (v := (iI ((nH : Nat) : Int))) (iI_nat _) dJ7_copyOf_9075b_2 ?_
  refine lv_icmp_ne (tgt := 14) hx hb dJ7_copyOf_9075b_3 (by decide) (fun c_3 => ?_) (fun c9 => False.elim (by have t9 : p1.toInt = ((nH : Nat) : Int) := toI_nne c9 rfl (iI_t (by omega) (by omega)); omega))
  first | (have t_3 : p1.toInt ≠ ((nH : Nat) : Int) := toI_ne c_3 rfl (iI_t (by omega) (by omega))) | skip
  refine lv_iload_n hx hb dJ7_copyOf_9075b_14 rfl (lv_at hl 1 rfl) ?_
  have hnn : ((nn : Nat) : Int) = p1.toInt := by omega
  refine va_newa (atype := .byte) (ty := .byte) (N' := nn) (a0 := (nn, .inl (fun _ => 0))) hx hb (hts (.arrayClass .byte) (by decide +kernel)) rfl hK hP hD hS hA (fun _ => rfl) (nn_i rfl (by omega)) (clampN rfl hnn) (by show nn * 1 ≤ 536870912; omega) (by (dsimp only [headSpec] <;> omega)) (by (dsimp only [headSpec] <;> omega)) dJ7_copyOf_9075b_15 (fun qn1 cA H hKn hP hD hS => ?_)
  obtain rfl : cA = kH 0 := hKn.cls (i := 0) (j := 1) rfl rfl (by simp)
  clear hKn
  have hP : va_P (dC, dI) vwCl ((WH hH aH kH nH fH) ++ [(qn1, .inl (kH 0, nn, .inl (fun _ => 0)))]) H := hP
  have hD : va_D A ((WH hH aH kH nH fH) ++ [(qn1, .inl (kH 0, nn, .inl (fun _ => 0)))]) := hD
  refine lv_astore_n hx hb dJ7_copyOf_9075b_17 rfl hl (by decide) rfl (fun ls (hl : lv_has ls _ ([(2, .ref qn1), (0, .ref (aH 0)), (1, .int p1)])) => ?_)
  refine lv_aload_n hx hb dJ7_copyOf_9075b_18 rfl (lv_at hl 1 rfl) ?_
  refine lv_iconst (v := 0) hx hb dJ7_copyOf_9075b_19 (by decide) ?_
  refine lv_aload_n hx hb dJ7_copyOf_9075b_20 rfl (lv_at hl 0 rfl) ?_
  refine lv_iconst (v := 0) hx hb dJ7_copyOf_9075b_21 (by decide) ?_
  refine lv_aload_n hx hb dJ7_copyOf_9075b_22 rfl (lv_at hl 1 rfl) ?_
  refine va_alen hx hb hK hP 0 0 rfl rfl (v := (iI ((nH : Nat) : Int))) (iI_nat _) dJ7_copyOf_9075b_23 ?_
  refine lv_iload_n hx hb dJ7_copyOf_9075b_24 rfl (lv_at hl 2 rfl) ?_
  refine va_mmin hx hb (by rw [hml]; exact hl.1.symm) hown (hts (.methodLink RJ7 304 Lib.Math.min.name) (by decide +kernel)) (hts (.static Lib.Math.min.name) (by decide +kernel)) (hts (.initialized "java/lang/Math") (by decide +kernel)) (hts (.code Lib.Math.min.name Lib.Math.min.code 2 (some .int)) (by decide +kernel)) (by (dsimp only [headSpec] <;> omega)) (Nat.le_of_ble_eq_true rfl) (by (dsimp only [headSpec] <;> omega)) (by (dsimp only [headSpec] <;> omega)) dJ7_copyOf_9075b_25 ?_
  refine lv_topi (fun v2 hv2 => ?_)
  first | (have b_v2 : (v2.toInt ≤ ((nH : Nat) : Int) ∧ v2.toInt ≤ p1.toInt) ∧ (v2.toInt = ((nH : Nat) : Int) ∨ v2.toInt = p1.toInt) := by rw [hv2]; exact min_t (iI_t (by omega) (by omega)) rfl) | skip
  clear hv2
  refine va_copyi hx hb (by rw [hml]; exact hl.1.symm) hown (hts (.methodLink RJ7 150 arraycopyName) (by decide +kernel)) (hts (.native arraycopyName) (by decide +kernel)) (hts (.static arraycopyName) (by decide +kernel)) (hts (.initialized "java/lang/System") (by decide +kernel)) hK hP hD hS 0 1 0 0 rfl rfl rfl rfl rfl (by decide) (by decide) (nn_i rfl (by omega)) (cp_fit (by decide : (0 : Int32).toInt = 0) rfl (by omega) (by omega) (by omega)) (cp_fit (by decide : (0 : Int32).toInt = 0) rfl (by omega) (by omega) (by omega)) (fun i9 h9 => fits_b (b_fH _)) (by dsimp only [headSpec]; omega) (by dsimp only [headSpec]; decide) dJ7_copyOf_9075b_28 (fun H locs hP hD hS => ?_)
  obtain ⟨u3, hu3⟩ : ∃ f9, f9 = va_cpy fH (fun _ => 0) (0 : Int32).toNatClampNeg (0 : Int32).toNatClampNeg (v2).toNatClampNeg := ⟨_, rfl⟩
  have hP : va_P (dC, dI) vwCl ((WH hH aH kH nH fH) ++ [(qn1, .inl (kH 0, nn, .inl u3))]) H := by rw [hu3]; exact hP
  have hD : va_D A ((WH hH aH kH nH fH) ++ [(qn1, .inl (kH 0, nn, .inl u3))]) := by rw [hu3]; exact hD
  have b_u3 : ∀ q : Nat, (-128) ≤ (u3 q).toInt ∧ (u3 q).toInt ≤ 127 := by rw [hu3]; exact cpy_r b_fH (fun _ => by decide)
  clear hu3
  refine lv_aload_n hx hb dJ7_copyOf_9075b_31 rfl (lv_at hl 0 rfl) ?_
  refine W.widen (k := 1) (n := nn) (by omega) (by omega) ?_
  exact W.aret hx hb hr (Or.inr ⟨_, rfl⟩) (Or.inr ⟨_, rfl⟩) (fun t9_ ht hW => ⟨⟨u3, _, rfl, b_u3, by rw [ht]; exact hP, hD⟩, hS.F ht⟩) hS.2.2 dJ7_copyOf_9075b_32
theorem dJ7_copyOf_c38d5_0 : decode cJ7_copyOf_c38d5 0 = .ok (.iload_n 1, 1) := dk_27 (by decide +kernel)
theorem dJ7_copyOf_c38d5_1 : decode cJ7_copyOf_c38d5 1 = .ok (.aload_n 0, 1) := dk_42 (by decide +kernel)
theorem dJ7_copyOf_c38d5_2 : decode cJ7_copyOf_c38d5 2 = .ok (.arraylength, 1) := dk_190 (by decide +kernel)
theorem dJ7_copyOf_c38d5_3 : decode cJ7_copyOf_c38d5 3 = .ok (.if_icmp .ne 11, 3) := dk_160 (by decide +kernel)
theorem dJ7_copyOf_c38d5_14 : decode cJ7_copyOf_c38d5 14 = .ok (.iload_n 1, 1) := dk_27 (by decide +kernel)
theorem dJ7_copyOf_c38d5_15 : decode cJ7_copyOf_c38d5 15 = .ok (.newarray .long, 2) := by decide +kernel
theorem dJ7_copyOf_c38d5_17 : decode cJ7_copyOf_c38d5 17 = .ok (.astore_n 2, 1) := dk_77 (by decide +kernel)
theorem dJ7_copyOf_c38d5_18 : decode cJ7_copyOf_c38d5 18 = .ok (.aload_n 0, 1) := dk_42 (by decide +kernel)
theorem dJ7_copyOf_c38d5_19 : decode cJ7_copyOf_c38d5 19 = .ok (.iconst 0, 1) := dk_3 (by decide +kernel)
theorem dJ7_copyOf_c38d5_20 : decode cJ7_copyOf_c38d5 20 = .ok (.aload_n 2, 1) := dk_44 (by decide +kernel)
theorem dJ7_copyOf_c38d5_21 : decode cJ7_copyOf_c38d5 21 = .ok (.iconst 0, 1) := dk_3 (by decide +kernel)
theorem dJ7_copyOf_c38d5_22 : decode cJ7_copyOf_c38d5 22 = .ok (.aload_n 0, 1) := dk_42 (by decide +kernel)
theorem dJ7_copyOf_c38d5_23 : decode cJ7_copyOf_c38d5 23 = .ok (.arraylength, 1) := dk_190 (by decide +kernel)
theorem dJ7_copyOf_c38d5_24 : decode cJ7_copyOf_c38d5 24 = .ok (.iload_n 1, 1) := dk_27 (by decide +kernel)
theorem dJ7_copyOf_c38d5_25 : decode cJ7_copyOf_c38d5 25 = .ok (.invokestatic 304, 3) := dk_184 (by decide +kernel)
theorem dJ7_copyOf_c38d5_28 : decode cJ7_copyOf_c38d5 28 = .ok (.invokestatic 150, 3) := dk_184 (by decide +kernel)
theorem dJ7_copyOf_c38d5_31 : decode cJ7_copyOf_c38d5 31 = .ok (.aload_n 2, 1) := dk_44 (by decide +kernel)
theorem dJ7_copyOf_c38d5_32 : decode cJ7_copyOf_c38d5 32 = .ok (.areturn, 1) := dk_176 (by decide +kernel)
def wsMJ7_copyOf_c38d5 : List Cond := .code yJ7_copyOf_c38d5 cJ7_copyOf_c38d5 3 (some (.array .long)) :: ([.arrayClass .long, .methodLink RJ7 304 Lib.Math.min.name, .static Lib.Math.min.name, .initialized "java/lang/Math", .code Lib.Math.min.name Lib.Math.min.code 2 (some .int), .methodLink RJ7 150 arraycopyName, .native arraycopyName, .static arraycopyName, .initialized "java/lang/System"])
theorem gdwsMJ7_copyOf_c38d5 : wsMJ7_copyOf_c38d5.all goodWord = true := gdC rfl (by decide +kernel : ([.arrayClass .long, .methodLink RJ7 304 Lib.Math.min.name, .static Lib.Math.min.name, .initialized "java/lang/Math", .code Lib.Math.min.name Lib.Math.min.code 2 (some .int), .methodLink RJ7 150 arraycopyName, .native arraycopyName, .static arraycopyName, .initialized "java/lang/System"] : List Cond).all goodWord = true)
set_option maxHeartbeats 4000000 in
set_option maxRecDepth 100000 in
/-- Arrays.copyOf of longs -/
theorem m_J7_copyOf_c38d5 (l : Launch) (dC : Nat → ClassId) (dI : Nat → Nat → Nat) (hZ : Nat → Nat) (aZ : Nat → Nat) (kZ : Nat → ClassId) (nZ : Nat) (gZ : Nat → Int64) (p1 : Int32) (nn : Nat) (b_nZ : 0 ≤ nZ ∧ nZ ≤ 1000000) (hp1 : p1.toInt = ((nn : Nat) : Int)) (hne : nZ < nn) (hle : nn ≤ 1000000) (sz : Nat) : Met l yJ7_copyOf_c38d5 wsMJ7_copyOf_c38d5 ({ frames := 1, cells := 1, slots := nn, locals := 18 }) (va_Pc [.ref (aZ 0), .int p1] (fun U => U.heap.size = sz ∧ va_P (dC, dI) vwCl (WZ hZ aZ kZ nZ gZ) U.heap ∧ va_K (dC, dI) vwCl (tZ kZ) U ∧ va_D (fun _ => True) (WZ hZ aZ kZ nZ gZ))) (va_Qr (fun (u : Nat → Int64) => True) (fun u ra t => va_P (dC, dI) vwCl ((WZ hZ aZ kZ nZ gZ) ++ [(ra, .inl (kZ 0, nn, .inr (.inl u)))]) t.heap ∧ va_D (va_A (WZ hZ aZ kZ nZ gZ) sz) ((WZ hZ aZ kZ nZ gZ) ++ [(ra, .inl (kZ 0, nn, .inr (.inl u)))])) (va_A (WZ hZ aZ kZ nZ gZ) sz)) 1 nn (va_A (WZ hZ aZ kZ nZ gZ) sz) := by
  refine Met.ofW (cc := cJ7_copyOf_c38d5) (maxL := 3) (ret := (some (.array .long))) (by decide) rfl ?_
  intro p e s m args below meth c s₁ B hml hv
  obtain ⟨rfl, hsz, hP, hK, hD0⟩ := hv
  have hx := B.exec
  have hb := B.bytes
  have hr := B.returns
  have hts := atoms_spec (ws := wsMJ7_copyOf_c38d5) B.pre
  have hown : s.vm.findClass RJ7 = some m.cls := findClass_of_methodNamed B.named
  have hlocks := B.notSynchronized
  subst hsz
  have hD := hD0.self (sz := s.heap.size)
  generalize hAe : va_A (WZ hZ aZ kZ nZ gZ) s.heap.size = A at hD ⊢
  have hA : ∀ q : Nat, s.heap.size ≤ q → A q := fun q h => by rw [← hAe]; exact Or.inr h
  have hS : va_S A s.heap s.heap [] := va_S.rf
  have hl := lv_entry ([.ref (aZ 0), .int p1]) (n := 3) (Nat.le_of_ble_eq_true rfl)
  rw [lg_entry_eq]
  generalize (lg_sl ([.ref (aZ 0), .int p1]) ++ List.replicate (3 - (lg_sl ([.ref (aZ 0), .int p1])).length) Slot.unset).toArray = ls at hl ⊢
  have hl : lv_has ls 3 [(0, .ref (aZ 0)), (1, .int p1)] := hl
  refine lv_iload_n hx hb dJ7_copyOf_c38d5_0 rfl (lv_at hl 1 rfl) ?_
  refine lv_aload_n hx hb dJ7_copyOf_c38d5_1 rfl (lv_at hl 0 rfl) ?_
  refine va_alen hx hb hK hP 0 0 rfl rfl (v := (iI ((nZ : Nat) : Int))) (iI_nat _) dJ7_copyOf_c38d5_2 ?_
  refine lv_icmp_ne (tgt := 14) hx hb dJ7_copyOf_c38d5_3 (by decide) (fun c_3 => ?_) (fun c9 => False.elim (by have t9 : p1.toInt = ((nZ : Nat) : Int) := toI_nne c9 rfl (iI_t (by omega) (by omega)); omega))
  first | (have t_3 : p1.toInt ≠ ((nZ : Nat) : Int) := toI_ne c_3 rfl (iI_t (by omega) (by omega))) | skip
  refine lv_iload_n hx hb dJ7_copyOf_c38d5_14 rfl (lv_at hl 1 rfl) ?_
  have hnn : ((nn : Nat) : Int) = p1.toInt := by omega
  refine va_newa (atype := .long) (ty := .long) (N' := nn) (a0 := (nn, .inr (.inl (fun _ => 0)))) hx hb (hts (.arrayClass .long) (by decide +kernel)) rfl hK hP hD hS hA (fun _ => rfl) (nn_i rfl (by omega)) (clampN rfl hnn) (by show nn * 8 ≤ 536870912; omega) (by (dsimp only [headSpec] <;> omega)) (by (dsimp only [headSpec] <;> omega)) dJ7_copyOf_c38d5_15 (fun qn1 cA H hKn hP hD hS => ?_)
  obtain rfl : cA = kZ 0 := hKn.cls (i := 0) (j := 1) rfl rfl (by simp)
  clear hKn
  have hP : va_P (dC, dI) vwCl ((WZ hZ aZ kZ nZ gZ) ++ [(qn1, .inl (kZ 0, nn, .inr (.inl (fun _ => 0))))]) H := hP
  have hD : va_D A ((WZ hZ aZ kZ nZ gZ) ++ [(qn1, .inl (kZ 0, nn, .inr (.inl (fun _ => 0))))]) := hD
  refine lv_astore_n hx hb dJ7_copyOf_c38d5_17 rfl hl (by decide) rfl (fun ls (hl : lv_has ls _ ([(2, .ref qn1), (0, .ref (aZ 0)), (1, .int p1)])) => ?_)
  refine lv_aload_n hx hb dJ7_copyOf_c38d5_18 rfl (lv_at hl 1 rfl) ?_
  refine lv_iconst (v := 0) hx hb dJ7_copyOf_c38d5_19 (by decide) ?_
  refine lv_aload_n hx hb dJ7_copyOf_c38d5_20 rfl (lv_at hl 0 rfl) ?_
  refine lv_iconst (v := 0) hx hb dJ7_copyOf_c38d5_21 (by decide) ?_
  refine lv_aload_n hx hb dJ7_copyOf_c38d5_22 rfl (lv_at hl 1 rfl) ?_
  refine va_alen hx hb hK hP 0 0 rfl rfl (v := (iI ((nZ : Nat) : Int))) (iI_nat _) dJ7_copyOf_c38d5_23 ?_
  refine lv_iload_n hx hb dJ7_copyOf_c38d5_24 rfl (lv_at hl 2 rfl) ?_
  refine va_mmin hx hb (by rw [hml]; exact hl.1.symm) hown (hts (.methodLink RJ7 304 Lib.Math.min.name) (by decide +kernel)) (hts (.static Lib.Math.min.name) (by decide +kernel)) (hts (.initialized "java/lang/Math") (by decide +kernel)) (hts (.code Lib.Math.min.name Lib.Math.min.code 2 (some .int)) (by decide +kernel)) (by (dsimp only [headSpec] <;> omega)) (Nat.le_of_ble_eq_true rfl) (by (dsimp only [headSpec] <;> omega)) (by (dsimp only [headSpec] <;> omega)) dJ7_copyOf_c38d5_25 ?_
  refine lv_topi (fun v2 hv2 => ?_)
  first | (have b_v2 : (v2.toInt ≤ ((nZ : Nat) : Int) ∧ v2.toInt ≤ p1.toInt) ∧ (v2.toInt = ((nZ : Nat) : Int) ∨ v2.toInt = p1.toInt) := by rw [hv2]; exact min_t (iI_t (by omega) (by omega)) rfl) | skip
  clear hv2
  refine va_copyl hx hb (by rw [hml]; exact hl.1.symm) hown (hts (.methodLink RJ7 150 arraycopyName) (by decide +kernel)) (hts (.native arraycopyName) (by decide +kernel)) (hts (.static arraycopyName) (by decide +kernel)) (hts (.initialized "java/lang/System") (by decide +kernel)) hK hP hD hS 0 1 0 0 rfl rfl rfl rfl rfl (by decide) (by decide) (nn_i rfl (by omega)) (cp_fit (by decide : (0 : Int32).toInt = 0) rfl (by omega) (by omega) (by omega)) (cp_fit (by decide : (0 : Int32).toInt = 0) rfl (by omega) (by omega) (by omega)) (fun i9 h9 => rfl) (by dsimp only [headSpec]; omega) (by dsimp only [headSpec]; decide) dJ7_copyOf_c38d5_28 (fun H locs hP hD hS => ?_)
  obtain ⟨u3, hu3⟩ : ∃ f9, f9 = va_cpy gZ (fun _ => 0) (0 : Int32).toNatClampNeg (0 : Int32).toNatClampNeg (v2).toNatClampNeg := ⟨_, rfl⟩
  have hP : va_P (dC, dI) vwCl ((WZ hZ aZ kZ nZ gZ) ++ [(qn1, .inl (kZ 0, nn, .inr (.inl u3)))]) H := by rw [hu3]; exact hP
  have hD : va_D A ((WZ hZ aZ kZ nZ gZ) ++ [(qn1, .inl (kZ 0, nn, .inr (.inl u3)))]) := by rw [hu3]; exact hD
  clear hu3
  refine lv_aload_n hx hb dJ7_copyOf_c38d5_31 rfl (lv_at hl 0 rfl) ?_
  refine W.widen (k := 1) (n := nn) (by omega) (by omega) ?_
  exact W.aret hx hb hr (Or.inr ⟨_, rfl⟩) (Or.inr ⟨_, rfl⟩) (fun t9_ ht hW => ⟨⟨u3, _, rfl, trivial, by rw [ht]; exact hP, hD⟩, hS.F ht⟩) hS.2.2 dJ7_copyOf_c38d5_32

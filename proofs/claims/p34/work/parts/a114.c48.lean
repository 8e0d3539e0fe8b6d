theorem hd_yJ0_isLatin1_aae02_RJ0 : yJ0_isLatin1_aae02.cls = RJ0 ∧ yJ0_isLatin1_aae02.cls ≠ "java/lang/invoke/MethodHandle" ∧ yJ0_isLatin1_aae02.cls ≠ "java/lang/invoke/VarHandle" ∧ (parseMethodDescriptor yJ0_isLatin1_aae02.desc).map (fun d => d.parameters.length) = some 0 := by decide +kernel
theorem hd_yJ0_charAt_5068e_RJ0 : yJ0_charAt_5068e.cls = RJ0 ∧ yJ0_charAt_5068e.cls ≠ "java/lang/invoke/MethodHandle" ∧ yJ0_charAt_5068e.cls ≠ "java/lang/invoke/VarHandle" ∧ (parseMethodDescriptor yJ0_charAt_5068e.desc).map (fun d => d.parameters.length) = some 1 := by decide +kernel
theorem dJ3_checkIndex_8e157_0 : decode cJ3_checkIndex_8e157 0 = .ok (.iload_n 0, 1) := dk_26 (by decide +kernel)
theorem dJ3_checkIndex_8e157_1 : decode cJ3_checkIndex_8e157 1 = .ok (.ifCond .lt 8, 3) := dk_155 (by decide +kernel)
theorem dJ3_checkIndex_8e157_4 : decode cJ3_checkIndex_8e157 4 = .ok (.iload_n 0, 1) := dk_26 (by decide +kernel)
theorem dJ3_checkIndex_8e157_5 : decode cJ3_checkIndex_8e157 5 = .ok (.iload_n 1, 1) := dk_27 (by decide +kernel)
theorem dJ3_checkIndex_8e157_6 : decode cJ3_checkIndex_8e157 6 = .ok (.if_icmp .lt 10, 3) := dk_161 (by decide +kernel)
theorem dJ3_checkIndex_8e157_16 : decode cJ3_checkIndex_8e157 16 = .ok (.iload_n 0, 1) := dk_26 (by decide +kernel)
theorem dJ3_checkIndex_8e157_17 : decode cJ3_checkIndex_8e157 17 = .ok (.ireturn, 1) := dk_172 (by decide +kernel)
def wsRJ3cia : List Cond := .code yJ3_checkIndex_8e157 cJ3_checkIndex_8e157 3 (some .int) :: ([])
theorem gdwsRJ3cia : wsRJ3cia.all goodWord = true := gdC rfl (by decide +kernel : ([] : List Cond).all goodWord = true)
set_option maxHeartbeats 4000000 in
set_option maxRecDepth 100000 in
/-- Preconditions.checkIndex, within -/
theorem r_J3_checkIndex_8e157a (l : Launch) (dC : Nat → ClassId) (dI : Nat → Nat → Nat) (fq : Nat) (kn : Nat) (nn : Nat) (hkn : kn < nn) (hnn : nn < 2 ^ 31) (sz : Nat) : Met l yJ3_checkIndex_8e157 wsRJ3cia ({ frames := 0, cells := 0, slots := 0, locals := 0 }) (va_Pc [.int (nI kn), .int (nI nn), .ref fq] (fun U => U.heap.size = sz ∧ va_P (dC, dI) vwCl [] U.heap ∧ va_K (dC, dI) vwCl [] U ∧ va_D (fun _ => True) [])) (va_Qi (fun (r : Int32) (u : Unit) => True) (fun (u : Unit) t => True) (va_A [] sz)) 0 0 (va_A [] sz) := by
  refine Met.ofW (cc := cJ3_checkIndex_8e157) (maxL := 3) (ret := (some .int)) (by decide) rfl ?_
  intro p e s m args below meth c s₁ B hml hv
  obtain ⟨rfl, hsz, hP, hK, hD0⟩ := hv
  have hx := B.exec
  have hb := B.bytes
  have hr := B.returns
  have hts := atoms_spec (ws := wsRJ3cia) B.pre
  have hown : s.vm.findClass RJ3 = some m.cls := findClass_of_methodNamed B.named
  have hlocks := B.notSynchronized
  subst hsz
  have hD := hD0.self (sz := s.heap.size)
  generalize hAe : va_A [] s.heap.size = A at hD ⊢
  have hA : ∀ q : Nat, s.heap.size ≤ q → A q := fun q h => by rw [← hAe]; exact Or.inr h
  have hS : va_S A s.heap s.heap [] := va_S.rf
  have hl := lv_entry ([.int (nI kn), .int (nI nn), .ref fq]) (n := 3) (Nat.le_of_ble_eq_true rfl)
  rw [lg_entry_eq]
  generalize (lg_sl ([.int (nI kn), .int (nI nn), .ref fq]) ++ List.replicate (3 - (lg_sl ([.int (nI kn), .int (nI nn), .ref fq])).length) Slot.unset).toArray = ls at hl ⊢
  have hl : lv_has ls 3 [(0, .int (nI kn)), (1, .int (nI nn)), (2, .ref fq)] := hl
  refine lv_iload_n hx hb dJ3_checkIndex_8e157_0 rfl (lv_at hl 0 rfl) ?_
  refine lv_if_lt (tgt := 9) hx hb dJ3_checkIndex_8e157_1 (by decide) (fun c9 => False.elim (by have t9 : ((kn : Nat) : Int) < 0 := toI_lt c9 (nI_toInt (by omega)) (by decide); omega)) (fun c_1 => ?_)
  have t_1 : ¬ ((kn : Nat) : Int) < 0 := toI_nlt c_1 (nI_toInt (by omega)) (by decide)
  refine lv_iload_n hx hb dJ3_checkIndex_8e157_4 rfl (lv_at hl 0 rfl) ?_
  refine lv_iload_n hx hb dJ3_checkIndex_8e157_5 rfl (lv_at hl 1 rfl) ?_
  refine lv_icmp_lt (tgt := 16) hx hb dJ3_checkIndex_8e157_6 (by decide) (fun c_6 => ?_) (fun c9 => False.elim (by have t9 : ¬ ((kn : Nat) : Int) < ((nn : Nat) : Int) := toI_nlt c9 (nI_toInt (by omega)) (nI_toInt (by omega)); omega))
  have t_6 : ((kn : Nat) : Int) < ((nn : Nat) : Int) := toI_lt c_6 (nI_toInt (by omega)) (nI_toInt (by omega))
  refine lv_iload_n hx hb dJ3_checkIndex_8e157_16 rfl (lv_at hl 0 rfl) ?_
  refine W.widen (k := 0) (n := 0) (by decide +kernel) (by decide +kernel) ?_
  exact W.iret (v := (nI kn)) hx hb hr (fun t9_ ht hW => ⟨⟨(nI kn), (), rfl, trivial, trivial⟩, hS.F ht⟩) hS.2.2 dJ3_checkIndex_8e157_17
def wsRJ3cib : List Cond := .code yJ3_checkIndex_8e157 cJ3_checkIndex_8e157 3 (some .int) :: ([])
theorem gdwsRJ3cib : wsRJ3cib.all goodWord = true := gdC rfl (by decide +kernel : ([] : List Cond).all goodWord = true)
set_option maxHeartbeats 4000000 in
set_option maxRecDepth 100000 in
/-- Preconditions.checkIndex, within -/
theorem r_J3_checkIndex_8e157b (l : Launch) (dC : Nat → ClassId) (dI : Nat → Nat → Nat) (kn : Nat) (nn : Nat) (hkn : kn < nn) (hnn : nn < 2 ^ 31) (sz : Nat) : Met l yJ3_checkIndex_8e157 wsRJ3cib ({ frames := 0, cells := 0, slots := 0, locals := 0 }) (va_Pc [.int (nI kn), .int (nI nn), .null] (fun U => U.heap.size = sz ∧ va_P (dC, dI) vwCl [] U.heap ∧ va_K (dC, dI) vwCl [] U ∧ va_D (fun _ => True) [])) (va_Qi (fun (r : Int32) (u : Unit) => True) (fun (u : Unit) t => True) (va_A [] sz)) 0 0 (va_A [] sz) := by
  refine Met.ofW (cc := cJ3_checkIndex_8e157) (maxL := 3) (ret := (some .int)) (by decide) rfl ?_
  intro p e s m args below meth c s₁ B hml hv
  obtain ⟨rfl, hsz, hP, hK, hD0⟩ := hv
  have hx := B.exec
  have hb := B.bytes
  have hr := B.returns
  have hts := atoms_spec (ws := wsRJ3cib) B.pre
  have hown : s.vm.findClass RJ3 = some m.cls := findClass_of_methodNamed B.named
  have hlocks := B.notSynchronized
  subst hsz
  have hD := hD0.self (sz := s.heap.size)
  generalize hAe : va_A [] s.heap.size = A at hD ⊢
  have hA : ∀ q : Nat, s.heap.size ≤ q → A q := fun q h => by rw [← hAe]; exact Or.inr h
  have hS : va_S A s.heap s.heap [] := va_S.rf
  have hl := lv_entry ([.int (nI kn), .int (nI nn), .null]) (n := 3) (Nat.le_of_ble_eq_true rfl)
  rw [lg_entry_eq]
  generalize (lg_sl ([.int (nI kn), .int (nI nn), .null]) ++ List.replicate (3 - (lg_sl ([.int (nI kn), .int (nI nn), .null])).length) Slot.unset).toArray = ls at hl ⊢
  have hl : lv_has ls 3 [(0, .int (nI kn)), (1, .int (nI nn)), (2, .null)] := hl
  refine lv_iload_n hx hb dJ3_checkIndex_8e157_0 rfl (lv_at hl 0 rfl) ?_
  refine lv_if_lt (tgt := 9) hx hb dJ3_checkIndex_8e157_1 (by decide) (fun c9 => False.elim (by have t9 : ((kn : Nat) : Int) < 0 := toI_lt c9 (nI_toInt (by omega)) (by decide); omega)) (fun c_1 => ?_)
  have t_1 : ¬ ((kn : Nat) : Int) < 0 := toI_nlt c_1 (nI_toInt (by omega)) (by decide)
  refine lv_iload_n hx hb dJ3_checkIndex_8e157_4 rfl (lv_at hl 0 rfl) ?_
  refine lv_iload_n hx hb dJ3_checkIndex_8e157_5 rfl (lv_at hl 1 rfl) ?_
  refine lv_icmp_lt (tgt := 16) hx hb dJ3_checkIndex_8e157_6 (by decide) (fun c_6 => ?_) (fun c9 => False.elim (by have t9 : ¬ ((kn : Nat) : Int) < ((nn : Nat) : Int) := toI_nlt c9 (nI_toInt (by omega)) (nI_toInt (by omega)); omega))
  have t_6 : ((kn : Nat) : Int) < ((nn : Nat) : Int) := toI_lt c_6 (nI_toInt (by omega)) (nI_toInt (by omega))
  refine lv_iload_n hx hb dJ3_checkIndex_8e157_16 rfl (lv_at hl 0 rfl) ?_
  refine W.widen (k := 0) (n := 0) (by decide +kernel) (by decide +kernel) ?_
  exact W.iret (v := (nI kn)) hx hb hr (fun t9_ ht hW => ⟨⟨(nI kn), (), rfl, trivial, trivial⟩, hS.F ht⟩) hS.2.2 dJ3_checkIndex_8e157_17
theorem dJ0_checkIndex_df160_0 : decode cJ0_checkIndex_df160 0 = .ok (.iload_n 0, 1) := dk_26 (by decide +kernel)
theorem dJ0_checkIndex_df160_1 : decode cJ0_checkIndex_df160 1 = .ok (.iload_n 1, 1) := dk_27 (by decide +kernel)
theorem dJ0_checkIndex_df160_2 : decode cJ0_checkIndex_df160 2 = .ok (.getstatic 1053, 3) := dk_178 (by decide +kernel)
theorem dJ0_checkIndex_df160_5 : decode cJ0_checkIndex_df160 5 = .ok (.invokestatic 1059, 3) := dk_184 (by decide +kernel)
theorem dJ0_checkIndex_df160_8 : decode cJ0_checkIndex_df160 8 = .ok (.pop, 1) := dk_87 (by decide +kernel)
theorem dJ0_checkIndex_df160_9 : decode cJ0_checkIndex_df160 9 = .ok (.return_, 1) := dk_177 (by decide +kernel)
def wsRJ0ci : List Cond := .code yJ0_checkIndex_df160 cJ0_checkIndex_df160 2 none :: ([.fieldLink RJ0 1053 "jdk/internal/util/Preconditions" "SIOOBE_FORMATTER" "Ljava/util/function/BiFunction;"] ++ (va_wsS RJ0 1059 yJ3_checkIndex_8e157 wsRJ3cib) ++ (va_wsS RJ0 1059 yJ3_checkIndex_8e157 wsRJ3cia))
theorem gwsRJ0ci_0 : GoodIn wsRJ0ci (va_wsS RJ0 1059 yJ3_checkIndex_8e157 wsRJ3cib) := goodIn_sub (fun _ h => List.mem_cons_of_mem _ (List.mem_append_left _ (List.mem_append_right _ h))) (gdS (by decide +kernel) gdwsRJ3cib)
theorem gwsRJ0ci_1 : GoodIn wsRJ0ci (va_wsS RJ0 1059 yJ3_checkIndex_8e157 wsRJ3cia) := goodIn_sub (fun _ h => List.mem_cons_of_mem _ (List.mem_append_right _ h)) (gdS (by decide +kernel) gdwsRJ3cia)
theorem gdwsRJ0ci : wsRJ0ci.all goodWord = true := gdC rfl (gdA (gdA (by decide +kernel : ([.fieldLink RJ0 1053 "jdk/internal/util/Preconditions" "SIOOBE_FORMATTER" "Ljava/util/function/BiFunction;"] : List Cond).all goodWord = true) (gdS (by decide +kernel) gdwsRJ3cib)) (gdS (by decide +kernel) gdwsRJ3cia))
set_option maxHeartbeats 4000000 in
set_option maxRecDepth 100000 in
/-- String.checkIndex, within -/
theorem r_J0_checkIndex_df160 (l : Launch) (dC : Nat → ClassId) (dI : Nat → Nat → Nat) (kn : Nat) (nn : Nat) (hkn : kn < nn) (hnn : nn < 2 ^ 31) (sz : Nat) : Met l yJ0_checkIndex_df160 wsRJ0ci ({ frames := 1, cells := 0, slots := 0, locals := 22 }) (va_Pc [.int (nI kn), .int (nI nn)] (fun U => U.heap.size = sz ∧ va_P (dC, dI) vwCl [] U.heap ∧ va_K (dC, dI) vwCl [] U ∧ va_D (fun _ => True) [] ∧ JdkE (va_A [] sz) U U.heap)) (va_Qv (fun (u : Unit) => True) (fun (u : Unit) t => True) (va_A [] sz)) 0 0 (va_A [] sz) := by
  refine Met.ofW (cc := cJ0_checkIndex_df160) (maxL := 2) (ret := none) (by decide) rfl ?_
  intro p e s m args below meth c s₁ B hml hv
  obtain ⟨rfl, hsz, hP, hK, hD0, hE⟩ := hv
  have hx := B.exec
  have hb := B.bytes
  have hr := B.returns
  have hts := atoms_spec (ws := wsRJ0ci) B.pre
  have hown : s.vm.findClass RJ0 = some m.cls := findClass_of_methodNamed B.named
  have hlocks := B.notSynchronized
  subst hsz
  have hD := hD0.self (sz := s.heap.size)
  generalize hAe : va_A [] s.heap.size = A at hD hE ⊢
  have hA : ∀ q : Nat, s.heap.size ≤ q → A q := fun q h => by rw [← hAe]; exact Or.inr h
  have hS : va_S A s.heap s.heap [] := va_S.rf
  have hl := lv_entry ([.int (nI kn), .int (nI nn)]) (n := 2) (Nat.le_of_ble_eq_true rfl)
  rw [lg_entry_eq]
  generalize (lg_sl ([.int (nI kn), .int (nI nn)]) ++ List.replicate (2 - (lg_sl ([.int (nI kn), .int (nI nn)])).length) Slot.unset).toArray = ls at hl ⊢
  have hl : lv_has ls 2 [(0, .int (nI kn)), (1, .int (nI nn))] := hl
  refine lv_iload_n hx hb dJ0_checkIndex_df160_0 rfl (lv_at hl 0 rfl) ?_
  refine lv_iload_n hx hb dJ0_checkIndex_df160_1 rfl (lv_at hl 1 rfl) ?_
  rcases hE.2 with hz | ⟨fq, hz⟩
  · refine va_gets hx hb hz hS hown (hts (.fieldLink RJ0 1053 "jdk/internal/util/Preconditions" "SIOOBE_FORMATTER" "Ljava/util/function/BiFunction;") (by decide +kernel)) (fun _ h9 => h9) dJ0_checkIndex_df160_2 ?_
    have hFc := noneFree hS hA
    refine va_calli (va_runS (As := [.int (nI kn), .int (nI nn), .null]) (rest := []) ⟨hx, hb, hml, hown, hts⟩ (r_J3_checkIndex_8e157b l dC dI kn nn (by first | assumption | decide | omega | rfl) (by first | assumption | decide | omega | rfl) s.heap.size) (va_cwS 3 hts gwsRJ0ci_0 rfl rfl rfl (by decide +kernel) ⟨by decide +kernel, by decide +kernel⟩) ⟨fun a U g mk q => by obtain ⟨q0, q1, qP, qK, qD⟩ := q; exact ⟨q0, q1, qP, va_K.moved (u := U) (U := U.calling g mk a) (Vm.Alike.refl U.vm) qK, qD⟩, fun U hU9 hW => ⟨rfl, by rw [hU9], by rw [hU9]; exact nilP, va_K.moved hW.alike (hK.sub (tys' := []) [] rfl), nilD⟩⟩ rfl rfl hl.1 rfl (lv_room (Nat.le_of_ble_eq_true rfl)) dJ0_checkIndex_df160_5 (by decide +kernel)) hS (fun q _ h => hFc q h) hFc (fun r5 u t9_ H1 locs ht hvm hw9 hB9 hz1 hk1 hS => ?_)
    have hP := keepAll hP hk1
    clear hB9
    generalize H1 = H at hP hS ⊢
    have hP : va_P (dC, dI) vwCl ([]) H := hP
    have hD : va_D A ([]) := hD
    refine lv_pop hx hb dJ0_checkIndex_df160_8 rfl ?_
    refine W.widen (k := 0) (n := 0) (by decide +kernel) (by decide +kernel) ?_
    exact W.vret hx hb hr (fun t9_ ht hW => ⟨⟨(), rfl, trivial, trivial⟩, hS.F ht⟩) hS.2.2 dJ0_checkIndex_df160_9
  · refine va_gets hx hb hz hS hown (hts (.fieldLink RJ0 1053 "jdk/internal/util/Preconditions" "SIOOBE_FORMATTER" "Ljava/util/function/BiFunction;") (by decide +kernel)) (fun _ h9 => h9) dJ0_checkIndex_df160_2 ?_
    have hFc := noneFree hS hA
    refine va_calli (va_runS (As := [.int (nI kn), .int (nI nn), .ref fq]) (rest := []) ⟨hx, hb, hml, hown, hts⟩ (r_J3_checkIndex_8e157a l dC dI fq kn nn (by first | assumption | decide | omega | rfl) (by first | assumption | decide | omega | rfl) s.heap.size) (va_cwS 3 hts gwsRJ0ci_1 rfl rfl rfl (by decide +kernel) ⟨by decide +kernel, by decide +kernel⟩) ⟨fun a U g mk q => by obtain ⟨q0, q1, qP, qK, qD⟩ := q; exact ⟨q0, q1, qP, va_K.moved (u := U) (U := U.calling g mk a) (Vm.Alike.refl U.vm) qK, qD⟩, fun U hU9 hW => ⟨rfl, by rw [hU9], by rw [hU9]; exact nilP, va_K.moved hW.alike (hK.sub (tys' := []) [] rfl), nilD⟩⟩ rfl rfl hl.1 rfl (lv_room (Nat.le_of_ble_eq_true rfl)) dJ0_checkIndex_df160_5 (by decide +kernel)) hS (fun q _ h => hFc q h) hFc (fun r5_1 u t9_ H1 locs ht hvm hw9 hB9 hz1 hk1 hS => ?_)
    have hP := keepAll hP hk1
    clear hB9
    generalize H1 = H at hP hS ⊢
    have hP : va_P (dC, dI) vwCl ([]) H := hP
    have hD : va_D A ([]) := hD
    refine lv_pop hx hb dJ0_checkIndex_df160_8 rfl ?_
    refine W.widen (k := 0) (n := 0) (by decide +kernel) (by decide +kernel) ?_
    exact W.vret hx hb hr (fun t9_ ht hW => ⟨⟨(), rfl, trivial, trivial⟩, hS.F ht⟩) hS.2.2 dJ0_checkIndex_df160_9
theorem dJ1_charAt_3b067_0 : decode cJ1_charAt_3b067 0 = .ok (.iload_n 1, 1) := dk_27 (by decide +kernel)
theorem dJ1_charAt_3b067_1 : decode cJ1_charAt_3b067 1 = .ok (.aload_n 0, 1) := dk_42 (by decide +kernel)
theorem dJ1_charAt_3b067_2 : decode cJ1_charAt_3b067 2 = .ok (.arraylength, 1) := dk_190 (by decide +kernel)
theorem dJ1_charAt_3b067_3 : decode cJ1_charAt_3b067 3 = .ok (.invokestatic 9, 3) := dk_184 (by decide +kernel)
theorem dJ1_charAt_3b067_6 : decode cJ1_charAt_3b067 6 = .ok (.aload_n 0, 1) := dk_42 (by decide +kernel)
theorem dJ1_charAt_3b067_7 : decode cJ1_charAt_3b067 7 = .ok (.iload_n 1, 1) := dk_27 (by decide +kernel)
theorem dJ1_charAt_3b067_8 : decode cJ1_charAt_3b067 8 = .ok (.baload, 1) := dk_51 (by decide +kernel)
theorem dJ1_charAt_3b067_9 : decode cJ1_charAt_3b067 9 = .ok (.sipush 255, 3) := dk_17 (by decide +kernel)
theorem dJ1_charAt_3b067_12 : decode cJ1_charAt_3b067 12 = .ok (.iand, 1) := dk_126 (by decide +kernel)
theorem dJ1_charAt_3b067_13 : decode cJ1_charAt_3b067 13 = .ok (.i2c, 1) := dk_146 (by decide +kernel)
theorem dJ1_charAt_3b067_14 : decode cJ1_charAt_3b067 14 = .ok (.ireturn, 1) := dk_172 (by decide +kernel)
def wsRJ1ca : List Cond := .code yJ1_charAt_3b067 cJ1_charAt_3b067 2 (some .char) :: ([] ++ (va_wsS RJ1 9 yJ0_checkIndex_df160 wsRJ0ci))
theorem gwsRJ1ca_0 : GoodIn wsRJ1ca (va_wsS RJ1 9 yJ0_checkIndex_df160 wsRJ0ci) := goodIn_sub (fun _ h => List.mem_cons_of_mem _ (List.mem_append_right _ h)) (gdS (by decide +kernel) gdwsRJ0ci)
theorem gdwsRJ1ca : wsRJ1ca.all goodWord = true := gdC rfl (gdA (by decide +kernel : ([] : List Cond).all goodWord = true) (gdS (by decide +kernel) gdwsRJ0ci))
set_option maxHeartbeats 4000000 in
set_option maxRecDepth 100000 in
/-- StringLatin1.charAt, within -/
theorem r_J1_charAt_3b067 (l : Launch) (dC : Nat → ClassId) (dI : Nat → Nat → Nat) (vq : Nat) (fB : Nat → Int32) (kn : Nat) (nn : Nat) (hkn : kn < nn) (hnn : nn < 2 ^ 31) (sz : Nat) : Met l yJ1_charAt_3b067 wsRJ1ca ({ frames := 2, cells := 0, slots := 0, locals := 43 }) (va_Pc [.ref vq, .int (nI kn)] (fun U => U.heap.size = sz ∧ va_P (dC, dI) vwCl [] U.heap ∧ va_K (dC, dI) vwCl [] U ∧ va_D (fun _ => True) [] ∧ (ArrE vq nn fB) (va_A [] sz) U U.heap)) (va_Qi (fun (r : Int32) (u : Unit) => (narrow .char (.int r) = .int r) ∧ (r = c16 (fB kn))) (fun (u : Unit) t => True) (va_A [] sz)) 0 0 (va_A [] sz) := by
  refine Met.ofW (cc := cJ1_charAt_3b067) (maxL := 2) (ret := (some .char)) (by decide) rfl ?_
  intro p e s m args below meth c s₁ B hml hv
  obtain ⟨rfl, hsz, hP, hK, hD0, hE⟩ := hv
  have hx := B.exec
  have hb := B.bytes
  have hr := B.returns
  have hts := atoms_spec (ws := wsRJ1ca) B.pre
  have hown : s.vm.findClass RJ1 = some m.cls := findClass_of_methodNamed B.named
  have hlocks := B.notSynchronized
  subst hsz
  have hD := hD0.self (sz := s.heap.size)
  generalize hAe : va_A [] s.heap.size = A at hD hE ⊢
  have hA : ∀ q : Nat, s.heap.size ≤ q → A q := fun q h => by rw [← hAe]; exact Or.inr h
  have hS : va_S A s.heap s.heap [] := va_S.rf
  have hl := lv_entry ([.ref vq, .int (nI kn)]) (n := 2) (Nat.le_of_ble_eq_true rfl)
  rw [lg_entry_eq]
  generalize (lg_sl ([.ref vq, .int (nI kn)]) ++ List.replicate (2 - (lg_sl ([.ref vq, .int (nI kn)])).length) Slot.unset).toArray = ls at hl ⊢
  have hl : lv_has ls 2 [(0, .ref vq), (1, .int (nI kn))] := hl
  refine lv_iload_n hx hb dJ1_charAt_3b067_0 rfl (lv_at hl 1 rfl) ?_
  refine lv_aload_n hx hb dJ1_charAt_3b067_1 rfl (lv_at hl 0 rfl) ?_
  have hTB := hE.2
  refine va_tlen hx hb hTB hS (v := nI nn) rfl dJ1_charAt_3b067_2 ?_
  have hFc := noneFree hS hA
  refine va_callv (va_runS (As := [.int (nI kn), .int (nI nn)]) (rest := []) ⟨hx, hb, hml, hown, hts⟩ (r_J0_checkIndex_df160 l dC dI kn nn (by first | assumption | decide | omega | rfl) (by first | assumption | decide | omega | rfl) s.heap.size) (va_cwS 2 hts gwsRJ1ca_0 rfl rfl rfl (by decide +kernel) ⟨by decide +kernel, by decide +kernel⟩) ⟨fun a U g mk q => by obtain ⟨q0, q1, qP, qK, qD, qE⟩ := q; exact ⟨q0, q1, qP, va_K.moved (u := U) (U := U.calling g mk a) (Vm.Alike.refl U.vm) qK, qD, qE.same rfl⟩, fun U hU9 hW => ⟨rfl, by rw [hU9], by rw [hU9]; exact nilP, va_K.moved hW.alike (hK.sub (tys' := []) [] rfl), nilD, by rw [hU9]; exact (((hE.1 : JdkE A s s.heap).kept hS.2.1).narrow (fun q h => hFc q h)).warm hW⟩⟩ rfl rfl hl.1 rfl (lv_room (Nat.le_of_ble_eq_true rfl)) dJ1_charAt_3b067_3 (by decide +kernel)) hS (fun q _ h => hFc q h) hFc (fun u t9_ H1 locs ht hvm hw9 hB9 hz1 hk1 hS => ?_)
  have hP := keepAll hP hk1
  clear hB9
  generalize H1 = H at hP hS ⊢
  have hP : va_P (dC, dI) vwCl ([]) H := hP
  have hD : va_D A ([]) := hD
  refine lv_aload_n hx hb dJ1_charAt_3b067_6 rfl (lv_at hl 0 rfl) ?_
  refine lv_iload_n hx hb dJ1_charAt_3b067_7 rfl (lv_at hl 1 rfl) ?_
  refine va_tb hx hb hTB hS (vp_in_nI (show kn < nn by omega) (by omega)) (v := .int (fB kn)) (by rw [nI_clamp (by omega)]) dJ1_charAt_3b067_8 ?_
  refine lv_sipush (v := 255) hx hb dJ1_charAt_3b067_9 (by decide) ?_
  refine lv_iand hx hb dJ1_charAt_3b067_12 ?_
  obtain ⟨rC, hrC⟩ : ∃ rC, rC = ((((fB kn) &&& 255)).toUInt32 % 65536).toInt32 := ⟨_, rfl⟩
  refine lv_i2c hx hb dJ1_charAt_3b067_13 hrC.symm ?_
  refine W.widen (k := 0) (n := 0) (by decide +kernel) (by decide +kernel) ?_
  exact W.zret (v := rC) hx hb hr (by rw [hrC]; exact nar_c _) (fun t9_ ht hW => ⟨⟨rC, (), rfl, by (try dsimp only); exact ⟨by rw [hrC]; exact nar_c _, hrC⟩, trivial⟩, hS.F ht⟩) hS.2.2 dJ1_charAt_3b067_14
theorem dJ0_isLatin1_aae02_0 : decode cJ0_isLatin1_aae02 0 = .ok (.getstatic 38, 3) := dk_178 (by decide +kernel)
theorem dJ0_isLatin1_aae02_3 : decode cJ0_isLatin1_aae02 3 = .ok (.ifCond .eq 14, 3) := dk_153 (by decide +kernel)
theorem dJ0_isLatin1_aae02_6 : decode cJ0_isLatin1_aae02 6 = .ok (.aload_n 0, 1) := dk_42 (by decide +kernel)
theorem dJ0_isLatin1_aae02_7 : decode cJ0_isLatin1_aae02 7 = .ok (.getfield 15, 3) := dk_180 (by decide +kernel)
theorem dJ0_isLatin1_aae02_10 : decode cJ0_isLatin1_aae02 10 = .ok (.ifCond .ne 7, 3) := dk_154 (by decide +kernel)
theorem dJ0_isLatin1_aae02_13 : decode cJ0_isLatin1_aae02 13 = .ok (.iconst 1, 1) := dk_4 (by decide +kernel)
theorem dJ0_isLatin1_aae02_14 : decode cJ0_isLatin1_aae02 14 = .ok (.goto 4, 3) := dk_167 (by decide +kernel)
theorem dJ0_isLatin1_aae02_18 : decode cJ0_isLatin1_aae02 18 = .ok (.ireturn, 1) := dk_172 (by decide +kernel)
def wsRJ0il : List Cond := .code yJ0_isLatin1_aae02 cJ0_isLatin1_aae02 1 (some .boolean) :: ([.fieldLink RJ0 38 "java/lang/String" "COMPACT_STRINGS" "Z", .fieldLink RJ0 15 "java/lang/String" "coder" "B"])
theorem gdwsRJ0il : wsRJ0il.all goodWord = true := gdC rfl (by decide +kernel : ([.fieldLink RJ0 38 "java/lang/String" "COMPACT_STRINGS" "Z", .fieldLink RJ0 15 "java/lang/String" "coder" "B"] : List Cond).all goodWord = true)
set_option maxHeartbeats 4000000 in
set_option maxRecDepth 100000 in
/-- String.isLatin1 -/
theorem r_J0_isLatin1_aae02 (l : Launch) (dC : Nat → ClassId) (dI : Nat → Nat → Nat) (qS : Nat) (nn : Nat) (fB : Nat → Int32) (sz : Nat) : Met l yJ0_isLatin1_aae02 wsRJ0il ({ frames := 0, cells := 0, slots := 0, locals := 0 }) (va_Pc [.ref qS] (fun U => U.heap.size = sz ∧ va_P (dC, dI) vwCl [] U.heap ∧ va_K (dC, dI) vwCl [] U ∧ va_D (fun _ => True) [] ∧ (StrE qS nn fB) (va_A [] sz) U U.heap)) (va_Qi (fun (r : Int32) (u : Unit) => r = 1) (fun (u : Unit) t => True) (va_A [] sz)) 0 0 (va_A [] sz) := by
  refine Met.ofW (cc := cJ0_isLatin1_aae02) (maxL := 1) (ret := (some .boolean)) (by decide) rfl ?_
  intro p e s m args below meth c s₁ B hml hv
  obtain ⟨rfl, hsz, hP, hK, hD0, hE⟩ := hv
  have hx := B.exec
  have hb := B.bytes
  have hr := B.returns
  have hts := atoms_spec (ws := wsRJ0il) B.pre
  have hown : s.vm.findClass RJ0 = some m.cls := findClass_of_methodNamed B.named
  have hlocks := B.notSynchronized
  subst hsz
  have hD := hD0.self (sz := s.heap.size)
  generalize hAe : va_A [] s.heap.size = A at hD hE ⊢
  have hA : ∀ q : Nat, s.heap.size ≤ q → A q := fun q h => by rw [← hAe]; exact Or.inr h
  have hS : va_S A s.heap s.heap [] := va_S.rf
  have hl := lv_entry ([.ref qS]) (n := 1) (Nat.le_of_ble_eq_true rfl)
  rw [lg_entry_eq]
  generalize (lg_sl ([.ref qS]) ++ List.replicate (1 - (lg_sl ([.ref qS])).length) Slot.unset).toArray = ls at hl ⊢
  have hl : lv_has ls 1 [(0, .ref qS)] := hl
  refine va_gets hx hb hE.1.1 hS hown (hts (.fieldLink RJ0 38 "java/lang/String" "COMPACT_STRINGS" "Z") (by decide +kernel)) (fun _ h9 => h9) dJ0_isLatin1_aae02_0 ?_
  refine lv_if_eq (tgt := 17) hx hb dJ0_isLatin1_aae02_3 (by decide) (fun c9 => absurd c9 (by decide)) (fun _ => ?_)
  refine lv_aload_n hx hb dJ0_isLatin1_aae02_6 rfl (lv_at hl 0 rfl) ?_
  refine vk_getf hx hb hE.2.2.1 hS hown (hts (.fieldLink RJ0 15 "java/lang/String" "coder" "B") (by decide +kernel)) (fun _ h9 => h9) dJ0_isLatin1_aae02_7 ?_
  refine lv_if_ne (tgt := 17) hx hb dJ0_isLatin1_aae02_10 (by decide) (fun c9 => absurd c9 (by decide)) (fun _ => ?_)
  refine lv_iconst (v := 1) hx hb dJ0_isLatin1_aae02_13 (by decide) ?_
  refine lv_goto (tgt := 18) hx hb dJ0_isLatin1_aae02_14 (by decide) ?_
  refine W.widen (k := 0) (n := 0) (by decide +kernel) (by decide +kernel) ?_
  exact W.zret (v := 1) hx hb hr rfl (fun t9_ ht hW => ⟨⟨1, (), rfl, by (first | rfl | assumption | trivial | omega | (simp []; done) | (simp; omega)), trivial⟩, hS.F ht⟩) hS.2.2 dJ0_isLatin1_aae02_18
theorem dJ0_charAt_5068e_0 : decode cJ0_charAt_5068e 0 = .ok (.aload_n 0, 1) := dk_42 (by decide +kernel)
theorem dJ0_charAt_5068e_1 : decode cJ0_charAt_5068e 1 = .ok (.invokevirtual 492, 3) := dk_182 (by decide +kernel)
theorem dJ0_charAt_5068e_4 : decode cJ0_charAt_5068e 4 = .ok (.ifCond .eq 12, 3) := dk_153 (by decide +kernel)
theorem dJ0_charAt_5068e_7 : decode cJ0_charAt_5068e 7 = .ok (.aload_n 0, 1) := dk_42 (by decide +kernel)
theorem dJ0_charAt_5068e_8 : decode cJ0_charAt_5068e 8 = .ok (.getfield 9, 3) := dk_180 (by decide +kernel)
theorem dJ0_charAt_5068e_11 : decode cJ0_charAt_5068e 11 = .ok (.iload_n 1, 1) := dk_27 (by decide +kernel)
theorem dJ0_charAt_5068e_12 : decode cJ0_charAt_5068e 12 = .ok (.invokestatic 495, 3) := dk_184 (by decide +kernel)
theorem dJ0_charAt_5068e_15 : decode cJ0_charAt_5068e 15 = .ok (.ireturn, 1) := dk_172 (by decide +kernel)
def wsRJ0ca : List Cond := .code yJ0_charAt_5068e cJ0_charAt_5068e 2 (some .char) :: ([.fieldLink RJ0 9 "java/lang/String" "value" "[B"] ++ (wsV RJ0 492 RJ0 yJ0_isLatin1_aae02 wsRJ0il) ++ (va_wsS RJ0 495 yJ1_charAt_3b067 wsRJ1ca))
theorem gwsRJ0ca_0 : GoodIn wsRJ0ca (wsV RJ0 492 RJ0 yJ0_isLatin1_aae02 wsRJ0il) := goodIn_sub (fun _ h => List.mem_cons_of_mem _ (List.mem_append_left _ (List.mem_append_right _ h))) (gdV (by decide +kernel) gdwsRJ0il)
theorem gwsRJ0ca_1 : GoodIn wsRJ0ca (va_wsS RJ0 495 yJ1_charAt_3b067 wsRJ1ca) := goodIn_sub (fun _ h => List.mem_cons_of_mem _ (List.mem_append_right _ h)) (gdS (by decide +kernel) gdwsRJ1ca)
theorem gdwsRJ0ca : wsRJ0ca.all goodWord = true := gdC rfl (gdA (gdA (by decide +kernel : ([.fieldLink RJ0 9 "java/lang/String" "value" "[B"] : List Cond).all goodWord = true) (gdV (by decide +kernel) gdwsRJ0il)) (gdS (by decide +kernel) gdwsRJ1ca))
set_option maxHeartbeats 4000000 in
set_option maxRecDepth 100000 in
/-- String.charAt, within -/
theorem r_J0_charAt_5068e (l : Launch) (dC : Nat → ClassId) (dI : Nat → Nat → Nat) (qS : Nat) (fB : Nat → Int32) (kn : Nat) (nn : Nat) (hkn : kn < nn) (hnn : nn < 2 ^ 31) (sz : Nat) : Met l yJ0_charAt_5068e wsRJ0ca ({ frames := 3, cells := 0, slots := 0, locals := 64 }) (va_Pc [.ref qS, .int (nI kn)] (fun U => U.heap.size = sz ∧ va_P (dC, dI) vwCl [] U.heap ∧ va_K (dC, dI) vwCl [] U ∧ va_D (fun _ => True) [] ∧ (StrE qS nn fB) (va_A [] sz) U U.heap)) (va_Qi (fun (r : Int32) (u : Unit) => (narrow .char (.int r) = .int r) ∧ (r = c16 (fB kn))) (fun (u : Unit) t => True) (va_A [] sz)) 0 0 (va_A [] sz) := by
  refine Met.ofW (cc := cJ0_charAt_5068e) (maxL := 2) (ret := (some .char)) (by decide) rfl ?_
  intro p e s m args below meth c s₁ B hml hv
  obtain ⟨rfl, hsz, hP, hK, hD0, hE⟩ := hv
  have hx := B.exec
  have hb := B.bytes
  have hr := B.returns
  have hts := atoms_spec (ws := wsRJ0ca) B.pre
  have hown : s.vm.findClass RJ0 = some m.cls := findClass_of_methodNamed B.named
  have hlocks := B.notSynchronized
  subst hsz
  have hD := hD0.self (sz := s.heap.size)
  generalize hAe : va_A [] s.heap.size = A at hD hE ⊢
  have hA : ∀ q : Nat, s.heap.size ≤ q → A q := fun q h => by rw [← hAe]; exact Or.inr h
  have hS : va_S A s.heap s.heap [] := va_S.rf
  have hl := lv_entry ([.ref qS, .int (nI kn)]) (n := 2) (Nat.le_of_ble_eq_true rfl)
  rw [lg_entry_eq]
  generalize (lg_sl ([.ref qS, .int (nI kn)]) ++ List.replicate (2 - (lg_sl ([.ref qS, .int (nI kn)])).length) Slot.unset).toArray = ls at hl ⊢
  have hl : lv_has ls 2 [(0, .ref qS), (1, .int (nI kn))] := hl
  refine lv_aload_n hx hb dJ0_charAt_5068e_0 rfl (lv_at hl 0 rfl) ?_
  have hFc := noneFree hS hA
  refine va_calli (va_runV (As := []) (rest := []) ⟨hx, hb, hml, hown, hts⟩ (r_J0_isLatin1_aae02 l dC dI qS nn fB s.heap.size) (cwV 0 hts gwsRJ0ca_0 rfl rfl rfl hd_yJ0_isLatin1_aae02_RJ0 (by decide +kernel)) ⟨fun a U g mk q => by obtain ⟨q0, q1, qP, qK, qD, qE⟩ := q; exact ⟨q0, q1, qP, va_K.moved (u := U) (U := U.calling g mk a) (Vm.Alike.refl U.vm) qK, qD, qE.same rfl⟩, hE.recv hS, fun U hU9 hW => ⟨rfl, by rw [hU9], by rw [hU9]; exact nilP, va_K.moved hW.alike (hK.sub (tys' := []) [] rfl), nilD, by rw [hU9]; exact (((hE : (StrE qS nn fB) A s s.heap).kept hS.2.1).narrow (fun q h => hFc q h)).warm hW⟩⟩ rfl rfl hl.1 rfl (lv_room (Nat.le_of_ble_eq_true rfl)) dJ0_charAt_5068e_1 (by decide +kernel)) hS (fun q _ h => hFc q h) hFc (fun r1 u t9_ H1 locs ht hvm hw9 hB9 hz1 hk1 hS => ?_)
  have hP := keepAll hP hk1
  clear hB9
  generalize H1 = H at hP hS ⊢
  have hP : va_P (dC, dI) vwCl ([]) H := hP
  have hD : va_D A ([]) := hD
  obtain rfl := hw9
  refine lv_if_eq (tgt := 16) hx hb dJ0_charAt_5068e_4 (by decide) (fun c9 => absurd c9 (by decide)) (fun _ => ?_)
  refine lv_aload_n hx hb dJ0_charAt_5068e_7 rfl (lv_at hl 0 rfl) ?_
  obtain ⟨vB, hvB, hfB⟩ := hE.2.2.2
  refine vk_getf hx hb hvB hS hown (hts (.fieldLink RJ0 9 "java/lang/String" "value" "[B") (by decide +kernel)) (fun _ h9 => h9) dJ0_charAt_5068e_8 ?_
  refine lv_iload_n hx hb dJ0_charAt_5068e_11 rfl (lv_at hl 1 rfl) ?_
  have hFc := noneFree hS hA
  refine va_calli (va_runS (As := [.ref vB, .int (nI kn)]) (rest := []) ⟨hx, hb, hml, hown, hts⟩ (r_J1_charAt_3b067 l dC dI vB fB kn nn (by first | assumption | decide | omega | rfl) (by first | assumption | decide | omega | rfl) H.size) (va_cwS 2 hts gwsRJ0ca_1 rfl rfl rfl (by decide +kernel) ⟨by decide +kernel, by decide +kernel⟩) ⟨fun a U g mk q => by obtain ⟨q0, q1, qP, qK, qD, qE⟩ := q; exact ⟨q0, q1, qP, va_K.moved (u := U) (U := U.calling g mk a) (Vm.Alike.refl U.vm) qK, qD, qE.same rfl⟩, fun U hU9 hW => ⟨rfl, by rw [hU9], by rw [hU9]; exact nilP, va_K.moved hW.alike (hK.sub (tys' := []) [] rfl), nilD, by rw [hU9]; exact ((((show ArrE vB nn fB A s s.heap from ⟨hE.1, hfB⟩) : (ArrE vB nn fB) A s s.heap).kept hS.2.1).narrow (fun q h => hFc q h)).warm hW⟩⟩ rfl rfl hl.1 rfl (lv_room (Nat.le_of_ble_eq_true rfl)) dJ0_charAt_5068e_12 (by decide +kernel)) hS (fun q _ h => hFc q h) hFc (fun r12 u t9_ H1 locs ht hvm hw9 hB9 hz1 hk1 hS => ?_)
  have hP := keepAll hP hk1
  clear hB9
  generalize H1 = H at hP hS ⊢
  have hP : va_P (dC, dI) vwCl ([]) H := hP
  have hD : va_D A ([]) := hD
  obtain ⟨f12_0, f12_1⟩ := hw9
  refine W.widen (k := 0) (n := 0) (by decide +kernel) (by decide +kernel) ?_
  exact W.zret (v := r12) hx hb hr f12_0 (fun t9_ ht hW => ⟨⟨r12, (), rfl, by (try dsimp only); exact ⟨f12_0, f12_1⟩, trivial⟩, hS.F ht⟩) hS.2.2 dJ0_charAt_5068e_15
theorem dX12_keyLetter_0 : decode cX12_keyLetter 0 = .ok (.ldc_w 471, 3) := dk_19 (by decide +kernel)
theorem dX12_keyLetter_3 : decode cX12_keyLetter 3 = .ok (.iload_n 0, 1) := dk_26 (by decide +kernel)
theorem dX12_keyLetter_4 : decode cX12_keyLetter 4 = .ok (.invokevirtual 473, 3) := dk_182 (by decide +kernel)
theorem dX12_keyLetter_7 : decode cX12_keyLetter 7 = .ok (.ireturn, 1) := dk_172 (by decide +kernel)
def wsRX12_keyLetter : List Cond := .code yX12_keyLetter cX12_keyLetter 1 (some .int) :: ([] ++ (wsV RX12 473 RJ0 yJ0_charAt_5068e wsRJ0ca))
theorem gwsRX12_keyLetter_0 : GoodIn wsRX12_keyLetter (wsV RX12 473 RJ0 yJ0_charAt_5068e wsRJ0ca) := goodIn_sub (fun _ h => List.mem_cons_of_mem _ (List.mem_append_right _ h)) (gdV (by decide +kernel) gdwsRJ0ca)
theorem gdwsRX12_keyLetter : wsRX12_keyLetter.all goodWord = true := gdC rfl (gdA (by decide +kernel : ([] : List Cond).all goodWord = true) (gdV (by decide +kernel) gdwsRJ0ca))
set_option maxHeartbeats 4000000 in
set_option maxRecDepth 100000 in
/-- X12_keyLetter -/
theorem r_X12_keyLetter (l : Launch) (dC : Nat → ClassId) (dI : Nat → Nat → Nat) (kn : Nat) (hkn : kn < 71) (sz : Nat) : Met l yX12_keyLetter wsRX12_keyLetter ({ frames := 4, cells := 0, slots := 0, locals := 85 }) (va_Pc [.int (nI kn)] (fun U => U.heap.size = sz ∧ va_P (dC, dI) vwCl [] U.heap ∧ va_K (dC, dI) vwCl [] U ∧ va_D (fun _ => True) [] ∧ StrA (va_A [] sz) U U.heap)) (va_Qi (fun (r : Int32) (u : Unit) => ((r) = kl kn)) (fun (u : Unit) t => True) (va_A [] sz)) 0 0 (va_A [] sz) := by
  refine Met.ofW (cc := cX12_keyLetter) (maxL := 1) (ret := (some .int)) (by decide) rfl ?_
  intro p e s m args below meth c s₁ B hml hv
  obtain ⟨rfl, hsz, hP, hK, hD0, hE⟩ := hv
  have hx := B.exec
  have hb := B.bytes
  have hr := B.returns
  have hts := atoms_spec (ws := wsRX12_keyLetter) B.pre
  have hown : s.vm.findClass RX12 = some m.cls := findClass_of_methodNamed B.named
  have hlocks := B.notSynchronized
  subst hsz
  have hD := hD0.self (sz := s.heap.size)
  generalize hAe : va_A [] s.heap.size = A at hD hE ⊢
  have hA : ∀ q : Nat, s.heap.size ≤ q → A q := fun q h => by rw [← hAe]; exact Or.inr h
  have hS : va_S A s.heap s.heap [] := va_S.rf
  have hl := lv_entry ([.int (nI kn)]) (n := 1) (Nat.le_of_ble_eq_true rfl)
  rw [lg_entry_eq]
  generalize (lg_sl ([.int (nI kn)]) ++ List.replicate (1 - (lg_sl ([.int (nI kn)])).length) Slot.unset).toArray = ls at hl ⊢
  have hl : lv_has ls 1 [(0, .int (nI kn))] := hl
  obtain ⟨qS, hRS, hSS⟩ := hE.1
  refine lv_ldcwS hx hb hown hRS dX12_keyLetter_0 ?_
  refine lv_iload_n hx hb dX12_keyLetter_3 rfl (lv_at hl 0 rfl) ?_
  have hFc := noneFree hS hA
  refine va_calli (va_runV (As := [.int (nI kn)]) (rest := []) ⟨hx, hb, hml, hown, hts⟩ (r_J0_charAt_5068e l dC dI qS kf kn 71 (by first | assumption | decide | omega | rfl) (by first | assumption | decide | omega | rfl) s.heap.size) (cwV 1 hts gwsRX12_keyLetter_0 rfl rfl rfl hd_yJ0_charAt_5068e_RJ0 (by decide +kernel)) ⟨fun a U g mk q => by obtain ⟨q0, q1, qP, qK, qD, qE⟩ := q; exact ⟨q0, q1, qP, va_K.moved (u := U) (U := U.calling g mk a) (Vm.Alike.refl U.vm) qK, qD, qE.same rfl⟩, hSS.recv hS, fun U hU9 hW => ⟨rfl, by rw [hU9], by rw [hU9]; exact nilP, va_K.moved hW.alike (hK.sub (tys' := []) [] rfl), nilD, by rw [hU9]; exact (((hSS : (StrE qS 71 kf) A s s.heap).kept hS.2.1).narrow (fun q h => hFc q h)).warm hW⟩⟩ rfl rfl hl.1 rfl (lv_room (Nat.le_of_ble_eq_true rfl)) dX12_keyLetter_4 (by decide +kernel)) hS (fun q _ h => hFc q h) hFc (fun r4 u t9_ H1 locs ht hvm hw9 hB9 hz1 hk1 hS => ?_)
  have hP := keepAll hP hk1
  clear hB9
  generalize H1 = H at hP hS ⊢
  have hP : va_P (dC, dI) vwCl ([]) H := hP
  have hD : va_D A ([]) := hD
  obtain ⟨f4_0, f4_1⟩ := hw9
  refine W.widen (k := 0) (n := 0) (by decide +kernel) (by decide +kernel) ?_
  exact W.iret (v := r4) hx hb hr (fun t9_ ht hW => ⟨⟨r4, (), rfl, by (try dsimp only); exact f4_1, trivial⟩, hS.F ht⟩) hS.2.2 dX12_keyLetter_7
theorem dX12_textLetter_0 : decode cX12_textLetter 0 = .ok (.ldc_w 950, 3) := dk_19 (by decide +kernel)
theorem dX12_textLetter_3 : decode cX12_textLetter 3 = .ok (.iload_n 0, 1) := dk_26 (by decide +kernel)
theorem dX12_textLetter_4 : decode cX12_textLetter 4 = .ok (.invokevirtual 473, 3) := dk_182 (by decide +kernel)
theorem dX12_textLetter_7 : decode cX12_textLetter 7 = .ok (.ireturn, 1) := dk_172 (by decide +kernel)
def wsRX12_textLetter : List Cond := .code yX12_textLetter cX12_textLetter 1 (some .int) :: ([] ++ (wsV RX12 473 RJ0 yJ0_charAt_5068e wsRJ0ca))
theorem gwsRX12_textLetter_0 : GoodIn wsRX12_textLetter (wsV RX12 473 RJ0 yJ0_charAt_5068e wsRJ0ca) := goodIn_sub (fun _ h => List.mem_cons_of_mem _ (List.mem_append_right _ h)) (gdV (by decide +kernel) gdwsRJ0ca)
theorem gdwsRX12_textLetter : wsRX12_textLetter.all goodWord = true := gdC rfl (gdA (by decide +kernel : ([] : List Cond).all goodWord = true) (gdV (by decide +kernel) gdwsRJ0ca))
set_option maxHeartbeats 4000000 in
set_option maxRecDepth 100000 in
/-- X12_textLetter -/
theorem r_X12_textLetter (l : Launch) (dC : Nat → ClassId) (dI : Nat → Nat → Nat) (kn : Nat) (hkn : kn < 63) (sz : Nat) : Met l yX12_textLetter wsRX12_textLetter ({ frames := 4, cells := 0, slots := 0, locals := 85 }) (va_Pc [.int (nI kn)] (fun U => U.heap.size = sz ∧ va_P (dC, dI) vwCl [] U.heap ∧ va_K (dC, dI) vwCl [] U ∧ va_D (fun _ => True) [] ∧ StrA (va_A [] sz) U U.heap)) (va_Qi (fun (r : Int32) (u : Unit) => True) (fun (u : Unit) t => True) (va_A [] sz)) 0 0 (va_A [] sz) := by
  refine Met.ofW (cc := cX12_textLetter) (maxL := 1) (ret := (some .int)) (by decide) rfl ?_
  intro p e s m args below meth c s₁ B hml hv
  obtain ⟨rfl, hsz, hP, hK, hD0, hE⟩ := hv
  have hx := B.exec
  have hb := B.bytes
  have hr := B.returns
  have hts := atoms_spec (ws := wsRX12_textLetter) B.pre
  have hown : s.vm.findClass RX12 = some m.cls := findClass_of_methodNamed B.named
  have hlocks := B.notSynchronized
  subst hsz
  have hD := hD0.self (sz := s.heap.size)
  generalize hAe : va_A [] s.heap.size = A at hD hE ⊢
  have hA : ∀ q : Nat, s.heap.size ≤ q → A q := fun q h => by rw [← hAe]; exact Or.inr h
  have hS : va_S A s.heap s.heap [] := va_S.rf
  have hl := lv_entry ([.int (nI kn)]) (n := 1) (Nat.le_of_ble_eq_true rfl)
  rw [lg_entry_eq]
  generalize (lg_sl ([.int (nI kn)]) ++ List.replicate (1 - (lg_sl ([.int (nI kn)])).length) Slot.unset).toArray = ls at hl ⊢
  have hl : lv_has ls 1 [(0, .int (nI kn))] := hl
  obtain ⟨qS, hRS, hSS⟩ := hE.2
  refine lv_ldcwS hx hb hown hRS dX12_textLetter_0 ?_
  refine lv_iload_n hx hb dX12_textLetter_3 rfl (lv_at hl 0 rfl) ?_
  have hFc := noneFree hS hA
  refine va_calli (va_runV (As := [.int (nI kn)]) (rest := []) ⟨hx, hb, hml, hown, hts⟩ (r_J0_charAt_5068e l dC dI qS tf kn 63 (by first | assumption | decide | omega | rfl) (by first | assumption | decide | omega | rfl) s.heap.size) (cwV 1 hts gwsRX12_textLetter_0 rfl rfl rfl hd_yJ0_charAt_5068e_RJ0 (by decide +kernel)) ⟨fun a U g mk q => by obtain ⟨q0, q1, qP, qK, qD, qE⟩ := q; exact ⟨q0, q1, qP, va_K.moved (u := U) (U := U.calling g mk a) (Vm.Alike.refl U.vm) qK, qD, qE.same rfl⟩, hSS.recv hS, fun U hU9 hW => ⟨rfl, by rw [hU9], by rw [hU9]; exact nilP, va_K.moved hW.alike (hK.sub (tys' := []) [] rfl), nilD, by rw [hU9]; exact (((hSS : (StrE qS 63 tf) A s s.heap).kept hS.2.1).narrow (fun q h => hFc q h)).warm hW⟩⟩ rfl rfl hl.1 rfl (lv_room (Nat.le_of_ble_eq_true rfl)) dX12_textLetter_4 (by decide +kernel)) hS (fun q _ h => hFc q h) hFc (fun r4 u t9_ H1 locs ht hvm hw9 hB9 hz1 hk1 hS => ?_)
  have hP := keepAll hP hk1
  clear hB9
  generalize H1 = H at hP hS ⊢
  have hP : va_P (dC, dI) vwCl ([]) H := hP
  have hD : va_D A ([]) := hD
  obtain ⟨f4_0, f4_1⟩ := hw9
  refine W.widen (k := 0) (n := 0) (by decide +kernel) (by decide +kernel) ?_
  exact W.iret (v := r4) hx hb hr (fun t9_ ht hW => ⟨⟨r4, (), rfl, trivial, trivial⟩, hS.F ht⟩) hS.2.2 dX12_textLetter_7

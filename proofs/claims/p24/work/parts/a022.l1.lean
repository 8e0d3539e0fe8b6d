theorem hd_yX9_fail_RX9 : yX9_fail.cls = RX9 ∧ yX9_fail.cls ≠ "java/lang/invoke/MethodHandle" ∧ yX9_fail.cls ≠ "java/lang/invoke/VarHandle" ∧ (parseMethodDescriptor yX9_fail.desc).map (fun d => d.parameters.length) = some 2 := by decide +kernel
theorem hd_yX10_setFraction_RX10 : yX10_setFraction.cls = RX10 ∧ yX10_setFraction.cls ≠ "java/lang/invoke/MethodHandle" ∧ yX10_setFraction.cls ≠ "java/lang/invoke/VarHandle" ∧ (parseMethodDescriptor yX10_setFraction.desc).map (fun d => d.parameters.length) = some 4 := by decide +kernel
theorem hd_yX10_hasVariables_RX10 : yX10_hasVariables.cls = RX10 ∧ yX10_hasVariables.cls ≠ "java/lang/invoke/MethodHandle" ∧ yX10_hasVariables.cls ≠ "java/lang/invoke/VarHandle" ∧ (parseMethodDescriptor yX10_hasVariables.desc).map (fun d => d.parameters.length) = some 1 := by decide +kernel
def WF (hF : Nat → Nat) (aF : Nat → Nat) (kF : Nat → ClassId) (dF_tree : Nat) (nF_tree : Nat) (fF_tree : Nat → Int32) : va_W := [(dF_tree, .inl (kF 0, nF_tree, .inl fF_tree))]
def tF (kF : Nat → ClassId) : List (ClassId × FieldType) := [(kF 0, .int)]
def WL (hL : Nat → Nat) (aL : Nat → Nat) (kL : Nat → ClassId) (hT : Nat → Nat) (hM : Nat → Nat) (xL_tree : Value) (iL_names : Int32) (gL_key : Nat → Int64) (fL_kind : Nat → Int32) (fL_one : Nat → Int32) (fL_two : Nat → Int32) (fL_base : Nat → Int32) (iL_params : Int32) (fL_paramOver : Nat → Int32) (dL_paramOver : Nat) (nL_params : Nat) (fL_paramUnder : Nat → Int32) (dL_paramUnder : Nat) (nL_pu : Nat) (gL_over : Nat → Int64) (gL_under : Nat → Int64) (fL_bound : Nat → Int32) (iL_nameAt : Int32) (iL_startAt : Int32) (iL_steps : Int32) (jL_scaleOver : Int64) (jL_scaleUnder : Int64) : va_W := [(hL 0, .inr (10, [.ref (hT 0), .ref (hM 0), xL_tree, .int iL_names, .ref (aL 0), .ref (aL 1), .ref (aL 2), .ref (aL 3), .ref (aL 4), .int iL_params, .ref dL_paramOver, .ref dL_paramUnder, .ref (aL 7), .ref (aL 8), .ref (aL 9), .int iL_nameAt, .int iL_startAt, .int iL_steps, .long jL_scaleOver, .long jL_scaleUnder])), (aL 0, .inl (kL 0, 40, .inr (.inl gL_key))), (aL 1, .inl (kL 1, 40, .inl fL_kind)), (aL 2, .inl (kL 2, 40, .inl fL_one)), (aL 3, .inl (kL 3, 40, .inl fL_two)), (aL 4, .inl (kL 4, 40, .inl fL_base)), (dL_paramOver, .inl (kL 5, nL_params, .inl fL_paramOver)), (dL_paramUnder, .inl (kL 6, nL_pu, .inl fL_paramUnder)), (aL 7, .inl (kL 7, 360, .inr (.inl gL_over))), (aL 8, .inl (kL 8, 360, .inr (.inl gL_under))), (aL 9, .inl (kL 9, 64, .inl fL_bound))]
def tL (kL : Nat → ClassId) : List (ClassId × FieldType) := [(kL 0, .long), (kL 1, .int), (kL 2, .int), (kL 3, .int), (kL 4, .int), (kL 5, .int), (kL 6, .int), (kL 7, .long), (kL 8, .long), (kL 9, .int)]
theorem dX10_startDeclaration_0 : decode cX10_startDeclaration 0 = .ok (.aload_n 0, 1) := dk_42 (by decide +kernel)
theorem dX10_startDeclaration_1 : decode cX10_startDeclaration 1 = .ok (.iload_n 1, 1) := dk_27 (by decide +kernel)
theorem dX10_startDeclaration_2 : decode cX10_startDeclaration 2 = .ok (.putfield 71, 3) := dk_181 (by decide +kernel)
theorem dX10_startDeclaration_5 : decode cX10_startDeclaration 5 = .ok (.aload_n 0, 1) := dk_42 (by decide +kernel)
theorem dX10_startDeclaration_6 : decode cX10_startDeclaration 6 = .ok (.iload_n 1, 1) := dk_27 (by decide +kernel)
theorem dX10_startDeclaration_7 : decode cX10_startDeclaration 7 = .ok (.putfield 74, 3) := dk_181 (by decide +kernel)
theorem dX10_startDeclaration_10 : decode cX10_startDeclaration 10 = .ok (.aload_n 0, 1) := dk_42 (by decide +kernel)
theorem dX10_startDeclaration_11 : decode cX10_startDeclaration 11 = .ok (.iconst 0, 1) := dk_3 (by decide +kernel)
theorem dX10_startDeclaration_12 : decode cX10_startDeclaration 12 = .ok (.putfield 77, 3) := dk_181 (by decide +kernel)
theorem dX10_startDeclaration_15 : decode cX10_startDeclaration 15 = .ok (.return_, 1) := dk_177 (by decide +kernel)
def wsMX10_startDeclaration : List Cond := .code yX10_startDeclaration cX10_startDeclaration 2 none :: ([.fieldLink RX10 71 "OptimaWorks$Worker" "startAt" "I", .fieldLink RX10 74 "OptimaWorks$Worker" "nameAt" "I", .fieldLink RX10 77 "OptimaWorks$Worker" "steps" "I"] ++ wsX100)
theorem iwsMX10_startDeclaration_in10 : ∀ w ∈ wsX100, w ∈ wsMX10_startDeclaration := fun _ h => List.mem_cons_of_mem _ (List.mem_append_right _ h)
theorem gdwsMX10_startDeclaration : wsMX10_startDeclaration.all goodWord = true := gdC rfl (gdA (by decide +kernel : ([.fieldLink RX10 71 "OptimaWorks$Worker" "startAt" "I", .fieldLink RX10 74 "OptimaWorks$Worker" "nameAt" "I", .fieldLink RX10 77 "OptimaWorks$Worker" "steps" "I"] : List Cond).all goodWord = true) gdwsX100)
set_option maxHeartbeats 4000000 in
set_option maxRecDepth 100000 in
/-- a declaration begins -/
theorem m_X10_startDeclaration (l : Launch) (dC : Nat → ClassId) (dI : Nat → Nat → Nat) (hL : Nat → Nat) (aL : Nat → Nat) (kL : Nat → ClassId) (hT : Nat → Nat) (hM : Nat → Nat) (xL_tree : Value) (iL_names : Int32) (gL_key : Nat → Int64) (fL_kind : Nat → Int32) (fL_one : Nat → Int32) (fL_two : Nat → Int32) (fL_base : Nat → Int32) (iL_params : Int32) (fL_paramOver : Nat → Int32) (dL_paramOver : Nat) (nL_params : Nat) (fL_paramUnder : Nat → Int32) (dL_paramUnder : Nat) (nL_pu : Nat) (gL_over : Nat → Int64) (gL_under : Nat → Int64) (fL_bound : Nat → Int32) (iL_nameAt : Int32) (iL_startAt : Int32) (iL_steps : Int32) (jL_scaleOver : Int64) (jL_scaleUnder : Int64) (p1 : Int32) (b_iL_names : 0 ≤ iL_names.toInt ∧ iL_names.toInt ≤ 40) (b_fL_kind : ∀ q : Nat, 0 ≤ (fL_kind q).toInt ∧ (fL_kind q).toInt ≤ 5) (b_fL_two : ∀ q : Nat, (-1) ≤ (fL_two q).toInt ∧ (fL_two q).toInt ≤ 39) (b_fL_base : ∀ q : Nat, 0 ≤ (fL_base q).toInt ∧ (fL_base q).toInt ≤ 2560) (b_iL_params : 0 ≤ iL_params.toInt ∧ iL_params.toInt ≤ 2560) (b_nL_params : 0 ≤ nL_params ∧ nL_params ≤ 2560) (b_nm : NmL iL_names fL_kind fL_one fL_two fL_base nL_params) (b_pm : iL_params.toInt ≤ ((nL_params : Nat) : Int)) (b_pu : nL_pu = nL_params) (sz : Nat) : Met l yX10_startDeclaration wsMX10_startDeclaration ({ frames := 0, cells := 0, slots := 0, locals := 0 }) (va_Pc [.ref (hL 0), .int p1] (fun U => U.heap.size = sz ∧ va_P (dC, dI) vwCl (WL hL aL kL hT hM xL_tree iL_names gL_key fL_kind fL_one fL_two fL_base iL_params fL_paramOver dL_paramOver nL_params fL_paramUnder dL_paramUnder nL_pu gL_over gL_under fL_bound iL_nameAt iL_startAt iL_steps jL_scaleOver jL_scaleUnder) U.heap ∧ va_K (dC, dI) vwCl (tL kL) U ∧ va_D (fun _ => True) (WL hL aL kL hT hM xL_tree iL_names gL_key fL_kind fL_one fL_two fL_base iL_params fL_paramOver dL_paramOver nL_params fL_paramUnder dL_paramUnder nL_pu gL_over gL_under fL_bound iL_nameAt iL_startAt iL_steps jL_scaleOver jL_scaleUnder))) (va_Qv (fun (u : (Int32) × (Int32) × (Int32)) => True) (fun (u : (Int32) × (Int32) × (Int32)) t => va_P (dC, dI) vwCl (WL hL aL kL hT hM xL_tree iL_names gL_key fL_kind fL_one fL_two fL_base iL_params fL_paramOver dL_paramOver nL_params fL_paramUnder dL_paramUnder nL_pu gL_over gL_under fL_bound (u.1) (u.2.1) (u.2.2) jL_scaleOver jL_scaleUnder) t.heap ∧ va_D (va_A (WL hL aL kL hT hM xL_tree iL_names gL_key fL_kind fL_one fL_two fL_base iL_params fL_paramOver dL_paramOver nL_params fL_paramUnder dL_paramUnder nL_pu gL_over gL_under fL_bound iL_nameAt iL_startAt iL_steps jL_scaleOver jL_scaleUnder) sz) (WL hL aL kL hT hM xL_tree iL_names gL_key fL_kind fL_one fL_two fL_base iL_params fL_paramOver dL_paramOver nL_params fL_paramUnder dL_paramUnder nL_pu gL_over gL_under fL_bound (u.1) (u.2.1) (u.2.2) jL_scaleOver jL_scaleUnder)) (va_A (WL hL aL kL hT hM xL_tree iL_names gL_key fL_kind fL_one fL_two fL_base iL_params fL_paramOver dL_paramOver nL_params fL_paramUnder dL_paramUnder nL_pu gL_over gL_under fL_bound iL_nameAt iL_startAt iL_steps jL_scaleOver jL_scaleUnder) sz)) 0 0 (va_A (WL hL aL kL hT hM xL_tree iL_names gL_key fL_kind fL_one fL_two fL_base iL_params fL_paramOver dL_paramOver nL_params fL_paramUnder dL_paramUnder nL_pu gL_over gL_under fL_bound iL_nameAt iL_startAt iL_steps jL_scaleOver jL_scaleUnder) sz) := by
  refine Met.ofW (cc := cX10_startDeclaration) (maxL := 2) (ret := none) (by decide) rfl ?_
  intro p e s m args below meth c s₁ B hml hv
  obtain ⟨rfl, hsz, hP, hK, hD0⟩ := hv
  have hx := B.exec
  have hb := B.bytes
  have hr := B.returns
  have hts := atoms_spec (ws := wsMX10_startDeclaration) B.pre
  have hown : s.vm.findClass RX10 = some m.cls := findClass_of_methodNamed B.named
  have hlocks := B.notSynchronized
  subst hsz
  have hD := hD0.self (sz := s.heap.size)
  generalize hAe : va_A (WL hL aL kL hT hM xL_tree iL_names gL_key fL_kind fL_one fL_two fL_base iL_params fL_paramOver dL_paramOver nL_params fL_paramUnder dL_paramUnder nL_pu gL_over gL_under fL_bound iL_nameAt iL_startAt iL_steps jL_scaleOver jL_scaleUnder) s.heap.size = A at hD ⊢
  have hA : ∀ q : Nat, s.heap.size ≤ q → A q := fun q h => by rw [← hAe]; exact Or.inr h
  have hS : va_S A s.heap s.heap [] := va_S.rf
  have hl := lv_entry ([.ref (hL 0), .int p1]) (n := 2) (Nat.le_of_ble_eq_true rfl)
  rw [lg_entry_eq]
  generalize (lg_sl ([.ref (hL 0), .int p1]) ++ List.replicate (2 - (lg_sl ([.ref (hL 0), .int p1])).length) Slot.unset).toArray = ls at hl ⊢
  have hl : lv_has ls 2 [(0, .ref (hL 0)), (1, .int p1)] := hl
  refine lv_aload_n hx hb dX10_startDeclaration_0 rfl (lv_at hl 0 rfl) ?_
  refine lv_iload_n hx hb dX10_startDeclaration_1 rfl (lv_at hl 1 rfl) ?_
  refine va_put (D := (dC, dI)) (ci := 10) (v := .int p1) (ty := .int) (C := RX10) (T := TX10) (N := 20) hx hb hts iwsMX10_startDeclaration_in10 tyX10 tyX10_ok nmX10 hown hK hP hD hS 0 rfl rfl 16 (by decide) (hts (.fieldLink RX10 71 "OptimaWorks$Worker" "startAt" "I") (by decide +kernel)) (fun _ h9 => h9) rfl (by decide +kernel) rfl rfl (Nat.le_of_ble_eq_true rfl) dX10_startDeclaration_2 (fun H locs hP hD hS => ?_)
  have hP : va_P (dC, dI) vwCl (WL hL aL kL hT hM xL_tree iL_names gL_key fL_kind fL_one fL_two fL_base iL_params fL_paramOver dL_paramOver nL_params fL_paramUnder dL_paramUnder nL_pu gL_over gL_under fL_bound iL_nameAt p1 iL_steps jL_scaleOver jL_scaleUnder) H := hP
  have hD := fz_sd hP (hD) rfl
  refine lv_aload_n hx hb dX10_startDeclaration_5 rfl (lv_at hl 0 rfl) ?_
  refine lv_iload_n hx hb dX10_startDeclaration_6 rfl (lv_at hl 1 rfl) ?_
  refine va_put (D := (dC, dI)) (ci := 10) (v := .int p1) (ty := .int) (C := RX10) (T := TX10) (N := 20) hx hb hts iwsMX10_startDeclaration_in10 tyX10 tyX10_ok nmX10 hown hK hP hD hS 0 rfl rfl 15 (by decide) (hts (.fieldLink RX10 74 "OptimaWorks$Worker" "nameAt" "I") (by decide +kernel)) (fun _ h9 => h9) rfl (by decide +kernel) rfl rfl (Nat.le_of_ble_eq_true rfl) dX10_startDeclaration_7 (fun H locs hP hD hS => ?_)
  have hP : va_P (dC, dI) vwCl (WL hL aL kL hT hM xL_tree iL_names gL_key fL_kind fL_one fL_two fL_base iL_params fL_paramOver dL_paramOver nL_params fL_paramUnder dL_paramUnder nL_pu gL_over gL_under fL_bound p1 p1 iL_steps jL_scaleOver jL_scaleUnder) H := hP
  have hD := fz_sd hP (hD) rfl
  refine lv_aload_n hx hb dX10_startDeclaration_10 rfl (lv_at hl 0 rfl) ?_
  refine lv_iconst (v := 0) hx hb dX10_startDeclaration_11 (by decide) ?_
  refine va_put (D := (dC, dI)) (ci := 10) (v := .int 0) (ty := .int) (C := RX10) (T := TX10) (N := 20) hx hb hts iwsMX10_startDeclaration_in10 tyX10 tyX10_ok nmX10 hown hK hP hD hS 0 rfl rfl 17 (by decide) (hts (.fieldLink RX10 77 "OptimaWorks$Worker" "steps" "I") (by decide +kernel)) (fun _ h9 => h9) rfl (by decide +kernel) rfl rfl (Nat.le_of_ble_eq_true rfl) dX10_startDeclaration_12 (fun H locs hP hD hS => ?_)
  have hP : va_P (dC, dI) vwCl (WL hL aL kL hT hM xL_tree iL_names gL_key fL_kind fL_one fL_two fL_base iL_params fL_paramOver dL_paramOver nL_params fL_paramUnder dL_paramUnder nL_pu gL_over gL_under fL_bound p1 p1 0 jL_scaleOver jL_scaleUnder) H := hP
  have hD := fz_sd hP (hD) rfl
  refine W.widen (k := 0) (n := 0) (by decide +kernel) (by decide +kernel) ?_
  exact W.vret hx hb hr (fun t9_ ht hW => ⟨⟨(p1, p1, 0), rfl, trivial, by rw [ht]; exact hP, hD⟩, hS.F ht⟩) hS.2.2 dX10_startDeclaration_15
theorem dX10_find_0 : decode cX10_find 0 = .ok (.iconst 0, 1) := dk_3 (by decide +kernel)
theorem dX10_find_1 : decode cX10_find 1 = .ok (.istore_n 3, 1) := dk_62 (by decide +kernel)
theorem dX10_find_2 : decode cX10_find 2 = .ok (.iload_n 3, 1) := dk_29 (by decide +kernel)
theorem dX10_find_3 : decode cX10_find 3 = .ok (.aload_n 0, 1) := dk_42 (by decide +kernel)
theorem dX10_find_4 : decode cX10_find 4 = .ok (.getfield 58, 3) := dk_180 (by decide +kernel)
theorem dX10_find_7 : decode cX10_find 7 = .ok (.if_icmp .ge 22, 3) := dk_162 (by decide +kernel)
theorem dX10_find_10 : decode cX10_find 10 = .ok (.aload_n 0, 1) := dk_42 (by decide +kernel)
theorem dX10_find_11 : decode cX10_find 11 = .ok (.getfield 13, 3) := dk_180 (by decide +kernel)
theorem dX10_find_14 : decode cX10_find 14 = .ok (.iload_n 3, 1) := dk_29 (by decide +kernel)
theorem dX10_find_15 : decode cX10_find 15 = .ok (.laload, 1) := dk_47 (by decide +kernel)
theorem dX10_find_16 : decode cX10_find 16 = .ok (.lload_n 1, 1) := dk_31 (by decide +kernel)
theorem dX10_find_17 : decode cX10_find 17 = .ok (.lcmp, 1) := dk_148 (by decide +kernel)
theorem dX10_find_18 : decode cX10_find 18 = .ok (.ifCond .ne 5, 3) := dk_154 (by decide +kernel)
theorem dX10_find_21 : decode cX10_find 21 = .ok (.iload_n 3, 1) := dk_29 (by decide +kernel)
theorem dX10_find_22 : decode cX10_find 22 = .ok (.ireturn, 1) := dk_172 (by decide +kernel)
theorem dX10_find_23 : decode cX10_find 23 = .ok (.iinc 3 1, 3) := dk_132 (by decide +kernel)
theorem dX10_find_26 : decode cX10_find 26 = .ok (.goto (-24), 3) := dk_167 (by decide +kernel)
theorem dX10_find_29 : decode cX10_find 29 = .ok (.iconst (-1), 1) := dk_2 (by decide +kernel)
theorem dX10_find_30 : decode cX10_find 30 = .ok (.ireturn, 1) := dk_172 (by decide +kernel)
def wsMX10_find : List Cond := .code yX10_find cX10_find 4 (some .int) :: ([.fieldLink RX10 58 "OptimaWorks$Worker" "names" "I", .fieldLink RX10 13 "OptimaWorks$Worker" "key" "[J"] ++ wsX100)
theorem iwsMX10_find_in10 : ∀ w ∈ wsX100, w ∈ wsMX10_find := fun _ h => List.mem_cons_of_mem _ (List.mem_append_right _ h)
theorem gdwsMX10_find : wsMX10_find.all goodWord = true := gdC rfl (gdA (by decide +kernel : ([.fieldLink RX10 58 "OptimaWorks$Worker" "names" "I", .fieldLink RX10 13 "OptimaWorks$Worker" "key" "[J"] : List Cond).all goodWord = true) gdwsX100)
set_option maxHeartbeats 4000000 in
set_option maxRecDepth 100000 in
/-- where a name stands -/
theorem m_X10_find (l : Launch) (dC : Nat → ClassId) (dI : Nat → Nat → Nat) (hL : Nat → Nat) (aL : Nat → Nat) (kL : Nat → ClassId) (hT : Nat → Nat) (hM : Nat → Nat) (xL_tree : Value) (iL_names : Int32) (gL_key : Nat → Int64) (fL_kind : Nat → Int32) (fL_one : Nat → Int32) (fL_two : Nat → Int32) (fL_base : Nat → Int32) (iL_params : Int32) (fL_paramOver : Nat → Int32) (dL_paramOver : Nat) (nL_params : Nat) (fL_paramUnder : Nat → Int32) (dL_paramUnder : Nat) (nL_pu : Nat) (gL_over : Nat → Int64) (gL_under : Nat → Int64) (fL_bound : Nat → Int32) (iL_nameAt : Int32) (iL_startAt : Int32) (iL_steps : Int32) (jL_scaleOver : Int64) (jL_scaleUnder : Int64) (p1 : Int64) (b_iL_names : 0 ≤ iL_names.toInt ∧ iL_names.toInt ≤ 40) (b_fL_kind : ∀ q : Nat, 0 ≤ (fL_kind q).toInt ∧ (fL_kind q).toInt ≤ 5) (b_fL_two : ∀ q : Nat, (-1) ≤ (fL_two q).toInt ∧ (fL_two q).toInt ≤ 39) (b_fL_base : ∀ q : Nat, 0 ≤ (fL_base q).toInt ∧ (fL_base q).toInt ≤ 2560) (b_iL_params : 0 ≤ iL_params.toInt ∧ iL_params.toInt ≤ 2560) (b_nL_params : 0 ≤ nL_params ∧ nL_params ≤ 2560) (b_nm : NmL iL_names fL_kind fL_one fL_two fL_base nL_params) (b_pm : iL_params.toInt ≤ ((nL_params : Nat) : Int)) (b_pu : nL_pu = nL_params) (sz : Nat) : Met l yX10_find wsMX10_find ({ frames := 0, cells := 0, slots := 0, locals := 0 }) (va_Pc [.ref (hL 0), .long p1] (fun U => U.heap.size = sz ∧ va_P (dC, dI) vwCl (WL hL aL kL hT hM xL_tree iL_names gL_key fL_kind fL_one fL_two fL_base iL_params fL_paramOver dL_paramOver nL_params fL_paramUnder dL_paramUnder nL_pu gL_over gL_under fL_bound iL_nameAt iL_startAt iL_steps jL_scaleOver jL_scaleUnder) U.heap ∧ va_K (dC, dI) vwCl (tL kL) U ∧ va_D (fun _ => True) (WL hL aL kL hT hM xL_tree iL_names gL_key fL_kind fL_one fL_two fL_base iL_params fL_paramOver dL_paramOver nL_params fL_paramUnder dL_paramUnder nL_pu gL_over gL_under fL_bound iL_nameAt iL_startAt iL_steps jL_scaleOver jL_scaleUnder))) (va_Qi (fun (r : Int32) (u : Unit) => ((-1) ≤ r.toInt ∧ r.toInt ≤ 39) ∧ (r.toInt < iL_names.toInt)) (fun (u : Unit) t => va_P (dC, dI) vwCl (WL hL aL kL hT hM xL_tree iL_names gL_key fL_kind fL_one fL_two fL_base iL_params fL_paramOver dL_paramOver nL_params fL_paramUnder dL_paramUnder nL_pu gL_over gL_under fL_bound iL_nameAt iL_startAt iL_steps jL_scaleOver jL_scaleUnder) t.heap ∧ va_D (va_A (WL hL aL kL hT hM xL_tree iL_names gL_key fL_kind fL_one fL_two fL_base iL_params fL_paramOver dL_paramOver nL_params fL_paramUnder dL_paramUnder nL_pu gL_over gL_under fL_bound iL_nameAt iL_startAt iL_steps jL_scaleOver jL_scaleUnder) sz) (WL hL aL kL hT hM xL_tree iL_names gL_key fL_kind fL_one fL_two fL_base iL_params fL_paramOver dL_paramOver nL_params fL_paramUnder dL_paramUnder nL_pu gL_over gL_under fL_bound iL_nameAt iL_startAt iL_steps jL_scaleOver jL_scaleUnder)) (va_A (WL hL aL kL hT hM xL_tree iL_names gL_key fL_kind fL_one fL_two fL_base iL_params fL_paramOver dL_paramOver nL_params fL_paramUnder dL_paramUnder nL_pu gL_over gL_under fL_bound iL_nameAt iL_startAt iL_steps jL_scaleOver jL_scaleUnder) sz)) 0 0 (va_A (WL hL aL kL hT hM xL_tree iL_names gL_key fL_kind fL_one fL_two fL_base iL_params fL_paramOver dL_paramOver nL_params fL_paramUnder dL_paramUnder nL_pu gL_over gL_under fL_bound iL_nameAt iL_startAt iL_steps jL_scaleOver jL_scaleUnder) sz) := by
  refine Met.ofW (cc := cX10_find) (maxL := 4) (ret := (some .int)) (by decide) rfl ?_
  intro p e s m args below meth c s₁ B hml hv
  obtain ⟨rfl, hsz, hP, hK, hD0⟩ := hv
  have hx := B.exec
  have hb := B.bytes
  have hr := B.returns
  have hts := atoms_spec (ws := wsMX10_find) B.pre
  have hown : s.vm.findClass RX10 = some m.cls := findClass_of_methodNamed B.named
  have hlocks := B.notSynchronized
  subst hsz
  have hD := hD0.self (sz := s.heap.size)
  generalize hAe : va_A (WL hL aL kL hT hM xL_tree iL_names gL_key fL_kind fL_one fL_two fL_base iL_params fL_paramOver dL_paramOver nL_params fL_paramUnder dL_paramUnder nL_pu gL_over gL_under fL_bound iL_nameAt iL_startAt iL_steps jL_scaleOver jL_scaleUnder) s.heap.size = A at hD ⊢
  have hA : ∀ q : Nat, s.heap.size ≤ q → A q := fun q h => by rw [← hAe]; exact Or.inr h
  have hS : va_S A s.heap s.heap [] := va_S.rf
  have hl := lv_entry ([.ref (hL 0), .long p1]) (n := 4) (Nat.le_of_ble_eq_true rfl)
  rw [lg_entry_eq]
  generalize (lg_sl ([.ref (hL 0), .long p1]) ++ List.replicate (4 - (lg_sl ([.ref (hL 0), .long p1])).length) Slot.unset).toArray = ls at hl ⊢
  have hl : lv_has ls 4 [(0, .ref (hL 0)), (1, .long p1)] := hl
  refine lv_iconst (v := 0) hx hb dX10_find_0 (by decide) ?_
  refine lv_istore_n hx hb dX10_find_1 rfl hl (by decide) rfl (fun ls (hl : lv_has ls _ ([(3, .int 0), (0, .ref (hL 0)), (1, .long p1)])) => ?_)
  have hl : lv_has _ _ ([(3, .int 0), (0, .ref (hL 0)), (1, .long p1)]) := lv_sub hl [0, 1, 2] rfl
  refine (fun (loop : ∀ (n9 : Nat) (l3_x2 : Int32) (H : Heap) (locs : List Loc) (ls : Array Slot), (0 ≤ l3_x2.toInt ∧ l3_x2.toInt ≤ 40) → (40 - l3_x2.toInt < ((n9 : Nat) : Int)) → va_P (dC, dI) vwCl (WL hL aL kL hT hM xL_tree iL_names gL_key fL_kind fL_one fL_two fL_base iL_params fL_paramOver dL_paramOver nL_params fL_paramUnder dL_paramUnder nL_pu gL_over gL_under fL_bound iL_nameAt iL_startAt iL_steps jL_scaleOver jL_scaleUnder) H → va_D A (WL hL aL kL hT hM xL_tree iL_names gL_key fL_kind fL_one fL_two fL_base iL_params fL_paramOver dL_paramOver nL_params fL_paramUnder dL_paramUnder nL_pu gL_over gL_under fL_bound iL_nameAt iL_startAt iL_steps jL_scaleOver jL_scaleUnder) → va_S A s.heap H locs → lv_has ls 4 [(3, .int l3_x2), (0, .ref (hL 0)), (1, .long p1)] → W p l e _ s m _ below meth c H locs 0 0 _ (F0 m 2 ls [])) => loop (41) 0 _ _ _ (show 0 ≤ (0 : Int32).toInt ∧ (0 : Int32).toInt ≤ 40 from by decide) ((by have e9 : (0 : Int32).toInt = 0 := (by decide : (0 : Int32).toInt = 0); omega)) hP hD hS hl) ?_
  intro n9
  induction n9 with
  | zero => intro l3_x2 H locs ls b_l3_x2 hf9; exact False.elim (by omega)
  | succ n9 ihx2 =>
    intro l3_x2 H locs ls b_l3_x2 hfx2 hP hD hS hl
    refine lv_iload_n hx hb dX10_find_2 rfl (lv_at hl 0 rfl) ?_
    refine lv_aload_n hx hb dX10_find_3 rfl (lv_at hl 1 rfl) ?_
    refine va_get (D := (dC, dI)) (ci := 10) (v := .int iL_names) (C := RX10) (T := TX10) (N := 20) hx hb hts iwsMX10_find_in10 hown hK hP 0 rfl rfl 3 (by decide) (hts (.fieldLink RX10 58 "OptimaWorks$Worker" "names" "I") (by decide +kernel)) (fun _ h9 => h9) rfl dX10_find_4 ?_
    refine lv_icmp_ge (tgt := 29) hx hb dX10_find_7 (by decide) (fun c_7 => ?_) (fun c_7 => ?_)
    · have t_7 : l3_x2.toInt ≥ iL_names.toInt := toI_ge c_7 rfl rfl
      refine lv_iconst (v := (-1)) hx hb dX10_find_29 (by decide) ?_
      refine W.widen (k := 0) (n := 0) (by decide +kernel) (by decide +kernel) ?_
      exact W.iret (v := (-1)) hx hb hr (fun t9_ ht hW => ⟨⟨((-1) : Int32), (), rfl, ⟨(show (-1) ≤ ((-1) : Int32).toInt ∧ ((-1) : Int32).toInt ≤ 39 from by decide), (by (try dsimp only); first | decide | assumption | omega | (have h8 : (-1 : Int32).toInt = -1 := (by decide); omega))⟩, by rw [ht]; exact hP, hD⟩, hS.F ht⟩) hS.2.2 dX10_find_30
    · have t_7 : ¬ l3_x2.toInt ≥ iL_names.toInt := toI_nge c_7 rfl rfl
      refine lv_aload_n hx hb dX10_find_10 rfl (lv_at hl 1 rfl) ?_
      refine va_get (D := (dC, dI)) (ci := 10) (v := .ref (aL 0)) (C := RX10) (T := TX10) (N := 20) hx hb hts iwsMX10_find_in10 hown hK hP 0 rfl rfl 4 (by decide) (hts (.fieldLink RX10 13 "OptimaWorks$Worker" "key" "[J") (by decide +kernel)) (fun _ h9 => h9) rfl dX10_find_11 ?_
      refine lv_iload_n hx hb dX10_find_14 rfl (lv_at hl 0 rfl) ?_
      refine va_lald (cA := kL 0) (n := 40) (f := gL_key) hx hb hK hP 1 0 rfl rfl (vp_in_iff.mpr ⟨b_l3_x2.1, (Int.lt_of_lt_of_le (Int.not_le.mp t_7) (Int.le_trans b_iL_names.2 (by decide)))⟩) dX10_find_15 ?_
      refine lv_topl (fun v3 hv3 => ?_)
      clear hv3
      refine lv_lload_n hx hb dX10_find_16 rfl (lv_at hl 2 rfl) ?_
      refine W.lcmp hx hb dX10_find_17 ?_
      refine lv_if_ne (tgt := 23) hx hb dX10_find_18 (by decide) (fun c_18 => ?_) (fun c_18 => ?_)
      · have t_18 : v3.toInt ≠ p1.toInt := toL_ne c_18 rfl rfl
        refine lv_iinc (v := (iI (l3_x2.toInt + 1))) hx hb dX10_find_23 hl (k := 0) rfl (iI_add2 (iI_of _) (by decide : (1 : Int32) = iI 1)) (by decide) rfl (fun ls (hl : lv_has ls _ ([(3, .int (iI (l3_x2.toInt + 1))), (0, .ref (hL 0)), (1, .long p1)])) => ?_)
        refine lv_goto (tgt := 2) hx hb dX10_find_26 (by decide) ?_
        have hl : lv_has _ _ ([(3, .int (iI (l3_x2.toInt + 1))), (0, .ref (hL 0)), (1, .long p1)]) := lv_sub hl [0, 1, 2] rfl
        exact ihx2 (iI (l3_x2.toInt + 1)) _ _ _ (iI_rng (Int.le_trans (by decide) (Int.add_le_add (b_l3_x2.1) (Int.le_refl _))) (by omega) (by decide) (by decide)) (by have e9 : ((iI (l3_x2.toInt + 1))).toInt = (l3_x2.toInt + 1) := (iI_t (Int.le_trans (by decide) (Int.add_le_add (b_l3_x2.1) (Int.le_refl _))) (Int.le_trans (Int.add_le_add (b_l3_x2.2) (Int.le_refl _)) (by decide))); omega) hP hD hS hl
      · have t_18 : v3.toInt = p1.toInt := toL_nne c_18 rfl rfl
        refine lv_iload_n hx hb dX10_find_21 rfl (lv_at hl 0 rfl) ?_
        refine W.widen (k := 0) (n := 0) (by decide +kernel) (by decide +kernel) ?_
        exact W.iret (v := l3_x2) hx hb hr (fun t9_ ht hW => ⟨⟨l3_x2, (), rfl, ⟨(by first | exact b_l3_x2 | with_reducible assumption | exact ⟨by omega, by omega⟩ | assumption), (by (try dsimp only); first | decide | assumption | omega | (have h8 : (-1 : Int32).toInt = -1 := (by decide); omega))⟩, by rw [ht]; exact hP, hD⟩, hS.F ht⟩) hS.2.2 dX10_find_22
theorem dX10_findValue_0 : decode cX10_findValue 0 = .ok (.iconst 0, 1) := dk_3 (by decide +kernel)
theorem dX10_findValue_1 : decode cX10_findValue 1 = .ok (.istore_n 3, 1) := dk_62 (by decide +kernel)
theorem dX10_findValue_2 : decode cX10_findValue 2 = .ok (.iload_n 3, 1) := dk_29 (by decide +kernel)
theorem dX10_findValue_3 : decode cX10_findValue 3 = .ok (.aload_n 0, 1) := dk_42 (by decide +kernel)
theorem dX10_findValue_4 : decode cX10_findValue 4 = .ok (.getfield 58, 3) := dk_180 (by decide +kernel)
theorem dX10_findValue_7 : decode cX10_findValue 7 = .ok (.if_icmp .ge 42, 3) := dk_162 (by decide +kernel)
theorem dX10_findValue_10 : decode cX10_findValue 10 = .ok (.aload_n 0, 1) := dk_42 (by decide +kernel)
theorem dX10_findValue_11 : decode cX10_findValue 11 = .ok (.getfield 13, 3) := dk_180 (by decide +kernel)
theorem dX10_findValue_14 : decode cX10_findValue 14 = .ok (.iload_n 3, 1) := dk_29 (by decide +kernel)
theorem dX10_findValue_15 : decode cX10_findValue 15 = .ok (.laload, 1) := dk_47 (by decide +kernel)
theorem dX10_findValue_16 : decode cX10_findValue 16 = .ok (.lload_n 1, 1) := dk_31 (by decide +kernel)
theorem dX10_findValue_17 : decode cX10_findValue 17 = .ok (.lcmp, 1) := dk_148 (by decide +kernel)
theorem dX10_findValue_18 : decode cX10_findValue 18 = .ok (.ifCond .ne 25, 3) := dk_154 (by decide +kernel)
theorem dX10_findValue_21 : decode cX10_findValue 21 = .ok (.aload_n 0, 1) := dk_42 (by decide +kernel)
theorem dX10_findValue_22 : decode cX10_findValue 22 = .ok (.getfield 17, 3) := dk_180 (by decide +kernel)
theorem dX10_findValue_25 : decode cX10_findValue 25 = .ok (.iload_n 3, 1) := dk_29 (by decide +kernel)
theorem dX10_findValue_26 : decode cX10_findValue 26 = .ok (.iaload, 1) := dk_46 (by decide +kernel)
theorem dX10_findValue_27 : decode cX10_findValue 27 = .ok (.iconst 1, 1) := dk_4 (by decide +kernel)
theorem dX10_findValue_28 : decode cX10_findValue 28 = .ok (.if_icmp .eq 15, 3) := dk_159 (by decide +kernel)
theorem dX10_findValue_31 : decode cX10_findValue 31 = .ok (.aload_n 0, 1) := dk_42 (by decide +kernel)
theorem dX10_findValue_32 : decode cX10_findValue 32 = .ok (.getfield 17, 3) := dk_180 (by decide +kernel)
theorem dX10_findValue_35 : decode cX10_findValue 35 = .ok (.iload_n 3, 1) := dk_29 (by decide +kernel)
theorem dX10_findValue_36 : decode cX10_findValue 36 = .ok (.iaload, 1) := dk_46 (by decide +kernel)
theorem dX10_findValue_37 : decode cX10_findValue 37 = .ok (.iconst 5, 1) := dk_8 (by decide +kernel)
theorem dX10_findValue_38 : decode cX10_findValue 38 = .ok (.if_icmp .eq 5, 3) := dk_159 (by decide +kernel)
theorem dX10_findValue_41 : decode cX10_findValue 41 = .ok (.iload_n 3, 1) := dk_29 (by decide +kernel)
theorem dX10_findValue_42 : decode cX10_findValue 42 = .ok (.ireturn, 1) := dk_172 (by decide +kernel)
theorem dX10_findValue_43 : decode cX10_findValue 43 = .ok (.iinc 3 1, 3) := dk_132 (by decide +kernel)
theorem dX10_findValue_46 : decode cX10_findValue 46 = .ok (.goto (-44), 3) := dk_167 (by decide +kernel)
theorem dX10_findValue_49 : decode cX10_findValue 49 = .ok (.iconst (-1), 1) := dk_2 (by decide +kernel)
theorem dX10_findValue_50 : decode cX10_findValue 50 = .ok (.ireturn, 1) := dk_172 (by decide +kernel)
def wsMX10_findValue : List Cond := .code yX10_findValue cX10_findValue 4 (some .int) :: ([.fieldLink RX10 58 "OptimaWorks$Worker" "names" "I", .fieldLink RX10 13 "OptimaWorks$Worker" "key" "[J", .fieldLink RX10 17 "OptimaWorks$Worker" "kind" "[I"] ++ wsX100)
theorem iwsMX10_findValue_in10 : ∀ w ∈ wsX100, w ∈ wsMX10_findValue := fun _ h => List.mem_cons_of_mem _ (List.mem_append_right _ h)
theorem gdwsMX10_findValue : wsMX10_findValue.all goodWord = true := gdC rfl (gdA (by decide +kernel : ([.fieldLink RX10 58 "OptimaWorks$Worker" "names" "I", .fieldLink RX10 13 "OptimaWorks$Worker" "key" "[J", .fieldLink RX10 17 "OptimaWorks$Worker" "kind" "[I"] : List Cond).all goodWord = true) gdwsX100)
theorem hm_m_X10_findValue_0 : (.fieldLink RX10 17 "OptimaWorks$Worker" "kind" "[I" : Cond) ∈ wsMX10_findValue := by decide +kernel
set_option maxHeartbeats 4000000 in
set_option maxRecDepth 100000 in
/-- where a name of a value stands -/
theorem m_X10_findValue (l : Launch) (dC : Nat → ClassId) (dI : Nat → Nat → Nat) (hL : Nat → Nat) (aL : Nat → Nat) (kL : Nat → ClassId) (hT : Nat → Nat) (hM : Nat → Nat) (xL_tree : Value) (iL_names : Int32) (gL_key : Nat → Int64) (fL_kind : Nat → Int32) (fL_one : Nat → Int32) (fL_two : Nat → Int32) (fL_base : Nat → Int32) (iL_params : Int32) (fL_paramOver : Nat → Int32) (dL_paramOver : Nat) (nL_params : Nat) (fL_paramUnder : Nat → Int32) (dL_paramUnder : Nat) (nL_pu : Nat) (gL_over : Nat → Int64) (gL_under : Nat → Int64) (fL_bound : Nat → Int32) (iL_nameAt : Int32) (iL_startAt : Int32) (iL_steps : Int32) (jL_scaleOver : Int64) (jL_scaleUnder : Int64) (p1 : Int64) (b_iL_names : 0 ≤ iL_names.toInt ∧ iL_names.toInt ≤ 40) (b_fL_kind : ∀ q : Nat, 0 ≤ (fL_kind q).toInt ∧ (fL_kind q).toInt ≤ 5) (b_fL_two : ∀ q : Nat, (-1) ≤ (fL_two q).toInt ∧ (fL_two q).toInt ≤ 39) (b_fL_base : ∀ q : Nat, 0 ≤ (fL_base q).toInt ∧ (fL_base q).toInt ≤ 2560) (b_iL_params : 0 ≤ iL_params.toInt ∧ iL_params.toInt ≤ 2560) (b_nL_params : 0 ≤ nL_params ∧ nL_params ≤ 2560) (b_nm : NmL iL_names fL_kind fL_one fL_two fL_base nL_params) (b_pm : iL_params.toInt ≤ ((nL_params : Nat) : Int)) (b_pu : nL_pu = nL_params) (sz : Nat) : Met l yX10_findValue wsMX10_findValue ({ frames := 0, cells := 0, slots := 0, locals := 0 }) (va_Pc [.ref (hL 0), .long p1] (fun U => U.heap.size = sz ∧ va_P (dC, dI) vwCl (WL hL aL kL hT hM xL_tree iL_names gL_key fL_kind fL_one fL_two fL_base iL_params fL_paramOver dL_paramOver nL_params fL_paramUnder dL_paramUnder nL_pu gL_over gL_under fL_bound iL_nameAt iL_startAt iL_steps jL_scaleOver jL_scaleUnder) U.heap ∧ va_K (dC, dI) vwCl (tL kL) U ∧ va_D (fun _ => True) (WL hL aL kL hT hM xL_tree iL_names gL_key fL_kind fL_one fL_two fL_base iL_params fL_paramOver dL_paramOver nL_params fL_paramUnder dL_paramUnder nL_pu gL_over gL_under fL_bound iL_nameAt iL_startAt iL_steps jL_scaleOver jL_scaleUnder))) (va_Qi (fun (r : Int32) (u : Unit) => ((-1) ≤ r.toInt ∧ r.toInt ≤ 39) ∧ (r.toInt < iL_names.toInt) ∧ (r.toInt ≠ -1 → twL fL_kind r.toInt ≠ 1 ∧ twL fL_kind r.toInt ≠ 5)) (fun (u : Unit) t => va_P (dC, dI) vwCl (WL hL aL kL hT hM xL_tree iL_names gL_key fL_kind fL_one fL_two fL_base iL_params fL_paramOver dL_paramOver nL_params fL_paramUnder dL_paramUnder nL_pu gL_over gL_under fL_bound iL_nameAt iL_startAt iL_steps jL_scaleOver jL_scaleUnder) t.heap ∧ va_D (va_A (WL hL aL kL hT hM xL_tree iL_names gL_key fL_kind fL_one fL_two fL_base iL_params fL_paramOver dL_paramOver nL_params fL_paramUnder dL_paramUnder nL_pu gL_over gL_under fL_bound iL_nameAt iL_startAt iL_steps jL_scaleOver jL_scaleUnder) sz) (WL hL aL kL hT hM xL_tree iL_names gL_key fL_kind fL_one fL_two fL_base iL_params fL_paramOver dL_paramOver nL_params fL_paramUnder dL_paramUnder nL_pu gL_over gL_under fL_bound iL_nameAt iL_startAt iL_steps jL_scaleOver jL_scaleUnder)) (va_A (WL hL aL kL hT hM xL_tree iL_names gL_key fL_kind fL_one fL_two fL_base iL_params fL_paramOver dL_paramOver nL_params fL_paramUnder dL_paramUnder nL_pu gL_over gL_under fL_bound iL_nameAt iL_startAt iL_steps jL_scaleOver jL_scaleUnder) sz)) 0 0 (va_A (WL hL aL kL hT hM xL_tree iL_names gL_key fL_kind fL_one fL_two fL_base iL_params fL_paramOver dL_paramOver nL_params fL_paramUnder dL_paramUnder nL_pu gL_over gL_under fL_bound iL_nameAt iL_startAt iL_steps jL_scaleOver jL_scaleUnder) sz) := by
  refine Met.ofW (cc := cX10_findValue) (maxL := 4) (ret := (some .int)) (by decide) rfl ?_
  intro p e s m args below meth c s₁ B hml hv
  obtain ⟨rfl, hsz, hP, hK, hD0⟩ := hv
  have hx := B.exec
  have hb := B.bytes
  have hr := B.returns
  have hts := atoms_spec (ws := wsMX10_findValue) B.pre
  have hown : s.vm.findClass RX10 = some m.cls := findClass_of_methodNamed B.named
  have hlocks := B.notSynchronized
  subst hsz
  have hD := hD0.self (sz := s.heap.size)
  generalize hAe : va_A (WL hL aL kL hT hM xL_tree iL_names gL_key fL_kind fL_one fL_two fL_base iL_params fL_paramOver dL_paramOver nL_params fL_paramUnder dL_paramUnder nL_pu gL_over gL_under fL_bound iL_nameAt iL_startAt iL_steps jL_scaleOver jL_scaleUnder) s.heap.size = A at hD ⊢
  have hA : ∀ q : Nat, s.heap.size ≤ q → A q := fun q h => by rw [← hAe]; exact Or.inr h
  have hS : va_S A s.heap s.heap [] := va_S.rf
  have hl := lv_entry ([.ref (hL 0), .long p1]) (n := 4) (Nat.le_of_ble_eq_true rfl)
  rw [lg_entry_eq]
  generalize (lg_sl ([.ref (hL 0), .long p1]) ++ List.replicate (4 - (lg_sl ([.ref (hL 0), .long p1])).length) Slot.unset).toArray = ls at hl ⊢
  have hl : lv_has ls 4 [(0, .ref (hL 0)), (1, .long p1)] := hl
  refine lv_iconst (v := 0) hx hb dX10_findValue_0 (by decide) ?_
  refine lv_istore_n hx hb dX10_findValue_1 rfl hl (by decide) rfl (fun ls (hl : lv_has ls _ ([(3, .int 0), (0, .ref (hL 0)), (1, .long p1)])) => ?_)
  have hl : lv_has _ _ ([(3, .int 0), (0, .ref (hL 0)), (1, .long p1)]) := lv_sub hl [0, 1, 2] rfl
  refine (fun (loop : ∀ (n9 : Nat) (l3_x2 : Int32) (H : Heap) (locs : List Loc) (ls : Array Slot), (0 ≤ l3_x2.toInt ∧ l3_x2.toInt ≤ 40) → (40 - l3_x2.toInt < ((n9 : Nat) : Int)) → va_P (dC, dI) vwCl (WL hL aL kL hT hM xL_tree iL_names gL_key fL_kind fL_one fL_two fL_base iL_params fL_paramOver dL_paramOver nL_params fL_paramUnder dL_paramUnder nL_pu gL_over gL_under fL_bound iL_nameAt iL_startAt iL_steps jL_scaleOver jL_scaleUnder) H → va_D A (WL hL aL kL hT hM xL_tree iL_names gL_key fL_kind fL_one fL_two fL_base iL_params fL_paramOver dL_paramOver nL_params fL_paramUnder dL_paramUnder nL_pu gL_over gL_under fL_bound iL_nameAt iL_startAt iL_steps jL_scaleOver jL_scaleUnder) → va_S A s.heap H locs → lv_has ls 4 [(3, .int l3_x2), (0, .ref (hL 0)), (1, .long p1)] → W p l e _ s m _ below meth c H locs 0 0 _ (F0 m 2 ls [])) => loop (41) 0 _ _ _ (show 0 ≤ (0 : Int32).toInt ∧ (0 : Int32).toInt ≤ 40 from by decide) ((by have e9 : (0 : Int32).toInt = 0 := (by decide : (0 : Int32).toInt = 0); omega)) hP hD hS hl) ?_
  intro n9
  induction n9 with
  | zero => intro l3_x2 H locs ls b_l3_x2 hf9; exact False.elim (by omega)
  | succ n9 ihx2 =>
    intro l3_x2 H locs ls b_l3_x2 hfx2 hP hD hS hl
    refine lv_iload_n hx hb dX10_findValue_2 rfl (lv_at hl 0 rfl) ?_
    refine lv_aload_n hx hb dX10_findValue_3 rfl (lv_at hl 1 rfl) ?_
    refine va_get (D := (dC, dI)) (ci := 10) (v := .int iL_names) (C := RX10) (T := TX10) (N := 20) hx hb hts iwsMX10_findValue_in10 hown hK hP 0 rfl rfl 3 (by decide) (hts (.fieldLink RX10 58 "OptimaWorks$Worker" "names" "I") (by decide +kernel)) (fun _ h9 => h9) rfl dX10_findValue_4 ?_
    refine lv_icmp_ge (tgt := 49) hx hb dX10_findValue_7 (by decide) (fun c_7 => ?_) (fun c_7 => ?_)
    · have t_7 : l3_x2.toInt ≥ iL_names.toInt := toI_ge c_7 rfl rfl
      refine lv_iconst (v := (-1)) hx hb dX10_findValue_49 (by decide) ?_
      refine W.widen (k := 0) (n := 0) (by decide +kernel) (by decide +kernel) ?_
      exact W.iret (v := (-1)) hx hb hr (fun t9_ ht hW => ⟨⟨((-1) : Int32), (), rfl, ⟨(show (-1) ≤ ((-1) : Int32).toInt ∧ ((-1) : Int32).toInt ≤ 39 from by decide), (by (try dsimp only); first | decide | assumption | omega | (have h8 : (-1 : Int32).toInt = -1 := (by decide); omega)), (by (try dsimp only); first | (intro h9; exact absurd (by decide) h9) | (intro h9; exact ⟨by omega, by omega⟩))⟩, by rw [ht]; exact hP, hD⟩, hS.F ht⟩) hS.2.2 dX10_findValue_50
    · have t_7 : ¬ l3_x2.toInt ≥ iL_names.toInt := toI_nge c_7 rfl rfl
      refine lv_aload_n hx hb dX10_findValue_10 rfl (lv_at hl 1 rfl) ?_
      refine va_get (D := (dC, dI)) (ci := 10) (v := .ref (aL 0)) (C := RX10) (T := TX10) (N := 20) hx hb hts iwsMX10_findValue_in10 hown hK hP 0 rfl rfl 4 (by decide) (hts (.fieldLink RX10 13 "OptimaWorks$Worker" "key" "[J") (by decide +kernel)) (fun _ h9 => h9) rfl dX10_findValue_11 ?_
      refine lv_iload_n hx hb dX10_findValue_14 rfl (lv_at hl 0 rfl) ?_
      refine va_lald (cA := kL 0) (n := 40) (f := gL_key) hx hb hK hP 1 0 rfl rfl (vp_in_iff.mpr ⟨b_l3_x2.1, (Int.lt_of_lt_of_le (Int.not_le.mp t_7) (Int.le_trans b_iL_names.2 (by decide)))⟩) dX10_findValue_15 ?_
      refine lv_topl (fun v7 hv7 => ?_)
      clear hv7
      refine lv_lload_n hx hb dX10_findValue_16 rfl (lv_at hl 2 rfl) ?_
      refine W.lcmp hx hb dX10_findValue_17 ?_
      refine lv_if_ne (tgt := 43) hx hb dX10_findValue_18 (by decide) (fun c_18 => ?_) (fun c_18 => ?_)
      · have t_18 : v7.toInt ≠ p1.toInt := toL_ne c_18 rfl rfl
        refine lv_iinc (v := (iI (l3_x2.toInt + 1))) hx hb dX10_findValue_43 hl (k := 0) rfl (iI_add2 (iI_of _) (by decide : (1 : Int32) = iI 1)) (by decide) rfl (fun ls (hl : lv_has ls _ ([(3, .int (iI (l3_x2.toInt + 1))), (0, .ref (hL 0)), (1, .long p1)])) => ?_)
        refine lv_goto (tgt := 2) hx hb dX10_findValue_46 (by decide) ?_
        have hl : lv_has _ _ ([(3, .int (iI (l3_x2.toInt + 1))), (0, .ref (hL 0)), (1, .long p1)]) := lv_sub hl [0, 1, 2] rfl
        exact ihx2 (iI (l3_x2.toInt + 1)) _ _ _ (iI_rng (Int.le_trans (by decide) (Int.add_le_add (b_l3_x2.1) (Int.le_refl _))) (by omega) (by decide) (by decide)) (by have e9 : ((iI (l3_x2.toInt + 1))).toInt = (l3_x2.toInt + 1) := (iI_t (Int.le_trans (by decide) (Int.add_le_add (b_l3_x2.1) (Int.le_refl _))) (Int.le_trans (Int.add_le_add (b_l3_x2.2) (Int.le_refl _)) (by decide))); omega) hP hD hS hl
      · have t_18 : v7.toInt = p1.toInt := toL_nne c_18 rfl rfl
        refine lv_aload_n hx hb dX10_findValue_21 rfl (lv_at hl 1 rfl) ?_
        refine va_get (D := (dC, dI)) (ci := 10) (v := .ref (aL 1)) (C := RX10) (T := TX10) (N := 20) hx hb hts iwsMX10_findValue_in10 hown hK hP 0 rfl rfl 5 (by decide) (hts _ hm_m_X10_findValue_0) (fun _ h9 => h9) rfl dX10_findValue_22 ?_
        refine lv_iload_n hx hb dX10_findValue_25 rfl (lv_at hl 0 rfl) ?_
        refine va_iald (cA := kL 1) (n := 40) (f := fL_kind) hx hb hK hP 2 1 rfl rfl (vp_in_iff.mpr ⟨b_l3_x2.1, (Int.lt_of_lt_of_le (Int.not_le.mp t_7) (Int.le_trans b_iL_names.2 (by decide)))⟩) dX10_findValue_26 ?_
        refine lv_topi (fun v8 hv8 => ?_)
        have b_v8 : 0 ≤ v8.toInt ∧ v8.toInt ≤ 5 := by rw [hv8]; exact b_fL_kind _
        have b1_v8 : v8.toInt = twL fL_kind l3_x2.toInt := by rw [hv8]; exact tw_r
        clear hv8
        refine lv_iconst (v := 1) hx hb dX10_findValue_27 (by decide) ?_
        refine lv_icmp_eq (tgt := 43) hx hb dX10_findValue_28 (by decide) (fun c_28 => ?_) (fun c_28 => ?_)
        · have t_28 : v8.toInt = 1 := toI_eq c_28 rfl (by decide : (1 : Int32).toInt = 1)
          refine lv_iinc (v := (iI (l3_x2.toInt + 1))) hx hb dX10_findValue_43 hl (k := 0) rfl (iI_add2 (iI_of _) (by decide : (1 : Int32) = iI 1)) (by decide) rfl (fun ls (hl : lv_has ls _ ([(3, .int (iI (l3_x2.toInt + 1))), (0, .ref (hL 0)), (1, .long p1)])) => ?_)
          refine lv_goto (tgt := 2) hx hb dX10_findValue_46 (by decide) ?_
          have hl : lv_has _ _ ([(3, .int (iI (l3_x2.toInt + 1))), (0, .ref (hL 0)), (1, .long p1)]) := lv_sub hl [0, 1, 2] rfl
          exact ihx2 (iI (l3_x2.toInt + 1)) _ _ _ (iI_rng (Int.le_trans (by decide) (Int.add_le_add (b_l3_x2.1) (Int.le_refl _))) (by omega) (by decide) (by decide)) (by have e9 : ((iI (l3_x2.toInt + 1))).toInt = (l3_x2.toInt + 1) := (iI_t (Int.le_trans (by decide) (Int.add_le_add (b_l3_x2.1) (Int.le_refl _))) (Int.le_trans (Int.add_le_add (b_l3_x2.2) (Int.le_refl _)) (by decide))); omega) hP hD hS hl
        · have t_28 : ¬ v8.toInt = 1 := toI_neq c_28 rfl (by decide : (1 : Int32).toInt = 1)
          refine lv_aload_n hx hb dX10_findValue_31 rfl (lv_at hl 1 rfl) ?_
          refine va_get (D := (dC, dI)) (ci := 10) (v := .ref (aL 1)) (C := RX10) (T := TX10) (N := 20) hx hb hts iwsMX10_findValue_in10 hown hK hP 0 rfl rfl 5 (by decide) (hts _ hm_m_X10_findValue_0) (fun _ h9 => h9) rfl dX10_findValue_32 ?_
          refine lv_iload_n hx hb dX10_findValue_35 rfl (lv_at hl 0 rfl) ?_
          refine va_iald (cA := kL 1) (n := 40) (f := fL_kind) hx hb hK hP 2 1 rfl rfl (vp_in_iff.mpr ⟨b_l3_x2.1, (Int.lt_of_lt_of_le (Int.not_le.mp t_7) (Int.le_trans b_iL_names.2 (by decide)))⟩) dX10_findValue_36 ?_
          refine lv_topi (fun v9 hv9 => ?_)
          have b_v9 : 0 ≤ v9.toInt ∧ v9.toInt ≤ 5 := by rw [hv9]; exact b_fL_kind _
          have b1_v9 : v9.toInt = twL fL_kind l3_x2.toInt := by rw [hv9]; exact tw_r
          clear hv9
          refine lv_iconst (v := 5) hx hb dX10_findValue_37 (by decide) ?_
          refine lv_icmp_eq (tgt := 43) hx hb dX10_findValue_38 (by decide) (fun c_38 => ?_) (fun c_38 => ?_)
          · have t_38 : v9.toInt = 5 := toI_eq c_38 rfl (by decide : (5 : Int32).toInt = 5)
            refine lv_iinc (v := (iI (l3_x2.toInt + 1))) hx hb dX10_findValue_43 hl (k := 0) rfl (iI_add2 (iI_of _) (by decide : (1 : Int32) = iI 1)) (by decide) rfl (fun ls (hl : lv_has ls _ ([(3, .int (iI (l3_x2.toInt + 1))), (0, .ref (hL 0)), (1, .long p1)])) => ?_)
            refine lv_goto (tgt := 2) hx hb dX10_findValue_46 (by decide) ?_
            have hl : lv_has _ _ ([(3, .int (iI (l3_x2.toInt + 1))), (0, .ref (hL 0)), (1, .long p1)]) := lv_sub hl [0, 1, 2] rfl
            exact ihx2 (iI (l3_x2.toInt + 1)) _ _ _ (iI_rng (Int.le_trans (by decide) (Int.add_le_add (b_l3_x2.1) (Int.le_refl _))) (by omega) (by decide) (by decide)) (by have e9 : ((iI (l3_x2.toInt + 1))).toInt = (l3_x2.toInt + 1) := (iI_t (Int.le_trans (by decide) (Int.add_le_add (b_l3_x2.1) (Int.le_refl _))) (Int.le_trans (Int.add_le_add (b_l3_x2.2) (Int.le_refl _)) (by decide))); omega) hP hD hS hl
          · have t_38 : ¬ v9.toInt = 5 := toI_neq c_38 rfl (by decide : (5 : Int32).toInt = 5)
            refine lv_iload_n hx hb dX10_findValue_41 rfl (lv_at hl 0 rfl) ?_
            refine W.widen (k := 0) (n := 0) (by decide +kernel) (by decide +kernel) ?_
            exact W.iret (v := l3_x2) hx hb hr (fun t9_ ht hW => ⟨⟨l3_x2, (), rfl, ⟨(by first | exact b_l3_x2 | with_reducible assumption | exact ⟨by omega, by omega⟩ | assumption), (by (try dsimp only); first | decide | assumption | omega | (have h8 : (-1 : Int32).toInt = -1 := (by decide); omega)), (by (try dsimp only); first | (intro h9; exact absurd (by decide) h9) | (intro h9; exact ⟨by omega, by omega⟩))⟩, by rw [ht]; exact hP, hD⟩, hS.F ht⟩) hS.2.2 dX10_findValue_42
theorem dX10_addName_0 : decode cX10_addName 0 = .ok (.aload_n 0, 1) := dk_42 (by decide +kernel)
theorem dX10_addName_1 : decode cX10_addName 1 = .ok (.getfield 58, 3) := dk_180 (by decide +kernel)
theorem dX10_addName_4 : decode cX10_addName 4 = .ok (.bipush 40, 2) := dk_16 (by decide +kernel)
theorem dX10_addName_6 : decode cX10_addName 6 = .ok (.if_icmp .lt 4, 3) := dk_161 (by decide +kernel)
theorem dX10_addName_9 : decode cX10_addName 9 = .ok (.return_, 1) := dk_177 (by decide +kernel)
theorem dX10_addName_10 : decode cX10_addName 10 = .ok (.aload_n 0, 1) := dk_42 (by decide +kernel)
theorem dX10_addName_11 : decode cX10_addName 11 = .ok (.getfield 13, 3) := dk_180 (by decide +kernel)
theorem dX10_addName_14 : decode cX10_addName 14 = .ok (.aload_n 0, 1) := dk_42 (by decide +kernel)
theorem dX10_addName_15 : decode cX10_addName 15 = .ok (.getfield 58, 3) := dk_180 (by decide +kernel)
theorem dX10_addName_18 : decode cX10_addName 18 = .ok (.lload_n 1, 1) := dk_31 (by decide +kernel)
theorem dX10_addName_19 : decode cX10_addName 19 = .ok (.lastore, 1) := dk_80 (by decide +kernel)
theorem dX10_addName_20 : decode cX10_addName 20 = .ok (.aload_n 0, 1) := dk_42 (by decide +kernel)
theorem dX10_addName_21 : decode cX10_addName 21 = .ok (.getfield 17, 3) := dk_180 (by decide +kernel)
theorem dX10_addName_24 : decode cX10_addName 24 = .ok (.aload_n 0, 1) := dk_42 (by decide +kernel)
theorem dX10_addName_25 : decode cX10_addName 25 = .ok (.getfield 58, 3) := dk_180 (by decide +kernel)
theorem dX10_addName_28 : decode cX10_addName 28 = .ok (.iload_n 3, 1) := dk_29 (by decide +kernel)
theorem dX10_addName_29 : decode cX10_addName 29 = .ok (.iastore, 1) := dk_79 (by decide +kernel)
theorem dX10_addName_30 : decode cX10_addName 30 = .ok (.aload_n 0, 1) := dk_42 (by decide +kernel)
theorem dX10_addName_31 : decode cX10_addName 31 = .ok (.getfield 21, 3) := dk_180 (by decide +kernel)
theorem dX10_addName_34 : decode cX10_addName 34 = .ok (.aload_n 0, 1) := dk_42 (by decide +kernel)
theorem dX10_addName_35 : decode cX10_addName 35 = .ok (.getfield 58, 3) := dk_180 (by decide +kernel)
theorem dX10_addName_38 : decode cX10_addName 38 = .ok (.iload 4, 2) := dk_21 (by decide +kernel)
theorem dX10_addName_40 : decode cX10_addName 40 = .ok (.iastore, 1) := dk_79 (by decide +kernel)
theorem dX10_addName_41 : decode cX10_addName 41 = .ok (.aload_n 0, 1) := dk_42 (by decide +kernel)
theorem dX10_addName_42 : decode cX10_addName 42 = .ok (.getfield 24, 3) := dk_180 (by decide +kernel)
theorem dX10_addName_45 : decode cX10_addName 45 = .ok (.aload_n 0, 1) := dk_42 (by decide +kernel)
theorem dX10_addName_46 : decode cX10_addName 46 = .ok (.getfield 58, 3) := dk_180 (by decide +kernel)
theorem dX10_addName_49 : decode cX10_addName 49 = .ok (.iload 5, 2) := dk_21 (by decide +kernel)
theorem dX10_addName_51 : decode cX10_addName 51 = .ok (.iastore, 1) := dk_79 (by decide +kernel)
theorem dX10_addName_52 : decode cX10_addName 52 = .ok (.aload_n 0, 1) := dk_42 (by decide +kernel)
theorem dX10_addName_53 : decode cX10_addName 53 = .ok (.getfield 27, 3) := dk_180 (by decide +kernel)
theorem dX10_addName_56 : decode cX10_addName 56 = .ok (.aload_n 0, 1) := dk_42 (by decide +kernel)
theorem dX10_addName_57 : decode cX10_addName 57 = .ok (.getfield 58, 3) := dk_180 (by decide +kernel)
theorem dX10_addName_60 : decode cX10_addName 60 = .ok (.iload 6, 2) := dk_21 (by decide +kernel)
theorem dX10_addName_62 : decode cX10_addName 62 = .ok (.iastore, 1) := dk_79 (by decide +kernel)
theorem dX10_addName_63 : decode cX10_addName 63 = .ok (.aload_n 0, 1) := dk_42 (by decide +kernel)
theorem dX10_addName_64 : decode cX10_addName 64 = .ok (.dup, 1) := dk_89 (by decide +kernel)
theorem dX10_addName_65 : decode cX10_addName 65 = .ok (.getfield 58, 3) := dk_180 (by decide +kernel)
theorem dX10_addName_68 : decode cX10_addName 68 = .ok (.iconst 1, 1) := dk_4 (by decide +kernel)
theorem dX10_addName_69 : decode cX10_addName 69 = .ok (.iadd, 1) := dk_96 (by decide +kernel)
theorem dX10_addName_70 : decode cX10_addName 70 = .ok (.putfield 58, 3) := dk_181 (by decide +kernel)
theorem dX10_addName_73 : decode cX10_addName 73 = .ok (.return_, 1) := dk_177 (by decide +kernel)
def wsMX10_addName : List Cond := .code yX10_addName cX10_addName 7 none :: ([.fieldLink RX10 58 "OptimaWorks$Worker" "names" "I", .fieldLink RX10 13 "OptimaWorks$Worker" "key" "[J", .fieldLink RX10 17 "OptimaWorks$Worker" "kind" "[I", .fieldLink RX10 21 "OptimaWorks$Worker" "one" "[I", .fieldLink RX10 24 "OptimaWorks$Worker" "two" "[I", .fieldLink RX10 27 "OptimaWorks$Worker" "base" "[I"] ++ wsX100)
theorem iwsMX10_addName_in10 : ∀ w ∈ wsX100, w ∈ wsMX10_addName := fun _ h => List.mem_cons_of_mem _ (List.mem_append_right _ h)
theorem gdwsMX10_addName : wsMX10_addName.all goodWord = true := gdC rfl (gdA (by decide +kernel : ([.fieldLink RX10 58 "OptimaWorks$Worker" "names" "I", .fieldLink RX10 13 "OptimaWorks$Worker" "key" "[J", .fieldLink RX10 17 "OptimaWorks$Worker" "kind" "[I", .fieldLink RX10 21 "OptimaWorks$Worker" "one" "[I", .fieldLink RX10 24 "OptimaWorks$Worker" "two" "[I", .fieldLink RX10 27 "OptimaWorks$Worker" "base" "[I"] : List Cond).all goodWord = true) gdwsX100)
theorem hm_m_X10_addName_0 : (.fieldLink RX10 58 "OptimaWorks$Worker" "names" "I" : Cond) ∈ wsMX10_addName := by decide +kernel
set_option maxHeartbeats 4000000 in
set_option maxRecDepth 100000 in
/-- a name more -/
theorem m_X10_addName (l : Launch) (dC : Nat → ClassId) (dI : Nat → Nat → Nat) (hL : Nat → Nat) (aL : Nat → Nat) (kL : Nat → ClassId) (hT : Nat → Nat) (hM : Nat → Nat) (xL_tree : Value) (iL_names : Int32) (gL_key : Nat → Int64) (fL_kind : Nat → Int32) (fL_one : Nat → Int32) (fL_two : Nat → Int32) (fL_base : Nat → Int32) (iL_params : Int32) (fL_paramOver : Nat → Int32) (dL_paramOver : Nat) (nL_params : Nat) (fL_paramUnder : Nat → Int32) (dL_paramUnder : Nat) (nL_pu : Nat) (gL_over : Nat → Int64) (gL_under : Nat → Int64) (fL_bound : Nat → Int32) (iL_nameAt : Int32) (iL_startAt : Int32) (iL_steps : Int32) (jL_scaleOver : Int64) (jL_scaleUnder : Int64) (p1 : Int64) (p2 : Int32) (p3 : Int32) (p4 : Int32) (p5 : Int32) (b_iL_names : 0 ≤ iL_names.toInt ∧ iL_names.toInt ≤ 40) (b_fL_kind : ∀ q : Nat, 0 ≤ (fL_kind q).toInt ∧ (fL_kind q).toInt ≤ 5) (b_fL_two : ∀ q : Nat, (-1) ≤ (fL_two q).toInt ∧ (fL_two q).toInt ≤ 39) (b_fL_base : ∀ q : Nat, 0 ≤ (fL_base q).toInt ∧ (fL_base q).toInt ≤ 2560) (b_iL_params : 0 ≤ iL_params.toInt ∧ iL_params.toInt ≤ 2560) (b_nL_params : 0 ≤ nL_params ∧ nL_params ≤ 2560) (b_nm : NmL iL_names fL_kind fL_one fL_two fL_base nL_params) (b_pm : iL_params.toInt ≤ ((nL_params : Nat) : Int)) (b_pu : nL_pu = nL_params) (b_p2 : 1 ≤ p2.toInt ∧ p2.toInt ≤ 5) (b_p4 : (-1) ≤ p4.toInt ∧ p4.toInt ≤ 39) (b_p5 : 0 ≤ p5.toInt ∧ p5.toInt ≤ 2560) (hna : NaL fL_kind fL_two iL_names.toInt nL_params p2.toInt p3.toInt p4.toInt p5.toInt) (sz : Nat) : Met l yX10_addName wsMX10_addName ({ frames := 0, cells := 0, slots := 0, locals := 0 }) (va_Pc [.ref (hL 0), .long p1, .int p2, .int p3, .int p4, .int p5] (fun U => U.heap.size = sz ∧ va_P (dC, dI) vwCl (WL hL aL kL hT hM xL_tree iL_names gL_key fL_kind fL_one fL_two fL_base iL_params fL_paramOver dL_paramOver nL_params fL_paramUnder dL_paramUnder nL_pu gL_over gL_under fL_bound iL_nameAt iL_startAt iL_steps jL_scaleOver jL_scaleUnder) U.heap ∧ va_K (dC, dI) vwCl (tL kL) U ∧ va_D (fun _ => True) (WL hL aL kL hT hM xL_tree iL_names gL_key fL_kind fL_one fL_two fL_base iL_params fL_paramOver dL_paramOver nL_params fL_paramUnder dL_paramUnder nL_pu gL_over gL_under fL_bound iL_nameAt iL_startAt iL_steps jL_scaleOver jL_scaleUnder))) (va_Qv (fun (u : (Int32) × (Nat → Int64) × (Nat → Int32) × (Nat → Int32) × (Nat → Int32) × (Nat → Int32)) => (0 ≤ (u.1).toInt ∧ (u.1).toInt ≤ 40) ∧ (∀ q : Nat, 0 ≤ ((u.2.2.1) q).toInt ∧ ((u.2.2.1) q).toInt ≤ 5) ∧ (∀ q : Nat, (-1) ≤ ((u.2.2.2.2.1) q).toInt ∧ ((u.2.2.2.2.1) q).toInt ≤ 39) ∧ (∀ q : Nat, 0 ≤ ((u.2.2.2.2.2) q).toInt ∧ ((u.2.2.2.2.2) q).toInt ≤ 2560) ∧ (NmL (u.1) (u.2.2.1) (u.2.2.2.1) (u.2.2.2.2.1) (u.2.2.2.2.2) nL_params)) (fun (u : (Int32) × (Nat → Int64) × (Nat → Int32) × (Nat → Int32) × (Nat → Int32) × (Nat → Int32)) t => va_P (dC, dI) vwCl (WL hL aL kL hT hM xL_tree (u.1) (u.2.1) (u.2.2.1) (u.2.2.2.1) (u.2.2.2.2.1) (u.2.2.2.2.2) iL_params fL_paramOver dL_paramOver nL_params fL_paramUnder dL_paramUnder nL_pu gL_over gL_under fL_bound iL_nameAt iL_startAt iL_steps jL_scaleOver jL_scaleUnder) t.heap ∧ va_D (va_A (WL hL aL kL hT hM xL_tree iL_names gL_key fL_kind fL_one fL_two fL_base iL_params fL_paramOver dL_paramOver nL_params fL_paramUnder dL_paramUnder nL_pu gL_over gL_under fL_bound iL_nameAt iL_startAt iL_steps jL_scaleOver jL_scaleUnder) sz) (WL hL aL kL hT hM xL_tree (u.1) (u.2.1) (u.2.2.1) (u.2.2.2.1) (u.2.2.2.2.1) (u.2.2.2.2.2) iL_params fL_paramOver dL_paramOver nL_params fL_paramUnder dL_paramUnder nL_pu gL_over gL_under fL_bound iL_nameAt iL_startAt iL_steps jL_scaleOver jL_scaleUnder)) (va_A (WL hL aL kL hT hM xL_tree iL_names gL_key fL_kind fL_one fL_two fL_base iL_params fL_paramOver dL_paramOver nL_params fL_paramUnder dL_paramUnder nL_pu gL_over gL_under fL_bound iL_nameAt iL_startAt iL_steps jL_scaleOver jL_scaleUnder) sz)) 0 0 (va_A (WL hL aL kL hT hM xL_tree iL_names gL_key fL_kind fL_one fL_two fL_base iL_params fL_paramOver dL_paramOver nL_params fL_paramUnder dL_paramUnder nL_pu gL_over gL_under fL_bound iL_nameAt iL_startAt iL_steps jL_scaleOver jL_scaleUnder) sz) := by
  refine Met.ofW (cc := cX10_addName) (maxL := 7) (ret := none) (by decide) rfl ?_
  intro p e s m args below meth c s₁ B hml hv
  obtain ⟨rfl, hsz, hP, hK, hD0⟩ := hv
  have hx := B.exec
  have hb := B.bytes
  have hr := B.returns
  have hts := atoms_spec (ws := wsMX10_addName) B.pre
  have hown : s.vm.findClass RX10 = some m.cls := findClass_of_methodNamed B.named
  have hlocks := B.notSynchronized
  subst hsz
  have hD := hD0.self (sz := s.heap.size)
  generalize hAe : va_A (WL hL aL kL hT hM xL_tree iL_names gL_key fL_kind fL_one fL_two fL_base iL_params fL_paramOver dL_paramOver nL_params fL_paramUnder dL_paramUnder nL_pu gL_over gL_under fL_bound iL_nameAt iL_startAt iL_steps jL_scaleOver jL_scaleUnder) s.heap.size = A at hD ⊢
  have hA : ∀ q : Nat, s.heap.size ≤ q → A q := fun q h => by rw [← hAe]; exact Or.inr h
  have hS : va_S A s.heap s.heap [] := va_S.rf
  have hl := lv_entry ([.ref (hL 0), .long p1, .int p2, .int p3, .int p4, .int p5]) (n := 7) (Nat.le_of_ble_eq_true rfl)
  rw [lg_entry_eq]
  generalize (lg_sl ([.ref (hL 0), .long p1, .int p2, .int p3, .int p4, .int p5]) ++ List.replicate (7 - (lg_sl ([.ref (hL 0), .long p1, .int p2, .int p3, .int p4, .int p5])).length) Slot.unset).toArray = ls at hl ⊢
  have hl : lv_has ls 7 [(0, .ref (hL 0)), (1, .long p1), (3, .int p2), (4, .int p3), (5, .int p4), (6, .int p5)] := hl
  refine lv_aload_n hx hb dX10_addName_0 rfl (lv_at hl 0 rfl) ?_
  refine va_get (D := (dC, dI)) (ci := 10) (v := .int iL_names) (C := RX10) (T := TX10) (N := 20) hx hb hts iwsMX10_addName_in10 hown hK hP 0 rfl rfl 3 (by decide) (hts _ hm_m_X10_addName_0) (fun _ h9 => h9) rfl dX10_addName_1 ?_
  refine lv_bipush (v := 40) hx hb dX10_addName_4 (by decide) ?_
  refine lv_icmp_lt (tgt := 10) hx hb dX10_addName_6 (by decide) (fun c_6 => ?_) (fun c_6 => ?_)
  · have t_6 : iL_names.toInt < 40 := toI_lt c_6 rfl (by decide : (40 : Int32).toInt = 40)
    refine lv_aload_n hx hb dX10_addName_10 rfl (lv_at hl 0 rfl) ?_
    refine va_get (D := (dC, dI)) (ci := 10) (v := .ref (aL 0)) (C := RX10) (T := TX10) (N := 20) hx hb hts iwsMX10_addName_in10 hown hK hP 0 rfl rfl 4 (by decide) (hts (.fieldLink RX10 13 "OptimaWorks$Worker" "key" "[J") (by decide +kernel)) (fun _ h9 => h9) rfl dX10_addName_11 ?_
    refine lv_aload_n hx hb dX10_addName_14 rfl (lv_at hl 0 rfl) ?_
    refine va_get (D := (dC, dI)) (ci := 10) (v := .int iL_names) (C := RX10) (T := TX10) (N := 20) hx hb hts iwsMX10_addName_in10 hown hK hP 0 rfl rfl 3 (by decide) (hts _ hm_m_X10_addName_0) (fun _ h9 => h9) rfl dX10_addName_15 ?_
    refine lv_lload_n hx hb dX10_addName_18 rfl (lv_at hl 1 rfl) ?_
    refine va_last (cA := kL 0) (n := 40) (f := gL_key) hx hb hK hP hD hS 1 0 rfl rfl (vp_in_iff.mpr ⟨b_iL_names.1, (by omega)⟩) dX10_addName_19 (fun H locs hP hD hS => ?_)
    obtain ⟨u1, hu1⟩ : ∃ f9, f9 = vp_updL gL_key (iL_names).toNatClampNeg p1 := ⟨_, rfl⟩
    have hP : va_P (dC, dI) vwCl (WL hL aL kL hT hM xL_tree iL_names u1 fL_kind fL_one fL_two fL_base iL_params fL_paramOver dL_paramOver nL_params fL_paramUnder dL_paramUnder nL_pu gL_over gL_under fL_bound iL_nameAt iL_startAt iL_steps jL_scaleOver jL_scaleUnder) H := by rw [hu1]; exact hP
    have hD : va_D A (WL hL aL kL hT hM xL_tree iL_names u1 fL_kind fL_one fL_two fL_base iL_params fL_paramOver dL_paramOver nL_params fL_paramUnder dL_paramUnder nL_pu gL_over gL_under fL_bound iL_nameAt iL_startAt iL_steps jL_scaleOver jL_scaleUnder) := by rw [hu1]; exact hD
    clear hu1
    refine lv_aload_n hx hb dX10_addName_20 rfl (lv_at hl 0 rfl) ?_
    refine va_get (D := (dC, dI)) (ci := 10) (v := .ref (aL 1)) (C := RX10) (T := TX10) (N := 20) hx hb hts iwsMX10_addName_in10 hown hK hP 0 rfl rfl 5 (by decide) (hts (.fieldLink RX10 17 "OptimaWorks$Worker" "kind" "[I") (by decide +kernel)) (fun _ h9 => h9) rfl dX10_addName_21 ?_
    refine lv_aload_n hx hb dX10_addName_24 rfl (lv_at hl 0 rfl) ?_
    refine va_get (D := (dC, dI)) (ci := 10) (v := .int iL_names) (C := RX10) (T := TX10) (N := 20) hx hb hts iwsMX10_addName_in10 hown hK hP 0 rfl rfl 3 (by decide) (hts _ hm_m_X10_addName_0) (fun _ h9 => h9) rfl dX10_addName_25 ?_
    refine lv_iload_n hx hb dX10_addName_28 rfl (lv_at hl 2 rfl) ?_
    refine va_iast (cA := kL 1) (n := 40) (f := fL_kind) hx hb hK hP hD hS 2 1 rfl rfl (vp_in_iff.mpr ⟨b_iL_names.1, (by omega)⟩) dX10_addName_29 (fun H locs hP hD hS => ?_)
    obtain ⟨u2, hu2⟩ : ∃ f9, f9 = upd fL_kind (iL_names).toNatClampNeg p2 := ⟨_, rfl⟩
    have hP : va_P (dC, dI) vwCl (WL hL aL kL hT hM xL_tree iL_names u1 u2 fL_one fL_two fL_base iL_params fL_paramOver dL_paramOver nL_params fL_paramUnder dL_paramUnder nL_pu gL_over gL_under fL_bound iL_nameAt iL_startAt iL_steps jL_scaleOver jL_scaleUnder) H := by rw [hu2]; exact hP
    have hD : va_D A (WL hL aL kL hT hM xL_tree iL_names u1 u2 fL_one fL_two fL_base iL_params fL_paramOver dL_paramOver nL_params fL_paramUnder dL_paramUnder nL_pu gL_over gL_under fL_bound iL_nameAt iL_startAt iL_steps jL_scaleOver jL_scaleUnder) := by rw [hu2]; exact hD
    have b_u2 : ∀ q : Nat, 0 ≤ (u2 q).toInt ∧ (u2 q).toInt ≤ 5 := by rw [hu2]; exact upd_r b_fL_kind (⟨Int.le_trans (by decide) b_p2.1, b_p2.2⟩)
    have b1_u2 : u2 = upd fL_kind (iL_names).toNatClampNeg p2 := hu2
    clear hu2
    refine lv_aload_n hx hb dX10_addName_30 rfl (lv_at hl 0 rfl) ?_
    refine va_get (D := (dC, dI)) (ci := 10) (v := .ref (aL 2)) (C := RX10) (T := TX10) (N := 20) hx hb hts iwsMX10_addName_in10 hown hK hP 0 rfl rfl 6 (by decide) (hts (.fieldLink RX10 21 "OptimaWorks$Worker" "one" "[I") (by decide +kernel)) (fun _ h9 => h9) rfl dX10_addName_31 ?_
    refine lv_aload_n hx hb dX10_addName_34 rfl (lv_at hl 0 rfl) ?_
    refine va_get (D := (dC, dI)) (ci := 10) (v := .int iL_names) (C := RX10) (T := TX10) (N := 20) hx hb hts iwsMX10_addName_in10 hown hK hP 0 rfl rfl 3 (by decide) (hts _ hm_m_X10_addName_0) (fun _ h9 => h9) rfl dX10_addName_35 ?_
    refine lv_iload hx hb dX10_addName_38 (lv_at hl 3 rfl) ?_
    refine va_iast (cA := kL 2) (n := 40) (f := fL_one) hx hb hK hP hD hS 3 2 rfl rfl (vp_in_iff.mpr ⟨b_iL_names.1, (by omega)⟩) dX10_addName_40 (fun H locs hP hD hS => ?_)
    obtain ⟨u3, hu3⟩ : ∃ f9, f9 = upd fL_one (iL_names).toNatClampNeg p3 := ⟨_, rfl⟩
    have hP : va_P (dC, dI) vwCl (WL hL aL kL hT hM xL_tree iL_names u1 u2 u3 fL_two fL_base iL_params fL_paramOver dL_paramOver nL_params fL_paramUnder dL_paramUnder nL_pu gL_over gL_under fL_bound iL_nameAt iL_startAt iL_steps jL_scaleOver jL_scaleUnder) H := by rw [hu3]; exact hP
    have hD : va_D A (WL hL aL kL hT hM xL_tree iL_names u1 u2 u3 fL_two fL_base iL_params fL_paramOver dL_paramOver nL_params fL_paramUnder dL_paramUnder nL_pu gL_over gL_under fL_bound iL_nameAt iL_startAt iL_steps jL_scaleOver jL_scaleUnder) := by rw [hu3]; exact hD
    have b_u3 : u3 = upd fL_one (iL_names).toNatClampNeg p3 := hu3
    clear hu3
    refine lv_aload_n hx hb dX10_addName_41 rfl (lv_at hl 0 rfl) ?_
    refine va_get (D := (dC, dI)) (ci := 10) (v := .ref (aL 3)) (C := RX10) (T := TX10) (N := 20) hx hb hts iwsMX10_addName_in10 hown hK hP 0 rfl rfl 7 (by decide) (hts (.fieldLink RX10 24 "OptimaWorks$Worker" "two" "[I") (by decide +kernel)) (fun _ h9 => h9) rfl dX10_addName_42 ?_
    refine lv_aload_n hx hb dX10_addName_45 rfl (lv_at hl 0 rfl) ?_
    refine va_get (D := (dC, dI)) (ci := 10) (v := .int iL_names) (C := RX10) (T := TX10) (N := 20) hx hb hts iwsMX10_addName_in10 hown hK hP 0 rfl rfl 3 (by decide) (hts _ hm_m_X10_addName_0) (fun _ h9 => h9) rfl dX10_addName_46 ?_
    refine lv_iload hx hb dX10_addName_49 (lv_at hl 4 rfl) ?_
    refine va_iast (cA := kL 3) (n := 40) (f := fL_two) hx hb hK hP hD hS 4 3 rfl rfl (vp_in_iff.mpr ⟨b_iL_names.1, (by omega)⟩) dX10_addName_51 (fun H locs hP hD hS => ?_)
    obtain ⟨u4, hu4⟩ : ∃ f9, f9 = upd fL_two (iL_names).toNatClampNeg p4 := ⟨_, rfl⟩
    have hP : va_P (dC, dI) vwCl (WL hL aL kL hT hM xL_tree iL_names u1 u2 u3 u4 fL_base iL_params fL_paramOver dL_paramOver nL_params fL_paramUnder dL_paramUnder nL_pu gL_over gL_under fL_bound iL_nameAt iL_startAt iL_steps jL_scaleOver jL_scaleUnder) H := by rw [hu4]; exact hP
    have hD : va_D A (WL hL aL kL hT hM xL_tree iL_names u1 u2 u3 u4 fL_base iL_params fL_paramOver dL_paramOver nL_params fL_paramUnder dL_paramUnder nL_pu gL_over gL_under fL_bound iL_nameAt iL_startAt iL_steps jL_scaleOver jL_scaleUnder) := by rw [hu4]; exact hD
    have b_u4 : ∀ q : Nat, -1 ≤ (u4 q).toInt ∧ (u4 q).toInt ≤ 39 := by rw [hu4]; exact upd_r b_fL_two (b_p4)
    have b1_u4 : u4 = upd fL_two (iL_names).toNatClampNeg p4 := hu4
    clear hu4
    refine lv_aload_n hx hb dX10_addName_52 rfl (lv_at hl 0 rfl) ?_
    refine va_get (D := (dC, dI)) (ci := 10) (v := .ref (aL 4)) (C := RX10) (T := TX10) (N := 20) hx hb hts iwsMX10_addName_in10 hown hK hP 0 rfl rfl 8 (by decide) (hts (.fieldLink RX10 27 "OptimaWorks$Worker" "base" "[I") (by decide +kernel)) (fun _ h9 => h9) rfl dX10_addName_53 ?_
    refine lv_aload_n hx hb dX10_addName_56 rfl (lv_at hl 0 rfl) ?_
    refine va_get (D := (dC, dI)) (ci := 10) (v := .int iL_names) (C := RX10) (T := TX10) (N := 20) hx hb hts iwsMX10_addName_in10 hown hK hP 0 rfl rfl 3 (by decide) (hts _ hm_m_X10_addName_0) (fun _ h9 => h9) rfl dX10_addName_57 ?_
    refine lv_iload hx hb dX10_addName_60 (lv_at hl 5 rfl) ?_
    refine va_iast (cA := kL 4) (n := 40) (f := fL_base) hx hb hK hP hD hS 5 4 rfl rfl (vp_in_iff.mpr ⟨b_iL_names.1, (by omega)⟩) dX10_addName_62 (fun H locs hP hD hS => ?_)
    obtain ⟨u5, hu5⟩ : ∃ f9, f9 = upd fL_base (iL_names).toNatClampNeg p5 := ⟨_, rfl⟩
    have hP : va_P (dC, dI) vwCl (WL hL aL kL hT hM xL_tree iL_names u1 u2 u3 u4 u5 iL_params fL_paramOver dL_paramOver nL_params fL_paramUnder dL_paramUnder nL_pu gL_over gL_under fL_bound iL_nameAt iL_startAt iL_steps jL_scaleOver jL_scaleUnder) H := by rw [hu5]; exact hP
    have hD : va_D A (WL hL aL kL hT hM xL_tree iL_names u1 u2 u3 u4 u5 iL_params fL_paramOver dL_paramOver nL_params fL_paramUnder dL_paramUnder nL_pu gL_over gL_under fL_bound iL_nameAt iL_startAt iL_steps jL_scaleOver jL_scaleUnder) := by rw [hu5]; exact hD
    have b_u5 : ∀ q : Nat, 0 ≤ (u5 q).toInt ∧ (u5 q).toInt ≤ 2560 := by rw [hu5]; exact upd_r b_fL_base (b_p5)
    have b1_u5 : u5 = upd fL_base (iL_names).toNatClampNeg p5 := hu5
    clear hu5
    refine lv_aload_n hx hb dX10_addName_63 rfl (lv_at hl 0 rfl) ?_
    refine lv_dup hx hb dX10_addName_64 rfl ?_
    refine va_get (D := (dC, dI)) (ci := 10) (v := .int iL_names) (C := RX10) (T := TX10) (N := 20) hx hb hts iwsMX10_addName_in10 hown hK hP 0 rfl rfl 3 (by decide) (hts _ hm_m_X10_addName_0) (fun _ h9 => h9) rfl dX10_addName_65 ?_
    refine lv_iconst (v := 1) hx hb dX10_addName_68 (by decide) ?_
    refine lv_iadd hx hb dX10_addName_69 ?_
    refine lv_topi (fun y6 hy6 => ?_)
    obtain rfl : (iI (iL_names.toInt + 1)) = y6 := (hy6.trans (iI_add2 (iI_of _) (by decide : (1 : Int32) = iI 1))).symm
    refine va_put (D := (dC, dI)) (ci := 10) (v := .int (iI (iL_names.toInt + 1))) (ty := .int) (C := RX10) (T := TX10) (N := 20) hx hb hts iwsMX10_addName_in10 tyX10 tyX10_ok nmX10 hown hK hP hD hS 0 rfl rfl 3 (by decide) (hts _ hm_m_X10_addName_0) (fun _ h9 => h9) rfl (by decide +kernel) rfl rfl (Nat.le_of_ble_eq_true rfl) dX10_addName_70 (fun H locs hP hD hS => ?_)
    have hP : va_P (dC, dI) vwCl (WL hL aL kL hT hM xL_tree (iI (iL_names.toInt + 1)) u1 u2 u3 u4 u5 iL_params fL_paramOver dL_paramOver nL_params fL_paramUnder dL_paramUnder nL_pu gL_over gL_under fL_bound iL_nameAt iL_startAt iL_steps jL_scaleOver jL_scaleUnder) H := hP
    have hD := fz_sd hP (hD) rfl
    refine W.widen (k := 0) (n := 0) (by decide +kernel) (by decide +kernel) ?_
    exact W.vret hx hb hr (fun t9_ ht hW => ⟨⟨((iI (iL_names.toInt + 1)), u1, u2, u3, u4, u5), rfl, ⟨(by (try dsimp only); exact (iI_rng (Int.le_trans (by decide) (Int.add_le_add (b_iL_names.1) (Int.le_refl _))) (by omega) (by decide) (by decide))), b_u2, b_u4, b_u5, (by (try dsimp only); exact (by first | assumption | exact NmL.add b_nm (by omega) (iI_t (by omega) (by omega)) b1_u2 b_u3 b1_u4 b1_u5 hna))⟩, by rw [ht]; exact hP, hD⟩, hS.F ht⟩) hS.2.2 dX10_addName_73
  · have t_6 : ¬ iL_names.toInt < 40 := toI_nlt c_6 rfl (by decide : (40 : Int32).toInt = 40)
    refine W.widen (k := 0) (n := 0) (by decide +kernel) (by decide +kernel) ?_
    exact W.vret hx hb hr (fun t9_ ht hW => ⟨⟨(iL_names, gL_key, fL_kind, fL_one, fL_two, fL_base), rfl, ⟨b_iL_names, b_fL_kind, b_fL_two, b_fL_base, (by (try dsimp only); exact (by first | assumption | exact NmL.add b_nm (by omega) (iI_t (by omega) (by omega)) b1_fL_kind b_fL_one b1_fL_two b1_fL_base hna))⟩, by rw [ht]; exact hP, hD⟩, hS.F ht⟩) hS.2.2 dX10_addName_9
theorem dX10_members_0 : decode cX10_members 0 = .ok (.iload_n 1, 1) := dk_27 (by decide +kernel)
theorem dX10_members_1 : decode cX10_members 1 = .ok (.iconst (-1), 1) := dk_2 (by decide +kernel)
theorem dX10_members_2 : decode cX10_members 2 = .ok (.if_icmp .ne 7, 3) := dk_160 (by decide +kernel)
theorem dX10_members_5 : decode cX10_members 5 = .ok (.iconst 1, 1) := dk_4 (by decide +kernel)
theorem dX10_members_6 : decode cX10_members 6 = .ok (.goto 9, 3) := dk_167 (by decide +kernel)
theorem dX10_members_9 : decode cX10_members 9 = .ok (.aload_n 0, 1) := dk_42 (by decide +kernel)
theorem dX10_members_10 : decode cX10_members 10 = .ok (.getfield 24, 3) := dk_180 (by decide +kernel)
theorem dX10_members_13 : decode cX10_members 13 = .ok (.iload_n 1, 1) := dk_27 (by decide +kernel)
theorem dX10_members_14 : decode cX10_members 14 = .ok (.iaload, 1) := dk_46 (by decide +kernel)
theorem dX10_members_15 : decode cX10_members 15 = .ok (.istore_n 3, 1) := dk_62 (by decide +kernel)
theorem dX10_members_16 : decode cX10_members 16 = .ok (.iload_n 2, 1) := dk_28 (by decide +kernel)
theorem dX10_members_17 : decode cX10_members 17 = .ok (.iconst (-1), 1) := dk_2 (by decide +kernel)
theorem dX10_members_18 : decode cX10_members 18 = .ok (.if_icmp .ne 7, 3) := dk_160 (by decide +kernel)
theorem dX10_members_21 : decode cX10_members 21 = .ok (.iload_n 3, 1) := dk_29 (by decide +kernel)
theorem dX10_members_22 : decode cX10_members 22 = .ok (.goto 11, 3) := dk_167 (by decide +kernel)
theorem dX10_members_25 : decode cX10_members 25 = .ok (.iload_n 3, 1) := dk_29 (by decide +kernel)
theorem dX10_members_26 : decode cX10_members 26 = .ok (.aload_n 0, 1) := dk_42 (by decide +kernel)
theorem dX10_members_27 : decode cX10_members 27 = .ok (.getfield 24, 3) := dk_180 (by decide +kernel)
theorem dX10_members_30 : decode cX10_members 30 = .ok (.iload_n 2, 1) := dk_28 (by decide +kernel)
theorem dX10_members_31 : decode cX10_members 31 = .ok (.iaload, 1) := dk_46 (by decide +kernel)
theorem dX10_members_32 : decode cX10_members 32 = .ok (.imul, 1) := dk_104 (by decide +kernel)
theorem dX10_members_33 : decode cX10_members 33 = .ok (.ireturn, 1) := dk_172 (by decide +kernel)
def wsMX10_members : List Cond := .code yX10_members cX10_members 4 (some .int) :: ([.fieldLink RX10 24 "OptimaWorks$Worker" "two" "[I"] ++ wsX100)
theorem iwsMX10_members_in10 : ∀ w ∈ wsX100, w ∈ wsMX10_members := fun _ h => List.mem_cons_of_mem _ (List.mem_append_right _ h)
theorem gdwsMX10_members : wsMX10_members.all goodWord = true := gdC rfl (gdA (by decide +kernel : ([.fieldLink RX10 24 "OptimaWorks$Worker" "two" "[I"] : List Cond).all goodWord = true) gdwsX100)
theorem hm_m_X10_members_0 : (.fieldLink RX10 24 "OptimaWorks$Worker" "two" "[I" : Cond) ∈ wsMX10_members := by decide +kernel
set_option maxHeartbeats 4000000 in
set_option maxRecDepth 100000 in
/-- how many members -/
theorem m_X10_members (l : Launch) (dC : Nat → ClassId) (dI : Nat → Nat → Nat) (hL : Nat → Nat) (aL : Nat → Nat) (kL : Nat → ClassId) (hT : Nat → Nat) (hM : Nat → Nat) (xL_tree : Value) (iL_names : Int32) (gL_key : Nat → Int64) (fL_kind : Nat → Int32) (fL_one : Nat → Int32) (fL_two : Nat → Int32) (fL_base : Nat → Int32) (iL_params : Int32) (fL_paramOver : Nat → Int32) (dL_paramOver : Nat) (nL_params : Nat) (fL_paramUnder : Nat → Int32) (dL_paramUnder : Nat) (nL_pu : Nat) (gL_over : Nat → Int64) (gL_under : Nat → Int64) (fL_bound : Nat → Int32) (iL_nameAt : Int32) (iL_startAt : Int32) (iL_steps : Int32) (jL_scaleOver : Int64) (jL_scaleUnder : Int64) (p1 : Int32) (p2 : Int32) (b_iL_names : 0 ≤ iL_names.toInt ∧ iL_names.toInt ≤ 40) (b_fL_kind : ∀ q : Nat, 0 ≤ (fL_kind q).toInt ∧ (fL_kind q).toInt ≤ 5) (b_fL_two : ∀ q : Nat, (-1) ≤ (fL_two q).toInt ∧ (fL_two q).toInt ≤ 39) (b_fL_base : ∀ q : Nat, 0 ≤ (fL_base q).toInt ∧ (fL_base q).toInt ≤ 2560) (b_iL_params : 0 ≤ iL_params.toInt ∧ iL_params.toInt ≤ 2560) (b_nL_params : 0 ≤ nL_params ∧ nL_params ≤ 2560) (b_nm : NmL iL_names fL_kind fL_one fL_two fL_base nL_params) (b_pm : iL_params.toInt ≤ ((nL_params : Nat) : Int)) (b_pu : nL_pu = nL_params) (ho1 : p1.toInt = -1 ∨ StL fL_kind fL_two iL_names.toInt p1.toInt) (ho2 : p2.toInt = -1 ∨ StL fL_kind fL_two iL_names.toInt p2.toInt) (sz : Nat) : Met l yX10_members wsMX10_members ({ frames := 0, cells := 0, slots := 0, locals := 0 }) (va_Pc [.ref (hL 0), .int p1, .int p2] (fun U => U.heap.size = sz ∧ va_P (dC, dI) vwCl (WL hL aL kL hT hM xL_tree iL_names gL_key fL_kind fL_one fL_two fL_base iL_params fL_paramOver dL_paramOver nL_params fL_paramUnder dL_paramUnder nL_pu gL_over gL_under fL_bound iL_nameAt iL_startAt iL_steps jL_scaleOver jL_scaleUnder) U.heap ∧ va_K (dC, dI) vwCl (tL kL) U ∧ va_D (fun _ => True) (WL hL aL kL hT hM xL_tree iL_names gL_key fL_kind fL_one fL_two fL_base iL_params fL_paramOver dL_paramOver nL_params fL_paramUnder dL_paramUnder nL_pu gL_over gL_under fL_bound iL_nameAt iL_startAt iL_steps jL_scaleOver jL_scaleUnder))) (va_Qi (fun (r : Int32) (u : Unit) => (1 ≤ r.toInt ∧ r.toInt ≤ 144) ∧ (r.toInt = MeV fL_two p1.toInt p2.toInt)) (fun (u : Unit) t => va_P (dC, dI) vwCl (WL hL aL kL hT hM xL_tree iL_names gL_key fL_kind fL_one fL_two fL_base iL_params fL_paramOver dL_paramOver nL_params fL_paramUnder dL_paramUnder nL_pu gL_over gL_under fL_bound iL_nameAt iL_startAt iL_steps jL_scaleOver jL_scaleUnder) t.heap ∧ va_D (va_A (WL hL aL kL hT hM xL_tree iL_names gL_key fL_kind fL_one fL_two fL_base iL_params fL_paramOver dL_paramOver nL_params fL_paramUnder dL_paramUnder nL_pu gL_over gL_under fL_bound iL_nameAt iL_startAt iL_steps jL_scaleOver jL_scaleUnder) sz) (WL hL aL kL hT hM xL_tree iL_names gL_key fL_kind fL_one fL_two fL_base iL_params fL_paramOver dL_paramOver nL_params fL_paramUnder dL_paramUnder nL_pu gL_over gL_under fL_bound iL_nameAt iL_startAt iL_steps jL_scaleOver jL_scaleUnder)) (va_A (WL hL aL kL hT hM xL_tree iL_names gL_key fL_kind fL_one fL_two fL_base iL_params fL_paramOver dL_paramOver nL_params fL_paramUnder dL_paramUnder nL_pu gL_over gL_under fL_bound iL_nameAt iL_startAt iL_steps jL_scaleOver jL_scaleUnder) sz)) 0 0 (va_A (WL hL aL kL hT hM xL_tree iL_names gL_key fL_kind fL_one fL_two fL_base iL_params fL_paramOver dL_paramOver nL_params fL_paramUnder dL_paramUnder nL_pu gL_over gL_under fL_bound iL_nameAt iL_startAt iL_steps jL_scaleOver jL_scaleUnder) sz) := by
  refine Met.ofW (cc := cX10_members) (maxL := 4) (ret := (some .int)) (by decide) rfl ?_
  intro p e s m args below meth c s₁ B hml hv
  obtain ⟨rfl, hsz, hP, hK, hD0⟩ := hv
  have hx := B.exec
  have hb := B.bytes
  have hr := B.returns
  have hts := atoms_spec (ws := wsMX10_members) B.pre
  have hown : s.vm.findClass RX10 = some m.cls := findClass_of_methodNamed B.named
  have hlocks := B.notSynchronized
  subst hsz
  have hD := hD0.self (sz := s.heap.size)
  generalize hAe : va_A (WL hL aL kL hT hM xL_tree iL_names gL_key fL_kind fL_one fL_two fL_base iL_params fL_paramOver dL_paramOver nL_params fL_paramUnder dL_paramUnder nL_pu gL_over gL_under fL_bound iL_nameAt iL_startAt iL_steps jL_scaleOver jL_scaleUnder) s.heap.size = A at hD ⊢
  have hA : ∀ q : Nat, s.heap.size ≤ q → A q := fun q h => by rw [← hAe]; exact Or.inr h
  have hS : va_S A s.heap s.heap [] := va_S.rf
  have hl := lv_entry ([.ref (hL 0), .int p1, .int p2]) (n := 4) (Nat.le_of_ble_eq_true rfl)
  rw [lg_entry_eq]
  generalize (lg_sl ([.ref (hL 0), .int p1, .int p2]) ++ List.replicate (4 - (lg_sl ([.ref (hL 0), .int p1, .int p2])).length) Slot.unset).toArray = ls at hl ⊢
  have hl : lv_has ls 4 [(0, .ref (hL 0)), (1, .int p1), (2, .int p2)] := hl
  have h1m := MeV_12 (or_StL ho1)
  have h2m := MeV_12 (or_StL ho2)
  have hmm := MeV_r ho1 ho2
  have hs1 : ¬ p1.toInt = -1 → 0 ≤ p1.toInt ∧ p1.toInt < iL_names.toInt := fun h9 => (ho1.resolve_left h9).r
  have hs2 : ¬ p2.toInt = -1 → 0 ≤ p2.toInt ∧ p2.toInt < iL_names.toInt := fun h9 => (ho2.resolve_left h9).r
  refine lv_iload_n hx hb dX10_members_0 rfl (lv_at hl 1 rfl) ?_
  refine lv_iconst (v := (-1)) hx hb dX10_members_1 (by decide) ?_
  refine W.cut (pc := 15) (fun H locs ls stk => ∃ (k0_j3 : Int32), (k0_j3.toInt = (if p1.toInt = -1 then 1 else twL fL_two p1.toInt)) ∧  stk = [.int k0_j3] ∧ va_P (dC, dI) vwCl (WL hL aL kL hT hM xL_tree iL_names gL_key fL_kind fL_one fL_two fL_base iL_params fL_paramOver dL_paramOver nL_params fL_paramUnder dL_paramUnder nL_pu gL_over gL_under fL_bound iL_nameAt iL_startAt iL_steps jL_scaleOver jL_scaleUnder) H ∧ va_D A (WL hL aL kL hT hM xL_tree iL_names gL_key fL_kind fL_one fL_two fL_base iL_params fL_paramOver dL_paramOver nL_params fL_paramUnder dL_paramUnder nL_pu gL_over gL_under fL_bound iL_nameAt iL_startAt iL_steps jL_scaleOver jL_scaleUnder) ∧ va_S A s.heap H locs ∧ lv_has ls 4 [(0, .ref (hL 0)), (1, .int p1), (2, .int p2)]) (fun join3 => ?_) ?_
  · refine lv_icmp_ne (tgt := 9) hx hb dX10_members_2 (by decide) (fun c_2 => ?_) (fun c_2 => ?_)
    · have t_2 : p1.toInt ≠ (-1) := toI_ne c_2 rfl (by decide : ((-1) : Int32).toInt = (-1))
      refine lv_aload_n hx hb dX10_members_9 rfl (lv_at hl 0 rfl) ?_
      refine va_get (D := (dC, dI)) (ci := 10) (v := .ref (aL 3)) (C := RX10) (T := TX10) (N := 20) hx hb hts iwsMX10_members_in10 hown hK hP 0 rfl rfl 7 (by decide) (hts _ hm_m_X10_members_0) (fun _ h9 => h9) rfl dX10_members_10 ?_
      refine lv_iload_n hx hb dX10_members_13 rfl (lv_at hl 1 rfl) ?_
      refine va_iald (cA := kL 3) (n := 40) (f := fL_two) hx hb hK hP 4 3 rfl rfl (vp_in_iff.mpr ⟨(by omega), (by omega)⟩) dX10_members_14 ?_
      refine lv_topi (fun v2 hv2 => ?_)
      have b_v2 : (-1) ≤ v2.toInt ∧ v2.toInt ≤ 39 := by rw [hv2]; exact b_fL_two _
      have b1_v2 : v2.toInt = twL fL_two p1.toInt := by rw [hv2]; exact tw_r
      clear hv2
      have hl : lv_has _ _ ([(0, .ref (hL 0)), (1, .int p1), (2, .int p2)]) := lv_sub hl [0, 1, 2] rfl
      exact join3 _ _ _ _ ⟨v2, (show v2.toInt = (if p1.toInt = -1 then 1 else twL fL_two p1.toInt) from by first | (rw [if_pos (by assumption)]; first | decide | omega) | (rw [if_neg (by assumption)]; first | decide | omega)), rfl, hP, hD, hS, hl⟩
    · have t_2 : p1.toInt = (-1) := toI_nne c_2 rfl (by decide : ((-1) : Int32).toInt = (-1))
      refine lv_iconst (v := 1) hx hb dX10_members_5 (by decide) ?_
      refine lv_goto (tgt := 15) hx hb dX10_members_6 (by decide) ?_
      have hl : lv_has _ _ ([(0, .ref (hL 0)), (1, .int p1), (2, .int p2)]) := lv_sub hl [0, 1, 2] rfl
      exact join3 _ _ _ _ ⟨1, (show (1 : Int32).toInt = (if p1.toInt = -1 then 1 else twL fL_two p1.toInt) from by first | (rw [if_pos (by assumption)]; first | decide | omega) | (rw [if_neg (by assumption)]; first | decide | omega)), rfl, hP, hD, hS, hl⟩
  · rintro H locs ls stk ⟨k0_j3, hj1, rfl, hP, hD, hS, hl⟩
    refine lv_istore_n hx hb dX10_members_15 rfl hl (by decide) rfl (fun ls (hl : lv_has ls _ ([(3, .int k0_j3), (0, .ref (hL 0)), (1, .int p1), (2, .int p2)])) => ?_)
    refine lv_iload_n hx hb dX10_members_16 rfl (lv_at hl 3 rfl) ?_
    refine lv_iconst (v := (-1)) hx hb dX10_members_17 (by decide) ?_
    refine W.cut (pc := 33) (fun H locs ls stk => ∃ (k0_j4 : Int32), (k0_j4.toInt = MeV fL_two p1.toInt p2.toInt) ∧  stk = [.int k0_j4] ∧ va_P (dC, dI) vwCl (WL hL aL kL hT hM xL_tree iL_names gL_key fL_kind fL_one fL_two fL_base iL_params fL_paramOver dL_paramOver nL_params fL_paramUnder dL_paramUnder nL_pu gL_over gL_under fL_bound iL_nameAt iL_startAt iL_steps jL_scaleOver jL_scaleUnder) H ∧ va_D A (WL hL aL kL hT hM xL_tree iL_names gL_key fL_kind fL_one fL_two fL_base iL_params fL_paramOver dL_paramOver nL_params fL_paramUnder dL_paramUnder nL_pu gL_over gL_under fL_bound iL_nameAt iL_startAt iL_steps jL_scaleOver jL_scaleUnder) ∧ va_S A s.heap H locs ∧ lv_has ls 4 [(3, .int k0_j3), (0, .ref (hL 0)), (1, .int p1), (2, .int p2)]) (fun join4 => ?_) ?_
    · refine lv_icmp_ne (tgt := 25) hx hb dX10_members_18 (by decide) (fun c_18 => ?_) (fun c_18 => ?_)
      · have t_18 : p2.toInt ≠ (-1) := toI_ne c_18 rfl (by decide : ((-1) : Int32).toInt = (-1))
        refine lv_iload_n hx hb dX10_members_25 rfl (lv_at hl 0 rfl) ?_
        refine lv_aload_n hx hb dX10_members_26 rfl (lv_at hl 1 rfl) ?_
        refine va_get (D := (dC, dI)) (ci := 10) (v := .ref (aL 3)) (C := RX10) (T := TX10) (N := 20) hx hb hts iwsMX10_members_in10 hown hK hP 0 rfl rfl 7 (by decide) (hts _ hm_m_X10_members_0) (fun _ h9 => h9) rfl dX10_members_27 ?_
        refine lv_iload_n hx hb dX10_members_30 rfl (lv_at hl 3 rfl) ?_
        refine va_iald (cA := kL 3) (n := 40) (f := fL_two) hx hb hK hP 4 3 rfl rfl (vp_in_iff.mpr ⟨(by omega), (by omega)⟩) dX10_members_31 ?_
        refine lv_topi (fun v5 hv5 => ?_)
        have b_v5 : (-1) ≤ v5.toInt ∧ v5.toInt ≤ 39 := by rw [hv5]; exact b_fL_two _
        have b1_v5 : v5.toInt = twL fL_two p2.toInt := by rw [hv5]; exact tw_r
        clear hv5
        refine lv_imul hx hb dX10_members_32 ?_
        refine lv_topi (fun y6 hy6 => ?_)
        obtain rfl : (iI (k0_j3.toInt * v5.toInt)) = y6 := (hy6.trans (iI_mul2 (iI_of _) (iI_of _))).symm
        have hl : lv_has _ _ ([(3, .int k0_j3), (0, .ref (hL 0)), (1, .int p1), (2, .int p2)]) := lv_sub hl [0, 1, 2, 3] rfl
        exact join4 _ _ _ _ ⟨(iI (k0_j3.toInt * v5.toInt)), (show (iI (k0_j3.toInt * v5.toInt)).toInt = MeV fL_two p1.toInt p2.toInt from by unfold MeV; rw [← hj1]; first | (rw [if_pos (by assumption)]; omega) | (unfold MeV at hmm; rw [← hj1] at hmm; rw [if_neg (by assumption)] at hmm ⊢; rw [← (by assumption : _ = twL fL_two p2.toInt)] at hmm ⊢; exact iI_t (by omega) (by omega))), rfl, hP, hD, hS, hl⟩
      · have t_18 : p2.toInt = (-1) := toI_nne c_18 rfl (by decide : ((-1) : Int32).toInt = (-1))
        refine lv_iload_n hx hb dX10_members_21 rfl (lv_at hl 0 rfl) ?_
        refine lv_goto (tgt := 33) hx hb dX10_members_22 (by decide) ?_
        have hl : lv_has _ _ ([(3, .int k0_j3), (0, .ref (hL 0)), (1, .int p1), (2, .int p2)]) := lv_sub hl [0, 1, 2, 3] rfl
        exact join4 _ _ _ _ ⟨k0_j3, (show k0_j3.toInt = MeV fL_two p1.toInt p2.toInt from by unfold MeV; rw [← hj1]; first | (rw [if_pos (by assumption)]; omega) | (unfold MeV at hmm; rw [← hj1] at hmm; rw [if_neg (by assumption)] at hmm ⊢; rw [← (by assumption : _ = twL fL_two p2.toInt)] at hmm ⊢; exact iI_t (by omega) (by omega))), rfl, hP, hD, hS, hl⟩
    · rintro H locs ls stk ⟨k0_j4, hj2, rfl, hP, hD, hS, hl⟩
      refine W.widen (k := 0) (n := 0) (by decide +kernel) (by decide +kernel) ?_
      exact W.iret (v := k0_j4) hx hb hr (fun t9_ ht hW => ⟨⟨k0_j4, (), rfl, ⟨(by first | exact b_k0_j4 | with_reducible assumption | exact ⟨by omega, by omega⟩ | assumption), (by (try dsimp only); exact (hj2))⟩, by rw [ht]; exact hP, hD⟩, hS.F ht⟩) hS.2.2 dX10_members_33
theorem dX10_step_0 : decode cX10_step 0 = .ok (.aload_n 0, 1) := dk_42 (by decide +kernel)
theorem dX10_step_1 : decode cX10_step 1 = .ok (.dup, 1) := dk_89 (by decide +kernel)
theorem dX10_step_2 : decode cX10_step 2 = .ok (.getfield 77, 3) := dk_180 (by decide +kernel)
theorem dX10_step_5 : decode cX10_step 5 = .ok (.iconst 1, 1) := dk_4 (by decide +kernel)
theorem dX10_step_6 : decode cX10_step 6 = .ok (.iadd, 1) := dk_96 (by decide +kernel)
theorem dX10_step_7 : decode cX10_step 7 = .ok (.putfield 77, 3) := dk_181 (by decide +kernel)
theorem dX10_step_10 : decode cX10_step 10 = .ok (.aload_n 0, 1) := dk_42 (by decide +kernel)
theorem dX10_step_11 : decode cX10_step 11 = .ok (.getfield 77, 3) := dk_180 (by decide +kernel)
theorem dX10_step_14 : decode cX10_step 14 = .ok (.sipush 20000, 3) := dk_17 (by decide +kernel)
theorem dX10_step_17 : decode cX10_step 17 = .ok (.if_icmp .le 16, 3) := dk_164 (by decide +kernel)
theorem dX10_step_20 : decode cX10_step 20 = .ok (.aload_n 0, 1) := dk_42 (by decide +kernel)
theorem dX10_step_21 : decode cX10_step 21 = .ok (.getfield 47, 3) := dk_180 (by decide +kernel)
theorem dX10_step_24 : decode cX10_step 24 = .ok (.bipush 11, 2) := dk_16 (by decide +kernel)
theorem dX10_step_26 : decode cX10_step 26 = .ok (.aload_n 0, 1) := dk_42 (by decide +kernel)
theorem dX10_step_27 : decode cX10_step 27 = .ok (.getfield 71, 3) := dk_180 (by decide +kernel)
theorem dX10_step_30 : decode cX10_step 30 = .ok (.invokevirtual 90, 3) := dk_182 (by decide +kernel)
theorem dX10_step_33 : decode cX10_step 33 = .ok (.return_, 1) := dk_177 (by decide +kernel)
def wsMX10_step : List Cond := .code yX10_step cX10_step 1 none :: ([.fieldLink RX10 77 "OptimaWorks$Worker" "steps" "I", .fieldLink RX10 47 "OptimaWorks$Worker" "words" "LOptimaWorks$Words;", .fieldLink RX10 71 "OptimaWorks$Worker" "startAt" "I"] ++ wsX100 ++ (wsV RX10 90 RX9 yX9_fail wsMX9_fail))
theorem iwsMX10_step_in10 : ∀ w ∈ wsX100, w ∈ wsMX10_step := fun _ h => List.mem_cons_of_mem _ (List.mem_append_left _ (List.mem_append_right _ h))
theorem gwsMX10_step_0 : GoodIn wsMX10_step (wsV RX10 90 RX9 yX9_fail wsMX9_fail) := goodIn_sub (fun _ h => List.mem_cons_of_mem _ (List.mem_append_right _ h)) (gdV (by decide +kernel) gdwsMX9_fail)
theorem gdwsMX10_step : wsMX10_step.all goodWord = true := gdC rfl (gdA (gdA (by decide +kernel : ([.fieldLink RX10 77 "OptimaWorks$Worker" "steps" "I", .fieldLink RX10 47 "OptimaWorks$Worker" "words" "LOptimaWorks$Words;", .fieldLink RX10 71 "OptimaWorks$Worker" "startAt" "I"] : List Cond).all goodWord = true) gdwsX100) (gdV (by decide +kernel) gdwsMX9_fail))
theorem hm_m_X10_step_0 : (.fieldLink RX10 77 "OptimaWorks$Worker" "steps" "I" : Cond) ∈ wsMX10_step := by decide +kernel
set_option maxHeartbeats 4000000 in
set_option maxRecDepth 100000 in
/-- a step more -/
theorem m_X10_step (l : Launch) (hst : l.stackTraces = false) (dC : Nat → ClassId) (dI : Nat → Nat → Nat) (hL : Nat → Nat) (aL : Nat → Nat) (kL : Nat → ClassId) (hT : Nat → Nat) (hM : Nat → Nat) (xL_tree : Value) (iL_names : Int32) (gL_key : Nat → Int64) (fL_kind : Nat → Int32) (fL_one : Nat → Int32) (fL_two : Nat → Int32) (fL_base : Nat → Int32) (iL_params : Int32) (fL_paramOver : Nat → Int32) (dL_paramOver : Nat) (nL_params : Nat) (fL_paramUnder : Nat → Int32) (dL_paramUnder : Nat) (nL_pu : Nat) (gL_over : Nat → Int64) (gL_under : Nat → Int64) (fL_bound : Nat → Int32) (iL_nameAt : Int32) (iL_startAt : Int32) (iL_steps : Int32) (jL_scaleOver : Int64) (jL_scaleUnder : Int64) (aT : Nat → Nat) (kT : Nat → ClassId) (fT_tape : Nat → Int32) (dT_tape : Nat) (nT_tape : Nat) (iT_length : Int32) (iT_fault : Int32) (iT_place : Int32) (iT_kind : Int32) (iT_at : Int32) (iT_number : Int32) (jT_name : Int64) (iT_next : Int32) (b_iL_names : 0 ≤ iL_names.toInt ∧ iL_names.toInt ≤ 40) (b_fL_kind : ∀ q : Nat, 0 ≤ (fL_kind q).toInt ∧ (fL_kind q).toInt ≤ 5) (b_fL_two : ∀ q : Nat, (-1) ≤ (fL_two q).toInt ∧ (fL_two q).toInt ≤ 39) (b_fL_base : ∀ q : Nat, 0 ≤ (fL_base q).toInt ∧ (fL_base q).toInt ≤ 2560) (b_iL_params : 0 ≤ iL_params.toInt ∧ iL_params.toInt ≤ 2560) (b_nL_params : 0 ≤ nL_params ∧ nL_params ≤ 2560) (b_nm : NmL iL_names fL_kind fL_one fL_two fL_base nL_params) (b_pm : iL_params.toInt ≤ ((nL_params : Nat) : Int)) (b_pu : nL_pu = nL_params) (b_fT_tape : ∀ q : Nat, (-128) ≤ (fT_tape q).toInt ∧ (fT_tape q).toInt ≤ 127) (b_nT_tape : 64 ≤ nT_tape ∧ nT_tape ≤ 2560) (b_iT_length : 0 ≤ iT_length.toInt ∧ iT_length.toInt ≤ 1280) (b_iT_at : 0 ≤ iT_at.toInt ∧ iT_at.toInt ≤ 1282) (b_iT_number : 0 ≤ iT_number.toInt ∧ iT_number.toInt ≤ 999999) (b_iT_next : 0 ≤ iT_next.toInt ∧ iT_next.toInt ≤ 1282) (b_len : iT_length.toInt ≤ ((nT_tape : Nat) : Int)) (sz : Nat) : vx_Met l yX10_step wsMX10_step ({ frames := 7, cells := 1, slots := 6, locals := 103 }) (va_Pc [.ref (hL 0)] (fun U => U.heap.size = sz ∧ va_P (dC, dI) vwCl (WL hL aL kL hT hM xL_tree iL_names gL_key fL_kind fL_one fL_two fL_base iL_params fL_paramOver dL_paramOver nL_params fL_paramUnder dL_paramUnder nL_pu gL_over gL_under fL_bound iL_nameAt iL_startAt iL_steps jL_scaleOver jL_scaleUnder ++ (WT hT aT kT fT_tape dT_tape nT_tape iT_length iT_fault iT_place iT_kind iT_at iT_number jT_name iT_next)) U.heap ∧ va_K (dC, dI) vwCl (tL kL ++ (tT kT)) U ∧ va_D (fun _ => True) (WL hL aL kL hT hM xL_tree iL_names gL_key fL_kind fL_one fL_two fL_base iL_params fL_paramOver dL_paramOver nL_params fL_paramUnder dL_paramUnder nL_pu gL_over gL_under fL_bound iL_nameAt iL_startAt iL_steps jL_scaleOver jL_scaleUnder ++ (WT hT aT kT fT_tape dT_tape nT_tape iT_length iT_fault iT_place iT_kind iT_at iT_number jT_name iT_next)) ∧ CE (va_A (WL hL aL kL hT hM xL_tree iL_names gL_key fL_kind fL_one fL_two fL_base iL_params fL_paramOver dL_paramOver nL_params fL_paramUnder dL_paramUnder nL_pu gL_over gL_under fL_bound iL_nameAt iL_startAt iL_steps jL_scaleOver jL_scaleUnder ++ (WT hT aT kT fT_tape dT_tape nT_tape iT_length iT_fault iT_place iT_kind iT_at iT_number jT_name iT_next)) sz) U U.heap)) (va_Qv (fun (u : (Int32) × (Int32) × (Int32)) => True) (fun (u : (Int32) × (Int32) × (Int32)) t => va_P (dC, dI) vwCl (WL hL aL kL hT hM xL_tree iL_names gL_key fL_kind fL_one fL_two fL_base iL_params fL_paramOver dL_paramOver nL_params fL_paramUnder dL_paramUnder nL_pu gL_over gL_under fL_bound iL_nameAt iL_startAt (u.1) jL_scaleOver jL_scaleUnder ++ (WT hT aT kT fT_tape dT_tape nT_tape iT_length (u.2.1) (u.2.2) iT_kind iT_at iT_number jT_name iT_next)) t.heap ∧ va_D (va_A (WL hL aL kL hT hM xL_tree iL_names gL_key fL_kind fL_one fL_two fL_base iL_params fL_paramOver dL_paramOver nL_params fL_paramUnder dL_paramUnder nL_pu gL_over gL_under fL_bound iL_nameAt iL_startAt iL_steps jL_scaleOver jL_scaleUnder ++ (WT hT aT kT fT_tape dT_tape nT_tape iT_length iT_fault iT_place iT_kind iT_at iT_number jT_name iT_next)) sz) (WL hL aL kL hT hM xL_tree iL_names gL_key fL_kind fL_one fL_two fL_base iL_params fL_paramOver dL_paramOver nL_params fL_paramUnder dL_paramUnder nL_pu gL_over gL_under fL_bound iL_nameAt iL_startAt (u.1) jL_scaleOver jL_scaleUnder ++ (WT hT aT kT fT_tape dT_tape nT_tape iT_length (u.2.1) (u.2.2) iT_kind iT_at iT_number jT_name iT_next)) ∧ t.heap.size = sz) (va_A (WL hL aL kL hT hM xL_tree iL_names gL_key fL_kind fL_one fL_two fL_base iL_params fL_paramOver dL_paramOver nL_params fL_paramUnder dL_paramUnder nL_pu gL_over gL_under fL_bound iL_nameAt iL_startAt iL_steps jL_scaleOver jL_scaleUnder ++ (WT hT aT kT fT_tape dT_tape nT_tape iT_length iT_fault iT_place iT_kind iT_at iT_number jT_name iT_next)) sz)) (vx_X (fun (u : (Int32) × (Int32) × (Int32)) => True) (fun E (u : (Int32) × (Int32) × (Int32)) t => (E = "java/lang/IllegalArgumentException") ∧ va_P (dC, dI) vwCl (WL hL aL kL hT hM xL_tree iL_names gL_key fL_kind fL_one fL_two fL_base iL_params fL_paramOver dL_paramOver nL_params fL_paramUnder dL_paramUnder nL_pu gL_over gL_under fL_bound iL_nameAt iL_startAt (u.1) jL_scaleOver jL_scaleUnder ++ (WT hT aT kT fT_tape dT_tape nT_tape iT_length (u.2.1) (u.2.2) iT_kind iT_at iT_number jT_name iT_next)) t.heap ∧ va_D (va_A (WL hL aL kL hT hM xL_tree iL_names gL_key fL_kind fL_one fL_two fL_base iL_params fL_paramOver dL_paramOver nL_params fL_paramUnder dL_paramUnder nL_pu gL_over gL_under fL_bound iL_nameAt iL_startAt iL_steps jL_scaleOver jL_scaleUnder ++ (WT hT aT kT fT_tape dT_tape nT_tape iT_length iT_fault iT_place iT_kind iT_at iT_number jT_name iT_next)) sz) (WL hL aL kL hT hM xL_tree iL_names gL_key fL_kind fL_one fL_two fL_base iL_params fL_paramOver dL_paramOver nL_params fL_paramUnder dL_paramUnder nL_pu gL_over gL_under fL_bound iL_nameAt iL_startAt (u.1) jL_scaleOver jL_scaleUnder ++ (WT hT aT kT fT_tape dT_tape nT_tape iT_length (u.2.1) (u.2.2) iT_kind iT_at iT_number jT_name iT_next))) (va_A (WL hL aL kL hT hM xL_tree iL_names gL_key fL_kind fL_one fL_two fL_base iL_params fL_paramOver dL_paramOver nL_params fL_paramUnder dL_paramUnder nL_pu gL_over gL_under fL_bound iL_nameAt iL_startAt iL_steps jL_scaleOver jL_scaleUnder ++ (WT hT aT kT fT_tape dT_tape nT_tape iT_length iT_fault iT_place iT_kind iT_at iT_number jT_name iT_next)) sz)) 1 6 (va_A (WL hL aL kL hT hM xL_tree iL_names gL_key fL_kind fL_one fL_two fL_base iL_params fL_paramOver dL_paramOver nL_params fL_paramUnder dL_paramUnder nL_pu gL_over gL_under fL_bound iL_nameAt iL_startAt iL_steps jL_scaleOver jL_scaleUnder ++ (WT hT aT kT fT_tape dT_tape nT_tape iT_length iT_fault iT_place iT_kind iT_at iT_number jT_name iT_next)) sz) := by
  refine vx_ofW (cc := cX10_step) (maxL := 1) (ret := none) (by decide) rfl ?_
  intro p e s m args below meth c s₁ B hml htab hv
  obtain ⟨rfl, hsz, hP, hK, hD0, hE⟩ := hv
  have hx := B.exec
  have hb := B.bytes
  have hr := B.returns
  have hts := atoms_spec (ws := wsMX10_step) B.pre
  have hown : s.vm.findClass RX10 = some m.cls := findClass_of_methodNamed B.named
  have hlocks := B.notSynchronized
  subst hsz
  have hD := hD0.self (sz := s.heap.size)
  generalize hAe : va_A (WL hL aL kL hT hM xL_tree iL_names gL_key fL_kind fL_one fL_two fL_base iL_params fL_paramOver dL_paramOver nL_params fL_paramUnder dL_paramUnder nL_pu gL_over gL_under fL_bound iL_nameAt iL_startAt iL_steps jL_scaleOver jL_scaleUnder ++ (WT hT aT kT fT_tape dT_tape nT_tape iT_length iT_fault iT_place iT_kind iT_at iT_number jT_name iT_next)) s.heap.size = A at hD hE ⊢
  have hA : ∀ q : Nat, s.heap.size ≤ q → A q := fun q h => by rw [← hAe]; exact Or.inr h
  have hS : va_S A s.heap s.heap [] := va_S.rf
  have hl := lv_entry ([.ref (hL 0)]) (n := 1) (Nat.le_of_ble_eq_true rfl)
  rw [lg_entry_eq]
  generalize (lg_sl ([.ref (hL 0)]) ++ List.replicate (1 - (lg_sl ([.ref (hL 0)])).length) Slot.unset).toArray = ls at hl ⊢
  have hl : lv_has ls 1 [(0, .ref (hL 0))] := hl
  refine lv_aload_n hx hb dX10_step_0 rfl (lv_at hl 0 rfl) ?_
  refine lv_dup hx hb dX10_step_1 rfl ?_
  refine va_get (D := (dC, dI)) (ci := 10) (v := .int iL_steps) (C := RX10) (T := TX10) (N := 20) hx hb hts iwsMX10_step_in10 hown hK hP 0 rfl rfl 17 (by decide) (hts _ hm_m_X10_step_0) (fun _ h9 => h9) rfl dX10_step_2 ?_
  refine lv_iconst (v := 1) hx hb dX10_step_5 (by decide) ?_
  refine lv_iadd hx hb dX10_step_6 ?_
  refine lv_topi (fun y1 hy1 => ?_)
  obtain rfl : (iI (iL_steps.toInt + 1)) = y1 := (hy1.trans (iI_add2 (iI_of _) (by decide : (1 : Int32) = iI 1))).symm
  refine va_put (D := (dC, dI)) (ci := 10) (v := .int (iI (iL_steps.toInt + 1))) (ty := .int) (C := RX10) (T := TX10) (N := 20) hx hb hts iwsMX10_step_in10 tyX10 tyX10_ok nmX10 hown hK hP hD hS 0 rfl rfl 17 (by decide) (hts _ hm_m_X10_step_0) (fun _ h9 => h9) rfl (by decide +kernel) rfl rfl (Nat.le_of_ble_eq_true rfl) dX10_step_7 (fun H locs hP hD hS => ?_)
  have hP : va_P (dC, dI) vwCl (WL hL aL kL hT hM xL_tree iL_names gL_key fL_kind fL_one fL_two fL_base iL_params fL_paramOver dL_paramOver nL_params fL_paramUnder dL_paramUnder nL_pu gL_over gL_under fL_bound iL_nameAt iL_startAt (iI (iL_steps.toInt + 1)) jL_scaleOver jL_scaleUnder ++ (WT hT aT kT fT_tape dT_tape nT_tape iT_length iT_fault iT_place iT_kind iT_at iT_number jT_name iT_next)) H := hP
  have hD := fz_sd hP (hD) rfl
  refine lv_aload_n hx hb dX10_step_10 rfl (lv_at hl 0 rfl) ?_
  refine va_get (D := (dC, dI)) (ci := 10) (v := .int (iI (iL_steps.toInt + 1))) (C := RX10) (T := TX10) (N := 20) hx hb hts iwsMX10_step_in10 hown hK hP 0 rfl rfl 17 (by decide) (hts _ hm_m_X10_step_0) (fun _ h9 => h9) rfl dX10_step_11 ?_
  refine lv_sipush (v := 20000) hx hb dX10_step_14 (by decide) ?_
  refine lv_icmp_le (tgt := 33) hx hb dX10_step_17 (by decide) (fun c_17 => ?_) (fun c_17 => ?_)
  · first | (have t_17 : (iL_steps.toInt + 1) ≤ 20000 := toI_le c_17 (iI_t (by omega) (by omega)) (by decide : (20000 : Int32).toInt = 20000)) | skip
    refine vx_ret ?_
    refine W.known (fun hz9 _ => ?_)
    refine W.widen (k := 1) (n := 6) (by decide +kernel) (by decide +kernel) ?_
    exact W.vret hx hb hr (fun t9_ ht hW => ⟨⟨((iI (iL_steps.toInt + 1)), iT_fault, iT_place), rfl, trivial, by rw [ht]; exact hP, hD, by rw [ht]; first | done | exact Nat.le_antisymm hz9 hS.1⟩, hS.F ht⟩) hS.2.2 dX10_step_33
  · first | (have t_17 : ¬ (iL_steps.toInt + 1) ≤ 20000 := toI_nle c_17 (iI_t (by omega) (by omega)) (by decide : (20000 : Int32).toInt = 20000)) | skip
    refine lv_aload_n hx hb dX10_step_20 rfl (lv_at hl 0 rfl) ?_
    refine va_get (D := (dC, dI)) (ci := 10) (v := .ref (hT 0)) (C := RX10) (T := TX10) (N := 20) hx hb hts iwsMX10_step_in10 hown hK hP 0 rfl rfl 0 (by decide) (hts (.fieldLink RX10 47 "OptimaWorks$Worker" "words" "LOptimaWorks$Words;") (by decide +kernel)) (fun _ h9 => h9) rfl dX10_step_21 ?_
    refine lv_bipush (v := 11) hx hb dX10_step_24 (by decide) ?_
    refine lv_aload_n hx hb dX10_step_26 rfl (lv_at hl 0 rfl) ?_
    refine va_get (D := (dC, dI)) (ci := 10) (v := .int iL_startAt) (C := RX10) (T := TX10) (N := 20) hx hb hts iwsMX10_step_in10 hown hK hP 0 rfl rfl 16 (by decide) (hts (.fieldLink RX10 71 "OptimaWorks$Worker" "startAt" "I") (by decide +kernel)) (fun _ h9 => h9) rfl dX10_step_27 ?_
    have p9 := cj_2_1 (WL hL aL kL hT hM xL_tree iL_names gL_key fL_kind fL_one fL_two fL_base iL_params fL_paramOver dL_paramOver nL_params fL_paramUnder dL_paramUnder nL_pu gL_over gL_under fL_bound iL_nameAt iL_startAt (iI (iL_steps.toInt + 1)) jL_scaleOver jL_scaleUnder) (WT hT aT kT fT_tape dT_tape nT_tape iT_length iT_fault iT_place iT_kind iT_at iT_number jT_name iT_next)
    have hPc := hP.mem (fun q h => p9.mem_iff.mpr (List.mem_append_left _ h))
    have hDc := (hD.perm p9).left
    have hKc : va_K (dC, dI) vwCl (tT kT) _ := hK.sub [10] rfl
    have hFc := freeG p9 hD hS hA
    refine vx_callv (vx_runV (As := [.int 11, .int iL_startAt]) (rest := []) ⟨hx, hb, hml, hown, hts⟩ (m_X9_fail l hst dC dI hT aT kT fT_tape dT_tape nT_tape iT_length iT_fault iT_place iT_kind iT_at iT_number jT_name iT_next 11 iL_startAt b_fT_tape (by first | exact b_nT_tape | with_reducible assumption | exact ⟨by omega, by omega⟩ | assumption) (b_iT_length) (b_iT_at) (b_iT_number) (b_iT_next) (by first | with_reducible assumption | omega | assumption) H.size) (cwV 2 hts gwsMX10_step_0 rfl rfl rfl hd_yX9_fail_RX9 (by decide +kernel)) (fz_preE (va_recv hK hP (ci := 9) (q0 := 11) rfl rfl) hPc hKc hDc (fun a U g mk qE => qE.call) (fun U hU9 hW => by rw [hU9]; exact (((hE : CE A s s.heap).kept hS.2.1).narrow (fun q h => hFc q h)).warm hW)) rfl rfl hl.1 rfl (lv_room (Nat.le_of_ble_eq_true rfl)) dX10_step_30 (by decide +kernel)) hS (fun q _ h => hFc q h) hFc (fun q _ h => hFc q h) (fun E ce q9 u t9_ H locs ht hvm hw9 hB9 hz1 hk1 hS hc1 hc2 hc3 => ?_) (fun u t9_ H1 locs ht hvm hw9 hB9 hz1 hk1 hS => ?_)
    · revert u hw9 hB9
      refine fz_p2 ?_
      intro iT_fault_3 iT_place_3 hw9 hB9
      try dsimp only at hw9 hB9
      revert hB9
      refine fz_a2 ?_
      intro hEx hB9
      clear hw9
      have p8 := cj_2_1 (WL hL aL kL hT hM xL_tree iL_names gL_key fL_kind fL_one fL_two fL_base iL_params fL_paramOver dL_paramOver nL_params fL_paramUnder dL_paramUnder nL_pu gL_over gL_under fL_bound iL_nameAt iL_startAt (iI (iL_steps.toInt + 1)) jL_scaleOver jL_scaleUnder) (WT hT aT kT fT_tape dT_tape nT_tape iT_length iT_fault_3 iT_place_3 iT_kind iT_at iT_number jT_name iT_next)
      obtain ⟨hP, hD⟩ := frameG p9 p8 hP hD hk1 hFc (fz_P ht hB9.1) hB9.2
      exact vx_out (fun x hx9 => (htab x hx9).elim) hlocks hc1 hc2 hc3 (fun t9_ ht hvm => ⟨((iI (iL_steps.toInt + 1)), iT_fault_3, iT_place_3), trivial, ⟨(by have h9 := hEx; exact h9), by rw [ht]; exact hP, hD⟩, hS.F ht⟩) hS.2.2 (by decide +kernel) (by decide +kernel)
    exact False.elim hw9
theorem dX10_setNumber_0 : decode cX10_setNumber 0 = .ok (.iload_n 1, 1) := dk_27 (by decide +kernel)
theorem dX10_setNumber_1 : decode cX10_setNumber 1 = .ok (.bipush 9, 2) := dk_16 (by decide +kernel)
theorem dX10_setNumber_3 : decode cX10_setNumber 3 = .ok (.imul, 1) := dk_104 (by decide +kernel)
theorem dX10_setNumber_4 : decode cX10_setNumber 4 = .ok (.istore 6, 2) := dk_54 (by decide +kernel)
theorem dX10_setNumber_6 : decode cX10_setNumber 6 = .ok (.iconst 0, 1) := dk_3 (by decide +kernel)
theorem dX10_setNumber_7 : decode cX10_setNumber 7 = .ok (.istore 7, 2) := dk_54 (by decide +kernel)
theorem dX10_setNumber_9 : decode cX10_setNumber 9 = .ok (.iload 7, 2) := dk_21 (by decide +kernel)
theorem dX10_setNumber_11 : decode cX10_setNumber 11 = .ok (.aload_n 0, 1) := dk_42 (by decide +kernel)
theorem dX10_setNumber_12 : decode cX10_setNumber 12 = .ok (.getfield 51, 3) := dk_180 (by decide +kernel)
theorem dX10_setNumber_15 : decode cX10_setNumber 15 = .ok (.getfield 93, 3) := dk_180 (by decide +kernel)
theorem dX10_setNumber_18 : decode cX10_setNumber 18 = .ok (.if_icmp .gt 31, 3) := dk_163 (by decide +kernel)
theorem dX10_setNumber_21 : decode cX10_setNumber 21 = .ok (.aload_n 0, 1) := dk_42 (by decide +kernel)
theorem dX10_setNumber_22 : decode cX10_setNumber 22 = .ok (.getfield 36, 3) := dk_180 (by decide +kernel)
theorem dX10_setNumber_25 : decode cX10_setNumber 25 = .ok (.iload 6, 2) := dk_21 (by decide +kernel)
theorem dX10_setNumber_27 : decode cX10_setNumber 27 = .ok (.iload 7, 2) := dk_21 (by decide +kernel)
theorem dX10_setNumber_29 : decode cX10_setNumber 29 = .ok (.iadd, 1) := dk_96 (by decide +kernel)
theorem dX10_setNumber_30 : decode cX10_setNumber 30 = .ok (.lconst 0, 1) := dk_9 (by decide +kernel)
theorem dX10_setNumber_31 : decode cX10_setNumber 31 = .ok (.lastore, 1) := dk_80 (by decide +kernel)
theorem dX10_setNumber_32 : decode cX10_setNumber 32 = .ok (.aload_n 0, 1) := dk_42 (by decide +kernel)
theorem dX10_setNumber_33 : decode cX10_setNumber 33 = .ok (.getfield 39, 3) := dk_180 (by decide +kernel)
theorem dX10_setNumber_36 : decode cX10_setNumber 36 = .ok (.iload 6, 2) := dk_21 (by decide +kernel)
theorem dX10_setNumber_38 : decode cX10_setNumber 38 = .ok (.iload 7, 2) := dk_21 (by decide +kernel)
theorem dX10_setNumber_40 : decode cX10_setNumber 40 = .ok (.iadd, 1) := dk_96 (by decide +kernel)
theorem dX10_setNumber_41 : decode cX10_setNumber 41 = .ok (.lconst 1, 1) := dk_10 (by decide +kernel)
theorem dX10_setNumber_42 : decode cX10_setNumber 42 = .ok (.lastore, 1) := dk_80 (by decide +kernel)
theorem dX10_setNumber_43 : decode cX10_setNumber 43 = .ok (.iinc 7 1, 3) := dk_132 (by decide +kernel)
theorem dX10_setNumber_46 : decode cX10_setNumber 46 = .ok (.goto (-37), 3) := dk_167 (by decide +kernel)
theorem dX10_setNumber_49 : decode cX10_setNumber 49 = .ok (.aload_n 0, 1) := dk_42 (by decide +kernel)
theorem dX10_setNumber_50 : decode cX10_setNumber 50 = .ok (.getfield 36, 3) := dk_180 (by decide +kernel)
theorem dX10_setNumber_53 : decode cX10_setNumber 53 = .ok (.iload 6, 2) := dk_21 (by decide +kernel)
theorem dX10_setNumber_55 : decode cX10_setNumber 55 = .ok (.lload_n 2, 1) := dk_32 (by decide +kernel)
theorem dX10_setNumber_56 : decode cX10_setNumber 56 = .ok (.lastore, 1) := dk_80 (by decide +kernel)
theorem dX10_setNumber_57 : decode cX10_setNumber 57 = .ok (.aload_n 0, 1) := dk_42 (by decide +kernel)
theorem dX10_setNumber_58 : decode cX10_setNumber 58 = .ok (.getfield 39, 3) := dk_180 (by decide +kernel)
theorem dX10_setNumber_61 : decode cX10_setNumber 61 = .ok (.iload 6, 2) := dk_21 (by decide +kernel)
theorem dX10_setNumber_63 : decode cX10_setNumber 63 = .ok (.lload 4, 2) := dk_22 (by decide +kernel)
theorem dX10_setNumber_65 : decode cX10_setNumber 65 = .ok (.lastore, 1) := dk_80 (by decide +kernel)
theorem dX10_setNumber_66 : decode cX10_setNumber 66 = .ok (.return_, 1) := dk_177 (by decide +kernel)
def wsMX10_setNumber : List Cond := .code yX10_setNumber cX10_setNumber 8 none :: ([.fieldLink RX10 51 "OptimaWorks$Worker" "model" "LOptimaWorks$Model;", .fieldLink RX10 93 "OptimaWorks$Model" "variables" "I", .fieldLink RX10 36 "OptimaWorks$Worker" "over" "[J", .fieldLink RX10 39 "OptimaWorks$Worker" "under" "[J"] ++ wsX10 ++ wsX100)
theorem iwsMX10_setNumber_in1 : ∀ w ∈ wsX10, w ∈ wsMX10_setNumber := fun _ h => List.mem_cons_of_mem _ (List.mem_append_left _ (List.mem_append_right _ h))
theorem iwsMX10_setNumber_in10 : ∀ w ∈ wsX100, w ∈ wsMX10_setNumber := fun _ h => List.mem_cons_of_mem _ (List.mem_append_right _ h)
theorem gdwsMX10_setNumber : wsMX10_setNumber.all goodWord = true := gdC rfl (gdA (gdA (by decide +kernel : ([.fieldLink RX10 51 "OptimaWorks$Worker" "model" "LOptimaWorks$Model;", .fieldLink RX10 93 "OptimaWorks$Model" "variables" "I", .fieldLink RX10 36 "OptimaWorks$Worker" "over" "[J", .fieldLink RX10 39 "OptimaWorks$Worker" "under" "[J"] : List Cond).all goodWord = true) gdwsX10) gdwsX100)
theorem hm_m_X10_setNumber_0 : (.fieldLink RX10 36 "OptimaWorks$Worker" "over" "[J" : Cond) ∈ wsMX10_setNumber := by decide +kernel
theorem hm_m_X10_setNumber_1 : (.fieldLink RX10 39 "OptimaWorks$Worker" "under" "[J" : Cond) ∈ wsMX10_setNumber := by decide +kernel
set_option maxHeartbeats 4000000 in
set_option maxRecDepth 100000 in
/-- a number alone -/
theorem m_X10_setNumber (l : Launch) (dC : Nat → ClassId) (dI : Nat → Nat → Nat) (hL : Nat → Nat) (aL : Nat → Nat) (kL : Nat → ClassId) (hT : Nat → Nat) (hM : Nat → Nat) (xL_tree : Value) (iL_names : Int32) (gL_key : Nat → Int64) (fL_kind : Nat → Int32) (fL_one : Nat → Int32) (fL_two : Nat → Int32) (fL_base : Nat → Int32) (iL_params : Int32) (fL_paramOver : Nat → Int32) (dL_paramOver : Nat) (nL_params : Nat) (fL_paramUnder : Nat → Int32) (dL_paramUnder : Nat) (nL_pu : Nat) (gL_over : Nat → Int64) (gL_under : Nat → Int64) (fL_bound : Nat → Int32) (iL_nameAt : Int32) (iL_startAt : Int32) (iL_steps : Int32) (jL_scaleOver : Int64) (jL_scaleUnder : Int64) (aM : Nat → Nat) (kM : Nat → ClassId) (iM_stands : Int32) (iM_variables : Int32) (iM_rows : Int32) (iM_goals : Int32) (iM_differents : Int32) (iM_cases : Int32) (fM_from : Nat → Int32) (fM_to : Nat → Int32) (fM_whole : Nat → Int32) (fM_ways : Nat → Int32) (iM_plainRows : Int32) (fM_plainRow : Nat → Int32) (fM_kept : Nat → Int32) (fM_goalOver : Nat → Int32) (fM_goalUnder : Nat → Int32) (fM_goalMax : Nat → Int32) (fM_different : Nat → Int32) (p1 : Int32) (p2 : Int64) (p3 : Int64) (b_iL_names : 0 ≤ iL_names.toInt ∧ iL_names.toInt ≤ 40) (b_fL_kind : ∀ q : Nat, 0 ≤ (fL_kind q).toInt ∧ (fL_kind q).toInt ≤ 5) (b_fL_two : ∀ q : Nat, (-1) ≤ (fL_two q).toInt ∧ (fL_two q).toInt ≤ 39) (b_fL_base : ∀ q : Nat, 0 ≤ (fL_base q).toInt ∧ (fL_base q).toInt ≤ 2560) (b_iL_params : 0 ≤ iL_params.toInt ∧ iL_params.toInt ≤ 2560) (b_nL_params : 0 ≤ nL_params ∧ nL_params ≤ 2560) (b_nm : NmL iL_names fL_kind fL_one fL_two fL_base nL_params) (b_pm : iL_params.toInt ≤ ((nL_params : Nat) : Int)) (b_pu : nL_pu = nL_params) (b_iM_stands : 0 ≤ iM_stands.toInt ∧ iM_stands.toInt ≤ 1) (b_iM_variables : 0 ≤ iM_variables.toInt ∧ iM_variables.toInt ≤ 8) (b_iM_rows : 0 ≤ iM_rows.toInt ∧ iM_rows.toInt ≤ 12) (b_iM_goals : 0 ≤ iM_goals.toInt ∧ iM_goals.toInt ≤ 3) (b_iM_differents : 0 ≤ iM_differents.toInt ∧ iM_differents.toInt ≤ 8) (b_iM_cases : 0 ≤ iM_cases.toInt ∧ iM_cases.toInt ≤ 200000) (b_fM_ways : ∀ q : Nat, 0 ≤ (fM_ways q).toInt ∧ (fM_ways q).toInt ≤ 3) (b_iM_plainRows : 0 ≤ iM_plainRows.toInt ∧ iM_plainRows.toInt ≤ 12) (b_fM_plainRow : ∀ q : Nat, 0 ≤ (fM_plainRow q).toInt ∧ (fM_plainRow q).toInt ≤ 11) (b_pr : iM_plainRows.toInt ≤ iM_rows.toInt) (b_p1 : 0 ≤ p1.toInt ∧ p1.toInt ≤ 38) (sz : Nat) : Met l yX10_setNumber wsMX10_setNumber ({ frames := 0, cells := 0, slots := 0, locals := 0 }) (va_Pc [.ref (hL 0), .int p1, .long p2, .long p3] (fun U => U.heap.size = sz ∧ va_P (dC, dI) vwCl (WL hL aL kL hT hM xL_tree iL_names gL_key fL_kind fL_one fL_two fL_base iL_params fL_paramOver dL_paramOver nL_params fL_paramUnder dL_paramUnder nL_pu gL_over gL_under fL_bound iL_nameAt iL_startAt iL_steps jL_scaleOver jL_scaleUnder ++ (WM hM aM kM iM_stands iM_variables iM_rows iM_goals iM_differents iM_cases fM_from fM_to fM_whole fM_ways iM_plainRows fM_plainRow fM_kept fM_goalOver fM_goalUnder fM_goalMax fM_different)) U.heap ∧ va_K (dC, dI) vwCl (tL kL ++ (tM kM)) U ∧ va_D (fun _ => True) (WL hL aL kL hT hM xL_tree iL_names gL_key fL_kind fL_one fL_two fL_base iL_params fL_paramOver dL_paramOver nL_params fL_paramUnder dL_paramUnder nL_pu gL_over gL_under fL_bound iL_nameAt iL_startAt iL_steps jL_scaleOver jL_scaleUnder ++ (WM hM aM kM iM_stands iM_variables iM_rows iM_goals iM_differents iM_cases fM_from fM_to fM_whole fM_ways iM_plainRows fM_plainRow fM_kept fM_goalOver fM_goalUnder fM_goalMax fM_different)))) (va_Qv (fun (u : (Nat → Int64) × (Nat → Int64)) => True) (fun (u : (Nat → Int64) × (Nat → Int64)) t => va_P (dC, dI) vwCl (WL hL aL kL hT hM xL_tree iL_names gL_key fL_kind fL_one fL_two fL_base iL_params fL_paramOver dL_paramOver nL_params fL_paramUnder dL_paramUnder nL_pu (u.1) (u.2) fL_bound iL_nameAt iL_startAt iL_steps jL_scaleOver jL_scaleUnder ++ (WM hM aM kM iM_stands iM_variables iM_rows iM_goals iM_differents iM_cases fM_from fM_to fM_whole fM_ways iM_plainRows fM_plainRow fM_kept fM_goalOver fM_goalUnder fM_goalMax fM_different)) t.heap ∧ va_D (va_A (WL hL aL kL hT hM xL_tree iL_names gL_key fL_kind fL_one fL_two fL_base iL_params fL_paramOver dL_paramOver nL_params fL_paramUnder dL_paramUnder nL_pu gL_over gL_under fL_bound iL_nameAt iL_startAt iL_steps jL_scaleOver jL_scaleUnder ++ (WM hM aM kM iM_stands iM_variables iM_rows iM_goals iM_differents iM_cases fM_from fM_to fM_whole fM_ways iM_plainRows fM_plainRow fM_kept fM_goalOver fM_goalUnder fM_goalMax fM_different)) sz) (WL hL aL kL hT hM xL_tree iL_names gL_key fL_kind fL_one fL_two fL_base iL_params fL_paramOver dL_paramOver nL_params fL_paramUnder dL_paramUnder nL_pu (u.1) (u.2) fL_bound iL_nameAt iL_startAt iL_steps jL_scaleOver jL_scaleUnder ++ (WM hM aM kM iM_stands iM_variables iM_rows iM_goals iM_differents iM_cases fM_from fM_to fM_whole fM_ways iM_plainRows fM_plainRow fM_kept fM_goalOver fM_goalUnder fM_goalMax fM_different))) (va_A (WL hL aL kL hT hM xL_tree iL_names gL_key fL_kind fL_one fL_two fL_base iL_params fL_paramOver dL_paramOver nL_params fL_paramUnder dL_paramUnder nL_pu gL_over gL_under fL_bound iL_nameAt iL_startAt iL_steps jL_scaleOver jL_scaleUnder ++ (WM hM aM kM iM_stands iM_variables iM_rows iM_goals iM_differents iM_cases fM_from fM_to fM_whole fM_ways iM_plainRows fM_plainRow fM_kept fM_goalOver fM_goalUnder fM_goalMax fM_different)) sz)) 0 0 (va_A (WL hL aL kL hT hM xL_tree iL_names gL_key fL_kind fL_one fL_two fL_base iL_params fL_paramOver dL_paramOver nL_params fL_paramUnder dL_paramUnder nL_pu gL_over gL_under fL_bound iL_nameAt iL_startAt iL_steps jL_scaleOver jL_scaleUnder ++ (WM hM aM kM iM_stands iM_variables iM_rows iM_goals iM_differents iM_cases fM_from fM_to fM_whole fM_ways iM_plainRows fM_plainRow fM_kept fM_goalOver fM_goalUnder fM_goalMax fM_different)) sz) := by
  refine Met.ofW (cc := cX10_setNumber) (maxL := 8) (ret := none) (by decide) rfl ?_
  intro p e s m args below meth c s₁ B hml hv
  obtain ⟨rfl, hsz, hP, hK, hD0⟩ := hv
  have hx := B.exec
  have hb := B.bytes
  have hr := B.returns
  have hts := atoms_spec (ws := wsMX10_setNumber) B.pre
  have hown : s.vm.findClass RX10 = some m.cls := findClass_of_methodNamed B.named
  have hlocks := B.notSynchronized
  subst hsz
  have hD := hD0.self (sz := s.heap.size)
  generalize hAe : va_A (WL hL aL kL hT hM xL_tree iL_names gL_key fL_kind fL_one fL_two fL_base iL_params fL_paramOver dL_paramOver nL_params fL_paramUnder dL_paramUnder nL_pu gL_over gL_under fL_bound iL_nameAt iL_startAt iL_steps jL_scaleOver jL_scaleUnder ++ (WM hM aM kM iM_stands iM_variables iM_rows iM_goals iM_differents iM_cases fM_from fM_to fM_whole fM_ways iM_plainRows fM_plainRow fM_kept fM_goalOver fM_goalUnder fM_goalMax fM_different)) s.heap.size = A at hD ⊢
  have hA : ∀ q : Nat, s.heap.size ≤ q → A q := fun q h => by rw [← hAe]; exact Or.inr h
  have hS : va_S A s.heap s.heap [] := va_S.rf
  have hl := lv_entry ([.ref (hL 0), .int p1, .long p2, .long p3]) (n := 8) (Nat.le_of_ble_eq_true rfl)
  rw [lg_entry_eq]
  generalize (lg_sl ([.ref (hL 0), .int p1, .long p2, .long p3]) ++ List.replicate (8 - (lg_sl ([.ref (hL 0), .int p1, .long p2, .long p3])).length) Slot.unset).toArray = ls at hl ⊢
  have hl : lv_has ls 8 [(0, .ref (hL 0)), (1, .int p1), (2, .long p2), (4, .long p3)] := hl
  refine lv_iload_n hx hb dX10_setNumber_0 rfl (lv_at hl 1 rfl) ?_
  refine lv_bipush (v := 9) hx hb dX10_setNumber_1 (by decide) ?_
  refine lv_imul hx hb dX10_setNumber_3 ?_
  refine lv_topi (fun y1 hy1 => ?_)
  obtain rfl : (iI (p1.toInt * 9)) = y1 := (hy1.trans (iI_mul2 (iI_of _) (by decide : (9 : Int32) = iI 9))).symm
  refine lv_istore hx hb dX10_setNumber_4 hl (by decide) rfl (fun ls (hl : lv_has ls _ ([(6, .int (iI (p1.toInt * 9))), (0, .ref (hL 0)), (1, .int p1), (2, .long p2), (4, .long p3)])) => ?_)
  refine lv_iconst (v := 0) hx hb dX10_setNumber_6 (by decide) ?_
  refine lv_istore hx hb dX10_setNumber_7 hl (by decide) rfl (fun ls (hl : lv_has ls _ ([(7, .int 0), (6, .int (iI (p1.toInt * 9))), (0, .ref (hL 0)), (1, .int p1), (2, .long p2), (4, .long p3)])) => ?_)
  have hl : lv_has _ _ ([(7, .int 0), (6, .int (iI (p1.toInt * 9))), (0, .ref (hL 0)), (1, .int p1), (2, .long p2), (4, .long p3)]) := lv_sub hl [0, 1, 2, 3, 4, 5] rfl
  refine (fun (loop : ∀ (n9 : Nat) (gL_over_x9 : Nat → Int64) (gL_under_x9 : Nat → Int64) (l7_x9 : Int32) (H : Heap) (locs : List Loc) (ls : Array Slot), (0 ≤ l7_x9.toInt ∧ l7_x9.toInt ≤ 9) → (9 - l7_x9.toInt < ((n9 : Nat) : Int)) → va_P (dC, dI) vwCl (WL hL aL kL hT hM xL_tree iL_names gL_key fL_kind fL_one fL_two fL_base iL_params fL_paramOver dL_paramOver nL_params fL_paramUnder dL_paramUnder nL_pu gL_over_x9 gL_under_x9 fL_bound iL_nameAt iL_startAt iL_steps jL_scaleOver jL_scaleUnder ++ (WM hM aM kM iM_stands iM_variables iM_rows iM_goals iM_differents iM_cases fM_from fM_to fM_whole fM_ways iM_plainRows fM_plainRow fM_kept fM_goalOver fM_goalUnder fM_goalMax fM_different)) H → va_D A (WL hL aL kL hT hM xL_tree iL_names gL_key fL_kind fL_one fL_two fL_base iL_params fL_paramOver dL_paramOver nL_params fL_paramUnder dL_paramUnder nL_pu gL_over_x9 gL_under_x9 fL_bound iL_nameAt iL_startAt iL_steps jL_scaleOver jL_scaleUnder ++ (WM hM aM kM iM_stands iM_variables iM_rows iM_goals iM_differents iM_cases fM_from fM_to fM_whole fM_ways iM_plainRows fM_plainRow fM_kept fM_goalOver fM_goalUnder fM_goalMax fM_different)) → va_S A s.heap H locs → lv_has ls 8 [(7, .int l7_x9), (6, .int (iI (p1.toInt * 9))), (0, .ref (hL 0)), (1, .int p1), (2, .long p2), (4, .long p3)] → W p l e _ s m _ below meth c H locs 0 0 _ (F0 m 9 ls [])) => loop (10) gL_over gL_under 0 _ _ _ (show 0 ≤ (0 : Int32).toInt ∧ (0 : Int32).toInt ≤ 9 from by decide) ((by have e9 : (0 : Int32).toInt = 0 := (by decide : (0 : Int32).toInt = 0); omega)) hP hD hS hl) ?_
  intro n9
  induction n9 with
  | zero => intro gL_over_x9 gL_under_x9 l7_x9 H locs ls b_l7_x9 hf9; exact False.elim (by omega)
  | succ n9 ihx9 =>
    intro gL_over_x9 gL_under_x9 l7_x9 H locs ls b_l7_x9 hfx9 hP hD hS hl
    refine lv_iload hx hb dX10_setNumber_9 (lv_at hl 0 rfl) ?_
    refine lv_aload_n hx hb dX10_setNumber_11 rfl (lv_at hl 2 rfl) ?_
    refine va_get (D := (dC, dI)) (ci := 10) (v := .ref (hM 0)) (C := RX10) (T := TX10) (N := 20) hx hb hts iwsMX10_setNumber_in10 hown hK hP 0 rfl rfl 1 (by decide) (hts (.fieldLink RX10 51 "OptimaWorks$Worker" "model" "LOptimaWorks$Model;") (by decide +kernel)) (fun _ h9 => h9) rfl dX10_setNumber_12 ?_
    refine va_get (D := (dC, dI)) (ci := 1) (v := .int iM_variables) (C := RX1) (T := TX1) (N := 17) hx hb hts iwsMX10_setNumber_in1 hown hK hP 11 rfl rfl 1 (by decide) (hts (.fieldLink RX10 93 "OptimaWorks$Model" "variables" "I") (by decide +kernel)) (fun _ h9 => h9) rfl dX10_setNumber_15 ?_
    refine lv_icmp_gt (tgt := 49) hx hb dX10_setNumber_18 (by decide) (fun c_18 => ?_) (fun c_18 => ?_)
    · have t_18 : l7_x9.toInt > iM_variables.toInt := toI_gt c_18 rfl rfl
      refine lv_aload_n hx hb dX10_setNumber_49 rfl (lv_at hl 2 rfl) ?_
      refine va_get (D := (dC, dI)) (ci := 10) (v := .ref (aL 7)) (C := RX10) (T := TX10) (N := 20) hx hb hts iwsMX10_setNumber_in10 hown hK hP 0 rfl rfl 12 (by decide) (hts _ hm_m_X10_setNumber_0) (fun _ h9 => h9) rfl dX10_setNumber_50 ?_
      refine lv_iload hx hb dX10_setNumber_53 (lv_at hl 1 rfl) ?_
      refine lv_lload_n hx hb dX10_setNumber_55 rfl (lv_at hl 4 rfl) ?_
      refine va_last (cA := kL 7) (n := 360) (f := gL_over_x9) hx hb hK hP hD hS 8 7 rfl rfl (vp_iI (Int.le_trans (by decide) (Int.mul_le_mul_of_nonneg_right (b_p1.1) (by decide))) (Int.lt_of_le_of_lt (Int.mul_le_mul_of_nonneg_right (b_p1.2) (by decide)) (by decide)) (by decide)) dX10_setNumber_56 (fun H locs hP hD hS => ?_)
      obtain ⟨u26, hu26⟩ : ∃ f9, f9 = vp_updL gL_over_x9 ((iI (p1.toInt * 9))).toNatClampNeg p2 := ⟨_, rfl⟩
      have hP : va_P (dC, dI) vwCl (WL hL aL kL hT hM xL_tree iL_names gL_key fL_kind fL_one fL_two fL_base iL_params fL_paramOver dL_paramOver nL_params fL_paramUnder dL_paramUnder nL_pu u26 gL_under_x9 fL_bound iL_nameAt iL_startAt iL_steps jL_scaleOver jL_scaleUnder ++ (WM hM aM kM iM_stands iM_variables iM_rows iM_goals iM_differents iM_cases fM_from fM_to fM_whole fM_ways iM_plainRows fM_plainRow fM_kept fM_goalOver fM_goalUnder fM_goalMax fM_different)) H := by rw [hu26]; exact hP
      have hD : va_D A (WL hL aL kL hT hM xL_tree iL_names gL_key fL_kind fL_one fL_two fL_base iL_params fL_paramOver dL_paramOver nL_params fL_paramUnder dL_paramUnder nL_pu u26 gL_under_x9 fL_bound iL_nameAt iL_startAt iL_steps jL_scaleOver jL_scaleUnder ++ (WM hM aM kM iM_stands iM_variables iM_rows iM_goals iM_differents iM_cases fM_from fM_to fM_whole fM_ways iM_plainRows fM_plainRow fM_kept fM_goalOver fM_goalUnder fM_goalMax fM_different)) := by rw [hu26]; exact hD
      clear hu26
      refine lv_aload_n hx hb dX10_setNumber_57 rfl (lv_at hl 2 rfl) ?_
      refine va_get (D := (dC, dI)) (ci := 10) (v := .ref (aL 8)) (C := RX10) (T := TX10) (N := 20) hx hb hts iwsMX10_setNumber_in10 hown hK hP 0 rfl rfl 13 (by decide) (hts _ hm_m_X10_setNumber_1) (fun _ h9 => h9) rfl dX10_setNumber_58 ?_
      refine lv_iload hx hb dX10_setNumber_61 (lv_at hl 1 rfl) ?_
      refine lv_lload hx hb dX10_setNumber_63 (lv_at hl 5 rfl) ?_
      refine va_last (cA := kL 8) (n := 360) (f := gL_under_x9) hx hb hK hP hD hS 9 8 rfl rfl (vp_iI (Int.le_trans (by decide) (Int.mul_le_mul_of_nonneg_right (b_p1.1) (by decide))) (Int.lt_of_le_of_lt (Int.mul_le_mul_of_nonneg_right (b_p1.2) (by decide)) (by decide)) (by decide)) dX10_setNumber_65 (fun H locs hP hD hS => ?_)
      obtain ⟨u27, hu27⟩ : ∃ f9, f9 = vp_updL gL_under_x9 ((iI (p1.toInt * 9))).toNatClampNeg p3 := ⟨_, rfl⟩
      have hP : va_P (dC, dI) vwCl (WL hL aL kL hT hM xL_tree iL_names gL_key fL_kind fL_one fL_two fL_base iL_params fL_paramOver dL_paramOver nL_params fL_paramUnder dL_paramUnder nL_pu u26 u27 fL_bound iL_nameAt iL_startAt iL_steps jL_scaleOver jL_scaleUnder ++ (WM hM aM kM iM_stands iM_variables iM_rows iM_goals iM_differents iM_cases fM_from fM_to fM_whole fM_ways iM_plainRows fM_plainRow fM_kept fM_goalOver fM_goalUnder fM_goalMax fM_different)) H := by rw [hu27]; exact hP
      have hD : va_D A (WL hL aL kL hT hM xL_tree iL_names gL_key fL_kind fL_one fL_two fL_base iL_params fL_paramOver dL_paramOver nL_params fL_paramUnder dL_paramUnder nL_pu u26 u27 fL_bound iL_nameAt iL_startAt iL_steps jL_scaleOver jL_scaleUnder ++ (WM hM aM kM iM_stands iM_variables iM_rows iM_goals iM_differents iM_cases fM_from fM_to fM_whole fM_ways iM_plainRows fM_plainRow fM_kept fM_goalOver fM_goalUnder fM_goalMax fM_different)) := by rw [hu27]; exact hD
      clear hu27
      refine W.widen (k := 0) (n := 0) (by decide +kernel) (by decide +kernel) ?_
      exact W.vret hx hb hr (fun t9_ ht hW => ⟨⟨(u26, u27), rfl, trivial, by rw [ht]; exact hP, hD⟩, hS.F ht⟩) hS.2.2 dX10_setNumber_66
    · have t_18 : ¬ l7_x9.toInt > iM_variables.toInt := toI_ngt c_18 rfl rfl
      refine lv_aload_n hx hb dX10_setNumber_21 rfl (lv_at hl 2 rfl) ?_
      refine va_get (D := (dC, dI)) (ci := 10) (v := .ref (aL 7)) (C := RX10) (T := TX10) (N := 20) hx hb hts iwsMX10_setNumber_in10 hown hK hP 0 rfl rfl 12 (by decide) (hts _ hm_m_X10_setNumber_0) (fun _ h9 => h9) rfl dX10_setNumber_22 ?_
      refine lv_iload hx hb dX10_setNumber_25 (lv_at hl 1 rfl) ?_
      refine lv_iload hx hb dX10_setNumber_27 (lv_at hl 0 rfl) ?_
      refine lv_iadd hx hb dX10_setNumber_29 ?_
      refine lv_topi (fun y28 hy28 => ?_)
      obtain rfl : (iI ((p1.toInt * 9) + l7_x9.toInt)) = y28 := (hy28.trans (iI_add2 rfl (iI_of _))).symm
      refine lv_lconst (v := 0) hx hb dX10_setNumber_30 (by decide) ?_
      refine va_last (cA := kL 7) (n := 360) (f := gL_over_x9) hx hb hK hP hD hS 8 7 rfl rfl (vp_iI (Int.le_trans (by decide) (Int.add_le_add (Int.mul_le_mul_of_nonneg_right (b_p1.1) (by decide)) (b_l7_x9.1))) (Int.lt_of_le_of_lt (Int.add_le_add (Int.mul_le_mul_of_nonneg_right (b_p1.2) (by decide)) (b_l7_x9.2)) (by decide)) (by decide)) dX10_setNumber_31 (fun H locs hP hD hS => ?_)
      obtain ⟨u29, hu29⟩ : ∃ f9, f9 = vp_updL gL_over_x9 ((iI ((p1.toInt * 9) + l7_x9.toInt))).toNatClampNeg (0 : Int64) := ⟨_, rfl⟩
      have hP : va_P (dC, dI) vwCl (WL hL aL kL hT hM xL_tree iL_names gL_key fL_kind fL_one fL_two fL_base iL_params fL_paramOver dL_paramOver nL_params fL_paramUnder dL_paramUnder nL_pu u29 gL_under_x9 fL_bound iL_nameAt iL_startAt iL_steps jL_scaleOver jL_scaleUnder ++ (WM hM aM kM iM_stands iM_variables iM_rows iM_goals iM_differents iM_cases fM_from fM_to fM_whole fM_ways iM_plainRows fM_plainRow fM_kept fM_goalOver fM_goalUnder fM_goalMax fM_different)) H := by rw [hu29]; exact hP
      have hD : va_D A (WL hL aL kL hT hM xL_tree iL_names gL_key fL_kind fL_one fL_two fL_base iL_params fL_paramOver dL_paramOver nL_params fL_paramUnder dL_paramUnder nL_pu u29 gL_under_x9 fL_bound iL_nameAt iL_startAt iL_steps jL_scaleOver jL_scaleUnder ++ (WM hM aM kM iM_stands iM_variables iM_rows iM_goals iM_differents iM_cases fM_from fM_to fM_whole fM_ways iM_plainRows fM_plainRow fM_kept fM_goalOver fM_goalUnder fM_goalMax fM_different)) := by rw [hu29]; exact hD
      clear hu29
      refine lv_aload_n hx hb dX10_setNumber_32 rfl (lv_at hl 2 rfl) ?_
      refine va_get (D := (dC, dI)) (ci := 10) (v := .ref (aL 8)) (C := RX10) (T := TX10) (N := 20) hx hb hts iwsMX10_setNumber_in10 hown hK hP 0 rfl rfl 13 (by decide) (hts _ hm_m_X10_setNumber_1) (fun _ h9 => h9) rfl dX10_setNumber_33 ?_
      refine lv_iload hx hb dX10_setNumber_36 (lv_at hl 1 rfl) ?_
      refine lv_iload hx hb dX10_setNumber_38 (lv_at hl 0 rfl) ?_
      refine lv_iadd hx hb dX10_setNumber_40 ?_
      refine lv_topi (fun y30 hy30 => ?_)
      obtain rfl : (iI ((p1.toInt * 9) + l7_x9.toInt)) = y30 := (hy30.trans (iI_add2 rfl (iI_of _))).symm
      refine lv_lconst (v := 1) hx hb dX10_setNumber_41 (by decide) ?_
      refine va_last (cA := kL 8) (n := 360) (f := gL_under_x9) hx hb hK hP hD hS 9 8 rfl rfl (vp_iI (Int.le_trans (by decide) (Int.add_le_add (Int.mul_le_mul_of_nonneg_right (b_p1.1) (by decide)) (b_l7_x9.1))) (Int.lt_of_le_of_lt (Int.add_le_add (Int.mul_le_mul_of_nonneg_right (b_p1.2) (by decide)) (b_l7_x9.2)) (by decide)) (by decide)) dX10_setNumber_42 (fun H locs hP hD hS => ?_)
      obtain ⟨u31, hu31⟩ : ∃ f9, f9 = vp_updL gL_under_x9 ((iI ((p1.toInt * 9) + l7_x9.toInt))).toNatClampNeg (1 : Int64) := ⟨_, rfl⟩
      have hP : va_P (dC, dI) vwCl (WL hL aL kL hT hM xL_tree iL_names gL_key fL_kind fL_one fL_two fL_base iL_params fL_paramOver dL_paramOver nL_params fL_paramUnder dL_paramUnder nL_pu u29 u31 fL_bound iL_nameAt iL_startAt iL_steps jL_scaleOver jL_scaleUnder ++ (WM hM aM kM iM_stands iM_variables iM_rows iM_goals iM_differents iM_cases fM_from fM_to fM_whole fM_ways iM_plainRows fM_plainRow fM_kept fM_goalOver fM_goalUnder fM_goalMax fM_different)) H := by rw [hu31]; exact hP
      have hD : va_D A (WL hL aL kL hT hM xL_tree iL_names gL_key fL_kind fL_one fL_two fL_base iL_params fL_paramOver dL_paramOver nL_params fL_paramUnder dL_paramUnder nL_pu u29 u31 fL_bound iL_nameAt iL_startAt iL_steps jL_scaleOver jL_scaleUnder ++ (WM hM aM kM iM_stands iM_variables iM_rows iM_goals iM_differents iM_cases fM_from fM_to fM_whole fM_ways iM_plainRows fM_plainRow fM_kept fM_goalOver fM_goalUnder fM_goalMax fM_different)) := by rw [hu31]; exact hD
      clear hu31
      refine lv_iinc (v := (iI (l7_x9.toInt + 1))) hx hb dX10_setNumber_43 hl (k := 0) rfl (iI_add2 (iI_of _) (by decide : (1 : Int32) = iI 1)) (by decide) rfl (fun ls (hl : lv_has ls _ ([(7, .int (iI (l7_x9.toInt + 1))), (6, .int (iI (p1.toInt * 9))), (0, .ref (hL 0)), (1, .int p1), (2, .long p2), (4, .long p3)])) => ?_)
      refine lv_goto (tgt := 9) hx hb dX10_setNumber_46 (by decide) ?_
      have hl : lv_has _ _ ([(7, .int (iI (l7_x9.toInt + 1))), (6, .int (iI (p1.toInt * 9))), (0, .ref (hL 0)), (1, .int p1), (2, .long p2), (4, .long p3)]) := lv_sub hl [0, 1, 2, 3, 4, 5] rfl
      exact ihx9 u29 u31 (iI (l7_x9.toInt + 1)) _ _ _ (iI_rng (Int.le_trans (by decide) (Int.add_le_add (b_l7_x9.1) (Int.le_refl _))) (by omega) (by decide) (by decide)) (by have e9 : ((iI (l7_x9.toInt + 1))).toInt = (l7_x9.toInt + 1) := (iI_t (Int.le_trans (by decide) (Int.add_le_add (b_l7_x9.1) (Int.le_refl _))) (Int.le_trans (Int.add_le_add (b_l7_x9.2) (Int.le_refl _)) (by decide))); omega) hP hD hS hl
theorem dX10_hasVariables_0 : decode cX10_hasVariables 0 = .ok (.iload_n 1, 1) := dk_27 (by decide +kernel)
theorem dX10_hasVariables_1 : decode cX10_hasVariables 1 = .ok (.bipush 9, 2) := dk_16 (by decide +kernel)
theorem dX10_hasVariables_3 : decode cX10_hasVariables 3 = .ok (.imul, 1) := dk_104 (by decide +kernel)
theorem dX10_hasVariables_4 : decode cX10_hasVariables 4 = .ok (.istore_n 2, 1) := dk_61 (by decide +kernel)
theorem dX10_hasVariables_5 : decode cX10_hasVariables 5 = .ok (.iconst 1, 1) := dk_4 (by decide +kernel)
theorem dX10_hasVariables_6 : decode cX10_hasVariables 6 = .ok (.istore_n 3, 1) := dk_62 (by decide +kernel)
theorem dX10_hasVariables_7 : decode cX10_hasVariables 7 = .ok (.iload_n 3, 1) := dk_29 (by decide +kernel)
theorem dX10_hasVariables_8 : decode cX10_hasVariables 8 = .ok (.aload_n 0, 1) := dk_42 (by decide +kernel)
theorem dX10_hasVariables_9 : decode cX10_hasVariables 9 = .ok (.getfield 51, 3) := dk_180 (by decide +kernel)
theorem dX10_hasVariables_12 : decode cX10_hasVariables 12 = .ok (.getfield 93, 3) := dk_180 (by decide +kernel)
theorem dX10_hasVariables_15 : decode cX10_hasVariables 15 = .ok (.if_icmp .gt 24, 3) := dk_163 (by decide +kernel)
theorem dX10_hasVariables_18 : decode cX10_hasVariables 18 = .ok (.aload_n 0, 1) := dk_42 (by decide +kernel)
theorem dX10_hasVariables_19 : decode cX10_hasVariables 19 = .ok (.getfield 36, 3) := dk_180 (by decide +kernel)
theorem dX10_hasVariables_22 : decode cX10_hasVariables 22 = .ok (.iload_n 2, 1) := dk_28 (by decide +kernel)
theorem dX10_hasVariables_23 : decode cX10_hasVariables 23 = .ok (.iload_n 3, 1) := dk_29 (by decide +kernel)
theorem dX10_hasVariables_24 : decode cX10_hasVariables 24 = .ok (.iadd, 1) := dk_96 (by decide +kernel)
theorem dX10_hasVariables_25 : decode cX10_hasVariables 25 = .ok (.laload, 1) := dk_47 (by decide +kernel)
theorem dX10_hasVariables_26 : decode cX10_hasVariables 26 = .ok (.lconst 0, 1) := dk_9 (by decide +kernel)
theorem dX10_hasVariables_27 : decode cX10_hasVariables 27 = .ok (.lcmp, 1) := dk_148 (by decide +kernel)
theorem dX10_hasVariables_28 : decode cX10_hasVariables 28 = .ok (.ifCond .eq 5, 3) := dk_153 (by decide +kernel)
theorem dX10_hasVariables_31 : decode cX10_hasVariables 31 = .ok (.iconst 1, 1) := dk_4 (by decide +kernel)
theorem dX10_hasVariables_32 : decode cX10_hasVariables 32 = .ok (.ireturn, 1) := dk_172 (by decide +kernel)
theorem dX10_hasVariables_33 : decode cX10_hasVariables 33 = .ok (.iinc 3 1, 3) := dk_132 (by decide +kernel)
theorem dX10_hasVariables_36 : decode cX10_hasVariables 36 = .ok (.goto (-29), 3) := dk_167 (by decide +kernel)
theorem dX10_hasVariables_39 : decode cX10_hasVariables 39 = .ok (.iconst 0, 1) := dk_3 (by decide +kernel)
theorem dX10_hasVariables_40 : decode cX10_hasVariables 40 = .ok (.ireturn, 1) := dk_172 (by decide +kernel)
def wsMX10_hasVariables : List Cond := .code yX10_hasVariables cX10_hasVariables 4 (some .boolean) :: ([.fieldLink RX10 51 "OptimaWorks$Worker" "model" "LOptimaWorks$Model;", .fieldLink RX10 93 "OptimaWorks$Model" "variables" "I", .fieldLink RX10 36 "OptimaWorks$Worker" "over" "[J"] ++ wsX10 ++ wsX100)
theorem iwsMX10_hasVariables_in1 : ∀ w ∈ wsX10, w ∈ wsMX10_hasVariables := fun _ h => List.mem_cons_of_mem _ (List.mem_append_left _ (List.mem_append_right _ h))
theorem iwsMX10_hasVariables_in10 : ∀ w ∈ wsX100, w ∈ wsMX10_hasVariables := fun _ h => List.mem_cons_of_mem _ (List.mem_append_right _ h)
theorem gdwsMX10_hasVariables : wsMX10_hasVariables.all goodWord = true := gdC rfl (gdA (gdA (by decide +kernel : ([.fieldLink RX10 51 "OptimaWorks$Worker" "model" "LOptimaWorks$Model;", .fieldLink RX10 93 "OptimaWorks$Model" "variables" "I", .fieldLink RX10 36 "OptimaWorks$Worker" "over" "[J"] : List Cond).all goodWord = true) gdwsX10) gdwsX100)
set_option maxHeartbeats 4000000 in
set_option maxRecDepth 100000 in
/-- whether a value has variables -/
theorem m_X10_hasVariables (l : Launch) (dC : Nat → ClassId) (dI : Nat → Nat → Nat) (hL : Nat → Nat) (aL : Nat → Nat) (kL : Nat → ClassId) (hT : Nat → Nat) (hM : Nat → Nat) (xL_tree : Value) (iL_names : Int32) (gL_key : Nat → Int64) (fL_kind : Nat → Int32) (fL_one : Nat → Int32) (fL_two : Nat → Int32) (fL_base : Nat → Int32) (iL_params : Int32) (fL_paramOver : Nat → Int32) (dL_paramOver : Nat) (nL_params : Nat) (fL_paramUnder : Nat → Int32) (dL_paramUnder : Nat) (nL_pu : Nat) (gL_over : Nat → Int64) (gL_under : Nat → Int64) (fL_bound : Nat → Int32) (iL_nameAt : Int32) (iL_startAt : Int32) (iL_steps : Int32) (jL_scaleOver : Int64) (jL_scaleUnder : Int64) (aM : Nat → Nat) (kM : Nat → ClassId) (iM_stands : Int32) (iM_variables : Int32) (iM_rows : Int32) (iM_goals : Int32) (iM_differents : Int32) (iM_cases : Int32) (fM_from : Nat → Int32) (fM_to : Nat → Int32) (fM_whole : Nat → Int32) (fM_ways : Nat → Int32) (iM_plainRows : Int32) (fM_plainRow : Nat → Int32) (fM_kept : Nat → Int32) (fM_goalOver : Nat → Int32) (fM_goalUnder : Nat → Int32) (fM_goalMax : Nat → Int32) (fM_different : Nat → Int32) (p1 : Int32) (b_iL_names : 0 ≤ iL_names.toInt ∧ iL_names.toInt ≤ 40) (b_fL_kind : ∀ q : Nat, 0 ≤ (fL_kind q).toInt ∧ (fL_kind q).toInt ≤ 5) (b_fL_two : ∀ q : Nat, (-1) ≤ (fL_two q).toInt ∧ (fL_two q).toInt ≤ 39) (b_fL_base : ∀ q : Nat, 0 ≤ (fL_base q).toInt ∧ (fL_base q).toInt ≤ 2560) (b_iL_params : 0 ≤ iL_params.toInt ∧ iL_params.toInt ≤ 2560) (b_nL_params : 0 ≤ nL_params ∧ nL_params ≤ 2560) (b_nm : NmL iL_names fL_kind fL_one fL_two fL_base nL_params) (b_pm : iL_params.toInt ≤ ((nL_params : Nat) : Int)) (b_pu : nL_pu = nL_params) (b_iM_stands : 0 ≤ iM_stands.toInt ∧ iM_stands.toInt ≤ 1) (b_iM_variables : 0 ≤ iM_variables.toInt ∧ iM_variables.toInt ≤ 8) (b_iM_rows : 0 ≤ iM_rows.toInt ∧ iM_rows.toInt ≤ 12) (b_iM_goals : 0 ≤ iM_goals.toInt ∧ iM_goals.toInt ≤ 3) (b_iM_differents : 0 ≤ iM_differents.toInt ∧ iM_differents.toInt ≤ 8) (b_iM_cases : 0 ≤ iM_cases.toInt ∧ iM_cases.toInt ≤ 200000) (b_fM_ways : ∀ q : Nat, 0 ≤ (fM_ways q).toInt ∧ (fM_ways q).toInt ≤ 3) (b_iM_plainRows : 0 ≤ iM_plainRows.toInt ∧ iM_plainRows.toInt ≤ 12) (b_fM_plainRow : ∀ q : Nat, 0 ≤ (fM_plainRow q).toInt ∧ (fM_plainRow q).toInt ≤ 11) (b_pr : iM_plainRows.toInt ≤ iM_rows.toInt) (b_p1 : 0 ≤ p1.toInt ∧ p1.toInt ≤ 39) (sz : Nat) : Met l yX10_hasVariables wsMX10_hasVariables ({ frames := 0, cells := 0, slots := 0, locals := 0 }) (va_Pc [.ref (hL 0), .int p1] (fun U => U.heap.size = sz ∧ va_P (dC, dI) vwCl (WL hL aL kL hT hM xL_tree iL_names gL_key fL_kind fL_one fL_two fL_base iL_params fL_paramOver dL_paramOver nL_params fL_paramUnder dL_paramUnder nL_pu gL_over gL_under fL_bound iL_nameAt iL_startAt iL_steps jL_scaleOver jL_scaleUnder ++ (WM hM aM kM iM_stands iM_variables iM_rows iM_goals iM_differents iM_cases fM_from fM_to fM_whole fM_ways iM_plainRows fM_plainRow fM_kept fM_goalOver fM_goalUnder fM_goalMax fM_different)) U.heap ∧ va_K (dC, dI) vwCl (tL kL ++ (tM kM)) U ∧ va_D (fun _ => True) (WL hL aL kL hT hM xL_tree iL_names gL_key fL_kind fL_one fL_two fL_base iL_params fL_paramOver dL_paramOver nL_params fL_paramUnder dL_paramUnder nL_pu gL_over gL_under fL_bound iL_nameAt iL_startAt iL_steps jL_scaleOver jL_scaleUnder ++ (WM hM aM kM iM_stands iM_variables iM_rows iM_goals iM_differents iM_cases fM_from fM_to fM_whole fM_ways iM_plainRows fM_plainRow fM_kept fM_goalOver fM_goalUnder fM_goalMax fM_different)))) (va_Qi (fun (r : Int32) (u : Unit) => (0 ≤ r.toInt ∧ r.toInt ≤ 1)) (fun (u : Unit) t => va_P (dC, dI) vwCl (WL hL aL kL hT hM xL_tree iL_names gL_key fL_kind fL_one fL_two fL_base iL_params fL_paramOver dL_paramOver nL_params fL_paramUnder dL_paramUnder nL_pu gL_over gL_under fL_bound iL_nameAt iL_startAt iL_steps jL_scaleOver jL_scaleUnder ++ (WM hM aM kM iM_stands iM_variables iM_rows iM_goals iM_differents iM_cases fM_from fM_to fM_whole fM_ways iM_plainRows fM_plainRow fM_kept fM_goalOver fM_goalUnder fM_goalMax fM_different)) t.heap ∧ va_D (va_A (WL hL aL kL hT hM xL_tree iL_names gL_key fL_kind fL_one fL_two fL_base iL_params fL_paramOver dL_paramOver nL_params fL_paramUnder dL_paramUnder nL_pu gL_over gL_under fL_bound iL_nameAt iL_startAt iL_steps jL_scaleOver jL_scaleUnder ++ (WM hM aM kM iM_stands iM_variables iM_rows iM_goals iM_differents iM_cases fM_from fM_to fM_whole fM_ways iM_plainRows fM_plainRow fM_kept fM_goalOver fM_goalUnder fM_goalMax fM_different)) sz) (WL hL aL kL hT hM xL_tree iL_names gL_key fL_kind fL_one fL_two fL_base iL_params fL_paramOver dL_paramOver nL_params fL_paramUnder dL_paramUnder nL_pu gL_over gL_under fL_bound iL_nameAt iL_startAt iL_steps jL_scaleOver jL_scaleUnder ++ (WM hM aM kM iM_stands iM_variables iM_rows iM_goals iM_differents iM_cases fM_from fM_to fM_whole fM_ways iM_plainRows fM_plainRow fM_kept fM_goalOver fM_goalUnder fM_goalMax fM_different))) (va_A (WL hL aL kL hT hM xL_tree iL_names gL_key fL_kind fL_one fL_two fL_base iL_params fL_paramOver dL_paramOver nL_params fL_paramUnder dL_paramUnder nL_pu gL_over gL_under fL_bound iL_nameAt iL_startAt iL_steps jL_scaleOver jL_scaleUnder ++ (WM hM aM kM iM_stands iM_variables iM_rows iM_goals iM_differents iM_cases fM_from fM_to fM_whole fM_ways iM_plainRows fM_plainRow fM_kept fM_goalOver fM_goalUnder fM_goalMax fM_different)) sz)) 0 0 (va_A (WL hL aL kL hT hM xL_tree iL_names gL_key fL_kind fL_one fL_two fL_base iL_params fL_paramOver dL_paramOver nL_params fL_paramUnder dL_paramUnder nL_pu gL_over gL_under fL_bound iL_nameAt iL_startAt iL_steps jL_scaleOver jL_scaleUnder ++ (WM hM aM kM iM_stands iM_variables iM_rows iM_goals iM_differents iM_cases fM_from fM_to fM_whole fM_ways iM_plainRows fM_plainRow fM_kept fM_goalOver fM_goalUnder fM_goalMax fM_different)) sz) := by
  refine Met.ofW (cc := cX10_hasVariables) (maxL := 4) (ret := (some .boolean)) (by decide) rfl ?_
  intro p e s m args below meth c s₁ B hml hv
  obtain ⟨rfl, hsz, hP, hK, hD0⟩ := hv
  have hx := B.exec
  have hb := B.bytes
  have hr := B.returns
  have hts := atoms_spec (ws := wsMX10_hasVariables) B.pre
  have hown : s.vm.findClass RX10 = some m.cls := findClass_of_methodNamed B.named
  have hlocks := B.notSynchronized
  subst hsz
  have hD := hD0.self (sz := s.heap.size)
  generalize hAe : va_A (WL hL aL kL hT hM xL_tree iL_names gL_key fL_kind fL_one fL_two fL_base iL_params fL_paramOver dL_paramOver nL_params fL_paramUnder dL_paramUnder nL_pu gL_over gL_under fL_bound iL_nameAt iL_startAt iL_steps jL_scaleOver jL_scaleUnder ++ (WM hM aM kM iM_stands iM_variables iM_rows iM_goals iM_differents iM_cases fM_from fM_to fM_whole fM_ways iM_plainRows fM_plainRow fM_kept fM_goalOver fM_goalUnder fM_goalMax fM_different)) s.heap.size = A at hD ⊢
  have hA : ∀ q : Nat, s.heap.size ≤ q → A q := fun q h => by rw [← hAe]; exact Or.inr h
  have hS : va_S A s.heap s.heap [] := va_S.rf
  have hl := lv_entry ([.ref (hL 0), .int p1]) (n := 4) (Nat.le_of_ble_eq_true rfl)
  rw [lg_entry_eq]
  generalize (lg_sl ([.ref (hL 0), .int p1]) ++ List.replicate (4 - (lg_sl ([.ref (hL 0), .int p1])).length) Slot.unset).toArray = ls at hl ⊢
  have hl : lv_has ls 4 [(0, .ref (hL 0)), (1, .int p1)] := hl
  refine lv_iload_n hx hb dX10_hasVariables_0 rfl (lv_at hl 1 rfl) ?_
  refine lv_bipush (v := 9) hx hb dX10_hasVariables_1 (by decide) ?_
  refine lv_imul hx hb dX10_hasVariables_3 ?_
  refine lv_topi (fun y1 hy1 => ?_)
  obtain rfl : (iI (p1.toInt * 9)) = y1 := (hy1.trans (iI_mul2 (iI_of _) (by decide : (9 : Int32) = iI 9))).symm
  refine lv_istore_n hx hb dX10_hasVariables_4 rfl hl (by decide) rfl (fun ls (hl : lv_has ls _ ([(2, .int (iI (p1.toInt * 9))), (0, .ref (hL 0)), (1, .int p1)])) => ?_)
  refine lv_iconst (v := 1) hx hb dX10_hasVariables_5 (by decide) ?_
  refine lv_istore_n hx hb dX10_hasVariables_6 rfl hl (by decide) rfl (fun ls (hl : lv_has ls _ ([(3, .int 1), (2, .int (iI (p1.toInt * 9))), (0, .ref (hL 0)), (1, .int p1)])) => ?_)
  have hl : lv_has _ _ ([(3, .int 1), (2, .int (iI (p1.toInt * 9))), (0, .ref (hL 0)), (1, .int p1)]) := lv_sub hl [0, 1, 2, 3] rfl
  refine (fun (loop : ∀ (n9 : Nat) (l3_x7 : Int32) (H : Heap) (locs : List Loc) (ls : Array Slot), (1 ≤ l3_x7.toInt ∧ l3_x7.toInt ≤ 9) → (9 - l3_x7.toInt < ((n9 : Nat) : Int)) → va_P (dC, dI) vwCl (WL hL aL kL hT hM xL_tree iL_names gL_key fL_kind fL_one fL_two fL_base iL_params fL_paramOver dL_paramOver nL_params fL_paramUnder dL_paramUnder nL_pu gL_over gL_under fL_bound iL_nameAt iL_startAt iL_steps jL_scaleOver jL_scaleUnder ++ (WM hM aM kM iM_stands iM_variables iM_rows iM_goals iM_differents iM_cases fM_from fM_to fM_whole fM_ways iM_plainRows fM_plainRow fM_kept fM_goalOver fM_goalUnder fM_goalMax fM_different)) H → va_D A (WL hL aL kL hT hM xL_tree iL_names gL_key fL_kind fL_one fL_two fL_base iL_params fL_paramOver dL_paramOver nL_params fL_paramUnder dL_paramUnder nL_pu gL_over gL_under fL_bound iL_nameAt iL_startAt iL_steps jL_scaleOver jL_scaleUnder ++ (WM hM aM kM iM_stands iM_variables iM_rows iM_goals iM_differents iM_cases fM_from fM_to fM_whole fM_ways iM_plainRows fM_plainRow fM_kept fM_goalOver fM_goalUnder fM_goalMax fM_different)) → va_S A s.heap H locs → lv_has ls 4 [(3, .int l3_x7), (2, .int (iI (p1.toInt * 9))), (0, .ref (hL 0)), (1, .int p1)] → W p l e _ s m _ below meth c H locs 0 0 _ (F0 m 7 ls [])) => loop (9) 1 _ _ _ (show 1 ≤ (1 : Int32).toInt ∧ (1 : Int32).toInt ≤ 9 from by decide) ((by have e9 : (1 : Int32).toInt = 1 := (by decide : (1 : Int32).toInt = 1); omega)) hP hD hS hl) ?_
  intro n9
  induction n9 with
  | zero => intro l3_x7 H locs ls b_l3_x7 hf9; exact False.elim (by omega)
  | succ n9 ihx7 =>
    intro l3_x7 H locs ls b_l3_x7 hfx7 hP hD hS hl
    refine lv_iload_n hx hb dX10_hasVariables_7 rfl (lv_at hl 0 rfl) ?_
    refine lv_aload_n hx hb dX10_hasVariables_8 rfl (lv_at hl 2 rfl) ?_
    refine va_get (D := (dC, dI)) (ci := 10) (v := .ref (hM 0)) (C := RX10) (T := TX10) (N := 20) hx hb hts iwsMX10_hasVariables_in10 hown hK hP 0 rfl rfl 1 (by decide) (hts (.fieldLink RX10 51 "OptimaWorks$Worker" "model" "LOptimaWorks$Model;") (by decide +kernel)) (fun _ h9 => h9) rfl dX10_hasVariables_9 ?_
    refine va_get (D := (dC, dI)) (ci := 1) (v := .int iM_variables) (C := RX1) (T := TX1) (N := 17) hx hb hts iwsMX10_hasVariables_in1 hown hK hP 11 rfl rfl 1 (by decide) (hts (.fieldLink RX10 93 "OptimaWorks$Model" "variables" "I") (by decide +kernel)) (fun _ h9 => h9) rfl dX10_hasVariables_12 ?_
    refine lv_icmp_gt (tgt := 39) hx hb dX10_hasVariables_15 (by decide) (fun c_15 => ?_) (fun c_15 => ?_)
    · have t_15 : l3_x7.toInt > iM_variables.toInt := toI_gt c_15 rfl rfl
      refine lv_iconst (v := 0) hx hb dX10_hasVariables_39 (by decide) ?_
      refine W.widen (k := 0) (n := 0) (by decide +kernel) (by decide +kernel) ?_
      exact W.zret (v := 0) hx hb hr rfl (fun t9_ ht hW => ⟨⟨(0 : Int32), (), rfl, (show 0 ≤ (0 : Int32).toInt ∧ (0 : Int32).toInt ≤ 1 from by decide), by rw [ht]; exact hP, hD⟩, hS.F ht⟩) hS.2.2 dX10_hasVariables_40
    · have t_15 : ¬ l3_x7.toInt > iM_variables.toInt := toI_ngt c_15 rfl rfl
      refine lv_aload_n hx hb dX10_hasVariables_18 rfl (lv_at hl 2 rfl) ?_
      refine va_get (D := (dC, dI)) (ci := 10) (v := .ref (aL 7)) (C := RX10) (T := TX10) (N := 20) hx hb hts iwsMX10_hasVariables_in10 hown hK hP 0 rfl rfl 12 (by decide) (hts (.fieldLink RX10 36 "OptimaWorks$Worker" "over" "[J") (by decide +kernel)) (fun _ h9 => h9) rfl dX10_hasVariables_19 ?_
      refine lv_iload_n hx hb dX10_hasVariables_22 rfl (lv_at hl 1 rfl) ?_
      refine lv_iload_n hx hb dX10_hasVariables_23 rfl (lv_at hl 0 rfl) ?_
      refine lv_iadd hx hb dX10_hasVariables_24 ?_
      refine lv_topi (fun y6 hy6 => ?_)
      obtain rfl : (iI ((p1.toInt * 9) + l3_x7.toInt)) = y6 := (hy6.trans (iI_add2 rfl (iI_of _))).symm
      refine va_lald (cA := kL 7) (n := 360) (f := gL_over) hx hb hK hP 8 7 rfl rfl (vp_iI (Int.le_trans (by decide) (Int.add_le_add (Int.mul_le_mul_of_nonneg_right (b_p1.1) (by decide)) (b_l3_x7.1))) (by omega) (by decide)) dX10_hasVariables_25 ?_
      refine lv_topl (fun v7 hv7 => ?_)
      clear hv7
      refine lv_lconst (v := 0) hx hb dX10_hasVariables_26 (by decide) ?_
      refine W.lcmp hx hb dX10_hasVariables_27 ?_
      refine lv_if_eq (tgt := 33) hx hb dX10_hasVariables_28 (by decide) (fun c_28 => ?_) (fun c_28 => ?_)
      · have t_28 : v7.toInt = 0 := toL_eq c_28 rfl (by decide : (0 : Int64).toInt = 0)
        refine lv_iinc (v := (iI (l3_x7.toInt + 1))) hx hb dX10_hasVariables_33 hl (k := 0) rfl (iI_add2 (iI_of _) (by decide : (1 : Int32) = iI 1)) (by decide) rfl (fun ls (hl : lv_has ls _ ([(3, .int (iI (l3_x7.toInt + 1))), (2, .int (iI (p1.toInt * 9))), (0, .ref (hL 0)), (1, .int p1)])) => ?_)
        refine lv_goto (tgt := 7) hx hb dX10_hasVariables_36 (by decide) ?_
        have hl : lv_has _ _ ([(3, .int (iI (l3_x7.toInt + 1))), (2, .int (iI (p1.toInt * 9))), (0, .ref (hL 0)), (1, .int p1)]) := lv_sub hl [0, 1, 2, 3] rfl
        exact ihx7 (iI (l3_x7.toInt + 1)) _ _ _ (iI_rng (Int.le_trans (by decide) (Int.add_le_add (b_l3_x7.1) (Int.le_refl _))) (by omega) (by decide) (by decide)) (by have e9 : ((iI (l3_x7.toInt + 1))).toInt = (l3_x7.toInt + 1) := (iI_t (Int.le_trans (by decide) (Int.add_le_add (b_l3_x7.1) (Int.le_refl _))) (Int.le_trans (Int.add_le_add (b_l3_x7.2) (Int.le_refl _)) (by decide))); omega) hP hD hS hl
      · have t_28 : ¬ v7.toInt = 0 := toL_neq c_28 rfl (by decide : (0 : Int64).toInt = 0)
        refine lv_iconst (v := 1) hx hb dX10_hasVariables_31 (by decide) ?_
        refine W.widen (k := 0) (n := 0) (by decide +kernel) (by decide +kernel) ?_
        exact W.zret (v := 1) hx hb hr rfl (fun t9_ ht hW => ⟨⟨(1 : Int32), (), rfl, (show 0 ≤ (1 : Int32).toInt ∧ (1 : Int32).toInt ≤ 1 from by decide), by rw [ht]; exact hP, hD⟩, hS.F ht⟩) hS.2.2 dX10_hasVariables_32
theorem dX10_setFraction_0 : decode cX10_setFraction 0 = .ok (.lload 4, 2) := dk_22 (by decide +kernel)
theorem dX10_setFraction_2 : decode cX10_setFraction 2 = .ok (.lconst 1, 1) := dk_10 (by decide +kernel)
theorem dX10_setFraction_3 : decode cX10_setFraction 3 = .ok (.lcmp, 1) := dk_148 (by decide +kernel)
theorem dX10_setFraction_4 : decode cX10_setFraction 4 = .ok (.ifCond .ne 7, 3) := dk_154 (by decide +kernel)
theorem dX10_setFraction_7 : decode cX10_setFraction 7 = .ok (.lconst 1, 1) := dk_10 (by decide +kernel)
theorem dX10_setFraction_8 : decode cX10_setFraction 8 = .ok (.goto 9, 3) := dk_167 (by decide +kernel)
theorem dX10_setFraction_11 : decode cX10_setFraction 11 = .ok (.lload_n 2, 1) := dk_32 (by decide +kernel)
theorem dX10_setFraction_12 : decode cX10_setFraction 12 = .ok (.lload 4, 2) := dk_22 (by decide +kernel)
theorem dX10_setFraction_14 : decode cX10_setFraction 14 = .ok (.invokestatic 183, 3) := dk_184 (by decide +kernel)
theorem dX10_setFraction_17 : decode cX10_setFraction 17 = .ok (.lstore 7, 2) := dk_55 (by decide +kernel)
theorem dX10_setFraction_19 : decode cX10_setFraction 19 = .ok (.lload_n 2, 1) := dk_32 (by decide +kernel)
theorem dX10_setFraction_20 : decode cX10_setFraction 20 = .ok (.lload 7, 2) := dk_22 (by decide +kernel)
theorem dX10_setFraction_22 : decode cX10_setFraction 22 = .ok (.ldiv, 1) := dk_109 (by decide +kernel)
theorem dX10_setFraction_23 : decode cX10_setFraction 23 = .ok (.lstore 9, 2) := dk_55 (by decide +kernel)
theorem dX10_setFraction_25 : decode cX10_setFraction 25 = .ok (.lload 4, 2) := dk_22 (by decide +kernel)
theorem dX10_setFraction_27 : decode cX10_setFraction 27 = .ok (.lload 7, 2) := dk_22 (by decide +kernel)
theorem dX10_setFraction_29 : decode cX10_setFraction 29 = .ok (.ldiv, 1) := dk_109 (by decide +kernel)
theorem dX10_setFraction_30 : decode cX10_setFraction 30 = .ok (.lstore 11, 2) := dk_55 (by decide +kernel)
theorem dX10_setFraction_32 : decode cX10_setFraction 32 = .ok (.lload 9, 2) := dk_22 (by decide +kernel)
theorem dX10_setFraction_34 : decode cX10_setFraction 34 = .ok (.ldc2_w 199, 3) := dk_20 (by decide +kernel)
theorem dX10_setFraction_37 : decode cX10_setFraction 37 = .ok (.lcmp, 1) := dk_148 (by decide +kernel)
theorem dX10_setFraction_38 : decode cX10_setFraction 38 = .ok (.ifCond .gt 21, 3) := dk_157 (by decide +kernel)
theorem dX10_setFraction_41 : decode cX10_setFraction 41 = .ok (.lload 9, 2) := dk_22 (by decide +kernel)
theorem dX10_setFraction_43 : decode cX10_setFraction 43 = .ok (.ldc2_w 201, 3) := dk_20 (by decide +kernel)
theorem dX10_setFraction_46 : decode cX10_setFraction 46 = .ok (.lcmp, 1) := dk_148 (by decide +kernel)
theorem dX10_setFraction_47 : decode cX10_setFraction 47 = .ok (.ifCond .lt 12, 3) := dk_155 (by decide +kernel)
theorem dX10_setFraction_50 : decode cX10_setFraction 50 = .ok (.lload 11, 2) := dk_22 (by decide +kernel)
theorem dX10_setFraction_52 : decode cX10_setFraction 52 = .ok (.ldc2_w 199, 3) := dk_20 (by decide +kernel)
theorem dX10_setFraction_55 : decode cX10_setFraction 55 = .ok (.lcmp, 1) := dk_148 (by decide +kernel)
theorem dX10_setFraction_56 : decode cX10_setFraction 56 = .ok (.ifCond .le 14, 3) := dk_158 (by decide +kernel)
theorem dX10_setFraction_59 : decode cX10_setFraction 59 = .ok (.aload_n 0, 1) := dk_42 (by decide +kernel)
theorem dX10_setFraction_60 : decode cX10_setFraction 60 = .ok (.getfield 47, 3) := dk_180 (by decide +kernel)
theorem dX10_setFraction_63 : decode cX10_setFraction 63 = .ok (.bipush 9, 2) := dk_16 (by decide +kernel)
theorem dX10_setFraction_65 : decode cX10_setFraction 65 = .ok (.iload 6, 2) := dk_21 (by decide +kernel)
theorem dX10_setFraction_67 : decode cX10_setFraction 67 = .ok (.invokevirtual 90, 3) := dk_182 (by decide +kernel)
theorem dX10_setFraction_70 : decode cX10_setFraction 70 = .ok (.aload_n 0, 1) := dk_42 (by decide +kernel)
theorem dX10_setFraction_71 : decode cX10_setFraction 71 = .ok (.getfield 36, 3) := dk_180 (by decide +kernel)
theorem dX10_setFraction_74 : decode cX10_setFraction 74 = .ok (.iload_n 1, 1) := dk_27 (by decide +kernel)
theorem dX10_setFraction_75 : decode cX10_setFraction 75 = .ok (.lload 9, 2) := dk_22 (by decide +kernel)
theorem dX10_setFraction_77 : decode cX10_setFraction 77 = .ok (.lastore, 1) := dk_80 (by decide +kernel)
theorem dX10_setFraction_78 : decode cX10_setFraction 78 = .ok (.aload_n 0, 1) := dk_42 (by decide +kernel)
theorem dX10_setFraction_79 : decode cX10_setFraction 79 = .ok (.getfield 39, 3) := dk_180 (by decide +kernel)
theorem dX10_setFraction_82 : decode cX10_setFraction 82 = .ok (.iload_n 1, 1) := dk_27 (by decide +kernel)
theorem dX10_setFraction_83 : decode cX10_setFraction 83 = .ok (.lload 11, 2) := dk_22 (by decide +kernel)
theorem dX10_setFraction_85 : decode cX10_setFraction 85 = .ok (.lastore, 1) := dk_80 (by decide +kernel)
theorem dX10_setFraction_86 : decode cX10_setFraction 86 = .ok (.return_, 1) := dk_177 (by decide +kernel)
def wsMX10_setFraction : List Cond := .code yX10_setFraction cX10_setFraction 13 none :: ([.constantLong RX10 199 1000000, .fieldLink RX10 47 "OptimaWorks$Worker" "words" "LOptimaWorks$Words;", .constantLong RX10 201 (-1000000), .fieldLink RX10 36 "OptimaWorks$Worker" "over" "[J", .fieldLink RX10 39 "OptimaWorks$Worker" "under" "[J"] ++ wsX100 ++ (va_wsS RX10 183 yX10_divisor wsMX10_divisor) ++ (wsV RX10 90 RX9 yX9_fail wsMX9_fail))
theorem iwsMX10_setFraction_in10 : ∀ w ∈ wsX100, w ∈ wsMX10_setFraction := fun _ h => List.mem_cons_of_mem _ (List.mem_append_left _ (List.mem_append_left _ (List.mem_append_right _ h)))
theorem gwsMX10_setFraction_0 : GoodIn wsMX10_setFraction (va_wsS RX10 183 yX10_divisor wsMX10_divisor) := goodIn_sub (fun _ h => List.mem_cons_of_mem _ (List.mem_append_left _ (List.mem_append_right _ h))) (gdS (by decide +kernel) gdwsMX10_divisor)
theorem gwsMX10_setFraction_1 : GoodIn wsMX10_setFraction (wsV RX10 90 RX9 yX9_fail wsMX9_fail) := goodIn_sub (fun _ h => List.mem_cons_of_mem _ (List.mem_append_right _ h)) (gdV (by decide +kernel) gdwsMX9_fail)
theorem gdwsMX10_setFraction : wsMX10_setFraction.all goodWord = true := gdC rfl (gdA (gdA (gdA (by decide +kernel : ([.constantLong RX10 199 1000000, .fieldLink RX10 47 "OptimaWorks$Worker" "words" "LOptimaWorks$Words;", .constantLong RX10 201 (-1000000), .fieldLink RX10 36 "OptimaWorks$Worker" "over" "[J", .fieldLink RX10 39 "OptimaWorks$Worker" "under" "[J"] : List Cond).all goodWord = true) gdwsX100) (gdS (by decide +kernel) gdwsMX10_divisor)) (gdV (by decide +kernel) gdwsMX9_fail))
theorem hm_m_X10_setFraction_0 : (.constantLong RX10 199 1000000 : Cond) ∈ wsMX10_setFraction := by decide +kernel
theorem hm_m_X10_setFraction_1 : (.fieldLink RX10 47 "OptimaWorks$Worker" "words" "LOptimaWorks$Words;" : Cond) ∈ wsMX10_setFraction := by decide +kernel
set_option maxHeartbeats 4000000 in
set_option maxRecDepth 100000 in
/-- a fraction is set -/
theorem m_X10_setFraction (l : Launch) (hst : l.stackTraces = false) (dC : Nat → ClassId) (dI : Nat → Nat → Nat) (hL : Nat → Nat) (aL : Nat → Nat) (kL : Nat → ClassId) (hT : Nat → Nat) (hM : Nat → Nat) (xL_tree : Value) (iL_names : Int32) (gL_key : Nat → Int64) (fL_kind : Nat → Int32) (fL_one : Nat → Int32) (fL_two : Nat → Int32) (fL_base : Nat → Int32) (iL_params : Int32) (fL_paramOver : Nat → Int32) (dL_paramOver : Nat) (nL_params : Nat) (fL_paramUnder : Nat → Int32) (dL_paramUnder : Nat) (nL_pu : Nat) (gL_over : Nat → Int64) (gL_under : Nat → Int64) (fL_bound : Nat → Int32) (iL_nameAt : Int32) (iL_startAt : Int32) (iL_steps : Int32) (jL_scaleOver : Int64) (jL_scaleUnder : Int64) (aT : Nat → Nat) (kT : Nat → ClassId) (fT_tape : Nat → Int32) (dT_tape : Nat) (nT_tape : Nat) (iT_length : Int32) (iT_fault : Int32) (iT_place : Int32) (iT_kind : Int32) (iT_at : Int32) (iT_number : Int32) (jT_name : Int64) (iT_next : Int32) (p1 : Int32) (p2 : Int64) (p3 : Int64) (p4 : Int32) (b_iL_names : 0 ≤ iL_names.toInt ∧ iL_names.toInt ≤ 40) (b_fL_kind : ∀ q : Nat, 0 ≤ (fL_kind q).toInt ∧ (fL_kind q).toInt ≤ 5) (b_fL_two : ∀ q : Nat, (-1) ≤ (fL_two q).toInt ∧ (fL_two q).toInt ≤ 39) (b_fL_base : ∀ q : Nat, 0 ≤ (fL_base q).toInt ∧ (fL_base q).toInt ≤ 2560) (b_iL_params : 0 ≤ iL_params.toInt ∧ iL_params.toInt ≤ 2560) (b_nL_params : 0 ≤ nL_params ∧ nL_params ≤ 2560) (b_nm : NmL iL_names fL_kind fL_one fL_two fL_base nL_params) (b_pm : iL_params.toInt ≤ ((nL_params : Nat) : Int)) (b_pu : nL_pu = nL_params) (b_fT_tape : ∀ q : Nat, (-128) ≤ (fT_tape q).toInt ∧ (fT_tape q).toInt ≤ 127) (b_nT_tape : 64 ≤ nT_tape ∧ nT_tape ≤ 2560) (b_iT_length : 0 ≤ iT_length.toInt ∧ iT_length.toInt ≤ 1280) (b_iT_at : 0 ≤ iT_at.toInt ∧ iT_at.toInt ≤ 1282) (b_iT_number : 0 ≤ iT_number.toInt ∧ iT_number.toInt ≤ 999999) (b_iT_next : 0 ≤ iT_next.toInt ∧ iT_next.toInt ≤ 1282) (b_len : iT_length.toInt ≤ ((nT_tape : Nat) : Int)) (b_p1 : 0 ≤ p1.toInt ∧ p1.toInt ≤ 359) (sz : Nat) : vx_Met l yX10_setFraction wsMX10_setFraction ({ frames := 7, cells := 1, slots := 6, locals := 103 }) (va_Pc [.ref (hL 0), .int p1, .long p2, .long p3, .int p4] (fun U => U.heap.size = sz ∧ va_P (dC, dI) vwCl (WL hL aL kL hT hM xL_tree iL_names gL_key fL_kind fL_one fL_two fL_base iL_params fL_paramOver dL_paramOver nL_params fL_paramUnder dL_paramUnder nL_pu gL_over gL_under fL_bound iL_nameAt iL_startAt iL_steps jL_scaleOver jL_scaleUnder ++ (WT hT aT kT fT_tape dT_tape nT_tape iT_length iT_fault iT_place iT_kind iT_at iT_number jT_name iT_next)) U.heap ∧ va_K (dC, dI) vwCl (tL kL ++ (tT kT)) U ∧ va_D (fun _ => True) (WL hL aL kL hT hM xL_tree iL_names gL_key fL_kind fL_one fL_two fL_base iL_params fL_paramOver dL_paramOver nL_params fL_paramUnder dL_paramUnder nL_pu gL_over gL_under fL_bound iL_nameAt iL_startAt iL_steps jL_scaleOver jL_scaleUnder ++ (WT hT aT kT fT_tape dT_tape nT_tape iT_length iT_fault iT_place iT_kind iT_at iT_number jT_name iT_next)) ∧ CE (va_A (WL hL aL kL hT hM xL_tree iL_names gL_key fL_kind fL_one fL_two fL_base iL_params fL_paramOver dL_paramOver nL_params fL_paramUnder dL_paramUnder nL_pu gL_over gL_under fL_bound iL_nameAt iL_startAt iL_steps jL_scaleOver jL_scaleUnder ++ (WT hT aT kT fT_tape dT_tape nT_tape iT_length iT_fault iT_place iT_kind iT_at iT_number jT_name iT_next)) sz) U U.heap)) (va_Qv (fun (u : (Nat → Int64) × (Nat → Int64) × (Int32) × (Int32)) => True) (fun (u : (Nat → Int64) × (Nat → Int64) × (Int32) × (Int32)) t => va_P (dC, dI) vwCl (WL hL aL kL hT hM xL_tree iL_names gL_key fL_kind fL_one fL_two fL_base iL_params fL_paramOver dL_paramOver nL_params fL_paramUnder dL_paramUnder nL_pu (u.1) (u.2.1) fL_bound iL_nameAt iL_startAt iL_steps jL_scaleOver jL_scaleUnder ++ (WT hT aT kT fT_tape dT_tape nT_tape iT_length (u.2.2.1) (u.2.2.2) iT_kind iT_at iT_number jT_name iT_next)) t.heap ∧ va_D (va_A (WL hL aL kL hT hM xL_tree iL_names gL_key fL_kind fL_one fL_two fL_base iL_params fL_paramOver dL_paramOver nL_params fL_paramUnder dL_paramUnder nL_pu gL_over gL_under fL_bound iL_nameAt iL_startAt iL_steps jL_scaleOver jL_scaleUnder ++ (WT hT aT kT fT_tape dT_tape nT_tape iT_length iT_fault iT_place iT_kind iT_at iT_number jT_name iT_next)) sz) (WL hL aL kL hT hM xL_tree iL_names gL_key fL_kind fL_one fL_two fL_base iL_params fL_paramOver dL_paramOver nL_params fL_paramUnder dL_paramUnder nL_pu (u.1) (u.2.1) fL_bound iL_nameAt iL_startAt iL_steps jL_scaleOver jL_scaleUnder ++ (WT hT aT kT fT_tape dT_tape nT_tape iT_length (u.2.2.1) (u.2.2.2) iT_kind iT_at iT_number jT_name iT_next)) ∧ t.heap.size = sz) (va_A (WL hL aL kL hT hM xL_tree iL_names gL_key fL_kind fL_one fL_two fL_base iL_params fL_paramOver dL_paramOver nL_params fL_paramUnder dL_paramUnder nL_pu gL_over gL_under fL_bound iL_nameAt iL_startAt iL_steps jL_scaleOver jL_scaleUnder ++ (WT hT aT kT fT_tape dT_tape nT_tape iT_length iT_fault iT_place iT_kind iT_at iT_number jT_name iT_next)) sz)) (vx_X (fun (u : (Nat → Int64) × (Nat → Int64) × (Int32) × (Int32)) => True) (fun E (u : (Nat → Int64) × (Nat → Int64) × (Int32) × (Int32)) t => (E = "java/lang/IllegalArgumentException") ∧ va_P (dC, dI) vwCl (WL hL aL kL hT hM xL_tree iL_names gL_key fL_kind fL_one fL_two fL_base iL_params fL_paramOver dL_paramOver nL_params fL_paramUnder dL_paramUnder nL_pu (u.1) (u.2.1) fL_bound iL_nameAt iL_startAt iL_steps jL_scaleOver jL_scaleUnder ++ (WT hT aT kT fT_tape dT_tape nT_tape iT_length (u.2.2.1) (u.2.2.2) iT_kind iT_at iT_number jT_name iT_next)) t.heap ∧ va_D (va_A (WL hL aL kL hT hM xL_tree iL_names gL_key fL_kind fL_one fL_two fL_base iL_params fL_paramOver dL_paramOver nL_params fL_paramUnder dL_paramUnder nL_pu gL_over gL_under fL_bound iL_nameAt iL_startAt iL_steps jL_scaleOver jL_scaleUnder ++ (WT hT aT kT fT_tape dT_tape nT_tape iT_length iT_fault iT_place iT_kind iT_at iT_number jT_name iT_next)) sz) (WL hL aL kL hT hM xL_tree iL_names gL_key fL_kind fL_one fL_two fL_base iL_params fL_paramOver dL_paramOver nL_params fL_paramUnder dL_paramUnder nL_pu (u.1) (u.2.1) fL_bound iL_nameAt iL_startAt iL_steps jL_scaleOver jL_scaleUnder ++ (WT hT aT kT fT_tape dT_tape nT_tape iT_length (u.2.2.1) (u.2.2.2) iT_kind iT_at iT_number jT_name iT_next))) (va_A (WL hL aL kL hT hM xL_tree iL_names gL_key fL_kind fL_one fL_two fL_base iL_params fL_paramOver dL_paramOver nL_params fL_paramUnder dL_paramUnder nL_pu gL_over gL_under fL_bound iL_nameAt iL_startAt iL_steps jL_scaleOver jL_scaleUnder ++ (WT hT aT kT fT_tape dT_tape nT_tape iT_length iT_fault iT_place iT_kind iT_at iT_number jT_name iT_next)) sz)) 1 6 (va_A (WL hL aL kL hT hM xL_tree iL_names gL_key fL_kind fL_one fL_two fL_base iL_params fL_paramOver dL_paramOver nL_params fL_paramUnder dL_paramUnder nL_pu gL_over gL_under fL_bound iL_nameAt iL_startAt iL_steps jL_scaleOver jL_scaleUnder ++ (WT hT aT kT fT_tape dT_tape nT_tape iT_length iT_fault iT_place iT_kind iT_at iT_number jT_name iT_next)) sz) := by
  refine vx_ofW (cc := cX10_setFraction) (maxL := 13) (ret := none) (by decide) rfl ?_
  intro p e s m args below meth c s₁ B hml htab hv
  obtain ⟨rfl, hsz, hP, hK, hD0, hE⟩ := hv
  have hx := B.exec
  have hb := B.bytes
  have hr := B.returns
  have hts := atoms_spec (ws := wsMX10_setFraction) B.pre
  have hown : s.vm.findClass RX10 = some m.cls := findClass_of_methodNamed B.named
  have hlocks := B.notSynchronized
  subst hsz
  have hD := hD0.self (sz := s.heap.size)
  generalize hAe : va_A (WL hL aL kL hT hM xL_tree iL_names gL_key fL_kind fL_one fL_two fL_base iL_params fL_paramOver dL_paramOver nL_params fL_paramUnder dL_paramUnder nL_pu gL_over gL_under fL_bound iL_nameAt iL_startAt iL_steps jL_scaleOver jL_scaleUnder ++ (WT hT aT kT fT_tape dT_tape nT_tape iT_length iT_fault iT_place iT_kind iT_at iT_number jT_name iT_next)) s.heap.size = A at hD hE ⊢
  have hA : ∀ q : Nat, s.heap.size ≤ q → A q := fun q h => by rw [← hAe]; exact Or.inr h
  have hS : va_S A s.heap s.heap [] := va_S.rf
  have hl := lv_entry ([.ref (hL 0), .int p1, .long p2, .long p3, .int p4]) (n := 13) (Nat.le_of_ble_eq_true rfl)
  rw [lg_entry_eq]
  generalize (lg_sl ([.ref (hL 0), .int p1, .long p2, .long p3, .int p4]) ++ List.replicate (13 - (lg_sl ([.ref (hL 0), .int p1, .long p2, .long p3, .int p4])).length) Slot.unset).toArray = ls at hl ⊢
  have hl : lv_has ls 13 [(0, .ref (hL 0)), (1, .int p1), (2, .long p2), (4, .long p3), (6, .int p4)] := hl
  refine lv_lload hx hb dX10_setFraction_0 (lv_at hl 3 rfl) ?_
  refine lv_lconst (v := 1) hx hb dX10_setFraction_2 (by decide) ?_
  refine W.lcmp hx hb dX10_setFraction_3 ?_
  refine W.cut (pc := 17) (fun H locs ls stk => ∃ (k0_j2 : Int64), (k0_j2.toInt ≠ 0) ∧  stk = [.long k0_j2] ∧ va_P (dC, dI) vwCl (WL hL aL kL hT hM xL_tree iL_names gL_key fL_kind fL_one fL_two fL_base iL_params fL_paramOver dL_paramOver nL_params fL_paramUnder dL_paramUnder nL_pu gL_over gL_under fL_bound iL_nameAt iL_startAt iL_steps jL_scaleOver jL_scaleUnder ++ (WT hT aT kT fT_tape dT_tape nT_tape iT_length iT_fault iT_place iT_kind iT_at iT_number jT_name iT_next)) H ∧ va_D A (WL hL aL kL hT hM xL_tree iL_names gL_key fL_kind fL_one fL_two fL_base iL_params fL_paramOver dL_paramOver nL_params fL_paramUnder dL_paramUnder nL_pu gL_over gL_under fL_bound iL_nameAt iL_startAt iL_steps jL_scaleOver jL_scaleUnder ++ (WT hT aT kT fT_tape dT_tape nT_tape iT_length iT_fault iT_place iT_kind iT_at iT_number jT_name iT_next)) ∧ va_S A s.heap H locs ∧ lv_has ls 13 [(0, .ref (hL 0)), (1, .int p1), (2, .long p2), (4, .long p3), (6, .int p4)]) (fun join2 => ?_) ?_
  · refine lv_if_ne (tgt := 11) hx hb dX10_setFraction_4 (by decide) (fun c_4 => ?_) (fun c_4 => ?_)
    · have t_4 : p3.toInt ≠ 1 := toL_ne c_4 rfl (by decide : (1 : Int64).toInt = 1)
      refine lv_lload_n hx hb dX10_setFraction_11 rfl (lv_at hl 2 rfl) ?_
      refine lv_lload hx hb dX10_setFraction_12 (lv_at hl 3 rfl) ?_
      have hFc := noneFree hS hA
      refine va_calll (va_runS (As := [.long p2, .long p3]) (rest := []) ⟨hx, hb, hml, hown, hts⟩ (m_X10_divisor l dC dI p2 p3 s.heap.size) (va_cwS 2 hts gwsMX10_setFraction_0 rfl rfl rfl (by decide +kernel) ⟨by decide +kernel, by decide +kernel⟩) ⟨fun a U g mk q => by obtain ⟨q0, q1, qP, qK, qD⟩ := q; exact ⟨q0, q1, qP, va_K.moved (u := U) (U := U.calling g mk a) (Vm.Alike.refl U.vm) qK, qD⟩, fun U hU9 hW => ⟨rfl, by rw [hU9], by rw [hU9]; exact nilP, va_K.moved hW.alike (hK.sub (tys' := []) [] rfl), nilD⟩⟩ rfl rfl hl.1 rfl (lv_room (Nat.le_of_ble_eq_true rfl)) dX10_setFraction_14 (by decide +kernel)) hS (fun q _ h => hFc q h) hFc (fun r2 u t9_ H1 locs ht hvm hw9 hB9 hz1 hk1 hS => ?_)
      have f2_0 := hw9
      try dsimp only at f2_0
      clear hB9
      have hP := keepAll hP hk1
      generalize H1 = H at hP hS ⊢
      have hP : va_P (dC, dI) vwCl (WL hL aL kL hT hM xL_tree iL_names gL_key fL_kind fL_one fL_two fL_base iL_params fL_paramOver dL_paramOver nL_params fL_paramUnder dL_paramUnder nL_pu gL_over gL_under fL_bound iL_nameAt iL_startAt iL_steps jL_scaleOver jL_scaleUnder ++ (WT hT aT kT fT_tape dT_tape nT_tape iT_length iT_fault iT_place iT_kind iT_at iT_number jT_name iT_next)) H := hP
      have hD := fz_sd hP (hD) rfl
      have hl : lv_has _ _ ([(0, .ref (hL 0)), (1, .int p1), (2, .long p2), (4, .long p3), (6, .int p4)]) := lv_sub hl [0, 1, 2, 3, 4] rfl
      exact join2 _ _ _ _ ⟨r2, (show r2.toInt ≠ 0 from by first | decide | assumption | omega | (have h8 : (-1 : Int32).toInt = -1 := (by decide); omega)), rfl, hP, hD, hS, hl⟩
    · have t_4 : p3.toInt = 1 := toL_nne c_4 rfl (by decide : (1 : Int64).toInt = 1)
      refine lv_lconst (v := 1) hx hb dX10_setFraction_7 (by decide) ?_
      refine lv_goto (tgt := 17) hx hb dX10_setFraction_8 (by decide) ?_
      have hl : lv_has _ _ ([(0, .ref (hL 0)), (1, .int p1), (2, .long p2), (4, .long p3), (6, .int p4)]) := lv_sub hl [0, 1, 2, 3, 4] rfl
      exact join2 _ _ _ _ ⟨1, (show (1 : Int64).toInt ≠ 0 from by first | decide | assumption | omega | (have h8 : (-1 : Int32).toInt = -1 := (by decide); omega)), rfl, hP, hD, hS, hl⟩
  · rintro H locs ls stk ⟨k0_j2, hnz, rfl, hP, hD, hS, hl⟩
    refine lv_lstore hx hb dX10_setFraction_17 hl (by decide) rfl (fun ls (hl : lv_has ls _ ([(7, .long k0_j2), (0, .ref (hL 0)), (1, .int p1), (2, .long p2), (4, .long p3), (6, .int p4)])) => ?_)
    refine lv_lload_n hx hb dX10_setFraction_19 rfl (lv_at hl 3 rfl) ?_
    refine lv_lload hx hb dX10_setFraction_20 (lv_at hl 0 rfl) ?_
    refine lv_ldiv hx hb dX10_setFraction_22 (nz_l (x := k0_j2) rfl (by omega)) ?_
    refine lv_topl (fun v3 hv3 => ?_)
    clear hv3
    refine lv_lstore hx hb dX10_setFraction_23 hl (by decide) rfl (fun ls (hl : lv_has ls _ ([(9, .long v3), (7, .long k0_j2), (0, .ref (hL 0)), (1, .int p1), (2, .long p2), (4, .long p3), (6, .int p4)])) => ?_)
    refine lv_lload hx hb dX10_setFraction_25 (lv_at hl 5 rfl) ?_
    refine lv_lload hx hb dX10_setFraction_27 (lv_at hl 1 rfl) ?_
    refine lv_ldiv hx hb dX10_setFraction_29 (nz_l (x := k0_j2) rfl (by omega)) ?_
    refine lv_topl (fun v4 hv4 => ?_)
    clear hv4
    refine lv_lstore hx hb dX10_setFraction_30 hl (by decide) rfl (fun ls (hl : lv_has ls _ ([(11, .long v4), (9, .long v3), (7, .long k0_j2), (0, .ref (hL 0)), (1, .int p1), (2, .long p2), (4, .long p3), (6, .int p4)])) => ?_)
    refine lv_lload hx hb dX10_setFraction_32 (lv_at hl 1 rfl) ?_
    refine lv_ldc2 (v := 1000000) hx hb hown (hts _ hm_m_X10_setFraction_0) dX10_setFraction_34 ?_
    refine W.lcmp hx hb dX10_setFraction_37 ?_
    refine lv_if_gt (tgt := 59) hx hb dX10_setFraction_38 (by decide) (fun c_38 => ?_) (fun c_38 => ?_)
    · have t_38 : v3.toInt > 1000000 := toL_gt c_38 rfl (by decide : (1000000 : Int64).toInt = 1000000)
      refine lv_aload_n hx hb dX10_setFraction_59 rfl (lv_at hl 3 rfl) ?_
      refine va_get (D := (dC, dI)) (ci := 10) (v := .ref (hT 0)) (C := RX10) (T := TX10) (N := 20) hx hb hts iwsMX10_setFraction_in10 hown hK hP 0 rfl rfl 0 (by decide) (hts _ hm_m_X10_setFraction_1) (fun _ h9 => h9) rfl dX10_setFraction_60 ?_
      refine lv_bipush (v := 9) hx hb dX10_setFraction_63 (by decide) ?_
      refine lv_iload hx hb dX10_setFraction_65 (lv_at hl 7 rfl) ?_
      have p9 := cj_2_1 (WL hL aL kL hT hM xL_tree iL_names gL_key fL_kind fL_one fL_two fL_base iL_params fL_paramOver dL_paramOver nL_params fL_paramUnder dL_paramUnder nL_pu gL_over gL_under fL_bound iL_nameAt iL_startAt iL_steps jL_scaleOver jL_scaleUnder) (WT hT aT kT fT_tape dT_tape nT_tape iT_length iT_fault iT_place iT_kind iT_at iT_number jT_name iT_next)
      have hPc := hP.mem (fun q h => p9.mem_iff.mpr (List.mem_append_left _ h))
      have hDc := (hD.perm p9).left
      have hKc : va_K (dC, dI) vwCl (tT kT) _ := hK.sub [10] rfl
      have hFc := freeG p9 hD hS hA
      refine vx_callv (vx_runV (As := [.int 9, .int p4]) (rest := []) ⟨hx, hb, hml, hown, hts⟩ (m_X9_fail l hst dC dI hT aT kT fT_tape dT_tape nT_tape iT_length iT_fault iT_place iT_kind iT_at iT_number jT_name iT_next 9 p4 b_fT_tape (by first | exact b_nT_tape | with_reducible assumption | exact ⟨by omega, by omega⟩ | assumption) (b_iT_length) (b_iT_at) (b_iT_number) (b_iT_next) (by first | with_reducible assumption | omega | assumption) H.size) (cwV 2 hts gwsMX10_setFraction_1 rfl rfl rfl hd_yX9_fail_RX9 (by decide +kernel)) (fz_preE (va_recv hK hP (ci := 9) (q0 := 11) rfl rfl) hPc hKc hDc (fun a U g mk qE => qE.call) (fun U hU9 hW => by rw [hU9]; exact (((hE : CE A s s.heap).kept hS.2.1).narrow (fun q h => hFc q h)).warm hW)) rfl rfl hl.1 rfl (lv_room (Nat.le_of_ble_eq_true rfl)) dX10_setFraction_67 (by decide +kernel)) hS (fun q _ h => hFc q h) hFc (fun q _ h => hFc q h) (fun E ce q9 u t9_ H locs ht hvm hw9 hB9 hz1 hk1 hS hc1 hc2 hc3 => ?_) (fun u t9_ H1 locs ht hvm hw9 hB9 hz1 hk1 hS => ?_)
      · revert u hw9 hB9
        refine fz_p2 ?_
        intro iT_fault_8 iT_place_8 hw9 hB9
        try dsimp only at hw9 hB9
        revert hB9
        refine fz_a2 ?_
        intro hEx hB9
        clear hw9
        have p8 := cj_2_1 (WL hL aL kL hT hM xL_tree iL_names gL_key fL_kind fL_one fL_two fL_base iL_params fL_paramOver dL_paramOver nL_params fL_paramUnder dL_paramUnder nL_pu gL_over gL_under fL_bound iL_nameAt iL_startAt iL_steps jL_scaleOver jL_scaleUnder) (WT hT aT kT fT_tape dT_tape nT_tape iT_length iT_fault_8 iT_place_8 iT_kind iT_at iT_number jT_name iT_next)
        obtain ⟨hP, hD⟩ := frameG p9 p8 hP hD hk1 hFc (fz_P ht hB9.1) hB9.2
        exact vx_out (fun x hx9 => (htab x hx9).elim) hlocks hc1 hc2 hc3 (fun t9_ ht hvm => ⟨(gL_over, gL_under, iT_fault_8, iT_place_8), trivial, ⟨(by have h9 := hEx; exact h9), by rw [ht]; exact hP, hD⟩, hS.F ht⟩) hS.2.2 (by decide +kernel) (by decide +kernel)
      exact False.elim hw9
    · have t_38 : ¬ v3.toInt > 1000000 := toL_ngt c_38 rfl (by decide : (1000000 : Int64).toInt = 1000000)
      refine lv_lload hx hb dX10_setFraction_41 (lv_at hl 1 rfl) ?_
      refine lv_ldc2 (v := (-1000000)) hx hb hown (hts (.constantLong RX10 201 (-1000000)) (by decide +kernel)) dX10_setFraction_43 ?_
      refine W.lcmp hx hb dX10_setFraction_46 ?_
      refine lv_if_lt (tgt := 59) hx hb dX10_setFraction_47 (by decide) (fun c_47 => ?_) (fun c_47 => ?_)
      · have t_47 : v3.toInt < (-1000000) := toL_lt c_47 rfl (by decide : ((-1000000) : Int64).toInt = (-1000000))
        refine lv_aload_n hx hb dX10_setFraction_59 rfl (lv_at hl 3 rfl) ?_
        refine va_get (D := (dC, dI)) (ci := 10) (v := .ref (hT 0)) (C := RX10) (T := TX10) (N := 20) hx hb hts iwsMX10_setFraction_in10 hown hK hP 0 rfl rfl 0 (by decide) (hts _ hm_m_X10_setFraction_1) (fun _ h9 => h9) rfl dX10_setFraction_60 ?_
        refine lv_bipush (v := 9) hx hb dX10_setFraction_63 (by decide) ?_
        refine lv_iload hx hb dX10_setFraction_65 (lv_at hl 7 rfl) ?_
        have p9 := cj_2_1 (WL hL aL kL hT hM xL_tree iL_names gL_key fL_kind fL_one fL_two fL_base iL_params fL_paramOver dL_paramOver nL_params fL_paramUnder dL_paramUnder nL_pu gL_over gL_under fL_bound iL_nameAt iL_startAt iL_steps jL_scaleOver jL_scaleUnder) (WT hT aT kT fT_tape dT_tape nT_tape iT_length iT_fault iT_place iT_kind iT_at iT_number jT_name iT_next)
        have hPc := hP.mem (fun q h => p9.mem_iff.mpr (List.mem_append_left _ h))
        have hDc := (hD.perm p9).left
        have hKc : va_K (dC, dI) vwCl (tT kT) _ := hK.sub [10] rfl
        have hFc := freeG p9 hD hS hA
        refine vx_callv (vx_runV (As := [.int 9, .int p4]) (rest := []) ⟨hx, hb, hml, hown, hts⟩ (m_X9_fail l hst dC dI hT aT kT fT_tape dT_tape nT_tape iT_length iT_fault iT_place iT_kind iT_at iT_number jT_name iT_next 9 p4 b_fT_tape (by first | exact b_nT_tape | with_reducible assumption | exact ⟨by omega, by omega⟩ | assumption) (b_iT_length) (b_iT_at) (b_iT_number) (b_iT_next) (by first | with_reducible assumption | omega | assumption) H.size) (cwV 2 hts gwsMX10_setFraction_1 rfl rfl rfl hd_yX9_fail_RX9 (by decide +kernel)) (fz_preE (va_recv hK hP (ci := 9) (q0 := 11) rfl rfl) hPc hKc hDc (fun a U g mk qE => qE.call) (fun U hU9 hW => by rw [hU9]; exact (((hE : CE A s s.heap).kept hS.2.1).narrow (fun q h => hFc q h)).warm hW)) rfl rfl hl.1 rfl (lv_room (Nat.le_of_ble_eq_true rfl)) dX10_setFraction_67 (by decide +kernel)) hS (fun q _ h => hFc q h) hFc (fun q _ h => hFc q h) (fun E ce q9 u t9_ H locs ht hvm hw9 hB9 hz1 hk1 hS hc1 hc2 hc3 => ?_) (fun u t9_ H1 locs ht hvm hw9 hB9 hz1 hk1 hS => ?_)
        · revert u hw9 hB9
          refine fz_p2 ?_
          intro iT_fault_11 iT_place_11 hw9 hB9
          try dsimp only at hw9 hB9
          revert hB9
          refine fz_a2 ?_
          intro hEx hB9
          clear hw9
          have p8 := cj_2_1 (WL hL aL kL hT hM xL_tree iL_names gL_key fL_kind fL_one fL_two fL_base iL_params fL_paramOver dL_paramOver nL_params fL_paramUnder dL_paramUnder nL_pu gL_over gL_under fL_bound iL_nameAt iL_startAt iL_steps jL_scaleOver jL_scaleUnder) (WT hT aT kT fT_tape dT_tape nT_tape iT_length iT_fault_11 iT_place_11 iT_kind iT_at iT_number jT_name iT_next)
          obtain ⟨hP, hD⟩ := frameG p9 p8 hP hD hk1 hFc (fz_P ht hB9.1) hB9.2
          exact vx_out (fun x hx9 => (htab x hx9).elim) hlocks hc1 hc2 hc3 (fun t9_ ht hvm => ⟨(gL_over, gL_under, iT_fault_11, iT_place_11), trivial, ⟨(by have h9 := hEx; exact h9), by rw [ht]; exact hP, hD⟩, hS.F ht⟩) hS.2.2 (by decide +kernel) (by decide +kernel)
        exact False.elim hw9
      · have t_47 : ¬ v3.toInt < (-1000000) := toL_nlt c_47 rfl (by decide : ((-1000000) : Int64).toInt = (-1000000))
        refine lv_lload hx hb dX10_setFraction_50 (lv_at hl 0 rfl) ?_
        refine lv_ldc2 (v := 1000000) hx hb hown (hts _ hm_m_X10_setFraction_0) dX10_setFraction_52 ?_
        refine W.lcmp hx hb dX10_setFraction_55 ?_
        refine lv_if_le (tgt := 70) hx hb dX10_setFraction_56 (by decide) (fun c_56 => ?_) (fun c_56 => ?_)
        · have t_56 : v4.toInt ≤ 1000000 := toL_le c_56 rfl (by decide : (1000000 : Int64).toInt = 1000000)
          refine lv_aload_n hx hb dX10_setFraction_70 rfl (lv_at hl 3 rfl) ?_
          refine va_get (D := (dC, dI)) (ci := 10) (v := .ref (aL 7)) (C := RX10) (T := TX10) (N := 20) hx hb hts iwsMX10_setFraction_in10 hown hK hP 0 rfl rfl 12 (by decide) (hts (.fieldLink RX10 36 "OptimaWorks$Worker" "over" "[J") (by decide +kernel)) (fun _ h9 => h9) rfl dX10_setFraction_71 ?_
          refine lv_iload_n hx hb dX10_setFraction_74 rfl (lv_at hl 4 rfl) ?_
          refine lv_lload hx hb dX10_setFraction_75 (lv_at hl 1 rfl) ?_
          refine va_last (cA := kL 7) (n := 360) (f := gL_over) hx hb hK hP hD hS 8 7 rfl rfl (vp_in_iff.mpr ⟨b_p1.1, (Int.lt_of_le_of_lt (b_p1.2) (by decide))⟩) dX10_setFraction_77 (fun H locs hP hD hS => ?_)
          obtain ⟨u13, hu13⟩ : ∃ f9, f9 = vp_updL gL_over (p1).toNatClampNeg v3 := ⟨_, rfl⟩
          have hP : va_P (dC, dI) vwCl (WL hL aL kL hT hM xL_tree iL_names gL_key fL_kind fL_one fL_two fL_base iL_params fL_paramOver dL_paramOver nL_params fL_paramUnder dL_paramUnder nL_pu u13 gL_under fL_bound iL_nameAt iL_startAt iL_steps jL_scaleOver jL_scaleUnder ++ (WT hT aT kT fT_tape dT_tape nT_tape iT_length iT_fault iT_place iT_kind iT_at iT_number jT_name iT_next)) H := by rw [hu13]; exact hP
          have hD : va_D A (WL hL aL kL hT hM xL_tree iL_names gL_key fL_kind fL_one fL_two fL_base iL_params fL_paramOver dL_paramOver nL_params fL_paramUnder dL_paramUnder nL_pu u13 gL_under fL_bound iL_nameAt iL_startAt iL_steps jL_scaleOver jL_scaleUnder ++ (WT hT aT kT fT_tape dT_tape nT_tape iT_length iT_fault iT_place iT_kind iT_at iT_number jT_name iT_next)) := by rw [hu13]; exact hD
          clear hu13
          refine lv_aload_n hx hb dX10_setFraction_78 rfl (lv_at hl 3 rfl) ?_
          refine va_get (D := (dC, dI)) (ci := 10) (v := .ref (aL 8)) (C := RX10) (T := TX10) (N := 20) hx hb hts iwsMX10_setFraction_in10 hown hK hP 0 rfl rfl 13 (by decide) (hts (.fieldLink RX10 39 "OptimaWorks$Worker" "under" "[J") (by decide +kernel)) (fun _ h9 => h9) rfl dX10_setFraction_79 ?_
          refine lv_iload_n hx hb dX10_setFraction_82 rfl (lv_at hl 4 rfl) ?_
          refine lv_lload hx hb dX10_setFraction_83 (lv_at hl 0 rfl) ?_
          refine va_last (cA := kL 8) (n := 360) (f := gL_under) hx hb hK hP hD hS 9 8 rfl rfl (vp_in_iff.mpr ⟨b_p1.1, (Int.lt_of_le_of_lt (b_p1.2) (by decide))⟩) dX10_setFraction_85 (fun H locs hP hD hS => ?_)
          obtain ⟨u14, hu14⟩ : ∃ f9, f9 = vp_updL gL_under (p1).toNatClampNeg v4 := ⟨_, rfl⟩
          have hP : va_P (dC, dI) vwCl (WL hL aL kL hT hM xL_tree iL_names gL_key fL_kind fL_one fL_two fL_base iL_params fL_paramOver dL_paramOver nL_params fL_paramUnder dL_paramUnder nL_pu u13 u14 fL_bound iL_nameAt iL_startAt iL_steps jL_scaleOver jL_scaleUnder ++ (WT hT aT kT fT_tape dT_tape nT_tape iT_length iT_fault iT_place iT_kind iT_at iT_number jT_name iT_next)) H := by rw [hu14]; exact hP
          have hD : va_D A (WL hL aL kL hT hM xL_tree iL_names gL_key fL_kind fL_one fL_two fL_base iL_params fL_paramOver dL_paramOver nL_params fL_paramUnder dL_paramUnder nL_pu u13 u14 fL_bound iL_nameAt iL_startAt iL_steps jL_scaleOver jL_scaleUnder ++ (WT hT aT kT fT_tape dT_tape nT_tape iT_length iT_fault iT_place iT_kind iT_at iT_number jT_name iT_next)) := by rw [hu14]; exact hD
          clear hu14
          refine vx_ret ?_
          refine W.known (fun hz9 _ => ?_)
          refine W.widen (k := 1) (n := 6) (by decide +kernel) (by decide +kernel) ?_
          exact W.vret hx hb hr (fun t9_ ht hW => ⟨⟨(u13, u14, iT_fault, iT_place), rfl, trivial, by rw [ht]; exact hP, hD, by rw [ht]; first | done | exact Nat.le_antisymm hz9 hS.1⟩, hS.F ht⟩) hS.2.2 dX10_setFraction_86
        · have t_56 : ¬ v4.toInt ≤ 1000000 := toL_nle c_56 rfl (by decide : (1000000 : Int64).toInt = 1000000)
          refine lv_aload_n hx hb dX10_setFraction_59 rfl (lv_at hl 3 rfl) ?_
          refine va_get (D := (dC, dI)) (ci := 10) (v := .ref (hT 0)) (C := RX10) (T := TX10) (N := 20) hx hb hts iwsMX10_setFraction_in10 hown hK hP 0 rfl rfl 0 (by decide) (hts _ hm_m_X10_setFraction_1) (fun _ h9 => h9) rfl dX10_setFraction_60 ?_
          refine lv_bipush (v := 9) hx hb dX10_setFraction_63 (by decide) ?_
          refine lv_iload hx hb dX10_setFraction_65 (lv_at hl 7 rfl) ?_
          have p9 := cj_2_1 (WL hL aL kL hT hM xL_tree iL_names gL_key fL_kind fL_one fL_two fL_base iL_params fL_paramOver dL_paramOver nL_params fL_paramUnder dL_paramUnder nL_pu gL_over gL_under fL_bound iL_nameAt iL_startAt iL_steps jL_scaleOver jL_scaleUnder) (WT hT aT kT fT_tape dT_tape nT_tape iT_length iT_fault iT_place iT_kind iT_at iT_number jT_name iT_next)
          have hPc := hP.mem (fun q h => p9.mem_iff.mpr (List.mem_append_left _ h))
          have hDc := (hD.perm p9).left
          have hKc : va_K (dC, dI) vwCl (tT kT) _ := hK.sub [10] rfl
          have hFc := freeG p9 hD hS hA
          refine vx_callv (vx_runV (As := [.int 9, .int p4]) (rest := []) ⟨hx, hb, hml, hown, hts⟩ (m_X9_fail l hst dC dI hT aT kT fT_tape dT_tape nT_tape iT_length iT_fault iT_place iT_kind iT_at iT_number jT_name iT_next 9 p4 b_fT_tape (by first | exact b_nT_tape | with_reducible assumption | exact ⟨by omega, by omega⟩ | assumption) (b_iT_length) (b_iT_at) (b_iT_number) (b_iT_next) (by first | with_reducible assumption | omega | assumption) H.size) (cwV 2 hts gwsMX10_setFraction_1 rfl rfl rfl hd_yX9_fail_RX9 (by decide +kernel)) (fz_preE (va_recv hK hP (ci := 9) (q0 := 11) rfl rfl) hPc hKc hDc (fun a U g mk qE => qE.call) (fun U hU9 hW => by rw [hU9]; exact (((hE : CE A s s.heap).kept hS.2.1).narrow (fun q h => hFc q h)).warm hW)) rfl rfl hl.1 rfl (lv_room (Nat.le_of_ble_eq_true rfl)) dX10_setFraction_67 (by decide +kernel)) hS (fun q _ h => hFc q h) hFc (fun q _ h => hFc q h) (fun E ce q9 u t9_ H locs ht hvm hw9 hB9 hz1 hk1 hS hc1 hc2 hc3 => ?_) (fun u t9_ H1 locs ht hvm hw9 hB9 hz1 hk1 hS => ?_)
          · revert u hw9 hB9
            refine fz_p2 ?_
            intro iT_fault_15 iT_place_15 hw9 hB9
            try dsimp only at hw9 hB9
            revert hB9
            refine fz_a2 ?_
            intro hEx hB9
            clear hw9
            have p8 := cj_2_1 (WL hL aL kL hT hM xL_tree iL_names gL_key fL_kind fL_one fL_two fL_base iL_params fL_paramOver dL_paramOver nL_params fL_paramUnder dL_paramUnder nL_pu gL_over gL_under fL_bound iL_nameAt iL_startAt iL_steps jL_scaleOver jL_scaleUnder) (WT hT aT kT fT_tape dT_tape nT_tape iT_length iT_fault_15 iT_place_15 iT_kind iT_at iT_number jT_name iT_next)
            obtain ⟨hP, hD⟩ := frameG p9 p8 hP hD hk1 hFc (fz_P ht hB9.1) hB9.2
            exact vx_out (fun x hx9 => (htab x hx9).elim) hlocks hc1 hc2 hc3 (fun t9_ ht hvm => ⟨(gL_over, gL_under, iT_fault_15, iT_place_15), trivial, ⟨(by have h9 := hEx; exact h9), by rw [ht]; exact hP, hD⟩, hS.F ht⟩) hS.2.2 (by decide +kernel) (by decide +kernel)
          exact False.elim hw9
theorem dX10_join_0 : decode cX10_join 0 = .ok (.iload_n 1, 1) := dk_27 (by decide +kernel)
theorem dX10_join_1 : decode cX10_join 1 = .ok (.bipush 9, 2) := dk_16 (by decide +kernel)
theorem dX10_join_3 : decode cX10_join 3 = .ok (.imul, 1) := dk_104 (by decide +kernel)
theorem dX10_join_4 : decode cX10_join 4 = .ok (.istore 4, 2) := dk_54 (by decide +kernel)
theorem dX10_join_6 : decode cX10_join 6 = .ok (.iconst 0, 1) := dk_3 (by decide +kernel)
theorem dX10_join_7 : decode cX10_join 7 = .ok (.istore 5, 2) := dk_54 (by decide +kernel)
theorem dX10_join_9 : decode cX10_join 9 = .ok (.iload 5, 2) := dk_21 (by decide +kernel)
theorem dX10_join_11 : decode cX10_join 11 = .ok (.aload_n 0, 1) := dk_42 (by decide +kernel)
theorem dX10_join_12 : decode cX10_join 12 = .ok (.getfield 51, 3) := dk_180 (by decide +kernel)
theorem dX10_join_15 : decode cX10_join 15 = .ok (.getfield 93, 3) := dk_180 (by decide +kernel)
theorem dX10_join_18 : decode cX10_join 18 = .ok (.if_icmp .gt 102, 3) := dk_163 (by decide +kernel)
theorem dX10_join_21 : decode cX10_join 21 = .ok (.iload 4, 2) := dk_21 (by decide +kernel)
theorem dX10_join_23 : decode cX10_join 23 = .ok (.iload 5, 2) := dk_21 (by decide +kernel)
theorem dX10_join_25 : decode cX10_join 25 = .ok (.iadd, 1) := dk_96 (by decide +kernel)
theorem dX10_join_26 : decode cX10_join 26 = .ok (.istore 6, 2) := dk_54 (by decide +kernel)
theorem dX10_join_28 : decode cX10_join 28 = .ok (.iload 6, 2) := dk_21 (by decide +kernel)
theorem dX10_join_30 : decode cX10_join 30 = .ok (.bipush 9, 2) := dk_16 (by decide +kernel)
theorem dX10_join_32 : decode cX10_join 32 = .ok (.iadd, 1) := dk_96 (by decide +kernel)
theorem dX10_join_33 : decode cX10_join 33 = .ok (.istore 7, 2) := dk_54 (by decide +kernel)
theorem dX10_join_35 : decode cX10_join 35 = .ok (.aload_n 0, 1) := dk_42 (by decide +kernel)
theorem dX10_join_36 : decode cX10_join 36 = .ok (.getfield 36, 3) := dk_180 (by decide +kernel)
theorem dX10_join_39 : decode cX10_join 39 = .ok (.iload 7, 2) := dk_21 (by decide +kernel)
theorem dX10_join_41 : decode cX10_join 41 = .ok (.laload, 1) := dk_47 (by decide +kernel)
theorem dX10_join_42 : decode cX10_join 42 = .ok (.lconst 0, 1) := dk_9 (by decide +kernel)
theorem dX10_join_43 : decode cX10_join 43 = .ok (.lcmp, 1) := dk_148 (by decide +kernel)
theorem dX10_join_44 : decode cX10_join 44 = .ok (.ifCond .eq 70, 3) := dk_153 (by decide +kernel)
theorem dX10_join_47 : decode cX10_join 47 = .ok (.aload_n 0, 1) := dk_42 (by decide +kernel)
theorem dX10_join_48 : decode cX10_join 48 = .ok (.getfield 36, 3) := dk_180 (by decide +kernel)
theorem dX10_join_51 : decode cX10_join 51 = .ok (.iload 7, 2) := dk_21 (by decide +kernel)
theorem dX10_join_53 : decode cX10_join 53 = .ok (.laload, 1) := dk_47 (by decide +kernel)
theorem dX10_join_54 : decode cX10_join 54 = .ok (.aload_n 0, 1) := dk_42 (by decide +kernel)
theorem dX10_join_55 : decode cX10_join 55 = .ok (.getfield 39, 3) := dk_180 (by decide +kernel)
theorem dX10_join_58 : decode cX10_join 58 = .ok (.iload 6, 2) := dk_21 (by decide +kernel)
theorem dX10_join_60 : decode cX10_join 60 = .ok (.laload, 1) := dk_47 (by decide +kernel)
theorem dX10_join_61 : decode cX10_join 61 = .ok (.lmul, 1) := dk_105 (by decide +kernel)
theorem dX10_join_62 : decode cX10_join 62 = .ok (.lstore 8, 2) := dk_55 (by decide +kernel)
theorem dX10_join_64 : decode cX10_join 64 = .ok (.aload_n 0, 1) := dk_42 (by decide +kernel)
theorem dX10_join_65 : decode cX10_join 65 = .ok (.iload 6, 2) := dk_21 (by decide +kernel)
theorem dX10_join_67 : decode cX10_join 67 = .ok (.aload_n 0, 1) := dk_42 (by decide +kernel)
theorem dX10_join_68 : decode cX10_join 68 = .ok (.getfield 36, 3) := dk_180 (by decide +kernel)
theorem dX10_join_71 : decode cX10_join 71 = .ok (.iload 6, 2) := dk_21 (by decide +kernel)
theorem dX10_join_73 : decode cX10_join 73 = .ok (.laload, 1) := dk_47 (by decide +kernel)
theorem dX10_join_74 : decode cX10_join 74 = .ok (.aload_n 0, 1) := dk_42 (by decide +kernel)
theorem dX10_join_75 : decode cX10_join 75 = .ok (.getfield 39, 3) := dk_180 (by decide +kernel)
theorem dX10_join_78 : decode cX10_join 78 = .ok (.iload 7, 2) := dk_21 (by decide +kernel)
theorem dX10_join_80 : decode cX10_join 80 = .ok (.laload, 1) := dk_47 (by decide +kernel)
theorem dX10_join_81 : decode cX10_join 81 = .ok (.lmul, 1) := dk_105 (by decide +kernel)
theorem dX10_join_82 : decode cX10_join 82 = .ok (.iload_n 2, 1) := dk_28 (by decide +kernel)
theorem dX10_join_83 : decode cX10_join 83 = .ok (.ifCond .eq 9, 3) := dk_153 (by decide +kernel)
theorem dX10_join_86 : decode cX10_join 86 = .ok (.lload 8, 2) := dk_22 (by decide +kernel)
theorem dX10_join_88 : decode cX10_join 88 = .ok (.lneg, 1) := dk_117 (by decide +kernel)
theorem dX10_join_89 : decode cX10_join 89 = .ok (.goto 5, 3) := dk_167 (by decide +kernel)
theorem dX10_join_92 : decode cX10_join 92 = .ok (.lload 8, 2) := dk_22 (by decide +kernel)
theorem dX10_join_94 : decode cX10_join 94 = .ok (.ladd, 1) := dk_97 (by decide +kernel)
theorem dX10_join_95 : decode cX10_join 95 = .ok (.aload_n 0, 1) := dk_42 (by decide +kernel)
theorem dX10_join_96 : decode cX10_join 96 = .ok (.getfield 39, 3) := dk_180 (by decide +kernel)
theorem dX10_join_99 : decode cX10_join 99 = .ok (.iload 6, 2) := dk_21 (by decide +kernel)
theorem dX10_join_101 : decode cX10_join 101 = .ok (.laload, 1) := dk_47 (by decide +kernel)
theorem dX10_join_102 : decode cX10_join 102 = .ok (.aload_n 0, 1) := dk_42 (by decide +kernel)
theorem dX10_join_103 : decode cX10_join 103 = .ok (.getfield 39, 3) := dk_180 (by decide +kernel)
theorem dX10_join_106 : decode cX10_join 106 = .ok (.iload 7, 2) := dk_21 (by decide +kernel)
theorem dX10_join_108 : decode cX10_join 108 = .ok (.laload, 1) := dk_47 (by decide +kernel)
theorem dX10_join_109 : decode cX10_join 109 = .ok (.lmul, 1) := dk_105 (by decide +kernel)
theorem dX10_join_110 : decode cX10_join 110 = .ok (.iload_n 3, 1) := dk_29 (by decide +kernel)
theorem dX10_join_111 : decode cX10_join 111 = .ok (.invokevirtual 203, 3) := dk_182 (by decide +kernel)
theorem dX10_join_114 : decode cX10_join 114 = .ok (.iinc 5 1, 3) := dk_132 (by decide +kernel)
theorem dX10_join_117 : decode cX10_join 117 = .ok (.goto (-108), 3) := dk_167 (by decide +kernel)
theorem dX10_join_120 : decode cX10_join 120 = .ok (.return_, 1) := dk_177 (by decide +kernel)
def wsMX10_join : List Cond := .code yX10_join cX10_join 10 none :: ([.fieldLink RX10 51 "OptimaWorks$Worker" "model" "LOptimaWorks$Model;", .fieldLink RX10 93 "OptimaWorks$Model" "variables" "I", .fieldLink RX10 36 "OptimaWorks$Worker" "over" "[J", .fieldLink RX10 39 "OptimaWorks$Worker" "under" "[J"] ++ wsX10 ++ wsX100 ++ (wsV RX10 203 RX10 yX10_setFraction wsMX10_setFraction))
theorem iwsMX10_join_in1 : ∀ w ∈ wsX10, w ∈ wsMX10_join := fun _ h => List.mem_cons_of_mem _ (List.mem_append_left _ (List.mem_append_left _ (List.mem_append_right _ h)))
theorem iwsMX10_join_in10 : ∀ w ∈ wsX100, w ∈ wsMX10_join := fun _ h => List.mem_cons_of_mem _ (List.mem_append_left _ (List.mem_append_right _ h))
theorem gwsMX10_join_0 : GoodIn wsMX10_join (wsV RX10 203 RX10 yX10_setFraction wsMX10_setFraction) := goodIn_sub (fun _ h => List.mem_cons_of_mem _ (List.mem_append_right _ h)) (gdV (by decide +kernel) gdwsMX10_setFraction)
theorem gdwsMX10_join : wsMX10_join.all goodWord = true := gdC rfl (gdA (gdA (gdA (by decide +kernel : ([.fieldLink RX10 51 "OptimaWorks$Worker" "model" "LOptimaWorks$Model;", .fieldLink RX10 93 "OptimaWorks$Model" "variables" "I", .fieldLink RX10 36 "OptimaWorks$Worker" "over" "[J", .fieldLink RX10 39 "OptimaWorks$Worker" "under" "[J"] : List Cond).all goodWord = true) gdwsX10) gdwsX100) (gdV (by decide +kernel) gdwsMX10_setFraction))
theorem hm_m_X10_join_0 : (.fieldLink RX10 36 "OptimaWorks$Worker" "over" "[J" : Cond) ∈ wsMX10_join := by decide +kernel
theorem hm_m_X10_join_1 : (.fieldLink RX10 39 "OptimaWorks$Worker" "under" "[J" : Cond) ∈ wsMX10_join := by decide +kernel
set_option maxHeartbeats 4000000 in
set_option maxRecDepth 100000 in
/-- a value is added -/
theorem m_X10_join (l : Launch) (hst : l.stackTraces = false) (dC : Nat → ClassId) (dI : Nat → Nat → Nat) (hL : Nat → Nat) (aL : Nat → Nat) (kL : Nat → ClassId) (hT : Nat → Nat) (hM : Nat → Nat) (xL_tree : Value) (iL_names : Int32) (gL_key : Nat → Int64) (fL_kind : Nat → Int32) (fL_one : Nat → Int32) (fL_two : Nat → Int32) (fL_base : Nat → Int32) (iL_params : Int32) (fL_paramOver : Nat → Int32) (dL_paramOver : Nat) (nL_params : Nat) (fL_paramUnder : Nat → Int32) (dL_paramUnder : Nat) (nL_pu : Nat) (gL_over : Nat → Int64) (gL_under : Nat → Int64) (fL_bound : Nat → Int32) (iL_nameAt : Int32) (iL_startAt : Int32) (iL_steps : Int32) (jL_scaleOver : Int64) (jL_scaleUnder : Int64) (aT : Nat → Nat) (kT : Nat → ClassId) (fT_tape : Nat → Int32) (dT_tape : Nat) (nT_tape : Nat) (iT_length : Int32) (iT_fault : Int32) (iT_place : Int32) (iT_kind : Int32) (iT_at : Int32) (iT_number : Int32) (jT_name : Int64) (iT_next : Int32) (aM : Nat → Nat) (kM : Nat → ClassId) (iM_stands : Int32) (iM_variables : Int32) (iM_rows : Int32) (iM_goals : Int32) (iM_differents : Int32) (iM_cases : Int32) (fM_from : Nat → Int32) (fM_to : Nat → Int32) (fM_whole : Nat → Int32) (fM_ways : Nat → Int32) (iM_plainRows : Int32) (fM_plainRow : Nat → Int32) (fM_kept : Nat → Int32) (fM_goalOver : Nat → Int32) (fM_goalUnder : Nat → Int32) (fM_goalMax : Nat → Int32) (fM_different : Nat → Int32) (p1 : Int32) (p2 : Int32) (p3 : Int32) (b_iL_names : 0 ≤ iL_names.toInt ∧ iL_names.toInt ≤ 40) (b_fL_kind : ∀ q : Nat, 0 ≤ (fL_kind q).toInt ∧ (fL_kind q).toInt ≤ 5) (b_fL_two : ∀ q : Nat, (-1) ≤ (fL_two q).toInt ∧ (fL_two q).toInt ≤ 39) (b_fL_base : ∀ q : Nat, 0 ≤ (fL_base q).toInt ∧ (fL_base q).toInt ≤ 2560) (b_iL_params : 0 ≤ iL_params.toInt ∧ iL_params.toInt ≤ 2560) (b_nL_params : 0 ≤ nL_params ∧ nL_params ≤ 2560) (b_nm : NmL iL_names fL_kind fL_one fL_two fL_base nL_params) (b_pm : iL_params.toInt ≤ ((nL_params : Nat) : Int)) (b_pu : nL_pu = nL_params) (b_fT_tape : ∀ q : Nat, (-128) ≤ (fT_tape q).toInt ∧ (fT_tape q).toInt ≤ 127) (b_nT_tape : 64 ≤ nT_tape ∧ nT_tape ≤ 2560) (b_iT_length : 0 ≤ iT_length.toInt ∧ iT_length.toInt ≤ 1280) (b_iT_at : 0 ≤ iT_at.toInt ∧ iT_at.toInt ≤ 1282) (b_iT_number : 0 ≤ iT_number.toInt ∧ iT_number.toInt ≤ 999999) (b_iT_next : 0 ≤ iT_next.toInt ∧ iT_next.toInt ≤ 1282) (b_len : iT_length.toInt ≤ ((nT_tape : Nat) : Int)) (b_iM_stands : 0 ≤ iM_stands.toInt ∧ iM_stands.toInt ≤ 1) (b_iM_variables : 0 ≤ iM_variables.toInt ∧ iM_variables.toInt ≤ 8) (b_iM_rows : 0 ≤ iM_rows.toInt ∧ iM_rows.toInt ≤ 12) (b_iM_goals : 0 ≤ iM_goals.toInt ∧ iM_goals.toInt ≤ 3) (b_iM_differents : 0 ≤ iM_differents.toInt ∧ iM_differents.toInt ≤ 8) (b_iM_cases : 0 ≤ iM_cases.toInt ∧ iM_cases.toInt ≤ 200000) (b_fM_ways : ∀ q : Nat, 0 ≤ (fM_ways q).toInt ∧ (fM_ways q).toInt ≤ 3) (b_iM_plainRows : 0 ≤ iM_plainRows.toInt ∧ iM_plainRows.toInt ≤ 12) (b_fM_plainRow : ∀ q : Nat, 0 ≤ (fM_plainRow q).toInt ∧ (fM_plainRow q).toInt ≤ 11) (b_pr : iM_plainRows.toInt ≤ iM_rows.toInt) (b_p1 : 0 ≤ p1.toInt ∧ p1.toInt ≤ 38) (sz : Nat) : vx_Met l yX10_join wsMX10_join ({ frames := 8, cells := 1, slots := 6, locals := 135 }) (va_Pc [.ref (hL 0), .int p1, .int p2, .int p3] (fun U => U.heap.size = sz ∧ va_P (dC, dI) vwCl (WL hL aL kL hT hM xL_tree iL_names gL_key fL_kind fL_one fL_two fL_base iL_params fL_paramOver dL_paramOver nL_params fL_paramUnder dL_paramUnder nL_pu gL_over gL_under fL_bound iL_nameAt iL_startAt iL_steps jL_scaleOver jL_scaleUnder ++ (WT hT aT kT fT_tape dT_tape nT_tape iT_length iT_fault iT_place iT_kind iT_at iT_number jT_name iT_next ++ (WM hM aM kM iM_stands iM_variables iM_rows iM_goals iM_differents iM_cases fM_from fM_to fM_whole fM_ways iM_plainRows fM_plainRow fM_kept fM_goalOver fM_goalUnder fM_goalMax fM_different))) U.heap ∧ va_K (dC, dI) vwCl (tL kL ++ (tT kT ++ (tM kM))) U ∧ va_D (fun _ => True) (WL hL aL kL hT hM xL_tree iL_names gL_key fL_kind fL_one fL_two fL_base iL_params fL_paramOver dL_paramOver nL_params fL_paramUnder dL_paramUnder nL_pu gL_over gL_under fL_bound iL_nameAt iL_startAt iL_steps jL_scaleOver jL_scaleUnder ++ (WT hT aT kT fT_tape dT_tape nT_tape iT_length iT_fault iT_place iT_kind iT_at iT_number jT_name iT_next ++ (WM hM aM kM iM_stands iM_variables iM_rows iM_goals iM_differents iM_cases fM_from fM_to fM_whole fM_ways iM_plainRows fM_plainRow fM_kept fM_goalOver fM_goalUnder fM_goalMax fM_different))) ∧ CE (va_A (WL hL aL kL hT hM xL_tree iL_names gL_key fL_kind fL_one fL_two fL_base iL_params fL_paramOver dL_paramOver nL_params fL_paramUnder dL_paramUnder nL_pu gL_over gL_under fL_bound iL_nameAt iL_startAt iL_steps jL_scaleOver jL_scaleUnder ++ (WT hT aT kT fT_tape dT_tape nT_tape iT_length iT_fault iT_place iT_kind iT_at iT_number jT_name iT_next ++ (WM hM aM kM iM_stands iM_variables iM_rows iM_goals iM_differents iM_cases fM_from fM_to fM_whole fM_ways iM_plainRows fM_plainRow fM_kept fM_goalOver fM_goalUnder fM_goalMax fM_different))) sz) U U.heap)) (va_Qv (fun (u : (Nat → Int64) × (Nat → Int64) × (Int32) × (Int32)) => True) (fun (u : (Nat → Int64) × (Nat → Int64) × (Int32) × (Int32)) t => va_P (dC, dI) vwCl (WL hL aL kL hT hM xL_tree iL_names gL_key fL_kind fL_one fL_two fL_base iL_params fL_paramOver dL_paramOver nL_params fL_paramUnder dL_paramUnder nL_pu (u.1) (u.2.1) fL_bound iL_nameAt iL_startAt iL_steps jL_scaleOver jL_scaleUnder ++ (WT hT aT kT fT_tape dT_tape nT_tape iT_length (u.2.2.1) (u.2.2.2) iT_kind iT_at iT_number jT_name iT_next ++ (WM hM aM kM iM_stands iM_variables iM_rows iM_goals iM_differents iM_cases fM_from fM_to fM_whole fM_ways iM_plainRows fM_plainRow fM_kept fM_goalOver fM_goalUnder fM_goalMax fM_different))) t.heap ∧ va_D (va_A (WL hL aL kL hT hM xL_tree iL_names gL_key fL_kind fL_one fL_two fL_base iL_params fL_paramOver dL_paramOver nL_params fL_paramUnder dL_paramUnder nL_pu gL_over gL_under fL_bound iL_nameAt iL_startAt iL_steps jL_scaleOver jL_scaleUnder ++ (WT hT aT kT fT_tape dT_tape nT_tape iT_length iT_fault iT_place iT_kind iT_at iT_number jT_name iT_next ++ (WM hM aM kM iM_stands iM_variables iM_rows iM_goals iM_differents iM_cases fM_from fM_to fM_whole fM_ways iM_plainRows fM_plainRow fM_kept fM_goalOver fM_goalUnder fM_goalMax fM_different))) sz) (WL hL aL kL hT hM xL_tree iL_names gL_key fL_kind fL_one fL_two fL_base iL_params fL_paramOver dL_paramOver nL_params fL_paramUnder dL_paramUnder nL_pu (u.1) (u.2.1) fL_bound iL_nameAt iL_startAt iL_steps jL_scaleOver jL_scaleUnder ++ (WT hT aT kT fT_tape dT_tape nT_tape iT_length (u.2.2.1) (u.2.2.2) iT_kind iT_at iT_number jT_name iT_next ++ (WM hM aM kM iM_stands iM_variables iM_rows iM_goals iM_differents iM_cases fM_from fM_to fM_whole fM_ways iM_plainRows fM_plainRow fM_kept fM_goalOver fM_goalUnder fM_goalMax fM_different))) ∧ t.heap.size = sz) (va_A (WL hL aL kL hT hM xL_tree iL_names gL_key fL_kind fL_one fL_two fL_base iL_params fL_paramOver dL_paramOver nL_params fL_paramUnder dL_paramUnder nL_pu gL_over gL_under fL_bound iL_nameAt iL_startAt iL_steps jL_scaleOver jL_scaleUnder ++ (WT hT aT kT fT_tape dT_tape nT_tape iT_length iT_fault iT_place iT_kind iT_at iT_number jT_name iT_next ++ (WM hM aM kM iM_stands iM_variables iM_rows iM_goals iM_differents iM_cases fM_from fM_to fM_whole fM_ways iM_plainRows fM_plainRow fM_kept fM_goalOver fM_goalUnder fM_goalMax fM_different))) sz)) (vx_X (fun (u : (Nat → Int64) × (Nat → Int64) × (Int32) × (Int32)) => True) (fun E (u : (Nat → Int64) × (Nat → Int64) × (Int32) × (Int32)) t => (E = "java/lang/IllegalArgumentException") ∧ va_P (dC, dI) vwCl (WL hL aL kL hT hM xL_tree iL_names gL_key fL_kind fL_one fL_two fL_base iL_params fL_paramOver dL_paramOver nL_params fL_paramUnder dL_paramUnder nL_pu (u.1) (u.2.1) fL_bound iL_nameAt iL_startAt iL_steps jL_scaleOver jL_scaleUnder ++ (WT hT aT kT fT_tape dT_tape nT_tape iT_length (u.2.2.1) (u.2.2.2) iT_kind iT_at iT_number jT_name iT_next ++ (WM hM aM kM iM_stands iM_variables iM_rows iM_goals iM_differents iM_cases fM_from fM_to fM_whole fM_ways iM_plainRows fM_plainRow fM_kept fM_goalOver fM_goalUnder fM_goalMax fM_different))) t.heap ∧ va_D (va_A (WL hL aL kL hT hM xL_tree iL_names gL_key fL_kind fL_one fL_two fL_base iL_params fL_paramOver dL_paramOver nL_params fL_paramUnder dL_paramUnder nL_pu gL_over gL_under fL_bound iL_nameAt iL_startAt iL_steps jL_scaleOver jL_scaleUnder ++ (WT hT aT kT fT_tape dT_tape nT_tape iT_length iT_fault iT_place iT_kind iT_at iT_number jT_name iT_next ++ (WM hM aM kM iM_stands iM_variables iM_rows iM_goals iM_differents iM_cases fM_from fM_to fM_whole fM_ways iM_plainRows fM_plainRow fM_kept fM_goalOver fM_goalUnder fM_goalMax fM_different))) sz) (WL hL aL kL hT hM xL_tree iL_names gL_key fL_kind fL_one fL_two fL_base iL_params fL_paramOver dL_paramOver nL_params fL_paramUnder dL_paramUnder nL_pu (u.1) (u.2.1) fL_bound iL_nameAt iL_startAt iL_steps jL_scaleOver jL_scaleUnder ++ (WT hT aT kT fT_tape dT_tape nT_tape iT_length (u.2.2.1) (u.2.2.2) iT_kind iT_at iT_number jT_name iT_next ++ (WM hM aM kM iM_stands iM_variables iM_rows iM_goals iM_differents iM_cases fM_from fM_to fM_whole fM_ways iM_plainRows fM_plainRow fM_kept fM_goalOver fM_goalUnder fM_goalMax fM_different)))) (va_A (WL hL aL kL hT hM xL_tree iL_names gL_key fL_kind fL_one fL_two fL_base iL_params fL_paramOver dL_paramOver nL_params fL_paramUnder dL_paramUnder nL_pu gL_over gL_under fL_bound iL_nameAt iL_startAt iL_steps jL_scaleOver jL_scaleUnder ++ (WT hT aT kT fT_tape dT_tape nT_tape iT_length iT_fault iT_place iT_kind iT_at iT_number jT_name iT_next ++ (WM hM aM kM iM_stands iM_variables iM_rows iM_goals iM_differents iM_cases fM_from fM_to fM_whole fM_ways iM_plainRows fM_plainRow fM_kept fM_goalOver fM_goalUnder fM_goalMax fM_different))) sz)) 1 6 (va_A (WL hL aL kL hT hM xL_tree iL_names gL_key fL_kind fL_one fL_two fL_base iL_params fL_paramOver dL_paramOver nL_params fL_paramUnder dL_paramUnder nL_pu gL_over gL_under fL_bound iL_nameAt iL_startAt iL_steps jL_scaleOver jL_scaleUnder ++ (WT hT aT kT fT_tape dT_tape nT_tape iT_length iT_fault iT_place iT_kind iT_at iT_number jT_name iT_next ++ (WM hM aM kM iM_stands iM_variables iM_rows iM_goals iM_differents iM_cases fM_from fM_to fM_whole fM_ways iM_plainRows fM_plainRow fM_kept fM_goalOver fM_goalUnder fM_goalMax fM_different))) sz) := by
  refine vx_ofW (cc := cX10_join) (maxL := 10) (ret := none) (by decide) rfl ?_
  intro p e s m args below meth c s₁ B hml htab hv
  obtain ⟨rfl, hsz, hP, hK, hD0, hE⟩ := hv
  have hx := B.exec
  have hb := B.bytes
  have hr := B.returns
  have hts := atoms_spec (ws := wsMX10_join) B.pre
  have hown : s.vm.findClass RX10 = some m.cls := findClass_of_methodNamed B.named
  have hlocks := B.notSynchronized
  subst hsz
  have hD := hD0.self (sz := s.heap.size)
  generalize hAe : va_A (WL hL aL kL hT hM xL_tree iL_names gL_key fL_kind fL_one fL_two fL_base iL_params fL_paramOver dL_paramOver nL_params fL_paramUnder dL_paramUnder nL_pu gL_over gL_under fL_bound iL_nameAt iL_startAt iL_steps jL_scaleOver jL_scaleUnder ++ (WT hT aT kT fT_tape dT_tape nT_tape iT_length iT_fault iT_place iT_kind iT_at iT_number jT_name iT_next ++ (WM hM aM kM iM_stands iM_variables iM_rows iM_goals iM_differents iM_cases fM_from fM_to fM_whole fM_ways iM_plainRows fM_plainRow fM_kept fM_goalOver fM_goalUnder fM_goalMax fM_different))) s.heap.size = A at hD hE ⊢
  have hA : ∀ q : Nat, s.heap.size ≤ q → A q := fun q h => by rw [← hAe]; exact Or.inr h
  have hS : va_S A s.heap s.heap [] := va_S.rf
  have hl := lv_entry ([.ref (hL 0), .int p1, .int p2, .int p3]) (n := 10) (Nat.le_of_ble_eq_true rfl)
  rw [lg_entry_eq]
  generalize (lg_sl ([.ref (hL 0), .int p1, .int p2, .int p3]) ++ List.replicate (10 - (lg_sl ([.ref (hL 0), .int p1, .int p2, .int p3])).length) Slot.unset).toArray = ls at hl ⊢
  have hl : lv_has ls 10 [(0, .ref (hL 0)), (1, .int p1), (2, .int p2), (3, .int p3)] := hl
  refine lv_iload_n hx hb dX10_join_0 rfl (lv_at hl 1 rfl) ?_
  refine lv_bipush (v := 9) hx hb dX10_join_1 (by decide) ?_
  refine lv_imul hx hb dX10_join_3 ?_
  refine lv_topi (fun y1 hy1 => ?_)
  obtain rfl : (iI (p1.toInt * 9)) = y1 := (hy1.trans (iI_mul2 (iI_of _) (by decide : (9 : Int32) = iI 9))).symm
  refine lv_istore hx hb dX10_join_4 hl (by decide) rfl (fun ls (hl : lv_has ls _ ([(4, .int (iI (p1.toInt * 9))), (0, .ref (hL 0)), (1, .int p1), (2, .int p2), (3, .int p3)])) => ?_)
  refine lv_iconst (v := 0) hx hb dX10_join_6 (by decide) ?_
  refine lv_istore hx hb dX10_join_7 hl (by decide) rfl (fun ls (hl : lv_has ls _ ([(5, .int 0), (4, .int (iI (p1.toInt * 9))), (0, .ref (hL 0)), (1, .int p1), (2, .int p2), (3, .int p3)])) => ?_)
  have hl : lv_has _ _ ([(5, .int 0), (4, .int (iI (p1.toInt * 9))), (0, .ref (hL 0)), (1, .int p1), (2, .int p2), (3, .int p3)]) := lv_sub hl [0, 1, 2, 3, 4, 5] rfl
  refine (fun (loop : ∀ (n9 : Nat) (gL_over_x9 : Nat → Int64) (gL_under_x9 : Nat → Int64) (iT_fault_x9 : Int32) (iT_place_x9 : Int32) (l5_x9 : Int32) (H : Heap) (locs : List Loc) (ls : Array Slot), (0 ≤ l5_x9.toInt ∧ l5_x9.toInt ≤ 9) → (9 - l5_x9.toInt < ((n9 : Nat) : Int)) → va_P (dC, dI) vwCl (WL hL aL kL hT hM xL_tree iL_names gL_key fL_kind fL_one fL_two fL_base iL_params fL_paramOver dL_paramOver nL_params fL_paramUnder dL_paramUnder nL_pu gL_over_x9 gL_under_x9 fL_bound iL_nameAt iL_startAt iL_steps jL_scaleOver jL_scaleUnder ++ (WT hT aT kT fT_tape dT_tape nT_tape iT_length iT_fault_x9 iT_place_x9 iT_kind iT_at iT_number jT_name iT_next ++ (WM hM aM kM iM_stands iM_variables iM_rows iM_goals iM_differents iM_cases fM_from fM_to fM_whole fM_ways iM_plainRows fM_plainRow fM_kept fM_goalOver fM_goalUnder fM_goalMax fM_different))) H → va_D A (WL hL aL kL hT hM xL_tree iL_names gL_key fL_kind fL_one fL_two fL_base iL_params fL_paramOver dL_paramOver nL_params fL_paramUnder dL_paramUnder nL_pu gL_over_x9 gL_under_x9 fL_bound iL_nameAt iL_startAt iL_steps jL_scaleOver jL_scaleUnder ++ (WT hT aT kT fT_tape dT_tape nT_tape iT_length iT_fault_x9 iT_place_x9 iT_kind iT_at iT_number jT_name iT_next ++ (WM hM aM kM iM_stands iM_variables iM_rows iM_goals iM_differents iM_cases fM_from fM_to fM_whole fM_ways iM_plainRows fM_plainRow fM_kept fM_goalOver fM_goalUnder fM_goalMax fM_different))) → va_S A s.heap H locs → lv_has ls 10 [(5, .int l5_x9), (4, .int (iI (p1.toInt * 9))), (0, .ref (hL 0)), (1, .int p1), (2, .int p2), (3, .int p3)] → W p l e _ s m _ below meth c H locs 0 0 _ (F0 m 9 ls [])) => loop (10) gL_over gL_under iT_fault iT_place 0 _ _ _ (show 0 ≤ (0 : Int32).toInt ∧ (0 : Int32).toInt ≤ 9 from by decide) ((by have e9 : (0 : Int32).toInt = 0 := (by decide : (0 : Int32).toInt = 0); omega)) hP hD hS hl) ?_
  intro n9
  induction n9 with
  | zero => intro gL_over_x9 gL_under_x9 iT_fault_x9 iT_place_x9 l5_x9 H locs ls b_l5_x9 hf9; exact False.elim (by omega)
  | succ n9 ihx9 =>
    intro gL_over_x9 gL_under_x9 iT_fault_x9 iT_place_x9 l5_x9 H locs ls b_l5_x9 hfx9 hP hD hS hl
    refine lv_iload hx hb dX10_join_9 (lv_at hl 0 rfl) ?_
    refine lv_aload_n hx hb dX10_join_11 rfl (lv_at hl 2 rfl) ?_
    refine va_get (D := (dC, dI)) (ci := 10) (v := .ref (hM 0)) (C := RX10) (T := TX10) (N := 20) hx hb hts iwsMX10_join_in10 hown hK hP 0 rfl rfl 1 (by decide) (hts (.fieldLink RX10 51 "OptimaWorks$Worker" "model" "LOptimaWorks$Model;") (by decide +kernel)) (fun _ h9 => h9) rfl dX10_join_12 ?_
    refine va_get (D := (dC, dI)) (ci := 1) (v := .int iM_variables) (C := RX1) (T := TX1) (N := 17) hx hb hts iwsMX10_join_in1 hown hK hP 13 rfl rfl 1 (by decide) (hts (.fieldLink RX10 93 "OptimaWorks$Model" "variables" "I") (by decide +kernel)) (fun _ h9 => h9) rfl dX10_join_15 ?_
    refine lv_icmp_gt (tgt := 120) hx hb dX10_join_18 (by decide) (fun c_18 => ?_) (fun c_18 => ?_)
    · have t_18 : l5_x9.toInt > iM_variables.toInt := toI_gt c_18 rfl rfl
      refine vx_ret ?_
      refine W.known (fun hz9 _ => ?_)
      refine W.widen (k := 1) (n := 6) (by decide +kernel) (by decide +kernel) ?_
      exact W.vret hx hb hr (fun t9_ ht hW => ⟨⟨(gL_over_x9, gL_under_x9, iT_fault_x9, iT_place_x9), rfl, trivial, by rw [ht]; exact hP, hD, by rw [ht]; first | done | exact Nat.le_antisymm hz9 hS.1⟩, hS.F ht⟩) hS.2.2 dX10_join_120
    · have t_18 : ¬ l5_x9.toInt > iM_variables.toInt := toI_ngt c_18 rfl rfl
      refine lv_iload hx hb dX10_join_21 (lv_at hl 1 rfl) ?_
      refine lv_iload hx hb dX10_join_23 (lv_at hl 0 rfl) ?_
      refine lv_iadd hx hb dX10_join_25 ?_
      refine lv_topi (fun y147 hy147 => ?_)
      obtain rfl : (iI ((p1.toInt * 9) + l5_x9.toInt)) = y147 := (hy147.trans (iI_add2 rfl (iI_of _))).symm
      refine lv_istore hx hb dX10_join_26 hl (by decide) rfl (fun ls (hl : lv_has ls _ ([(6, .int (iI ((p1.toInt * 9) + l5_x9.toInt))), (5, .int l5_x9), (4, .int (iI (p1.toInt * 9))), (0, .ref (hL 0)), (1, .int p1), (2, .int p2), (3, .int p3)])) => ?_)
      refine lv_iload hx hb dX10_join_28 (lv_at hl 0 rfl) ?_
      refine lv_bipush (v := 9) hx hb dX10_join_30 (by decide) ?_
      refine lv_iadd hx hb dX10_join_32 ?_
      refine lv_topi (fun y148 hy148 => ?_)
      obtain rfl : (iI (((p1.toInt * 9) + l5_x9.toInt) + 9)) = y148 := (hy148.trans (iI_add2 rfl (by decide : (9 : Int32) = iI 9))).symm
      refine lv_istore hx hb dX10_join_33 hl (by decide) rfl (fun ls (hl : lv_has ls _ ([(7, .int (iI (((p1.toInt * 9) + l5_x9.toInt) + 9))), (6, .int (iI ((p1.toInt * 9) + l5_x9.toInt))), (5, .int l5_x9), (4, .int (iI (p1.toInt * 9))), (0, .ref (hL 0)), (1, .int p1), (2, .int p2), (3, .int p3)])) => ?_)
      refine lv_aload_n hx hb dX10_join_35 rfl (lv_at hl 4 rfl) ?_
      refine va_get (D := (dC, dI)) (ci := 10) (v := .ref (aL 7)) (C := RX10) (T := TX10) (N := 20) hx hb hts iwsMX10_join_in10 hown hK hP 0 rfl rfl 12 (by decide) (hts _ hm_m_X10_join_0) (fun _ h9 => h9) rfl dX10_join_36 ?_
      refine lv_iload hx hb dX10_join_39 (lv_at hl 0 rfl) ?_
      refine va_lald (cA := kL 7) (n := 360) (f := gL_over_x9) hx hb hK hP 8 7 rfl rfl (vp_iI (Int.le_trans (by decide) (Int.add_le_add (Int.add_le_add (Int.mul_le_mul_of_nonneg_right (b_p1.1) (by decide)) (b_l5_x9.1)) (Int.le_refl _))) (by omega) (by decide)) dX10_join_41 ?_
      refine lv_topl (fun v149 hv149 => ?_)
      clear hv149
      refine lv_lconst (v := 0) hx hb dX10_join_42 (by decide) ?_
      refine W.lcmp hx hb dX10_join_43 ?_
      refine W.cut (pc := 114) (fun H locs ls stk => ∃ (gL_over_j35 : Nat → Int64) (gL_under_j35 : Nat → Int64) (iT_fault_j35 : Int32) (iT_place_j35 : Int32),  stk = [] ∧ va_P (dC, dI) vwCl (WL hL aL kL hT hM xL_tree iL_names gL_key fL_kind fL_one fL_two fL_base iL_params fL_paramOver dL_paramOver nL_params fL_paramUnder dL_paramUnder nL_pu gL_over_j35 gL_under_j35 fL_bound iL_nameAt iL_startAt iL_steps jL_scaleOver jL_scaleUnder ++ (WT hT aT kT fT_tape dT_tape nT_tape iT_length iT_fault_j35 iT_place_j35 iT_kind iT_at iT_number jT_name iT_next ++ (WM hM aM kM iM_stands iM_variables iM_rows iM_goals iM_differents iM_cases fM_from fM_to fM_whole fM_ways iM_plainRows fM_plainRow fM_kept fM_goalOver fM_goalUnder fM_goalMax fM_different))) H ∧ va_D A (WL hL aL kL hT hM xL_tree iL_names gL_key fL_kind fL_one fL_two fL_base iL_params fL_paramOver dL_paramOver nL_params fL_paramUnder dL_paramUnder nL_pu gL_over_j35 gL_under_j35 fL_bound iL_nameAt iL_startAt iL_steps jL_scaleOver jL_scaleUnder ++ (WT hT aT kT fT_tape dT_tape nT_tape iT_length iT_fault_j35 iT_place_j35 iT_kind iT_at iT_number jT_name iT_next ++ (WM hM aM kM iM_stands iM_variables iM_rows iM_goals iM_differents iM_cases fM_from fM_to fM_whole fM_ways iM_plainRows fM_plainRow fM_kept fM_goalOver fM_goalUnder fM_goalMax fM_different))) ∧ va_S A s.heap H locs ∧ lv_has ls 10 [(7, .int (iI (((p1.toInt * 9) + l5_x9.toInt) + 9))), (6, .int (iI ((p1.toInt * 9) + l5_x9.toInt))), (5, .int l5_x9), (4, .int (iI (p1.toInt * 9))), (0, .ref (hL 0)), (1, .int p1), (2, .int p2), (3, .int p3)]) (fun join35 => ?_) ?_
      · refine lv_if_eq (tgt := 114) hx hb dX10_join_44 (by decide) (fun c_44 => ?_) (fun c_44 => ?_)
        · have t_44 : v149.toInt = 0 := toL_eq c_44 rfl (by decide : (0 : Int64).toInt = 0)
          have hl : lv_has _ _ ([(7, .int (iI (((p1.toInt * 9) + l5_x9.toInt) + 9))), (6, .int (iI ((p1.toInt * 9) + l5_x9.toInt))), (5, .int l5_x9), (4, .int (iI (p1.toInt * 9))), (0, .ref (hL 0)), (1, .int p1), (2, .int p2), (3, .int p3)]) := lv_sub hl [0, 1, 2, 3, 4, 5, 6, 7] rfl
          exact join35 _ _ _ _ ⟨gL_over_x9, gL_under_x9, iT_fault_x9, iT_place_x9, rfl, hP, hD, hS, hl⟩
        · have t_44 : ¬ v149.toInt = 0 := toL_neq c_44 rfl (by decide : (0 : Int64).toInt = 0)
          refine lv_aload_n hx hb dX10_join_47 rfl (lv_at hl 4 rfl) ?_
          refine va_get (D := (dC, dI)) (ci := 10) (v := .ref (aL 7)) (C := RX10) (T := TX10) (N := 20) hx hb hts iwsMX10_join_in10 hown hK hP 0 rfl rfl 12 (by decide) (hts _ hm_m_X10_join_0) (fun _ h9 => h9) rfl dX10_join_48 ?_
          refine lv_iload hx hb dX10_join_51 (lv_at hl 0 rfl) ?_
          refine va_lald (cA := kL 7) (n := 360) (f := gL_over_x9) hx hb hK hP 8 7 rfl rfl (vp_iI (Int.le_trans (by decide) (Int.add_le_add (Int.add_le_add (Int.mul_le_mul_of_nonneg_right (b_p1.1) (by decide)) (b_l5_x9.1)) (Int.le_refl _))) (by omega) (by decide)) dX10_join_53 ?_
          refine lv_topl (fun v163 hv163 => ?_)
          clear hv163
          refine lv_aload_n hx hb dX10_join_54 rfl (lv_at hl 4 rfl) ?_
          refine va_get (D := (dC, dI)) (ci := 10) (v := .ref (aL 8)) (C := RX10) (T := TX10) (N := 20) hx hb hts iwsMX10_join_in10 hown hK hP 0 rfl rfl 13 (by decide) (hts _ hm_m_X10_join_1) (fun _ h9 => h9) rfl dX10_join_55 ?_
          refine lv_iload hx hb dX10_join_58 (lv_at hl 1 rfl) ?_
          refine va_lald (cA := kL 8) (n := 360) (f := gL_under_x9) hx hb hK hP 9 8 rfl rfl (vp_iI (Int.le_trans (by decide) (Int.add_le_add (Int.mul_le_mul_of_nonneg_right (b_p1.1) (by decide)) (b_l5_x9.1))) (Int.lt_of_le_of_lt (Int.add_le_add (Int.mul_le_mul_of_nonneg_right (b_p1.2) (by decide)) (b_l5_x9.2)) (by decide)) (by decide)) dX10_join_60 ?_
          refine lv_topl (fun v164 hv164 => ?_)
          clear hv164
          refine lv_lmul hx hb dX10_join_61 ?_
          refine lv_topl (fun v165 hv165 => ?_)
          clear hv165
          refine lv_lstore hx hb dX10_join_62 hl (by decide) rfl (fun ls (hl : lv_has ls _ ([(8, .long v165), (7, .int (iI (((p1.toInt * 9) + l5_x9.toInt) + 9))), (6, .int (iI ((p1.toInt * 9) + l5_x9.toInt))), (5, .int l5_x9), (4, .int (iI (p1.toInt * 9))), (0, .ref (hL 0)), (1, .int p1), (2, .int p2), (3, .int p3)])) => ?_)
          refine lv_aload_n hx hb dX10_join_64 rfl (lv_at hl 5 rfl) ?_
          refine lv_iload hx hb dX10_join_65 (lv_at hl 2 rfl) ?_
          refine lv_aload_n hx hb dX10_join_67 rfl (lv_at hl 5 rfl) ?_
          refine va_get (D := (dC, dI)) (ci := 10) (v := .ref (aL 7)) (C := RX10) (T := TX10) (N := 20) hx hb hts iwsMX10_join_in10 hown hK hP 0 rfl rfl 12 (by decide) (hts _ hm_m_X10_join_0) (fun _ h9 => h9) rfl dX10_join_68 ?_
          refine lv_iload hx hb dX10_join_71 (lv_at hl 2 rfl) ?_
          refine va_lald (cA := kL 7) (n := 360) (f := gL_over_x9) hx hb hK hP 8 7 rfl rfl (vp_iI (Int.le_trans (by decide) (Int.add_le_add (Int.mul_le_mul_of_nonneg_right (b_p1.1) (by decide)) (b_l5_x9.1))) (Int.lt_of_le_of_lt (Int.add_le_add (Int.mul_le_mul_of_nonneg_right (b_p1.2) (by decide)) (b_l5_x9.2)) (by decide)) (by decide)) dX10_join_73 ?_
          refine lv_topl (fun v166 hv166 => ?_)
          clear hv166
          refine lv_aload_n hx hb dX10_join_74 rfl (lv_at hl 5 rfl) ?_
          refine va_get (D := (dC, dI)) (ci := 10) (v := .ref (aL 8)) (C := RX10) (T := TX10) (N := 20) hx hb hts iwsMX10_join_in10 hown hK hP 0 rfl rfl 13 (by decide) (hts _ hm_m_X10_join_1) (fun _ h9 => h9) rfl dX10_join_75 ?_
          refine lv_iload hx hb dX10_join_78 (lv_at hl 1 rfl) ?_
          refine va_lald (cA := kL 8) (n := 360) (f := gL_under_x9) hx hb hK hP 9 8 rfl rfl (vp_iI (Int.le_trans (by decide) (Int.add_le_add (Int.add_le_add (Int.mul_le_mul_of_nonneg_right (b_p1.1) (by decide)) (b_l5_x9.1)) (Int.le_refl _))) (by omega) (by decide)) dX10_join_80 ?_
          refine lv_topl (fun v167 hv167 => ?_)
          clear hv167
          refine lv_lmul hx hb dX10_join_81 ?_
          refine lv_topl (fun v168 hv168 => ?_)
          clear hv168
          refine lv_iload_n hx hb dX10_join_82 rfl (lv_at hl 7 rfl) ?_
          refine W.cut (pc := 94) (fun H locs ls stk => ∃ (k0_j36 : Int64),  stk = [.long k0_j36, .long v168, .int (iI ((p1.toInt * 9) + l5_x9.toInt)), .ref (hL 0)] ∧ va_P (dC, dI) vwCl (WL hL aL kL hT hM xL_tree iL_names gL_key fL_kind fL_one fL_two fL_base iL_params fL_paramOver dL_paramOver nL_params fL_paramUnder dL_paramUnder nL_pu gL_over_x9 gL_under_x9 fL_bound iL_nameAt iL_startAt iL_steps jL_scaleOver jL_scaleUnder ++ (WT hT aT kT fT_tape dT_tape nT_tape iT_length iT_fault_x9 iT_place_x9 iT_kind iT_at iT_number jT_name iT_next ++ (WM hM aM kM iM_stands iM_variables iM_rows iM_goals iM_differents iM_cases fM_from fM_to fM_whole fM_ways iM_plainRows fM_plainRow fM_kept fM_goalOver fM_goalUnder fM_goalMax fM_different))) H ∧ va_D A (WL hL aL kL hT hM xL_tree iL_names gL_key fL_kind fL_one fL_two fL_base iL_params fL_paramOver dL_paramOver nL_params fL_paramUnder dL_paramUnder nL_pu gL_over_x9 gL_under_x9 fL_bound iL_nameAt iL_startAt iL_steps jL_scaleOver jL_scaleUnder ++ (WT hT aT kT fT_tape dT_tape nT_tape iT_length iT_fault_x9 iT_place_x9 iT_kind iT_at iT_number jT_name iT_next ++ (WM hM aM kM iM_stands iM_variables iM_rows iM_goals iM_differents iM_cases fM_from fM_to fM_whole fM_ways iM_plainRows fM_plainRow fM_kept fM_goalOver fM_goalUnder fM_goalMax fM_different))) ∧ va_S A s.heap H locs ∧ lv_has ls 10 [(8, .long v165), (7, .int (iI (((p1.toInt * 9) + l5_x9.toInt) + 9))), (6, .int (iI ((p1.toInt * 9) + l5_x9.toInt))), (5, .int l5_x9), (4, .int (iI (p1.toInt * 9))), (0, .ref (hL 0)), (1, .int p1), (2, .int p2), (3, .int p3)]) (fun join36 => ?_) ?_
          · refine lv_if_eq (tgt := 92) hx hb dX10_join_83 (by decide) (fun c_83 => ?_) (fun c_83 => ?_)
            · have t_83 : p2.toInt = 0 := toI_eq c_83 rfl (by decide : (0 : Int32).toInt = 0)
              refine lv_lload hx hb dX10_join_92 (lv_at hl 0 rfl) ?_
              have hl : lv_has _ _ ([(8, .long v165), (7, .int (iI (((p1.toInt * 9) + l5_x9.toInt) + 9))), (6, .int (iI ((p1.toInt * 9) + l5_x9.toInt))), (5, .int l5_x9), (4, .int (iI (p1.toInt * 9))), (0, .ref (hL 0)), (1, .int p1), (2, .int p2), (3, .int p3)]) := lv_sub hl [0, 1, 2, 3, 4, 5, 6, 7, 8] rfl
              exact join36 _ _ _ _ ⟨v165, rfl, hP, hD, hS, hl⟩
            · have t_83 : ¬ p2.toInt = 0 := toI_neq c_83 rfl (by decide : (0 : Int32).toInt = 0)
              refine lv_lload hx hb dX10_join_86 (lv_at hl 0 rfl) ?_
              refine lv_lneg hx hb dX10_join_88 ?_
              refine lv_topl (fun v170 hv170 => ?_)
              clear hv170
              refine lv_goto (tgt := 94) hx hb dX10_join_89 (by decide) ?_
              have hl : lv_has _ _ ([(8, .long v165), (7, .int (iI (((p1.toInt * 9) + l5_x9.toInt) + 9))), (6, .int (iI ((p1.toInt * 9) + l5_x9.toInt))), (5, .int l5_x9), (4, .int (iI (p1.toInt * 9))), (0, .ref (hL 0)), (1, .int p1), (2, .int p2), (3, .int p3)]) := lv_sub hl [0, 1, 2, 3, 4, 5, 6, 7, 8] rfl
              exact join36 _ _ _ _ ⟨v170, rfl, hP, hD, hS, hl⟩
          · rintro H locs ls stk ⟨k0_j36, rfl, hP, hD, hS, hl⟩
            refine lv_ladd hx hb dX10_join_94 ?_
            refine lv_topl (fun v171 hv171 => ?_)
            clear hv171
            refine lv_aload_n hx hb dX10_join_95 rfl (lv_at hl 5 rfl) ?_
            refine va_get (D := (dC, dI)) (ci := 10) (v := .ref (aL 8)) (C := RX10) (T := TX10) (N := 20) hx hb hts iwsMX10_join_in10 hown hK hP 0 rfl rfl 13 (by decide) (hts _ hm_m_X10_join_1) (fun _ h9 => h9) rfl dX10_join_96 ?_
            refine lv_iload hx hb dX10_join_99 (lv_at hl 2 rfl) ?_
            refine va_lald (cA := kL 8) (n := 360) (f := gL_under_x9) hx hb hK hP 9 8 rfl rfl (vp_iI (Int.le_trans (by decide) (Int.add_le_add (Int.mul_le_mul_of_nonneg_right (b_p1.1) (by decide)) (b_l5_x9.1))) (Int.lt_of_le_of_lt (Int.add_le_add (Int.mul_le_mul_of_nonneg_right (b_p1.2) (by decide)) (b_l5_x9.2)) (by decide)) (by decide)) dX10_join_101 ?_
            refine lv_topl (fun v172 hv172 => ?_)
            clear hv172
            refine lv_aload_n hx hb dX10_join_102 rfl (lv_at hl 5 rfl) ?_
            refine va_get (D := (dC, dI)) (ci := 10) (v := .ref (aL 8)) (C := RX10) (T := TX10) (N := 20) hx hb hts iwsMX10_join_in10 hown hK hP 0 rfl rfl 13 (by decide) (hts _ hm_m_X10_join_1) (fun _ h9 => h9) rfl dX10_join_103 ?_
            refine lv_iload hx hb dX10_join_106 (lv_at hl 1 rfl) ?_
            refine va_lald (cA := kL 8) (n := 360) (f := gL_under_x9) hx hb hK hP 9 8 rfl rfl (vp_iI (Int.le_trans (by decide) (Int.add_le_add (Int.add_le_add (Int.mul_le_mul_of_nonneg_right (b_p1.1) (by decide)) (b_l5_x9.1)) (Int.le_refl _))) (by omega) (by decide)) dX10_join_108 ?_
            refine lv_topl (fun v173 hv173 => ?_)
            clear hv173
            refine lv_lmul hx hb dX10_join_109 ?_
            refine lv_topl (fun v174 hv174 => ?_)
            clear hv174
            refine lv_iload_n hx hb dX10_join_110 rfl (lv_at hl 8 rfl) ?_
            refine W.known (fun hz0 _ => ?_)
            have p9 := cj_3_0_1 (WL hL aL kL hT hM xL_tree iL_names gL_key fL_kind fL_one fL_two fL_base iL_params fL_paramOver dL_paramOver nL_params fL_paramUnder dL_paramUnder nL_pu gL_over_x9 gL_under_x9 fL_bound iL_nameAt iL_startAt iL_steps jL_scaleOver jL_scaleUnder) (WT hT aT kT fT_tape dT_tape nT_tape iT_length iT_fault_x9 iT_place_x9 iT_kind iT_at iT_number jT_name iT_next) (WM hM aM kM iM_stands iM_variables iM_rows iM_goals iM_differents iM_cases fM_from fM_to fM_whole fM_ways iM_plainRows fM_plainRow fM_kept fM_goalOver fM_goalUnder fM_goalMax fM_different)
            have hPc := hP.mem (fun q h => p9.mem_iff.mpr (List.mem_append_left _ h))
            have hDc := (hD.perm p9).left
            have hKc : va_K (dC, dI) vwCl (tL kL ++ (tT kT)) _ := hK.sub [0, 1, 2, 3, 4, 5, 6, 7, 8, 9, 10] rfl
            have hFc := freeG p9 hD hS hA
            refine vx_callv (vx_runV (As := [.int (iI ((p1.toInt * 9) + l5_x9.toInt)), .long v171, .long v174, .int p3]) (rest := []) ⟨hx, hb, hml, hown, hts⟩ (m_X10_setFraction l hst dC dI hL aL kL hT hM xL_tree iL_names gL_key fL_kind fL_one fL_two fL_base iL_params fL_paramOver dL_paramOver nL_params fL_paramUnder dL_paramUnder nL_pu gL_over_x9 gL_under_x9 fL_bound iL_nameAt iL_startAt iL_steps jL_scaleOver jL_scaleUnder aT kT fT_tape dT_tape nT_tape iT_length iT_fault_x9 iT_place_x9 iT_kind iT_at iT_number jT_name iT_next (iI ((p1.toInt * 9) + l5_x9.toInt)) v171 v174 p3 (b_iL_names) b_fL_kind b_fL_two b_fL_base (b_iL_params) (by first | exact b_nL_params | with_reducible assumption | exact ⟨by omega, by omega⟩ | assumption) (by first | with_reducible assumption | omega | (rw [iI_t (by omega) (by omega)]; omega) | assumption) (by first | with_reducible assumption | omega | (rw [iI_t (by omega) (by omega)]; omega) | assumption) (by first | with_reducible assumption | omega | (rw [iI_t (by omega) (by omega)]; omega) | assumption) b_fT_tape (by first | exact b_nT_tape | with_reducible assumption | exact ⟨by omega, by omega⟩ | assumption) (b_iT_length) (b_iT_at) (b_iT_number) (b_iT_next) (by first | with_reducible assumption | omega | assumption) (iI_rng (Int.le_trans (by decide) (Int.add_le_add (Int.mul_le_mul_of_nonneg_right (b_p1.1) (by decide)) (b_l5_x9.1))) (Int.le_trans (Int.add_le_add (Int.mul_le_mul_of_nonneg_right (b_p1.2) (by decide)) (b_l5_x9.2)) (by decide)) (by decide) (by decide)) H.size) (cwV 4 hts gwsMX10_join_0 rfl rfl rfl hd_yX10_setFraction_RX10 (by decide +kernel)) (fz_preE (va_recv hK hP (ci := 10) (q0 := 0) rfl rfl) hPc hKc hDc (fun a U g mk qE => qE.call) (fun U hU9 hW => by rw [hU9]; exact (((hE : CE A s s.heap).kept hS.2.1).narrow (fun q h => hFc q h)).warm hW)) rfl rfl hl.1 rfl (lv_room (Nat.le_of_ble_eq_true rfl)) dX10_join_111 (by decide +kernel)) hS (fun q _ h => hFc q h) hFc (fun q _ h => hFc q h) (fun E ce q9 u t9_ H locs ht hvm hw9 hB9 hz1 hk1 hS hc1 hc2 hc3 => ?_) (fun u t9_ H locs ht hvm hw9 hB9 hz1 hk1 hS => ?_)
            · revert u hw9 hB9
              refine fz_p4 ?_
              intro gL_over_175 gL_under_175 iT_fault_175 iT_place_175 hw9 hB9
              try dsimp only at hw9 hB9
              revert hB9
              refine fz_a2 ?_
              intro hEx hB9
              clear hw9
              have p8 := cj_3_0_1 (WL hL aL kL hT hM xL_tree iL_names gL_key fL_kind fL_one fL_two fL_base iL_params fL_paramOver dL_paramOver nL_params fL_paramUnder dL_paramUnder nL_pu gL_over_175 gL_under_175 fL_bound iL_nameAt iL_startAt iL_steps jL_scaleOver jL_scaleUnder) (WT hT aT kT fT_tape dT_tape nT_tape iT_length iT_fault_175 iT_place_175 iT_kind iT_at iT_number jT_name iT_next) (WM hM aM kM iM_stands iM_variables iM_rows iM_goals iM_differents iM_cases fM_from fM_to fM_whole fM_ways iM_plainRows fM_plainRow fM_kept fM_goalOver fM_goalUnder fM_goalMax fM_different)
              obtain ⟨hP, hD⟩ := frameG p9 p8 hP hD hk1 hFc (fz_P ht hB9.1) hB9.2
              exact vx_out (fun x hx9 => (htab x hx9).elim) hlocks hc1 hc2 hc3 (fun t9_ ht hvm => ⟨(gL_over_175, gL_under_175, iT_fault_175, iT_place_175), trivial, ⟨(by have h9 := hEx; exact h9), by rw [ht]; exact hP, hD⟩, hS.F ht⟩) hS.2.2 (by decide +kernel) (by decide +kernel)
            revert u hw9 hB9
            refine fz_p4 ?_
            intro gL_over_175 gL_under_175 iT_fault_175 iT_place_175 hw9 hB9
            try dsimp only at hw9 hB9
            clear hw9
            have hz8 := hB9.2.2
            rw [ht] at hz8
            have hz9 : H.size ≤ s.heap.size + 0 := by rw [hz8]; exact hz0
            refine W.tight (cells2 := 0) (slots2 := 0) hz9 (nS_0 hz9) ?_
            clear hz8 hz9
            have p8 := cj_3_0_1 (WL hL aL kL hT hM xL_tree iL_names gL_key fL_kind fL_one fL_two fL_base iL_params fL_paramOver dL_paramOver nL_params fL_paramUnder dL_paramUnder nL_pu gL_over_175 gL_under_175 fL_bound iL_nameAt iL_startAt iL_steps jL_scaleOver jL_scaleUnder) (WT hT aT kT fT_tape dT_tape nT_tape iT_length iT_fault_175 iT_place_175 iT_kind iT_at iT_number jT_name iT_next) (WM hM aM kM iM_stands iM_variables iM_rows iM_goals iM_differents iM_cases fM_from fM_to fM_whole fM_ways iM_plainRows fM_plainRow fM_kept fM_goalOver fM_goalUnder fM_goalMax fM_different)
            obtain ⟨hP, hD⟩ := frameG p9 p8 hP hD hk1 hFc (fz_P ht hB9.1) hB9.2.1
            have hl : lv_has _ _ ([(7, .int (iI (((p1.toInt * 9) + l5_x9.toInt) + 9))), (6, .int (iI ((p1.toInt * 9) + l5_x9.toInt))), (5, .int l5_x9), (4, .int (iI (p1.toInt * 9))), (0, .ref (hL 0)), (1, .int p1), (2, .int p2), (3, .int p3)]) := lv_sub hl [1, 2, 3, 4, 5, 6, 7, 8] rfl
            exact join35 _ _ _ _ ⟨gL_over_175, gL_under_175, iT_fault_175, iT_place_175, rfl, hP, hD, hS, hl⟩
      · rintro H locs ls stk ⟨gL_over_j35, gL_under_j35, iT_fault_j35, iT_place_j35, rfl, hP, hD, hS, hl⟩
        refine lv_iinc (v := (iI (l5_x9.toInt + 1))) hx hb dX10_join_114 hl (k := 2) rfl (iI_add2 (iI_of _) (by decide : (1 : Int32) = iI 1)) (by decide) rfl (fun ls (hl : lv_has ls _ ([(5, .int (iI (l5_x9.toInt + 1))), (7, .int (iI (((p1.toInt * 9) + l5_x9.toInt) + 9))), (6, .int (iI ((p1.toInt * 9) + l5_x9.toInt))), (4, .int (iI (p1.toInt * 9))), (0, .ref (hL 0)), (1, .int p1), (2, .int p2), (3, .int p3)])) => ?_)
        refine lv_goto (tgt := 9) hx hb dX10_join_117 (by decide) ?_
        have hl : lv_has _ _ ([(5, .int (iI (l5_x9.toInt + 1))), (4, .int (iI (p1.toInt * 9))), (0, .ref (hL 0)), (1, .int p1), (2, .int p2), (3, .int p3)]) := lv_sub hl [0, 3, 4, 5, 6, 7] rfl
        exact ihx9 gL_over_j35 gL_under_j35 iT_fault_j35 iT_place_j35 (iI (l5_x9.toInt + 1)) _ _ _ (iI_rng (Int.le_trans (by decide) (Int.add_le_add (b_l5_x9.1) (Int.le_refl _))) (by omega) (by decide) (by decide)) (by have e9 : ((iI (l5_x9.toInt + 1))).toInt = (l5_x9.toInt + 1) := (iI_t (Int.le_trans (by decide) (Int.add_le_add (b_l5_x9.1) (Int.le_refl _))) (Int.le_trans (Int.add_le_add (b_l5_x9.2) (Int.le_refl _)) (by decide))); omega) hP hD hS hl
theorem dX10_multiply_0 : decode cX10_multiply 0 = .ok (.iload_n 1, 1) := dk_27 (by decide +kernel)
theorem dX10_multiply_1 : decode cX10_multiply 1 = .ok (.bipush 9, 2) := dk_16 (by decide +kernel)
theorem dX10_multiply_3 : decode cX10_multiply 3 = .ok (.imul, 1) := dk_104 (by decide +kernel)
theorem dX10_multiply_4 : decode cX10_multiply 4 = .ok (.istore_n 3, 1) := dk_62 (by decide +kernel)
theorem dX10_multiply_5 : decode cX10_multiply 5 = .ok (.aload_n 0, 1) := dk_42 (by decide +kernel)
theorem dX10_multiply_6 : decode cX10_multiply 6 = .ok (.iload_n 1, 1) := dk_27 (by decide +kernel)
theorem dX10_multiply_7 : decode cX10_multiply 7 = .ok (.iconst 1, 1) := dk_4 (by decide +kernel)
theorem dX10_multiply_8 : decode cX10_multiply 8 = .ok (.iadd, 1) := dk_96 (by decide +kernel)
theorem dX10_multiply_9 : decode cX10_multiply 9 = .ok (.invokevirtual 207, 3) := dk_182 (by decide +kernel)
theorem dX10_multiply_12 : decode cX10_multiply 12 = .ok (.istore 4, 2) := dk_54 (by decide +kernel)
theorem dX10_multiply_14 : decode cX10_multiply 14 = .ok (.iload 4, 2) := dk_21 (by decide +kernel)
theorem dX10_multiply_16 : decode cX10_multiply 16 = .ok (.ifCond .eq 20, 3) := dk_153 (by decide +kernel)
theorem dX10_multiply_19 : decode cX10_multiply 19 = .ok (.aload_n 0, 1) := dk_42 (by decide +kernel)
theorem dX10_multiply_20 : decode cX10_multiply 20 = .ok (.iload_n 1, 1) := dk_27 (by decide +kernel)
theorem dX10_multiply_21 : decode cX10_multiply 21 = .ok (.invokevirtual 207, 3) := dk_182 (by decide +kernel)
theorem dX10_multiply_24 : decode cX10_multiply 24 = .ok (.ifCond .eq 12, 3) := dk_153 (by decide +kernel)
theorem dX10_multiply_27 : decode cX10_multiply 27 = .ok (.aload_n 0, 1) := dk_42 (by decide +kernel)
theorem dX10_multiply_28 : decode cX10_multiply 28 = .ok (.getfield 47, 3) := dk_180 (by decide +kernel)
theorem dX10_multiply_31 : decode cX10_multiply 31 = .ok (.iconst 5, 1) := dk_8 (by decide +kernel)
theorem dX10_multiply_32 : decode cX10_multiply 32 = .ok (.iload_n 2, 1) := dk_28 (by decide +kernel)
theorem dX10_multiply_33 : decode cX10_multiply 33 = .ok (.invokevirtual 90, 3) := dk_182 (by decide +kernel)
theorem dX10_multiply_36 : decode cX10_multiply 36 = .ok (.iload 4, 2) := dk_21 (by decide +kernel)
theorem dX10_multiply_38 : decode cX10_multiply 38 = .ok (.ifCond .eq 7, 3) := dk_153 (by decide +kernel)
theorem dX10_multiply_41 : decode cX10_multiply 41 = .ok (.iload_n 3, 1) := dk_29 (by decide +kernel)
theorem dX10_multiply_42 : decode cX10_multiply 42 = .ok (.goto 7, 3) := dk_167 (by decide +kernel)
theorem dX10_multiply_45 : decode cX10_multiply 45 = .ok (.iload_n 3, 1) := dk_29 (by decide +kernel)
theorem dX10_multiply_46 : decode cX10_multiply 46 = .ok (.bipush 9, 2) := dk_16 (by decide +kernel)
theorem dX10_multiply_48 : decode cX10_multiply 48 = .ok (.iadd, 1) := dk_96 (by decide +kernel)
theorem dX10_multiply_49 : decode cX10_multiply 49 = .ok (.istore 5, 2) := dk_54 (by decide +kernel)
theorem dX10_multiply_51 : decode cX10_multiply 51 = .ok (.iload 4, 2) := dk_21 (by decide +kernel)
theorem dX10_multiply_53 : decode cX10_multiply 53 = .ok (.ifCond .eq 10, 3) := dk_153 (by decide +kernel)
theorem dX10_multiply_56 : decode cX10_multiply 56 = .ok (.iload_n 3, 1) := dk_29 (by decide +kernel)
theorem dX10_multiply_57 : decode cX10_multiply 57 = .ok (.bipush 9, 2) := dk_16 (by decide +kernel)
theorem dX10_multiply_59 : decode cX10_multiply 59 = .ok (.iadd, 1) := dk_96 (by decide +kernel)
theorem dX10_multiply_60 : decode cX10_multiply 60 = .ok (.goto 4, 3) := dk_167 (by decide +kernel)
theorem dX10_multiply_63 : decode cX10_multiply 63 = .ok (.iload_n 3, 1) := dk_29 (by decide +kernel)
theorem dX10_multiply_64 : decode cX10_multiply 64 = .ok (.istore 6, 2) := dk_54 (by decide +kernel)
theorem dX10_multiply_66 : decode cX10_multiply 66 = .ok (.aload_n 0, 1) := dk_42 (by decide +kernel)
theorem dX10_multiply_67 : decode cX10_multiply 67 = .ok (.getfield 36, 3) := dk_180 (by decide +kernel)
theorem dX10_multiply_70 : decode cX10_multiply 70 = .ok (.iload 5, 2) := dk_21 (by decide +kernel)
theorem dX10_multiply_72 : decode cX10_multiply 72 = .ok (.laload, 1) := dk_47 (by decide +kernel)
theorem dX10_multiply_73 : decode cX10_multiply 73 = .ok (.lstore 7, 2) := dk_55 (by decide +kernel)
theorem dX10_multiply_75 : decode cX10_multiply 75 = .ok (.aload_n 0, 1) := dk_42 (by decide +kernel)
theorem dX10_multiply_76 : decode cX10_multiply 76 = .ok (.getfield 39, 3) := dk_180 (by decide +kernel)
theorem dX10_multiply_79 : decode cX10_multiply 79 = .ok (.iload 5, 2) := dk_21 (by decide +kernel)
theorem dX10_multiply_81 : decode cX10_multiply 81 = .ok (.laload, 1) := dk_47 (by decide +kernel)
theorem dX10_multiply_82 : decode cX10_multiply 82 = .ok (.lstore 9, 2) := dk_55 (by decide +kernel)
theorem dX10_multiply_84 : decode cX10_multiply 84 = .ok (.iconst 0, 1) := dk_3 (by decide +kernel)
theorem dX10_multiply_85 : decode cX10_multiply 85 = .ok (.istore 11, 2) := dk_54 (by decide +kernel)
theorem dX10_multiply_87 : decode cX10_multiply 87 = .ok (.iload 11, 2) := dk_21 (by decide +kernel)
theorem dX10_multiply_89 : decode cX10_multiply 89 = .ok (.aload_n 0, 1) := dk_42 (by decide +kernel)
theorem dX10_multiply_90 : decode cX10_multiply 90 = .ok (.getfield 51, 3) := dk_180 (by decide +kernel)
theorem dX10_multiply_93 : decode cX10_multiply 93 = .ok (.getfield 93, 3) := dk_180 (by decide +kernel)
theorem dX10_multiply_96 : decode cX10_multiply 96 = .ok (.if_icmp .gt 44, 3) := dk_163 (by decide +kernel)
theorem dX10_multiply_99 : decode cX10_multiply 99 = .ok (.aload_n 0, 1) := dk_42 (by decide +kernel)
theorem dX10_multiply_100 : decode cX10_multiply 100 = .ok (.iload_n 3, 1) := dk_29 (by decide +kernel)
theorem dX10_multiply_101 : decode cX10_multiply 101 = .ok (.iload 11, 2) := dk_21 (by decide +kernel)
theorem dX10_multiply_103 : decode cX10_multiply 103 = .ok (.iadd, 1) := dk_96 (by decide +kernel)
theorem dX10_multiply_104 : decode cX10_multiply 104 = .ok (.aload_n 0, 1) := dk_42 (by decide +kernel)
theorem dX10_multiply_105 : decode cX10_multiply 105 = .ok (.getfield 36, 3) := dk_180 (by decide +kernel)
theorem dX10_multiply_108 : decode cX10_multiply 108 = .ok (.iload 6, 2) := dk_21 (by decide +kernel)
theorem dX10_multiply_110 : decode cX10_multiply 110 = .ok (.iload 11, 2) := dk_21 (by decide +kernel)
theorem dX10_multiply_112 : decode cX10_multiply 112 = .ok (.iadd, 1) := dk_96 (by decide +kernel)
theorem dX10_multiply_113 : decode cX10_multiply 113 = .ok (.laload, 1) := dk_47 (by decide +kernel)
theorem dX10_multiply_114 : decode cX10_multiply 114 = .ok (.lload 7, 2) := dk_22 (by decide +kernel)
theorem dX10_multiply_116 : decode cX10_multiply 116 = .ok (.lmul, 1) := dk_105 (by decide +kernel)
theorem dX10_multiply_117 : decode cX10_multiply 117 = .ok (.aload_n 0, 1) := dk_42 (by decide +kernel)
theorem dX10_multiply_118 : decode cX10_multiply 118 = .ok (.getfield 39, 3) := dk_180 (by decide +kernel)
theorem dX10_multiply_121 : decode cX10_multiply 121 = .ok (.iload 6, 2) := dk_21 (by decide +kernel)
theorem dX10_multiply_123 : decode cX10_multiply 123 = .ok (.iload 11, 2) := dk_21 (by decide +kernel)
theorem dX10_multiply_125 : decode cX10_multiply 125 = .ok (.iadd, 1) := dk_96 (by decide +kernel)
theorem dX10_multiply_126 : decode cX10_multiply 126 = .ok (.laload, 1) := dk_47 (by decide +kernel)
theorem dX10_multiply_127 : decode cX10_multiply 127 = .ok (.lload 9, 2) := dk_22 (by decide +kernel)
theorem dX10_multiply_129 : decode cX10_multiply 129 = .ok (.lmul, 1) := dk_105 (by decide +kernel)
theorem dX10_multiply_130 : decode cX10_multiply 130 = .ok (.iload_n 2, 1) := dk_28 (by decide +kernel)
theorem dX10_multiply_131 : decode cX10_multiply 131 = .ok (.invokevirtual 203, 3) := dk_182 (by decide +kernel)
theorem dX10_multiply_134 : decode cX10_multiply 134 = .ok (.iinc 11 1, 3) := dk_132 (by decide +kernel)
theorem dX10_multiply_137 : decode cX10_multiply 137 = .ok (.goto (-50), 3) := dk_167 (by decide +kernel)
theorem dX10_multiply_140 : decode cX10_multiply 140 = .ok (.return_, 1) := dk_177 (by decide +kernel)
def wsMX10_multiply : List Cond := .code yX10_multiply cX10_multiply 12 none :: ([.fieldLink RX10 47 "OptimaWorks$Worker" "words" "LOptimaWorks$Words;", .fieldLink RX10 36 "OptimaWorks$Worker" "over" "[J", .fieldLink RX10 39 "OptimaWorks$Worker" "under" "[J", .fieldLink RX10 51 "OptimaWorks$Worker" "model" "LOptimaWorks$Model;", .fieldLink RX10 93 "OptimaWorks$Model" "variables" "I"] ++ wsX10 ++ wsX100 ++ (wsV RX10 207 RX10 yX10_hasVariables wsMX10_hasVariables) ++ (wsV RX10 90 RX9 yX9_fail wsMX9_fail) ++ (wsV RX10 203 RX10 yX10_setFraction wsMX10_setFraction))
theorem iwsMX10_multiply_in1 : ∀ w ∈ wsX10, w ∈ wsMX10_multiply := fun _ h => List.mem_cons_of_mem _ (List.mem_append_left _ (List.mem_append_left _ (List.mem_append_left _ (List.mem_append_left _ (List.mem_append_right _ h)))))
theorem iwsMX10_multiply_in10 : ∀ w ∈ wsX100, w ∈ wsMX10_multiply := fun _ h => List.mem_cons_of_mem _ (List.mem_append_left _ (List.mem_append_left _ (List.mem_append_left _ (List.mem_append_right _ h))))
theorem gwsMX10_multiply_0 : GoodIn wsMX10_multiply (wsV RX10 207 RX10 yX10_hasVariables wsMX10_hasVariables) := goodIn_sub (fun _ h => List.mem_cons_of_mem _ (List.mem_append_left _ (List.mem_append_left _ (List.mem_append_right _ h)))) (gdV (by decide +kernel) gdwsMX10_hasVariables)
theorem gwsMX10_multiply_1 : GoodIn wsMX10_multiply (wsV RX10 90 RX9 yX9_fail wsMX9_fail) := goodIn_sub (fun _ h => List.mem_cons_of_mem _ (List.mem_append_left _ (List.mem_append_right _ h))) (gdV (by decide +kernel) gdwsMX9_fail)
theorem gwsMX10_multiply_2 : GoodIn wsMX10_multiply (wsV RX10 203 RX10 yX10_setFraction wsMX10_setFraction) := goodIn_sub (fun _ h => List.mem_cons_of_mem _ (List.mem_append_right _ h)) (gdV (by decide +kernel) gdwsMX10_setFraction)
theorem gdwsMX10_multiply : wsMX10_multiply.all goodWord = true := gdC rfl (gdA (gdA (gdA (gdA (gdA (by decide +kernel : ([.fieldLink RX10 47 "OptimaWorks$Worker" "words" "LOptimaWorks$Words;", .fieldLink RX10 36 "OptimaWorks$Worker" "over" "[J", .fieldLink RX10 39 "OptimaWorks$Worker" "under" "[J", .fieldLink RX10 51 "OptimaWorks$Worker" "model" "LOptimaWorks$Model;", .fieldLink RX10 93 "OptimaWorks$Model" "variables" "I"] : List Cond).all goodWord = true) gdwsX10) gdwsX100) (gdV (by decide +kernel) gdwsMX10_hasVariables)) (gdV (by decide +kernel) gdwsMX9_fail)) (gdV (by decide +kernel) gdwsMX10_setFraction))
theorem hm_m_X10_multiply_0 : (.fieldLink RX10 36 "OptimaWorks$Worker" "over" "[J" : Cond) ∈ wsMX10_multiply := by decide +kernel
theorem hm_m_X10_multiply_1 : (.fieldLink RX10 39 "OptimaWorks$Worker" "under" "[J" : Cond) ∈ wsMX10_multiply := by decide +kernel
set_option maxHeartbeats 4000000 in
set_option maxRecDepth 100000 in
/-- two values -/
theorem m_X10_multiply (l : Launch) (hst : l.stackTraces = false) (dC : Nat → ClassId) (dI : Nat → Nat → Nat) (hL : Nat → Nat) (aL : Nat → Nat) (kL : Nat → ClassId) (hT : Nat → Nat) (hM : Nat → Nat) (xL_tree : Value) (iL_names : Int32) (gL_key : Nat → Int64) (fL_kind : Nat → Int32) (fL_one : Nat → Int32) (fL_two : Nat → Int32) (fL_base : Nat → Int32) (iL_params : Int32) (fL_paramOver : Nat → Int32) (dL_paramOver : Nat) (nL_params : Nat) (fL_paramUnder : Nat → Int32) (dL_paramUnder : Nat) (nL_pu : Nat) (gL_over : Nat → Int64) (gL_under : Nat → Int64) (fL_bound : Nat → Int32) (iL_nameAt : Int32) (iL_startAt : Int32) (iL_steps : Int32) (jL_scaleOver : Int64) (jL_scaleUnder : Int64) (aT : Nat → Nat) (kT : Nat → ClassId) (fT_tape : Nat → Int32) (dT_tape : Nat) (nT_tape : Nat) (iT_length : Int32) (iT_fault : Int32) (iT_place : Int32) (iT_kind : Int32) (iT_at : Int32) (iT_number : Int32) (jT_name : Int64) (iT_next : Int32) (aM : Nat → Nat) (kM : Nat → ClassId) (iM_stands : Int32) (iM_variables : Int32) (iM_rows : Int32) (iM_goals : Int32) (iM_differents : Int32) (iM_cases : Int32) (fM_from : Nat → Int32) (fM_to : Nat → Int32) (fM_whole : Nat → Int32) (fM_ways : Nat → Int32) (iM_plainRows : Int32) (fM_plainRow : Nat → Int32) (fM_kept : Nat → Int32) (fM_goalOver : Nat → Int32) (fM_goalUnder : Nat → Int32) (fM_goalMax : Nat → Int32) (fM_different : Nat → Int32) (p1 : Int32) (p2 : Int32) (b_iL_names : 0 ≤ iL_names.toInt ∧ iL_names.toInt ≤ 40) (b_fL_kind : ∀ q : Nat, 0 ≤ (fL_kind q).toInt ∧ (fL_kind q).toInt ≤ 5) (b_fL_two : ∀ q : Nat, (-1) ≤ (fL_two q).toInt ∧ (fL_two q).toInt ≤ 39) (b_fL_base : ∀ q : Nat, 0 ≤ (fL_base q).toInt ∧ (fL_base q).toInt ≤ 2560) (b_iL_params : 0 ≤ iL_params.toInt ∧ iL_params.toInt ≤ 2560) (b_nL_params : 0 ≤ nL_params ∧ nL_params ≤ 2560) (b_nm : NmL iL_names fL_kind fL_one fL_two fL_base nL_params) (b_pm : iL_params.toInt ≤ ((nL_params : Nat) : Int)) (b_pu : nL_pu = nL_params) (b_fT_tape : ∀ q : Nat, (-128) ≤ (fT_tape q).toInt ∧ (fT_tape q).toInt ≤ 127) (b_nT_tape : 64 ≤ nT_tape ∧ nT_tape ≤ 2560) (b_iT_length : 0 ≤ iT_length.toInt ∧ iT_length.toInt ≤ 1280) (b_iT_at : 0 ≤ iT_at.toInt ∧ iT_at.toInt ≤ 1282) (b_iT_number : 0 ≤ iT_number.toInt ∧ iT_number.toInt ≤ 999999) (b_iT_next : 0 ≤ iT_next.toInt ∧ iT_next.toInt ≤ 1282) (b_len : iT_length.toInt ≤ ((nT_tape : Nat) : Int)) (b_iM_stands : 0 ≤ iM_stands.toInt ∧ iM_stands.toInt ≤ 1) (b_iM_variables : 0 ≤ iM_variables.toInt ∧ iM_variables.toInt ≤ 8) (b_iM_rows : 0 ≤ iM_rows.toInt ∧ iM_rows.toInt ≤ 12) (b_iM_goals : 0 ≤ iM_goals.toInt ∧ iM_goals.toInt ≤ 3) (b_iM_differents : 0 ≤ iM_differents.toInt ∧ iM_differents.toInt ≤ 8) (b_iM_cases : 0 ≤ iM_cases.toInt ∧ iM_cases.toInt ≤ 200000) (b_fM_ways : ∀ q : Nat, 0 ≤ (fM_ways q).toInt ∧ (fM_ways q).toInt ≤ 3) (b_iM_plainRows : 0 ≤ iM_plainRows.toInt ∧ iM_plainRows.toInt ≤ 12) (b_fM_plainRow : ∀ q : Nat, 0 ≤ (fM_plainRow q).toInt ∧ (fM_plainRow q).toInt ≤ 11) (b_pr : iM_plainRows.toInt ≤ iM_rows.toInt) (b_p1 : 0 ≤ p1.toInt ∧ p1.toInt ≤ 38) (sz : Nat) : vx_Met l yX10_multiply wsMX10_multiply ({ frames := 8, cells := 1, slots := 6, locals := 135 }) (va_Pc [.ref (hL 0), .int p1, .int p2] (fun U => U.heap.size = sz ∧ va_P (dC, dI) vwCl (WL hL aL kL hT hM xL_tree iL_names gL_key fL_kind fL_one fL_two fL_base iL_params fL_paramOver dL_paramOver nL_params fL_paramUnder dL_paramUnder nL_pu gL_over gL_under fL_bound iL_nameAt iL_startAt iL_steps jL_scaleOver jL_scaleUnder ++ (WT hT aT kT fT_tape dT_tape nT_tape iT_length iT_fault iT_place iT_kind iT_at iT_number jT_name iT_next ++ (WM hM aM kM iM_stands iM_variables iM_rows iM_goals iM_differents iM_cases fM_from fM_to fM_whole fM_ways iM_plainRows fM_plainRow fM_kept fM_goalOver fM_goalUnder fM_goalMax fM_different))) U.heap ∧ va_K (dC, dI) vwCl (tL kL ++ (tT kT ++ (tM kM))) U ∧ va_D (fun _ => True) (WL hL aL kL hT hM xL_tree iL_names gL_key fL_kind fL_one fL_two fL_base iL_params fL_paramOver dL_paramOver nL_params fL_paramUnder dL_paramUnder nL_pu gL_over gL_under fL_bound iL_nameAt iL_startAt iL_steps jL_scaleOver jL_scaleUnder ++ (WT hT aT kT fT_tape dT_tape nT_tape iT_length iT_fault iT_place iT_kind iT_at iT_number jT_name iT_next ++ (WM hM aM kM iM_stands iM_variables iM_rows iM_goals iM_differents iM_cases fM_from fM_to fM_whole fM_ways iM_plainRows fM_plainRow fM_kept fM_goalOver fM_goalUnder fM_goalMax fM_different))) ∧ CE (va_A (WL hL aL kL hT hM xL_tree iL_names gL_key fL_kind fL_one fL_two fL_base iL_params fL_paramOver dL_paramOver nL_params fL_paramUnder dL_paramUnder nL_pu gL_over gL_under fL_bound iL_nameAt iL_startAt iL_steps jL_scaleOver jL_scaleUnder ++ (WT hT aT kT fT_tape dT_tape nT_tape iT_length iT_fault iT_place iT_kind iT_at iT_number jT_name iT_next ++ (WM hM aM kM iM_stands iM_variables iM_rows iM_goals iM_differents iM_cases fM_from fM_to fM_whole fM_ways iM_plainRows fM_plainRow fM_kept fM_goalOver fM_goalUnder fM_goalMax fM_different))) sz) U U.heap)) (va_Qv (fun (u : (Nat → Int64) × (Nat → Int64) × (Int32) × (Int32)) => True) (fun (u : (Nat → Int64) × (Nat → Int64) × (Int32) × (Int32)) t => va_P (dC, dI) vwCl (WL hL aL kL hT hM xL_tree iL_names gL_key fL_kind fL_one fL_two fL_base iL_params fL_paramOver dL_paramOver nL_params fL_paramUnder dL_paramUnder nL_pu (u.1) (u.2.1) fL_bound iL_nameAt iL_startAt iL_steps jL_scaleOver jL_scaleUnder ++ (WT hT aT kT fT_tape dT_tape nT_tape iT_length (u.2.2.1) (u.2.2.2) iT_kind iT_at iT_number jT_name iT_next ++ (WM hM aM kM iM_stands iM_variables iM_rows iM_goals iM_differents iM_cases fM_from fM_to fM_whole fM_ways iM_plainRows fM_plainRow fM_kept fM_goalOver fM_goalUnder fM_goalMax fM_different))) t.heap ∧ va_D (va_A (WL hL aL kL hT hM xL_tree iL_names gL_key fL_kind fL_one fL_two fL_base iL_params fL_paramOver dL_paramOver nL_params fL_paramUnder dL_paramUnder nL_pu gL_over gL_under fL_bound iL_nameAt iL_startAt iL_steps jL_scaleOver jL_scaleUnder ++ (WT hT aT kT fT_tape dT_tape nT_tape iT_length iT_fault iT_place iT_kind iT_at iT_number jT_name iT_next ++ (WM hM aM kM iM_stands iM_variables iM_rows iM_goals iM_differents iM_cases fM_from fM_to fM_whole fM_ways iM_plainRows fM_plainRow fM_kept fM_goalOver fM_goalUnder fM_goalMax fM_different))) sz) (WL hL aL kL hT hM xL_tree iL_names gL_key fL_kind fL_one fL_two fL_base iL_params fL_paramOver dL_paramOver nL_params fL_paramUnder dL_paramUnder nL_pu (u.1) (u.2.1) fL_bound iL_nameAt iL_startAt iL_steps jL_scaleOver jL_scaleUnder ++ (WT hT aT kT fT_tape dT_tape nT_tape iT_length (u.2.2.1) (u.2.2.2) iT_kind iT_at iT_number jT_name iT_next ++ (WM hM aM kM iM_stands iM_variables iM_rows iM_goals iM_differents iM_cases fM_from fM_to fM_whole fM_ways iM_plainRows fM_plainRow fM_kept fM_goalOver fM_goalUnder fM_goalMax fM_different))) ∧ t.heap.size = sz) (va_A (WL hL aL kL hT hM xL_tree iL_names gL_key fL_kind fL_one fL_two fL_base iL_params fL_paramOver dL_paramOver nL_params fL_paramUnder dL_paramUnder nL_pu gL_over gL_under fL_bound iL_nameAt iL_startAt iL_steps jL_scaleOver jL_scaleUnder ++ (WT hT aT kT fT_tape dT_tape nT_tape iT_length iT_fault iT_place iT_kind iT_at iT_number jT_name iT_next ++ (WM hM aM kM iM_stands iM_variables iM_rows iM_goals iM_differents iM_cases fM_from fM_to fM_whole fM_ways iM_plainRows fM_plainRow fM_kept fM_goalOver fM_goalUnder fM_goalMax fM_different))) sz)) (vx_X (fun (u : (Nat → Int64) × (Nat → Int64) × (Int32) × (Int32)) => True) (fun E (u : (Nat → Int64) × (Nat → Int64) × (Int32) × (Int32)) t => (E = "java/lang/IllegalArgumentException") ∧ va_P (dC, dI) vwCl (WL hL aL kL hT hM xL_tree iL_names gL_key fL_kind fL_one fL_two fL_base iL_params fL_paramOver dL_paramOver nL_params fL_paramUnder dL_paramUnder nL_pu (u.1) (u.2.1) fL_bound iL_nameAt iL_startAt iL_steps jL_scaleOver jL_scaleUnder ++ (WT hT aT kT fT_tape dT_tape nT_tape iT_length (u.2.2.1) (u.2.2.2) iT_kind iT_at iT_number jT_name iT_next ++ (WM hM aM kM iM_stands iM_variables iM_rows iM_goals iM_differents iM_cases fM_from fM_to fM_whole fM_ways iM_plainRows fM_plainRow fM_kept fM_goalOver fM_goalUnder fM_goalMax fM_different))) t.heap ∧ va_D (va_A (WL hL aL kL hT hM xL_tree iL_names gL_key fL_kind fL_one fL_two fL_base iL_params fL_paramOver dL_paramOver nL_params fL_paramUnder dL_paramUnder nL_pu gL_over gL_under fL_bound iL_nameAt iL_startAt iL_steps jL_scaleOver jL_scaleUnder ++ (WT hT aT kT fT_tape dT_tape nT_tape iT_length iT_fault iT_place iT_kind iT_at iT_number jT_name iT_next ++ (WM hM aM kM iM_stands iM_variables iM_rows iM_goals iM_differents iM_cases fM_from fM_to fM_whole fM_ways iM_plainRows fM_plainRow fM_kept fM_goalOver fM_goalUnder fM_goalMax fM_different))) sz) (WL hL aL kL hT hM xL_tree iL_names gL_key fL_kind fL_one fL_two fL_base iL_params fL_paramOver dL_paramOver nL_params fL_paramUnder dL_paramUnder nL_pu (u.1) (u.2.1) fL_bound iL_nameAt iL_startAt iL_steps jL_scaleOver jL_scaleUnder ++ (WT hT aT kT fT_tape dT_tape nT_tape iT_length (u.2.2.1) (u.2.2.2) iT_kind iT_at iT_number jT_name iT_next ++ (WM hM aM kM iM_stands iM_variables iM_rows iM_goals iM_differents iM_cases fM_from fM_to fM_whole fM_ways iM_plainRows fM_plainRow fM_kept fM_goalOver fM_goalUnder fM_goalMax fM_different)))) (va_A (WL hL aL kL hT hM xL_tree iL_names gL_key fL_kind fL_one fL_two fL_base iL_params fL_paramOver dL_paramOver nL_params fL_paramUnder dL_paramUnder nL_pu gL_over gL_under fL_bound iL_nameAt iL_startAt iL_steps jL_scaleOver jL_scaleUnder ++ (WT hT aT kT fT_tape dT_tape nT_tape iT_length iT_fault iT_place iT_kind iT_at iT_number jT_name iT_next ++ (WM hM aM kM iM_stands iM_variables iM_rows iM_goals iM_differents iM_cases fM_from fM_to fM_whole fM_ways iM_plainRows fM_plainRow fM_kept fM_goalOver fM_goalUnder fM_goalMax fM_different))) sz)) 1 6 (va_A (WL hL aL kL hT hM xL_tree iL_names gL_key fL_kind fL_one fL_two fL_base iL_params fL_paramOver dL_paramOver nL_params fL_paramUnder dL_paramUnder nL_pu gL_over gL_under fL_bound iL_nameAt iL_startAt iL_steps jL_scaleOver jL_scaleUnder ++ (WT hT aT kT fT_tape dT_tape nT_tape iT_length iT_fault iT_place iT_kind iT_at iT_number jT_name iT_next ++ (WM hM aM kM iM_stands iM_variables iM_rows iM_goals iM_differents iM_cases fM_from fM_to fM_whole fM_ways iM_plainRows fM_plainRow fM_kept fM_goalOver fM_goalUnder fM_goalMax fM_different))) sz) := by
  refine vx_ofW (cc := cX10_multiply) (maxL := 12) (ret := none) (by decide) rfl ?_
  intro p e s m args below meth c s₁ B hml htab hv
  obtain ⟨rfl, hsz, hP, hK, hD0, hE⟩ := hv
  have hx := B.exec
  have hb := B.bytes
  have hr := B.returns
  have hts := atoms_spec (ws := wsMX10_multiply) B.pre
  have hown : s.vm.findClass RX10 = some m.cls := findClass_of_methodNamed B.named
  have hlocks := B.notSynchronized
  subst hsz
  have hD := hD0.self (sz := s.heap.size)
  generalize hAe : va_A (WL hL aL kL hT hM xL_tree iL_names gL_key fL_kind fL_one fL_two fL_base iL_params fL_paramOver dL_paramOver nL_params fL_paramUnder dL_paramUnder nL_pu gL_over gL_under fL_bound iL_nameAt iL_startAt iL_steps jL_scaleOver jL_scaleUnder ++ (WT hT aT kT fT_tape dT_tape nT_tape iT_length iT_fault iT_place iT_kind iT_at iT_number jT_name iT_next ++ (WM hM aM kM iM_stands iM_variables iM_rows iM_goals iM_differents iM_cases fM_from fM_to fM_whole fM_ways iM_plainRows fM_plainRow fM_kept fM_goalOver fM_goalUnder fM_goalMax fM_different))) s.heap.size = A at hD hE ⊢
  have hA : ∀ q : Nat, s.heap.size ≤ q → A q := fun q h => by rw [← hAe]; exact Or.inr h
  have hS : va_S A s.heap s.heap [] := va_S.rf
  have hl := lv_entry ([.ref (hL 0), .int p1, .int p2]) (n := 12) (Nat.le_of_ble_eq_true rfl)
  rw [lg_entry_eq]
  generalize (lg_sl ([.ref (hL 0), .int p1, .int p2]) ++ List.replicate (12 - (lg_sl ([.ref (hL 0), .int p1, .int p2])).length) Slot.unset).toArray = ls at hl ⊢
  have hl : lv_has ls 12 [(0, .ref (hL 0)), (1, .int p1), (2, .int p2)] := hl
  refine lv_iload_n hx hb dX10_multiply_0 rfl (lv_at hl 1 rfl) ?_
  refine lv_bipush (v := 9) hx hb dX10_multiply_1 (by decide) ?_
  refine lv_imul hx hb dX10_multiply_3 ?_
  refine lv_topi (fun y1 hy1 => ?_)
  obtain rfl : (iI (p1.toInt * 9)) = y1 := (hy1.trans (iI_mul2 (iI_of _) (by decide : (9 : Int32) = iI 9))).symm
  refine lv_istore_n hx hb dX10_multiply_4 rfl hl (by decide) rfl (fun ls (hl : lv_has ls _ ([(3, .int (iI (p1.toInt * 9))), (0, .ref (hL 0)), (1, .int p1), (2, .int p2)])) => ?_)
  refine lv_aload_n hx hb dX10_multiply_5 rfl (lv_at hl 1 rfl) ?_
  refine lv_iload_n hx hb dX10_multiply_6 rfl (lv_at hl 2 rfl) ?_
  refine lv_iconst (v := 1) hx hb dX10_multiply_7 (by decide) ?_
  refine lv_iadd hx hb dX10_multiply_8 ?_
  refine lv_topi (fun y2 hy2 => ?_)
  obtain rfl : (iI (p1.toInt + 1)) = y2 := (hy2.trans (iI_add2 (iI_of _) (by decide : (1 : Int32) = iI 1))).symm
  have p9 := cj_3_0_2 (WL hL aL kL hT hM xL_tree iL_names gL_key fL_kind fL_one fL_two fL_base iL_params fL_paramOver dL_paramOver nL_params fL_paramUnder dL_paramUnder nL_pu gL_over gL_under fL_bound iL_nameAt iL_startAt iL_steps jL_scaleOver jL_scaleUnder) (WT hT aT kT fT_tape dT_tape nT_tape iT_length iT_fault iT_place iT_kind iT_at iT_number jT_name iT_next) (WM hM aM kM iM_stands iM_variables iM_rows iM_goals iM_differents iM_cases fM_from fM_to fM_whole fM_ways iM_plainRows fM_plainRow fM_kept fM_goalOver fM_goalUnder fM_goalMax fM_different)
  have hPc := hP.mem (fun q h => p9.mem_iff.mpr (List.mem_append_left _ h))
  have hDc := (hD.perm p9).left
  have hKc : va_K (dC, dI) vwCl (tL kL ++ (tM kM)) _ := hK.sub [0, 1, 2, 3, 4, 5, 6, 7, 8, 9, 11, 12, 13, 14, 15, 16, 17, 18, 19, 20] rfl
  have hFc := freeG p9 hD hS hA
  refine va_calli (va_runV (As := [.int (iI (p1.toInt + 1))]) (rest := []) ⟨hx, hb, hml, hown, hts⟩ (m_X10_hasVariables l dC dI hL aL kL hT hM xL_tree iL_names gL_key fL_kind fL_one fL_two fL_base iL_params fL_paramOver dL_paramOver nL_params fL_paramUnder dL_paramUnder nL_pu gL_over gL_under fL_bound iL_nameAt iL_startAt iL_steps jL_scaleOver jL_scaleUnder aM kM iM_stands iM_variables iM_rows iM_goals iM_differents iM_cases fM_from fM_to fM_whole fM_ways iM_plainRows fM_plainRow fM_kept fM_goalOver fM_goalUnder fM_goalMax fM_different (iI (p1.toInt + 1)) (b_iL_names) b_fL_kind b_fL_two b_fL_base (b_iL_params) (by first | exact b_nL_params | with_reducible assumption | exact ⟨by omega, by omega⟩ | assumption) (by first | with_reducible assumption | omega | (rw [iI_t (by omega) (by omega)]; omega) | assumption) (by first | with_reducible assumption | omega | (rw [iI_t (by omega) (by omega)]; omega) | assumption) (by first | with_reducible assumption | omega | (rw [iI_t (by omega) (by omega)]; omega) | assumption) (b_iM_stands) (b_iM_variables) (b_iM_rows) (b_iM_goals) (b_iM_differents) (b_iM_cases) b_fM_ways (b_iM_plainRows) b_fM_plainRow (by first | with_reducible assumption | omega | assumption) (iI_rng (Int.le_trans (by decide) (Int.add_le_add (b_p1.1) (Int.le_refl _))) (Int.le_trans (Int.add_le_add (b_p1.2) (Int.le_refl _)) (by decide)) (by decide) (by decide)) s.heap.size) (cwV 1 hts gwsMX10_multiply_0 rfl rfl rfl hd_yX10_hasVariables_RX10 (by decide +kernel)) (fz_pre (va_recv hK hP (ci := 10) (q0 := 0) rfl rfl) hPc hKc hDc) rfl rfl hl.1 rfl (lv_room (Nat.le_of_ble_eq_true rfl)) dX10_multiply_9 (by decide +kernel)) hS (fun q _ h => hFc q h) hFc (fun r3 u t9_ H locs ht hvm hw9 hB9 hz1 hk1 hS => ?_)
  have b_r3 := hw9
  try dsimp only at b_r3
  have p8 := p9
  obtain ⟨hP, hD⟩ := frameG p9 p8 hP hD hk1 hFc (fz_P ht hB9.1) hB9.2
  refine lv_istore hx hb dX10_multiply_12 hl (by decide) rfl (fun ls (hl : lv_has ls _ ([(4, .int r3), (3, .int (iI (p1.toInt * 9))), (0, .ref (hL 0)), (1, .int p1), (2, .int p2)])) => ?_)
  refine lv_iload hx hb dX10_multiply_14 (lv_at hl 0 rfl) ?_
  refine W.cut (pc := 36) (fun H locs ls stk =>  stk = [] ∧ va_P (dC, dI) vwCl (WL hL aL kL hT hM xL_tree iL_names gL_key fL_kind fL_one fL_two fL_base iL_params fL_paramOver dL_paramOver nL_params fL_paramUnder dL_paramUnder nL_pu gL_over gL_under fL_bound iL_nameAt iL_startAt iL_steps jL_scaleOver jL_scaleUnder ++ (WT hT aT kT fT_tape dT_tape nT_tape iT_length iT_fault iT_place iT_kind iT_at iT_number jT_name iT_next ++ (WM hM aM kM iM_stands iM_variables iM_rows iM_goals iM_differents iM_cases fM_from fM_to fM_whole fM_ways iM_plainRows fM_plainRow fM_kept fM_goalOver fM_goalUnder fM_goalMax fM_different))) H ∧ va_D A (WL hL aL kL hT hM xL_tree iL_names gL_key fL_kind fL_one fL_two fL_base iL_params fL_paramOver dL_paramOver nL_params fL_paramUnder dL_paramUnder nL_pu gL_over gL_under fL_bound iL_nameAt iL_startAt iL_steps jL_scaleOver jL_scaleUnder ++ (WT hT aT kT fT_tape dT_tape nT_tape iT_length iT_fault iT_place iT_kind iT_at iT_number jT_name iT_next ++ (WM hM aM kM iM_stands iM_variables iM_rows iM_goals iM_differents iM_cases fM_from fM_to fM_whole fM_ways iM_plainRows fM_plainRow fM_kept fM_goalOver fM_goalUnder fM_goalMax fM_different))) ∧ va_S A s.heap H locs ∧ lv_has ls 12 [(4, .int r3), (3, .int (iI (p1.toInt * 9))), (0, .ref (hL 0)), (1, .int p1), (2, .int p2)]) (fun join4 => ?_) ?_
  · refine lv_if_eq (tgt := 36) hx hb dX10_multiply_16 (by decide) (fun c_16 => ?_) (fun c_16 => ?_)
    · have t_16 : r3.toInt = 0 := toI_eq c_16 rfl (by decide : (0 : Int32).toInt = 0)
      have hl : lv_has _ _ ([(4, .int r3), (3, .int (iI (p1.toInt * 9))), (0, .ref (hL 0)), (1, .int p1), (2, .int p2)]) := lv_sub hl [0, 1, 2, 3, 4] rfl
      exact join4 _ _ _ _ ⟨rfl, hP, hD, hS, hl⟩
    · have t_16 : ¬ r3.toInt = 0 := toI_neq c_16 rfl (by decide : (0 : Int32).toInt = 0)
      refine lv_aload_n hx hb dX10_multiply_19 rfl (lv_at hl 2 rfl) ?_
      refine lv_iload_n hx hb dX10_multiply_20 rfl (lv_at hl 3 rfl) ?_
      have p9 := cj_3_0_2 (WL hL aL kL hT hM xL_tree iL_names gL_key fL_kind fL_one fL_two fL_base iL_params fL_paramOver dL_paramOver nL_params fL_paramUnder dL_paramUnder nL_pu gL_over gL_under fL_bound iL_nameAt iL_startAt iL_steps jL_scaleOver jL_scaleUnder) (WT hT aT kT fT_tape dT_tape nT_tape iT_length iT_fault iT_place iT_kind iT_at iT_number jT_name iT_next) (WM hM aM kM iM_stands iM_variables iM_rows iM_goals iM_differents iM_cases fM_from fM_to fM_whole fM_ways iM_plainRows fM_plainRow fM_kept fM_goalOver fM_goalUnder fM_goalMax fM_different)
      have hPc := hP.mem (fun q h => p9.mem_iff.mpr (List.mem_append_left _ h))
      have hDc := (hD.perm p9).left
      have hKc : va_K (dC, dI) vwCl (tL kL ++ (tM kM)) _ := hK.sub [0, 1, 2, 3, 4, 5, 6, 7, 8, 9, 11, 12, 13, 14, 15, 16, 17, 18, 19, 20] rfl
      have hFc := freeG p9 hD hS hA
      refine va_calli (va_runV (As := [.int p1]) (rest := []) ⟨hx, hb, hml, hown, hts⟩ (m_X10_hasVariables l dC dI hL aL kL hT hM xL_tree iL_names gL_key fL_kind fL_one fL_two fL_base iL_params fL_paramOver dL_paramOver nL_params fL_paramUnder dL_paramUnder nL_pu gL_over gL_under fL_bound iL_nameAt iL_startAt iL_steps jL_scaleOver jL_scaleUnder aM kM iM_stands iM_variables iM_rows iM_goals iM_differents iM_cases fM_from fM_to fM_whole fM_ways iM_plainRows fM_plainRow fM_kept fM_goalOver fM_goalUnder fM_goalMax fM_different p1 (b_iL_names) b_fL_kind b_fL_two b_fL_base (b_iL_params) (by first | exact b_nL_params | with_reducible assumption | exact ⟨by omega, by omega⟩ | assumption) (by first | with_reducible assumption | omega | (rw [iI_t (by omega) (by omega)]; omega) | assumption) (by first | with_reducible assumption | omega | (rw [iI_t (by omega) (by omega)]; omega) | assumption) (by first | with_reducible assumption | omega | (rw [iI_t (by omega) (by omega)]; omega) | assumption) (b_iM_stands) (b_iM_variables) (b_iM_rows) (b_iM_goals) (b_iM_differents) (b_iM_cases) b_fM_ways (b_iM_plainRows) b_fM_plainRow (by first | with_reducible assumption | omega | assumption) (⟨b_p1.1, Int.le_trans b_p1.2 (by decide)⟩) H.size) (cwV 1 hts gwsMX10_multiply_0 rfl rfl rfl hd_yX10_hasVariables_RX10 (by decide +kernel)) (fz_pre (va_recv hK hP (ci := 10) (q0 := 0) rfl rfl) hPc hKc hDc) rfl rfl hl.1 rfl (lv_room (Nat.le_of_ble_eq_true rfl)) dX10_multiply_21 (by decide +kernel)) hS (fun q _ h => hFc q h) hFc (fun r6 u t9_ H locs ht hvm hw9 hB9 hz1 hk1 hS => ?_)
      have b_r6 := hw9
      try dsimp only at b_r6
      have p8 := p9
      obtain ⟨hP, hD⟩ := frameG p9 p8 hP hD hk1 hFc (fz_P ht hB9.1) hB9.2
      refine lv_if_eq (tgt := 36) hx hb dX10_multiply_24 (by decide) (fun c_24 => ?_) (fun c_24 => ?_)
      · have t_24 : r6.toInt = 0 := toI_eq c_24 rfl (by decide : (0 : Int32).toInt = 0)
        have hl : lv_has _ _ ([(4, .int r3), (3, .int (iI (p1.toInt * 9))), (0, .ref (hL 0)), (1, .int p1), (2, .int p2)]) := lv_sub hl [0, 1, 2, 3, 4] rfl
        exact join4 _ _ _ _ ⟨rfl, hP, hD, hS, hl⟩
      · have t_24 : ¬ r6.toInt = 0 := toI_neq c_24 rfl (by decide : (0 : Int32).toInt = 0)
        refine lv_aload_n hx hb dX10_multiply_27 rfl (lv_at hl 2 rfl) ?_
        refine va_get (D := (dC, dI)) (ci := 10) (v := .ref (hT 0)) (C := RX10) (T := TX10) (N := 20) hx hb hts iwsMX10_multiply_in10 hown hK hP 0 rfl rfl 0 (by decide) (hts (.fieldLink RX10 47 "OptimaWorks$Worker" "words" "LOptimaWorks$Words;") (by decide +kernel)) (fun _ h9 => h9) rfl dX10_multiply_28 ?_
        refine lv_iconst (v := 5) hx hb dX10_multiply_31 (by decide) ?_
        refine lv_iload_n hx hb dX10_multiply_32 rfl (lv_at hl 4 rfl) ?_
        have p9 := cj_3_1 (WL hL aL kL hT hM xL_tree iL_names gL_key fL_kind fL_one fL_two fL_base iL_params fL_paramOver dL_paramOver nL_params fL_paramUnder dL_paramUnder nL_pu gL_over gL_under fL_bound iL_nameAt iL_startAt iL_steps jL_scaleOver jL_scaleUnder) (WT hT aT kT fT_tape dT_tape nT_tape iT_length iT_fault iT_place iT_kind iT_at iT_number jT_name iT_next) (WM hM aM kM iM_stands iM_variables iM_rows iM_goals iM_differents iM_cases fM_from fM_to fM_whole fM_ways iM_plainRows fM_plainRow fM_kept fM_goalOver fM_goalUnder fM_goalMax fM_different)
        have hPc := hP.mem (fun q h => p9.mem_iff.mpr (List.mem_append_left _ h))
        have hDc := (hD.perm p9).left
        have hKc : va_K (dC, dI) vwCl (tT kT) _ := hK.sub [10] rfl
        have hFc := freeG p9 hD hS hA
        refine vx_callv (vx_runV (As := [.int 5, .int p2]) (rest := []) ⟨hx, hb, hml, hown, hts⟩ (m_X9_fail l hst dC dI hT aT kT fT_tape dT_tape nT_tape iT_length iT_fault iT_place iT_kind iT_at iT_number jT_name iT_next 5 p2 b_fT_tape (by first | exact b_nT_tape | with_reducible assumption | exact ⟨by omega, by omega⟩ | assumption) (b_iT_length) (b_iT_at) (b_iT_number) (b_iT_next) (by first | with_reducible assumption | omega | assumption) H.size) (cwV 2 hts gwsMX10_multiply_1 rfl rfl rfl hd_yX9_fail_RX9 (by decide +kernel)) (fz_preE (va_recv hK hP (ci := 9) (q0 := 11) rfl rfl) hPc hKc hDc (fun a U g mk qE => qE.call) (fun U hU9 hW => by rw [hU9]; exact (((hE : CE A s s.heap).kept hS.2.1).narrow (fun q h => hFc q h)).warm hW)) rfl rfl hl.1 rfl (lv_room (Nat.le_of_ble_eq_true rfl)) dX10_multiply_33 (by decide +kernel)) hS (fun q _ h => hFc q h) hFc (fun q _ h => hFc q h) (fun E ce q9 u t9_ H locs ht hvm hw9 hB9 hz1 hk1 hS hc1 hc2 hc3 => ?_) (fun u t9_ H1 locs ht hvm hw9 hB9 hz1 hk1 hS => ?_)
        · revert u hw9 hB9
          refine fz_p2 ?_
          intro iT_fault_7 iT_place_7 hw9 hB9
          try dsimp only at hw9 hB9
          revert hB9
          refine fz_a2 ?_
          intro hEx hB9
          clear hw9
          have p8 := cj_3_1 (WL hL aL kL hT hM xL_tree iL_names gL_key fL_kind fL_one fL_two fL_base iL_params fL_paramOver dL_paramOver nL_params fL_paramUnder dL_paramUnder nL_pu gL_over gL_under fL_bound iL_nameAt iL_startAt iL_steps jL_scaleOver jL_scaleUnder) (WT hT aT kT fT_tape dT_tape nT_tape iT_length iT_fault_7 iT_place_7 iT_kind iT_at iT_number jT_name iT_next) (WM hM aM kM iM_stands iM_variables iM_rows iM_goals iM_differents iM_cases fM_from fM_to fM_whole fM_ways iM_plainRows fM_plainRow fM_kept fM_goalOver fM_goalUnder fM_goalMax fM_different)
          obtain ⟨hP, hD⟩ := frameG p9 p8 hP hD hk1 hFc (fz_P ht hB9.1) hB9.2
          exact vx_out (fun x hx9 => (htab x hx9).elim) hlocks hc1 hc2 hc3 (fun t9_ ht hvm => ⟨(gL_over, gL_under, iT_fault_7, iT_place_7), trivial, ⟨(by have h9 := hEx; exact h9), by rw [ht]; exact hP, hD⟩, hS.F ht⟩) hS.2.2 (by decide +kernel) (by decide +kernel)
        exact False.elim hw9
  · rintro H locs ls stk ⟨rfl, hP, hD, hS, hl⟩
    refine lv_iload hx hb dX10_multiply_36 (lv_at hl 0 rfl) ?_
    refine W.cut (pc := 49) (fun H locs ls stk => ∃ (k0_j5 : Int32), (0 ≤ k0_j5.toInt ∧ k0_j5.toInt ≤ 351) ∧  stk = [.int k0_j5] ∧ va_P (dC, dI) vwCl (WL hL aL kL hT hM xL_tree iL_names gL_key fL_kind fL_one fL_two fL_base iL_params fL_paramOver dL_paramOver nL_params fL_paramUnder dL_paramUnder nL_pu gL_over gL_under fL_bound iL_nameAt iL_startAt iL_steps jL_scaleOver jL_scaleUnder ++ (WT hT aT kT fT_tape dT_tape nT_tape iT_length iT_fault iT_place iT_kind iT_at iT_number jT_name iT_next ++ (WM hM aM kM iM_stands iM_variables iM_rows iM_goals iM_differents iM_cases fM_from fM_to fM_whole fM_ways iM_plainRows fM_plainRow fM_kept fM_goalOver fM_goalUnder fM_goalMax fM_different))) H ∧ va_D A (WL hL aL kL hT hM xL_tree iL_names gL_key fL_kind fL_one fL_two fL_base iL_params fL_paramOver dL_paramOver nL_params fL_paramUnder dL_paramUnder nL_pu gL_over gL_under fL_bound iL_nameAt iL_startAt iL_steps jL_scaleOver jL_scaleUnder ++ (WT hT aT kT fT_tape dT_tape nT_tape iT_length iT_fault iT_place iT_kind iT_at iT_number jT_name iT_next ++ (WM hM aM kM iM_stands iM_variables iM_rows iM_goals iM_differents iM_cases fM_from fM_to fM_whole fM_ways iM_plainRows fM_plainRow fM_kept fM_goalOver fM_goalUnder fM_goalMax fM_different))) ∧ va_S A s.heap H locs ∧ lv_has ls 12 [(4, .int r3), (3, .int (iI (p1.toInt * 9))), (0, .ref (hL 0)), (1, .int p1), (2, .int p2)]) (fun join5 => ?_) ?_
    · refine lv_if_eq (tgt := 45) hx hb dX10_multiply_38 (by decide) (fun c_38 => ?_) (fun c_38 => ?_)
      · have t_38 : r3.toInt = 0 := toI_eq c_38 rfl (by decide : (0 : Int32).toInt = 0)
        refine lv_iload_n hx hb dX10_multiply_45 rfl (lv_at hl 1 rfl) ?_
        refine lv_bipush (v := 9) hx hb dX10_multiply_46 (by decide) ?_
        refine lv_iadd hx hb dX10_multiply_48 ?_
        refine lv_topi (fun y9 hy9 => ?_)
        obtain rfl : (iI ((p1.toInt * 9) + 9)) = y9 := (hy9.trans (iI_add2 rfl (by decide : (9 : Int32) = iI 9))).symm
        have hl : lv_has _ _ ([(4, .int r3), (3, .int (iI (p1.toInt * 9))), (0, .ref (hL 0)), (1, .int p1), (2, .int p2)]) := lv_sub hl [0, 1, 2, 3, 4] rfl
        exact join5 _ _ _ _ ⟨(iI ((p1.toInt * 9) + 9)), (iI_rng (Int.le_trans (by decide) (Int.add_le_add (Int.mul_le_mul_of_nonneg_right (b_p1.1) (by decide)) (Int.le_refl _))) (Int.le_trans (Int.add_le_add (Int.mul_le_mul_of_nonneg_right (b_p1.2) (by decide)) (Int.le_refl _)) (by decide)) (by decide) (by decide)), rfl, hP, hD, hS, hl⟩
      · have t_38 : ¬ r3.toInt = 0 := toI_neq c_38 rfl (by decide : (0 : Int32).toInt = 0)
        refine lv_iload_n hx hb dX10_multiply_41 rfl (lv_at hl 1 rfl) ?_
        refine lv_goto (tgt := 49) hx hb dX10_multiply_42 (by decide) ?_
        have hl : lv_has _ _ ([(4, .int r3), (3, .int (iI (p1.toInt * 9))), (0, .ref (hL 0)), (1, .int p1), (2, .int p2)]) := lv_sub hl [0, 1, 2, 3, 4] rfl
        exact join5 _ _ _ _ ⟨(iI (p1.toInt * 9)), (iI_rng (Int.le_trans (by decide) (Int.mul_le_mul_of_nonneg_right (b_p1.1) (by decide))) (Int.le_trans (Int.mul_le_mul_of_nonneg_right (b_p1.2) (by decide)) (by decide)) (by decide) (by decide)), rfl, hP, hD, hS, hl⟩
    · rintro H locs ls stk ⟨k0_j5, b_k0_j5, rfl, hP, hD, hS, hl⟩
      refine lv_istore hx hb dX10_multiply_49 hl (by decide) rfl (fun ls (hl : lv_has ls _ ([(5, .int k0_j5), (4, .int r3), (3, .int (iI (p1.toInt * 9))), (0, .ref (hL 0)), (1, .int p1), (2, .int p2)])) => ?_)
      refine lv_iload hx hb dX10_multiply_51 (lv_at hl 1 rfl) ?_
      refine W.cut (pc := 64) (fun H locs ls stk => ∃ (k0_j6 : Int32), (0 ≤ k0_j6.toInt ∧ k0_j6.toInt ≤ 351) ∧  stk = [.int k0_j6] ∧ va_P (dC, dI) vwCl (WL hL aL kL hT hM xL_tree iL_names gL_key fL_kind fL_one fL_two fL_base iL_params fL_paramOver dL_paramOver nL_params fL_paramUnder dL_paramUnder nL_pu gL_over gL_under fL_bound iL_nameAt iL_startAt iL_steps jL_scaleOver jL_scaleUnder ++ (WT hT aT kT fT_tape dT_tape nT_tape iT_length iT_fault iT_place iT_kind iT_at iT_number jT_name iT_next ++ (WM hM aM kM iM_stands iM_variables iM_rows iM_goals iM_differents iM_cases fM_from fM_to fM_whole fM_ways iM_plainRows fM_plainRow fM_kept fM_goalOver fM_goalUnder fM_goalMax fM_different))) H ∧ va_D A (WL hL aL kL hT hM xL_tree iL_names gL_key fL_kind fL_one fL_two fL_base iL_params fL_paramOver dL_paramOver nL_params fL_paramUnder dL_paramUnder nL_pu gL_over gL_under fL_bound iL_nameAt iL_startAt iL_steps jL_scaleOver jL_scaleUnder ++ (WT hT aT kT fT_tape dT_tape nT_tape iT_length iT_fault iT_place iT_kind iT_at iT_number jT_name iT_next ++ (WM hM aM kM iM_stands iM_variables iM_rows iM_goals iM_differents iM_cases fM_from fM_to fM_whole fM_ways iM_plainRows fM_plainRow fM_kept fM_goalOver fM_goalUnder fM_goalMax fM_different))) ∧ va_S A s.heap H locs ∧ lv_has ls 12 [(5, .int k0_j5), (4, .int r3), (3, .int (iI (p1.toInt * 9))), (0, .ref (hL 0)), (1, .int p1), (2, .int p2)]) (fun join6 => ?_) ?_
      · refine lv_if_eq (tgt := 63) hx hb dX10_multiply_53 (by decide) (fun c_53 => ?_) (fun c_53 => ?_)
        · have t_53 : r3.toInt = 0 := toI_eq c_53 rfl (by decide : (0 : Int32).toInt = 0)
          refine lv_iload_n hx hb dX10_multiply_63 rfl (lv_at hl 2 rfl) ?_
          have hl : lv_has _ _ ([(5, .int k0_j5), (4, .int r3), (3, .int (iI (p1.toInt * 9))), (0, .ref (hL 0)), (1, .int p1), (2, .int p2)]) := lv_sub hl [0, 1, 2, 3, 4, 5] rfl
          exact join6 _ _ _ _ ⟨(iI (p1.toInt * 9)), (iI_rng (Int.le_trans (by decide) (Int.mul_le_mul_of_nonneg_right (b_p1.1) (by decide))) (Int.le_trans (Int.mul_le_mul_of_nonneg_right (b_p1.2) (by decide)) (by decide)) (by decide) (by decide)), rfl, hP, hD, hS, hl⟩
        · have t_53 : ¬ r3.toInt = 0 := toI_neq c_53 rfl (by decide : (0 : Int32).toInt = 0)
          refine lv_iload_n hx hb dX10_multiply_56 rfl (lv_at hl 2 rfl) ?_
          refine lv_bipush (v := 9) hx hb dX10_multiply_57 (by decide) ?_
          refine lv_iadd hx hb dX10_multiply_59 ?_
          refine lv_topi (fun y11 hy11 => ?_)
          obtain rfl : (iI ((p1.toInt * 9) + 9)) = y11 := (hy11.trans (iI_add2 rfl (by decide : (9 : Int32) = iI 9))).symm
          refine lv_goto (tgt := 64) hx hb dX10_multiply_60 (by decide) ?_
          have hl : lv_has _ _ ([(5, .int k0_j5), (4, .int r3), (3, .int (iI (p1.toInt * 9))), (0, .ref (hL 0)), (1, .int p1), (2, .int p2)]) := lv_sub hl [0, 1, 2, 3, 4, 5] rfl
          exact join6 _ _ _ _ ⟨(iI ((p1.toInt * 9) + 9)), (iI_rng (Int.le_trans (by decide) (Int.add_le_add (Int.mul_le_mul_of_nonneg_right (b_p1.1) (by decide)) (Int.le_refl _))) (Int.le_trans (Int.add_le_add (Int.mul_le_mul_of_nonneg_right (b_p1.2) (by decide)) (Int.le_refl _)) (by decide)) (by decide) (by decide)), rfl, hP, hD, hS, hl⟩
      · rintro H locs ls stk ⟨k0_j6, b_k0_j6, rfl, hP, hD, hS, hl⟩
        refine lv_istore hx hb dX10_multiply_64 hl (by decide) rfl (fun ls (hl : lv_has ls _ ([(6, .int k0_j6), (5, .int k0_j5), (4, .int r3), (3, .int (iI (p1.toInt * 9))), (0, .ref (hL 0)), (1, .int p1), (2, .int p2)])) => ?_)
        refine lv_aload_n hx hb dX10_multiply_66 rfl (lv_at hl 4 rfl) ?_
        refine va_get (D := (dC, dI)) (ci := 10) (v := .ref (aL 7)) (C := RX10) (T := TX10) (N := 20) hx hb hts iwsMX10_multiply_in10 hown hK hP 0 rfl rfl 12 (by decide) (hts _ hm_m_X10_multiply_0) (fun _ h9 => h9) rfl dX10_multiply_67 ?_
        refine lv_iload hx hb dX10_multiply_70 (lv_at hl 1 rfl) ?_
        refine va_lald (cA := kL 7) (n := 360) (f := gL_over) hx hb hK hP 8 7 rfl rfl (vp_in_iff.mpr ⟨b_k0_j5.1, (Int.lt_of_le_of_lt (b_k0_j5.2) (by decide))⟩) dX10_multiply_72 ?_
        refine lv_topl (fun v12 hv12 => ?_)
        clear hv12
        refine lv_lstore hx hb dX10_multiply_73 hl (by decide) rfl (fun ls (hl : lv_has ls _ ([(7, .long v12), (6, .int k0_j6), (5, .int k0_j5), (4, .int r3), (3, .int (iI (p1.toInt * 9))), (0, .ref (hL 0)), (1, .int p1), (2, .int p2)])) => ?_)
        refine lv_aload_n hx hb dX10_multiply_75 rfl (lv_at hl 5 rfl) ?_
        refine va_get (D := (dC, dI)) (ci := 10) (v := .ref (aL 8)) (C := RX10) (T := TX10) (N := 20) hx hb hts iwsMX10_multiply_in10 hown hK hP 0 rfl rfl 13 (by decide) (hts _ hm_m_X10_multiply_1) (fun _ h9 => h9) rfl dX10_multiply_76 ?_
        refine lv_iload hx hb dX10_multiply_79 (lv_at hl 2 rfl) ?_
        refine va_lald (cA := kL 8) (n := 360) (f := gL_under) hx hb hK hP 9 8 rfl rfl (vp_in_iff.mpr ⟨b_k0_j5.1, (Int.lt_of_le_of_lt (b_k0_j5.2) (by decide))⟩) dX10_multiply_81 ?_
        refine lv_topl (fun v13 hv13 => ?_)
        clear hv13
        refine lv_lstore hx hb dX10_multiply_82 hl (by decide) rfl (fun ls (hl : lv_has ls _ ([(9, .long v13), (7, .long v12), (6, .int k0_j6), (5, .int k0_j5), (4, .int r3), (3, .int (iI (p1.toInt * 9))), (0, .ref (hL 0)), (1, .int p1), (2, .int p2)])) => ?_)
        refine lv_iconst (v := 0) hx hb dX10_multiply_84 (by decide) ?_
        refine lv_istore hx hb dX10_multiply_85 hl (by decide) rfl (fun ls (hl : lv_has ls _ ([(11, .int 0), (9, .long v13), (7, .long v12), (6, .int k0_j6), (5, .int k0_j5), (4, .int r3), (3, .int (iI (p1.toInt * 9))), (0, .ref (hL 0)), (1, .int p1), (2, .int p2)])) => ?_)
        have hl : lv_has _ _ ([(11, .int 0), (9, .long v13), (7, .long v12), (6, .int k0_j6), (5, .int k0_j5), (4, .int r3), (3, .int (iI (p1.toInt * 9))), (0, .ref (hL 0)), (1, .int p1), (2, .int p2)]) := lv_sub hl [0, 1, 2, 3, 4, 5, 6, 7, 8, 9] rfl
        refine (fun (loop : ∀ (n9 : Nat) (gL_over_x87 : Nat → Int64) (gL_under_x87 : Nat → Int64) (iT_fault_x87 : Int32) (iT_place_x87 : Int32) (l11_x87 : Int32) (H : Heap) (locs : List Loc) (ls : Array Slot), (0 ≤ l11_x87.toInt ∧ l11_x87.toInt ≤ 9) → (9 - l11_x87.toInt < ((n9 : Nat) : Int)) → va_P (dC, dI) vwCl (WL hL aL kL hT hM xL_tree iL_names gL_key fL_kind fL_one fL_two fL_base iL_params fL_paramOver dL_paramOver nL_params fL_paramUnder dL_paramUnder nL_pu gL_over_x87 gL_under_x87 fL_bound iL_nameAt iL_startAt iL_steps jL_scaleOver jL_scaleUnder ++ (WT hT aT kT fT_tape dT_tape nT_tape iT_length iT_fault_x87 iT_place_x87 iT_kind iT_at iT_number jT_name iT_next ++ (WM hM aM kM iM_stands iM_variables iM_rows iM_goals iM_differents iM_cases fM_from fM_to fM_whole fM_ways iM_plainRows fM_plainRow fM_kept fM_goalOver fM_goalUnder fM_goalMax fM_different))) H → va_D A (WL hL aL kL hT hM xL_tree iL_names gL_key fL_kind fL_one fL_two fL_base iL_params fL_paramOver dL_paramOver nL_params fL_paramUnder dL_paramUnder nL_pu gL_over_x87 gL_under_x87 fL_bound iL_nameAt iL_startAt iL_steps jL_scaleOver jL_scaleUnder ++ (WT hT aT kT fT_tape dT_tape nT_tape iT_length iT_fault_x87 iT_place_x87 iT_kind iT_at iT_number jT_name iT_next ++ (WM hM aM kM iM_stands iM_variables iM_rows iM_goals iM_differents iM_cases fM_from fM_to fM_whole fM_ways iM_plainRows fM_plainRow fM_kept fM_goalOver fM_goalUnder fM_goalMax fM_different))) → va_S A s.heap H locs → lv_has ls 12 [(11, .int l11_x87), (9, .long v13), (7, .long v12), (6, .int k0_j6), (5, .int k0_j5), (4, .int r3), (3, .int (iI (p1.toInt * 9))), (0, .ref (hL 0)), (1, .int p1), (2, .int p2)] → W p l e _ s m _ below meth c H locs 0 0 _ (F0 m 87 ls [])) => loop (10) gL_over gL_under iT_fault iT_place 0 _ _ _ (show 0 ≤ (0 : Int32).toInt ∧ (0 : Int32).toInt ≤ 9 from by decide) ((by have e9 : (0 : Int32).toInt = 0 := (by decide : (0 : Int32).toInt = 0); omega)) hP hD hS hl) ?_
        intro n9
        induction n9 with
        | zero => intro gL_over_x87 gL_under_x87 iT_fault_x87 iT_place_x87 l11_x87 H locs ls b_l11_x87 hf9; exact False.elim (by omega)
        | succ n9 ihx87 =>
          intro gL_over_x87 gL_under_x87 iT_fault_x87 iT_place_x87 l11_x87 H locs ls b_l11_x87 hfx87 hP hD hS hl
          refine lv_iload hx hb dX10_multiply_87 (lv_at hl 0 rfl) ?_
          refine lv_aload_n hx hb dX10_multiply_89 rfl (lv_at hl 7 rfl) ?_
          refine va_get (D := (dC, dI)) (ci := 10) (v := .ref (hM 0)) (C := RX10) (T := TX10) (N := 20) hx hb hts iwsMX10_multiply_in10 hown hK hP 0 rfl rfl 1 (by decide) (hts (.fieldLink RX10 51 "OptimaWorks$Worker" "model" "LOptimaWorks$Model;") (by decide +kernel)) (fun _ h9 => h9) rfl dX10_multiply_90 ?_
          refine va_get (D := (dC, dI)) (ci := 1) (v := .int iM_variables) (C := RX1) (T := TX1) (N := 17) hx hb hts iwsMX10_multiply_in1 hown hK hP 13 rfl rfl 1 (by decide) (hts (.fieldLink RX10 93 "OptimaWorks$Model" "variables" "I") (by decide +kernel)) (fun _ h9 => h9) rfl dX10_multiply_93 ?_
          refine lv_icmp_gt (tgt := 140) hx hb dX10_multiply_96 (by decide) (fun c_96 => ?_) (fun c_96 => ?_)
          · have t_96 : l11_x87.toInt > iM_variables.toInt := toI_gt c_96 rfl rfl
            refine vx_ret ?_
            refine W.known (fun hz9 _ => ?_)
            refine W.widen (k := 1) (n := 6) (by decide +kernel) (by decide +kernel) ?_
            exact W.vret hx hb hr (fun t9_ ht hW => ⟨⟨(gL_over_x87, gL_under_x87, iT_fault_x87, iT_place_x87), rfl, trivial, by rw [ht]; exact hP, hD, by rw [ht]; first | done | exact Nat.le_antisymm hz9 hS.1⟩, hS.F ht⟩) hS.2.2 dX10_multiply_140
          · have t_96 : ¬ l11_x87.toInt > iM_variables.toInt := toI_ngt c_96 rfl rfl
            refine lv_aload_n hx hb dX10_multiply_99 rfl (lv_at hl 7 rfl) ?_
            refine lv_iload_n hx hb dX10_multiply_100 rfl (lv_at hl 6 rfl) ?_
            refine lv_iload hx hb dX10_multiply_101 (lv_at hl 0 rfl) ?_
            refine lv_iadd hx hb dX10_multiply_103 ?_
            refine lv_topi (fun y54 hy54 => ?_)
            obtain rfl : (iI ((p1.toInt * 9) + l11_x87.toInt)) = y54 := (hy54.trans (iI_add2 rfl (iI_of _))).symm
            refine lv_aload_n hx hb dX10_multiply_104 rfl (lv_at hl 7 rfl) ?_
            refine va_get (D := (dC, dI)) (ci := 10) (v := .ref (aL 7)) (C := RX10) (T := TX10) (N := 20) hx hb hts iwsMX10_multiply_in10 hown hK hP 0 rfl rfl 12 (by decide) (hts _ hm_m_X10_multiply_0) (fun _ h9 => h9) rfl dX10_multiply_105 ?_
            refine lv_iload hx hb dX10_multiply_108 (lv_at hl 3 rfl) ?_
            refine lv_iload hx hb dX10_multiply_110 (lv_at hl 0 rfl) ?_
            refine lv_iadd hx hb dX10_multiply_112 ?_
            refine lv_topi (fun y55 hy55 => ?_)
            obtain rfl : (iI (k0_j6.toInt + l11_x87.toInt)) = y55 := (hy55.trans (iI_add2 (iI_of _) (iI_of _))).symm
            refine va_lald (cA := kL 7) (n := 360) (f := gL_over_x87) hx hb hK hP 8 7 rfl rfl (vp_iI (Int.le_trans (by decide) (Int.add_le_add (b_k0_j6.1) (b_l11_x87.1))) (by omega) (by decide)) dX10_multiply_113 ?_
            refine lv_topl (fun v56 hv56 => ?_)
            clear hv56
            refine lv_lload hx hb dX10_multiply_114 (lv_at hl 2 rfl) ?_
            refine lv_lmul hx hb dX10_multiply_116 ?_
            refine lv_topl (fun v57 hv57 => ?_)
            clear hv57
            refine lv_aload_n hx hb dX10_multiply_117 rfl (lv_at hl 7 rfl) ?_
            refine va_get (D := (dC, dI)) (ci := 10) (v := .ref (aL 8)) (C := RX10) (T := TX10) (N := 20) hx hb hts iwsMX10_multiply_in10 hown hK hP 0 rfl rfl 13 (by decide) (hts _ hm_m_X10_multiply_1) (fun _ h9 => h9) rfl dX10_multiply_118 ?_
            refine lv_iload hx hb dX10_multiply_121 (lv_at hl 3 rfl) ?_
            refine lv_iload hx hb dX10_multiply_123 (lv_at hl 0 rfl) ?_
            refine lv_iadd hx hb dX10_multiply_125 ?_
            refine lv_topi (fun y58 hy58 => ?_)
            obtain rfl : (iI (k0_j6.toInt + l11_x87.toInt)) = y58 := (hy58.trans (iI_add2 (iI_of _) (iI_of _))).symm
            refine va_lald (cA := kL 8) (n := 360) (f := gL_under_x87) hx hb hK hP 9 8 rfl rfl (vp_iI (Int.le_trans (by decide) (Int.add_le_add (b_k0_j6.1) (b_l11_x87.1))) (by omega) (by decide)) dX10_multiply_126 ?_
            refine lv_topl (fun v59 hv59 => ?_)
            clear hv59
            refine lv_lload hx hb dX10_multiply_127 (lv_at hl 1 rfl) ?_
            refine lv_lmul hx hb dX10_multiply_129 ?_
            refine lv_topl (fun v60 hv60 => ?_)
            clear hv60
            refine lv_iload_n hx hb dX10_multiply_130 rfl (lv_at hl 9 rfl) ?_
            refine W.known (fun hz0 _ => ?_)
            have p9 := cj_3_0_1 (WL hL aL kL hT hM xL_tree iL_names gL_key fL_kind fL_one fL_two fL_base iL_params fL_paramOver dL_paramOver nL_params fL_paramUnder dL_paramUnder nL_pu gL_over_x87 gL_under_x87 fL_bound iL_nameAt iL_startAt iL_steps jL_scaleOver jL_scaleUnder) (WT hT aT kT fT_tape dT_tape nT_tape iT_length iT_fault_x87 iT_place_x87 iT_kind iT_at iT_number jT_name iT_next) (WM hM aM kM iM_stands iM_variables iM_rows iM_goals iM_differents iM_cases fM_from fM_to fM_whole fM_ways iM_plainRows fM_plainRow fM_kept fM_goalOver fM_goalUnder fM_goalMax fM_different)
            have hPc := hP.mem (fun q h => p9.mem_iff.mpr (List.mem_append_left _ h))
            have hDc := (hD.perm p9).left
            have hKc : va_K (dC, dI) vwCl (tL kL ++ (tT kT)) _ := hK.sub [0, 1, 2, 3, 4, 5, 6, 7, 8, 9, 10] rfl
            have hFc := freeG p9 hD hS hA
            refine vx_callv (vx_runV (As := [.int (iI ((p1.toInt * 9) + l11_x87.toInt)), .long v57, .long v60, .int p2]) (rest := []) ⟨hx, hb, hml, hown, hts⟩ (m_X10_setFraction l hst dC dI hL aL kL hT hM xL_tree iL_names gL_key fL_kind fL_one fL_two fL_base iL_params fL_paramOver dL_paramOver nL_params fL_paramUnder dL_paramUnder nL_pu gL_over_x87 gL_under_x87 fL_bound iL_nameAt iL_startAt iL_steps jL_scaleOver jL_scaleUnder aT kT fT_tape dT_tape nT_tape iT_length iT_fault_x87 iT_place_x87 iT_kind iT_at iT_number jT_name iT_next (iI ((p1.toInt * 9) + l11_x87.toInt)) v57 v60 p2 (b_iL_names) b_fL_kind b_fL_two b_fL_base (b_iL_params) (by first | exact b_nL_params | with_reducible assumption | exact ⟨by omega, by omega⟩ | assumption) (by first | with_reducible assumption | omega | (rw [iI_t (by omega) (by omega)]; omega) | assumption) (by first | with_reducible assumption | omega | (rw [iI_t (by omega) (by omega)]; omega) | assumption) (by first | with_reducible assumption | omega | (rw [iI_t (by omega) (by omega)]; omega) | assumption) b_fT_tape (by first | exact b_nT_tape | with_reducible assumption | exact ⟨by omega, by omega⟩ | assumption) (b_iT_length) (b_iT_at) (b_iT_number) (b_iT_next) (by first | with_reducible assumption | omega | assumption) (iI_rng (Int.le_trans (by decide) (Int.add_le_add (Int.mul_le_mul_of_nonneg_right (b_p1.1) (by decide)) (b_l11_x87.1))) (Int.le_trans (Int.add_le_add (Int.mul_le_mul_of_nonneg_right (b_p1.2) (by decide)) (b_l11_x87.2)) (by decide)) (by decide) (by decide)) H.size) (cwV 4 hts gwsMX10_multiply_2 rfl rfl rfl hd_yX10_setFraction_RX10 (by decide +kernel)) (fz_preE (va_recv hK hP (ci := 10) (q0 := 0) rfl rfl) hPc hKc hDc (fun a U g mk qE => qE.call) (fun U hU9 hW => by rw [hU9]; exact (((hE : CE A s s.heap).kept hS.2.1).narrow (fun q h => hFc q h)).warm hW)) rfl rfl hl.1 rfl (lv_room (Nat.le_of_ble_eq_true rfl)) dX10_multiply_131 (by decide +kernel)) hS (fun q _ h => hFc q h) hFc (fun q _ h => hFc q h) (fun E ce q9 u t9_ H locs ht hvm hw9 hB9 hz1 hk1 hS hc1 hc2 hc3 => ?_) (fun u t9_ H locs ht hvm hw9 hB9 hz1 hk1 hS => ?_)
            · revert u hw9 hB9
              refine fz_p4 ?_
              intro gL_over_61 gL_under_61 iT_fault_61 iT_place_61 hw9 hB9
              try dsimp only at hw9 hB9
              revert hB9
              refine fz_a2 ?_
              intro hEx hB9
              clear hw9
              have p8 := cj_3_0_1 (WL hL aL kL hT hM xL_tree iL_names gL_key fL_kind fL_one fL_two fL_base iL_params fL_paramOver dL_paramOver nL_params fL_paramUnder dL_paramUnder nL_pu gL_over_61 gL_under_61 fL_bound iL_nameAt iL_startAt iL_steps jL_scaleOver jL_scaleUnder) (WT hT aT kT fT_tape dT_tape nT_tape iT_length iT_fault_61 iT_place_61 iT_kind iT_at iT_number jT_name iT_next) (WM hM aM kM iM_stands iM_variables iM_rows iM_goals iM_differents iM_cases fM_from fM_to fM_whole fM_ways iM_plainRows fM_plainRow fM_kept fM_goalOver fM_goalUnder fM_goalMax fM_different)
              obtain ⟨hP, hD⟩ := frameG p9 p8 hP hD hk1 hFc (fz_P ht hB9.1) hB9.2
              exact vx_out (fun x hx9 => (htab x hx9).elim) hlocks hc1 hc2 hc3 (fun t9_ ht hvm => ⟨(gL_over_61, gL_under_61, iT_fault_61, iT_place_61), trivial, ⟨(by have h9 := hEx; exact h9), by rw [ht]; exact hP, hD⟩, hS.F ht⟩) hS.2.2 (by decide +kernel) (by decide +kernel)
            revert u hw9 hB9
            refine fz_p4 ?_
            intro gL_over_61 gL_under_61 iT_fault_61 iT_place_61 hw9 hB9
            try dsimp only at hw9 hB9
            clear hw9
            have hz8 := hB9.2.2
            rw [ht] at hz8
            have hz9 : H.size ≤ s.heap.size + 0 := by rw [hz8]; exact hz0
            refine W.tight (cells2 := 0) (slots2 := 0) hz9 (nS_0 hz9) ?_
            clear hz8 hz9
            have p8 := cj_3_0_1 (WL hL aL kL hT hM xL_tree iL_names gL_key fL_kind fL_one fL_two fL_base iL_params fL_paramOver dL_paramOver nL_params fL_paramUnder dL_paramUnder nL_pu gL_over_61 gL_under_61 fL_bound iL_nameAt iL_startAt iL_steps jL_scaleOver jL_scaleUnder) (WT hT aT kT fT_tape dT_tape nT_tape iT_length iT_fault_61 iT_place_61 iT_kind iT_at iT_number jT_name iT_next) (WM hM aM kM iM_stands iM_variables iM_rows iM_goals iM_differents iM_cases fM_from fM_to fM_whole fM_ways iM_plainRows fM_plainRow fM_kept fM_goalOver fM_goalUnder fM_goalMax fM_different)
            obtain ⟨hP, hD⟩ := frameG p9 p8 hP hD hk1 hFc (fz_P ht hB9.1) hB9.2.1
            refine lv_iinc (v := (iI (l11_x87.toInt + 1))) hx hb dX10_multiply_134 hl (k := 0) rfl (iI_add2 (iI_of _) (by decide : (1 : Int32) = iI 1)) (by decide) rfl (fun ls (hl : lv_has ls _ ([(11, .int (iI (l11_x87.toInt + 1))), (9, .long v13), (7, .long v12), (6, .int k0_j6), (5, .int k0_j5), (4, .int r3), (3, .int (iI (p1.toInt * 9))), (0, .ref (hL 0)), (1, .int p1), (2, .int p2)])) => ?_)
            refine lv_goto (tgt := 87) hx hb dX10_multiply_137 (by decide) ?_
            have hl : lv_has _ _ ([(11, .int (iI (l11_x87.toInt + 1))), (9, .long v13), (7, .long v12), (6, .int k0_j6), (5, .int k0_j5), (4, .int r3), (3, .int (iI (p1.toInt * 9))), (0, .ref (hL 0)), (1, .int p1), (2, .int p2)]) := lv_sub hl [0, 1, 2, 3, 4, 5, 6, 7, 8, 9] rfl
            exact ihx87 gL_over_61 gL_under_61 iT_fault_61 iT_place_61 (iI (l11_x87.toInt + 1)) _ _ _ (iI_rng (Int.le_trans (by decide) (Int.add_le_add (b_l11_x87.1) (Int.le_refl _))) (by omega) (by decide) (by decide)) (by have e9 : ((iI (l11_x87.toInt + 1))).toInt = (l11_x87.toInt + 1) := (iI_t (Int.le_trans (by decide) (Int.add_le_add (b_l11_x87.1) (Int.le_refl _))) (Int.le_trans (Int.add_le_add (b_l11_x87.2) (Int.le_refl _)) (by decide))); omega) hP hD hS hl
theorem dX10_divide_0 : decode cX10_divide 0 = .ok (.iload_n 1, 1) := dk_27 (by decide +kernel)
theorem dX10_divide_1 : decode cX10_divide 1 = .ok (.bipush 9, 2) := dk_16 (by decide +kernel)
theorem dX10_divide_3 : decode cX10_divide 3 = .ok (.imul, 1) := dk_104 (by decide +kernel)
theorem dX10_divide_4 : decode cX10_divide 4 = .ok (.istore_n 3, 1) := dk_62 (by decide +kernel)
theorem dX10_divide_5 : decode cX10_divide 5 = .ok (.aload_n 0, 1) := dk_42 (by decide +kernel)
theorem dX10_divide_6 : decode cX10_divide 6 = .ok (.iload_n 1, 1) := dk_27 (by decide +kernel)
theorem dX10_divide_7 : decode cX10_divide 7 = .ok (.iconst 1, 1) := dk_4 (by decide +kernel)
theorem dX10_divide_8 : decode cX10_divide 8 = .ok (.iadd, 1) := dk_96 (by decide +kernel)
theorem dX10_divide_9 : decode cX10_divide 9 = .ok (.invokevirtual 207, 3) := dk_182 (by decide +kernel)
theorem dX10_divide_12 : decode cX10_divide 12 = .ok (.ifCond .eq 12, 3) := dk_153 (by decide +kernel)
theorem dX10_divide_15 : decode cX10_divide 15 = .ok (.aload_n 0, 1) := dk_42 (by decide +kernel)
theorem dX10_divide_16 : decode cX10_divide 16 = .ok (.getfield 47, 3) := dk_180 (by decide +kernel)
theorem dX10_divide_19 : decode cX10_divide 19 = .ok (.iconst 5, 1) := dk_8 (by decide +kernel)
theorem dX10_divide_20 : decode cX10_divide 20 = .ok (.iload_n 2, 1) := dk_28 (by decide +kernel)
theorem dX10_divide_21 : decode cX10_divide 21 = .ok (.invokevirtual 90, 3) := dk_182 (by decide +kernel)
theorem dX10_divide_24 : decode cX10_divide 24 = .ok (.aload_n 0, 1) := dk_42 (by decide +kernel)
theorem dX10_divide_25 : decode cX10_divide 25 = .ok (.getfield 36, 3) := dk_180 (by decide +kernel)
theorem dX10_divide_28 : decode cX10_divide 28 = .ok (.iload_n 3, 1) := dk_29 (by decide +kernel)
theorem dX10_divide_29 : decode cX10_divide 29 = .ok (.bipush 9, 2) := dk_16 (by decide +kernel)
theorem dX10_divide_31 : decode cX10_divide 31 = .ok (.iadd, 1) := dk_96 (by decide +kernel)
theorem dX10_divide_32 : decode cX10_divide 32 = .ok (.laload, 1) := dk_47 (by decide +kernel)
theorem dX10_divide_33 : decode cX10_divide 33 = .ok (.lstore 4, 2) := dk_55 (by decide +kernel)
theorem dX10_divide_35 : decode cX10_divide 35 = .ok (.aload_n 0, 1) := dk_42 (by decide +kernel)
theorem dX10_divide_36 : decode cX10_divide 36 = .ok (.getfield 39, 3) := dk_180 (by decide +kernel)
theorem dX10_divide_39 : decode cX10_divide 39 = .ok (.iload_n 3, 1) := dk_29 (by decide +kernel)
theorem dX10_divide_40 : decode cX10_divide 40 = .ok (.bipush 9, 2) := dk_16 (by decide +kernel)
theorem dX10_divide_42 : decode cX10_divide 42 = .ok (.iadd, 1) := dk_96 (by decide +kernel)
theorem dX10_divide_43 : decode cX10_divide 43 = .ok (.laload, 1) := dk_47 (by decide +kernel)
theorem dX10_divide_44 : decode cX10_divide 44 = .ok (.lstore 6, 2) := dk_55 (by decide +kernel)
theorem dX10_divide_46 : decode cX10_divide 46 = .ok (.lload 4, 2) := dk_22 (by decide +kernel)
theorem dX10_divide_48 : decode cX10_divide 48 = .ok (.lconst 0, 1) := dk_9 (by decide +kernel)
theorem dX10_divide_49 : decode cX10_divide 49 = .ok (.lcmp, 1) := dk_148 (by decide +kernel)
theorem dX10_divide_50 : decode cX10_divide 50 = .ok (.ifCond .ne 13, 3) := dk_154 (by decide +kernel)
theorem dX10_divide_53 : decode cX10_divide 53 = .ok (.aload_n 0, 1) := dk_42 (by decide +kernel)
theorem dX10_divide_54 : decode cX10_divide 54 = .ok (.getfield 47, 3) := dk_180 (by decide +kernel)
theorem dX10_divide_57 : decode cX10_divide 57 = .ok (.bipush 6, 2) := dk_16 (by decide +kernel)
theorem dX10_divide_59 : decode cX10_divide 59 = .ok (.iload_n 2, 1) := dk_28 (by decide +kernel)
theorem dX10_divide_60 : decode cX10_divide 60 = .ok (.invokevirtual 90, 3) := dk_182 (by decide +kernel)
theorem dX10_divide_63 : decode cX10_divide 63 = .ok (.lload 4, 2) := dk_22 (by decide +kernel)
theorem dX10_divide_65 : decode cX10_divide 65 = .ok (.lconst 0, 1) := dk_9 (by decide +kernel)
theorem dX10_divide_66 : decode cX10_divide 66 = .ok (.lcmp, 1) := dk_148 (by decide +kernel)
theorem dX10_divide_67 : decode cX10_divide 67 = .ok (.ifCond .ge 9, 3) := dk_156 (by decide +kernel)
theorem dX10_divide_70 : decode cX10_divide 70 = .ok (.lload 6, 2) := dk_22 (by decide +kernel)
theorem dX10_divide_72 : decode cX10_divide 72 = .ok (.lneg, 1) := dk_117 (by decide +kernel)
theorem dX10_divide_73 : decode cX10_divide 73 = .ok (.goto 5, 3) := dk_167 (by decide +kernel)
theorem dX10_divide_76 : decode cX10_divide 76 = .ok (.lload 6, 2) := dk_22 (by decide +kernel)
theorem dX10_divide_78 : decode cX10_divide 78 = .ok (.lstore 8, 2) := dk_55 (by decide +kernel)
theorem dX10_divide_80 : decode cX10_divide 80 = .ok (.iconst 0, 1) := dk_3 (by decide +kernel)
theorem dX10_divide_81 : decode cX10_divide 81 = .ok (.istore 10, 2) := dk_54 (by decide +kernel)
theorem dX10_divide_83 : decode cX10_divide 83 = .ok (.iload 10, 2) := dk_21 (by decide +kernel)
theorem dX10_divide_85 : decode cX10_divide 85 = .ok (.aload_n 0, 1) := dk_42 (by decide +kernel)
theorem dX10_divide_86 : decode cX10_divide 86 = .ok (.getfield 51, 3) := dk_180 (by decide +kernel)
theorem dX10_divide_89 : decode cX10_divide 89 = .ok (.getfield 93, 3) := dk_180 (by decide +kernel)
theorem dX10_divide_92 : decode cX10_divide 92 = .ok (.if_icmp .gt 45, 3) := dk_163 (by decide +kernel)
theorem dX10_divide_95 : decode cX10_divide 95 = .ok (.aload_n 0, 1) := dk_42 (by decide +kernel)
theorem dX10_divide_96 : decode cX10_divide 96 = .ok (.iload_n 3, 1) := dk_29 (by decide +kernel)
theorem dX10_divide_97 : decode cX10_divide 97 = .ok (.iload 10, 2) := dk_21 (by decide +kernel)
theorem dX10_divide_99 : decode cX10_divide 99 = .ok (.iadd, 1) := dk_96 (by decide +kernel)
theorem dX10_divide_100 : decode cX10_divide 100 = .ok (.aload_n 0, 1) := dk_42 (by decide +kernel)
theorem dX10_divide_101 : decode cX10_divide 101 = .ok (.getfield 36, 3) := dk_180 (by decide +kernel)
theorem dX10_divide_104 : decode cX10_divide 104 = .ok (.iload_n 3, 1) := dk_29 (by decide +kernel)
theorem dX10_divide_105 : decode cX10_divide 105 = .ok (.iload 10, 2) := dk_21 (by decide +kernel)
theorem dX10_divide_107 : decode cX10_divide 107 = .ok (.iadd, 1) := dk_96 (by decide +kernel)
theorem dX10_divide_108 : decode cX10_divide 108 = .ok (.laload, 1) := dk_47 (by decide +kernel)
theorem dX10_divide_109 : decode cX10_divide 109 = .ok (.lload 8, 2) := dk_22 (by decide +kernel)
theorem dX10_divide_111 : decode cX10_divide 111 = .ok (.lmul, 1) := dk_105 (by decide +kernel)
theorem dX10_divide_112 : decode cX10_divide 112 = .ok (.aload_n 0, 1) := dk_42 (by decide +kernel)
theorem dX10_divide_113 : decode cX10_divide 113 = .ok (.getfield 39, 3) := dk_180 (by decide +kernel)
theorem dX10_divide_116 : decode cX10_divide 116 = .ok (.iload_n 3, 1) := dk_29 (by decide +kernel)
theorem dX10_divide_117 : decode cX10_divide 117 = .ok (.iload 10, 2) := dk_21 (by decide +kernel)
theorem dX10_divide_119 : decode cX10_divide 119 = .ok (.iadd, 1) := dk_96 (by decide +kernel)
theorem dX10_divide_120 : decode cX10_divide 120 = .ok (.laload, 1) := dk_47 (by decide +kernel)
theorem dX10_divide_121 : decode cX10_divide 121 = .ok (.lload 4, 2) := dk_22 (by decide +kernel)
theorem dX10_divide_123 : decode cX10_divide 123 = .ok (.invokestatic 179, 3) := dk_184 (by decide +kernel)
theorem dX10_divide_126 : decode cX10_divide 126 = .ok (.lmul, 1) := dk_105 (by decide +kernel)
theorem dX10_divide_127 : decode cX10_divide 127 = .ok (.iload_n 2, 1) := dk_28 (by decide +kernel)
theorem dX10_divide_128 : decode cX10_divide 128 = .ok (.invokevirtual 203, 3) := dk_182 (by decide +kernel)
theorem dX10_divide_131 : decode cX10_divide 131 = .ok (.iinc 10 1, 3) := dk_132 (by decide +kernel)
theorem dX10_divide_134 : decode cX10_divide 134 = .ok (.goto (-51), 3) := dk_167 (by decide +kernel)
theorem dX10_divide_137 : decode cX10_divide 137 = .ok (.return_, 1) := dk_177 (by decide +kernel)
def wsMX10_divide : List Cond := .code yX10_divide cX10_divide 11 none :: ([.fieldLink RX10 47 "OptimaWorks$Worker" "words" "LOptimaWorks$Words;", .fieldLink RX10 36 "OptimaWorks$Worker" "over" "[J", .fieldLink RX10 39 "OptimaWorks$Worker" "under" "[J", .fieldLink RX10 51 "OptimaWorks$Worker" "model" "LOptimaWorks$Model;", .fieldLink RX10 93 "OptimaWorks$Model" "variables" "I", .methodLink RX10 179 Lib.MathLoose.abs_long.x, .static Lib.MathLoose.abs_long.x, .initialized "java/lang/Math", .code Lib.MathLoose.abs_long.x Lib.MathLoose.abs_long.code 2 (some .long)] ++ wsX10 ++ wsX100 ++ (wsV RX10 207 RX10 yX10_hasVariables wsMX10_hasVariables) ++ (wsV RX10 90 RX9 yX9_fail wsMX9_fail) ++ (wsV RX10 203 RX10 yX10_setFraction wsMX10_setFraction))
theorem iwsMX10_divide_in1 : ∀ w ∈ wsX10, w ∈ wsMX10_divide := fun _ h => List.mem_cons_of_mem _ (List.mem_append_left _ (List.mem_append_left _ (List.mem_append_left _ (List.mem_append_left _ (List.mem_append_right _ h)))))
theorem iwsMX10_divide_in10 : ∀ w ∈ wsX100, w ∈ wsMX10_divide := fun _ h => List.mem_cons_of_mem _ (List.mem_append_left _ (List.mem_append_left _ (List.mem_append_left _ (List.mem_append_right _ h))))
theorem gwsMX10_divide_0 : GoodIn wsMX10_divide (wsV RX10 207 RX10 yX10_hasVariables wsMX10_hasVariables) := goodIn_sub (fun _ h => List.mem_cons_of_mem _ (List.mem_append_left _ (List.mem_append_left _ (List.mem_append_right _ h)))) (gdV (by decide +kernel) gdwsMX10_hasVariables)
theorem gwsMX10_divide_1 : GoodIn wsMX10_divide (wsV RX10 90 RX9 yX9_fail wsMX9_fail) := goodIn_sub (fun _ h => List.mem_cons_of_mem _ (List.mem_append_left _ (List.mem_append_right _ h))) (gdV (by decide +kernel) gdwsMX9_fail)
theorem gwsMX10_divide_2 : GoodIn wsMX10_divide (wsV RX10 203 RX10 yX10_setFraction wsMX10_setFraction) := goodIn_sub (fun _ h => List.mem_cons_of_mem _ (List.mem_append_right _ h)) (gdV (by decide +kernel) gdwsMX10_setFraction)
theorem gdwsMX10_divide : wsMX10_divide.all goodWord = true := gdC rfl (gdA (gdA (gdA (gdA (gdA (by decide +kernel : ([.fieldLink RX10 47 "OptimaWorks$Worker" "words" "LOptimaWorks$Words;", .fieldLink RX10 36 "OptimaWorks$Worker" "over" "[J", .fieldLink RX10 39 "OptimaWorks$Worker" "under" "[J", .fieldLink RX10 51 "OptimaWorks$Worker" "model" "LOptimaWorks$Model;", .fieldLink RX10 93 "OptimaWorks$Model" "variables" "I", .methodLink RX10 179 Lib.MathLoose.abs_long.x, .static Lib.MathLoose.abs_long.x, .initialized "java/lang/Math", .code Lib.MathLoose.abs_long.x Lib.MathLoose.abs_long.code 2 (some .long)] : List Cond).all goodWord = true) gdwsX10) gdwsX100) (gdV (by decide +kernel) gdwsMX10_hasVariables)) (gdV (by decide +kernel) gdwsMX9_fail)) (gdV (by decide +kernel) gdwsMX10_setFraction))
theorem hm_m_X10_divide_0 : (.fieldLink RX10 36 "OptimaWorks$Worker" "over" "[J" : Cond) ∈ wsMX10_divide := by decide +kernel
theorem hm_m_X10_divide_1 : (.fieldLink RX10 39 "OptimaWorks$Worker" "under" "[J" : Cond) ∈ wsMX10_divide := by decide +kernel
theorem hm_m_X10_divide_2 : (.fieldLink RX10 47 "OptimaWorks$Worker" "words" "LOptimaWorks$Words;" : Cond) ∈ wsMX10_divide := by decide +kernel
set_option maxHeartbeats 4000000 in
set_option maxRecDepth 100000 in
/-- a value by a number -/
theorem m_X10_divide (l : Launch) (hst : l.stackTraces = false) (dC : Nat → ClassId) (dI : Nat → Nat → Nat) (hL : Nat → Nat) (aL : Nat → Nat) (kL : Nat → ClassId) (hT : Nat → Nat) (hM : Nat → Nat) (xL_tree : Value) (iL_names : Int32) (gL_key : Nat → Int64) (fL_kind : Nat → Int32) (fL_one : Nat → Int32) (fL_two : Nat → Int32) (fL_base : Nat → Int32) (iL_params : Int32) (fL_paramOver : Nat → Int32) (dL_paramOver : Nat) (nL_params : Nat) (fL_paramUnder : Nat → Int32) (dL_paramUnder : Nat) (nL_pu : Nat) (gL_over : Nat → Int64) (gL_under : Nat → Int64) (fL_bound : Nat → Int32) (iL_nameAt : Int32) (iL_startAt : Int32) (iL_steps : Int32) (jL_scaleOver : Int64) (jL_scaleUnder : Int64) (aT : Nat → Nat) (kT : Nat → ClassId) (fT_tape : Nat → Int32) (dT_tape : Nat) (nT_tape : Nat) (iT_length : Int32) (iT_fault : Int32) (iT_place : Int32) (iT_kind : Int32) (iT_at : Int32) (iT_number : Int32) (jT_name : Int64) (iT_next : Int32) (aM : Nat → Nat) (kM : Nat → ClassId) (iM_stands : Int32) (iM_variables : Int32) (iM_rows : Int32) (iM_goals : Int32) (iM_differents : Int32) (iM_cases : Int32) (fM_from : Nat → Int32) (fM_to : Nat → Int32) (fM_whole : Nat → Int32) (fM_ways : Nat → Int32) (iM_plainRows : Int32) (fM_plainRow : Nat → Int32) (fM_kept : Nat → Int32) (fM_goalOver : Nat → Int32) (fM_goalUnder : Nat → Int32) (fM_goalMax : Nat → Int32) (fM_different : Nat → Int32) (p1 : Int32) (p2 : Int32) (b_iL_names : 0 ≤ iL_names.toInt ∧ iL_names.toInt ≤ 40) (b_fL_kind : ∀ q : Nat, 0 ≤ (fL_kind q).toInt ∧ (fL_kind q).toInt ≤ 5) (b_fL_two : ∀ q : Nat, (-1) ≤ (fL_two q).toInt ∧ (fL_two q).toInt ≤ 39) (b_fL_base : ∀ q : Nat, 0 ≤ (fL_base q).toInt ∧ (fL_base q).toInt ≤ 2560) (b_iL_params : 0 ≤ iL_params.toInt ∧ iL_params.toInt ≤ 2560) (b_nL_params : 0 ≤ nL_params ∧ nL_params ≤ 2560) (b_nm : NmL iL_names fL_kind fL_one fL_two fL_base nL_params) (b_pm : iL_params.toInt ≤ ((nL_params : Nat) : Int)) (b_pu : nL_pu = nL_params) (b_fT_tape : ∀ q : Nat, (-128) ≤ (fT_tape q).toInt ∧ (fT_tape q).toInt ≤ 127) (b_nT_tape : 64 ≤ nT_tape ∧ nT_tape ≤ 2560) (b_iT_length : 0 ≤ iT_length.toInt ∧ iT_length.toInt ≤ 1280) (b_iT_at : 0 ≤ iT_at.toInt ∧ iT_at.toInt ≤ 1282) (b_iT_number : 0 ≤ iT_number.toInt ∧ iT_number.toInt ≤ 999999) (b_iT_next : 0 ≤ iT_next.toInt ∧ iT_next.toInt ≤ 1282) (b_len : iT_length.toInt ≤ ((nT_tape : Nat) : Int)) (b_iM_stands : 0 ≤ iM_stands.toInt ∧ iM_stands.toInt ≤ 1) (b_iM_variables : 0 ≤ iM_variables.toInt ∧ iM_variables.toInt ≤ 8) (b_iM_rows : 0 ≤ iM_rows.toInt ∧ iM_rows.toInt ≤ 12) (b_iM_goals : 0 ≤ iM_goals.toInt ∧ iM_goals.toInt ≤ 3) (b_iM_differents : 0 ≤ iM_differents.toInt ∧ iM_differents.toInt ≤ 8) (b_iM_cases : 0 ≤ iM_cases.toInt ∧ iM_cases.toInt ≤ 200000) (b_fM_ways : ∀ q : Nat, 0 ≤ (fM_ways q).toInt ∧ (fM_ways q).toInt ≤ 3) (b_iM_plainRows : 0 ≤ iM_plainRows.toInt ∧ iM_plainRows.toInt ≤ 12) (b_fM_plainRow : ∀ q : Nat, 0 ≤ (fM_plainRow q).toInt ∧ (fM_plainRow q).toInt ≤ 11) (b_pr : iM_plainRows.toInt ≤ iM_rows.toInt) (b_p1 : 0 ≤ p1.toInt ∧ p1.toInt ≤ 38) (sz : Nat) : vx_Met l yX10_divide wsMX10_divide ({ frames := 8, cells := 1, slots := 6, locals := 135 }) (va_Pc [.ref (hL 0), .int p1, .int p2] (fun U => U.heap.size = sz ∧ va_P (dC, dI) vwCl (WL hL aL kL hT hM xL_tree iL_names gL_key fL_kind fL_one fL_two fL_base iL_params fL_paramOver dL_paramOver nL_params fL_paramUnder dL_paramUnder nL_pu gL_over gL_under fL_bound iL_nameAt iL_startAt iL_steps jL_scaleOver jL_scaleUnder ++ (WT hT aT kT fT_tape dT_tape nT_tape iT_length iT_fault iT_place iT_kind iT_at iT_number jT_name iT_next ++ (WM hM aM kM iM_stands iM_variables iM_rows iM_goals iM_differents iM_cases fM_from fM_to fM_whole fM_ways iM_plainRows fM_plainRow fM_kept fM_goalOver fM_goalUnder fM_goalMax fM_different))) U.heap ∧ va_K (dC, dI) vwCl (tL kL ++ (tT kT ++ (tM kM))) U ∧ va_D (fun _ => True) (WL hL aL kL hT hM xL_tree iL_names gL_key fL_kind fL_one fL_two fL_base iL_params fL_paramOver dL_paramOver nL_params fL_paramUnder dL_paramUnder nL_pu gL_over gL_under fL_bound iL_nameAt iL_startAt iL_steps jL_scaleOver jL_scaleUnder ++ (WT hT aT kT fT_tape dT_tape nT_tape iT_length iT_fault iT_place iT_kind iT_at iT_number jT_name iT_next ++ (WM hM aM kM iM_stands iM_variables iM_rows iM_goals iM_differents iM_cases fM_from fM_to fM_whole fM_ways iM_plainRows fM_plainRow fM_kept fM_goalOver fM_goalUnder fM_goalMax fM_different))) ∧ CE (va_A (WL hL aL kL hT hM xL_tree iL_names gL_key fL_kind fL_one fL_two fL_base iL_params fL_paramOver dL_paramOver nL_params fL_paramUnder dL_paramUnder nL_pu gL_over gL_under fL_bound iL_nameAt iL_startAt iL_steps jL_scaleOver jL_scaleUnder ++ (WT hT aT kT fT_tape dT_tape nT_tape iT_length iT_fault iT_place iT_kind iT_at iT_number jT_name iT_next ++ (WM hM aM kM iM_stands iM_variables iM_rows iM_goals iM_differents iM_cases fM_from fM_to fM_whole fM_ways iM_plainRows fM_plainRow fM_kept fM_goalOver fM_goalUnder fM_goalMax fM_different))) sz) U U.heap)) (va_Qv (fun (u : (Nat → Int64) × (Nat → Int64) × (Int32) × (Int32)) => True) (fun (u : (Nat → Int64) × (Nat → Int64) × (Int32) × (Int32)) t => va_P (dC, dI) vwCl (WL hL aL kL hT hM xL_tree iL_names gL_key fL_kind fL_one fL_two fL_base iL_params fL_paramOver dL_paramOver nL_params fL_paramUnder dL_paramUnder nL_pu (u.1) (u.2.1) fL_bound iL_nameAt iL_startAt iL_steps jL_scaleOver jL_scaleUnder ++ (WT hT aT kT fT_tape dT_tape nT_tape iT_length (u.2.2.1) (u.2.2.2) iT_kind iT_at iT_number jT_name iT_next ++ (WM hM aM kM iM_stands iM_variables iM_rows iM_goals iM_differents iM_cases fM_from fM_to fM_whole fM_ways iM_plainRows fM_plainRow fM_kept fM_goalOver fM_goalUnder fM_goalMax fM_different))) t.heap ∧ va_D (va_A (WL hL aL kL hT hM xL_tree iL_names gL_key fL_kind fL_one fL_two fL_base iL_params fL_paramOver dL_paramOver nL_params fL_paramUnder dL_paramUnder nL_pu gL_over gL_under fL_bound iL_nameAt iL_startAt iL_steps jL_scaleOver jL_scaleUnder ++ (WT hT aT kT fT_tape dT_tape nT_tape iT_length iT_fault iT_place iT_kind iT_at iT_number jT_name iT_next ++ (WM hM aM kM iM_stands iM_variables iM_rows iM_goals iM_differents iM_cases fM_from fM_to fM_whole fM_ways iM_plainRows fM_plainRow fM_kept fM_goalOver fM_goalUnder fM_goalMax fM_different))) sz) (WL hL aL kL hT hM xL_tree iL_names gL_key fL_kind fL_one fL_two fL_base iL_params fL_paramOver dL_paramOver nL_params fL_paramUnder dL_paramUnder nL_pu (u.1) (u.2.1) fL_bound iL_nameAt iL_startAt iL_steps jL_scaleOver jL_scaleUnder ++ (WT hT aT kT fT_tape dT_tape nT_tape iT_length (u.2.2.1) (u.2.2.2) iT_kind iT_at iT_number jT_name iT_next ++ (WM hM aM kM iM_stands iM_variables iM_rows iM_goals iM_differents iM_cases fM_from fM_to fM_whole fM_ways iM_plainRows fM_plainRow fM_kept fM_goalOver fM_goalUnder fM_goalMax fM_different))) ∧ t.heap.size = sz) (va_A (WL hL aL kL hT hM xL_tree iL_names gL_key fL_kind fL_one fL_two fL_base iL_params fL_paramOver dL_paramOver nL_params fL_paramUnder dL_paramUnder nL_pu gL_over gL_under fL_bound iL_nameAt iL_startAt iL_steps jL_scaleOver jL_scaleUnder ++ (WT hT aT kT fT_tape dT_tape nT_tape iT_length iT_fault iT_place iT_kind iT_at iT_number jT_name iT_next ++ (WM hM aM kM iM_stands iM_variables iM_rows iM_goals iM_differents iM_cases fM_from fM_to fM_whole fM_ways iM_plainRows fM_plainRow fM_kept fM_goalOver fM_goalUnder fM_goalMax fM_different))) sz)) (vx_X (fun (u : (Nat → Int64) × (Nat → Int64) × (Int32) × (Int32)) => True) (fun E (u : (Nat → Int64) × (Nat → Int64) × (Int32) × (Int32)) t => (E = "java/lang/IllegalArgumentException") ∧ va_P (dC, dI) vwCl (WL hL aL kL hT hM xL_tree iL_names gL_key fL_kind fL_one fL_two fL_base iL_params fL_paramOver dL_paramOver nL_params fL_paramUnder dL_paramUnder nL_pu (u.1) (u.2.1) fL_bound iL_nameAt iL_startAt iL_steps jL_scaleOver jL_scaleUnder ++ (WT hT aT kT fT_tape dT_tape nT_tape iT_length (u.2.2.1) (u.2.2.2) iT_kind iT_at iT_number jT_name iT_next ++ (WM hM aM kM iM_stands iM_variables iM_rows iM_goals iM_differents iM_cases fM_from fM_to fM_whole fM_ways iM_plainRows fM_plainRow fM_kept fM_goalOver fM_goalUnder fM_goalMax fM_different))) t.heap ∧ va_D (va_A (WL hL aL kL hT hM xL_tree iL_names gL_key fL_kind fL_one fL_two fL_base iL_params fL_paramOver dL_paramOver nL_params fL_paramUnder dL_paramUnder nL_pu gL_over gL_under fL_bound iL_nameAt iL_startAt iL_steps jL_scaleOver jL_scaleUnder ++ (WT hT aT kT fT_tape dT_tape nT_tape iT_length iT_fault iT_place iT_kind iT_at iT_number jT_name iT_next ++ (WM hM aM kM iM_stands iM_variables iM_rows iM_goals iM_differents iM_cases fM_from fM_to fM_whole fM_ways iM_plainRows fM_plainRow fM_kept fM_goalOver fM_goalUnder fM_goalMax fM_different))) sz) (WL hL aL kL hT hM xL_tree iL_names gL_key fL_kind fL_one fL_two fL_base iL_params fL_paramOver dL_paramOver nL_params fL_paramUnder dL_paramUnder nL_pu (u.1) (u.2.1) fL_bound iL_nameAt iL_startAt iL_steps jL_scaleOver jL_scaleUnder ++ (WT hT aT kT fT_tape dT_tape nT_tape iT_length (u.2.2.1) (u.2.2.2) iT_kind iT_at iT_number jT_name iT_next ++ (WM hM aM kM iM_stands iM_variables iM_rows iM_goals iM_differents iM_cases fM_from fM_to fM_whole fM_ways iM_plainRows fM_plainRow fM_kept fM_goalOver fM_goalUnder fM_goalMax fM_different)))) (va_A (WL hL aL kL hT hM xL_tree iL_names gL_key fL_kind fL_one fL_two fL_base iL_params fL_paramOver dL_paramOver nL_params fL_paramUnder dL_paramUnder nL_pu gL_over gL_under fL_bound iL_nameAt iL_startAt iL_steps jL_scaleOver jL_scaleUnder ++ (WT hT aT kT fT_tape dT_tape nT_tape iT_length iT_fault iT_place iT_kind iT_at iT_number jT_name iT_next ++ (WM hM aM kM iM_stands iM_variables iM_rows iM_goals iM_differents iM_cases fM_from fM_to fM_whole fM_ways iM_plainRows fM_plainRow fM_kept fM_goalOver fM_goalUnder fM_goalMax fM_different))) sz)) 1 6 (va_A (WL hL aL kL hT hM xL_tree iL_names gL_key fL_kind fL_one fL_two fL_base iL_params fL_paramOver dL_paramOver nL_params fL_paramUnder dL_paramUnder nL_pu gL_over gL_under fL_bound iL_nameAt iL_startAt iL_steps jL_scaleOver jL_scaleUnder ++ (WT hT aT kT fT_tape dT_tape nT_tape iT_length iT_fault iT_place iT_kind iT_at iT_number jT_name iT_next ++ (WM hM aM kM iM_stands iM_variables iM_rows iM_goals iM_differents iM_cases fM_from fM_to fM_whole fM_ways iM_plainRows fM_plainRow fM_kept fM_goalOver fM_goalUnder fM_goalMax fM_different))) sz) := by
  refine vx_ofW (cc := cX10_divide) (maxL := 11) (ret := none) (by decide) rfl ?_
  intro p e s m args below meth c s₁ B hml htab hv
  obtain ⟨rfl, hsz, hP, hK, hD0, hE⟩ := hv
  have hx := B.exec
  have hb := B.bytes
  have hr := B.returns
  have hts := atoms_spec (ws := wsMX10_divide) B.pre
  have hown : s.vm.findClass RX10 = some m.cls := findClass_of_methodNamed B.named
  have hlocks := B.notSynchronized
  subst hsz
  have hD := hD0.self (sz := s.heap.size)
  generalize hAe : va_A (WL hL aL kL hT hM xL_tree iL_names gL_key fL_kind fL_one fL_two fL_base iL_params fL_paramOver dL_paramOver nL_params fL_paramUnder dL_paramUnder nL_pu gL_over gL_under fL_bound iL_nameAt iL_startAt iL_steps jL_scaleOver jL_scaleUnder ++ (WT hT aT kT fT_tape dT_tape nT_tape iT_length iT_fault iT_place iT_kind iT_at iT_number jT_name iT_next ++ (WM hM aM kM iM_stands iM_variables iM_rows iM_goals iM_differents iM_cases fM_from fM_to fM_whole fM_ways iM_plainRows fM_plainRow fM_kept fM_goalOver fM_goalUnder fM_goalMax fM_different))) s.heap.size = A at hD hE ⊢
  have hA : ∀ q : Nat, s.heap.size ≤ q → A q := fun q h => by rw [← hAe]; exact Or.inr h
  have hS : va_S A s.heap s.heap [] := va_S.rf
  have hl := lv_entry ([.ref (hL 0), .int p1, .int p2]) (n := 11) (Nat.le_of_ble_eq_true rfl)
  rw [lg_entry_eq]
  generalize (lg_sl ([.ref (hL 0), .int p1, .int p2]) ++ List.replicate (11 - (lg_sl ([.ref (hL 0), .int p1, .int p2])).length) Slot.unset).toArray = ls at hl ⊢
  have hl : lv_has ls 11 [(0, .ref (hL 0)), (1, .int p1), (2, .int p2)] := hl
  refine lv_iload_n hx hb dX10_divide_0 rfl (lv_at hl 1 rfl) ?_
  refine lv_bipush (v := 9) hx hb dX10_divide_1 (by decide) ?_
  refine lv_imul hx hb dX10_divide_3 ?_
  refine lv_topi (fun y1 hy1 => ?_)
  obtain rfl : (iI (p1.toInt * 9)) = y1 := (hy1.trans (iI_mul2 (iI_of _) (by decide : (9 : Int32) = iI 9))).symm
  refine lv_istore_n hx hb dX10_divide_4 rfl hl (by decide) rfl (fun ls (hl : lv_has ls _ ([(3, .int (iI (p1.toInt * 9))), (0, .ref (hL 0)), (1, .int p1), (2, .int p2)])) => ?_)
  refine lv_aload_n hx hb dX10_divide_5 rfl (lv_at hl 1 rfl) ?_
  refine lv_iload_n hx hb dX10_divide_6 rfl (lv_at hl 2 rfl) ?_
  refine lv_iconst (v := 1) hx hb dX10_divide_7 (by decide) ?_
  refine lv_iadd hx hb dX10_divide_8 ?_
  refine lv_topi (fun y2 hy2 => ?_)
  obtain rfl : (iI (p1.toInt + 1)) = y2 := (hy2.trans (iI_add2 (iI_of _) (by decide : (1 : Int32) = iI 1))).symm
  have p9 := cj_3_0_2 (WL hL aL kL hT hM xL_tree iL_names gL_key fL_kind fL_one fL_two fL_base iL_params fL_paramOver dL_paramOver nL_params fL_paramUnder dL_paramUnder nL_pu gL_over gL_under fL_bound iL_nameAt iL_startAt iL_steps jL_scaleOver jL_scaleUnder) (WT hT aT kT fT_tape dT_tape nT_tape iT_length iT_fault iT_place iT_kind iT_at iT_number jT_name iT_next) (WM hM aM kM iM_stands iM_variables iM_rows iM_goals iM_differents iM_cases fM_from fM_to fM_whole fM_ways iM_plainRows fM_plainRow fM_kept fM_goalOver fM_goalUnder fM_goalMax fM_different)
  have hPc := hP.mem (fun q h => p9.mem_iff.mpr (List.mem_append_left _ h))
  have hDc := (hD.perm p9).left
  have hKc : va_K (dC, dI) vwCl (tL kL ++ (tM kM)) _ := hK.sub [0, 1, 2, 3, 4, 5, 6, 7, 8, 9, 11, 12, 13, 14, 15, 16, 17, 18, 19, 20] rfl
  have hFc := freeG p9 hD hS hA
  refine va_calli (va_runV (As := [.int (iI (p1.toInt + 1))]) (rest := []) ⟨hx, hb, hml, hown, hts⟩ (m_X10_hasVariables l dC dI hL aL kL hT hM xL_tree iL_names gL_key fL_kind fL_one fL_two fL_base iL_params fL_paramOver dL_paramOver nL_params fL_paramUnder dL_paramUnder nL_pu gL_over gL_under fL_bound iL_nameAt iL_startAt iL_steps jL_scaleOver jL_scaleUnder aM kM iM_stands iM_variables iM_rows iM_goals iM_differents iM_cases fM_from fM_to fM_whole fM_ways iM_plainRows fM_plainRow fM_kept fM_goalOver fM_goalUnder fM_goalMax fM_different (iI (p1.toInt + 1)) (b_iL_names) b_fL_kind b_fL_two b_fL_base (b_iL_params) (by first | exact b_nL_params | with_reducible assumption | exact ⟨by omega, by omega⟩ | assumption) (by first | with_reducible assumption | omega | (rw [iI_t (by omega) (by omega)]; omega) | assumption) (by first | with_reducible assumption | omega | (rw [iI_t (by omega) (by omega)]; omega) | assumption) (by first | with_reducible assumption | omega | (rw [iI_t (by omega) (by omega)]; omega) | assumption) (b_iM_stands) (b_iM_variables) (b_iM_rows) (b_iM_goals) (b_iM_differents) (b_iM_cases) b_fM_ways (b_iM_plainRows) b_fM_plainRow (by first | with_reducible assumption | omega | assumption) (iI_rng (Int.le_trans (by decide) (Int.add_le_add (b_p1.1) (Int.le_refl _))) (Int.le_trans (Int.add_le_add (b_p1.2) (Int.le_refl _)) (by decide)) (by decide) (by decide)) s.heap.size) (cwV 1 hts gwsMX10_divide_0 rfl rfl rfl hd_yX10_hasVariables_RX10 (by decide +kernel)) (fz_pre (va_recv hK hP (ci := 10) (q0 := 0) rfl rfl) hPc hKc hDc) rfl rfl hl.1 rfl (lv_room (Nat.le_of_ble_eq_true rfl)) dX10_divide_9 (by decide +kernel)) hS (fun q _ h => hFc q h) hFc (fun r3 u t9_ H locs ht hvm hw9 hB9 hz1 hk1 hS => ?_)
  have b_r3 := hw9
  try dsimp only at b_r3
  have p8 := p9
  obtain ⟨hP, hD⟩ := frameG p9 p8 hP hD hk1 hFc (fz_P ht hB9.1) hB9.2
  refine lv_if_eq (tgt := 24) hx hb dX10_divide_12 (by decide) (fun c_12 => ?_) (fun c_12 => ?_)
  · have t_12 : r3.toInt = 0 := toI_eq c_12 rfl (by decide : (0 : Int32).toInt = 0)
    refine lv_aload_n hx hb dX10_divide_24 rfl (lv_at hl 1 rfl) ?_
    refine va_get (D := (dC, dI)) (ci := 10) (v := .ref (aL 7)) (C := RX10) (T := TX10) (N := 20) hx hb hts iwsMX10_divide_in10 hown hK hP 0 rfl rfl 12 (by decide) (hts _ hm_m_X10_divide_0) (fun _ h9 => h9) rfl dX10_divide_25 ?_
    refine lv_iload_n hx hb dX10_divide_28 rfl (lv_at hl 0 rfl) ?_
    refine lv_bipush (v := 9) hx hb dX10_divide_29 (by decide) ?_
    refine lv_iadd hx hb dX10_divide_31 ?_
    refine lv_topi (fun y5 hy5 => ?_)
    obtain rfl : (iI ((p1.toInt * 9) + 9)) = y5 := (hy5.trans (iI_add2 rfl (by decide : (9 : Int32) = iI 9))).symm
    refine va_lald (cA := kL 7) (n := 360) (f := gL_over) hx hb hK hP 8 7 rfl rfl (vp_iI (Int.le_trans (by decide) (Int.add_le_add (Int.mul_le_mul_of_nonneg_right (b_p1.1) (by decide)) (Int.le_refl _))) (Int.lt_of_le_of_lt (Int.add_le_add (Int.mul_le_mul_of_nonneg_right (b_p1.2) (by decide)) (Int.le_refl _)) (by decide)) (by decide)) dX10_divide_32 ?_
    refine lv_topl (fun v6 hv6 => ?_)
    clear hv6
    refine lv_lstore hx hb dX10_divide_33 hl (by decide) rfl (fun ls (hl : lv_has ls _ ([(4, .long v6), (3, .int (iI (p1.toInt * 9))), (0, .ref (hL 0)), (1, .int p1), (2, .int p2)])) => ?_)
    refine lv_aload_n hx hb dX10_divide_35 rfl (lv_at hl 2 rfl) ?_
    refine va_get (D := (dC, dI)) (ci := 10) (v := .ref (aL 8)) (C := RX10) (T := TX10) (N := 20) hx hb hts iwsMX10_divide_in10 hown hK hP 0 rfl rfl 13 (by decide) (hts _ hm_m_X10_divide_1) (fun _ h9 => h9) rfl dX10_divide_36 ?_
    refine lv_iload_n hx hb dX10_divide_39 rfl (lv_at hl 1 rfl) ?_
    refine lv_bipush (v := 9) hx hb dX10_divide_40 (by decide) ?_
    refine lv_iadd hx hb dX10_divide_42 ?_
    refine lv_topi (fun y7 hy7 => ?_)
    obtain rfl : (iI ((p1.toInt * 9) + 9)) = y7 := (hy7.trans (iI_add2 rfl (by decide : (9 : Int32) = iI 9))).symm
    refine va_lald (cA := kL 8) (n := 360) (f := gL_under) hx hb hK hP 9 8 rfl rfl (vp_iI (Int.le_trans (by decide) (Int.add_le_add (Int.mul_le_mul_of_nonneg_right (b_p1.1) (by decide)) (Int.le_refl _))) (Int.lt_of_le_of_lt (Int.add_le_add (Int.mul_le_mul_of_nonneg_right (b_p1.2) (by decide)) (Int.le_refl _)) (by decide)) (by decide)) dX10_divide_43 ?_
    refine lv_topl (fun v8 hv8 => ?_)
    clear hv8
    refine lv_lstore hx hb dX10_divide_44 hl (by decide) rfl (fun ls (hl : lv_has ls _ ([(6, .long v8), (4, .long v6), (3, .int (iI (p1.toInt * 9))), (0, .ref (hL 0)), (1, .int p1), (2, .int p2)])) => ?_)
    refine lv_lload hx hb dX10_divide_46 (lv_at hl 1 rfl) ?_
    refine lv_lconst (v := 0) hx hb dX10_divide_48 (by decide) ?_
    refine W.lcmp hx hb dX10_divide_49 ?_
    refine lv_if_ne (tgt := 63) hx hb dX10_divide_50 (by decide) (fun c_50 => ?_) (fun c_50 => ?_)
    · have t_50 : v6.toInt ≠ 0 := toL_ne c_50 rfl (by decide : (0 : Int64).toInt = 0)
      refine lv_lload hx hb dX10_divide_63 (lv_at hl 1 rfl) ?_
      refine lv_lconst (v := 0) hx hb dX10_divide_65 (by decide) ?_
      refine W.lcmp hx hb dX10_divide_66 ?_
      refine W.cut (pc := 78) (fun H locs ls stk => ∃ (k0_j2 : Int64),  stk = [.long k0_j2] ∧ va_P (dC, dI) vwCl (WL hL aL kL hT hM xL_tree iL_names gL_key fL_kind fL_one fL_two fL_base iL_params fL_paramOver dL_paramOver nL_params fL_paramUnder dL_paramUnder nL_pu gL_over gL_under fL_bound iL_nameAt iL_startAt iL_steps jL_scaleOver jL_scaleUnder ++ (WT hT aT kT fT_tape dT_tape nT_tape iT_length iT_fault iT_place iT_kind iT_at iT_number jT_name iT_next ++ (WM hM aM kM iM_stands iM_variables iM_rows iM_goals iM_differents iM_cases fM_from fM_to fM_whole fM_ways iM_plainRows fM_plainRow fM_kept fM_goalOver fM_goalUnder fM_goalMax fM_different))) H ∧ va_D A (WL hL aL kL hT hM xL_tree iL_names gL_key fL_kind fL_one fL_two fL_base iL_params fL_paramOver dL_paramOver nL_params fL_paramUnder dL_paramUnder nL_pu gL_over gL_under fL_bound iL_nameAt iL_startAt iL_steps jL_scaleOver jL_scaleUnder ++ (WT hT aT kT fT_tape dT_tape nT_tape iT_length iT_fault iT_place iT_kind iT_at iT_number jT_name iT_next ++ (WM hM aM kM iM_stands iM_variables iM_rows iM_goals iM_differents iM_cases fM_from fM_to fM_whole fM_ways iM_plainRows fM_plainRow fM_kept fM_goalOver fM_goalUnder fM_goalMax fM_different))) ∧ va_S A s.heap H locs ∧ lv_has ls 11 [(6, .long v8), (4, .long v6), (3, .int (iI (p1.toInt * 9))), (0, .ref (hL 0)), (1, .int p1), (2, .int p2)]) (fun join2 => ?_) ?_
      · refine lv_if_ge (tgt := 76) hx hb dX10_divide_67 (by decide) (fun c_67 => ?_) (fun c_67 => ?_)
        · have t_67 : v6.toInt ≥ 0 := toL_ge c_67 rfl (by decide : (0 : Int64).toInt = 0)
          refine lv_lload hx hb dX10_divide_76 (lv_at hl 0 rfl) ?_
          have hl : lv_has _ _ ([(6, .long v8), (4, .long v6), (3, .int (iI (p1.toInt * 9))), (0, .ref (hL 0)), (1, .int p1), (2, .int p2)]) := lv_sub hl [0, 1, 2, 3, 4, 5] rfl
          exact join2 _ _ _ _ ⟨v8, rfl, hP, hD, hS, hl⟩
        · have t_67 : ¬ v6.toInt ≥ 0 := toL_nge c_67 rfl (by decide : (0 : Int64).toInt = 0)
          refine lv_lload hx hb dX10_divide_70 (lv_at hl 0 rfl) ?_
          refine lv_lneg hx hb dX10_divide_72 ?_
          refine lv_topl (fun v11 hv11 => ?_)
          clear hv11
          refine lv_goto (tgt := 78) hx hb dX10_divide_73 (by decide) ?_
          have hl : lv_has _ _ ([(6, .long v8), (4, .long v6), (3, .int (iI (p1.toInt * 9))), (0, .ref (hL 0)), (1, .int p1), (2, .int p2)]) := lv_sub hl [0, 1, 2, 3, 4, 5] rfl
          exact join2 _ _ _ _ ⟨v11, rfl, hP, hD, hS, hl⟩
      · rintro H locs ls stk ⟨k0_j2, rfl, hP, hD, hS, hl⟩
        refine lv_lstore hx hb dX10_divide_78 hl (by decide) rfl (fun ls (hl : lv_has ls _ ([(8, .long k0_j2), (6, .long v8), (4, .long v6), (3, .int (iI (p1.toInt * 9))), (0, .ref (hL 0)), (1, .int p1), (2, .int p2)])) => ?_)
        refine lv_iconst (v := 0) hx hb dX10_divide_80 (by decide) ?_
        refine lv_istore hx hb dX10_divide_81 hl (by decide) rfl (fun ls (hl : lv_has ls _ ([(10, .int 0), (8, .long k0_j2), (6, .long v8), (4, .long v6), (3, .int (iI (p1.toInt * 9))), (0, .ref (hL 0)), (1, .int p1), (2, .int p2)])) => ?_)
        have hl : lv_has _ _ ([(10, .int 0), (8, .long k0_j2), (6, .long v8), (4, .long v6), (3, .int (iI (p1.toInt * 9))), (0, .ref (hL 0)), (1, .int p1), (2, .int p2)]) := lv_sub hl [0, 1, 2, 3, 4, 5, 6, 7] rfl
        refine (fun (loop : ∀ (n9 : Nat) (gL_over_x83 : Nat → Int64) (gL_under_x83 : Nat → Int64) (iT_fault_x83 : Int32) (iT_place_x83 : Int32) (l10_x83 : Int32) (H : Heap) (locs : List Loc) (ls : Array Slot), (0 ≤ l10_x83.toInt ∧ l10_x83.toInt ≤ 9) → (9 - l10_x83.toInt < ((n9 : Nat) : Int)) → va_P (dC, dI) vwCl (WL hL aL kL hT hM xL_tree iL_names gL_key fL_kind fL_one fL_two fL_base iL_params fL_paramOver dL_paramOver nL_params fL_paramUnder dL_paramUnder nL_pu gL_over_x83 gL_under_x83 fL_bound iL_nameAt iL_startAt iL_steps jL_scaleOver jL_scaleUnder ++ (WT hT aT kT fT_tape dT_tape nT_tape iT_length iT_fault_x83 iT_place_x83 iT_kind iT_at iT_number jT_name iT_next ++ (WM hM aM kM iM_stands iM_variables iM_rows iM_goals iM_differents iM_cases fM_from fM_to fM_whole fM_ways iM_plainRows fM_plainRow fM_kept fM_goalOver fM_goalUnder fM_goalMax fM_different))) H → va_D A (WL hL aL kL hT hM xL_tree iL_names gL_key fL_kind fL_one fL_two fL_base iL_params fL_paramOver dL_paramOver nL_params fL_paramUnder dL_paramUnder nL_pu gL_over_x83 gL_under_x83 fL_bound iL_nameAt iL_startAt iL_steps jL_scaleOver jL_scaleUnder ++ (WT hT aT kT fT_tape dT_tape nT_tape iT_length iT_fault_x83 iT_place_x83 iT_kind iT_at iT_number jT_name iT_next ++ (WM hM aM kM iM_stands iM_variables iM_rows iM_goals iM_differents iM_cases fM_from fM_to fM_whole fM_ways iM_plainRows fM_plainRow fM_kept fM_goalOver fM_goalUnder fM_goalMax fM_different))) → va_S A s.heap H locs → lv_has ls 11 [(10, .int l10_x83), (8, .long k0_j2), (6, .long v8), (4, .long v6), (3, .int (iI (p1.toInt * 9))), (0, .ref (hL 0)), (1, .int p1), (2, .int p2)] → W p l e _ s m _ below meth c H locs 0 0 _ (F0 m 83 ls [])) => loop (10) gL_over gL_under iT_fault iT_place 0 _ _ _ (show 0 ≤ (0 : Int32).toInt ∧ (0 : Int32).toInt ≤ 9 from by decide) ((by have e9 : (0 : Int32).toInt = 0 := (by decide : (0 : Int32).toInt = 0); omega)) hP hD hS hl) ?_
        intro n9
        induction n9 with
        | zero => intro gL_over_x83 gL_under_x83 iT_fault_x83 iT_place_x83 l10_x83 H locs ls b_l10_x83 hf9; exact False.elim (by omega)
        | succ n9 ihx83 =>
          intro gL_over_x83 gL_under_x83 iT_fault_x83 iT_place_x83 l10_x83 H locs ls b_l10_x83 hfx83 hP hD hS hl
          refine lv_iload hx hb dX10_divide_83 (lv_at hl 0 rfl) ?_
          refine lv_aload_n hx hb dX10_divide_85 rfl (lv_at hl 5 rfl) ?_
          refine va_get (D := (dC, dI)) (ci := 10) (v := .ref (hM 0)) (C := RX10) (T := TX10) (N := 20) hx hb hts iwsMX10_divide_in10 hown hK hP 0 rfl rfl 1 (by decide) (hts (.fieldLink RX10 51 "OptimaWorks$Worker" "model" "LOptimaWorks$Model;") (by decide +kernel)) (fun _ h9 => h9) rfl dX10_divide_86 ?_
          refine va_get (D := (dC, dI)) (ci := 1) (v := .int iM_variables) (C := RX1) (T := TX1) (N := 17) hx hb hts iwsMX10_divide_in1 hown hK hP 13 rfl rfl 1 (by decide) (hts (.fieldLink RX10 93 "OptimaWorks$Model" "variables" "I") (by decide +kernel)) (fun _ h9 => h9) rfl dX10_divide_89 ?_
          refine lv_icmp_gt (tgt := 137) hx hb dX10_divide_92 (by decide) (fun c_92 => ?_) (fun c_92 => ?_)
          · have t_92 : l10_x83.toInt > iM_variables.toInt := toI_gt c_92 rfl rfl
            refine vx_ret ?_
            refine W.known (fun hz9 _ => ?_)
            refine W.widen (k := 1) (n := 6) (by decide +kernel) (by decide +kernel) ?_
            exact W.vret hx hb hr (fun t9_ ht hW => ⟨⟨(gL_over_x83, gL_under_x83, iT_fault_x83, iT_place_x83), rfl, trivial, by rw [ht]; exact hP, hD, by rw [ht]; first | done | exact Nat.le_antisymm hz9 hS.1⟩, hS.F ht⟩) hS.2.2 dX10_divide_137
          · have t_92 : ¬ l10_x83.toInt > iM_variables.toInt := toI_ngt c_92 rfl rfl
            refine lv_aload_n hx hb dX10_divide_95 rfl (lv_at hl 5 rfl) ?_
            refine lv_iload_n hx hb dX10_divide_96 rfl (lv_at hl 4 rfl) ?_
            refine lv_iload hx hb dX10_divide_97 (lv_at hl 0 rfl) ?_
            refine lv_iadd hx hb dX10_divide_99 ?_
            refine lv_topi (fun y57 hy57 => ?_)
            obtain rfl : (iI ((p1.toInt * 9) + l10_x83.toInt)) = y57 := (hy57.trans (iI_add2 rfl (iI_of _))).symm
            refine lv_aload_n hx hb dX10_divide_100 rfl (lv_at hl 5 rfl) ?_
            refine va_get (D := (dC, dI)) (ci := 10) (v := .ref (aL 7)) (C := RX10) (T := TX10) (N := 20) hx hb hts iwsMX10_divide_in10 hown hK hP 0 rfl rfl 12 (by decide) (hts _ hm_m_X10_divide_0) (fun _ h9 => h9) rfl dX10_divide_101 ?_
            refine lv_iload_n hx hb dX10_divide_104 rfl (lv_at hl 4 rfl) ?_
            refine lv_iload hx hb dX10_divide_105 (lv_at hl 0 rfl) ?_
            refine lv_iadd hx hb dX10_divide_107 ?_
            refine lv_topi (fun y58 hy58 => ?_)
            obtain rfl : (iI ((p1.toInt * 9) + l10_x83.toInt)) = y58 := (hy58.trans (iI_add2 rfl (iI_of _))).symm
            refine va_lald (cA := kL 7) (n := 360) (f := gL_over_x83) hx hb hK hP 8 7 rfl rfl (vp_iI (Int.le_trans (by decide) (Int.add_le_add (Int.mul_le_mul_of_nonneg_right (b_p1.1) (by decide)) (b_l10_x83.1))) (Int.lt_of_le_of_lt (Int.add_le_add (Int.mul_le_mul_of_nonneg_right (b_p1.2) (by decide)) (b_l10_x83.2)) (by decide)) (by decide)) dX10_divide_108 ?_
            refine lv_topl (fun v59 hv59 => ?_)
            clear hv59
            refine lv_lload hx hb dX10_divide_109 (lv_at hl 1 rfl) ?_
            refine lv_lmul hx hb dX10_divide_111 ?_
            refine lv_topl (fun v60 hv60 => ?_)
            clear hv60
            refine lv_aload_n hx hb dX10_divide_112 rfl (lv_at hl 5 rfl) ?_
            refine va_get (D := (dC, dI)) (ci := 10) (v := .ref (aL 8)) (C := RX10) (T := TX10) (N := 20) hx hb hts iwsMX10_divide_in10 hown hK hP 0 rfl rfl 13 (by decide) (hts _ hm_m_X10_divide_1) (fun _ h9 => h9) rfl dX10_divide_113 ?_
            refine lv_iload_n hx hb dX10_divide_116 rfl (lv_at hl 4 rfl) ?_
            refine lv_iload hx hb dX10_divide_117 (lv_at hl 0 rfl) ?_
            refine lv_iadd hx hb dX10_divide_119 ?_
            refine lv_topi (fun y61 hy61 => ?_)
            obtain rfl : (iI ((p1.toInt * 9) + l10_x83.toInt)) = y61 := (hy61.trans (iI_add2 rfl (iI_of _))).symm
            refine va_lald (cA := kL 8) (n := 360) (f := gL_under_x83) hx hb hK hP 9 8 rfl rfl (vp_iI (Int.le_trans (by decide) (Int.add_le_add (Int.mul_le_mul_of_nonneg_right (b_p1.1) (by decide)) (b_l10_x83.1))) (Int.lt_of_le_of_lt (Int.add_le_add (Int.mul_le_mul_of_nonneg_right (b_p1.2) (by decide)) (b_l10_x83.2)) (by decide)) (by decide)) dX10_divide_120 ?_
            refine lv_topl (fun v62 hv62 => ?_)
            clear hv62
            refine lv_lload hx hb dX10_divide_121 (lv_at hl 3 rfl) ?_
            refine va_mabs_long hx hb (by rw [hml]; exact hl.1.symm) hown (hts (.methodLink RX10 179 Lib.MathLoose.abs_long.x) (by decide +kernel)) (hts (.static Lib.MathLoose.abs_long.x) (by decide +kernel)) (hts (.initialized "java/lang/Math") (by decide +kernel)) (hts (.code Lib.MathLoose.abs_long.x Lib.MathLoose.abs_long.code 2 (some .long)) (by decide +kernel)) (by decide +kernel) (Nat.le_of_ble_eq_true rfl) (by decide +kernel) (by decide +kernel) dX10_divide_123 ?_
            refine lv_topl (fun v63 hv63 => ?_)
            clear hv63
            refine lv_lmul hx hb dX10_divide_126 ?_
            refine lv_topl (fun v64 hv64 => ?_)
            clear hv64
            refine lv_iload_n hx hb dX10_divide_127 rfl (lv_at hl 7 rfl) ?_
            refine W.known (fun hz0 _ => ?_)
            have p9 := cj_3_0_1 (WL hL aL kL hT hM xL_tree iL_names gL_key fL_kind fL_one fL_two fL_base iL_params fL_paramOver dL_paramOver nL_params fL_paramUnder dL_paramUnder nL_pu gL_over_x83 gL_under_x83 fL_bound iL_nameAt iL_startAt iL_steps jL_scaleOver jL_scaleUnder) (WT hT aT kT fT_tape dT_tape nT_tape iT_length iT_fault_x83 iT_place_x83 iT_kind iT_at iT_number jT_name iT_next) (WM hM aM kM iM_stands iM_variables iM_rows iM_goals iM_differents iM_cases fM_from fM_to fM_whole fM_ways iM_plainRows fM_plainRow fM_kept fM_goalOver fM_goalUnder fM_goalMax fM_different)
            have hPc := hP.mem (fun q h => p9.mem_iff.mpr (List.mem_append_left _ h))
            have hDc := (hD.perm p9).left
            have hKc : va_K (dC, dI) vwCl (tL kL ++ (tT kT)) _ := hK.sub [0, 1, 2, 3, 4, 5, 6, 7, 8, 9, 10] rfl
            have hFc := freeG p9 hD hS hA
            refine vx_callv (vx_runV (As := [.int (iI ((p1.toInt * 9) + l10_x83.toInt)), .long v60, .long v64, .int p2]) (rest := []) ⟨hx, hb, hml, hown, hts⟩ (m_X10_setFraction l hst dC dI hL aL kL hT hM xL_tree iL_names gL_key fL_kind fL_one fL_two fL_base iL_params fL_paramOver dL_paramOver nL_params fL_paramUnder dL_paramUnder nL_pu gL_over_x83 gL_under_x83 fL_bound iL_nameAt iL_startAt iL_steps jL_scaleOver jL_scaleUnder aT kT fT_tape dT_tape nT_tape iT_length iT_fault_x83 iT_place_x83 iT_kind iT_at iT_number jT_name iT_next (iI ((p1.toInt * 9) + l10_x83.toInt)) v60 v64 p2 (b_iL_names) b_fL_kind b_fL_two b_fL_base (b_iL_params) (by first | exact b_nL_params | with_reducible assumption | exact ⟨by omega, by omega⟩ | assumption) (by first | with_reducible assumption | omega | (rw [iI_t (by omega) (by omega)]; omega) | assumption) (by first | with_reducible assumption | omega | (rw [iI_t (by omega) (by omega)]; omega) | assumption) (by first | with_reducible assumption | omega | (rw [iI_t (by omega) (by omega)]; omega) | assumption) b_fT_tape (by first | exact b_nT_tape | with_reducible assumption | exact ⟨by omega, by omega⟩ | assumption) (b_iT_length) (b_iT_at) (b_iT_number) (b_iT_next) (by first | with_reducible assumption | omega | assumption) (iI_rng (Int.le_trans (by decide) (Int.add_le_add (Int.mul_le_mul_of_nonneg_right (b_p1.1) (by decide)) (b_l10_x83.1))) (Int.le_trans (Int.add_le_add (Int.mul_le_mul_of_nonneg_right (b_p1.2) (by decide)) (b_l10_x83.2)) (by decide)) (by decide) (by decide)) H.size) (cwV 4 hts gwsMX10_divide_2 rfl rfl rfl hd_yX10_setFraction_RX10 (by decide +kernel)) (fz_preE (va_recv hK hP (ci := 10) (q0 := 0) rfl rfl) hPc hKc hDc (fun a U g mk qE => qE.call) (fun U hU9 hW => by rw [hU9]; exact (((hE : CE A s s.heap).kept hS.2.1).narrow (fun q h => hFc q h)).warm hW)) rfl rfl hl.1 rfl (lv_room (Nat.le_of_ble_eq_true rfl)) dX10_divide_128 (by decide +kernel)) hS (fun q _ h => hFc q h) hFc (fun q _ h => hFc q h) (fun E ce q9 u t9_ H locs ht hvm hw9 hB9 hz1 hk1 hS hc1 hc2 hc3 => ?_) (fun u t9_ H locs ht hvm hw9 hB9 hz1 hk1 hS => ?_)
            · revert u hw9 hB9
              refine fz_p4 ?_
              intro gL_over_65 gL_under_65 iT_fault_65 iT_place_65 hw9 hB9
              try dsimp only at hw9 hB9
              revert hB9
              refine fz_a2 ?_
              intro hEx hB9
              clear hw9
              have p8 := cj_3_0_1 (WL hL aL kL hT hM xL_tree iL_names gL_key fL_kind fL_one fL_two fL_base iL_params fL_paramOver dL_paramOver nL_params fL_paramUnder dL_paramUnder nL_pu gL_over_65 gL_under_65 fL_bound iL_nameAt iL_startAt iL_steps jL_scaleOver jL_scaleUnder) (WT hT aT kT fT_tape dT_tape nT_tape iT_length iT_fault_65 iT_place_65 iT_kind iT_at iT_number jT_name iT_next) (WM hM aM kM iM_stands iM_variables iM_rows iM_goals iM_differents iM_cases fM_from fM_to fM_whole fM_ways iM_plainRows fM_plainRow fM_kept fM_goalOver fM_goalUnder fM_goalMax fM_different)
              obtain ⟨hP, hD⟩ := frameG p9 p8 hP hD hk1 hFc (fz_P ht hB9.1) hB9.2
              exact vx_out (fun x hx9 => (htab x hx9).elim) hlocks hc1 hc2 hc3 (fun t9_ ht hvm => ⟨(gL_over_65, gL_under_65, iT_fault_65, iT_place_65), trivial, ⟨(by have h9 := hEx; exact h9), by rw [ht]; exact hP, hD⟩, hS.F ht⟩) hS.2.2 (by decide +kernel) (by decide +kernel)
            revert u hw9 hB9
            refine fz_p4 ?_
            intro gL_over_65 gL_under_65 iT_fault_65 iT_place_65 hw9 hB9
            try dsimp only at hw9 hB9
            clear hw9
            have hz8 := hB9.2.2
            rw [ht] at hz8
            have hz9 : H.size ≤ s.heap.size + 0 := by rw [hz8]; exact hz0
            refine W.tight (cells2 := 0) (slots2 := 0) hz9 (nS_0 hz9) ?_
            clear hz8 hz9
            have p8 := cj_3_0_1 (WL hL aL kL hT hM xL_tree iL_names gL_key fL_kind fL_one fL_two fL_base iL_params fL_paramOver dL_paramOver nL_params fL_paramUnder dL_paramUnder nL_pu gL_over_65 gL_under_65 fL_bound iL_nameAt iL_startAt iL_steps jL_scaleOver jL_scaleUnder) (WT hT aT kT fT_tape dT_tape nT_tape iT_length iT_fault_65 iT_place_65 iT_kind iT_at iT_number jT_name iT_next) (WM hM aM kM iM_stands iM_variables iM_rows iM_goals iM_differents iM_cases fM_from fM_to fM_whole fM_ways iM_plainRows fM_plainRow fM_kept fM_goalOver fM_goalUnder fM_goalMax fM_different)
            obtain ⟨hP, hD⟩ := frameG p9 p8 hP hD hk1 hFc (fz_P ht hB9.1) hB9.2.1
            refine lv_iinc (v := (iI (l10_x83.toInt + 1))) hx hb dX10_divide_131 hl (k := 0) rfl (iI_add2 (iI_of _) (by decide : (1 : Int32) = iI 1)) (by decide) rfl (fun ls (hl : lv_has ls _ ([(10, .int (iI (l10_x83.toInt + 1))), (8, .long k0_j2), (6, .long v8), (4, .long v6), (3, .int (iI (p1.toInt * 9))), (0, .ref (hL 0)), (1, .int p1), (2, .int p2)])) => ?_)
            refine lv_goto (tgt := 83) hx hb dX10_divide_134 (by decide) ?_
            have hl : lv_has _ _ ([(10, .int (iI (l10_x83.toInt + 1))), (8, .long k0_j2), (6, .long v8), (4, .long v6), (3, .int (iI (p1.toInt * 9))), (0, .ref (hL 0)), (1, .int p1), (2, .int p2)]) := lv_sub hl [0, 1, 2, 3, 4, 5, 6, 7] rfl
            exact ihx83 gL_over_65 gL_under_65 iT_fault_65 iT_place_65 (iI (l10_x83.toInt + 1)) _ _ _ (iI_rng (Int.le_trans (by decide) (Int.add_le_add (b_l10_x83.1) (Int.le_refl _))) (by omega) (by decide) (by decide)) (by have e9 : ((iI (l10_x83.toInt + 1))).toInt = (l10_x83.toInt + 1) := (iI_t (Int.le_trans (by decide) (Int.add_le_add (b_l10_x83.1) (Int.le_refl _))) (Int.le_trans (Int.add_le_add (b_l10_x83.2) (Int.le_refl _)) (by decide))); omega) hP hD hS hl
    · have t_50 : v6.toInt = 0 := toL_nne c_50 rfl (by decide : (0 : Int64).toInt = 0)
      refine lv_aload_n hx hb dX10_divide_53 rfl (lv_at hl 3 rfl) ?_
      refine va_get (D := (dC, dI)) (ci := 10) (v := .ref (hT 0)) (C := RX10) (T := TX10) (N := 20) hx hb hts iwsMX10_divide_in10 hown hK hP 0 rfl rfl 0 (by decide) (hts _ hm_m_X10_divide_2) (fun _ h9 => h9) rfl dX10_divide_54 ?_
      refine lv_bipush (v := 6) hx hb dX10_divide_57 (by decide) ?_
      refine lv_iload_n hx hb dX10_divide_59 rfl (lv_at hl 5 rfl) ?_
      have p9 := cj_3_1 (WL hL aL kL hT hM xL_tree iL_names gL_key fL_kind fL_one fL_two fL_base iL_params fL_paramOver dL_paramOver nL_params fL_paramUnder dL_paramUnder nL_pu gL_over gL_under fL_bound iL_nameAt iL_startAt iL_steps jL_scaleOver jL_scaleUnder) (WT hT aT kT fT_tape dT_tape nT_tape iT_length iT_fault iT_place iT_kind iT_at iT_number jT_name iT_next) (WM hM aM kM iM_stands iM_variables iM_rows iM_goals iM_differents iM_cases fM_from fM_to fM_whole fM_ways iM_plainRows fM_plainRow fM_kept fM_goalOver fM_goalUnder fM_goalMax fM_different)
      have hPc := hP.mem (fun q h => p9.mem_iff.mpr (List.mem_append_left _ h))
      have hDc := (hD.perm p9).left
      have hKc : va_K (dC, dI) vwCl (tT kT) _ := hK.sub [10] rfl
      have hFc := freeG p9 hD hS hA
      refine vx_callv (vx_runV (As := [.int 6, .int p2]) (rest := []) ⟨hx, hb, hml, hown, hts⟩ (m_X9_fail l hst dC dI hT aT kT fT_tape dT_tape nT_tape iT_length iT_fault iT_place iT_kind iT_at iT_number jT_name iT_next 6 p2 b_fT_tape (by first | exact b_nT_tape | with_reducible assumption | exact ⟨by omega, by omega⟩ | assumption) (b_iT_length) (b_iT_at) (b_iT_number) (b_iT_next) (by first | with_reducible assumption | omega | assumption) H.size) (cwV 2 hts gwsMX10_divide_1 rfl rfl rfl hd_yX9_fail_RX9 (by decide +kernel)) (fz_preE (va_recv hK hP (ci := 9) (q0 := 11) rfl rfl) hPc hKc hDc (fun a U g mk qE => qE.call) (fun U hU9 hW => by rw [hU9]; exact (((hE : CE A s s.heap).kept hS.2.1).narrow (fun q h => hFc q h)).warm hW)) rfl rfl hl.1 rfl (lv_room (Nat.le_of_ble_eq_true rfl)) dX10_divide_60 (by decide +kernel)) hS (fun q _ h => hFc q h) hFc (fun q _ h => hFc q h) (fun E ce q9 u t9_ H locs ht hvm hw9 hB9 hz1 hk1 hS hc1 hc2 hc3 => ?_) (fun u t9_ H1 locs ht hvm hw9 hB9 hz1 hk1 hS => ?_)
      · revert u hw9 hB9
        refine fz_p2 ?_
        intro iT_fault_66 iT_place_66 hw9 hB9
        try dsimp only at hw9 hB9
        revert hB9
        refine fz_a2 ?_
        intro hEx hB9
        clear hw9
        have p8 := cj_3_1 (WL hL aL kL hT hM xL_tree iL_names gL_key fL_kind fL_one fL_two fL_base iL_params fL_paramOver dL_paramOver nL_params fL_paramUnder dL_paramUnder nL_pu gL_over gL_under fL_bound iL_nameAt iL_startAt iL_steps jL_scaleOver jL_scaleUnder) (WT hT aT kT fT_tape dT_tape nT_tape iT_length iT_fault_66 iT_place_66 iT_kind iT_at iT_number jT_name iT_next) (WM hM aM kM iM_stands iM_variables iM_rows iM_goals iM_differents iM_cases fM_from fM_to fM_whole fM_ways iM_plainRows fM_plainRow fM_kept fM_goalOver fM_goalUnder fM_goalMax fM_different)
        obtain ⟨hP, hD⟩ := frameG p9 p8 hP hD hk1 hFc (fz_P ht hB9.1) hB9.2
        exact vx_out (fun x hx9 => (htab x hx9).elim) hlocks hc1 hc2 hc3 (fun t9_ ht hvm => ⟨(gL_over, gL_under, iT_fault_66, iT_place_66), trivial, ⟨(by have h9 := hEx; exact h9), by rw [ht]; exact hP, hD⟩, hS.F ht⟩) hS.2.2 (by decide +kernel) (by decide +kernel)
      exact False.elim hw9
  · have t_12 : ¬ r3.toInt = 0 := toI_neq c_12 rfl (by decide : (0 : Int32).toInt = 0)
    refine lv_aload_n hx hb dX10_divide_15 rfl (lv_at hl 1 rfl) ?_
    refine va_get (D := (dC, dI)) (ci := 10) (v := .ref (hT 0)) (C := RX10) (T := TX10) (N := 20) hx hb hts iwsMX10_divide_in10 hown hK hP 0 rfl rfl 0 (by decide) (hts _ hm_m_X10_divide_2) (fun _ h9 => h9) rfl dX10_divide_16 ?_
    refine lv_iconst (v := 5) hx hb dX10_divide_19 (by decide) ?_
    refine lv_iload_n hx hb dX10_divide_20 rfl (lv_at hl 3 rfl) ?_
    have p9 := cj_3_1 (WL hL aL kL hT hM xL_tree iL_names gL_key fL_kind fL_one fL_two fL_base iL_params fL_paramOver dL_paramOver nL_params fL_paramUnder dL_paramUnder nL_pu gL_over gL_under fL_bound iL_nameAt iL_startAt iL_steps jL_scaleOver jL_scaleUnder) (WT hT aT kT fT_tape dT_tape nT_tape iT_length iT_fault iT_place iT_kind iT_at iT_number jT_name iT_next) (WM hM aM kM iM_stands iM_variables iM_rows iM_goals iM_differents iM_cases fM_from fM_to fM_whole fM_ways iM_plainRows fM_plainRow fM_kept fM_goalOver fM_goalUnder fM_goalMax fM_different)
    have hPc := hP.mem (fun q h => p9.mem_iff.mpr (List.mem_append_left _ h))
    have hDc := (hD.perm p9).left
    have hKc : va_K (dC, dI) vwCl (tT kT) _ := hK.sub [10] rfl
    have hFc := freeG p9 hD hS hA
    refine vx_callv (vx_runV (As := [.int 5, .int p2]) (rest := []) ⟨hx, hb, hml, hown, hts⟩ (m_X9_fail l hst dC dI hT aT kT fT_tape dT_tape nT_tape iT_length iT_fault iT_place iT_kind iT_at iT_number jT_name iT_next 5 p2 b_fT_tape (by first | exact b_nT_tape | with_reducible assumption | exact ⟨by omega, by omega⟩ | assumption) (b_iT_length) (b_iT_at) (b_iT_number) (b_iT_next) (by first | with_reducible assumption | omega | assumption) H.size) (cwV 2 hts gwsMX10_divide_1 rfl rfl rfl hd_yX9_fail_RX9 (by decide +kernel)) (fz_preE (va_recv hK hP (ci := 9) (q0 := 11) rfl rfl) hPc hKc hDc (fun a U g mk qE => qE.call) (fun U hU9 hW => by rw [hU9]; exact (((hE : CE A s s.heap).kept hS.2.1).narrow (fun q h => hFc q h)).warm hW)) rfl rfl hl.1 rfl (lv_room (Nat.le_of_ble_eq_true rfl)) dX10_divide_21 (by decide +kernel)) hS (fun q _ h => hFc q h) hFc (fun q _ h => hFc q h) (fun E ce q9 u t9_ H locs ht hvm hw9 hB9 hz1 hk1 hS hc1 hc2 hc3 => ?_) (fun u t9_ H1 locs ht hvm hw9 hB9 hz1 hk1 hS => ?_)
    · revert u hw9 hB9
      refine fz_p2 ?_
      intro iT_fault_67 iT_place_67 hw9 hB9
      try dsimp only at hw9 hB9
      revert hB9
      refine fz_a2 ?_
      intro hEx hB9
      clear hw9
      have p8 := cj_3_1 (WL hL aL kL hT hM xL_tree iL_names gL_key fL_kind fL_one fL_two fL_base iL_params fL_paramOver dL_paramOver nL_params fL_paramUnder dL_paramUnder nL_pu gL_over gL_under fL_bound iL_nameAt iL_startAt iL_steps jL_scaleOver jL_scaleUnder) (WT hT aT kT fT_tape dT_tape nT_tape iT_length iT_fault_67 iT_place_67 iT_kind iT_at iT_number jT_name iT_next) (WM hM aM kM iM_stands iM_variables iM_rows iM_goals iM_differents iM_cases fM_from fM_to fM_whole fM_ways iM_plainRows fM_plainRow fM_kept fM_goalOver fM_goalUnder fM_goalMax fM_different)
      obtain ⟨hP, hD⟩ := frameG p9 p8 hP hD hk1 hFc (fz_P ht hB9.1) hB9.2
      exact vx_out (fun x hx9 => (htab x hx9).elim) hlocks hc1 hc2 hc3 (fun t9_ ht hvm => ⟨(gL_over, gL_under, iT_fault_67, iT_place_67), trivial, ⟨(by have h9 := hEx; exact h9), by rw [ht]; exact hP, hD⟩, hS.F ht⟩) hS.2.2 (by decide +kernel) (by decide +kernel)
    exact False.elim hw9
theorem dX10_turn_0 : decode cX10_turn 0 = .ok (.iload_n 1, 1) := dk_27 (by decide +kernel)
theorem dX10_turn_1 : decode cX10_turn 1 = .ok (.bipush 9, 2) := dk_16 (by decide +kernel)
theorem dX10_turn_3 : decode cX10_turn 3 = .ok (.imul, 1) := dk_104 (by decide +kernel)
theorem dX10_turn_4 : decode cX10_turn 4 = .ok (.istore_n 2, 1) := dk_61 (by decide +kernel)
theorem dX10_turn_5 : decode cX10_turn 5 = .ok (.iconst 0, 1) := dk_3 (by decide +kernel)
theorem dX10_turn_6 : decode cX10_turn 6 = .ok (.istore_n 3, 1) := dk_62 (by decide +kernel)
theorem dX10_turn_7 : decode cX10_turn 7 = .ok (.iload_n 3, 1) := dk_29 (by decide +kernel)
theorem dX10_turn_8 : decode cX10_turn 8 = .ok (.aload_n 0, 1) := dk_42 (by decide +kernel)
theorem dX10_turn_9 : decode cX10_turn 9 = .ok (.getfield 51, 3) := dk_180 (by decide +kernel)
theorem dX10_turn_12 : decode cX10_turn 12 = .ok (.getfield 93, 3) := dk_180 (by decide +kernel)
theorem dX10_turn_15 : decode cX10_turn 15 = .ok (.if_icmp .gt 26, 3) := dk_163 (by decide +kernel)
theorem dX10_turn_18 : decode cX10_turn 18 = .ok (.aload_n 0, 1) := dk_42 (by decide +kernel)
theorem dX10_turn_19 : decode cX10_turn 19 = .ok (.getfield 36, 3) := dk_180 (by decide +kernel)
theorem dX10_turn_22 : decode cX10_turn 22 = .ok (.iload_n 2, 1) := dk_28 (by decide +kernel)
theorem dX10_turn_23 : decode cX10_turn 23 = .ok (.iload_n 3, 1) := dk_29 (by decide +kernel)
theorem dX10_turn_24 : decode cX10_turn 24 = .ok (.iadd, 1) := dk_96 (by decide +kernel)
theorem dX10_turn_25 : decode cX10_turn 25 = .ok (.aload_n 0, 1) := dk_42 (by decide +kernel)
theorem dX10_turn_26 : decode cX10_turn 26 = .ok (.getfield 36, 3) := dk_180 (by decide +kernel)
theorem dX10_turn_29 : decode cX10_turn 29 = .ok (.iload_n 2, 1) := dk_28 (by decide +kernel)
theorem dX10_turn_30 : decode cX10_turn 30 = .ok (.iload_n 3, 1) := dk_29 (by decide +kernel)
theorem dX10_turn_31 : decode cX10_turn 31 = .ok (.iadd, 1) := dk_96 (by decide +kernel)
theorem dX10_turn_32 : decode cX10_turn 32 = .ok (.laload, 1) := dk_47 (by decide +kernel)
theorem dX10_turn_33 : decode cX10_turn 33 = .ok (.lneg, 1) := dk_117 (by decide +kernel)
theorem dX10_turn_34 : decode cX10_turn 34 = .ok (.lastore, 1) := dk_80 (by decide +kernel)
theorem dX10_turn_35 : decode cX10_turn 35 = .ok (.iinc 3 1, 3) := dk_132 (by decide +kernel)
theorem dX10_turn_38 : decode cX10_turn 38 = .ok (.goto (-31), 3) := dk_167 (by decide +kernel)
theorem dX10_turn_41 : decode cX10_turn 41 = .ok (.return_, 1) := dk_177 (by decide +kernel)
def wsMX10_turn : List Cond := .code yX10_turn cX10_turn 4 none :: ([.fieldLink RX10 51 "OptimaWorks$Worker" "model" "LOptimaWorks$Model;", .fieldLink RX10 93 "OptimaWorks$Model" "variables" "I", .fieldLink RX10 36 "OptimaWorks$Worker" "over" "[J"] ++ wsX10 ++ wsX100)
theorem iwsMX10_turn_in1 : ∀ w ∈ wsX10, w ∈ wsMX10_turn := fun _ h => List.mem_cons_of_mem _ (List.mem_append_left _ (List.mem_append_right _ h))
theorem iwsMX10_turn_in10 : ∀ w ∈ wsX100, w ∈ wsMX10_turn := fun _ h => List.mem_cons_of_mem _ (List.mem_append_right _ h)
theorem gdwsMX10_turn : wsMX10_turn.all goodWord = true := gdC rfl (gdA (gdA (by decide +kernel : ([.fieldLink RX10 51 "OptimaWorks$Worker" "model" "LOptimaWorks$Model;", .fieldLink RX10 93 "OptimaWorks$Model" "variables" "I", .fieldLink RX10 36 "OptimaWorks$Worker" "over" "[J"] : List Cond).all goodWord = true) gdwsX10) gdwsX100)
theorem hm_m_X10_turn_0 : (.fieldLink RX10 36 "OptimaWorks$Worker" "over" "[J" : Cond) ∈ wsMX10_turn := by decide +kernel
set_option maxHeartbeats 4000000 in
set_option maxRecDepth 100000 in
/-- a value turned -/
theorem m_X10_turn (l : Launch) (dC : Nat → ClassId) (dI : Nat → Nat → Nat) (hL : Nat → Nat) (aL : Nat → Nat) (kL : Nat → ClassId) (hT : Nat → Nat) (hM : Nat → Nat) (xL_tree : Value) (iL_names : Int32) (gL_key : Nat → Int64) (fL_kind : Nat → Int32) (fL_one : Nat → Int32) (fL_two : Nat → Int32) (fL_base : Nat → Int32) (iL_params : Int32) (fL_paramOver : Nat → Int32) (dL_paramOver : Nat) (nL_params : Nat) (fL_paramUnder : Nat → Int32) (dL_paramUnder : Nat) (nL_pu : Nat) (gL_over : Nat → Int64) (gL_under : Nat → Int64) (fL_bound : Nat → Int32) (iL_nameAt : Int32) (iL_startAt : Int32) (iL_steps : Int32) (jL_scaleOver : Int64) (jL_scaleUnder : Int64) (aM : Nat → Nat) (kM : Nat → ClassId) (iM_stands : Int32) (iM_variables : Int32) (iM_rows : Int32) (iM_goals : Int32) (iM_differents : Int32) (iM_cases : Int32) (fM_from : Nat → Int32) (fM_to : Nat → Int32) (fM_whole : Nat → Int32) (fM_ways : Nat → Int32) (iM_plainRows : Int32) (fM_plainRow : Nat → Int32) (fM_kept : Nat → Int32) (fM_goalOver : Nat → Int32) (fM_goalUnder : Nat → Int32) (fM_goalMax : Nat → Int32) (fM_different : Nat → Int32) (p1 : Int32) (b_iL_names : 0 ≤ iL_names.toInt ∧ iL_names.toInt ≤ 40) (b_fL_kind : ∀ q : Nat, 0 ≤ (fL_kind q).toInt ∧ (fL_kind q).toInt ≤ 5) (b_fL_two : ∀ q : Nat, (-1) ≤ (fL_two q).toInt ∧ (fL_two q).toInt ≤ 39) (b_fL_base : ∀ q : Nat, 0 ≤ (fL_base q).toInt ∧ (fL_base q).toInt ≤ 2560) (b_iL_params : 0 ≤ iL_params.toInt ∧ iL_params.toInt ≤ 2560) (b_nL_params : 0 ≤ nL_params ∧ nL_params ≤ 2560) (b_nm : NmL iL_names fL_kind fL_one fL_two fL_base nL_params) (b_pm : iL_params.toInt ≤ ((nL_params : Nat) : Int)) (b_pu : nL_pu = nL_params) (b_iM_stands : 0 ≤ iM_stands.toInt ∧ iM_stands.toInt ≤ 1) (b_iM_variables : 0 ≤ iM_variables.toInt ∧ iM_variables.toInt ≤ 8) (b_iM_rows : 0 ≤ iM_rows.toInt ∧ iM_rows.toInt ≤ 12) (b_iM_goals : 0 ≤ iM_goals.toInt ∧ iM_goals.toInt ≤ 3) (b_iM_differents : 0 ≤ iM_differents.toInt ∧ iM_differents.toInt ≤ 8) (b_iM_cases : 0 ≤ iM_cases.toInt ∧ iM_cases.toInt ≤ 200000) (b_fM_ways : ∀ q : Nat, 0 ≤ (fM_ways q).toInt ∧ (fM_ways q).toInt ≤ 3) (b_iM_plainRows : 0 ≤ iM_plainRows.toInt ∧ iM_plainRows.toInt ≤ 12) (b_fM_plainRow : ∀ q : Nat, 0 ≤ (fM_plainRow q).toInt ∧ (fM_plainRow q).toInt ≤ 11) (b_pr : iM_plainRows.toInt ≤ iM_rows.toInt) (b_p1 : 0 ≤ p1.toInt ∧ p1.toInt ≤ 39) (sz : Nat) : Met l yX10_turn wsMX10_turn ({ frames := 0, cells := 0, slots := 0, locals := 0 }) (va_Pc [.ref (hL 0), .int p1] (fun U => U.heap.size = sz ∧ va_P (dC, dI) vwCl (WL hL aL kL hT hM xL_tree iL_names gL_key fL_kind fL_one fL_two fL_base iL_params fL_paramOver dL_paramOver nL_params fL_paramUnder dL_paramUnder nL_pu gL_over gL_under fL_bound iL_nameAt iL_startAt iL_steps jL_scaleOver jL_scaleUnder ++ (WM hM aM kM iM_stands iM_variables iM_rows iM_goals iM_differents iM_cases fM_from fM_to fM_whole fM_ways iM_plainRows fM_plainRow fM_kept fM_goalOver fM_goalUnder fM_goalMax fM_different)) U.heap ∧ va_K (dC, dI) vwCl (tL kL ++ (tM kM)) U ∧ va_D (fun _ => True) (WL hL aL kL hT hM xL_tree iL_names gL_key fL_kind fL_one fL_two fL_base iL_params fL_paramOver dL_paramOver nL_params fL_paramUnder dL_paramUnder nL_pu gL_over gL_under fL_bound iL_nameAt iL_startAt iL_steps jL_scaleOver jL_scaleUnder ++ (WM hM aM kM iM_stands iM_variables iM_rows iM_goals iM_differents iM_cases fM_from fM_to fM_whole fM_ways iM_plainRows fM_plainRow fM_kept fM_goalOver fM_goalUnder fM_goalMax fM_different)))) (va_Qv (fun (u : Nat → Int64) => True) (fun (u : Nat → Int64) t => va_P (dC, dI) vwCl (WL hL aL kL hT hM xL_tree iL_names gL_key fL_kind fL_one fL_two fL_base iL_params fL_paramOver dL_paramOver nL_params fL_paramUnder dL_paramUnder nL_pu u gL_under fL_bound iL_nameAt iL_startAt iL_steps jL_scaleOver jL_scaleUnder ++ (WM hM aM kM iM_stands iM_variables iM_rows iM_goals iM_differents iM_cases fM_from fM_to fM_whole fM_ways iM_plainRows fM_plainRow fM_kept fM_goalOver fM_goalUnder fM_goalMax fM_different)) t.heap ∧ va_D (va_A (WL hL aL kL hT hM xL_tree iL_names gL_key fL_kind fL_one fL_two fL_base iL_params fL_paramOver dL_paramOver nL_params fL_paramUnder dL_paramUnder nL_pu gL_over gL_under fL_bound iL_nameAt iL_startAt iL_steps jL_scaleOver jL_scaleUnder ++ (WM hM aM kM iM_stands iM_variables iM_rows iM_goals iM_differents iM_cases fM_from fM_to fM_whole fM_ways iM_plainRows fM_plainRow fM_kept fM_goalOver fM_goalUnder fM_goalMax fM_different)) sz) (WL hL aL kL hT hM xL_tree iL_names gL_key fL_kind fL_one fL_two fL_base iL_params fL_paramOver dL_paramOver nL_params fL_paramUnder dL_paramUnder nL_pu u gL_under fL_bound iL_nameAt iL_startAt iL_steps jL_scaleOver jL_scaleUnder ++ (WM hM aM kM iM_stands iM_variables iM_rows iM_goals iM_differents iM_cases fM_from fM_to fM_whole fM_ways iM_plainRows fM_plainRow fM_kept fM_goalOver fM_goalUnder fM_goalMax fM_different))) (va_A (WL hL aL kL hT hM xL_tree iL_names gL_key fL_kind fL_one fL_two fL_base iL_params fL_paramOver dL_paramOver nL_params fL_paramUnder dL_paramUnder nL_pu gL_over gL_under fL_bound iL_nameAt iL_startAt iL_steps jL_scaleOver jL_scaleUnder ++ (WM hM aM kM iM_stands iM_variables iM_rows iM_goals iM_differents iM_cases fM_from fM_to fM_whole fM_ways iM_plainRows fM_plainRow fM_kept fM_goalOver fM_goalUnder fM_goalMax fM_different)) sz)) 0 0 (va_A (WL hL aL kL hT hM xL_tree iL_names gL_key fL_kind fL_one fL_two fL_base iL_params fL_paramOver dL_paramOver nL_params fL_paramUnder dL_paramUnder nL_pu gL_over gL_under fL_bound iL_nameAt iL_startAt iL_steps jL_scaleOver jL_scaleUnder ++ (WM hM aM kM iM_stands iM_variables iM_rows iM_goals iM_differents iM_cases fM_from fM_to fM_whole fM_ways iM_plainRows fM_plainRow fM_kept fM_goalOver fM_goalUnder fM_goalMax fM_different)) sz) := by
  refine Met.ofW (cc := cX10_turn) (maxL := 4) (ret := none) (by decide) rfl ?_
  intro p e s m args below meth c s₁ B hml hv
  obtain ⟨rfl, hsz, hP, hK, hD0⟩ := hv
  have hx := B.exec
  have hb := B.bytes
  have hr := B.returns
  have hts := atoms_spec (ws := wsMX10_turn) B.pre
  have hown : s.vm.findClass RX10 = some m.cls := findClass_of_methodNamed B.named
  have hlocks := B.notSynchronized
  subst hsz
  have hD := hD0.self (sz := s.heap.size)
  generalize hAe : va_A (WL hL aL kL hT hM xL_tree iL_names gL_key fL_kind fL_one fL_two fL_base iL_params fL_paramOver dL_paramOver nL_params fL_paramUnder dL_paramUnder nL_pu gL_over gL_under fL_bound iL_nameAt iL_startAt iL_steps jL_scaleOver jL_scaleUnder ++ (WM hM aM kM iM_stands iM_variables iM_rows iM_goals iM_differents iM_cases fM_from fM_to fM_whole fM_ways iM_plainRows fM_plainRow fM_kept fM_goalOver fM_goalUnder fM_goalMax fM_different)) s.heap.size = A at hD ⊢
  have hA : ∀ q : Nat, s.heap.size ≤ q → A q := fun q h => by rw [← hAe]; exact Or.inr h
  have hS : va_S A s.heap s.heap [] := va_S.rf
  have hl := lv_entry ([.ref (hL 0), .int p1]) (n := 4) (Nat.le_of_ble_eq_true rfl)
  rw [lg_entry_eq]
  generalize (lg_sl ([.ref (hL 0), .int p1]) ++ List.replicate (4 - (lg_sl ([.ref (hL 0), .int p1])).length) Slot.unset).toArray = ls at hl ⊢
  have hl : lv_has ls 4 [(0, .ref (hL 0)), (1, .int p1)] := hl
  refine lv_iload_n hx hb dX10_turn_0 rfl (lv_at hl 1 rfl) ?_
  refine lv_bipush (v := 9) hx hb dX10_turn_1 (by decide) ?_
  refine lv_imul hx hb dX10_turn_3 ?_
  refine lv_topi (fun y1 hy1 => ?_)
  obtain rfl : (iI (p1.toInt * 9)) = y1 := (hy1.trans (iI_mul2 (iI_of _) (by decide : (9 : Int32) = iI 9))).symm
  refine lv_istore_n hx hb dX10_turn_4 rfl hl (by decide) rfl (fun ls (hl : lv_has ls _ ([(2, .int (iI (p1.toInt * 9))), (0, .ref (hL 0)), (1, .int p1)])) => ?_)
  refine lv_iconst (v := 0) hx hb dX10_turn_5 (by decide) ?_
  refine lv_istore_n hx hb dX10_turn_6 rfl hl (by decide) rfl (fun ls (hl : lv_has ls _ ([(3, .int 0), (2, .int (iI (p1.toInt * 9))), (0, .ref (hL 0)), (1, .int p1)])) => ?_)
  have hl : lv_has _ _ ([(3, .int 0), (2, .int (iI (p1.toInt * 9))), (0, .ref (hL 0)), (1, .int p1)]) := lv_sub hl [0, 1, 2, 3] rfl
  refine (fun (loop : ∀ (n9 : Nat) (gL_over_x7 : Nat → Int64) (l3_x7 : Int32) (H : Heap) (locs : List Loc) (ls : Array Slot), (0 ≤ l3_x7.toInt ∧ l3_x7.toInt ≤ 9) → (9 - l3_x7.toInt < ((n9 : Nat) : Int)) → va_P (dC, dI) vwCl (WL hL aL kL hT hM xL_tree iL_names gL_key fL_kind fL_one fL_two fL_base iL_params fL_paramOver dL_paramOver nL_params fL_paramUnder dL_paramUnder nL_pu gL_over_x7 gL_under fL_bound iL_nameAt iL_startAt iL_steps jL_scaleOver jL_scaleUnder ++ (WM hM aM kM iM_stands iM_variables iM_rows iM_goals iM_differents iM_cases fM_from fM_to fM_whole fM_ways iM_plainRows fM_plainRow fM_kept fM_goalOver fM_goalUnder fM_goalMax fM_different)) H → va_D A (WL hL aL kL hT hM xL_tree iL_names gL_key fL_kind fL_one fL_two fL_base iL_params fL_paramOver dL_paramOver nL_params fL_paramUnder dL_paramUnder nL_pu gL_over_x7 gL_under fL_bound iL_nameAt iL_startAt iL_steps jL_scaleOver jL_scaleUnder ++ (WM hM aM kM iM_stands iM_variables iM_rows iM_goals iM_differents iM_cases fM_from fM_to fM_whole fM_ways iM_plainRows fM_plainRow fM_kept fM_goalOver fM_goalUnder fM_goalMax fM_different)) → va_S A s.heap H locs → lv_has ls 4 [(3, .int l3_x7), (2, .int (iI (p1.toInt * 9))), (0, .ref (hL 0)), (1, .int p1)] → W p l e _ s m _ below meth c H locs 0 0 _ (F0 m 7 ls [])) => loop (10) gL_over 0 _ _ _ (show 0 ≤ (0 : Int32).toInt ∧ (0 : Int32).toInt ≤ 9 from by decide) ((by have e9 : (0 : Int32).toInt = 0 := (by decide : (0 : Int32).toInt = 0); omega)) hP hD hS hl) ?_
  intro n9
  induction n9 with
  | zero => intro gL_over_x7 l3_x7 H locs ls b_l3_x7 hf9; exact False.elim (by omega)
  | succ n9 ihx7 =>
    intro gL_over_x7 l3_x7 H locs ls b_l3_x7 hfx7 hP hD hS hl
    refine lv_iload_n hx hb dX10_turn_7 rfl (lv_at hl 0 rfl) ?_
    refine lv_aload_n hx hb dX10_turn_8 rfl (lv_at hl 2 rfl) ?_
    refine va_get (D := (dC, dI)) (ci := 10) (v := .ref (hM 0)) (C := RX10) (T := TX10) (N := 20) hx hb hts iwsMX10_turn_in10 hown hK hP 0 rfl rfl 1 (by decide) (hts (.fieldLink RX10 51 "OptimaWorks$Worker" "model" "LOptimaWorks$Model;") (by decide +kernel)) (fun _ h9 => h9) rfl dX10_turn_9 ?_
    refine va_get (D := (dC, dI)) (ci := 1) (v := .int iM_variables) (C := RX1) (T := TX1) (N := 17) hx hb hts iwsMX10_turn_in1 hown hK hP 11 rfl rfl 1 (by decide) (hts (.fieldLink RX10 93 "OptimaWorks$Model" "variables" "I") (by decide +kernel)) (fun _ h9 => h9) rfl dX10_turn_12 ?_
    refine lv_icmp_gt (tgt := 41) hx hb dX10_turn_15 (by decide) (fun c_15 => ?_) (fun c_15 => ?_)
    · have t_15 : l3_x7.toInt > iM_variables.toInt := toI_gt c_15 rfl rfl
      refine W.widen (k := 0) (n := 0) (by decide +kernel) (by decide +kernel) ?_
      exact W.vret hx hb hr (fun t9_ ht hW => ⟨⟨gL_over_x7, rfl, trivial, by rw [ht]; exact hP, hD⟩, hS.F ht⟩) hS.2.2 dX10_turn_41
    · have t_15 : ¬ l3_x7.toInt > iM_variables.toInt := toI_ngt c_15 rfl rfl
      refine lv_aload_n hx hb dX10_turn_18 rfl (lv_at hl 2 rfl) ?_
      refine va_get (D := (dC, dI)) (ci := 10) (v := .ref (aL 7)) (C := RX10) (T := TX10) (N := 20) hx hb hts iwsMX10_turn_in10 hown hK hP 0 rfl rfl 12 (by decide) (hts _ hm_m_X10_turn_0) (fun _ h9 => h9) rfl dX10_turn_19 ?_
      refine lv_iload_n hx hb dX10_turn_22 rfl (lv_at hl 1 rfl) ?_
      refine lv_iload_n hx hb dX10_turn_23 rfl (lv_at hl 0 rfl) ?_
      refine lv_iadd hx hb dX10_turn_24 ?_
      refine lv_topi (fun y27 hy27 => ?_)
      obtain rfl : (iI ((p1.toInt * 9) + l3_x7.toInt)) = y27 := (hy27.trans (iI_add2 rfl (iI_of _))).symm
      refine lv_aload_n hx hb dX10_turn_25 rfl (lv_at hl 2 rfl) ?_
      refine va_get (D := (dC, dI)) (ci := 10) (v := .ref (aL 7)) (C := RX10) (T := TX10) (N := 20) hx hb hts iwsMX10_turn_in10 hown hK hP 0 rfl rfl 12 (by decide) (hts _ hm_m_X10_turn_0) (fun _ h9 => h9) rfl dX10_turn_26 ?_
      refine lv_iload_n hx hb dX10_turn_29 rfl (lv_at hl 1 rfl) ?_
      refine lv_iload_n hx hb dX10_turn_30 rfl (lv_at hl 0 rfl) ?_
      refine lv_iadd hx hb dX10_turn_31 ?_
      refine lv_topi (fun y28 hy28 => ?_)
      obtain rfl : (iI ((p1.toInt * 9) + l3_x7.toInt)) = y28 := (hy28.trans (iI_add2 rfl (iI_of _))).symm
      refine va_lald (cA := kL 7) (n := 360) (f := gL_over_x7) hx hb hK hP 8 7 rfl rfl (vp_iI (Int.le_trans (by decide) (Int.add_le_add (Int.mul_le_mul_of_nonneg_right (b_p1.1) (by decide)) (b_l3_x7.1))) (by omega) (by decide)) dX10_turn_32 ?_
      refine lv_topl (fun v29 hv29 => ?_)
      clear hv29
      refine lv_lneg hx hb dX10_turn_33 ?_
      refine lv_topl (fun v30 hv30 => ?_)
      clear hv30
      refine va_last (cA := kL 7) (n := 360) (f := gL_over_x7) hx hb hK hP hD hS 8 7 rfl rfl (vp_iI (Int.le_trans (by decide) (Int.add_le_add (Int.mul_le_mul_of_nonneg_right (b_p1.1) (by decide)) (b_l3_x7.1))) (by omega) (by decide)) dX10_turn_34 (fun H locs hP hD hS => ?_)
      obtain ⟨u31, hu31⟩ : ∃ f9, f9 = vp_updL gL_over_x7 ((iI ((p1.toInt * 9) + l3_x7.toInt))).toNatClampNeg v30 := ⟨_, rfl⟩
      have hP : va_P (dC, dI) vwCl (WL hL aL kL hT hM xL_tree iL_names gL_key fL_kind fL_one fL_two fL_base iL_params fL_paramOver dL_paramOver nL_params fL_paramUnder dL_paramUnder nL_pu u31 gL_under fL_bound iL_nameAt iL_startAt iL_steps jL_scaleOver jL_scaleUnder ++ (WM hM aM kM iM_stands iM_variables iM_rows iM_goals iM_differents iM_cases fM_from fM_to fM_whole fM_ways iM_plainRows fM_plainRow fM_kept fM_goalOver fM_goalUnder fM_goalMax fM_different)) H := by rw [hu31]; exact hP
      have hD : va_D A (WL hL aL kL hT hM xL_tree iL_names gL_key fL_kind fL_one fL_two fL_base iL_params fL_paramOver dL_paramOver nL_params fL_paramUnder dL_paramUnder nL_pu u31 gL_under fL_bound iL_nameAt iL_startAt iL_steps jL_scaleOver jL_scaleUnder ++ (WM hM aM kM iM_stands iM_variables iM_rows iM_goals iM_differents iM_cases fM_from fM_to fM_whole fM_ways iM_plainRows fM_plainRow fM_kept fM_goalOver fM_goalUnder fM_goalMax fM_different)) := by rw [hu31]; exact hD
      clear hu31
      refine lv_iinc (v := (iI (l3_x7.toInt + 1))) hx hb dX10_turn_35 hl (k := 0) rfl (iI_add2 (iI_of _) (by decide : (1 : Int32) = iI 1)) (by decide) rfl (fun ls (hl : lv_has ls _ ([(3, .int (iI (l3_x7.toInt + 1))), (2, .int (iI (p1.toInt * 9))), (0, .ref (hL 0)), (1, .int p1)])) => ?_)
      refine lv_goto (tgt := 7) hx hb dX10_turn_38 (by decide) ?_
      have hl : lv_has _ _ ([(3, .int (iI (l3_x7.toInt + 1))), (2, .int (iI (p1.toInt * 9))), (0, .ref (hL 0)), (1, .int p1)]) := lv_sub hl [0, 1, 2, 3] rfl
      exact ihx7 u31 (iI (l3_x7.toInt + 1)) _ _ _ (iI_rng (Int.le_trans (by decide) (Int.add_le_add (b_l3_x7.1) (Int.le_refl _))) (by omega) (by decide) (by decide)) (by have e9 : ((iI (l3_x7.toInt + 1))).toInt = (l3_x7.toInt + 1) := (iI_t (Int.le_trans (by decide) (Int.add_le_add (b_l3_x7.1) (Int.le_refl _))) (Int.le_trans (Int.add_le_add (b_l3_x7.2) (Int.le_refl _)) (by decide))); omega) hP hD hS hl

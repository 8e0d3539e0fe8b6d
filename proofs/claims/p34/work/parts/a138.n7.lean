theorem hd_yX7_change_RX7 : yX7_change.cls = RX7 ∧ yX7_change.cls ≠ "java/lang/invoke/MethodHandle" ∧ yX7_change.cls ≠ "java/lang/invoke/VarHandle" ∧ (parseMethodDescriptor yX7_change.desc).map (fun d => d.parameters.length) = some 0 := by decide +kernel
theorem hd_yX7_isSet_RX7 : yX7_isSet.cls = RX7 ∧ yX7_isSet.cls ≠ "java/lang/invoke/MethodHandle" ∧ yX7_isSet.cls ≠ "java/lang/invoke/VarHandle" ∧ (parseMethodDescriptor yX7_isSet.desc).map (fun d => d.parameters.length) = some 1 := by decide +kernel
theorem hd_yX7_isHolder_RX7 : yX7_isHolder.cls = RX7 ∧ yX7_isHolder.cls ≠ "java/lang/invoke/MethodHandle" ∧ yX7_isHolder.cls ≠ "java/lang/invoke/VarHandle" ∧ (parseMethodDescriptor yX7_isHolder.desc).map (fun d => d.parameters.length) = some 1 := by decide +kernel
def WV (hV : Nat → Nat) (aV : Nat → Nat) (kV : Nat → ClassId) (iV_holders : Int32) (iV_rules : Int32) (fV_pairs : Nat → Int32) (fV_domain : Nat → Int32) (fV_kind : Nat → Int32) (fV_a : Nat → Int32) (fV_b : Nat → Int32) (fV_c : Nat → Int32) (fV_rulePairs : Nat → Int32) (fV_lastHolder : Nat → Int32) (fV_now : Nat → Int32) (iV_doneFor : Int32) (iV_changed : Int32) (gV_fore : Nat → Int64) (gV_back : Nat → Int64) (fV_together : Nat → Int32) (fV_member : Nat → Int32) (gV_list : Nat → Int64) (dV_list : Nat) (nV_list : Nat) (iV_listed : Int32) (iV_listDone : Int32) : va_W := [(hV 0, .inr (7, [.int iV_holders, .int iV_rules, .ref (aV 0), .ref (aV 1), .ref (aV 2), .ref (aV 3), .ref (aV 4), .ref (aV 5), .ref (aV 6), .ref (aV 7), .ref (aV 8), .int iV_doneFor, .int iV_changed, .ref (aV 9), .ref (aV 10), .ref (aV 11), .ref (aV 12), .ref dV_list, .int iV_listed, .int iV_listDone])), (aV 0, .inl (kV 0, 16, .inl fV_pairs)), (aV 1, .inl (kV 1, 10, .inl fV_domain)), (aV 2, .inl (kV 2, 12, .inl fV_kind)), (aV 3, .inl (kV 3, 12, .inl fV_a)), (aV 4, .inl (kV 4, 12, .inl fV_b)), (aV 5, .inl (kV 5, 12, .inl fV_c)), (aV 6, .inl (kV 6, 192, .inl fV_rulePairs)), (aV 7, .inl (kV 7, 12, .inl fV_lastHolder)), (aV 8, .inl (kV 8, 10, .inl fV_now)), (aV 9, .inl (kV 9, 33, .inr (.inl gV_fore))), (aV 10, .inl (kV 10, 33, .inr (.inl gV_back))), (aV 11, .inl (kV 11, 1024, .inl fV_together)), (aV 12, .inl (kV 12, 10, .inl fV_member)), (dV_list, .inl (kV 13, nV_list, .inr (.inl gV_list)))]
def tV (kV : Nat → ClassId) : List (ClassId × FieldType) := [(kV 0, .int), (kV 1, .int), (kV 2, .int), (kV 3, .int), (kV 4, .int), (kV 5, .int), (kV 6, .int), (kV 7, .int), (kV 8, .int), (kV 9, .long), (kV 10, .long), (kV 11, .int), (kV 12, .int), (kV 13, .long)]
theorem dX7_change_0 : decode cX7_change 0 = .ok (.aload_n 0, 1) := dk_42 (by decide +kernel)
theorem dX7_change_1 : decode cX7_change 1 = .ok (.iconst (-1), 1) := dk_2 (by decide +kernel)
theorem dX7_change_2 : decode cX7_change 2 = .ok (.putfield 39, 3) := dk_181 (by decide +kernel)
theorem dX7_change_5 : decode cX7_change 5 = .ok (.aload_n 0, 1) := dk_42 (by decide +kernel)
theorem dX7_change_6 : decode cX7_change 6 = .ok (.iconst 0, 1) := dk_3 (by decide +kernel)
theorem dX7_change_7 : decode cX7_change 7 = .ok (.putfield 68, 3) := dk_181 (by decide +kernel)
theorem dX7_change_10 : decode cX7_change 10 = .ok (.return_, 1) := dk_177 (by decide +kernel)
def wsMX7_change : List Cond := .code yX7_change cX7_change 1 none :: ([.fieldLink RX7 39 "OptimaWorks$ValueDesk" "doneFor" "I", .fieldLink RX7 68 "OptimaWorks$ValueDesk" "listDone" "Z"] ++ wsX70)
theorem iwsMX7_change_in7 : ∀ w ∈ wsX70, w ∈ wsMX7_change := fun _ h => List.mem_cons_of_mem _ (List.mem_append_right _ h)
theorem gdwsMX7_change : wsMX7_change.all goodWord = true := gdC rfl (gdA (by decide +kernel : ([.fieldLink RX7 39 "OptimaWorks$ValueDesk" "doneFor" "I", .fieldLink RX7 68 "OptimaWorks$ValueDesk" "listDone" "Z"] : List Cond).all goodWord = true) gdwsX70)
set_option maxHeartbeats 4000000 in
set_option maxRecDepth 100000 in
/-- something changed -/
theorem m_X7_change (l : Launch) (dC : Nat → ClassId) (dI : Nat → Nat → Nat) (hV : Nat → Nat) (aV : Nat → Nat) (kV : Nat → ClassId) (iV_holders : Int32) (iV_rules : Int32) (fV_pairs : Nat → Int32) (fV_domain : Nat → Int32) (fV_kind : Nat → Int32) (fV_a : Nat → Int32) (fV_b : Nat → Int32) (fV_c : Nat → Int32) (fV_rulePairs : Nat → Int32) (fV_lastHolder : Nat → Int32) (fV_now : Nat → Int32) (iV_doneFor : Int32) (iV_changed : Int32) (gV_fore : Nat → Int64) (gV_back : Nat → Int64) (fV_together : Nat → Int32) (fV_member : Nat → Int32) (gV_list : Nat → Int64) (dV_list : Nat) (nV_list : Nat) (iV_listed : Int32) (iV_listDone : Int32) (b_iV_holders : 0 ≤ iV_holders.toInt ∧ iV_holders.toInt ≤ 10) (b_iV_rules : 0 ≤ iV_rules.toInt ∧ iV_rules.toInt ≤ 12) (b_fV_kind : ∀ q : Nat, 0 ≤ (fV_kind q).toInt ∧ (fV_kind q).toInt ≤ 4) (b_iV_changed : 0 ≤ iV_changed.toInt ∧ iV_changed.toInt ≤ 1) (b_fV_member : ∀ q : Nat, (-1) ≤ (fV_member q).toInt ∧ (fV_member q).toInt ≤ 15) (b_nV_list : 0 ≤ nV_list ∧ nV_list ≤ 20000) (b_iV_listed : (-1) ≤ iV_listed.toInt ∧ iV_listed.toInt ≤ 5000) (b_iV_listDone : 0 ≤ iV_listDone.toInt ∧ iV_listDone.toInt ≤ 1) (b_RuV : RuV fV_kind fV_a fV_b fV_c fV_lastHolder) (b_lst : iV_listed.toInt ≤ ((nV_list : Nat) : Int)) (sz : Nat) : Met l yX7_change wsMX7_change ({ frames := 0, cells := 0, slots := 0, locals := 0 }) (va_Pc [.ref (hV 0)] (fun U => U.heap.size = sz ∧ va_P (dC, dI) vwCl (WV hV aV kV iV_holders iV_rules fV_pairs fV_domain fV_kind fV_a fV_b fV_c fV_rulePairs fV_lastHolder fV_now iV_doneFor iV_changed gV_fore gV_back fV_together fV_member gV_list dV_list nV_list iV_listed iV_listDone) U.heap ∧ va_K (dC, dI) vwCl (tV kV) U ∧ va_D (fun _ => True) (WV hV aV kV iV_holders iV_rules fV_pairs fV_domain fV_kind fV_a fV_b fV_c fV_rulePairs fV_lastHolder fV_now iV_doneFor iV_changed gV_fore gV_back fV_together fV_member gV_list dV_list nV_list iV_listed iV_listDone))) (va_Qv (fun (u : (Int32) × (Int32)) => (0 ≤ (u.2).toInt ∧ (u.2).toInt ≤ 1)) (fun (u : (Int32) × (Int32)) t => va_P (dC, dI) vwCl (WV hV aV kV iV_holders iV_rules fV_pairs fV_domain fV_kind fV_a fV_b fV_c fV_rulePairs fV_lastHolder fV_now (u.1) iV_changed gV_fore gV_back fV_together fV_member gV_list dV_list nV_list iV_listed (u.2)) t.heap ∧ va_D (va_A (WV hV aV kV iV_holders iV_rules fV_pairs fV_domain fV_kind fV_a fV_b fV_c fV_rulePairs fV_lastHolder fV_now iV_doneFor iV_changed gV_fore gV_back fV_together fV_member gV_list dV_list nV_list iV_listed iV_listDone) sz) (WV hV aV kV iV_holders iV_rules fV_pairs fV_domain fV_kind fV_a fV_b fV_c fV_rulePairs fV_lastHolder fV_now (u.1) iV_changed gV_fore gV_back fV_together fV_member gV_list dV_list nV_list iV_listed (u.2))) (va_A (WV hV aV kV iV_holders iV_rules fV_pairs fV_domain fV_kind fV_a fV_b fV_c fV_rulePairs fV_lastHolder fV_now iV_doneFor iV_changed gV_fore gV_back fV_together fV_member gV_list dV_list nV_list iV_listed iV_listDone) sz)) 0 0 (va_A (WV hV aV kV iV_holders iV_rules fV_pairs fV_domain fV_kind fV_a fV_b fV_c fV_rulePairs fV_lastHolder fV_now iV_doneFor iV_changed gV_fore gV_back fV_together fV_member gV_list dV_list nV_list iV_listed iV_listDone) sz) := by
  refine Met.ofW (cc := cX7_change) (maxL := 1) (ret := none) (by decide) rfl ?_
  intro p e s m args below meth c s₁ B hml hv
  obtain ⟨rfl, hsz, hP, hK, hD0⟩ := hv
  have hx := B.exec
  have hb := B.bytes
  have hr := B.returns
  have hts := atoms_spec (ws := wsMX7_change) B.pre
  have hown : s.vm.findClass RX7 = some m.cls := findClass_of_methodNamed B.named
  have hlocks := B.notSynchronized
  subst hsz
  have hD := hD0.self (sz := s.heap.size)
  generalize hAe : va_A (WV hV aV kV iV_holders iV_rules fV_pairs fV_domain fV_kind fV_a fV_b fV_c fV_rulePairs fV_lastHolder fV_now iV_doneFor iV_changed gV_fore gV_back fV_together fV_member gV_list dV_list nV_list iV_listed iV_listDone) s.heap.size = A at hD ⊢
  have hA : ∀ q : Nat, s.heap.size ≤ q → A q := fun q h => by rw [← hAe]; exact Or.inr h
  have hS : va_S A s.heap s.heap [] := va_S.rf
  have hl := lv_entry ([.ref (hV 0)]) (n := 1) (Nat.le_of_ble_eq_true rfl)
  rw [lg_entry_eq]
  generalize (lg_sl ([.ref (hV 0)]) ++ List.replicate (1 - (lg_sl ([.ref (hV 0)])).length) Slot.unset).toArray = ls at hl ⊢
  have hl : lv_has ls 1 [(0, .ref (hV 0))] := hl
  refine lv_aload_n hx hb dX7_change_0 rfl (lv_at hl 0 rfl) ?_
  refine lv_iconst (v := (-1)) hx hb dX7_change_1 (by decide) ?_
  refine va_put (D := (dC, dI)) (ci := 7) (v := .int (-1)) (ty := .int) (C := RX7) (T := TX7) (N := 20) hx hb hts iwsMX7_change_in7 tyX7 tyX7_ok nmX7 hown hK hP hD hS 0 rfl rfl 11 (by decide) (hts (.fieldLink RX7 39 "OptimaWorks$ValueDesk" "doneFor" "I") (by decide +kernel)) (fun _ h9 => h9) rfl (by decide +kernel) rfl rfl (Nat.le_of_ble_eq_true rfl) dX7_change_2 (fun H locs hP hD hS => ?_)
  have hP : va_P (dC, dI) vwCl (WV hV aV kV iV_holders iV_rules fV_pairs fV_domain fV_kind fV_a fV_b fV_c fV_rulePairs fV_lastHolder fV_now (-1) iV_changed gV_fore gV_back fV_together fV_member gV_list dV_list nV_list iV_listed iV_listDone) H := hP
  have hD : va_D A (WV hV aV kV iV_holders iV_rules fV_pairs fV_domain fV_kind fV_a fV_b fV_c fV_rulePairs fV_lastHolder fV_now (-1) iV_changed gV_fore gV_back fV_together fV_member gV_list dV_list nV_list iV_listed iV_listDone) := hD
  refine lv_aload_n hx hb dX7_change_5 rfl (lv_at hl 0 rfl) ?_
  refine lv_iconst (v := 0) hx hb dX7_change_6 (by decide) ?_
  refine va_put (D := (dC, dI)) (ci := 7) (v := .int 0) (ty := .boolean) (C := RX7) (T := TX7) (N := 20) hx hb hts iwsMX7_change_in7 tyX7 tyX7_ok nmX7 hown hK hP hD hS 0 rfl rfl 19 (by decide) (hts (.fieldLink RX7 68 "OptimaWorks$ValueDesk" "listDone" "Z") (by decide +kernel)) (fun _ h9 => h9) rfl (by decide +kernel) rfl rfl (Nat.le_of_ble_eq_true rfl) dX7_change_7 (fun H locs hP hD hS => ?_)
  have hP : va_P (dC, dI) vwCl (WV hV aV kV iV_holders iV_rules fV_pairs fV_domain fV_kind fV_a fV_b fV_c fV_rulePairs fV_lastHolder fV_now (-1) iV_changed gV_fore gV_back fV_together fV_member gV_list dV_list nV_list iV_listed 0) H := hP
  have hD : va_D A (WV hV aV kV iV_holders iV_rules fV_pairs fV_domain fV_kind fV_a fV_b fV_c fV_rulePairs fV_lastHolder fV_now (-1) iV_changed gV_fore gV_back fV_together fV_member gV_list dV_list nV_list iV_listed 0) := hD
  refine W.widen (k := 0) (n := 0) (by decide +kernel) (by decide +kernel) ?_
  exact W.vret hx hb hr (fun t9_ ht hW => ⟨⟨((-1), 0), rfl, (by (try dsimp only); exact (show 0 ≤ (0 : Int32).toInt ∧ (0 : Int32).toInt ≤ 1 from by decide)), by rw [ht]; exact hP, hD⟩, hS.F ht⟩) hS.2.2 dX7_change_10
theorem dX7_forget_0 : decode cX7_forget 0 = .ok (.aload_n 0, 1) := dk_42 (by decide +kernel)
theorem dX7_forget_1 : decode cX7_forget 1 = .ok (.iconst 0, 1) := dk_3 (by decide +kernel)
theorem dX7_forget_2 : decode cX7_forget 2 = .ok (.putfield 59, 3) := dk_181 (by decide +kernel)
theorem dX7_forget_5 : decode cX7_forget 5 = .ok (.aload_n 0, 1) := dk_42 (by decide +kernel)
theorem dX7_forget_6 : decode cX7_forget 6 = .ok (.iconst 0, 1) := dk_3 (by decide +kernel)
theorem dX7_forget_7 : decode cX7_forget 7 = .ok (.putfield 62, 3) := dk_181 (by decide +kernel)
theorem dX7_forget_10 : decode cX7_forget 10 = .ok (.aload_n 0, 1) := dk_42 (by decide +kernel)
theorem dX7_forget_11 : decode cX7_forget 11 = .ok (.invokevirtual 65, 3) := dk_182 (by decide +kernel)
theorem dX7_forget_14 : decode cX7_forget 14 = .ok (.return_, 1) := dk_177 (by decide +kernel)
def wsMX7_forget : List Cond := .code yX7_forget cX7_forget 1 none :: ([.fieldLink RX7 59 "OptimaWorks$ValueDesk" "holders" "I", .fieldLink RX7 62 "OptimaWorks$ValueDesk" "rules" "I"] ++ wsX70 ++ (wsV RX7 65 RX7 yX7_change wsMX7_change))
theorem iwsMX7_forget_in7 : ∀ w ∈ wsX70, w ∈ wsMX7_forget := fun _ h => List.mem_cons_of_mem _ (List.mem_append_left _ (List.mem_append_right _ h))
theorem gwsMX7_forget_0 : GoodIn wsMX7_forget (wsV RX7 65 RX7 yX7_change wsMX7_change) := goodIn_sub (fun _ h => List.mem_cons_of_mem _ (List.mem_append_right _ h)) (gdV (by decide +kernel) gdwsMX7_change)
theorem gdwsMX7_forget : wsMX7_forget.all goodWord = true := gdC rfl (gdA (gdA (by decide +kernel : ([.fieldLink RX7 59 "OptimaWorks$ValueDesk" "holders" "I", .fieldLink RX7 62 "OptimaWorks$ValueDesk" "rules" "I"] : List Cond).all goodWord = true) gdwsX70) (gdV (by decide +kernel) gdwsMX7_change))
set_option maxHeartbeats 4000000 in
set_option maxRecDepth 100000 in
/-- all forgotten -/
theorem m_X7_forget (l : Launch) (dC : Nat → ClassId) (dI : Nat → Nat → Nat) (hV : Nat → Nat) (aV : Nat → Nat) (kV : Nat → ClassId) (iV_holders : Int32) (iV_rules : Int32) (fV_pairs : Nat → Int32) (fV_domain : Nat → Int32) (fV_kind : Nat → Int32) (fV_a : Nat → Int32) (fV_b : Nat → Int32) (fV_c : Nat → Int32) (fV_rulePairs : Nat → Int32) (fV_lastHolder : Nat → Int32) (fV_now : Nat → Int32) (iV_doneFor : Int32) (iV_changed : Int32) (gV_fore : Nat → Int64) (gV_back : Nat → Int64) (fV_together : Nat → Int32) (fV_member : Nat → Int32) (gV_list : Nat → Int64) (dV_list : Nat) (nV_list : Nat) (iV_listed : Int32) (iV_listDone : Int32) (b_iV_holders : 0 ≤ iV_holders.toInt ∧ iV_holders.toInt ≤ 10) (b_iV_rules : 0 ≤ iV_rules.toInt ∧ iV_rules.toInt ≤ 12) (b_fV_kind : ∀ q : Nat, 0 ≤ (fV_kind q).toInt ∧ (fV_kind q).toInt ≤ 4) (b_iV_changed : 0 ≤ iV_changed.toInt ∧ iV_changed.toInt ≤ 1) (b_fV_member : ∀ q : Nat, (-1) ≤ (fV_member q).toInt ∧ (fV_member q).toInt ≤ 15) (b_nV_list : 0 ≤ nV_list ∧ nV_list ≤ 20000) (b_iV_listed : (-1) ≤ iV_listed.toInt ∧ iV_listed.toInt ≤ 5000) (b_iV_listDone : 0 ≤ iV_listDone.toInt ∧ iV_listDone.toInt ≤ 1) (b_RuV : RuV fV_kind fV_a fV_b fV_c fV_lastHolder) (b_lst : iV_listed.toInt ≤ ((nV_list : Nat) : Int)) (sz : Nat) : Met l yX7_forget wsMX7_forget ({ frames := 1, cells := 0, slots := 0, locals := 20 }) (va_Pc [.ref (hV 0)] (fun U => U.heap.size = sz ∧ va_P (dC, dI) vwCl (WV hV aV kV iV_holders iV_rules fV_pairs fV_domain fV_kind fV_a fV_b fV_c fV_rulePairs fV_lastHolder fV_now iV_doneFor iV_changed gV_fore gV_back fV_together fV_member gV_list dV_list nV_list iV_listed iV_listDone) U.heap ∧ va_K (dC, dI) vwCl (tV kV) U ∧ va_D (fun _ => True) (WV hV aV kV iV_holders iV_rules fV_pairs fV_domain fV_kind fV_a fV_b fV_c fV_rulePairs fV_lastHolder fV_now iV_doneFor iV_changed gV_fore gV_back fV_together fV_member gV_list dV_list nV_list iV_listed iV_listDone))) (va_Qv (fun (u : (Int32) × (Int32) × (Int32) × (Int32)) => (0 ≤ (u.1).toInt ∧ (u.1).toInt ≤ 10) ∧ (0 ≤ (u.2.1).toInt ∧ (u.2.1).toInt ≤ 12) ∧ (0 ≤ (u.2.2.2).toInt ∧ (u.2.2.2).toInt ≤ 1) ∧ ((u.1).toInt = 0) ∧ ((u.2.1).toInt = 0)) (fun (u : (Int32) × (Int32) × (Int32) × (Int32)) t => va_P (dC, dI) vwCl (WV hV aV kV (u.1) (u.2.1) fV_pairs fV_domain fV_kind fV_a fV_b fV_c fV_rulePairs fV_lastHolder fV_now (u.2.2.1) iV_changed gV_fore gV_back fV_together fV_member gV_list dV_list nV_list iV_listed (u.2.2.2)) t.heap ∧ va_D (va_A (WV hV aV kV iV_holders iV_rules fV_pairs fV_domain fV_kind fV_a fV_b fV_c fV_rulePairs fV_lastHolder fV_now iV_doneFor iV_changed gV_fore gV_back fV_together fV_member gV_list dV_list nV_list iV_listed iV_listDone) sz) (WV hV aV kV (u.1) (u.2.1) fV_pairs fV_domain fV_kind fV_a fV_b fV_c fV_rulePairs fV_lastHolder fV_now (u.2.2.1) iV_changed gV_fore gV_back fV_together fV_member gV_list dV_list nV_list iV_listed (u.2.2.2))) (va_A (WV hV aV kV iV_holders iV_rules fV_pairs fV_domain fV_kind fV_a fV_b fV_c fV_rulePairs fV_lastHolder fV_now iV_doneFor iV_changed gV_fore gV_back fV_together fV_member gV_list dV_list nV_list iV_listed iV_listDone) sz)) 0 0 (va_A (WV hV aV kV iV_holders iV_rules fV_pairs fV_domain fV_kind fV_a fV_b fV_c fV_rulePairs fV_lastHolder fV_now iV_doneFor iV_changed gV_fore gV_back fV_together fV_member gV_list dV_list nV_list iV_listed iV_listDone) sz) := by
  refine Met.ofW (cc := cX7_forget) (maxL := 1) (ret := none) (by decide) rfl ?_
  intro p e s m args below meth c s₁ B hml hv
  obtain ⟨rfl, hsz, hP, hK, hD0⟩ := hv
  have hx := B.exec
  have hb := B.bytes
  have hr := B.returns
  have hts := atoms_spec (ws := wsMX7_forget) B.pre
  have hown : s.vm.findClass RX7 = some m.cls := findClass_of_methodNamed B.named
  have hlocks := B.notSynchronized
  subst hsz
  have hD := hD0.self (sz := s.heap.size)
  generalize hAe : va_A (WV hV aV kV iV_holders iV_rules fV_pairs fV_domain fV_kind fV_a fV_b fV_c fV_rulePairs fV_lastHolder fV_now iV_doneFor iV_changed gV_fore gV_back fV_together fV_member gV_list dV_list nV_list iV_listed iV_listDone) s.heap.size = A at hD ⊢
  have hA : ∀ q : Nat, s.heap.size ≤ q → A q := fun q h => by rw [← hAe]; exact Or.inr h
  have hS : va_S A s.heap s.heap [] := va_S.rf
  have hl := lv_entry ([.ref (hV 0)]) (n := 1) (Nat.le_of_ble_eq_true rfl)
  rw [lg_entry_eq]
  generalize (lg_sl ([.ref (hV 0)]) ++ List.replicate (1 - (lg_sl ([.ref (hV 0)])).length) Slot.unset).toArray = ls at hl ⊢
  have hl : lv_has ls 1 [(0, .ref (hV 0))] := hl
  refine lv_aload_n hx hb dX7_forget_0 rfl (lv_at hl 0 rfl) ?_
  refine lv_iconst (v := 0) hx hb dX7_forget_1 (by decide) ?_
  refine va_put (D := (dC, dI)) (ci := 7) (v := .int 0) (ty := .int) (C := RX7) (T := TX7) (N := 20) hx hb hts iwsMX7_forget_in7 tyX7 tyX7_ok nmX7 hown hK hP hD hS 0 rfl rfl 0 (by decide) (hts (.fieldLink RX7 59 "OptimaWorks$ValueDesk" "holders" "I") (by decide +kernel)) (fun _ h9 => h9) rfl (by decide +kernel) rfl rfl (Nat.le_of_ble_eq_true rfl) dX7_forget_2 (fun H locs hP hD hS => ?_)
  have hP : va_P (dC, dI) vwCl (WV hV aV kV 0 iV_rules fV_pairs fV_domain fV_kind fV_a fV_b fV_c fV_rulePairs fV_lastHolder fV_now iV_doneFor iV_changed gV_fore gV_back fV_together fV_member gV_list dV_list nV_list iV_listed iV_listDone) H := hP
  have hD : va_D A (WV hV aV kV 0 iV_rules fV_pairs fV_domain fV_kind fV_a fV_b fV_c fV_rulePairs fV_lastHolder fV_now iV_doneFor iV_changed gV_fore gV_back fV_together fV_member gV_list dV_list nV_list iV_listed iV_listDone) := hD
  refine lv_aload_n hx hb dX7_forget_5 rfl (lv_at hl 0 rfl) ?_
  refine lv_iconst (v := 0) hx hb dX7_forget_6 (by decide) ?_
  refine va_put (D := (dC, dI)) (ci := 7) (v := .int 0) (ty := .int) (C := RX7) (T := TX7) (N := 20) hx hb hts iwsMX7_forget_in7 tyX7 tyX7_ok nmX7 hown hK hP hD hS 0 rfl rfl 1 (by decide) (hts (.fieldLink RX7 62 "OptimaWorks$ValueDesk" "rules" "I") (by decide +kernel)) (fun _ h9 => h9) rfl (by decide +kernel) rfl rfl (Nat.le_of_ble_eq_true rfl) dX7_forget_7 (fun H locs hP hD hS => ?_)
  have hP : va_P (dC, dI) vwCl (WV hV aV kV 0 0 fV_pairs fV_domain fV_kind fV_a fV_b fV_c fV_rulePairs fV_lastHolder fV_now iV_doneFor iV_changed gV_fore gV_back fV_together fV_member gV_list dV_list nV_list iV_listed iV_listDone) H := hP
  have hD : va_D A (WV hV aV kV 0 0 fV_pairs fV_domain fV_kind fV_a fV_b fV_c fV_rulePairs fV_lastHolder fV_now iV_doneFor iV_changed gV_fore gV_back fV_together fV_member gV_list dV_list nV_list iV_listed iV_listDone) := hD
  refine lv_aload_n hx hb dX7_forget_10 rfl (lv_at hl 0 rfl) ?_
  have hFc := allFree hD hS hA
  refine va_callv (va_runV (As := []) (rest := []) ⟨hx, hb, hml, hown, hts⟩ (m_X7_change l dC dI hV aV kV 0 0 fV_pairs fV_domain fV_kind fV_a fV_b fV_c fV_rulePairs fV_lastHolder fV_now iV_doneFor iV_changed gV_fore gV_back fV_together fV_member gV_list dV_list nV_list iV_listed iV_listDone (show 0 ≤ (0 : Int32).toInt ∧ (0 : Int32).toInt ≤ 10 from by decide) (show 0 ≤ (0 : Int32).toInt ∧ (0 : Int32).toInt ≤ 12 from by decide) b_fV_kind (b_iV_changed) b_fV_member (by first | exact b_nV_list | assumption | exact ⟨by omega, by omega⟩) (b_iV_listed) (b_iV_listDone) (by first | assumption | omega) (by first | assumption | omega) H.size) (cwV 0 hts gwsMX7_forget_0 rfl rfl rfl hd_yX7_change_RX7 (by decide +kernel)) (fz_pre (va_recv hK hP (ci := 7) (q0 := 0) rfl rfl) hP hK hD) rfl rfl hl.1 rfl (lv_room (Nat.le_of_ble_eq_true rfl)) dX7_forget_11 (by decide +kernel)) hS (fun q _ h => hFc q h) hFc (fun u t9_ H locs ht hvm hw9 hB9 hz1 hk1 hS => ?_)
  obtain ⟨iV_doneFor_1, iV_listDone_1⟩ := u
  try dsimp only at hw9 hB9
  have b_iV_listDone_1 := hw9
  try dsimp only at b_iV_listDone_1
  have hP : va_P (dC, dI) vwCl (WV hV aV kV 0 0 fV_pairs fV_domain fV_kind fV_a fV_b fV_c fV_rulePairs fV_lastHolder fV_now iV_doneFor_1 iV_changed gV_fore gV_back fV_together fV_member gV_list dV_list nV_list iV_listed iV_listDone_1) H := fz_P ht hB9.1
  have hD : va_D A (WV hV aV kV 0 0 fV_pairs fV_domain fV_kind fV_a fV_b fV_c fV_rulePairs fV_lastHolder fV_now iV_doneFor_1 iV_changed gV_fore gV_back fV_together fV_member gV_list dV_list nV_list iV_listed iV_listDone_1) := hB9.2.weaken (fun _ q _ h => hFc q.1 h)
  refine W.widen (k := 0) (n := 0) (by decide +kernel) (by decide +kernel) ?_
  exact W.vret hx hb hr (fun t9_ ht hW => ⟨⟨(0, 0, iV_doneFor_1, iV_listDone_1), rfl, ⟨(by (try dsimp only); exact (show 0 ≤ (0 : Int32).toInt ∧ (0 : Int32).toInt ≤ 10 from by decide)), (by (try dsimp only); exact (show 0 ≤ (0 : Int32).toInt ∧ (0 : Int32).toInt ≤ 12 from by decide)), (by (try dsimp only); exact (by first | exact b_iV_listDone_1 | assumption | exact ⟨by omega, by omega⟩)), (by (try dsimp only); decide), (by (try dsimp only); decide)⟩, by rw [ht]; exact hP, hD⟩, hS.F ht⟩) hS.2.2 dX7_forget_14
theorem dX7_isHolder_0 : decode cX7_isHolder 0 = .ok (.iload_n 1, 1) := dk_27 (by decide +kernel)
theorem dX7_isHolder_1 : decode cX7_isHolder 1 = .ok (.ifCond .lt 15, 3) := dk_155 (by decide +kernel)
theorem dX7_isHolder_4 : decode cX7_isHolder 4 = .ok (.iload_n 1, 1) := dk_27 (by decide +kernel)
theorem dX7_isHolder_5 : decode cX7_isHolder 5 = .ok (.aload_n 0, 1) := dk_42 (by decide +kernel)
theorem dX7_isHolder_6 : decode cX7_isHolder 6 = .ok (.getfield 59, 3) := dk_180 (by decide +kernel)
theorem dX7_isHolder_9 : decode cX7_isHolder 9 = .ok (.if_icmp .ge 7, 3) := dk_162 (by decide +kernel)
theorem dX7_isHolder_12 : decode cX7_isHolder 12 = .ok (.iconst 1, 1) := dk_4 (by decide +kernel)
theorem dX7_isHolder_13 : decode cX7_isHolder 13 = .ok (.goto 4, 3) := dk_167 (by decide +kernel)
theorem dX7_isHolder_16 : decode cX7_isHolder 16 = .ok (.iconst 0, 1) := dk_3 (by decide +kernel)
theorem dX7_isHolder_17 : decode cX7_isHolder 17 = .ok (.ireturn, 1) := dk_172 (by decide +kernel)
def wsMX7_isHolder : List Cond := .code yX7_isHolder cX7_isHolder 2 (some .boolean) :: ([.fieldLink RX7 59 "OptimaWorks$ValueDesk" "holders" "I"] ++ wsX70)
theorem iwsMX7_isHolder_in7 : ∀ w ∈ wsX70, w ∈ wsMX7_isHolder := fun _ h => List.mem_cons_of_mem _ (List.mem_append_right _ h)
theorem gdwsMX7_isHolder : wsMX7_isHolder.all goodWord = true := gdC rfl (gdA (by decide +kernel : ([.fieldLink RX7 59 "OptimaWorks$ValueDesk" "holders" "I"] : List Cond).all goodWord = true) gdwsX70)
set_option maxHeartbeats 4000000 in
set_option maxRecDepth 100000 in
/-- is it a holder -/
theorem m_X7_isHolder (l : Launch) (dC : Nat → ClassId) (dI : Nat → Nat → Nat) (hV : Nat → Nat) (aV : Nat → Nat) (kV : Nat → ClassId) (iV_holders : Int32) (iV_rules : Int32) (fV_pairs : Nat → Int32) (fV_domain : Nat → Int32) (fV_kind : Nat → Int32) (fV_a : Nat → Int32) (fV_b : Nat → Int32) (fV_c : Nat → Int32) (fV_rulePairs : Nat → Int32) (fV_lastHolder : Nat → Int32) (fV_now : Nat → Int32) (iV_doneFor : Int32) (iV_changed : Int32) (gV_fore : Nat → Int64) (gV_back : Nat → Int64) (fV_together : Nat → Int32) (fV_member : Nat → Int32) (gV_list : Nat → Int64) (dV_list : Nat) (nV_list : Nat) (iV_listed : Int32) (iV_listDone : Int32) (p1 : Int32) (b_iV_holders : 0 ≤ iV_holders.toInt ∧ iV_holders.toInt ≤ 10) (b_iV_rules : 0 ≤ iV_rules.toInt ∧ iV_rules.toInt ≤ 12) (b_fV_kind : ∀ q : Nat, 0 ≤ (fV_kind q).toInt ∧ (fV_kind q).toInt ≤ 4) (b_iV_changed : 0 ≤ iV_changed.toInt ∧ iV_changed.toInt ≤ 1) (b_fV_member : ∀ q : Nat, (-1) ≤ (fV_member q).toInt ∧ (fV_member q).toInt ≤ 15) (b_nV_list : 0 ≤ nV_list ∧ nV_list ≤ 20000) (b_iV_listed : (-1) ≤ iV_listed.toInt ∧ iV_listed.toInt ≤ 5000) (b_iV_listDone : 0 ≤ iV_listDone.toInt ∧ iV_listDone.toInt ≤ 1) (b_RuV : RuV fV_kind fV_a fV_b fV_c fV_lastHolder) (b_lst : iV_listed.toInt ≤ ((nV_list : Nat) : Int)) (sz : Nat) : Met l yX7_isHolder wsMX7_isHolder ({ frames := 0, cells := 0, slots := 0, locals := 0 }) (va_Pc [.ref (hV 0), .int p1] (fun U => U.heap.size = sz ∧ va_P (dC, dI) vwCl (WV hV aV kV iV_holders iV_rules fV_pairs fV_domain fV_kind fV_a fV_b fV_c fV_rulePairs fV_lastHolder fV_now iV_doneFor iV_changed gV_fore gV_back fV_together fV_member gV_list dV_list nV_list iV_listed iV_listDone) U.heap ∧ va_K (dC, dI) vwCl (tV kV) U ∧ va_D (fun _ => True) (WV hV aV kV iV_holders iV_rules fV_pairs fV_domain fV_kind fV_a fV_b fV_c fV_rulePairs fV_lastHolder fV_now iV_doneFor iV_changed gV_fore gV_back fV_together fV_member gV_list dV_list nV_list iV_listed iV_listDone))) (va_Qi (fun (r : Int32) (u : Unit) => (0 ≤ r.toInt ∧ r.toInt ≤ 1) ∧ (r.toInt ≠ 0 → 0 ≤ p1.toInt ∧ p1.toInt < iV_holders.toInt) ∧ ((r.toInt = 1 ∧ (0 ≤ p1.toInt ∧ p1.toInt < iV_holders.toInt)) ∨ (r.toInt = 0 ∧ ¬ (0 ≤ p1.toInt ∧ p1.toInt < iV_holders.toInt)))) (fun (u : Unit) t => va_P (dC, dI) vwCl (WV hV aV kV iV_holders iV_rules fV_pairs fV_domain fV_kind fV_a fV_b fV_c fV_rulePairs fV_lastHolder fV_now iV_doneFor iV_changed gV_fore gV_back fV_together fV_member gV_list dV_list nV_list iV_listed iV_listDone) t.heap ∧ va_D (va_A (WV hV aV kV iV_holders iV_rules fV_pairs fV_domain fV_kind fV_a fV_b fV_c fV_rulePairs fV_lastHolder fV_now iV_doneFor iV_changed gV_fore gV_back fV_together fV_member gV_list dV_list nV_list iV_listed iV_listDone) sz) (WV hV aV kV iV_holders iV_rules fV_pairs fV_domain fV_kind fV_a fV_b fV_c fV_rulePairs fV_lastHolder fV_now iV_doneFor iV_changed gV_fore gV_back fV_together fV_member gV_list dV_list nV_list iV_listed iV_listDone)) (va_A (WV hV aV kV iV_holders iV_rules fV_pairs fV_domain fV_kind fV_a fV_b fV_c fV_rulePairs fV_lastHolder fV_now iV_doneFor iV_changed gV_fore gV_back fV_together fV_member gV_list dV_list nV_list iV_listed iV_listDone) sz)) 0 0 (va_A (WV hV aV kV iV_holders iV_rules fV_pairs fV_domain fV_kind fV_a fV_b fV_c fV_rulePairs fV_lastHolder fV_now iV_doneFor iV_changed gV_fore gV_back fV_together fV_member gV_list dV_list nV_list iV_listed iV_listDone) sz) := by
  refine Met.ofW (cc := cX7_isHolder) (maxL := 2) (ret := (some .boolean)) (by decide) rfl ?_
  intro p e s m args below meth c s₁ B hml hv
  obtain ⟨rfl, hsz, hP, hK, hD0⟩ := hv
  have hx := B.exec
  have hb := B.bytes
  have hr := B.returns
  have hts := atoms_spec (ws := wsMX7_isHolder) B.pre
  have hown : s.vm.findClass RX7 = some m.cls := findClass_of_methodNamed B.named
  have hlocks := B.notSynchronized
  subst hsz
  have hD := hD0.self (sz := s.heap.size)
  generalize hAe : va_A (WV hV aV kV iV_holders iV_rules fV_pairs fV_domain fV_kind fV_a fV_b fV_c fV_rulePairs fV_lastHolder fV_now iV_doneFor iV_changed gV_fore gV_back fV_together fV_member gV_list dV_list nV_list iV_listed iV_listDone) s.heap.size = A at hD ⊢
  have hA : ∀ q : Nat, s.heap.size ≤ q → A q := fun q h => by rw [← hAe]; exact Or.inr h
  have hS : va_S A s.heap s.heap [] := va_S.rf
  have hl := lv_entry ([.ref (hV 0), .int p1]) (n := 2) (Nat.le_of_ble_eq_true rfl)
  rw [lg_entry_eq]
  generalize (lg_sl ([.ref (hV 0), .int p1]) ++ List.replicate (2 - (lg_sl ([.ref (hV 0), .int p1])).length) Slot.unset).toArray = ls at hl ⊢
  have hl : lv_has ls 2 [(0, .ref (hV 0)), (1, .int p1)] := hl
  refine lv_iload_n hx hb dX7_isHolder_0 rfl (lv_at hl 1 rfl) ?_
  refine W.cut (pc := 17) (fun H locs ls stk => ∃ (k0_j2 : Int32), (0 ≤ k0_j2.toInt ∧ k0_j2.toInt ≤ 1) ∧ (k0_j2.toInt ≠ 0 → 0 ≤ p1.toInt ∧ p1.toInt < iV_holders.toInt) ∧ ((k0_j2.toInt = 1 ∧ (0 ≤ p1.toInt ∧ p1.toInt < iV_holders.toInt)) ∨ (k0_j2.toInt = 0 ∧ ¬ (0 ≤ p1.toInt ∧ p1.toInt < iV_holders.toInt))) ∧  stk = [.int k0_j2] ∧ va_P (dC, dI) vwCl (WV hV aV kV iV_holders iV_rules fV_pairs fV_domain fV_kind fV_a fV_b fV_c fV_rulePairs fV_lastHolder fV_now iV_doneFor iV_changed gV_fore gV_back fV_together fV_member gV_list dV_list nV_list iV_listed iV_listDone) H ∧ va_D A (WV hV aV kV iV_holders iV_rules fV_pairs fV_domain fV_kind fV_a fV_b fV_c fV_rulePairs fV_lastHolder fV_now iV_doneFor iV_changed gV_fore gV_back fV_together fV_member gV_list dV_list nV_list iV_listed iV_listDone) ∧ va_S A s.heap H locs ∧ lv_has ls 2 [(0, .ref (hV 0)), (1, .int p1)]) (fun join2 => ?_) ?_
  · refine lv_if_lt (tgt := 16) hx hb dX7_isHolder_1 (by decide) (fun c_1 => ?_) (fun c_1 => ?_)
    · have t_1 : p1.toInt < 0 := toI_lt c_1 rfl (by decide : (0 : Int32).toInt = 0)
      refine lv_iconst (v := 0) hx hb dX7_isHolder_16 (by decide) ?_
      have hl : lv_has _ _ ([(0, .ref (hV 0)), (1, .int p1)]) := lv_sub hl [0, 1] rfl
      exact join2 _ _ _ _ ⟨0, (show 0 ≤ (0 : Int32).toInt ∧ (0 : Int32).toInt ≤ 1 from by decide), (show (0 : Int32).toInt ≠ 0 → 0 ≤ p1.toInt ∧ p1.toInt < iV_holders.toInt from by first | (intro h9; exact absurd (by decide) h9) | (intro h9; exact ⟨by omega, by omega⟩)), (show ((0 : Int32).toInt = 1 ∧ (0 ≤ p1.toInt ∧ p1.toInt < iV_holders.toInt)) ∨ ((0 : Int32).toInt = 0 ∧ ¬ (0 ≤ p1.toInt ∧ p1.toInt < iV_holders.toInt)) from by first | exact Or.inl ⟨by decide, by omega⟩ | exact Or.inr ⟨by decide, by omega⟩), rfl, hP, hD, hS, hl⟩
    · have t_1 : ¬ p1.toInt < 0 := toI_nlt c_1 rfl (by decide : (0 : Int32).toInt = 0)
      refine lv_iload_n hx hb dX7_isHolder_4 rfl (lv_at hl 1 rfl) ?_
      refine lv_aload_n hx hb dX7_isHolder_5 rfl (lv_at hl 0 rfl) ?_
      refine va_get (D := (dC, dI)) (ci := 7) (v := .int iV_holders) (C := RX7) (T := TX7) (N := 20) hx hb hts iwsMX7_isHolder_in7 hown hK hP 0 rfl rfl 0 (by decide) (hts (.fieldLink RX7 59 "OptimaWorks$ValueDesk" "holders" "I") (by decide +kernel)) (fun _ h9 => h9) rfl dX7_isHolder_6 ?_
      refine lv_icmp_ge (tgt := 16) hx hb dX7_isHolder_9 (by decide) (fun c_9 => ?_) (fun c_9 => ?_)
      · have t_9 : p1.toInt ≥ iV_holders.toInt := toI_ge c_9 rfl rfl
        refine lv_iconst (v := 0) hx hb dX7_isHolder_16 (by decide) ?_
        have hl : lv_has _ _ ([(0, .ref (hV 0)), (1, .int p1)]) := lv_sub hl [0, 1] rfl
        exact join2 _ _ _ _ ⟨0, (show 0 ≤ (0 : Int32).toInt ∧ (0 : Int32).toInt ≤ 1 from by decide), (show (0 : Int32).toInt ≠ 0 → 0 ≤ p1.toInt ∧ p1.toInt < iV_holders.toInt from by first | (intro h9; exact absurd (by decide) h9) | (intro h9; exact ⟨by omega, by omega⟩)), (show ((0 : Int32).toInt = 1 ∧ (0 ≤ p1.toInt ∧ p1.toInt < iV_holders.toInt)) ∨ ((0 : Int32).toInt = 0 ∧ ¬ (0 ≤ p1.toInt ∧ p1.toInt < iV_holders.toInt)) from by first | exact Or.inl ⟨by decide, by omega⟩ | exact Or.inr ⟨by decide, by omega⟩), rfl, hP, hD, hS, hl⟩
      · have t_9 : ¬ p1.toInt ≥ iV_holders.toInt := toI_nge c_9 rfl rfl
        refine lv_iconst (v := 1) hx hb dX7_isHolder_12 (by decide) ?_
        refine lv_goto (tgt := 17) hx hb dX7_isHolder_13 (by decide) ?_
        have hl : lv_has _ _ ([(0, .ref (hV 0)), (1, .int p1)]) := lv_sub hl [0, 1] rfl
        exact join2 _ _ _ _ ⟨1, (show 0 ≤ (1 : Int32).toInt ∧ (1 : Int32).toInt ≤ 1 from by decide), (show (1 : Int32).toInt ≠ 0 → 0 ≤ p1.toInt ∧ p1.toInt < iV_holders.toInt from by first | (intro h9; exact absurd (by decide) h9) | (intro h9; exact ⟨by omega, by omega⟩)), (show ((1 : Int32).toInt = 1 ∧ (0 ≤ p1.toInt ∧ p1.toInt < iV_holders.toInt)) ∨ ((1 : Int32).toInt = 0 ∧ ¬ (0 ≤ p1.toInt ∧ p1.toInt < iV_holders.toInt)) from by first | exact Or.inl ⟨by decide, by omega⟩ | exact Or.inr ⟨by decide, by omega⟩), rfl, hP, hD, hS, hl⟩
  · rintro H locs ls stk ⟨k0_j2, b_k0_j2, hj, hj2, rfl, hP, hD, hS, hl⟩
    refine W.widen (k := 0) (n := 0) (by decide +kernel) (by decide +kernel) ?_
    exact W.zret (v := k0_j2) hx hb hr (by rcases z01 (x := k0_j2) (b_k0_j2) with h9 | h9 <;> rw [h9] <;> rfl) (fun t9_ ht hW => ⟨⟨k0_j2, (), rfl, ⟨(b_k0_j2), (by (try dsimp only); exact (hj)), (by (try dsimp only); exact (hj2))⟩, by rw [ht]; exact hP, hD⟩, hS.F ht⟩) hS.2.2 dX7_isHolder_17
theorem dX7_isSet_0 : decode cX7_isSet 0 = .ok (.iload_n 1, 1) := dk_27 (by decide +kernel)
theorem dX7_isSet_1 : decode cX7_isSet 1 = .ok (.ifCond .le 17, 3) := dk_158 (by decide +kernel)
theorem dX7_isSet_4 : decode cX7_isSet 4 = .ok (.iload_n 1, 1) := dk_27 (by decide +kernel)
theorem dX7_isSet_5 : decode cX7_isSet 5 = .ok (.iconst 1, 1) := dk_4 (by decide +kernel)
theorem dX7_isSet_6 : decode cX7_isSet 6 = .ok (.aload_n 0, 1) := dk_42 (by decide +kernel)
theorem dX7_isSet_7 : decode cX7_isSet 7 = .ok (.getfield 59, 3) := dk_180 (by decide +kernel)
theorem dX7_isSet_10 : decode cX7_isSet 10 = .ok (.ishl, 1) := dk_120 (by decide +kernel)
theorem dX7_isSet_11 : decode cX7_isSet 11 = .ok (.if_icmp .ge 7, 3) := dk_162 (by decide +kernel)
theorem dX7_isSet_14 : decode cX7_isSet 14 = .ok (.iconst 1, 1) := dk_4 (by decide +kernel)
theorem dX7_isSet_15 : decode cX7_isSet 15 = .ok (.goto 4, 3) := dk_167 (by decide +kernel)
theorem dX7_isSet_18 : decode cX7_isSet 18 = .ok (.iconst 0, 1) := dk_3 (by decide +kernel)
theorem dX7_isSet_19 : decode cX7_isSet 19 = .ok (.ireturn, 1) := dk_172 (by decide +kernel)
def wsMX7_isSet : List Cond := .code yX7_isSet cX7_isSet 2 (some .boolean) :: ([.fieldLink RX7 59 "OptimaWorks$ValueDesk" "holders" "I"] ++ wsX70)
theorem iwsMX7_isSet_in7 : ∀ w ∈ wsX70, w ∈ wsMX7_isSet := fun _ h => List.mem_cons_of_mem _ (List.mem_append_right _ h)
theorem gdwsMX7_isSet : wsMX7_isSet.all goodWord = true := gdC rfl (gdA (by decide +kernel : ([.fieldLink RX7 59 "OptimaWorks$ValueDesk" "holders" "I"] : List Cond).all goodWord = true) gdwsX70)
set_option maxHeartbeats 4000000 in
set_option maxRecDepth 100000 in
/-- is it a set -/
theorem m_X7_isSet (l : Launch) (dC : Nat → ClassId) (dI : Nat → Nat → Nat) (hV : Nat → Nat) (aV : Nat → Nat) (kV : Nat → ClassId) (iV_holders : Int32) (iV_rules : Int32) (fV_pairs : Nat → Int32) (fV_domain : Nat → Int32) (fV_kind : Nat → Int32) (fV_a : Nat → Int32) (fV_b : Nat → Int32) (fV_c : Nat → Int32) (fV_rulePairs : Nat → Int32) (fV_lastHolder : Nat → Int32) (fV_now : Nat → Int32) (iV_doneFor : Int32) (iV_changed : Int32) (gV_fore : Nat → Int64) (gV_back : Nat → Int64) (fV_together : Nat → Int32) (fV_member : Nat → Int32) (gV_list : Nat → Int64) (dV_list : Nat) (nV_list : Nat) (iV_listed : Int32) (iV_listDone : Int32) (p1 : Int32) (b_iV_holders : 0 ≤ iV_holders.toInt ∧ iV_holders.toInt ≤ 10) (b_iV_rules : 0 ≤ iV_rules.toInt ∧ iV_rules.toInt ≤ 12) (b_fV_kind : ∀ q : Nat, 0 ≤ (fV_kind q).toInt ∧ (fV_kind q).toInt ≤ 4) (b_iV_changed : 0 ≤ iV_changed.toInt ∧ iV_changed.toInt ≤ 1) (b_fV_member : ∀ q : Nat, (-1) ≤ (fV_member q).toInt ∧ (fV_member q).toInt ≤ 15) (b_nV_list : 0 ≤ nV_list ∧ nV_list ≤ 20000) (b_iV_listed : (-1) ≤ iV_listed.toInt ∧ iV_listed.toInt ≤ 5000) (b_iV_listDone : 0 ≤ iV_listDone.toInt ∧ iV_listDone.toInt ≤ 1) (b_RuV : RuV fV_kind fV_a fV_b fV_c fV_lastHolder) (b_lst : iV_listed.toInt ≤ ((nV_list : Nat) : Int)) (sz : Nat) : Met l yX7_isSet wsMX7_isSet ({ frames := 0, cells := 0, slots := 0, locals := 0 }) (va_Pc [.ref (hV 0), .int p1] (fun U => U.heap.size = sz ∧ va_P (dC, dI) vwCl (WV hV aV kV iV_holders iV_rules fV_pairs fV_domain fV_kind fV_a fV_b fV_c fV_rulePairs fV_lastHolder fV_now iV_doneFor iV_changed gV_fore gV_back fV_together fV_member gV_list dV_list nV_list iV_listed iV_listDone) U.heap ∧ va_K (dC, dI) vwCl (tV kV) U ∧ va_D (fun _ => True) (WV hV aV kV iV_holders iV_rules fV_pairs fV_domain fV_kind fV_a fV_b fV_c fV_rulePairs fV_lastHolder fV_now iV_doneFor iV_changed gV_fore gV_back fV_together fV_member gV_list dV_list nV_list iV_listed iV_listDone))) (va_Qi (fun (r : Int32) (u : Unit) => (0 ≤ r.toInt ∧ r.toInt ≤ 1) ∧ ((r.toInt = 1 ∧ (0 < p1.toInt ∧ p1.toInt < ((1 : Int32) <<< (iV_holders &&& 31)).toInt)) ∨ (r.toInt = 0 ∧ ¬ (0 < p1.toInt ∧ p1.toInt < ((1 : Int32) <<< (iV_holders &&& 31)).toInt)))) (fun (u : Unit) t => va_P (dC, dI) vwCl (WV hV aV kV iV_holders iV_rules fV_pairs fV_domain fV_kind fV_a fV_b fV_c fV_rulePairs fV_lastHolder fV_now iV_doneFor iV_changed gV_fore gV_back fV_together fV_member gV_list dV_list nV_list iV_listed iV_listDone) t.heap ∧ va_D (va_A (WV hV aV kV iV_holders iV_rules fV_pairs fV_domain fV_kind fV_a fV_b fV_c fV_rulePairs fV_lastHolder fV_now iV_doneFor iV_changed gV_fore gV_back fV_together fV_member gV_list dV_list nV_list iV_listed iV_listDone) sz) (WV hV aV kV iV_holders iV_rules fV_pairs fV_domain fV_kind fV_a fV_b fV_c fV_rulePairs fV_lastHolder fV_now iV_doneFor iV_changed gV_fore gV_back fV_together fV_member gV_list dV_list nV_list iV_listed iV_listDone)) (va_A (WV hV aV kV iV_holders iV_rules fV_pairs fV_domain fV_kind fV_a fV_b fV_c fV_rulePairs fV_lastHolder fV_now iV_doneFor iV_changed gV_fore gV_back fV_together fV_member gV_list dV_list nV_list iV_listed iV_listDone) sz)) 0 0 (va_A (WV hV aV kV iV_holders iV_rules fV_pairs fV_domain fV_kind fV_a fV_b fV_c fV_rulePairs fV_lastHolder fV_now iV_doneFor iV_changed gV_fore gV_back fV_together fV_member gV_list dV_list nV_list iV_listed iV_listDone) sz) := by
  refine Met.ofW (cc := cX7_isSet) (maxL := 2) (ret := (some .boolean)) (by decide) rfl ?_
  intro p e s m args below meth c s₁ B hml hv
  obtain ⟨rfl, hsz, hP, hK, hD0⟩ := hv
  have hx := B.exec
  have hb := B.bytes
  have hr := B.returns
  have hts := atoms_spec (ws := wsMX7_isSet) B.pre
  have hown : s.vm.findClass RX7 = some m.cls := findClass_of_methodNamed B.named
  have hlocks := B.notSynchronized
  subst hsz
  have hD := hD0.self (sz := s.heap.size)
  generalize hAe : va_A (WV hV aV kV iV_holders iV_rules fV_pairs fV_domain fV_kind fV_a fV_b fV_c fV_rulePairs fV_lastHolder fV_now iV_doneFor iV_changed gV_fore gV_back fV_together fV_member gV_list dV_list nV_list iV_listed iV_listDone) s.heap.size = A at hD ⊢
  have hA : ∀ q : Nat, s.heap.size ≤ q → A q := fun q h => by rw [← hAe]; exact Or.inr h
  have hS : va_S A s.heap s.heap [] := va_S.rf
  have hl := lv_entry ([.ref (hV 0), .int p1]) (n := 2) (Nat.le_of_ble_eq_true rfl)
  rw [lg_entry_eq]
  generalize (lg_sl ([.ref (hV 0), .int p1]) ++ List.replicate (2 - (lg_sl ([.ref (hV 0), .int p1])).length) Slot.unset).toArray = ls at hl ⊢
  have hl : lv_has ls 2 [(0, .ref (hV 0)), (1, .int p1)] := hl
  refine lv_iload_n hx hb dX7_isSet_0 rfl (lv_at hl 1 rfl) ?_
  refine W.cut (pc := 19) (fun H locs ls stk => ∃ (k0_j2 : Int32), (0 ≤ k0_j2.toInt ∧ k0_j2.toInt ≤ 1) ∧ ((k0_j2.toInt = 1 ∧ (0 < p1.toInt ∧ p1.toInt < ((1 : Int32) <<< (iV_holders &&& 31)).toInt)) ∨ (k0_j2.toInt = 0 ∧ ¬ (0 < p1.toInt ∧ p1.toInt < ((1 : Int32) <<< (iV_holders &&& 31)).toInt))) ∧  stk = [.int k0_j2] ∧ va_P (dC, dI) vwCl (WV hV aV kV iV_holders iV_rules fV_pairs fV_domain fV_kind fV_a fV_b fV_c fV_rulePairs fV_lastHolder fV_now iV_doneFor iV_changed gV_fore gV_back fV_together fV_member gV_list dV_list nV_list iV_listed iV_listDone) H ∧ va_D A (WV hV aV kV iV_holders iV_rules fV_pairs fV_domain fV_kind fV_a fV_b fV_c fV_rulePairs fV_lastHolder fV_now iV_doneFor iV_changed gV_fore gV_back fV_together fV_member gV_list dV_list nV_list iV_listed iV_listDone) ∧ va_S A s.heap H locs ∧ lv_has ls 2 [(0, .ref (hV 0)), (1, .int p1)]) (fun join2 => ?_) ?_
  · refine lv_if_le (tgt := 18) hx hb dX7_isSet_1 (by decide) (fun c_1 => ?_) (fun c_1 => ?_)
    · have t_1 : p1.toInt ≤ 0 := toI_le c_1 rfl (by decide : (0 : Int32).toInt = 0)
      refine lv_iconst (v := 0) hx hb dX7_isSet_18 (by decide) ?_
      have hl : lv_has _ _ ([(0, .ref (hV 0)), (1, .int p1)]) := lv_sub hl [0, 1] rfl
      exact join2 _ _ _ _ ⟨0, (show 0 ≤ (0 : Int32).toInt ∧ (0 : Int32).toInt ≤ 1 from by decide), (show ((0 : Int32).toInt = 1 ∧ (0 < p1.toInt ∧ p1.toInt < ((1 : Int32) <<< (iV_holders &&& 31)).toInt)) ∨ ((0 : Int32).toInt = 0 ∧ ¬ (0 < p1.toInt ∧ p1.toInt < ((1 : Int32) <<< (iV_holders &&& 31)).toInt)) from by first | exact Or.inl ⟨by decide, by omega⟩ | exact Or.inr ⟨by decide, by omega⟩), rfl, hP, hD, hS, hl⟩
    · have t_1 : ¬ p1.toInt ≤ 0 := toI_nle c_1 rfl (by decide : (0 : Int32).toInt = 0)
      refine lv_iload_n hx hb dX7_isSet_4 rfl (lv_at hl 1 rfl) ?_
      refine lv_iconst (v := 1) hx hb dX7_isSet_5 (by decide) ?_
      refine lv_aload_n hx hb dX7_isSet_6 rfl (lv_at hl 0 rfl) ?_
      refine va_get (D := (dC, dI)) (ci := 7) (v := .int iV_holders) (C := RX7) (T := TX7) (N := 20) hx hb hts iwsMX7_isSet_in7 hown hK hP 0 rfl rfl 0 (by decide) (hts (.fieldLink RX7 59 "OptimaWorks$ValueDesk" "holders" "I") (by decide +kernel)) (fun _ h9 => h9) rfl dX7_isSet_7 ?_
      refine lv_ishl hx hb dX7_isSet_10 ?_
      refine lv_topi (fun v2 hv2 => ?_)
      have b_v2 : 1 ≤ v2.toInt ∧ v2.toInt ≤ 1024 := by rw [hv2]; exact shl1_t (k := 10) rfl (by omega) (by omega) (by decide)
      have b1_v2 : v2.toInt ≤ ((1 : Int32) <<< (iV_holders &&& 31)).toInt ∧ ((1 : Int32) <<< (iV_holders &&& 31)).toInt ≤ v2.toInt := by rw [hv2]; exact ⟨Int.le_refl _, Int.le_refl _⟩
      clear hv2
      refine lv_icmp_ge (tgt := 18) hx hb dX7_isSet_11 (by decide) (fun c_11 => ?_) (fun c_11 => ?_)
      · have t_11 : p1.toInt ≥ v2.toInt := toI_ge c_11 rfl rfl
        refine lv_iconst (v := 0) hx hb dX7_isSet_18 (by decide) ?_
        have hl : lv_has _ _ ([(0, .ref (hV 0)), (1, .int p1)]) := lv_sub hl [0, 1] rfl
        exact join2 _ _ _ _ ⟨0, (show 0 ≤ (0 : Int32).toInt ∧ (0 : Int32).toInt ≤ 1 from by decide), (show ((0 : Int32).toInt = 1 ∧ (0 < p1.toInt ∧ p1.toInt < ((1 : Int32) <<< (iV_holders &&& 31)).toInt)) ∨ ((0 : Int32).toInt = 0 ∧ ¬ (0 < p1.toInt ∧ p1.toInt < ((1 : Int32) <<< (iV_holders &&& 31)).toInt)) from by first | exact Or.inl ⟨by decide, by omega⟩ | exact Or.inr ⟨by decide, by omega⟩), rfl, hP, hD, hS, hl⟩
      · have t_11 : ¬ p1.toInt ≥ v2.toInt := toI_nge c_11 rfl rfl
        refine lv_iconst (v := 1) hx hb dX7_isSet_14 (by decide) ?_
        refine lv_goto (tgt := 19) hx hb dX7_isSet_15 (by decide) ?_
        have hl : lv_has _ _ ([(0, .ref (hV 0)), (1, .int p1)]) := lv_sub hl [0, 1] rfl
        exact join2 _ _ _ _ ⟨1, (show 0 ≤ (1 : Int32).toInt ∧ (1 : Int32).toInt ≤ 1 from by decide), (show ((1 : Int32).toInt = 1 ∧ (0 < p1.toInt ∧ p1.toInt < ((1 : Int32) <<< (iV_holders &&& 31)).toInt)) ∨ ((1 : Int32).toInt = 0 ∧ ¬ (0 < p1.toInt ∧ p1.toInt < ((1 : Int32) <<< (iV_holders &&& 31)).toInt)) from by first | exact Or.inl ⟨by decide, by omega⟩ | exact Or.inr ⟨by decide, by omega⟩), rfl, hP, hD, hS, hl⟩
  · rintro H locs ls stk ⟨k0_j2, b_k0_j2, hj2, rfl, hP, hD, hS, hl⟩
    refine W.widen (k := 0) (n := 0) (by decide +kernel) (by decide +kernel) ?_
    exact W.zret (v := k0_j2) hx hb hr (by rcases z01 (x := k0_j2) (b_k0_j2) with h9 | h9 <;> rw [h9] <;> rfl) (fun t9_ ht hW => ⟨⟨k0_j2, (), rfl, ⟨(b_k0_j2), (by (try dsimp only); exact (hj2))⟩, by rw [ht]; exact hP, hD⟩, hS.F ht⟩) hS.2.2 dX7_isSet_19
theorem dX7_isWithin_0 : decode cX7_isWithin 0 = .ok (.iload_n 0, 1) := dk_26 (by decide +kernel)
theorem dX7_isWithin_1 : decode cX7_isWithin 1 = .ok (.iload_n 1, 1) := dk_27 (by decide +kernel)
theorem dX7_isWithin_2 : decode cX7_isWithin 2 = .ok (.ineg, 1) := dk_116 (by decide +kernel)
theorem dX7_isWithin_3 : decode cX7_isWithin 3 = .ok (.if_icmp .lt 12, 3) := dk_161 (by decide +kernel)
theorem dX7_isWithin_6 : decode cX7_isWithin 6 = .ok (.iload_n 0, 1) := dk_26 (by decide +kernel)
theorem dX7_isWithin_7 : decode cX7_isWithin 7 = .ok (.iload_n 1, 1) := dk_27 (by decide +kernel)
theorem dX7_isWithin_8 : decode cX7_isWithin 8 = .ok (.if_icmp .gt 7, 3) := dk_163 (by decide +kernel)
theorem dX7_isWithin_11 : decode cX7_isWithin 11 = .ok (.iconst 1, 1) := dk_4 (by decide +kernel)
theorem dX7_isWithin_12 : decode cX7_isWithin 12 = .ok (.goto 4, 3) := dk_167 (by decide +kernel)
theorem dX7_isWithin_15 : decode cX7_isWithin 15 = .ok (.iconst 0, 1) := dk_3 (by decide +kernel)
theorem dX7_isWithin_16 : decode cX7_isWithin 16 = .ok (.ireturn, 1) := dk_172 (by decide +kernel)
def wsMX7_isWithin : List Cond := .code yX7_isWithin cX7_isWithin 2 (some .boolean) :: ([])
theorem gdwsMX7_isWithin : wsMX7_isWithin.all goodWord = true := gdC rfl (by decide +kernel : ([] : List Cond).all goodWord = true)
set_option maxHeartbeats 4000000 in
set_option maxRecDepth 100000 in
/-- is it near -/
theorem m_X7_isWithin (l : Launch) (dC : Nat → ClassId) (dI : Nat → Nat → Nat) (p1 : Int32) (p2 : Int32) (b_p2 : 0 ≤ p2.toInt ∧ p2.toInt ≤ 1000) (sz : Nat) : Met l yX7_isWithin wsMX7_isWithin ({ frames := 0, cells := 0, slots := 0, locals := 0 }) (va_Pc [.int p1, .int p2] (fun U => U.heap.size = sz ∧ va_P (dC, dI) vwCl [] U.heap ∧ va_K (dC, dI) vwCl [] U ∧ va_D (fun _ => True) [])) (va_Qi (fun (r : Int32) (u : Unit) => (0 ≤ r.toInt ∧ r.toInt ≤ 1) ∧ ((r.toInt = 1 ∧ (-p2.toInt ≤ p1.toInt ∧ p1.toInt ≤ p2.toInt)) ∨ (r.toInt = 0 ∧ ¬ (-p2.toInt ≤ p1.toInt ∧ p1.toInt ≤ p2.toInt)))) (fun (u : Unit) t => True) (va_A [] sz)) 0 0 (va_A [] sz) := by
  refine Met.ofW (cc := cX7_isWithin) (maxL := 2) (ret := (some .boolean)) (by decide) rfl ?_
  intro p e s m args below meth c s₁ B hml hv
  obtain ⟨rfl, hsz, hP, hK, hD0⟩ := hv
  have hx := B.exec
  have hb := B.bytes
  have hr := B.returns
  have hts := atoms_spec (ws := wsMX7_isWithin) B.pre
  have hown : s.vm.findClass RX7 = some m.cls := findClass_of_methodNamed B.named
  have hlocks := B.notSynchronized
  subst hsz
  have hD := hD0.self (sz := s.heap.size)
  generalize hAe : va_A [] s.heap.size = A at hD ⊢
  have hA : ∀ q : Nat, s.heap.size ≤ q → A q := fun q h => by rw [← hAe]; exact Or.inr h
  have hS : va_S A s.heap s.heap [] := va_S.rf
  have hl := lv_entry ([.int p1, .int p2]) (n := 2) (Nat.le_of_ble_eq_true rfl)
  rw [lg_entry_eq]
  generalize (lg_sl ([.int p1, .int p2]) ++ List.replicate (2 - (lg_sl ([.int p1, .int p2])).length) Slot.unset).toArray = ls at hl ⊢
  have hl : lv_has ls 2 [(0, .int p1), (1, .int p2)] := hl
  refine lv_iload_n hx hb dX7_isWithin_0 rfl (lv_at hl 0 rfl) ?_
  refine lv_iload_n hx hb dX7_isWithin_1 rfl (lv_at hl 1 rfl) ?_
  refine lv_ineg hx hb dX7_isWithin_2 ?_
  refine lv_topi (fun y1 hy1 => ?_)
  obtain rfl : (iI (-p2.toInt)) = y1 := (hy1.trans (iI_neg2 (iI_of _))).symm
  refine W.cut (pc := 16) (fun H locs ls stk => ∃ (k0_j2 : Int32), (0 ≤ k0_j2.toInt ∧ k0_j2.toInt ≤ 1) ∧ ((k0_j2.toInt = 1 ∧ (-p2.toInt ≤ p1.toInt ∧ p1.toInt ≤ p2.toInt)) ∨ (k0_j2.toInt = 0 ∧ ¬ (-p2.toInt ≤ p1.toInt ∧ p1.toInt ≤ p2.toInt))) ∧  stk = [.int k0_j2] ∧ va_P (dC, dI) vwCl ([]) H ∧ va_D A ([]) ∧ va_S A s.heap H locs ∧ lv_has ls 2 [(0, .int p1), (1, .int p2)]) (fun join2 => ?_) ?_
  · refine lv_icmp_lt (tgt := 15) hx hb dX7_isWithin_3 (by decide) (fun c_3 => ?_) (fun c_3 => ?_)
    · first | (have t_3 : p1.toInt < (-p2.toInt) := toI_lt c_3 rfl (iI_t (by omega) (by omega))) | skip
      refine lv_iconst (v := 0) hx hb dX7_isWithin_15 (by decide) ?_
      have hl : lv_has _ _ ([(0, .int p1), (1, .int p2)]) := lv_sub hl [0, 1] rfl
      exact join2 _ _ _ _ ⟨0, (show 0 ≤ (0 : Int32).toInt ∧ (0 : Int32).toInt ≤ 1 from by decide), (show ((0 : Int32).toInt = 1 ∧ (-p2.toInt ≤ p1.toInt ∧ p1.toInt ≤ p2.toInt)) ∨ ((0 : Int32).toInt = 0 ∧ ¬ (-p2.toInt ≤ p1.toInt ∧ p1.toInt ≤ p2.toInt)) from by first | exact Or.inl ⟨by decide, by omega⟩ | exact Or.inr ⟨by decide, by omega⟩), rfl, hP, hD, hS, hl⟩
    · first | (have t_3 : ¬ p1.toInt < (-p2.toInt) := toI_nlt c_3 rfl (iI_t (by omega) (by omega))) | skip
      refine lv_iload_n hx hb dX7_isWithin_6 rfl (lv_at hl 0 rfl) ?_
      refine lv_iload_n hx hb dX7_isWithin_7 rfl (lv_at hl 1 rfl) ?_
      refine lv_icmp_gt (tgt := 15) hx hb dX7_isWithin_8 (by decide) (fun c_8 => ?_) (fun c_8 => ?_)
      · have t_8 : p1.toInt > p2.toInt := toI_gt c_8 rfl rfl
        refine lv_iconst (v := 0) hx hb dX7_isWithin_15 (by decide) ?_
        have hl : lv_has _ _ ([(0, .int p1), (1, .int p2)]) := lv_sub hl [0, 1] rfl
        exact join2 _ _ _ _ ⟨0, (show 0 ≤ (0 : Int32).toInt ∧ (0 : Int32).toInt ≤ 1 from by decide), (show ((0 : Int32).toInt = 1 ∧ (-p2.toInt ≤ p1.toInt ∧ p1.toInt ≤ p2.toInt)) ∨ ((0 : Int32).toInt = 0 ∧ ¬ (-p2.toInt ≤ p1.toInt ∧ p1.toInt ≤ p2.toInt)) from by first | exact Or.inl ⟨by decide, by omega⟩ | exact Or.inr ⟨by decide, by omega⟩), rfl, hP, hD, hS, hl⟩
      · have t_8 : ¬ p1.toInt > p2.toInt := toI_ngt c_8 rfl rfl
        refine lv_iconst (v := 1) hx hb dX7_isWithin_11 (by decide) ?_
        refine lv_goto (tgt := 16) hx hb dX7_isWithin_12 (by decide) ?_
        have hl : lv_has _ _ ([(0, .int p1), (1, .int p2)]) := lv_sub hl [0, 1] rfl
        exact join2 _ _ _ _ ⟨1, (show 0 ≤ (1 : Int32).toInt ∧ (1 : Int32).toInt ≤ 1 from by decide), (show ((1 : Int32).toInt = 1 ∧ (-p2.toInt ≤ p1.toInt ∧ p1.toInt ≤ p2.toInt)) ∨ ((1 : Int32).toInt = 0 ∧ ¬ (-p2.toInt ≤ p1.toInt ∧ p1.toInt ≤ p2.toInt)) from by first | exact Or.inl ⟨by decide, by omega⟩ | exact Or.inr ⟨by decide, by omega⟩), rfl, hP, hD, hS, hl⟩
  · rintro H locs ls stk ⟨k0_j2, b_k0_j2, hj2, rfl, hP, hD, hS, hl⟩
    refine W.widen (k := 0) (n := 0) (by decide +kernel) (by decide +kernel) ?_
    exact W.zret (v := k0_j2) hx hb hr (by rcases z01 (x := k0_j2) (b_k0_j2) with h9 | h9 <;> rw [h9] <;> rfl) (fun t9_ ht hW => ⟨⟨k0_j2, (), rfl, ⟨(b_k0_j2), (by (try dsimp only); exact (hj2))⟩, trivial⟩, hS.F ht⟩) hS.2.2 dX7_isWithin_16
theorem dX7_addHolder_0 : decode cX7_addHolder 0 = .ok (.aload_n 0, 1) := dk_42 (by decide +kernel)
theorem dX7_addHolder_1 : decode cX7_addHolder 1 = .ok (.getfield 15, 3) := dk_180 (by decide +kernel)
theorem dX7_addHolder_4 : decode cX7_addHolder 4 = .ok (.aload_n 0, 1) := dk_42 (by decide +kernel)
theorem dX7_addHolder_5 : decode cX7_addHolder 5 = .ok (.getfield 59, 3) := dk_180 (by decide +kernel)
theorem dX7_addHolder_8 : decode cX7_addHolder 8 = .ok (.iload_n 1, 1) := dk_27 (by decide +kernel)
theorem dX7_addHolder_9 : decode cX7_addHolder 9 = .ok (.iastore, 1) := dk_79 (by decide +kernel)
theorem dX7_addHolder_10 : decode cX7_addHolder 10 = .ok (.aload_n 0, 1) := dk_42 (by decide +kernel)
theorem dX7_addHolder_11 : decode cX7_addHolder 11 = .ok (.dup, 1) := dk_89 (by decide +kernel)
theorem dX7_addHolder_12 : decode cX7_addHolder 12 = .ok (.getfield 59, 3) := dk_180 (by decide +kernel)
theorem dX7_addHolder_15 : decode cX7_addHolder 15 = .ok (.iconst 1, 1) := dk_4 (by decide +kernel)
theorem dX7_addHolder_16 : decode cX7_addHolder 16 = .ok (.iadd, 1) := dk_96 (by decide +kernel)
theorem dX7_addHolder_17 : decode cX7_addHolder 17 = .ok (.putfield 59, 3) := dk_181 (by decide +kernel)
theorem dX7_addHolder_20 : decode cX7_addHolder 20 = .ok (.aload_n 0, 1) := dk_42 (by decide +kernel)
theorem dX7_addHolder_21 : decode cX7_addHolder 21 = .ok (.invokevirtual 65, 3) := dk_182 (by decide +kernel)
theorem dX7_addHolder_24 : decode cX7_addHolder 24 = .ok (.aload_n 0, 1) := dk_42 (by decide +kernel)
theorem dX7_addHolder_25 : decode cX7_addHolder 25 = .ok (.getfield 59, 3) := dk_180 (by decide +kernel)
theorem dX7_addHolder_28 : decode cX7_addHolder 28 = .ok (.iconst 1, 1) := dk_4 (by decide +kernel)
theorem dX7_addHolder_29 : decode cX7_addHolder 29 = .ok (.isub, 1) := dk_100 (by decide +kernel)
theorem dX7_addHolder_30 : decode cX7_addHolder 30 = .ok (.ireturn, 1) := dk_172 (by decide +kernel)
def wsMX7_addHolder : List Cond := .code yX7_addHolder cX7_addHolder 2 (some .int) :: ([.fieldLink RX7 15 "OptimaWorks$ValueDesk" "domain" "[I", .fieldLink RX7 59 "OptimaWorks$ValueDesk" "holders" "I"] ++ wsX70 ++ (wsV RX7 65 RX7 yX7_change wsMX7_change))
theorem iwsMX7_addHolder_in7 : ∀ w ∈ wsX70, w ∈ wsMX7_addHolder := fun _ h => List.mem_cons_of_mem _ (List.mem_append_left _ (List.mem_append_right _ h))
theorem gwsMX7_addHolder_0 : GoodIn wsMX7_addHolder (wsV RX7 65 RX7 yX7_change wsMX7_change) := goodIn_sub (fun _ h => List.mem_cons_of_mem _ (List.mem_append_right _ h)) (gdV (by decide +kernel) gdwsMX7_change)
theorem gdwsMX7_addHolder : wsMX7_addHolder.all goodWord = true := gdC rfl (gdA (gdA (by decide +kernel : ([.fieldLink RX7 15 "OptimaWorks$ValueDesk" "domain" "[I", .fieldLink RX7 59 "OptimaWorks$ValueDesk" "holders" "I"] : List Cond).all goodWord = true) gdwsX70) (gdV (by decide +kernel) gdwsMX7_change))
set_option maxHeartbeats 4000000 in
set_option maxRecDepth 100000 in
/-- a holder more -/
theorem m_X7_addHolder (l : Launch) (dC : Nat → ClassId) (dI : Nat → Nat → Nat) (hV : Nat → Nat) (aV : Nat → Nat) (kV : Nat → ClassId) (iV_holders : Int32) (iV_rules : Int32) (fV_pairs : Nat → Int32) (fV_domain : Nat → Int32) (fV_kind : Nat → Int32) (fV_a : Nat → Int32) (fV_b : Nat → Int32) (fV_c : Nat → Int32) (fV_rulePairs : Nat → Int32) (fV_lastHolder : Nat → Int32) (fV_now : Nat → Int32) (iV_doneFor : Int32) (iV_changed : Int32) (gV_fore : Nat → Int64) (gV_back : Nat → Int64) (fV_together : Nat → Int32) (fV_member : Nat → Int32) (gV_list : Nat → Int64) (dV_list : Nat) (nV_list : Nat) (iV_listed : Int32) (iV_listDone : Int32) (p1 : Int32) (b_iV_holders : 0 ≤ iV_holders.toInt ∧ iV_holders.toInt ≤ 10) (b_iV_rules : 0 ≤ iV_rules.toInt ∧ iV_rules.toInt ≤ 12) (b_fV_kind : ∀ q : Nat, 0 ≤ (fV_kind q).toInt ∧ (fV_kind q).toInt ≤ 4) (b_iV_changed : 0 ≤ iV_changed.toInt ∧ iV_changed.toInt ≤ 1) (b_fV_member : ∀ q : Nat, (-1) ≤ (fV_member q).toInt ∧ (fV_member q).toInt ≤ 15) (b_nV_list : 0 ≤ nV_list ∧ nV_list ≤ 20000) (b_iV_listed : (-1) ≤ iV_listed.toInt ∧ iV_listed.toInt ≤ 5000) (b_iV_listDone : 0 ≤ iV_listDone.toInt ∧ iV_listDone.toInt ≤ 1) (b_RuV : RuV fV_kind fV_a fV_b fV_c fV_lastHolder) (b_lst : iV_listed.toInt ≤ ((nV_list : Nat) : Int)) (hlt : iV_holders.toInt < 10) (sz : Nat) : Met l yX7_addHolder wsMX7_addHolder ({ frames := 1, cells := 0, slots := 0, locals := 20 }) (va_Pc [.ref (hV 0), .int p1] (fun U => U.heap.size = sz ∧ va_P (dC, dI) vwCl (WV hV aV kV iV_holders iV_rules fV_pairs fV_domain fV_kind fV_a fV_b fV_c fV_rulePairs fV_lastHolder fV_now iV_doneFor iV_changed gV_fore gV_back fV_together fV_member gV_list dV_list nV_list iV_listed iV_listDone) U.heap ∧ va_K (dC, dI) vwCl (tV kV) U ∧ va_D (fun _ => True) (WV hV aV kV iV_holders iV_rules fV_pairs fV_domain fV_kind fV_a fV_b fV_c fV_rulePairs fV_lastHolder fV_now iV_doneFor iV_changed gV_fore gV_back fV_together fV_member gV_list dV_list nV_list iV_listed iV_listDone))) (va_Qi (fun (r : Int32) (u : (Int32) × (Nat → Int32) × (Int32) × (Int32)) => (0 ≤ (u.1).toInt ∧ (u.1).toInt ≤ 10) ∧ (0 ≤ (u.2.2.2).toInt ∧ (u.2.2.2).toInt ≤ 1) ∧ ((u.1).toInt = iV_holders.toInt + 1) ∧ (r.toInt = iV_holders.toInt) ∧ ((u.2.1) = upd fV_domain iV_holders.toInt.toNat p1)) (fun (u : (Int32) × (Nat → Int32) × (Int32) × (Int32)) t => va_P (dC, dI) vwCl (WV hV aV kV (u.1) iV_rules fV_pairs (u.2.1) fV_kind fV_a fV_b fV_c fV_rulePairs fV_lastHolder fV_now (u.2.2.1) iV_changed gV_fore gV_back fV_together fV_member gV_list dV_list nV_list iV_listed (u.2.2.2)) t.heap ∧ va_D (va_A (WV hV aV kV iV_holders iV_rules fV_pairs fV_domain fV_kind fV_a fV_b fV_c fV_rulePairs fV_lastHolder fV_now iV_doneFor iV_changed gV_fore gV_back fV_together fV_member gV_list dV_list nV_list iV_listed iV_listDone) sz) (WV hV aV kV (u.1) iV_rules fV_pairs (u.2.1) fV_kind fV_a fV_b fV_c fV_rulePairs fV_lastHolder fV_now (u.2.2.1) iV_changed gV_fore gV_back fV_together fV_member gV_list dV_list nV_list iV_listed (u.2.2.2))) (va_A (WV hV aV kV iV_holders iV_rules fV_pairs fV_domain fV_kind fV_a fV_b fV_c fV_rulePairs fV_lastHolder fV_now iV_doneFor iV_changed gV_fore gV_back fV_together fV_member gV_list dV_list nV_list iV_listed iV_listDone) sz)) 0 0 (va_A (WV hV aV kV iV_holders iV_rules fV_pairs fV_domain fV_kind fV_a fV_b fV_c fV_rulePairs fV_lastHolder fV_now iV_doneFor iV_changed gV_fore gV_back fV_together fV_member gV_list dV_list nV_list iV_listed iV_listDone) sz) := by
  refine Met.ofW (cc := cX7_addHolder) (maxL := 2) (ret := (some .int)) (by decide) rfl ?_
  intro p e s m args below meth c s₁ B hml hv
  obtain ⟨rfl, hsz, hP, hK, hD0⟩ := hv
  have hx := B.exec
  have hb := B.bytes
  have hr := B.returns
  have hts := atoms_spec (ws := wsMX7_addHolder) B.pre
  have hown : s.vm.findClass RX7 = some m.cls := findClass_of_methodNamed B.named
  have hlocks := B.notSynchronized
  subst hsz
  have hD := hD0.self (sz := s.heap.size)
  generalize hAe : va_A (WV hV aV kV iV_holders iV_rules fV_pairs fV_domain fV_kind fV_a fV_b fV_c fV_rulePairs fV_lastHolder fV_now iV_doneFor iV_changed gV_fore gV_back fV_together fV_member gV_list dV_list nV_list iV_listed iV_listDone) s.heap.size = A at hD ⊢
  have hA : ∀ q : Nat, s.heap.size ≤ q → A q := fun q h => by rw [← hAe]; exact Or.inr h
  have hS : va_S A s.heap s.heap [] := va_S.rf
  have hl := lv_entry ([.ref (hV 0), .int p1]) (n := 2) (Nat.le_of_ble_eq_true rfl)
  rw [lg_entry_eq]
  generalize (lg_sl ([.ref (hV 0), .int p1]) ++ List.replicate (2 - (lg_sl ([.ref (hV 0), .int p1])).length) Slot.unset).toArray = ls at hl ⊢
  have hl : lv_has ls 2 [(0, .ref (hV 0)), (1, .int p1)] := hl
  refine lv_aload_n hx hb dX7_addHolder_0 rfl (lv_at hl 0 rfl) ?_
  refine va_get (D := (dC, dI)) (ci := 7) (v := .ref (aV 1)) (C := RX7) (T := TX7) (N := 20) hx hb hts iwsMX7_addHolder_in7 hown hK hP 0 rfl rfl 3 (by decide) (hts (.fieldLink RX7 15 "OptimaWorks$ValueDesk" "domain" "[I") (by decide +kernel)) (fun _ h9 => h9) rfl dX7_addHolder_1 ?_
  refine lv_aload_n hx hb dX7_addHolder_4 rfl (lv_at hl 0 rfl) ?_
  refine va_get (D := (dC, dI)) (ci := 7) (v := .int iV_holders) (C := RX7) (T := TX7) (N := 20) hx hb hts iwsMX7_addHolder_in7 hown hK hP 0 rfl rfl 0 (by decide) (hts (.fieldLink RX7 59 "OptimaWorks$ValueDesk" "holders" "I") (by decide +kernel)) (fun _ h9 => h9) rfl dX7_addHolder_5 ?_
  refine lv_iload_n hx hb dX7_addHolder_8 rfl (lv_at hl 1 rfl) ?_
  refine va_iast (cA := kV 1) (n := 10) (f := fV_domain) hx hb hK hP hD hS 2 1 rfl rfl (vp_in_iff.mpr ⟨b_iV_holders.1, (by omega)⟩) dX7_addHolder_9 (fun H locs hP hD hS => ?_)
  obtain ⟨u1, hu1⟩ : ∃ f9, f9 = upd fV_domain (iV_holders).toNatClampNeg p1 := ⟨_, rfl⟩
  have hP : va_P (dC, dI) vwCl (WV hV aV kV iV_holders iV_rules fV_pairs u1 fV_kind fV_a fV_b fV_c fV_rulePairs fV_lastHolder fV_now iV_doneFor iV_changed gV_fore gV_back fV_together fV_member gV_list dV_list nV_list iV_listed iV_listDone) H := by rw [hu1]; exact hP
  have hD : va_D A (WV hV aV kV iV_holders iV_rules fV_pairs u1 fV_kind fV_a fV_b fV_c fV_rulePairs fV_lastHolder fV_now iV_doneFor iV_changed gV_fore gV_back fV_together fV_member gV_list dV_list nV_list iV_listed iV_listDone) := by rw [hu1]; exact hD
  have b_u1 : u1 = upd fV_domain (iV_holders).toNatClampNeg p1 := hu1
  clear hu1
  refine lv_aload_n hx hb dX7_addHolder_10 rfl (lv_at hl 0 rfl) ?_
  refine lv_dup hx hb dX7_addHolder_11 rfl ?_
  refine va_get (D := (dC, dI)) (ci := 7) (v := .int iV_holders) (C := RX7) (T := TX7) (N := 20) hx hb hts iwsMX7_addHolder_in7 hown hK hP 0 rfl rfl 0 (by decide) (hts (.fieldLink RX7 59 "OptimaWorks$ValueDesk" "holders" "I") (by decide +kernel)) (fun _ h9 => h9) rfl dX7_addHolder_12 ?_
  refine lv_iconst (v := 1) hx hb dX7_addHolder_15 (by decide) ?_
  refine lv_iadd hx hb dX7_addHolder_16 ?_
  refine lv_topi (fun y2 hy2 => ?_)
  obtain rfl : (iI (iV_holders.toInt + 1)) = y2 := (hy2.trans (iI_add2 (iI_of _) (by decide : (1 : Int32) = iI 1))).symm
  refine va_put (D := (dC, dI)) (ci := 7) (v := .int (iI (iV_holders.toInt + 1))) (ty := .int) (C := RX7) (T := TX7) (N := 20) hx hb hts iwsMX7_addHolder_in7 tyX7 tyX7_ok nmX7 hown hK hP hD hS 0 rfl rfl 0 (by decide) (hts (.fieldLink RX7 59 "OptimaWorks$ValueDesk" "holders" "I") (by decide +kernel)) (fun _ h9 => h9) rfl (by decide +kernel) rfl rfl (Nat.le_of_ble_eq_true rfl) dX7_addHolder_17 (fun H locs hP hD hS => ?_)
  have hP : va_P (dC, dI) vwCl (WV hV aV kV (iI (iV_holders.toInt + 1)) iV_rules fV_pairs u1 fV_kind fV_a fV_b fV_c fV_rulePairs fV_lastHolder fV_now iV_doneFor iV_changed gV_fore gV_back fV_together fV_member gV_list dV_list nV_list iV_listed iV_listDone) H := hP
  have hD : va_D A (WV hV aV kV (iI (iV_holders.toInt + 1)) iV_rules fV_pairs u1 fV_kind fV_a fV_b fV_c fV_rulePairs fV_lastHolder fV_now iV_doneFor iV_changed gV_fore gV_back fV_together fV_member gV_list dV_list nV_list iV_listed iV_listDone) := hD
  refine lv_aload_n hx hb dX7_addHolder_20 rfl (lv_at hl 0 rfl) ?_
  have hFc := allFree hD hS hA
  refine va_callv (va_runV (As := []) (rest := []) ⟨hx, hb, hml, hown, hts⟩ (m_X7_change l dC dI hV aV kV (iI (iV_holders.toInt + 1)) iV_rules fV_pairs u1 fV_kind fV_a fV_b fV_c fV_rulePairs fV_lastHolder fV_now iV_doneFor iV_changed gV_fore gV_back fV_together fV_member gV_list dV_list nV_list iV_listed iV_listDone (iI_rng (Int.le_trans (by decide) (Int.add_le_add (b_iV_holders.1) (Int.le_refl _))) (by omega) (by decide) (by decide)) (b_iV_rules) b_fV_kind (b_iV_changed) b_fV_member (by first | exact b_nV_list | assumption | exact ⟨by omega, by omega⟩) (b_iV_listed) (b_iV_listDone) (by first | assumption | omega) (by first | assumption | omega) H.size) (cwV 0 hts gwsMX7_addHolder_0 rfl rfl rfl hd_yX7_change_RX7 (by decide +kernel)) (fz_pre (va_recv hK hP (ci := 7) (q0 := 0) rfl rfl) hP hK hD) rfl rfl hl.1 rfl (lv_room (Nat.le_of_ble_eq_true rfl)) dX7_addHolder_21 (by decide +kernel)) hS (fun q _ h => hFc q h) hFc (fun u t9_ H locs ht hvm hw9 hB9 hz1 hk1 hS => ?_)
  obtain ⟨iV_doneFor_3, iV_listDone_3⟩ := u
  try dsimp only at hw9 hB9
  have b_iV_listDone_3 := hw9
  try dsimp only at b_iV_listDone_3
  have hP : va_P (dC, dI) vwCl (WV hV aV kV (iI (iV_holders.toInt + 1)) iV_rules fV_pairs u1 fV_kind fV_a fV_b fV_c fV_rulePairs fV_lastHolder fV_now iV_doneFor_3 iV_changed gV_fore gV_back fV_together fV_member gV_list dV_list nV_list iV_listed iV_listDone_3) H := fz_P ht hB9.1
  have hD : va_D A (WV hV aV kV (iI (iV_holders.toInt + 1)) iV_rules fV_pairs u1 fV_kind fV_a fV_b fV_c fV_rulePairs fV_lastHolder fV_now iV_doneFor_3 iV_changed gV_fore gV_back fV_together fV_member gV_list dV_list nV_list iV_listed iV_listDone_3) := hB9.2.weaken (fun _ q _ h => hFc q.1 h)
  refine lv_aload_n hx hb dX7_addHolder_24 rfl (lv_at hl 0 rfl) ?_
  refine va_get (D := (dC, dI)) (ci := 7) (v := .int (iI (iV_holders.toInt + 1))) (C := RX7) (T := TX7) (N := 20) hx hb hts iwsMX7_addHolder_in7 hown hK hP 0 rfl rfl 0 (by decide) (hts (.fieldLink RX7 59 "OptimaWorks$ValueDesk" "holders" "I") (by decide +kernel)) (fun _ h9 => h9) rfl dX7_addHolder_25 ?_
  refine lv_iconst (v := 1) hx hb dX7_addHolder_28 (by decide) ?_
  refine lv_isub hx hb dX7_addHolder_29 ?_
  refine lv_topi (fun y4 hy4 => ?_)
  obtain rfl : (iI ((iV_holders.toInt + 1) - 1)) = y4 := (hy4.trans (iI_sub2 rfl (by decide : (1 : Int32) = iI 1))).symm
  refine W.widen (k := 0) (n := 0) (by decide +kernel) (by decide +kernel) ?_
  exact W.iret (v := (iI ((iV_holders.toInt + 1) - 1))) hx hb hr (fun t9_ ht hW => ⟨⟨(iI ((iV_holders.toInt + 1) - 1)), ((iI (iV_holders.toInt + 1)), u1, iV_doneFor_3, iV_listDone_3), rfl, ⟨(by (try dsimp only); exact (iI_rng (Int.le_trans (by decide) (Int.add_le_add (b_iV_holders.1) (Int.le_refl _))) (by omega) (by decide) (by decide))), (by (try dsimp only); exact (by first | exact b_iV_listDone_3 | assumption | exact ⟨by omega, by omega⟩)), (by (try dsimp only); first | (rw [iI_t (by omega) (by omega)] <;> omega) | omega), (by (try dsimp only); first | (rw [iI_t (by omega) (by omega)] <;> omega) | omega), (by (try dsimp only); exact (b_u1))⟩, by rw [ht]; exact hP, hD⟩, hS.F ht⟩) hS.2.2 dX7_addHolder_30
theorem dX7_isRule_0 : decode cX7_isRule 0 = .ok (.iload_n 1, 1) := dk_27 (by decide +kernel)
theorem dX7_isRule_1 : decode cX7_isRule 1 = .ok (.tableswitch 171 0 4 #[35, 41, 73, 108, 144], 35) := by decide +kernel
theorem dX7_isRule_36 : decode cX7_isRule 36 = .ok (.aload_n 0, 1) := dk_42 (by decide +kernel)
theorem dX7_isRule_37 : decode cX7_isRule 37 = .ok (.iload_n 2, 1) := dk_28 (by decide +kernel)
theorem dX7_isRule_38 : decode cX7_isRule 38 = .ok (.invokevirtual 72, 3) := dk_182 (by decide +kernel)
theorem dX7_isRule_41 : decode cX7_isRule 41 = .ok (.ireturn, 1) := dk_172 (by decide +kernel)
theorem dX7_isRule_42 : decode cX7_isRule 42 = .ok (.aload_n 0, 1) := dk_42 (by decide +kernel)
theorem dX7_isRule_43 : decode cX7_isRule 43 = .ok (.iload_n 2, 1) := dk_28 (by decide +kernel)
theorem dX7_isRule_44 : decode cX7_isRule 44 = .ok (.invokevirtual 76, 3) := dk_182 (by decide +kernel)
theorem dX7_isRule_47 : decode cX7_isRule 47 = .ok (.ifCond .eq 25, 3) := dk_153 (by decide +kernel)
theorem dX7_isRule_50 : decode cX7_isRule 50 = .ok (.iload_n 3, 1) := dk_29 (by decide +kernel)
theorem dX7_isRule_51 : decode cX7_isRule 51 = .ok (.bipush 15, 2) := dk_16 (by decide +kernel)
theorem dX7_isRule_53 : decode cX7_isRule 53 = .ok (.invokestatic 79, 3) := dk_184 (by decide +kernel)
theorem dX7_isRule_56 : decode cX7_isRule 56 = .ok (.ifCond .eq 16, 3) := dk_153 (by decide +kernel)
theorem dX7_isRule_59 : decode cX7_isRule 59 = .ok (.aload_n 0, 1) := dk_42 (by decide +kernel)
theorem dX7_isRule_60 : decode cX7_isRule 60 = .ok (.iload 4, 2) := dk_21 (by decide +kernel)
theorem dX7_isRule_62 : decode cX7_isRule 62 = .ok (.invokevirtual 76, 3) := dk_182 (by decide +kernel)
theorem dX7_isRule_65 : decode cX7_isRule 65 = .ok (.ifCond .eq 7, 3) := dk_153 (by decide +kernel)
theorem dX7_isRule_68 : decode cX7_isRule 68 = .ok (.iconst 1, 1) := dk_4 (by decide +kernel)
theorem dX7_isRule_69 : decode cX7_isRule 69 = .ok (.goto 4, 3) := dk_167 (by decide +kernel)
theorem dX7_isRule_72 : decode cX7_isRule 72 = .ok (.iconst 0, 1) := dk_3 (by decide +kernel)
theorem dX7_isRule_73 : decode cX7_isRule 73 = .ok (.ireturn, 1) := dk_172 (by decide +kernel)
theorem dX7_isRule_74 : decode cX7_isRule 74 = .ok (.aload_n 0, 1) := dk_42 (by decide +kernel)
theorem dX7_isRule_75 : decode cX7_isRule 75 = .ok (.iload_n 2, 1) := dk_28 (by decide +kernel)
theorem dX7_isRule_76 : decode cX7_isRule 76 = .ok (.invokevirtual 72, 3) := dk_182 (by decide +kernel)
theorem dX7_isRule_79 : decode cX7_isRule 79 = .ok (.ifCond .eq 28, 3) := dk_153 (by decide +kernel)
theorem dX7_isRule_82 : decode cX7_isRule 82 = .ok (.iload_n 3, 1) := dk_29 (by decide +kernel)
theorem dX7_isRule_83 : decode cX7_isRule 83 = .ok (.sipush 200, 3) := dk_17 (by decide +kernel)
theorem dX7_isRule_86 : decode cX7_isRule 86 = .ok (.invokestatic 79, 3) := dk_184 (by decide +kernel)
theorem dX7_isRule_89 : decode cX7_isRule 89 = .ok (.ifCond .eq 18, 3) := dk_153 (by decide +kernel)
theorem dX7_isRule_92 : decode cX7_isRule 92 = .ok (.iload 4, 2) := dk_21 (by decide +kernel)
theorem dX7_isRule_94 : decode cX7_isRule 94 = .ok (.sipush 200, 3) := dk_17 (by decide +kernel)
theorem dX7_isRule_97 : decode cX7_isRule 97 = .ok (.invokestatic 79, 3) := dk_184 (by decide +kernel)
theorem dX7_isRule_100 : decode cX7_isRule 100 = .ok (.ifCond .eq 7, 3) := dk_153 (by decide +kernel)
theorem dX7_isRule_103 : decode cX7_isRule 103 = .ok (.iconst 1, 1) := dk_4 (by decide +kernel)
theorem dX7_isRule_104 : decode cX7_isRule 104 = .ok (.goto 4, 3) := dk_167 (by decide +kernel)
theorem dX7_isRule_107 : decode cX7_isRule 107 = .ok (.iconst 0, 1) := dk_3 (by decide +kernel)
theorem dX7_isRule_108 : decode cX7_isRule 108 = .ok (.ireturn, 1) := dk_172 (by decide +kernel)
theorem dX7_isRule_109 : decode cX7_isRule 109 = .ok (.aload_n 0, 1) := dk_42 (by decide +kernel)
theorem dX7_isRule_110 : decode cX7_isRule 110 = .ok (.iload_n 2, 1) := dk_28 (by decide +kernel)
theorem dX7_isRule_111 : decode cX7_isRule 111 = .ok (.invokevirtual 72, 3) := dk_182 (by decide +kernel)
theorem dX7_isRule_114 : decode cX7_isRule 114 = .ok (.ifCond .eq 29, 3) := dk_153 (by decide +kernel)
theorem dX7_isRule_117 : decode cX7_isRule 117 = .ok (.iload_n 3, 1) := dk_29 (by decide +kernel)
theorem dX7_isRule_118 : decode cX7_isRule 118 = .ok (.sipush 200, 3) := dk_17 (by decide +kernel)
theorem dX7_isRule_121 : decode cX7_isRule 121 = .ok (.invokestatic 79, 3) := dk_184 (by decide +kernel)
theorem dX7_isRule_124 : decode cX7_isRule 124 = .ok (.ifCond .eq 19, 3) := dk_153 (by decide +kernel)
theorem dX7_isRule_127 : decode cX7_isRule 127 = .ok (.iload 4, 2) := dk_21 (by decide +kernel)
theorem dX7_isRule_129 : decode cX7_isRule 129 = .ok (.ifCond .lt 14, 3) := dk_155 (by decide +kernel)
theorem dX7_isRule_132 : decode cX7_isRule 132 = .ok (.iload 4, 2) := dk_21 (by decide +kernel)
theorem dX7_isRule_134 : decode cX7_isRule 134 = .ok (.bipush 16, 2) := dk_16 (by decide +kernel)
theorem dX7_isRule_136 : decode cX7_isRule 136 = .ok (.if_icmp .ge 7, 3) := dk_162 (by decide +kernel)
theorem dX7_isRule_139 : decode cX7_isRule 139 = .ok (.iconst 1, 1) := dk_4 (by decide +kernel)
theorem dX7_isRule_140 : decode cX7_isRule 140 = .ok (.goto 4, 3) := dk_167 (by decide +kernel)
theorem dX7_isRule_143 : decode cX7_isRule 143 = .ok (.iconst 0, 1) := dk_3 (by decide +kernel)
theorem dX7_isRule_144 : decode cX7_isRule 144 = .ok (.ireturn, 1) := dk_172 (by decide +kernel)
theorem dX7_isRule_145 : decode cX7_isRule 145 = .ok (.aload_n 0, 1) := dk_42 (by decide +kernel)
theorem dX7_isRule_146 : decode cX7_isRule 146 = .ok (.iload_n 2, 1) := dk_28 (by decide +kernel)
theorem dX7_isRule_147 : decode cX7_isRule 147 = .ok (.invokevirtual 76, 3) := dk_182 (by decide +kernel)
theorem dX7_isRule_150 : decode cX7_isRule 150 = .ok (.ifCond .eq 20, 3) := dk_153 (by decide +kernel)
theorem dX7_isRule_153 : decode cX7_isRule 153 = .ok (.aload_n 0, 1) := dk_42 (by decide +kernel)
theorem dX7_isRule_154 : decode cX7_isRule 154 = .ok (.iload_n 3, 1) := dk_29 (by decide +kernel)
theorem dX7_isRule_155 : decode cX7_isRule 155 = .ok (.invokevirtual 76, 3) := dk_182 (by decide +kernel)
theorem dX7_isRule_158 : decode cX7_isRule 158 = .ok (.ifCond .eq 12, 3) := dk_153 (by decide +kernel)
theorem dX7_isRule_161 : decode cX7_isRule 161 = .ok (.iload_n 2, 1) := dk_28 (by decide +kernel)
theorem dX7_isRule_162 : decode cX7_isRule 162 = .ok (.iload_n 3, 1) := dk_29 (by decide +kernel)
theorem dX7_isRule_163 : decode cX7_isRule 163 = .ok (.if_icmp .eq 7, 3) := dk_159 (by decide +kernel)
theorem dX7_isRule_166 : decode cX7_isRule 166 = .ok (.iconst 1, 1) := dk_4 (by decide +kernel)
theorem dX7_isRule_167 : decode cX7_isRule 167 = .ok (.goto 4, 3) := dk_167 (by decide +kernel)
theorem dX7_isRule_170 : decode cX7_isRule 170 = .ok (.iconst 0, 1) := dk_3 (by decide +kernel)
theorem dX7_isRule_171 : decode cX7_isRule 171 = .ok (.ireturn, 1) := dk_172 (by decide +kernel)
theorem dX7_isRule_172 : decode cX7_isRule 172 = .ok (.iconst 0, 1) := dk_3 (by decide +kernel)
theorem dX7_isRule_173 : decode cX7_isRule 173 = .ok (.ireturn, 1) := dk_172 (by decide +kernel)
def wsMX7_isRule : List Cond := .code yX7_isRule cX7_isRule 5 (some .boolean) :: ([] ++ (wsV RX7 72 RX7 yX7_isSet wsMX7_isSet) ++ (wsV RX7 76 RX7 yX7_isHolder wsMX7_isHolder) ++ (va_wsS RX7 79 yX7_isWithin wsMX7_isWithin))
theorem gwsMX7_isRule_0 : GoodIn wsMX7_isRule (wsV RX7 72 RX7 yX7_isSet wsMX7_isSet) := goodIn_sub (fun _ h => List.mem_cons_of_mem _ (List.mem_append_left _ (List.mem_append_left _ (List.mem_append_right _ h)))) (gdV (by decide +kernel) gdwsMX7_isSet)
theorem gwsMX7_isRule_1 : GoodIn wsMX7_isRule (wsV RX7 76 RX7 yX7_isHolder wsMX7_isHolder) := goodIn_sub (fun _ h => List.mem_cons_of_mem _ (List.mem_append_left _ (List.mem_append_right _ h))) (gdV (by decide +kernel) gdwsMX7_isHolder)
theorem gwsMX7_isRule_2 : GoodIn wsMX7_isRule (va_wsS RX7 79 yX7_isWithin wsMX7_isWithin) := goodIn_sub (fun _ h => List.mem_cons_of_mem _ (List.mem_append_right _ h)) (gdS (by decide +kernel) gdwsMX7_isWithin)
theorem gdwsMX7_isRule : wsMX7_isRule.all goodWord = true := gdC rfl (gdA (gdA (gdA (by decide +kernel : ([] : List Cond).all goodWord = true) (gdV (by decide +kernel) gdwsMX7_isSet)) (gdV (by decide +kernel) gdwsMX7_isHolder)) (gdS (by decide +kernel) gdwsMX7_isWithin))
set_option maxHeartbeats 4000000 in
set_option maxRecDepth 100000 in
/-- is it a rule -/
theorem m_X7_isRule (l : Launch) (dC : Nat → ClassId) (dI : Nat → Nat → Nat) (hV : Nat → Nat) (aV : Nat → Nat) (kV : Nat → ClassId) (iV_holders : Int32) (iV_rules : Int32) (fV_pairs : Nat → Int32) (fV_domain : Nat → Int32) (fV_kind : Nat → Int32) (fV_a : Nat → Int32) (fV_b : Nat → Int32) (fV_c : Nat → Int32) (fV_rulePairs : Nat → Int32) (fV_lastHolder : Nat → Int32) (fV_now : Nat → Int32) (iV_doneFor : Int32) (iV_changed : Int32) (gV_fore : Nat → Int64) (gV_back : Nat → Int64) (fV_together : Nat → Int32) (fV_member : Nat → Int32) (gV_list : Nat → Int64) (dV_list : Nat) (nV_list : Nat) (iV_listed : Int32) (iV_listDone : Int32) (p1 : Int32) (p2 : Int32) (p3 : Int32) (p4 : Int32) (b_iV_holders : 0 ≤ iV_holders.toInt ∧ iV_holders.toInt ≤ 10) (b_iV_rules : 0 ≤ iV_rules.toInt ∧ iV_rules.toInt ≤ 12) (b_fV_kind : ∀ q : Nat, 0 ≤ (fV_kind q).toInt ∧ (fV_kind q).toInt ≤ 4) (b_iV_changed : 0 ≤ iV_changed.toInt ∧ iV_changed.toInt ≤ 1) (b_fV_member : ∀ q : Nat, (-1) ≤ (fV_member q).toInt ∧ (fV_member q).toInt ≤ 15) (b_nV_list : 0 ≤ nV_list ∧ nV_list ≤ 20000) (b_iV_listed : (-1) ≤ iV_listed.toInt ∧ iV_listed.toInt ≤ 5000) (b_iV_listDone : 0 ≤ iV_listDone.toInt ∧ iV_listDone.toInt ≤ 1) (b_RuV : RuV fV_kind fV_a fV_b fV_c fV_lastHolder) (b_lst : iV_listed.toInt ≤ ((nV_list : Nat) : Int)) (sz : Nat) : Met l yX7_isRule wsMX7_isRule ({ frames := 1, cells := 0, slots := 0, locals := 21 }) (va_Pc [.ref (hV 0), .int p1, .int p2, .int p3, .int p4] (fun U => U.heap.size = sz ∧ va_P (dC, dI) vwCl (WV hV aV kV iV_holders iV_rules fV_pairs fV_domain fV_kind fV_a fV_b fV_c fV_rulePairs fV_lastHolder fV_now iV_doneFor iV_changed gV_fore gV_back fV_together fV_member gV_list dV_list nV_list iV_listed iV_listDone) U.heap ∧ va_K (dC, dI) vwCl (tV kV) U ∧ va_D (fun _ => True) (WV hV aV kV iV_holders iV_rules fV_pairs fV_domain fV_kind fV_a fV_b fV_c fV_rulePairs fV_lastHolder fV_now iV_doneFor iV_changed gV_fore gV_back fV_together fV_member gV_list dV_list nV_list iV_listed iV_listDone))) (va_Qi (fun (r : Int32) (u : Unit) => (0 ≤ r.toInt ∧ r.toInt ≤ 1) ∧ (r.toInt ≠ 0 → (0 ≤ p1.toInt ∧ p1.toInt ≤ 4) ∧ (p1.toInt = 1 → (0 ≤ p2.toInt ∧ p2.toInt ≤ 9) ∧ 0 ≤ p4.toInt ∧ p4.toInt ≤ 9) ∧ (p1.toInt = 4 → (0 ≤ p2.toInt ∧ p2.toInt ≤ 9) ∧ 0 ≤ p3.toInt ∧ p3.toInt ≤ 9)) ∧ ((r.toInt = 1 ∧ RulX p1 p2 p3 p4 iV_holders) ∨ (r.toInt = 0 ∧ ¬ RulX p1 p2 p3 p4 iV_holders))) (fun (u : Unit) t => va_P (dC, dI) vwCl (WV hV aV kV iV_holders iV_rules fV_pairs fV_domain fV_kind fV_a fV_b fV_c fV_rulePairs fV_lastHolder fV_now iV_doneFor iV_changed gV_fore gV_back fV_together fV_member gV_list dV_list nV_list iV_listed iV_listDone) t.heap ∧ va_D (va_A (WV hV aV kV iV_holders iV_rules fV_pairs fV_domain fV_kind fV_a fV_b fV_c fV_rulePairs fV_lastHolder fV_now iV_doneFor iV_changed gV_fore gV_back fV_together fV_member gV_list dV_list nV_list iV_listed iV_listDone) sz) (WV hV aV kV iV_holders iV_rules fV_pairs fV_domain fV_kind fV_a fV_b fV_c fV_rulePairs fV_lastHolder fV_now iV_doneFor iV_changed gV_fore gV_back fV_together fV_member gV_list dV_list nV_list iV_listed iV_listDone)) (va_A (WV hV aV kV iV_holders iV_rules fV_pairs fV_domain fV_kind fV_a fV_b fV_c fV_rulePairs fV_lastHolder fV_now iV_doneFor iV_changed gV_fore gV_back fV_together fV_member gV_list dV_list nV_list iV_listed iV_listDone) sz)) 0 0 (va_A (WV hV aV kV iV_holders iV_rules fV_pairs fV_domain fV_kind fV_a fV_b fV_c fV_rulePairs fV_lastHolder fV_now iV_doneFor iV_changed gV_fore gV_back fV_together fV_member gV_list dV_list nV_list iV_listed iV_listDone) sz) := by
  refine Met.ofW (cc := cX7_isRule) (maxL := 5) (ret := (some .boolean)) (by decide) rfl ?_
  intro p e s m args below meth c s₁ B hml hv
  obtain ⟨rfl, hsz, hP, hK, hD0⟩ := hv
  have hx := B.exec
  have hb := B.bytes
  have hr := B.returns
  have hts := atoms_spec (ws := wsMX7_isRule) B.pre
  have hown : s.vm.findClass RX7 = some m.cls := findClass_of_methodNamed B.named
  have hlocks := B.notSynchronized
  subst hsz
  have hD := hD0.self (sz := s.heap.size)
  generalize hAe : va_A (WV hV aV kV iV_holders iV_rules fV_pairs fV_domain fV_kind fV_a fV_b fV_c fV_rulePairs fV_lastHolder fV_now iV_doneFor iV_changed gV_fore gV_back fV_together fV_member gV_list dV_list nV_list iV_listed iV_listDone) s.heap.size = A at hD ⊢
  have hA : ∀ q : Nat, s.heap.size ≤ q → A q := fun q h => by rw [← hAe]; exact Or.inr h
  have hS : va_S A s.heap s.heap [] := va_S.rf
  have hl := lv_entry ([.ref (hV 0), .int p1, .int p2, .int p3, .int p4]) (n := 5) (Nat.le_of_ble_eq_true rfl)
  rw [lg_entry_eq]
  generalize (lg_sl ([.ref (hV 0), .int p1, .int p2, .int p3, .int p4]) ++ List.replicate (5 - (lg_sl ([.ref (hV 0), .int p1, .int p2, .int p3, .int p4])).length) Slot.unset).toArray = ls at hl ⊢
  have hl : lv_has ls 5 [(0, .ref (hV 0)), (1, .int p1), (2, .int p2), (3, .int p3), (4, .int p4)] := hl
  have h15c : (15 : Int32).toInt = 15 := by decide
  have h200c : (200 : Int32).toInt = 200 := by decide
  refine lv_iload_n hx hb dX7_isRule_0 rfl (lv_at hl 1 rfl) ?_
  by_cases s_1_0 : p1 = 0
  · have ts_1_0 : p1.toInt = 0 := toI_eq s_1_0 rfl (by decide)
    refine lv_tableIn (off := 35) (tgt := 36) hx hb dX7_isRule_1 (by rw [s_1_0]; decide) (by rw [s_1_0]; decide) (by rw [s_1_0]; decide) (by decide) ?_
    refine lv_aload_n hx hb dX7_isRule_36 rfl (lv_at hl 0 rfl) ?_
    refine lv_iload_n hx hb dX7_isRule_37 rfl (lv_at hl 2 rfl) ?_
    have hFc := allFree hD hS hA
    refine va_calli (va_runV (As := [.int p2]) (rest := []) ⟨hx, hb, hml, hown, hts⟩ (m_X7_isSet l dC dI hV aV kV iV_holders iV_rules fV_pairs fV_domain fV_kind fV_a fV_b fV_c fV_rulePairs fV_lastHolder fV_now iV_doneFor iV_changed gV_fore gV_back fV_together fV_member gV_list dV_list nV_list iV_listed iV_listDone p2 (b_iV_holders) (b_iV_rules) b_fV_kind (b_iV_changed) b_fV_member (by first | exact b_nV_list | assumption | exact ⟨by omega, by omega⟩) (b_iV_listed) (b_iV_listDone) (by first | assumption | omega) (by first | assumption | omega) s.heap.size) (cwV 1 hts gwsMX7_isRule_0 rfl rfl rfl hd_yX7_isSet_RX7 (by decide +kernel)) (fz_pre (va_recv hK hP (ci := 7) (q0 := 0) rfl rfl) hP hK hD) rfl rfl hl.1 rfl (lv_room (Nat.le_of_ble_eq_true rfl)) dX7_isRule_38 (by decide +kernel)) hS (fun q _ h => hFc q h) hFc (fun r1 u t9_ H locs ht hvm hw9 hB9 hz1 hk1 hS => ?_)
    obtain ⟨b_r1, f1_0⟩ := hw9
    have hP : va_P (dC, dI) vwCl (WV hV aV kV iV_holders iV_rules fV_pairs fV_domain fV_kind fV_a fV_b fV_c fV_rulePairs fV_lastHolder fV_now iV_doneFor iV_changed gV_fore gV_back fV_together fV_member gV_list dV_list nV_list iV_listed iV_listDone) H := fz_P ht hB9.1
    have hD : va_D A (WV hV aV kV iV_holders iV_rules fV_pairs fV_domain fV_kind fV_a fV_b fV_c fV_rulePairs fV_lastHolder fV_now iV_doneFor iV_changed gV_fore gV_back fV_together fV_member gV_list dV_list nV_list iV_listed iV_listDone) := hB9.2.weaken (fun _ q _ h => hFc q.1 h)
    have hsA := f1_0
    refine W.widen (k := 0) (n := 0) (by decide +kernel) (by decide +kernel) ?_
    exact W.zret (v := r1) hx hb hr (by rcases z01 (x := r1) (by first | exact b_r1 | assumption | exact ⟨by omega, by omega⟩) with h9 | h9 <;> rw [h9] <;> rfl) (fun t9_ ht hW => ⟨⟨r1, (), rfl, ⟨(by first | exact b_r1 | assumption | exact ⟨by omega, by omega⟩), (by (try dsimp only); intro h9; first | exact absurd (by decide) h9 | refine ⟨⟨by omega, by omega⟩, fun h8 => ?_, fun h8 => ?_⟩ <;> first | omega | (refine ⟨⟨?_, ?_⟩, ?_, ?_⟩ <;> omega)), (by (try dsimp only); rcases hsA with ⟨h7, h6⟩ | ⟨h7, h6⟩; (exact Or.inl ⟨h7, (show ((p1.toInt = 0 ∧ (0 < p2.toInt ∧ p2.toInt < ((1 : Int32) <<< (iV_holders &&& 31)).toInt)) ∨ (p1.toInt = 1 ∧ (0 ≤ p2.toInt ∧ p2.toInt < iV_holders.toInt) ∧ (0 ≤ p4.toInt ∧ p4.toInt < iV_holders.toInt) ∧ (-15 ≤ p3.toInt ∧ p3.toInt ≤ 15)) ∨ (p1.toInt = 2 ∧ (0 < p2.toInt ∧ p2.toInt < ((1 : Int32) <<< (iV_holders &&& 31)).toInt) ∧ (-200 ≤ p3.toInt ∧ p3.toInt ≤ 200) ∧ (-200 ≤ p4.toInt ∧ p4.toInt ≤ 200)) ∨ (p1.toInt = 3 ∧ (0 < p2.toInt ∧ p2.toInt < ((1 : Int32) <<< (iV_holders &&& 31)).toInt) ∧ (-200 ≤ p3.toInt ∧ p3.toInt ≤ 200) ∧ (0 ≤ p4.toInt ∧ p4.toInt ≤ 15)) ∨ (p1.toInt = 4 ∧ (0 ≤ p2.toInt ∧ p2.toInt < iV_holders.toInt) ∧ (0 ≤ p3.toInt ∧ p3.toInt < iV_holders.toInt) ∧ p2.toInt ≠ p3.toInt)) from Or.inl ⟨by omega, h6⟩)⟩); (exact Or.inr ⟨h7, fun h9 => by have h8 : ((p1.toInt = 0 ∧ (0 < p2.toInt ∧ p2.toInt < ((1 : Int32) <<< (iV_holders &&& 31)).toInt)) ∨ (p1.toInt = 1 ∧ (0 ≤ p2.toInt ∧ p2.toInt < iV_holders.toInt) ∧ (0 ≤ p4.toInt ∧ p4.toInt < iV_holders.toInt) ∧ (-15 ≤ p3.toInt ∧ p3.toInt ≤ 15)) ∨ (p1.toInt = 2 ∧ (0 < p2.toInt ∧ p2.toInt < ((1 : Int32) <<< (iV_holders &&& 31)).toInt) ∧ (-200 ≤ p3.toInt ∧ p3.toInt ≤ 200) ∧ (-200 ≤ p4.toInt ∧ p4.toInt ≤ 200)) ∨ (p1.toInt = 3 ∧ (0 < p2.toInt ∧ p2.toInt < ((1 : Int32) <<< (iV_holders &&& 31)).toInt) ∧ (-200 ≤ p3.toInt ∧ p3.toInt ≤ 200) ∧ (0 ≤ p4.toInt ∧ p4.toInt ≤ 15)) ∨ (p1.toInt = 4 ∧ (0 ≤ p2.toInt ∧ p2.toInt < iV_holders.toInt) ∧ (0 ≤ p3.toInt ∧ p3.toInt < iV_holders.toInt) ∧ p2.toInt ≠ p3.toInt)) := h9; rcases h8 with h8 | h8 | h8 | h8 | h8 <;> omega⟩))⟩, by rw [ht]; exact hP, hD⟩, hS.F ht⟩) hS.2.2 dX7_isRule_41
  · have ts_1_0 : ¬ p1.toInt = 0 := toI_neq s_1_0 rfl (by decide)
    by_cases s_1_1 : p1 = 1
    · have ts_1_1 : p1.toInt = 1 := toI_eq s_1_1 rfl (by decide)
      refine lv_tableIn (off := 41) (tgt := 42) hx hb dX7_isRule_1 (by rw [s_1_1]; decide) (by rw [s_1_1]; decide) (by rw [s_1_1]; decide) (by decide) ?_
      refine lv_aload_n hx hb dX7_isRule_42 rfl (lv_at hl 0 rfl) ?_
      refine lv_iload_n hx hb dX7_isRule_43 rfl (lv_at hl 2 rfl) ?_
      have hFc := allFree hD hS hA
      refine va_calli (va_runV (As := [.int p2]) (rest := []) ⟨hx, hb, hml, hown, hts⟩ (m_X7_isHolder l dC dI hV aV kV iV_holders iV_rules fV_pairs fV_domain fV_kind fV_a fV_b fV_c fV_rulePairs fV_lastHolder fV_now iV_doneFor iV_changed gV_fore gV_back fV_together fV_member gV_list dV_list nV_list iV_listed iV_listDone p2 (b_iV_holders) (b_iV_rules) b_fV_kind (b_iV_changed) b_fV_member (by first | exact b_nV_list | assumption | exact ⟨by omega, by omega⟩) (b_iV_listed) (b_iV_listDone) (by first | assumption | omega) (by first | assumption | omega) s.heap.size) (cwV 1 hts gwsMX7_isRule_1 rfl rfl rfl hd_yX7_isHolder_RX7 (by decide +kernel)) (fz_pre (va_recv hK hP (ci := 7) (q0 := 0) rfl rfl) hP hK hD) rfl rfl hl.1 rfl (lv_room (Nat.le_of_ble_eq_true rfl)) dX7_isRule_44 (by decide +kernel)) hS (fun q _ h => hFc q h) hFc (fun r2 u t9_ H locs ht hvm hw9 hB9 hz1 hk1 hS => ?_)
      obtain ⟨b_r2, f2_0, f2_1⟩ := hw9
      have hP : va_P (dC, dI) vwCl (WV hV aV kV iV_holders iV_rules fV_pairs fV_domain fV_kind fV_a fV_b fV_c fV_rulePairs fV_lastHolder fV_now iV_doneFor iV_changed gV_fore gV_back fV_together fV_member gV_list dV_list nV_list iV_listed iV_listDone) H := fz_P ht hB9.1
      have hD : va_D A (WV hV aV kV iV_holders iV_rules fV_pairs fV_domain fV_kind fV_a fV_b fV_c fV_rulePairs fV_lastHolder fV_now iV_doneFor iV_changed gV_fore gV_back fV_together fV_member gV_list dV_list nV_list iV_listed iV_listDone) := hB9.2.weaken (fun _ q _ h => hFc q.1 h)
      have hhA := f2_1
      refine lv_if_eq (tgt := 72) hx hb dX7_isRule_47 (by decide) (fun c_47 => ?_) (fun c_47 => ?_)
      · have t_47 : r2.toInt = 0 := toI_eq c_47 rfl (by decide : (0 : Int32).toInt = 0)
        refine lv_iconst (v := 0) hx hb dX7_isRule_72 (by decide) ?_
        refine W.widen (k := 0) (n := 0) (by decide +kernel) (by decide +kernel) ?_
        exact W.zret (v := 0) hx hb hr rfl (fun t9_ ht hW => ⟨⟨(0 : Int32), (), rfl, ⟨(show 0 ≤ (0 : Int32).toInt ∧ (0 : Int32).toInt ≤ 1 from by decide), (by (try dsimp only); intro h9; first | exact absurd (by decide) h9 | refine ⟨⟨by omega, by omega⟩, fun h8 => ?_, fun h8 => ?_⟩ <;> first | omega | (refine ⟨⟨?_, ?_⟩, ?_, ?_⟩ <;> omega)), (by (try dsimp only); exact (Or.inr ⟨by decide, fun h9 => by have h8 : ((p1.toInt = 0 ∧ (0 < p2.toInt ∧ p2.toInt < ((1 : Int32) <<< (iV_holders &&& 31)).toInt)) ∨ (p1.toInt = 1 ∧ (0 ≤ p2.toInt ∧ p2.toInt < iV_holders.toInt) ∧ (0 ≤ p4.toInt ∧ p4.toInt < iV_holders.toInt) ∧ (-15 ≤ p3.toInt ∧ p3.toInt ≤ 15)) ∨ (p1.toInt = 2 ∧ (0 < p2.toInt ∧ p2.toInt < ((1 : Int32) <<< (iV_holders &&& 31)).toInt) ∧ (-200 ≤ p3.toInt ∧ p3.toInt ≤ 200) ∧ (-200 ≤ p4.toInt ∧ p4.toInt ≤ 200)) ∨ (p1.toInt = 3 ∧ (0 < p2.toInt ∧ p2.toInt < ((1 : Int32) <<< (iV_holders &&& 31)).toInt) ∧ (-200 ≤ p3.toInt ∧ p3.toInt ≤ 200) ∧ (0 ≤ p4.toInt ∧ p4.toInt ≤ 15)) ∨ (p1.toInt = 4 ∧ (0 ≤ p2.toInt ∧ p2.toInt < iV_holders.toInt) ∧ (0 ≤ p3.toInt ∧ p3.toInt < iV_holders.toInt) ∧ p2.toInt ≠ p3.toInt)) := h9; rcases h8 with h8 | h8 | h8 | h8 | h8 <;> omega⟩))⟩, by rw [ht]; exact hP, hD⟩, hS.F ht⟩) hS.2.2 dX7_isRule_73
      · have t_47 : ¬ r2.toInt = 0 := toI_neq c_47 rfl (by decide : (0 : Int32).toInt = 0)
        refine lv_iload_n hx hb dX7_isRule_50 rfl (lv_at hl 3 rfl) ?_
        refine lv_bipush (v := 15) hx hb dX7_isRule_51 (by decide) ?_
        have hFc := noneFree hS hA
        refine va_calli (va_runS (As := [.int p3, .int 15]) (rest := []) ⟨hx, hb, hml, hown, hts⟩ (m_X7_isWithin l dC dI p3 15 (show 0 ≤ (15 : Int32).toInt ∧ (15 : Int32).toInt ≤ 1000 from by decide) H.size) (va_cwS 2 hts gwsMX7_isRule_2 rfl rfl rfl (by decide +kernel) ⟨by decide +kernel, by decide +kernel⟩) ⟨fun a U g mk q => by obtain ⟨q0, q1, qP, qK, qD⟩ := q; exact ⟨q0, q1, qP, va_K.moved (u := U) (U := U.calling g mk a) (Vm.Alike.refl U.vm) qK, qD⟩, fun U hU9 hW => ⟨rfl, by rw [hU9], by rw [hU9]; exact nilP, va_K.moved hW.alike (hK.sub (tys' := []) [] rfl), nilD⟩⟩ rfl rfl hl.1 rfl (lv_room (Nat.le_of_ble_eq_true rfl)) dX7_isRule_53 (by decide +kernel)) hS (fun q _ h => hFc q h) hFc (fun r3 u t9_ H1 locs ht hvm hw9 hB9 hz1 hk1 hS => ?_)
        obtain ⟨b_r3, f3_0⟩ := hw9
        clear hB9
        have hP := keepAll hP hk1
        generalize H1 = H at hP hS ⊢
        have hP : va_P (dC, dI) vwCl (WV hV aV kV iV_holders iV_rules fV_pairs fV_domain fV_kind fV_a fV_b fV_c fV_rulePairs fV_lastHolder fV_now iV_doneFor iV_changed gV_fore gV_back fV_together fV_member gV_list dV_list nV_list iV_listed iV_listDone) H := hP
        have hD : va_D A (WV hV aV kV iV_holders iV_rules fV_pairs fV_domain fV_kind fV_a fV_b fV_c fV_rulePairs fV_lastHolder fV_now iV_doneFor iV_changed gV_fore gV_back fV_together fV_member gV_list dV_list nV_list iV_listed iV_listDone) := hD
        have hwB := f3_0
        refine lv_if_eq (tgt := 72) hx hb dX7_isRule_56 (by decide) (fun c_56 => ?_) (fun c_56 => ?_)
        · have t_56 : r3.toInt = 0 := toI_eq c_56 rfl (by decide : (0 : Int32).toInt = 0)
          refine lv_iconst (v := 0) hx hb dX7_isRule_72 (by decide) ?_
          refine W.widen (k := 0) (n := 0) (by decide +kernel) (by decide +kernel) ?_
          exact W.zret (v := 0) hx hb hr rfl (fun t9_ ht hW => ⟨⟨(0 : Int32), (), rfl, ⟨(show 0 ≤ (0 : Int32).toInt ∧ (0 : Int32).toInt ≤ 1 from by decide), (by (try dsimp only); intro h9; first | exact absurd (by decide) h9 | refine ⟨⟨by omega, by omega⟩, fun h8 => ?_, fun h8 => ?_⟩ <;> first | omega | (refine ⟨⟨?_, ?_⟩, ?_, ?_⟩ <;> omega)), (by (try dsimp only); exact (Or.inr ⟨by decide, fun h9 => by have h8 : ((p1.toInt = 0 ∧ (0 < p2.toInt ∧ p2.toInt < ((1 : Int32) <<< (iV_holders &&& 31)).toInt)) ∨ (p1.toInt = 1 ∧ (0 ≤ p2.toInt ∧ p2.toInt < iV_holders.toInt) ∧ (0 ≤ p4.toInt ∧ p4.toInt < iV_holders.toInt) ∧ (-15 ≤ p3.toInt ∧ p3.toInt ≤ 15)) ∨ (p1.toInt = 2 ∧ (0 < p2.toInt ∧ p2.toInt < ((1 : Int32) <<< (iV_holders &&& 31)).toInt) ∧ (-200 ≤ p3.toInt ∧ p3.toInt ≤ 200) ∧ (-200 ≤ p4.toInt ∧ p4.toInt ≤ 200)) ∨ (p1.toInt = 3 ∧ (0 < p2.toInt ∧ p2.toInt < ((1 : Int32) <<< (iV_holders &&& 31)).toInt) ∧ (-200 ≤ p3.toInt ∧ p3.toInt ≤ 200) ∧ (0 ≤ p4.toInt ∧ p4.toInt ≤ 15)) ∨ (p1.toInt = 4 ∧ (0 ≤ p2.toInt ∧ p2.toInt < iV_holders.toInt) ∧ (0 ≤ p3.toInt ∧ p3.toInt < iV_holders.toInt) ∧ p2.toInt ≠ p3.toInt)) := h9; rcases h8 with h8 | h8 | h8 | h8 | h8 <;> omega⟩))⟩, by rw [ht]; exact hP, hD⟩, hS.F ht⟩) hS.2.2 dX7_isRule_73
        · have t_56 : ¬ r3.toInt = 0 := toI_neq c_56 rfl (by decide : (0 : Int32).toInt = 0)
          refine lv_aload_n hx hb dX7_isRule_59 rfl (lv_at hl 0 rfl) ?_
          refine lv_iload hx hb dX7_isRule_60 (lv_at hl 4 rfl) ?_
          have hFc := allFree hD hS hA
          refine va_calli (va_runV (As := [.int p4]) (rest := []) ⟨hx, hb, hml, hown, hts⟩ (m_X7_isHolder l dC dI hV aV kV iV_holders iV_rules fV_pairs fV_domain fV_kind fV_a fV_b fV_c fV_rulePairs fV_lastHolder fV_now iV_doneFor iV_changed gV_fore gV_back fV_together fV_member gV_list dV_list nV_list iV_listed iV_listDone p4 (b_iV_holders) (b_iV_rules) b_fV_kind (b_iV_changed) b_fV_member (by first | exact b_nV_list | assumption | exact ⟨by omega, by omega⟩) (b_iV_listed) (b_iV_listDone) (by first | assumption | omega) (by first | assumption | omega) H.size) (cwV 1 hts gwsMX7_isRule_1 rfl rfl rfl hd_yX7_isHolder_RX7 (by decide +kernel)) (fz_pre (va_recv hK hP (ci := 7) (q0 := 0) rfl rfl) hP hK hD) rfl rfl hl.1 rfl (lv_room (Nat.le_of_ble_eq_true rfl)) dX7_isRule_62 (by decide +kernel)) hS (fun q _ h => hFc q h) hFc (fun r4 u t9_ H locs ht hvm hw9 hB9 hz1 hk1 hS => ?_)
          obtain ⟨b_r4, f4_0, f4_1⟩ := hw9
          have hP : va_P (dC, dI) vwCl (WV hV aV kV iV_holders iV_rules fV_pairs fV_domain fV_kind fV_a fV_b fV_c fV_rulePairs fV_lastHolder fV_now iV_doneFor iV_changed gV_fore gV_back fV_together fV_member gV_list dV_list nV_list iV_listed iV_listDone) H := fz_P ht hB9.1
          have hD : va_D A (WV hV aV kV iV_holders iV_rules fV_pairs fV_domain fV_kind fV_a fV_b fV_c fV_rulePairs fV_lastHolder fV_now iV_doneFor iV_changed gV_fore gV_back fV_together fV_member gV_list dV_list nV_list iV_listed iV_listDone) := hB9.2.weaken (fun _ q _ h => hFc q.1 h)
          have hhC := f4_1
          refine lv_if_eq (tgt := 72) hx hb dX7_isRule_65 (by decide) (fun c_65 => ?_) (fun c_65 => ?_)
          · have t_65 : r4.toInt = 0 := toI_eq c_65 rfl (by decide : (0 : Int32).toInt = 0)
            refine lv_iconst (v := 0) hx hb dX7_isRule_72 (by decide) ?_
            refine W.widen (k := 0) (n := 0) (by decide +kernel) (by decide +kernel) ?_
            exact W.zret (v := 0) hx hb hr rfl (fun t9_ ht hW => ⟨⟨(0 : Int32), (), rfl, ⟨(show 0 ≤ (0 : Int32).toInt ∧ (0 : Int32).toInt ≤ 1 from by decide), (by (try dsimp only); intro h9; first | exact absurd (by decide) h9 | refine ⟨⟨by omega, by omega⟩, fun h8 => ?_, fun h8 => ?_⟩ <;> first | omega | (refine ⟨⟨?_, ?_⟩, ?_, ?_⟩ <;> omega)), (by (try dsimp only); exact (Or.inr ⟨by decide, fun h9 => by have h8 : ((p1.toInt = 0 ∧ (0 < p2.toInt ∧ p2.toInt < ((1 : Int32) <<< (iV_holders &&& 31)).toInt)) ∨ (p1.toInt = 1 ∧ (0 ≤ p2.toInt ∧ p2.toInt < iV_holders.toInt) ∧ (0 ≤ p4.toInt ∧ p4.toInt < iV_holders.toInt) ∧ (-15 ≤ p3.toInt ∧ p3.toInt ≤ 15)) ∨ (p1.toInt = 2 ∧ (0 < p2.toInt ∧ p2.toInt < ((1 : Int32) <<< (iV_holders &&& 31)).toInt) ∧ (-200 ≤ p3.toInt ∧ p3.toInt ≤ 200) ∧ (-200 ≤ p4.toInt ∧ p4.toInt ≤ 200)) ∨ (p1.toInt = 3 ∧ (0 < p2.toInt ∧ p2.toInt < ((1 : Int32) <<< (iV_holders &&& 31)).toInt) ∧ (-200 ≤ p3.toInt ∧ p3.toInt ≤ 200) ∧ (0 ≤ p4.toInt ∧ p4.toInt ≤ 15)) ∨ (p1.toInt = 4 ∧ (0 ≤ p2.toInt ∧ p2.toInt < iV_holders.toInt) ∧ (0 ≤ p3.toInt ∧ p3.toInt < iV_holders.toInt) ∧ p2.toInt ≠ p3.toInt)) := h9; rcases h8 with h8 | h8 | h8 | h8 | h8 <;> omega⟩))⟩, by rw [ht]; exact hP, hD⟩, hS.F ht⟩) hS.2.2 dX7_isRule_73
          · have t_65 : ¬ r4.toInt = 0 := toI_neq c_65 rfl (by decide : (0 : Int32).toInt = 0)
            refine lv_iconst (v := 1) hx hb dX7_isRule_68 (by decide) ?_
            refine lv_goto (tgt := 73) hx hb dX7_isRule_69 (by decide) ?_
            refine W.widen (k := 0) (n := 0) (by decide +kernel) (by decide +kernel) ?_
            exact W.zret (v := 1) hx hb hr rfl (fun t9_ ht hW => ⟨⟨(1 : Int32), (), rfl, ⟨(show 0 ≤ (1 : Int32).toInt ∧ (1 : Int32).toInt ≤ 1 from by decide), (by (try dsimp only); intro h9; first | exact absurd (by decide) h9 | refine ⟨⟨by omega, by omega⟩, fun h8 => ?_, fun h8 => ?_⟩ <;> first | omega | (refine ⟨⟨?_, ?_⟩, ?_, ?_⟩ <;> omega)), (by (try dsimp only); exact (Or.inl ⟨by decide, (show ((p1.toInt = 0 ∧ (0 < p2.toInt ∧ p2.toInt < ((1 : Int32) <<< (iV_holders &&& 31)).toInt)) ∨ (p1.toInt = 1 ∧ (0 ≤ p2.toInt ∧ p2.toInt < iV_holders.toInt) ∧ (0 ≤ p4.toInt ∧ p4.toInt < iV_holders.toInt) ∧ (-15 ≤ p3.toInt ∧ p3.toInt ≤ 15)) ∨ (p1.toInt = 2 ∧ (0 < p2.toInt ∧ p2.toInt < ((1 : Int32) <<< (iV_holders &&& 31)).toInt) ∧ (-200 ≤ p3.toInt ∧ p3.toInt ≤ 200) ∧ (-200 ≤ p4.toInt ∧ p4.toInt ≤ 200)) ∨ (p1.toInt = 3 ∧ (0 < p2.toInt ∧ p2.toInt < ((1 : Int32) <<< (iV_holders &&& 31)).toInt) ∧ (-200 ≤ p3.toInt ∧ p3.toInt ≤ 200) ∧ (0 ≤ p4.toInt ∧ p4.toInt ≤ 15)) ∨ (p1.toInt = 4 ∧ (0 ≤ p2.toInt ∧ p2.toInt < iV_holders.toInt) ∧ (0 ≤ p3.toInt ∧ p3.toInt < iV_holders.toInt) ∧ p2.toInt ≠ p3.toInt)) from Or.inr (Or.inl ⟨by omega, ⟨by omega, by omega⟩, ⟨by omega, by omega⟩, by omega, by omega⟩))⟩))⟩, by rw [ht]; exact hP, hD⟩, hS.F ht⟩) hS.2.2 dX7_isRule_73
    · have ts_1_1 : ¬ p1.toInt = 1 := toI_neq s_1_1 rfl (by decide)
      by_cases s_1_2 : p1 = 2
      · have ts_1_2 : p1.toInt = 2 := toI_eq s_1_2 rfl (by decide)
        refine lv_tableIn (off := 73) (tgt := 74) hx hb dX7_isRule_1 (by rw [s_1_2]; decide) (by rw [s_1_2]; decide) (by rw [s_1_2]; decide) (by decide) ?_
        refine lv_aload_n hx hb dX7_isRule_74 rfl (lv_at hl 0 rfl) ?_
        refine lv_iload_n hx hb dX7_isRule_75 rfl (lv_at hl 2 rfl) ?_
        have hFc := allFree hD hS hA
        refine va_calli (va_runV (As := [.int p2]) (rest := []) ⟨hx, hb, hml, hown, hts⟩ (m_X7_isSet l dC dI hV aV kV iV_holders iV_rules fV_pairs fV_domain fV_kind fV_a fV_b fV_c fV_rulePairs fV_lastHolder fV_now iV_doneFor iV_changed gV_fore gV_back fV_together fV_member gV_list dV_list nV_list iV_listed iV_listDone p2 (b_iV_holders) (b_iV_rules) b_fV_kind (b_iV_changed) b_fV_member (by first | exact b_nV_list | assumption | exact ⟨by omega, by omega⟩) (b_iV_listed) (b_iV_listDone) (by first | assumption | omega) (by first | assumption | omega) s.heap.size) (cwV 1 hts gwsMX7_isRule_0 rfl rfl rfl hd_yX7_isSet_RX7 (by decide +kernel)) (fz_pre (va_recv hK hP (ci := 7) (q0 := 0) rfl rfl) hP hK hD) rfl rfl hl.1 rfl (lv_room (Nat.le_of_ble_eq_true rfl)) dX7_isRule_76 (by decide +kernel)) hS (fun q _ h => hFc q h) hFc (fun r5 u t9_ H locs ht hvm hw9 hB9 hz1 hk1 hS => ?_)
        obtain ⟨b_r5, f5_0⟩ := hw9
        have hP : va_P (dC, dI) vwCl (WV hV aV kV iV_holders iV_rules fV_pairs fV_domain fV_kind fV_a fV_b fV_c fV_rulePairs fV_lastHolder fV_now iV_doneFor iV_changed gV_fore gV_back fV_together fV_member gV_list dV_list nV_list iV_listed iV_listDone) H := fz_P ht hB9.1
        have hD : va_D A (WV hV aV kV iV_holders iV_rules fV_pairs fV_domain fV_kind fV_a fV_b fV_c fV_rulePairs fV_lastHolder fV_now iV_doneFor iV_changed gV_fore gV_back fV_together fV_member gV_list dV_list nV_list iV_listed iV_listDone) := hB9.2.weaken (fun _ q _ h => hFc q.1 h)
        have hsA := f5_0
        refine lv_if_eq (tgt := 107) hx hb dX7_isRule_79 (by decide) (fun c_79 => ?_) (fun c_79 => ?_)
        · have t_79 : r5.toInt = 0 := toI_eq c_79 rfl (by decide : (0 : Int32).toInt = 0)
          refine lv_iconst (v := 0) hx hb dX7_isRule_107 (by decide) ?_
          refine W.widen (k := 0) (n := 0) (by decide +kernel) (by decide +kernel) ?_
          exact W.zret (v := 0) hx hb hr rfl (fun t9_ ht hW => ⟨⟨(0 : Int32), (), rfl, ⟨(show 0 ≤ (0 : Int32).toInt ∧ (0 : Int32).toInt ≤ 1 from by decide), (by (try dsimp only); intro h9; first | exact absurd (by decide) h9 | refine ⟨⟨by omega, by omega⟩, fun h8 => ?_, fun h8 => ?_⟩ <;> first | omega | (refine ⟨⟨?_, ?_⟩, ?_, ?_⟩ <;> omega)), (by (try dsimp only); exact (Or.inr ⟨by decide, fun h9 => by have h8 : ((p1.toInt = 0 ∧ (0 < p2.toInt ∧ p2.toInt < ((1 : Int32) <<< (iV_holders &&& 31)).toInt)) ∨ (p1.toInt = 1 ∧ (0 ≤ p2.toInt ∧ p2.toInt < iV_holders.toInt) ∧ (0 ≤ p4.toInt ∧ p4.toInt < iV_holders.toInt) ∧ (-15 ≤ p3.toInt ∧ p3.toInt ≤ 15)) ∨ (p1.toInt = 2 ∧ (0 < p2.toInt ∧ p2.toInt < ((1 : Int32) <<< (iV_holders &&& 31)).toInt) ∧ (-200 ≤ p3.toInt ∧ p3.toInt ≤ 200) ∧ (-200 ≤ p4.toInt ∧ p4.toInt ≤ 200)) ∨ (p1.toInt = 3 ∧ (0 < p2.toInt ∧ p2.toInt < ((1 : Int32) <<< (iV_holders &&& 31)).toInt) ∧ (-200 ≤ p3.toInt ∧ p3.toInt ≤ 200) ∧ (0 ≤ p4.toInt ∧ p4.toInt ≤ 15)) ∨ (p1.toInt = 4 ∧ (0 ≤ p2.toInt ∧ p2.toInt < iV_holders.toInt) ∧ (0 ≤ p3.toInt ∧ p3.toInt < iV_holders.toInt) ∧ p2.toInt ≠ p3.toInt)) := h9; rcases h8 with h8 | h8 | h8 | h8 | h8 <;> omega⟩))⟩, by rw [ht]; exact hP, hD⟩, hS.F ht⟩) hS.2.2 dX7_isRule_108
        · have t_79 : ¬ r5.toInt = 0 := toI_neq c_79 rfl (by decide : (0 : Int32).toInt = 0)
          refine lv_iload_n hx hb dX7_isRule_82 rfl (lv_at hl 3 rfl) ?_
          refine lv_sipush (v := 200) hx hb dX7_isRule_83 (by decide) ?_
          have hFc := noneFree hS hA
          refine va_calli (va_runS (As := [.int p3, .int 200]) (rest := []) ⟨hx, hb, hml, hown, hts⟩ (m_X7_isWithin l dC dI p3 200 (show 0 ≤ (200 : Int32).toInt ∧ (200 : Int32).toInt ≤ 1000 from by decide) H.size) (va_cwS 2 hts gwsMX7_isRule_2 rfl rfl rfl (by decide +kernel) ⟨by decide +kernel, by decide +kernel⟩) ⟨fun a U g mk q => by obtain ⟨q0, q1, qP, qK, qD⟩ := q; exact ⟨q0, q1, qP, va_K.moved (u := U) (U := U.calling g mk a) (Vm.Alike.refl U.vm) qK, qD⟩, fun U hU9 hW => ⟨rfl, by rw [hU9], by rw [hU9]; exact nilP, va_K.moved hW.alike (hK.sub (tys' := []) [] rfl), nilD⟩⟩ rfl rfl hl.1 rfl (lv_room (Nat.le_of_ble_eq_true rfl)) dX7_isRule_86 (by decide +kernel)) hS (fun q _ h => hFc q h) hFc (fun r6 u t9_ H1 locs ht hvm hw9 hB9 hz1 hk1 hS => ?_)
          obtain ⟨b_r6, f6_0⟩ := hw9
          clear hB9
          have hP := keepAll hP hk1
          generalize H1 = H at hP hS ⊢
          have hP : va_P (dC, dI) vwCl (WV hV aV kV iV_holders iV_rules fV_pairs fV_domain fV_kind fV_a fV_b fV_c fV_rulePairs fV_lastHolder fV_now iV_doneFor iV_changed gV_fore gV_back fV_together fV_member gV_list dV_list nV_list iV_listed iV_listDone) H := hP
          have hD : va_D A (WV hV aV kV iV_holders iV_rules fV_pairs fV_domain fV_kind fV_a fV_b fV_c fV_rulePairs fV_lastHolder fV_now iV_doneFor iV_changed gV_fore gV_back fV_together fV_member gV_list dV_list nV_list iV_listed iV_listDone) := hD
          have hwB := f6_0
          refine lv_if_eq (tgt := 107) hx hb dX7_isRule_89 (by decide) (fun c_89 => ?_) (fun c_89 => ?_)
          · have t_89 : r6.toInt = 0 := toI_eq c_89 rfl (by decide : (0 : Int32).toInt = 0)
            refine lv_iconst (v := 0) hx hb dX7_isRule_107 (by decide) ?_
            refine W.widen (k := 0) (n := 0) (by decide +kernel) (by decide +kernel) ?_
            exact W.zret (v := 0) hx hb hr rfl (fun t9_ ht hW => ⟨⟨(0 : Int32), (), rfl, ⟨(show 0 ≤ (0 : Int32).toInt ∧ (0 : Int32).toInt ≤ 1 from by decide), (by (try dsimp only); intro h9; first | exact absurd (by decide) h9 | refine ⟨⟨by omega, by omega⟩, fun h8 => ?_, fun h8 => ?_⟩ <;> first | omega | (refine ⟨⟨?_, ?_⟩, ?_, ?_⟩ <;> omega)), (by (try dsimp only); exact (Or.inr ⟨by decide, fun h9 => by have h8 : ((p1.toInt = 0 ∧ (0 < p2.toInt ∧ p2.toInt < ((1 : Int32) <<< (iV_holders &&& 31)).toInt)) ∨ (p1.toInt = 1 ∧ (0 ≤ p2.toInt ∧ p2.toInt < iV_holders.toInt) ∧ (0 ≤ p4.toInt ∧ p4.toInt < iV_holders.toInt) ∧ (-15 ≤ p3.toInt ∧ p3.toInt ≤ 15)) ∨ (p1.toInt = 2 ∧ (0 < p2.toInt ∧ p2.toInt < ((1 : Int32) <<< (iV_holders &&& 31)).toInt) ∧ (-200 ≤ p3.toInt ∧ p3.toInt ≤ 200) ∧ (-200 ≤ p4.toInt ∧ p4.toInt ≤ 200)) ∨ (p1.toInt = 3 ∧ (0 < p2.toInt ∧ p2.toInt < ((1 : Int32) <<< (iV_holders &&& 31)).toInt) ∧ (-200 ≤ p3.toInt ∧ p3.toInt ≤ 200) ∧ (0 ≤ p4.toInt ∧ p4.toInt ≤ 15)) ∨ (p1.toInt = 4 ∧ (0 ≤ p2.toInt ∧ p2.toInt < iV_holders.toInt) ∧ (0 ≤ p3.toInt ∧ p3.toInt < iV_holders.toInt) ∧ p2.toInt ≠ p3.toInt)) := h9; rcases h8 with h8 | h8 | h8 | h8 | h8 <;> omega⟩))⟩, by rw [ht]; exact hP, hD⟩, hS.F ht⟩) hS.2.2 dX7_isRule_108
          · have t_89 : ¬ r6.toInt = 0 := toI_neq c_89 rfl (by decide : (0 : Int32).toInt = 0)
            refine lv_iload hx hb dX7_isRule_92 (lv_at hl 4 rfl) ?_
            refine lv_sipush (v := 200) hx hb dX7_isRule_94 (by decide) ?_
            have hFc := noneFree hS hA
            refine va_calli (va_runS (As := [.int p4, .int 200]) (rest := []) ⟨hx, hb, hml, hown, hts⟩ (m_X7_isWithin l dC dI p4 200 (show 0 ≤ (200 : Int32).toInt ∧ (200 : Int32).toInt ≤ 1000 from by decide) H.size) (va_cwS 2 hts gwsMX7_isRule_2 rfl rfl rfl (by decide +kernel) ⟨by decide +kernel, by decide +kernel⟩) ⟨fun a U g mk q => by obtain ⟨q0, q1, qP, qK, qD⟩ := q; exact ⟨q0, q1, qP, va_K.moved (u := U) (U := U.calling g mk a) (Vm.Alike.refl U.vm) qK, qD⟩, fun U hU9 hW => ⟨rfl, by rw [hU9], by rw [hU9]; exact nilP, va_K.moved hW.alike (hK.sub (tys' := []) [] rfl), nilD⟩⟩ rfl rfl hl.1 rfl (lv_room (Nat.le_of_ble_eq_true rfl)) dX7_isRule_97 (by decide +kernel)) hS (fun q _ h => hFc q h) hFc (fun r7 u t9_ H1 locs ht hvm hw9 hB9 hz1 hk1 hS => ?_)
            obtain ⟨b_r7, f7_0⟩ := hw9
            clear hB9
            have hP := keepAll hP hk1
            generalize H1 = H at hP hS ⊢
            have hP : va_P (dC, dI) vwCl (WV hV aV kV iV_holders iV_rules fV_pairs fV_domain fV_kind fV_a fV_b fV_c fV_rulePairs fV_lastHolder fV_now iV_doneFor iV_changed gV_fore gV_back fV_together fV_member gV_list dV_list nV_list iV_listed iV_listDone) H := hP
            have hD : va_D A (WV hV aV kV iV_holders iV_rules fV_pairs fV_domain fV_kind fV_a fV_b fV_c fV_rulePairs fV_lastHolder fV_now iV_doneFor iV_changed gV_fore gV_back fV_together fV_member gV_list dV_list nV_list iV_listed iV_listDone) := hD
            have hwC := f7_0
            refine lv_if_eq (tgt := 107) hx hb dX7_isRule_100 (by decide) (fun c_100 => ?_) (fun c_100 => ?_)
            · have t_100 : r7.toInt = 0 := toI_eq c_100 rfl (by decide : (0 : Int32).toInt = 0)
              refine lv_iconst (v := 0) hx hb dX7_isRule_107 (by decide) ?_
              refine W.widen (k := 0) (n := 0) (by decide +kernel) (by decide +kernel) ?_
              exact W.zret (v := 0) hx hb hr rfl (fun t9_ ht hW => ⟨⟨(0 : Int32), (), rfl, ⟨(show 0 ≤ (0 : Int32).toInt ∧ (0 : Int32).toInt ≤ 1 from by decide), (by (try dsimp only); intro h9; first | exact absurd (by decide) h9 | refine ⟨⟨by omega, by omega⟩, fun h8 => ?_, fun h8 => ?_⟩ <;> first | omega | (refine ⟨⟨?_, ?_⟩, ?_, ?_⟩ <;> omega)), (by (try dsimp only); exact (Or.inr ⟨by decide, fun h9 => by have h8 : ((p1.toInt = 0 ∧ (0 < p2.toInt ∧ p2.toInt < ((1 : Int32) <<< (iV_holders &&& 31)).toInt)) ∨ (p1.toInt = 1 ∧ (0 ≤ p2.toInt ∧ p2.toInt < iV_holders.toInt) ∧ (0 ≤ p4.toInt ∧ p4.toInt < iV_holders.toInt) ∧ (-15 ≤ p3.toInt ∧ p3.toInt ≤ 15)) ∨ (p1.toInt = 2 ∧ (0 < p2.toInt ∧ p2.toInt < ((1 : Int32) <<< (iV_holders &&& 31)).toInt) ∧ (-200 ≤ p3.toInt ∧ p3.toInt ≤ 200) ∧ (-200 ≤ p4.toInt ∧ p4.toInt ≤ 200)) ∨ (p1.toInt = 3 ∧ (0 < p2.toInt ∧ p2.toInt < ((1 : Int32) <<< (iV_holders &&& 31)).toInt) ∧ (-200 ≤ p3.toInt ∧ p3.toInt ≤ 200) ∧ (0 ≤ p4.toInt ∧ p4.toInt ≤ 15)) ∨ (p1.toInt = 4 ∧ (0 ≤ p2.toInt ∧ p2.toInt < iV_holders.toInt) ∧ (0 ≤ p3.toInt ∧ p3.toInt < iV_holders.toInt) ∧ p2.toInt ≠ p3.toInt)) := h9; rcases h8 with h8 | h8 | h8 | h8 | h8 <;> omega⟩))⟩, by rw [ht]; exact hP, hD⟩, hS.F ht⟩) hS.2.2 dX7_isRule_108
            · have t_100 : ¬ r7.toInt = 0 := toI_neq c_100 rfl (by decide : (0 : Int32).toInt = 0)
              refine lv_iconst (v := 1) hx hb dX7_isRule_103 (by decide) ?_
              refine lv_goto (tgt := 108) hx hb dX7_isRule_104 (by decide) ?_
              refine W.widen (k := 0) (n := 0) (by decide +kernel) (by decide +kernel) ?_
              exact W.zret (v := 1) hx hb hr rfl (fun t9_ ht hW => ⟨⟨(1 : Int32), (), rfl, ⟨(show 0 ≤ (1 : Int32).toInt ∧ (1 : Int32).toInt ≤ 1 from by decide), (by (try dsimp only); intro h9; first | exact absurd (by decide) h9 | refine ⟨⟨by omega, by omega⟩, fun h8 => ?_, fun h8 => ?_⟩ <;> first | omega | (refine ⟨⟨?_, ?_⟩, ?_, ?_⟩ <;> omega)), (by (try dsimp only); exact (Or.inl ⟨by decide, (show ((p1.toInt = 0 ∧ (0 < p2.toInt ∧ p2.toInt < ((1 : Int32) <<< (iV_holders &&& 31)).toInt)) ∨ (p1.toInt = 1 ∧ (0 ≤ p2.toInt ∧ p2.toInt < iV_holders.toInt) ∧ (0 ≤ p4.toInt ∧ p4.toInt < iV_holders.toInt) ∧ (-15 ≤ p3.toInt ∧ p3.toInt ≤ 15)) ∨ (p1.toInt = 2 ∧ (0 < p2.toInt ∧ p2.toInt < ((1 : Int32) <<< (iV_holders &&& 31)).toInt) ∧ (-200 ≤ p3.toInt ∧ p3.toInt ≤ 200) ∧ (-200 ≤ p4.toInt ∧ p4.toInt ≤ 200)) ∨ (p1.toInt = 3 ∧ (0 < p2.toInt ∧ p2.toInt < ((1 : Int32) <<< (iV_holders &&& 31)).toInt) ∧ (-200 ≤ p3.toInt ∧ p3.toInt ≤ 200) ∧ (0 ≤ p4.toInt ∧ p4.toInt ≤ 15)) ∨ (p1.toInt = 4 ∧ (0 ≤ p2.toInt ∧ p2.toInt < iV_holders.toInt) ∧ (0 ≤ p3.toInt ∧ p3.toInt < iV_holders.toInt) ∧ p2.toInt ≠ p3.toInt)) from Or.inr (Or.inr (Or.inl ⟨by omega, ⟨by omega, by omega⟩, ⟨by omega, by omega⟩, by omega, by omega⟩)))⟩))⟩, by rw [ht]; exact hP, hD⟩, hS.F ht⟩) hS.2.2 dX7_isRule_108
      · have ts_1_2 : ¬ p1.toInt = 2 := toI_neq s_1_2 rfl (by decide)
        by_cases s_1_3 : p1 = 3
        · have ts_1_3 : p1.toInt = 3 := toI_eq s_1_3 rfl (by decide)
          refine lv_tableIn (off := 108) (tgt := 109) hx hb dX7_isRule_1 (by rw [s_1_3]; decide) (by rw [s_1_3]; decide) (by rw [s_1_3]; decide) (by decide) ?_
          refine lv_aload_n hx hb dX7_isRule_109 rfl (lv_at hl 0 rfl) ?_
          refine lv_iload_n hx hb dX7_isRule_110 rfl (lv_at hl 2 rfl) ?_
          have hFc := allFree hD hS hA
          refine va_calli (va_runV (As := [.int p2]) (rest := []) ⟨hx, hb, hml, hown, hts⟩ (m_X7_isSet l dC dI hV aV kV iV_holders iV_rules fV_pairs fV_domain fV_kind fV_a fV_b fV_c fV_rulePairs fV_lastHolder fV_now iV_doneFor iV_changed gV_fore gV_back fV_together fV_member gV_list dV_list nV_list iV_listed iV_listDone p2 (b_iV_holders) (b_iV_rules) b_fV_kind (b_iV_changed) b_fV_member (by first | exact b_nV_list | assumption | exact ⟨by omega, by omega⟩) (b_iV_listed) (b_iV_listDone) (by first | assumption | omega) (by first | assumption | omega) s.heap.size) (cwV 1 hts gwsMX7_isRule_0 rfl rfl rfl hd_yX7_isSet_RX7 (by decide +kernel)) (fz_pre (va_recv hK hP (ci := 7) (q0 := 0) rfl rfl) hP hK hD) rfl rfl hl.1 rfl (lv_room (Nat.le_of_ble_eq_true rfl)) dX7_isRule_111 (by decide +kernel)) hS (fun q _ h => hFc q h) hFc (fun r8 u t9_ H locs ht hvm hw9 hB9 hz1 hk1 hS => ?_)
          obtain ⟨b_r8, f8_0⟩ := hw9
          have hP : va_P (dC, dI) vwCl (WV hV aV kV iV_holders iV_rules fV_pairs fV_domain fV_kind fV_a fV_b fV_c fV_rulePairs fV_lastHolder fV_now iV_doneFor iV_changed gV_fore gV_back fV_together fV_member gV_list dV_list nV_list iV_listed iV_listDone) H := fz_P ht hB9.1
          have hD : va_D A (WV hV aV kV iV_holders iV_rules fV_pairs fV_domain fV_kind fV_a fV_b fV_c fV_rulePairs fV_lastHolder fV_now iV_doneFor iV_changed gV_fore gV_back fV_together fV_member gV_list dV_list nV_list iV_listed iV_listDone) := hB9.2.weaken (fun _ q _ h => hFc q.1 h)
          have hsA := f8_0
          refine lv_if_eq (tgt := 143) hx hb dX7_isRule_114 (by decide) (fun c_114 => ?_) (fun c_114 => ?_)
          · have t_114 : r8.toInt = 0 := toI_eq c_114 rfl (by decide : (0 : Int32).toInt = 0)
            refine lv_iconst (v := 0) hx hb dX7_isRule_143 (by decide) ?_
            refine W.widen (k := 0) (n := 0) (by decide +kernel) (by decide +kernel) ?_
            exact W.zret (v := 0) hx hb hr rfl (fun t9_ ht hW => ⟨⟨(0 : Int32), (), rfl, ⟨(show 0 ≤ (0 : Int32).toInt ∧ (0 : Int32).toInt ≤ 1 from by decide), (by (try dsimp only); intro h9; first | exact absurd (by decide) h9 | refine ⟨⟨by omega, by omega⟩, fun h8 => ?_, fun h8 => ?_⟩ <;> first | omega | (refine ⟨⟨?_, ?_⟩, ?_, ?_⟩ <;> omega)), (by (try dsimp only); exact (Or.inr ⟨by decide, fun h9 => by have h8 : ((p1.toInt = 0 ∧ (0 < p2.toInt ∧ p2.toInt < ((1 : Int32) <<< (iV_holders &&& 31)).toInt)) ∨ (p1.toInt = 1 ∧ (0 ≤ p2.toInt ∧ p2.toInt < iV_holders.toInt) ∧ (0 ≤ p4.toInt ∧ p4.toInt < iV_holders.toInt) ∧ (-15 ≤ p3.toInt ∧ p3.toInt ≤ 15)) ∨ (p1.toInt = 2 ∧ (0 < p2.toInt ∧ p2.toInt < ((1 : Int32) <<< (iV_holders &&& 31)).toInt) ∧ (-200 ≤ p3.toInt ∧ p3.toInt ≤ 200) ∧ (-200 ≤ p4.toInt ∧ p4.toInt ≤ 200)) ∨ (p1.toInt = 3 ∧ (0 < p2.toInt ∧ p2.toInt < ((1 : Int32) <<< (iV_holders &&& 31)).toInt) ∧ (-200 ≤ p3.toInt ∧ p3.toInt ≤ 200) ∧ (0 ≤ p4.toInt ∧ p4.toInt ≤ 15)) ∨ (p1.toInt = 4 ∧ (0 ≤ p2.toInt ∧ p2.toInt < iV_holders.toInt) ∧ (0 ≤ p3.toInt ∧ p3.toInt < iV_holders.toInt) ∧ p2.toInt ≠ p3.toInt)) := h9; rcases h8 with h8 | h8 | h8 | h8 | h8 <;> omega⟩))⟩, by rw [ht]; exact hP, hD⟩, hS.F ht⟩) hS.2.2 dX7_isRule_144
          · have t_114 : ¬ r8.toInt = 0 := toI_neq c_114 rfl (by decide : (0 : Int32).toInt = 0)
            refine lv_iload_n hx hb dX7_isRule_117 rfl (lv_at hl 3 rfl) ?_
            refine lv_sipush (v := 200) hx hb dX7_isRule_118 (by decide) ?_
            have hFc := noneFree hS hA
            refine va_calli (va_runS (As := [.int p3, .int 200]) (rest := []) ⟨hx, hb, hml, hown, hts⟩ (m_X7_isWithin l dC dI p3 200 (show 0 ≤ (200 : Int32).toInt ∧ (200 : Int32).toInt ≤ 1000 from by decide) H.size) (va_cwS 2 hts gwsMX7_isRule_2 rfl rfl rfl (by decide +kernel) ⟨by decide +kernel, by decide +kernel⟩) ⟨fun a U g mk q => by obtain ⟨q0, q1, qP, qK, qD⟩ := q; exact ⟨q0, q1, qP, va_K.moved (u := U) (U := U.calling g mk a) (Vm.Alike.refl U.vm) qK, qD⟩, fun U hU9 hW => ⟨rfl, by rw [hU9], by rw [hU9]; exact nilP, va_K.moved hW.alike (hK.sub (tys' := []) [] rfl), nilD⟩⟩ rfl rfl hl.1 rfl (lv_room (Nat.le_of_ble_eq_true rfl)) dX7_isRule_121 (by decide +kernel)) hS (fun q _ h => hFc q h) hFc (fun r9 u t9_ H1 locs ht hvm hw9 hB9 hz1 hk1 hS => ?_)
            obtain ⟨b_r9, f9_0⟩ := hw9
            clear hB9
            have hP := keepAll hP hk1
            generalize H1 = H at hP hS ⊢
            have hP : va_P (dC, dI) vwCl (WV hV aV kV iV_holders iV_rules fV_pairs fV_domain fV_kind fV_a fV_b fV_c fV_rulePairs fV_lastHolder fV_now iV_doneFor iV_changed gV_fore gV_back fV_together fV_member gV_list dV_list nV_list iV_listed iV_listDone) H := hP
            have hD : va_D A (WV hV aV kV iV_holders iV_rules fV_pairs fV_domain fV_kind fV_a fV_b fV_c fV_rulePairs fV_lastHolder fV_now iV_doneFor iV_changed gV_fore gV_back fV_together fV_member gV_list dV_list nV_list iV_listed iV_listDone) := hD
            have hwB := f9_0
            refine lv_if_eq (tgt := 143) hx hb dX7_isRule_124 (by decide) (fun c_124 => ?_) (fun c_124 => ?_)
            · have t_124 : r9.toInt = 0 := toI_eq c_124 rfl (by decide : (0 : Int32).toInt = 0)
              refine lv_iconst (v := 0) hx hb dX7_isRule_143 (by decide) ?_
              refine W.widen (k := 0) (n := 0) (by decide +kernel) (by decide +kernel) ?_
              exact W.zret (v := 0) hx hb hr rfl (fun t9_ ht hW => ⟨⟨(0 : Int32), (), rfl, ⟨(show 0 ≤ (0 : Int32).toInt ∧ (0 : Int32).toInt ≤ 1 from by decide), (by (try dsimp only); intro h9; first | exact absurd (by decide) h9 | refine ⟨⟨by omega, by omega⟩, fun h8 => ?_, fun h8 => ?_⟩ <;> first | omega | (refine ⟨⟨?_, ?_⟩, ?_, ?_⟩ <;> omega)), (by (try dsimp only); exact (Or.inr ⟨by decide, fun h9 => by have h8 : ((p1.toInt = 0 ∧ (0 < p2.toInt ∧ p2.toInt < ((1 : Int32) <<< (iV_holders &&& 31)).toInt)) ∨ (p1.toInt = 1 ∧ (0 ≤ p2.toInt ∧ p2.toInt < iV_holders.toInt) ∧ (0 ≤ p4.toInt ∧ p4.toInt < iV_holders.toInt) ∧ (-15 ≤ p3.toInt ∧ p3.toInt ≤ 15)) ∨ (p1.toInt = 2 ∧ (0 < p2.toInt ∧ p2.toInt < ((1 : Int32) <<< (iV_holders &&& 31)).toInt) ∧ (-200 ≤ p3.toInt ∧ p3.toInt ≤ 200) ∧ (-200 ≤ p4.toInt ∧ p4.toInt ≤ 200)) ∨ (p1.toInt = 3 ∧ (0 < p2.toInt ∧ p2.toInt < ((1 : Int32) <<< (iV_holders &&& 31)).toInt) ∧ (-200 ≤ p3.toInt ∧ p3.toInt ≤ 200) ∧ (0 ≤ p4.toInt ∧ p4.toInt ≤ 15)) ∨ (p1.toInt = 4 ∧ (0 ≤ p2.toInt ∧ p2.toInt < iV_holders.toInt) ∧ (0 ≤ p3.toInt ∧ p3.toInt < iV_holders.toInt) ∧ p2.toInt ≠ p3.toInt)) := h9; rcases h8 with h8 | h8 | h8 | h8 | h8 <;> omega⟩))⟩, by rw [ht]; exact hP, hD⟩, hS.F ht⟩) hS.2.2 dX7_isRule_144
            · have t_124 : ¬ r9.toInt = 0 := toI_neq c_124 rfl (by decide : (0 : Int32).toInt = 0)
              refine lv_iload hx hb dX7_isRule_127 (lv_at hl 4 rfl) ?_
              refine lv_if_lt (tgt := 143) hx hb dX7_isRule_129 (by decide) (fun c_129 => ?_) (fun c_129 => ?_)
              · have t_129 : p4.toInt < 0 := toI_lt c_129 rfl (by decide : (0 : Int32).toInt = 0)
                refine lv_iconst (v := 0) hx hb dX7_isRule_143 (by decide) ?_
                refine W.widen (k := 0) (n := 0) (by decide +kernel) (by decide +kernel) ?_
                exact W.zret (v := 0) hx hb hr rfl (fun t9_ ht hW => ⟨⟨(0 : Int32), (), rfl, ⟨(show 0 ≤ (0 : Int32).toInt ∧ (0 : Int32).toInt ≤ 1 from by decide), (by (try dsimp only); intro h9; first | exact absurd (by decide) h9 | refine ⟨⟨by omega, by omega⟩, fun h8 => ?_, fun h8 => ?_⟩ <;> first | omega | (refine ⟨⟨?_, ?_⟩, ?_, ?_⟩ <;> omega)), (by (try dsimp only); exact (Or.inr ⟨by decide, fun h9 => by have h8 : ((p1.toInt = 0 ∧ (0 < p2.toInt ∧ p2.toInt < ((1 : Int32) <<< (iV_holders &&& 31)).toInt)) ∨ (p1.toInt = 1 ∧ (0 ≤ p2.toInt ∧ p2.toInt < iV_holders.toInt) ∧ (0 ≤ p4.toInt ∧ p4.toInt < iV_holders.toInt) ∧ (-15 ≤ p3.toInt ∧ p3.toInt ≤ 15)) ∨ (p1.toInt = 2 ∧ (0 < p2.toInt ∧ p2.toInt < ((1 : Int32) <<< (iV_holders &&& 31)).toInt) ∧ (-200 ≤ p3.toInt ∧ p3.toInt ≤ 200) ∧ (-200 ≤ p4.toInt ∧ p4.toInt ≤ 200)) ∨ (p1.toInt = 3 ∧ (0 < p2.toInt ∧ p2.toInt < ((1 : Int32) <<< (iV_holders &&& 31)).toInt) ∧ (-200 ≤ p3.toInt ∧ p3.toInt ≤ 200) ∧ (0 ≤ p4.toInt ∧ p4.toInt ≤ 15)) ∨ (p1.toInt = 4 ∧ (0 ≤ p2.toInt ∧ p2.toInt < iV_holders.toInt) ∧ (0 ≤ p3.toInt ∧ p3.toInt < iV_holders.toInt) ∧ p2.toInt ≠ p3.toInt)) := h9; rcases h8 with h8 | h8 | h8 | h8 | h8 <;> omega⟩))⟩, by rw [ht]; exact hP, hD⟩, hS.F ht⟩) hS.2.2 dX7_isRule_144
              · have t_129 : ¬ p4.toInt < 0 := toI_nlt c_129 rfl (by decide : (0 : Int32).toInt = 0)
                refine lv_iload hx hb dX7_isRule_132 (lv_at hl 4 rfl) ?_
                refine lv_bipush (v := 16) hx hb dX7_isRule_134 (by decide) ?_
                refine lv_icmp_ge (tgt := 143) hx hb dX7_isRule_136 (by decide) (fun c_136 => ?_) (fun c_136 => ?_)
                · have t_136 : p4.toInt ≥ 16 := toI_ge c_136 rfl (by decide : (16 : Int32).toInt = 16)
                  refine lv_iconst (v := 0) hx hb dX7_isRule_143 (by decide) ?_
                  refine W.widen (k := 0) (n := 0) (by decide +kernel) (by decide +kernel) ?_
                  exact W.zret (v := 0) hx hb hr rfl (fun t9_ ht hW => ⟨⟨(0 : Int32), (), rfl, ⟨(show 0 ≤ (0 : Int32).toInt ∧ (0 : Int32).toInt ≤ 1 from by decide), (by (try dsimp only); intro h9; first | exact absurd (by decide) h9 | refine ⟨⟨by omega, by omega⟩, fun h8 => ?_, fun h8 => ?_⟩ <;> first | omega | (refine ⟨⟨?_, ?_⟩, ?_, ?_⟩ <;> omega)), (by (try dsimp only); exact (Or.inr ⟨by decide, fun h9 => by have h8 : ((p1.toInt = 0 ∧ (0 < p2.toInt ∧ p2.toInt < ((1 : Int32) <<< (iV_holders &&& 31)).toInt)) ∨ (p1.toInt = 1 ∧ (0 ≤ p2.toInt ∧ p2.toInt < iV_holders.toInt) ∧ (0 ≤ p4.toInt ∧ p4.toInt < iV_holders.toInt) ∧ (-15 ≤ p3.toInt ∧ p3.toInt ≤ 15)) ∨ (p1.toInt = 2 ∧ (0 < p2.toInt ∧ p2.toInt < ((1 : Int32) <<< (iV_holders &&& 31)).toInt) ∧ (-200 ≤ p3.toInt ∧ p3.toInt ≤ 200) ∧ (-200 ≤ p4.toInt ∧ p4.toInt ≤ 200)) ∨ (p1.toInt = 3 ∧ (0 < p2.toInt ∧ p2.toInt < ((1 : Int32) <<< (iV_holders &&& 31)).toInt) ∧ (-200 ≤ p3.toInt ∧ p3.toInt ≤ 200) ∧ (0 ≤ p4.toInt ∧ p4.toInt ≤ 15)) ∨ (p1.toInt = 4 ∧ (0 ≤ p2.toInt ∧ p2.toInt < iV_holders.toInt) ∧ (0 ≤ p3.toInt ∧ p3.toInt < iV_holders.toInt) ∧ p2.toInt ≠ p3.toInt)) := h9; rcases h8 with h8 | h8 | h8 | h8 | h8 <;> omega⟩))⟩, by rw [ht]; exact hP, hD⟩, hS.F ht⟩) hS.2.2 dX7_isRule_144
                · have t_136 : ¬ p4.toInt ≥ 16 := toI_nge c_136 rfl (by decide : (16 : Int32).toInt = 16)
                  refine lv_iconst (v := 1) hx hb dX7_isRule_139 (by decide) ?_
                  refine lv_goto (tgt := 144) hx hb dX7_isRule_140 (by decide) ?_
                  refine W.widen (k := 0) (n := 0) (by decide +kernel) (by decide +kernel) ?_
                  exact W.zret (v := 1) hx hb hr rfl (fun t9_ ht hW => ⟨⟨(1 : Int32), (), rfl, ⟨(show 0 ≤ (1 : Int32).toInt ∧ (1 : Int32).toInt ≤ 1 from by decide), (by (try dsimp only); intro h9; first | exact absurd (by decide) h9 | refine ⟨⟨by omega, by omega⟩, fun h8 => ?_, fun h8 => ?_⟩ <;> first | omega | (refine ⟨⟨?_, ?_⟩, ?_, ?_⟩ <;> omega)), (by (try dsimp only); exact (Or.inl ⟨by decide, (show ((p1.toInt = 0 ∧ (0 < p2.toInt ∧ p2.toInt < ((1 : Int32) <<< (iV_holders &&& 31)).toInt)) ∨ (p1.toInt = 1 ∧ (0 ≤ p2.toInt ∧ p2.toInt < iV_holders.toInt) ∧ (0 ≤ p4.toInt ∧ p4.toInt < iV_holders.toInt) ∧ (-15 ≤ p3.toInt ∧ p3.toInt ≤ 15)) ∨ (p1.toInt = 2 ∧ (0 < p2.toInt ∧ p2.toInt < ((1 : Int32) <<< (iV_holders &&& 31)).toInt) ∧ (-200 ≤ p3.toInt ∧ p3.toInt ≤ 200) ∧ (-200 ≤ p4.toInt ∧ p4.toInt ≤ 200)) ∨ (p1.toInt = 3 ∧ (0 < p2.toInt ∧ p2.toInt < ((1 : Int32) <<< (iV_holders &&& 31)).toInt) ∧ (-200 ≤ p3.toInt ∧ p3.toInt ≤ 200) ∧ (0 ≤ p4.toInt ∧ p4.toInt ≤ 15)) ∨ (p1.toInt = 4 ∧ (0 ≤ p2.toInt ∧ p2.toInt < iV_holders.toInt) ∧ (0 ≤ p3.toInt ∧ p3.toInt < iV_holders.toInt) ∧ p2.toInt ≠ p3.toInt)) from Or.inr (Or.inr (Or.inr (Or.inl ⟨by omega, ⟨by omega, by omega⟩, ⟨by omega, by omega⟩, by omega, by omega⟩))))⟩))⟩, by rw [ht]; exact hP, hD⟩, hS.F ht⟩) hS.2.2 dX7_isRule_144
        · have ts_1_3 : ¬ p1.toInt = 3 := toI_neq s_1_3 rfl (by decide)
          by_cases s_1_4 : p1 = 4
          · have ts_1_4 : p1.toInt = 4 := toI_eq s_1_4 rfl (by decide)
            refine lv_tableIn (off := 144) (tgt := 145) hx hb dX7_isRule_1 (by rw [s_1_4]; decide) (by rw [s_1_4]; decide) (by rw [s_1_4]; decide) (by decide) ?_
            refine lv_aload_n hx hb dX7_isRule_145 rfl (lv_at hl 0 rfl) ?_
            refine lv_iload_n hx hb dX7_isRule_146 rfl (lv_at hl 2 rfl) ?_
            have hFc := allFree hD hS hA
            refine va_calli (va_runV (As := [.int p2]) (rest := []) ⟨hx, hb, hml, hown, hts⟩ (m_X7_isHolder l dC dI hV aV kV iV_holders iV_rules fV_pairs fV_domain fV_kind fV_a fV_b fV_c fV_rulePairs fV_lastHolder fV_now iV_doneFor iV_changed gV_fore gV_back fV_together fV_member gV_list dV_list nV_list iV_listed iV_listDone p2 (b_iV_holders) (b_iV_rules) b_fV_kind (b_iV_changed) b_fV_member (by first | exact b_nV_list | assumption | exact ⟨by omega, by omega⟩) (b_iV_listed) (b_iV_listDone) (by first | assumption | omega) (by first | assumption | omega) s.heap.size) (cwV 1 hts gwsMX7_isRule_1 rfl rfl rfl hd_yX7_isHolder_RX7 (by decide +kernel)) (fz_pre (va_recv hK hP (ci := 7) (q0 := 0) rfl rfl) hP hK hD) rfl rfl hl.1 rfl (lv_room (Nat.le_of_ble_eq_true rfl)) dX7_isRule_147 (by decide +kernel)) hS (fun q _ h => hFc q h) hFc (fun r10 u t9_ H locs ht hvm hw9 hB9 hz1 hk1 hS => ?_)
            obtain ⟨b_r10, f10_0, f10_1⟩ := hw9
            have hP : va_P (dC, dI) vwCl (WV hV aV kV iV_holders iV_rules fV_pairs fV_domain fV_kind fV_a fV_b fV_c fV_rulePairs fV_lastHolder fV_now iV_doneFor iV_changed gV_fore gV_back fV_together fV_member gV_list dV_list nV_list iV_listed iV_listDone) H := fz_P ht hB9.1
            have hD : va_D A (WV hV aV kV iV_holders iV_rules fV_pairs fV_domain fV_kind fV_a fV_b fV_c fV_rulePairs fV_lastHolder fV_now iV_doneFor iV_changed gV_fore gV_back fV_together fV_member gV_list dV_list nV_list iV_listed iV_listDone) := hB9.2.weaken (fun _ q _ h => hFc q.1 h)
            have hhA := f10_1
            refine lv_if_eq (tgt := 170) hx hb dX7_isRule_150 (by decide) (fun c_150 => ?_) (fun c_150 => ?_)
            · have t_150 : r10.toInt = 0 := toI_eq c_150 rfl (by decide : (0 : Int32).toInt = 0)
              refine lv_iconst (v := 0) hx hb dX7_isRule_170 (by decide) ?_
              refine W.widen (k := 0) (n := 0) (by decide +kernel) (by decide +kernel) ?_
              exact W.zret (v := 0) hx hb hr rfl (fun t9_ ht hW => ⟨⟨(0 : Int32), (), rfl, ⟨(show 0 ≤ (0 : Int32).toInt ∧ (0 : Int32).toInt ≤ 1 from by decide), (by (try dsimp only); intro h9; first | exact absurd (by decide) h9 | refine ⟨⟨by omega, by omega⟩, fun h8 => ?_, fun h8 => ?_⟩ <;> first | omega | (refine ⟨⟨?_, ?_⟩, ?_, ?_⟩ <;> omega)), (by (try dsimp only); exact (Or.inr ⟨by decide, fun h9 => by have h8 : ((p1.toInt = 0 ∧ (0 < p2.toInt ∧ p2.toInt < ((1 : Int32) <<< (iV_holders &&& 31)).toInt)) ∨ (p1.toInt = 1 ∧ (0 ≤ p2.toInt ∧ p2.toInt < iV_holders.toInt) ∧ (0 ≤ p4.toInt ∧ p4.toInt < iV_holders.toInt) ∧ (-15 ≤ p3.toInt ∧ p3.toInt ≤ 15)) ∨ (p1.toInt = 2 ∧ (0 < p2.toInt ∧ p2.toInt < ((1 : Int32) <<< (iV_holders &&& 31)).toInt) ∧ (-200 ≤ p3.toInt ∧ p3.toInt ≤ 200) ∧ (-200 ≤ p4.toInt ∧ p4.toInt ≤ 200)) ∨ (p1.toInt = 3 ∧ (0 < p2.toInt ∧ p2.toInt < ((1 : Int32) <<< (iV_holders &&& 31)).toInt) ∧ (-200 ≤ p3.toInt ∧ p3.toInt ≤ 200) ∧ (0 ≤ p4.toInt ∧ p4.toInt ≤ 15)) ∨ (p1.toInt = 4 ∧ (0 ≤ p2.toInt ∧ p2.toInt < iV_holders.toInt) ∧ (0 ≤ p3.toInt ∧ p3.toInt < iV_holders.toInt) ∧ p2.toInt ≠ p3.toInt)) := h9; rcases h8 with h8 | h8 | h8 | h8 | h8 <;> omega⟩))⟩, by rw [ht]; exact hP, hD⟩, hS.F ht⟩) hS.2.2 dX7_isRule_171
            · have t_150 : ¬ r10.toInt = 0 := toI_neq c_150 rfl (by decide : (0 : Int32).toInt = 0)
              refine lv_aload_n hx hb dX7_isRule_153 rfl (lv_at hl 0 rfl) ?_
              refine lv_iload_n hx hb dX7_isRule_154 rfl (lv_at hl 3 rfl) ?_
              have hFc := allFree hD hS hA
              refine va_calli (va_runV (As := [.int p3]) (rest := []) ⟨hx, hb, hml, hown, hts⟩ (m_X7_isHolder l dC dI hV aV kV iV_holders iV_rules fV_pairs fV_domain fV_kind fV_a fV_b fV_c fV_rulePairs fV_lastHolder fV_now iV_doneFor iV_changed gV_fore gV_back fV_together fV_member gV_list dV_list nV_list iV_listed iV_listDone p3 (b_iV_holders) (b_iV_rules) b_fV_kind (b_iV_changed) b_fV_member (by first | exact b_nV_list | assumption | exact ⟨by omega, by omega⟩) (b_iV_listed) (b_iV_listDone) (by first | assumption | omega) (by first | assumption | omega) H.size) (cwV 1 hts gwsMX7_isRule_1 rfl rfl rfl hd_yX7_isHolder_RX7 (by decide +kernel)) (fz_pre (va_recv hK hP (ci := 7) (q0 := 0) rfl rfl) hP hK hD) rfl rfl hl.1 rfl (lv_room (Nat.le_of_ble_eq_true rfl)) dX7_isRule_155 (by decide +kernel)) hS (fun q _ h => hFc q h) hFc (fun r11 u t9_ H locs ht hvm hw9 hB9 hz1 hk1 hS => ?_)
              obtain ⟨b_r11, f11_0, f11_1⟩ := hw9
              have hP : va_P (dC, dI) vwCl (WV hV aV kV iV_holders iV_rules fV_pairs fV_domain fV_kind fV_a fV_b fV_c fV_rulePairs fV_lastHolder fV_now iV_doneFor iV_changed gV_fore gV_back fV_together fV_member gV_list dV_list nV_list iV_listed iV_listDone) H := fz_P ht hB9.1
              have hD : va_D A (WV hV aV kV iV_holders iV_rules fV_pairs fV_domain fV_kind fV_a fV_b fV_c fV_rulePairs fV_lastHolder fV_now iV_doneFor iV_changed gV_fore gV_back fV_together fV_member gV_list dV_list nV_list iV_listed iV_listDone) := hB9.2.weaken (fun _ q _ h => hFc q.1 h)
              have hhB := f11_1
              refine lv_if_eq (tgt := 170) hx hb dX7_isRule_158 (by decide) (fun c_158 => ?_) (fun c_158 => ?_)
              · have t_158 : r11.toInt = 0 := toI_eq c_158 rfl (by decide : (0 : Int32).toInt = 0)
                refine lv_iconst (v := 0) hx hb dX7_isRule_170 (by decide) ?_
                refine W.widen (k := 0) (n := 0) (by decide +kernel) (by decide +kernel) ?_
                exact W.zret (v := 0) hx hb hr rfl (fun t9_ ht hW => ⟨⟨(0 : Int32), (), rfl, ⟨(show 0 ≤ (0 : Int32).toInt ∧ (0 : Int32).toInt ≤ 1 from by decide), (by (try dsimp only); intro h9; first | exact absurd (by decide) h9 | refine ⟨⟨by omega, by omega⟩, fun h8 => ?_, fun h8 => ?_⟩ <;> first | omega | (refine ⟨⟨?_, ?_⟩, ?_, ?_⟩ <;> omega)), (by (try dsimp only); exact (Or.inr ⟨by decide, fun h9 => by have h8 : ((p1.toInt = 0 ∧ (0 < p2.toInt ∧ p2.toInt < ((1 : Int32) <<< (iV_holders &&& 31)).toInt)) ∨ (p1.toInt = 1 ∧ (0 ≤ p2.toInt ∧ p2.toInt < iV_holders.toInt) ∧ (0 ≤ p4.toInt ∧ p4.toInt < iV_holders.toInt) ∧ (-15 ≤ p3.toInt ∧ p3.toInt ≤ 15)) ∨ (p1.toInt = 2 ∧ (0 < p2.toInt ∧ p2.toInt < ((1 : Int32) <<< (iV_holders &&& 31)).toInt) ∧ (-200 ≤ p3.toInt ∧ p3.toInt ≤ 200) ∧ (-200 ≤ p4.toInt ∧ p4.toInt ≤ 200)) ∨ (p1.toInt = 3 ∧ (0 < p2.toInt ∧ p2.toInt < ((1 : Int32) <<< (iV_holders &&& 31)).toInt) ∧ (-200 ≤ p3.toInt ∧ p3.toInt ≤ 200) ∧ (0 ≤ p4.toInt ∧ p4.toInt ≤ 15)) ∨ (p1.toInt = 4 ∧ (0 ≤ p2.toInt ∧ p2.toInt < iV_holders.toInt) ∧ (0 ≤ p3.toInt ∧ p3.toInt < iV_holders.toInt) ∧ p2.toInt ≠ p3.toInt)) := h9; rcases h8 with h8 | h8 | h8 | h8 | h8 <;> omega⟩))⟩, by rw [ht]; exact hP, hD⟩, hS.F ht⟩) hS.2.2 dX7_isRule_171
              · have t_158 : ¬ r11.toInt = 0 := toI_neq c_158 rfl (by decide : (0 : Int32).toInt = 0)
                refine lv_iload_n hx hb dX7_isRule_161 rfl (lv_at hl 2 rfl) ?_
                refine lv_iload_n hx hb dX7_isRule_162 rfl (lv_at hl 3 rfl) ?_
                refine lv_icmp_eq (tgt := 170) hx hb dX7_isRule_163 (by decide) (fun c_163 => ?_) (fun c_163 => ?_)
                · have t_163 : p2.toInt = p3.toInt := toI_eq c_163 rfl rfl
                  refine lv_iconst (v := 0) hx hb dX7_isRule_170 (by decide) ?_
                  refine W.widen (k := 0) (n := 0) (by decide +kernel) (by decide +kernel) ?_
                  exact W.zret (v := 0) hx hb hr rfl (fun t9_ ht hW => ⟨⟨(0 : Int32), (), rfl, ⟨(show 0 ≤ (0 : Int32).toInt ∧ (0 : Int32).toInt ≤ 1 from by decide), (by (try dsimp only); intro h9; first | exact absurd (by decide) h9 | refine ⟨⟨by omega, by omega⟩, fun h8 => ?_, fun h8 => ?_⟩ <;> first | omega | (refine ⟨⟨?_, ?_⟩, ?_, ?_⟩ <;> omega)), (by (try dsimp only); exact (Or.inr ⟨by decide, fun h9 => by have h8 : ((p1.toInt = 0 ∧ (0 < p2.toInt ∧ p2.toInt < ((1 : Int32) <<< (iV_holders &&& 31)).toInt)) ∨ (p1.toInt = 1 ∧ (0 ≤ p2.toInt ∧ p2.toInt < iV_holders.toInt) ∧ (0 ≤ p4.toInt ∧ p4.toInt < iV_holders.toInt) ∧ (-15 ≤ p3.toInt ∧ p3.toInt ≤ 15)) ∨ (p1.toInt = 2 ∧ (0 < p2.toInt ∧ p2.toInt < ((1 : Int32) <<< (iV_holders &&& 31)).toInt) ∧ (-200 ≤ p3.toInt ∧ p3.toInt ≤ 200) ∧ (-200 ≤ p4.toInt ∧ p4.toInt ≤ 200)) ∨ (p1.toInt = 3 ∧ (0 < p2.toInt ∧ p2.toInt < ((1 : Int32) <<< (iV_holders &&& 31)).toInt) ∧ (-200 ≤ p3.toInt ∧ p3.toInt ≤ 200) ∧ (0 ≤ p4.toInt ∧ p4.toInt ≤ 15)) ∨ (p1.toInt = 4 ∧ (0 ≤ p2.toInt ∧ p2.toInt < iV_holders.toInt) ∧ (0 ≤ p3.toInt ∧ p3.toInt < iV_holders.toInt) ∧ p2.toInt ≠ p3.toInt)) := h9; rcases h8 with h8 | h8 | h8 | h8 | h8 <;> omega⟩))⟩, by rw [ht]; exact hP, hD⟩, hS.F ht⟩) hS.2.2 dX7_isRule_171
                · have t_163 : ¬ p2.toInt = p3.toInt := toI_neq c_163 rfl rfl
                  refine lv_iconst (v := 1) hx hb dX7_isRule_166 (by decide) ?_
                  refine lv_goto (tgt := 171) hx hb dX7_isRule_167 (by decide) ?_
                  refine W.widen (k := 0) (n := 0) (by decide +kernel) (by decide +kernel) ?_
                  exact W.zret (v := 1) hx hb hr rfl (fun t9_ ht hW => ⟨⟨(1 : Int32), (), rfl, ⟨(show 0 ≤ (1 : Int32).toInt ∧ (1 : Int32).toInt ≤ 1 from by decide), (by (try dsimp only); intro h9; first | exact absurd (by decide) h9 | refine ⟨⟨by omega, by omega⟩, fun h8 => ?_, fun h8 => ?_⟩ <;> first | omega | (refine ⟨⟨?_, ?_⟩, ?_, ?_⟩ <;> omega)), (by (try dsimp only); exact (Or.inl ⟨by decide, (show ((p1.toInt = 0 ∧ (0 < p2.toInt ∧ p2.toInt < ((1 : Int32) <<< (iV_holders &&& 31)).toInt)) ∨ (p1.toInt = 1 ∧ (0 ≤ p2.toInt ∧ p2.toInt < iV_holders.toInt) ∧ (0 ≤ p4.toInt ∧ p4.toInt < iV_holders.toInt) ∧ (-15 ≤ p3.toInt ∧ p3.toInt ≤ 15)) ∨ (p1.toInt = 2 ∧ (0 < p2.toInt ∧ p2.toInt < ((1 : Int32) <<< (iV_holders &&& 31)).toInt) ∧ (-200 ≤ p3.toInt ∧ p3.toInt ≤ 200) ∧ (-200 ≤ p4.toInt ∧ p4.toInt ≤ 200)) ∨ (p1.toInt = 3 ∧ (0 < p2.toInt ∧ p2.toInt < ((1 : Int32) <<< (iV_holders &&& 31)).toInt) ∧ (-200 ≤ p3.toInt ∧ p3.toInt ≤ 200) ∧ (0 ≤ p4.toInt ∧ p4.toInt ≤ 15)) ∨ (p1.toInt = 4 ∧ (0 ≤ p2.toInt ∧ p2.toInt < iV_holders.toInt) ∧ (0 ≤ p3.toInt ∧ p3.toInt < iV_holders.toInt) ∧ p2.toInt ≠ p3.toInt)) from Or.inr (Or.inr (Or.inr (Or.inr ⟨by omega, ⟨by omega, by omega⟩, ⟨by omega, by omega⟩, by omega⟩))))⟩))⟩, by rw [ht]; exact hP, hD⟩, hS.F ht⟩) hS.2.2 dX7_isRule_171
          · have ts_1_4 : ¬ p1.toInt = 4 := toI_neq s_1_4 rfl (by decide)
            refine lv_tableOut (tgt := 172) hx hb dX7_isRule_1 (by have := lv_neT s_1_0 (show Int32.toInt 0 = 0 by decide); have := lv_neT s_1_1 (show Int32.toInt 1 = 1 by decide); have := lv_neT s_1_2 (show Int32.toInt 2 = 2 by decide); have := lv_neT s_1_3 (show Int32.toInt 3 = 3 by decide); have := lv_neT s_1_4 (show Int32.toInt 4 = 4 by decide); omega) (by decide) ?_
            refine lv_iconst (v := 0) hx hb dX7_isRule_172 (by decide) ?_
            refine W.widen (k := 0) (n := 0) (by decide +kernel) (by decide +kernel) ?_
            exact W.zret (v := 0) hx hb hr rfl (fun t9_ ht hW => ⟨⟨(0 : Int32), (), rfl, ⟨(show 0 ≤ (0 : Int32).toInt ∧ (0 : Int32).toInt ≤ 1 from by decide), (by (try dsimp only); intro h9; first | exact absurd (by decide) h9 | refine ⟨⟨by omega, by omega⟩, fun h8 => ?_, fun h8 => ?_⟩ <;> first | omega | (refine ⟨⟨?_, ?_⟩, ?_, ?_⟩ <;> omega)), (by (try dsimp only); exact (Or.inr ⟨by decide, fun h9 => by have h8 : ((p1.toInt = 0 ∧ (0 < p2.toInt ∧ p2.toInt < ((1 : Int32) <<< (iV_holders &&& 31)).toInt)) ∨ (p1.toInt = 1 ∧ (0 ≤ p2.toInt ∧ p2.toInt < iV_holders.toInt) ∧ (0 ≤ p4.toInt ∧ p4.toInt < iV_holders.toInt) ∧ (-15 ≤ p3.toInt ∧ p3.toInt ≤ 15)) ∨ (p1.toInt = 2 ∧ (0 < p2.toInt ∧ p2.toInt < ((1 : Int32) <<< (iV_holders &&& 31)).toInt) ∧ (-200 ≤ p3.toInt ∧ p3.toInt ≤ 200) ∧ (-200 ≤ p4.toInt ∧ p4.toInt ≤ 200)) ∨ (p1.toInt = 3 ∧ (0 < p2.toInt ∧ p2.toInt < ((1 : Int32) <<< (iV_holders &&& 31)).toInt) ∧ (-200 ≤ p3.toInt ∧ p3.toInt ≤ 200) ∧ (0 ≤ p4.toInt ∧ p4.toInt ≤ 15)) ∨ (p1.toInt = 4 ∧ (0 ≤ p2.toInt ∧ p2.toInt < iV_holders.toInt) ∧ (0 ≤ p3.toInt ∧ p3.toInt < iV_holders.toInt) ∧ p2.toInt ≠ p3.toInt)) := h9; rcases h8 with h8 | h8 | h8 | h8 | h8 <;> omega⟩))⟩, by rw [ht]; exact hP, hD⟩, hS.F ht⟩) hS.2.2 dX7_isRule_173

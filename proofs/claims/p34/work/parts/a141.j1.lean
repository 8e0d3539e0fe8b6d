theorem hd_yJ0_coder_7d493_RJ0 : yJ0_coder_7d493.cls = RJ0 ∧ yJ0_coder_7d493.cls ≠ "java/lang/invoke/MethodHandle" ∧ yJ0_coder_7d493.cls ≠ "java/lang/invoke/VarHandle" ∧ (parseMethodDescriptor yJ0_coder_7d493.desc).map (fun d => d.parameters.length) = some 0 := by decide +kernel
theorem hd_yJ0_length_8abf5_RJ0 : yJ0_length_8abf5.cls = RJ0 ∧ yJ0_length_8abf5.cls ≠ "java/lang/invoke/MethodHandle" ∧ yJ0_length_8abf5.cls ≠ "java/lang/invoke/VarHandle" ∧ (parseMethodDescriptor yJ0_length_8abf5.desc).map (fun d => d.parameters.length) = some 0 := by decide +kernel
theorem hd_yJ0_indexOf_7cf53_RJ0 : yJ0_indexOf_7cf53.cls = RJ0 ∧ yJ0_indexOf_7cf53.cls ≠ "java/lang/invoke/MethodHandle" ∧ yJ0_indexOf_7cf53.cls ≠ "java/lang/invoke/VarHandle" ∧ (parseMethodDescriptor yJ0_indexOf_7cf53.desc).map (fun d => d.parameters.length) = some 2 := by decide +kernel
theorem dJ0_coder_7d493_0 : decode cJ0_coder_7d493 0 = .ok (.getstatic 38, 3) := dk_178 (by decide +kernel)
theorem dJ0_coder_7d493_3 : decode cJ0_coder_7d493 3 = .ok (.ifCond .eq 10, 3) := dk_153 (by decide +kernel)
theorem dJ0_coder_7d493_6 : decode cJ0_coder_7d493 6 = .ok (.aload_n 0, 1) := dk_42 (by decide +kernel)
theorem dJ0_coder_7d493_7 : decode cJ0_coder_7d493 7 = .ok (.getfield 15, 3) := dk_180 (by decide +kernel)
theorem dJ0_coder_7d493_10 : decode cJ0_coder_7d493 10 = .ok (.goto 4, 3) := dk_167 (by decide +kernel)
theorem dJ0_coder_7d493_14 : decode cJ0_coder_7d493 14 = .ok (.ireturn, 1) := dk_172 (by decide +kernel)
def wsMJ0_coder_7d493 : List Cond := .code yJ0_coder_7d493 cJ0_coder_7d493 1 (some .byte) :: ([.fieldLink RJ0 38 "java/lang/String" "COMPACT_STRINGS" "Z", .fieldLink RJ0 15 "java/lang/String" "coder" "B"])
theorem gdwsMJ0_coder_7d493 : wsMJ0_coder_7d493.all goodWord = true := gdC rfl (by decide +kernel : ([.fieldLink RJ0 38 "java/lang/String" "COMPACT_STRINGS" "Z", .fieldLink RJ0 15 "java/lang/String" "coder" "B"] : List Cond).all goodWord = true)
set_option maxHeartbeats 4000000 in
set_option maxRecDepth 100000 in
/-- String.coder -/
theorem m_J0_coder_7d493 (l : Launch) (dC : Nat → ClassId) (dI : Nat → Nat → Nat) (qS : Nat) (nn : Nat) (fB : Nat → Int32) (sz : Nat) : Met l yJ0_coder_7d493 wsMJ0_coder_7d493 ({ frames := 0, cells := 0, slots := 0, locals := 0 }) (va_Pc [.ref qS] (fun U => U.heap.size = sz ∧ va_P (dC, dI) vwCl [] U.heap ∧ va_K (dC, dI) vwCl [] U ∧ va_D (fun _ => True) [] ∧ (StrE qS nn fB) (va_A [] sz) U U.heap)) (va_Qi (fun (r : Int32) (u : Unit) => (0 ≤ r.toInt ∧ r.toInt ≤ 0)) (fun (u : Unit) t => True) (va_A [] sz)) 0 0 (va_A [] sz) := by
  refine Met.ofW (cc := cJ0_coder_7d493) (maxL := 1) (ret := (some .byte)) (by decide) rfl ?_
  intro p e s m args below meth c s₁ B hml hv
  obtain ⟨rfl, hsz, hP, hK, hD0, hE⟩ := hv
  have hx := B.exec
  have hb := B.bytes
  have hr := B.returns
  have hts := atoms_spec (ws := wsMJ0_coder_7d493) B.pre
  have hown : s.vm.findClass RJ0 = some m.cls := findClass_of_methodNamed B.named
  have hlocks := B.notSynchronized
  subst hsz
  have hD := hD0.self (sz := s.heap.size)
  generalize hAe : va_A [] s.heap.size = A at hD hE ⊢
  have hA : ∀ q : Nat, s.heap.size ≤ q → A q := fun q h => by rw [← hAe]; exact Or.inr h
  have hS : va_S A s.heap s.heap [] := va_S.rf
  have hl := lv_entry ([.ref qS]) (n := 1) (Nat.le_of_ble_eq_true rfl)
  rw [lg_entry_eq]
  generalize (lg_sl ([.ref qS]) ++ List.replicate (1 - (lg_sl ([.ref qS])).length) Slot.unset).toArray = ls at hl ⊢
  have hl : lv_has ls 1 [(0, .ref qS)] := hl
  refine va_gets hx hb hE.1.1 hS hown (hts (.fieldLink RJ0 38 "java/lang/String" "COMPACT_STRINGS" "Z") (by decide +kernel)) (fun _ h9 => h9) dJ0_coder_7d493_0 ?_
  refine lv_if_eq (tgt := 13) hx hb dJ0_coder_7d493_3 (by decide) (fun c9 => absurd c9 (by decide)) (fun _ => ?_)
  refine lv_aload_n hx hb dJ0_coder_7d493_6 rfl (lv_at hl 0 rfl) ?_
  refine vk_getf hx hb hE.2.2.1 hS hown (hts (.fieldLink RJ0 15 "java/lang/String" "coder" "B") (by decide +kernel)) (fun _ h9 => h9) dJ0_coder_7d493_7 ?_
  refine lv_goto (tgt := 14) hx hb dJ0_coder_7d493_10 (by decide) ?_
  refine W.widen (k := 0) (n := 0) (by decide +kernel) (by decide +kernel) ?_
  exact W.zret (v := 0) hx hb hr rfl (fun t9_ ht hW => ⟨⟨(0 : Int32), (), rfl, (show 0 ≤ (0 : Int32).toInt ∧ (0 : Int32).toInt ≤ 0 from by decide), trivial⟩, hS.F ht⟩) hS.2.2 dJ0_coder_7d493_14
theorem dJ0_length_8abf5_0 : decode cJ0_length_8abf5 0 = .ok (.aload_n 0, 1) := dk_42 (by decide +kernel)
theorem dJ0_length_8abf5_1 : decode cJ0_length_8abf5 1 = .ok (.getfield 9, 3) := dk_180 (by decide +kernel)
theorem dJ0_length_8abf5_4 : decode cJ0_length_8abf5 4 = .ok (.arraylength, 1) := dk_190 (by decide +kernel)
theorem dJ0_length_8abf5_5 : decode cJ0_length_8abf5 5 = .ok (.aload_n 0, 1) := dk_42 (by decide +kernel)
theorem dJ0_length_8abf5_6 : decode cJ0_length_8abf5 6 = .ok (.invokevirtual 335, 3) := dk_182 (by decide +kernel)
theorem dJ0_length_8abf5_9 : decode cJ0_length_8abf5 9 = .ok (.ishr, 1) := dk_122 (by decide +kernel)
theorem dJ0_length_8abf5_10 : decode cJ0_length_8abf5 10 = .ok (.ireturn, 1) := dk_172 (by decide +kernel)
def wsMJ0_length_8abf5 : List Cond := .code yJ0_length_8abf5 cJ0_length_8abf5 1 (some .int) :: ([.fieldLink RJ0 9 "java/lang/String" "value" "[B"] ++ (wsV RJ0 335 RJ0 yJ0_coder_7d493 wsMJ0_coder_7d493))
theorem gwsMJ0_length_8abf5_0 : GoodIn wsMJ0_length_8abf5 (wsV RJ0 335 RJ0 yJ0_coder_7d493 wsMJ0_coder_7d493) := goodIn_sub (fun _ h => List.mem_cons_of_mem _ (List.mem_append_right _ h)) (gdV (by decide +kernel) gdwsMJ0_coder_7d493)
theorem gdwsMJ0_length_8abf5 : wsMJ0_length_8abf5.all goodWord = true := gdC rfl (gdA (by decide +kernel : ([.fieldLink RJ0 9 "java/lang/String" "value" "[B"] : List Cond).all goodWord = true) (gdV (by decide +kernel) gdwsMJ0_coder_7d493))
set_option maxHeartbeats 4000000 in
set_option maxRecDepth 100000 in
/-- String.length -/
theorem m_J0_length_8abf5 (l : Launch) (dC : Nat → ClassId) (dI : Nat → Nat → Nat) (qS : Nat) (nn : Nat) (fB : Nat → Int32) (hnn : nn ≤ 1000) (sz : Nat) : Met l yJ0_length_8abf5 wsMJ0_length_8abf5 ({ frames := 1, cells := 0, slots := 0, locals := 20 }) (va_Pc [.ref qS] (fun U => U.heap.size = sz ∧ va_P (dC, dI) vwCl [] U.heap ∧ va_K (dC, dI) vwCl [] U ∧ va_D (fun _ => True) [] ∧ (StrE qS nn fB) (va_A [] sz) U U.heap)) (va_Qi (fun (r : Int32) (u : Unit) => (r.toInt = ((nn : Nat) : Int))) (fun (u : Unit) t => True) (va_A [] sz)) 0 0 (va_A [] sz) := by
  refine Met.ofW (cc := cJ0_length_8abf5) (maxL := 1) (ret := (some .int)) (by decide) rfl ?_
  intro p e s m args below meth c s₁ B hml hv
  obtain ⟨rfl, hsz, hP, hK, hD0, hE⟩ := hv
  have hx := B.exec
  have hb := B.bytes
  have hr := B.returns
  have hts := atoms_spec (ws := wsMJ0_length_8abf5) B.pre
  have hown : s.vm.findClass RJ0 = some m.cls := findClass_of_methodNamed B.named
  have hlocks := B.notSynchronized
  subst hsz
  have hD := hD0.self (sz := s.heap.size)
  generalize hAe : va_A [] s.heap.size = A at hD hE ⊢
  have hA : ∀ q : Nat, s.heap.size ≤ q → A q := fun q h => by rw [← hAe]; exact Or.inr h
  have hS : va_S A s.heap s.heap [] := va_S.rf
  have hl := lv_entry ([.ref qS]) (n := 1) (Nat.le_of_ble_eq_true rfl)
  rw [lg_entry_eq]
  generalize (lg_sl ([.ref qS]) ++ List.replicate (1 - (lg_sl ([.ref qS])).length) Slot.unset).toArray = ls at hl ⊢
  have hl : lv_has ls 1 [(0, .ref qS)] := hl
  refine lv_aload_n hx hb dJ0_length_8abf5_0 rfl (lv_at hl 0 rfl) ?_
  obtain ⟨vB, hvB, hfB⟩ := hE.2.2.2
  refine vk_getf hx hb hvB hS hown (hts (.fieldLink RJ0 9 "java/lang/String" "value" "[B") (by decide +kernel)) (fun _ h9 => h9) dJ0_length_8abf5_1 ?_
  refine va_tlen hx hb hfB hS (v := (iI ((nn : Nat) : Int))) (iI_nat _) dJ0_length_8abf5_4 ?_
  refine lv_aload_n hx hb dJ0_length_8abf5_5 rfl (lv_at hl 0 rfl) ?_
  have hFc := noneFree hS hA
  refine va_calli (va_runV (As := []) (rest := [.int (iI ((nn : Nat) : Int))]) ⟨hx, hb, hml, hown, hts⟩ (m_J0_coder_7d493 l dC dI qS nn fB s.heap.size) (cwV 0 hts gwsMJ0_length_8abf5_0 rfl rfl rfl hd_yJ0_coder_7d493_RJ0 (by decide +kernel)) ⟨fun a U g mk q => by obtain ⟨q0, q1, qP, qK, qD, qE⟩ := q; exact ⟨q0, q1, qP, va_K.moved (u := U) (U := U.calling g mk a) (Vm.Alike.refl U.vm) qK, qD, qE.same rfl⟩, hE.recv hS, fun U hU9 hW => ⟨rfl, by rw [hU9], by rw [hU9]; exact nilP, va_K.moved hW.alike (hK.sub (tys' := []) [] rfl), nilD, by rw [hU9]; exact (((hE : (StrE qS nn fB) A s s.heap).kept hS.2.1).narrow (fun q h => hFc q h)).warm hW⟩⟩ rfl rfl hl.1 rfl (lv_room (Nat.le_of_ble_eq_true rfl)) dJ0_length_8abf5_6 (by decide +kernel)) hS (fun q _ h => hFc q h) hFc (fun r1 u t9_ H1 locs ht hvm hw9 hB9 hz1 hk1 hS => ?_)
  have b_r1 := hw9
  try dsimp only at b_r1
  clear hB9
  have hP := keepAll hP hk1
  generalize H1 = H at hP hS ⊢
  have hP : va_P (dC, dI) vwCl ([]) H := hP
  have hD : va_D A ([]) := hD
  refine lv_ishr hx hb dJ0_length_8abf5_9 ?_
  refine lv_topi (fun v2 hv2 => ?_)
  have b_v2 : v2.toInt = ((nn : Nat) : Int) := by rw [hv2]; exact shr0 (iI_t (by omega) (by omega)) (by omega)
  clear hv2
  refine W.widen (k := 0) (n := 0) (by decide +kernel) (by decide +kernel) ?_
  exact W.iret (v := v2) hx hb hr (fun t9_ ht hW => ⟨⟨v2, (), rfl, (by (try dsimp only); omega), trivial⟩, hS.F ht⟩) hS.2.2 dJ0_length_8abf5_10
theorem dJ1_canEncode_9a6ad_0 : decode cJ1_canEncode_9a6ad 0 = .ok (.iload_n 0, 1) := dk_26 (by decide +kernel)
theorem dJ1_canEncode_9a6ad_1 : decode cJ1_canEncode_9a6ad 1 = .ok (.ifCond .lt 14, 3) := dk_155 (by decide +kernel)
theorem dJ1_canEncode_9a6ad_4 : decode cJ1_canEncode_9a6ad 4 = .ok (.iload_n 0, 1) := dk_26 (by decide +kernel)
theorem dJ1_canEncode_9a6ad_5 : decode cJ1_canEncode_9a6ad 5 = .ok (.sipush 255, 3) := dk_17 (by decide +kernel)
theorem dJ1_canEncode_9a6ad_8 : decode cJ1_canEncode_9a6ad 8 = .ok (.if_icmp .gt 7, 3) := dk_163 (by decide +kernel)
theorem dJ1_canEncode_9a6ad_11 : decode cJ1_canEncode_9a6ad 11 = .ok (.iconst 1, 1) := dk_4 (by decide +kernel)
theorem dJ1_canEncode_9a6ad_12 : decode cJ1_canEncode_9a6ad 12 = .ok (.goto 4, 3) := dk_167 (by decide +kernel)
theorem dJ1_canEncode_9a6ad_15 : decode cJ1_canEncode_9a6ad 15 = .ok (.iconst 0, 1) := dk_3 (by decide +kernel)
theorem dJ1_canEncode_9a6ad_16 : decode cJ1_canEncode_9a6ad 16 = .ok (.ireturn, 1) := dk_172 (by decide +kernel)
def wsMJ1_canEncode_9a6ad : List Cond := .code yJ1_canEncode_9a6ad cJ1_canEncode_9a6ad 1 (some .boolean) :: ([])
theorem gdwsMJ1_canEncode_9a6ad : wsMJ1_canEncode_9a6ad.all goodWord = true := gdC rfl (by decide +kernel : ([] : List Cond).all goodWord = true)
set_option maxHeartbeats 4000000 in
set_option maxRecDepth 100000 in
/-- canEncode -/
theorem m_J1_canEncode_9a6ad (l : Launch) (dC : Nat → ClassId) (dI : Nat → Nat → Nat) (p1 : Int32) (sz : Nat) : Met l yJ1_canEncode_9a6ad wsMJ1_canEncode_9a6ad ({ frames := 0, cells := 0, slots := 0, locals := 0 }) (va_Pc [.int p1] (fun U => U.heap.size = sz ∧ va_P (dC, dI) vwCl [] U.heap ∧ va_K (dC, dI) vwCl [] U ∧ va_D (fun _ => True) [])) (va_Qi (fun (r : Int32) (u : Unit) => (0 ≤ r.toInt ∧ r.toInt ≤ 1)) (fun (u : Unit) t => True) (va_A [] sz)) 0 0 (va_A [] sz) := by
  refine Met.ofW (cc := cJ1_canEncode_9a6ad) (maxL := 1) (ret := (some .boolean)) (by decide) rfl ?_
  intro p e s m args below meth c s₁ B hml hv
  obtain ⟨rfl, hsz, hP, hK, hD0⟩ := hv
  have hx := B.exec
  have hb := B.bytes
  have hr := B.returns
  have hts := atoms_spec (ws := wsMJ1_canEncode_9a6ad) B.pre
  have hown : s.vm.findClass RJ1 = some m.cls := findClass_of_methodNamed B.named
  have hlocks := B.notSynchronized
  subst hsz
  have hD := hD0.self (sz := s.heap.size)
  generalize hAe : va_A [] s.heap.size = A at hD ⊢
  have hA : ∀ q : Nat, s.heap.size ≤ q → A q := fun q h => by rw [← hAe]; exact Or.inr h
  have hS : va_S A s.heap s.heap [] := va_S.rf
  have hl := lv_entry ([.int p1]) (n := 1) (Nat.le_of_ble_eq_true rfl)
  rw [lg_entry_eq]
  generalize (lg_sl ([.int p1]) ++ List.replicate (1 - (lg_sl ([.int p1])).length) Slot.unset).toArray = ls at hl ⊢
  have hl : lv_has ls 1 [(0, .int p1)] := hl
  refine lv_iload_n hx hb dJ1_canEncode_9a6ad_0 rfl (lv_at hl 0 rfl) ?_
  refine W.cut (pc := 16) (fun H locs ls stk => ∃ (k0_j2 : Int32), (0 ≤ k0_j2.toInt ∧ k0_j2.toInt ≤ 1) ∧  stk = [.int k0_j2] ∧ va_P (dC, dI) vwCl ([]) H ∧ va_D A ([]) ∧ va_S A s.heap H locs ∧ lv_has ls 1 [(0, .int p1)]) (fun join2 => ?_) ?_
  · refine lv_if_lt (tgt := 15) hx hb dJ1_canEncode_9a6ad_1 (by decide) (fun c_1 => ?_) (fun c_1 => ?_)
    · have t_1 : p1.toInt < 0 := toI_lt c_1 rfl (by decide : (0 : Int32).toInt = 0)
      refine lv_iconst (v := 0) hx hb dJ1_canEncode_9a6ad_15 (by decide) ?_
      have hl : lv_has _ _ ([(0, .int p1)]) := lv_sub hl [0] rfl
      exact join2 _ _ _ _ ⟨0, (show 0 ≤ (0 : Int32).toInt ∧ (0 : Int32).toInt ≤ 1 from by decide), rfl, hP, hD, hS, hl⟩
    · have t_1 : ¬ p1.toInt < 0 := toI_nlt c_1 rfl (by decide : (0 : Int32).toInt = 0)
      refine lv_iload_n hx hb dJ1_canEncode_9a6ad_4 rfl (lv_at hl 0 rfl) ?_
      refine lv_sipush (v := 255) hx hb dJ1_canEncode_9a6ad_5 (by decide) ?_
      refine lv_icmp_gt (tgt := 15) hx hb dJ1_canEncode_9a6ad_8 (by decide) (fun c_8 => ?_) (fun c_8 => ?_)
      · have t_8 : p1.toInt > 255 := toI_gt c_8 rfl (by decide : (255 : Int32).toInt = 255)
        refine lv_iconst (v := 0) hx hb dJ1_canEncode_9a6ad_15 (by decide) ?_
        have hl : lv_has _ _ ([(0, .int p1)]) := lv_sub hl [0] rfl
        exact join2 _ _ _ _ ⟨0, (show 0 ≤ (0 : Int32).toInt ∧ (0 : Int32).toInt ≤ 1 from by decide), rfl, hP, hD, hS, hl⟩
      · have t_8 : ¬ p1.toInt > 255 := toI_ngt c_8 rfl (by decide : (255 : Int32).toInt = 255)
        refine lv_iconst (v := 1) hx hb dJ1_canEncode_9a6ad_11 (by decide) ?_
        refine lv_goto (tgt := 16) hx hb dJ1_canEncode_9a6ad_12 (by decide) ?_
        have hl : lv_has _ _ ([(0, .int p1)]) := lv_sub hl [0] rfl
        exact join2 _ _ _ _ ⟨1, (show 0 ≤ (1 : Int32).toInt ∧ (1 : Int32).toInt ≤ 1 from by decide), rfl, hP, hD, hS, hl⟩
  · rintro H locs ls stk ⟨k0_j2, b_k0_j2, rfl, hP, hD, hS, hl⟩
    refine W.widen (k := 0) (n := 0) (by decide +kernel) (by decide +kernel) ?_
    exact W.zret (v := k0_j2) hx hb hr (by rcases z01 (x := k0_j2) (b_k0_j2) with h9 | h9 <;> rw [h9] <;> rfl) (fun t9_ ht hW => ⟨⟨k0_j2, (), rfl, (b_k0_j2), trivial⟩, hS.F ht⟩) hS.2.2 dJ1_canEncode_9a6ad_16
theorem dJ1_indexOfChar_4cfef_0 : decode cJ1_indexOfChar_4cfef 0 = .ok (.iload_n 1, 1) := dk_27 (by decide +kernel)
theorem dJ1_indexOfChar_4cfef_1 : decode cJ1_indexOfChar_4cfef 1 = .ok (.i2b, 1) := dk_145 (by decide +kernel)
theorem dJ1_indexOfChar_4cfef_2 : decode cJ1_indexOfChar_4cfef 2 = .ok (.istore 4, 2) := dk_54 (by decide +kernel)
theorem dJ1_indexOfChar_4cfef_4 : decode cJ1_indexOfChar_4cfef 4 = .ok (.iload_n 2, 1) := dk_28 (by decide +kernel)
theorem dJ1_indexOfChar_4cfef_5 : decode cJ1_indexOfChar_4cfef 5 = .ok (.istore 5, 2) := dk_54 (by decide +kernel)
theorem dJ1_indexOfChar_4cfef_7 : decode cJ1_indexOfChar_4cfef 7 = .ok (.iload 5, 2) := dk_21 (by decide +kernel)
theorem dJ1_indexOfChar_4cfef_9 : decode cJ1_indexOfChar_4cfef 9 = .ok (.iload_n 3, 1) := dk_29 (by decide +kernel)
theorem dJ1_indexOfChar_4cfef_10 : decode cJ1_indexOfChar_4cfef 10 = .ok (.if_icmp .ge 21, 3) := dk_162 (by decide +kernel)
theorem dJ1_indexOfChar_4cfef_13 : decode cJ1_indexOfChar_4cfef 13 = .ok (.aload_n 0, 1) := dk_42 (by decide +kernel)
theorem dJ1_indexOfChar_4cfef_14 : decode cJ1_indexOfChar_4cfef 14 = .ok (.iload 5, 2) := dk_21 (by decide +kernel)
theorem dJ1_indexOfChar_4cfef_16 : decode cJ1_indexOfChar_4cfef 16 = .ok (.baload, 1) := dk_51 (by decide +kernel)
theorem dJ1_indexOfChar_4cfef_17 : decode cJ1_indexOfChar_4cfef 17 = .ok (.iload 4, 2) := dk_21 (by decide +kernel)
theorem dJ1_indexOfChar_4cfef_19 : decode cJ1_indexOfChar_4cfef 19 = .ok (.if_icmp .ne 6, 3) := dk_160 (by decide +kernel)
theorem dJ1_indexOfChar_4cfef_22 : decode cJ1_indexOfChar_4cfef 22 = .ok (.iload 5, 2) := dk_21 (by decide +kernel)
theorem dJ1_indexOfChar_4cfef_24 : decode cJ1_indexOfChar_4cfef 24 = .ok (.ireturn, 1) := dk_172 (by decide +kernel)
theorem dJ1_indexOfChar_4cfef_25 : decode cJ1_indexOfChar_4cfef 25 = .ok (.iinc 5 1, 3) := dk_132 (by decide +kernel)
theorem dJ1_indexOfChar_4cfef_28 : decode cJ1_indexOfChar_4cfef 28 = .ok (.goto (-21), 3) := dk_167 (by decide +kernel)
theorem dJ1_indexOfChar_4cfef_31 : decode cJ1_indexOfChar_4cfef 31 = .ok (.iconst (-1), 1) := dk_2 (by decide +kernel)
theorem dJ1_indexOfChar_4cfef_32 : decode cJ1_indexOfChar_4cfef 32 = .ok (.ireturn, 1) := dk_172 (by decide +kernel)
def wsMJ1_indexOfChar_4cfef : List Cond := .code yJ1_indexOfChar_4cfef cJ1_indexOfChar_4cfef 6 (some .int) :: ([])
theorem gdwsMJ1_indexOfChar_4cfef : wsMJ1_indexOfChar_4cfef.all goodWord = true := gdC rfl (by decide +kernel : ([] : List Cond).all goodWord = true)
set_option maxHeartbeats 4000000 in
set_option maxRecDepth 100000 in
/-- indexOfChar -/
theorem m_J1_indexOfChar_4cfef (l : Launch) (dC : Nat → ClassId) (dI : Nat → Nat → Nat) (vq : Nat) (nn : Nat) (fB : Nat → Int32) (p1 : Int32) (p2 : Int32) (p3 : Int32) (b_p2 : 0 ≤ p2.toInt ∧ p2.toInt ≤ 1000) (b_p3 : 0 ≤ p3.toInt ∧ p3.toInt ≤ 1000) (hnn : nn ≤ 1000) (hp3 : p3.toInt ≤ ((nn : Nat) : Int)) (sz : Nat) : Met l yJ1_indexOfChar_4cfef wsMJ1_indexOfChar_4cfef ({ frames := 0, cells := 0, slots := 0, locals := 0 }) (va_Pc [.ref vq, .int p1, .int p2, .int p3] (fun U => U.heap.size = sz ∧ va_P (dC, dI) vwCl [] U.heap ∧ va_K (dC, dI) vwCl [] U ∧ va_D (fun _ => True) [] ∧ (ArrE vq nn fB) (va_A [] sz) U U.heap)) (va_Qi (fun (r : Int32) (u : Unit) => True) (fun (u : Unit) t => True) (va_A [] sz)) 0 0 (va_A [] sz) := by
  refine Met.ofW (cc := cJ1_indexOfChar_4cfef) (maxL := 6) (ret := (some .int)) (by decide) rfl ?_
  intro p e s m args below meth c s₁ B hml hv
  obtain ⟨rfl, hsz, hP, hK, hD0, hE⟩ := hv
  have hx := B.exec
  have hb := B.bytes
  have hr := B.returns
  have hts := atoms_spec (ws := wsMJ1_indexOfChar_4cfef) B.pre
  have hown : s.vm.findClass RJ1 = some m.cls := findClass_of_methodNamed B.named
  have hlocks := B.notSynchronized
  subst hsz
  have hD := hD0.self (sz := s.heap.size)
  generalize hAe : va_A [] s.heap.size = A at hD hE ⊢
  have hA : ∀ q : Nat, s.heap.size ≤ q → A q := fun q h => by rw [← hAe]; exact Or.inr h
  have hS : va_S A s.heap s.heap [] := va_S.rf
  have hl := lv_entry ([.ref vq, .int p1, .int p2, .int p3]) (n := 6) (Nat.le_of_ble_eq_true rfl)
  rw [lg_entry_eq]
  generalize (lg_sl ([.ref vq, .int p1, .int p2, .int p3]) ++ List.replicate (6 - (lg_sl ([.ref vq, .int p1, .int p2, .int p3])).length) Slot.unset).toArray = ls at hl ⊢
  have hl : lv_has ls 6 [(0, .ref vq), (1, .int p1), (2, .int p2), (3, .int p3)] := hl
  refine lv_iload_n hx hb dJ1_indexOfChar_4cfef_0 rfl (lv_at hl 1 rfl) ?_
  refine lv_i2b hx hb dJ1_indexOfChar_4cfef_1 rfl ?_
  refine lv_topi (fun v1 hv1 => ?_)
  clear hv1
  refine lv_istore hx hb dJ1_indexOfChar_4cfef_2 hl (by decide) rfl (fun ls (hl : lv_has ls _ ([(4, .int v1), (0, .ref vq), (1, .int p1), (2, .int p2), (3, .int p3)])) => ?_)
  refine lv_iload_n hx hb dJ1_indexOfChar_4cfef_4 rfl (lv_at hl 3 rfl) ?_
  refine lv_istore hx hb dJ1_indexOfChar_4cfef_5 hl (by decide) rfl (fun ls (hl : lv_has ls _ ([(5, .int p2), (4, .int v1), (0, .ref vq), (1, .int p1), (2, .int p2), (3, .int p3)])) => ?_)
  have hl : lv_has _ _ ([(5, .int p2), (4, .int v1), (0, .ref vq), (1, .int p1), (2, .int p2), (3, .int p3)]) := lv_sub hl [0, 1, 2, 3, 4, 5] rfl
  refine (fun (loop : ∀ (n9 : Nat) (l5_x7 : Int32) (H : Heap) (locs : List Loc) (ls : Array Slot), (0 ≤ l5_x7.toInt ∧ l5_x7.toInt ≤ 1000) → (1000 - l5_x7.toInt < ((n9 : Nat) : Int)) → va_P (dC, dI) vwCl ([]) H → va_D A ([]) → va_S A s.heap H locs → lv_has ls 6 [(5, .int l5_x7), (4, .int v1), (0, .ref vq), (1, .int p1), (2, .int p2), (3, .int p3)] → W p l e _ s m _ below meth c H locs 0 0 _ (F0 m 7 ls [])) => loop (1001) p2 _ _ _ (b_p2) ((by have e9 : (p2).toInt = p2.toInt := rfl; omega)) hP hD hS hl) ?_
  intro n9
  induction n9 with
  | zero => intro l5_x7 H locs ls b_l5_x7 hf9; exact False.elim (by omega)
  | succ n9 ihx7 =>
    intro l5_x7 H locs ls b_l5_x7 hfx7 hP hD hS hl
    refine lv_iload hx hb dJ1_indexOfChar_4cfef_7 (lv_at hl 0 rfl) ?_
    refine lv_iload_n hx hb dJ1_indexOfChar_4cfef_9 rfl (lv_at hl 5 rfl) ?_
    refine lv_icmp_ge (tgt := 31) hx hb dJ1_indexOfChar_4cfef_10 (by decide) (fun c_10 => ?_) (fun c_10 => ?_)
    · have t_10 : l5_x7.toInt ≥ p3.toInt := toI_ge c_10 rfl rfl
      refine lv_iconst (v := (-1)) hx hb dJ1_indexOfChar_4cfef_31 (by decide) ?_
      refine W.widen (k := 0) (n := 0) (by decide +kernel) (by decide +kernel) ?_
      exact W.iret (v := (-1)) hx hb hr (fun t9_ ht hW => ⟨⟨((-1) : Int32), (), rfl, trivial, trivial⟩, hS.F ht⟩) hS.2.2 dJ1_indexOfChar_4cfef_32
    · have t_10 : ¬ l5_x7.toInt ≥ p3.toInt := toI_nge c_10 rfl rfl
      refine lv_aload_n hx hb dJ1_indexOfChar_4cfef_13 rfl (lv_at hl 2 rfl) ?_
      refine lv_iload hx hb dJ1_indexOfChar_4cfef_14 (lv_at hl 0 rfl) ?_
      refine va_tb hx hb hE.2 hS (vp_in_iff.mpr ⟨b_l5_x7.1, (by omega)⟩) (v := .int (fB (l5_x7).toNatClampNeg)) rfl dJ1_indexOfChar_4cfef_16 ?_
      refine lv_topi (fun v4 hv4 => ?_)
      clear hv4
      refine lv_iload hx hb dJ1_indexOfChar_4cfef_17 (lv_at hl 1 rfl) ?_
      refine lv_icmp_ne (tgt := 25) hx hb dJ1_indexOfChar_4cfef_19 (by decide) (fun c_19 => ?_) (fun c_19 => ?_)
      · have t_19 : v4.toInt ≠ v1.toInt := toI_ne c_19 rfl rfl
        refine lv_iinc (v := (iI (l5_x7.toInt + 1))) hx hb dJ1_indexOfChar_4cfef_25 hl (k := 0) rfl (iI_add2 (iI_of _) (by decide : (1 : Int32) = iI 1)) (by decide) rfl (fun ls (hl : lv_has ls _ ([(5, .int (iI (l5_x7.toInt + 1))), (4, .int v1), (0, .ref vq), (1, .int p1), (2, .int p2), (3, .int p3)])) => ?_)
        refine lv_goto (tgt := 7) hx hb dJ1_indexOfChar_4cfef_28 (by decide) ?_
        have hl : lv_has _ _ ([(5, .int (iI (l5_x7.toInt + 1))), (4, .int v1), (0, .ref vq), (1, .int p1), (2, .int p2), (3, .int p3)]) := lv_sub hl [0, 1, 2, 3, 4, 5] rfl
        exact ihx7 (iI (l5_x7.toInt + 1)) _ _ _ (iI_rng (Int.le_trans (by decide) (Int.add_le_add (b_l5_x7.1) (Int.le_refl _))) (by omega) (by decide) (by decide)) (by have e9 : ((iI (l5_x7.toInt + 1))).toInt = (l5_x7.toInt + 1) := (iI_t (Int.le_trans (by decide) (Int.add_le_add (b_l5_x7.1) (Int.le_refl _))) (Int.le_trans (Int.add_le_add (b_l5_x7.2) (Int.le_refl _)) (by decide))); omega) hP hD hS hl
      · have t_19 : v4.toInt = v1.toInt := toI_nne c_19 rfl rfl
        refine lv_iload hx hb dJ1_indexOfChar_4cfef_22 (lv_at hl 0 rfl) ?_
        refine W.widen (k := 0) (n := 0) (by decide +kernel) (by decide +kernel) ?_
        exact W.iret (v := l5_x7) hx hb hr (fun t9_ ht hW => ⟨⟨l5_x7, (), rfl, trivial, trivial⟩, hS.F ht⟩) hS.2.2 dJ1_indexOfChar_4cfef_24
theorem dJ1_indexOf_4cfef_0 : decode cJ1_indexOf_4cfef 0 = .ok (.iload_n 1, 1) := dk_27 (by decide +kernel)
theorem dJ1_indexOf_4cfef_1 : decode cJ1_indexOf_4cfef 1 = .ok (.invokestatic 88, 3) := dk_184 (by decide +kernel)
theorem dJ1_indexOf_4cfef_4 : decode cJ1_indexOf_4cfef 4 = .ok (.ifCond .ne 5, 3) := dk_154 (by decide +kernel)
theorem dJ1_indexOf_4cfef_7 : decode cJ1_indexOf_4cfef 7 = .ok (.iconst (-1), 1) := dk_2 (by decide +kernel)
theorem dJ1_indexOf_4cfef_8 : decode cJ1_indexOf_4cfef 8 = .ok (.ireturn, 1) := dk_172 (by decide +kernel)
theorem dJ1_indexOf_4cfef_9 : decode cJ1_indexOf_4cfef 9 = .ok (.iload_n 2, 1) := dk_28 (by decide +kernel)
theorem dJ1_indexOf_4cfef_10 : decode cJ1_indexOf_4cfef 10 = .ok (.iconst 0, 1) := dk_3 (by decide +kernel)
theorem dJ1_indexOf_4cfef_11 : decode cJ1_indexOf_4cfef 11 = .ok (.invokestatic 92, 3) := dk_184 (by decide +kernel)
theorem dJ1_indexOf_4cfef_14 : decode cJ1_indexOf_4cfef 14 = .ok (.istore_n 2, 1) := dk_61 (by decide +kernel)
theorem dJ1_indexOf_4cfef_15 : decode cJ1_indexOf_4cfef 15 = .ok (.iload_n 3, 1) := dk_29 (by decide +kernel)
theorem dJ1_indexOf_4cfef_16 : decode cJ1_indexOf_4cfef 16 = .ok (.aload_n 0, 1) := dk_42 (by decide +kernel)
theorem dJ1_indexOf_4cfef_17 : decode cJ1_indexOf_4cfef 17 = .ok (.arraylength, 1) := dk_190 (by decide +kernel)
theorem dJ1_indexOf_4cfef_18 : decode cJ1_indexOf_4cfef 18 = .ok (.invokestatic 38, 3) := dk_184 (by decide +kernel)
theorem dJ1_indexOf_4cfef_21 : decode cJ1_indexOf_4cfef 21 = .ok (.istore_n 3, 1) := dk_62 (by decide +kernel)
theorem dJ1_indexOf_4cfef_22 : decode cJ1_indexOf_4cfef 22 = .ok (.iload_n 2, 1) := dk_28 (by decide +kernel)
theorem dJ1_indexOf_4cfef_23 : decode cJ1_indexOf_4cfef 23 = .ok (.iload_n 3, 1) := dk_29 (by decide +kernel)
theorem dJ1_indexOf_4cfef_24 : decode cJ1_indexOf_4cfef 24 = .ok (.if_icmp .lt 5, 3) := dk_161 (by decide +kernel)
theorem dJ1_indexOf_4cfef_27 : decode cJ1_indexOf_4cfef 27 = .ok (.iconst (-1), 1) := dk_2 (by decide +kernel)
theorem dJ1_indexOf_4cfef_28 : decode cJ1_indexOf_4cfef 28 = .ok (.ireturn, 1) := dk_172 (by decide +kernel)
theorem dJ1_indexOf_4cfef_29 : decode cJ1_indexOf_4cfef 29 = .ok (.aload_n 0, 1) := dk_42 (by decide +kernel)
theorem dJ1_indexOf_4cfef_30 : decode cJ1_indexOf_4cfef 30 = .ok (.iload_n 1, 1) := dk_27 (by decide +kernel)
theorem dJ1_indexOf_4cfef_31 : decode cJ1_indexOf_4cfef 31 = .ok (.iload_n 2, 1) := dk_28 (by decide +kernel)
theorem dJ1_indexOf_4cfef_32 : decode cJ1_indexOf_4cfef 32 = .ok (.iload_n 3, 1) := dk_29 (by decide +kernel)
theorem dJ1_indexOf_4cfef_33 : decode cJ1_indexOf_4cfef 33 = .ok (.invokestatic 95, 3) := dk_184 (by decide +kernel)
theorem dJ1_indexOf_4cfef_36 : decode cJ1_indexOf_4cfef 36 = .ok (.ireturn, 1) := dk_172 (by decide +kernel)
def wsMJ1_indexOf_4cfef : List Cond := .code yJ1_indexOf_4cfef cJ1_indexOf_4cfef 4 (some .int) :: ([.methodLink RJ1 92 Lib.Math.max.name, .static Lib.Math.max.name, .initialized "java/lang/Math", .code Lib.Math.max.name Lib.Math.max.code 2 (some .int), .methodLink RJ1 38 Lib.Math.min.name, .static Lib.Math.min.name, .code Lib.Math.min.name Lib.Math.min.code 2 (some .int)] ++ (va_wsS RJ1 88 yJ1_canEncode_9a6ad wsMJ1_canEncode_9a6ad) ++ (va_wsS RJ1 95 yJ1_indexOfChar_4cfef wsMJ1_indexOfChar_4cfef))
theorem gwsMJ1_indexOf_4cfef_0 : GoodIn wsMJ1_indexOf_4cfef (va_wsS RJ1 88 yJ1_canEncode_9a6ad wsMJ1_canEncode_9a6ad) := goodIn_sub (fun _ h => List.mem_cons_of_mem _ (List.mem_append_left _ (List.mem_append_right _ h))) (gdS (by decide +kernel) gdwsMJ1_canEncode_9a6ad)
theorem gwsMJ1_indexOf_4cfef_1 : GoodIn wsMJ1_indexOf_4cfef (va_wsS RJ1 95 yJ1_indexOfChar_4cfef wsMJ1_indexOfChar_4cfef) := goodIn_sub (fun _ h => List.mem_cons_of_mem _ (List.mem_append_right _ h)) (gdS (by decide +kernel) gdwsMJ1_indexOfChar_4cfef)
theorem gdwsMJ1_indexOf_4cfef : wsMJ1_indexOf_4cfef.all goodWord = true := gdC rfl (gdA (gdA (by decide +kernel : ([.methodLink RJ1 92 Lib.Math.max.name, .static Lib.Math.max.name, .initialized "java/lang/Math", .code Lib.Math.max.name Lib.Math.max.code 2 (some .int), .methodLink RJ1 38 Lib.Math.min.name, .static Lib.Math.min.name, .code Lib.Math.min.name Lib.Math.min.code 2 (some .int)] : List Cond).all goodWord = true) (gdS (by decide +kernel) gdwsMJ1_canEncode_9a6ad)) (gdS (by decide +kernel) gdwsMJ1_indexOfChar_4cfef))
set_option maxHeartbeats 4000000 in
set_option maxRecDepth 100000 in
/-- indexOf in bytes -/
theorem m_J1_indexOf_4cfef (l : Launch) (dC : Nat → ClassId) (dI : Nat → Nat → Nat) (vq : Nat) (nn : Nat) (fB : Nat → Int32) (p1 : Int32) (p2 : Int32) (p3 : Int32) (b_p2 : 0 ≤ p2.toInt ∧ p2.toInt ≤ 0) (b_p3 : 0 ≤ p3.toInt ∧ p3.toInt ≤ 1000) (hnn : nn ≤ 1000) (sz : Nat) : Met l yJ1_indexOf_4cfef wsMJ1_indexOf_4cfef ({ frames := 1, cells := 0, slots := 0, locals := 25 }) (va_Pc [.ref vq, .int p1, .int p2, .int p3] (fun U => U.heap.size = sz ∧ va_P (dC, dI) vwCl [] U.heap ∧ va_K (dC, dI) vwCl [] U ∧ va_D (fun _ => True) [] ∧ (ArrE vq nn fB) (va_A [] sz) U U.heap)) (va_Qi (fun (r : Int32) (u : Unit) => True) (fun (u : Unit) t => True) (va_A [] sz)) 0 0 (va_A [] sz) := by
  refine Met.ofW (cc := cJ1_indexOf_4cfef) (maxL := 4) (ret := (some .int)) (by decide) rfl ?_
  intro p e s m args below meth c s₁ B hml hv
  obtain ⟨rfl, hsz, hP, hK, hD0, hE⟩ := hv
  have hx := B.exec
  have hb := B.bytes
  have hr := B.returns
  have hts := atoms_spec (ws := wsMJ1_indexOf_4cfef) B.pre
  have hown : s.vm.findClass RJ1 = some m.cls := findClass_of_methodNamed B.named
  have hlocks := B.notSynchronized
  subst hsz
  have hD := hD0.self (sz := s.heap.size)
  generalize hAe : va_A [] s.heap.size = A at hD hE ⊢
  have hA : ∀ q : Nat, s.heap.size ≤ q → A q := fun q h => by rw [← hAe]; exact Or.inr h
  have hS : va_S A s.heap s.heap [] := va_S.rf
  have hl := lv_entry ([.ref vq, .int p1, .int p2, .int p3]) (n := 4) (Nat.le_of_ble_eq_true rfl)
  rw [lg_entry_eq]
  generalize (lg_sl ([.ref vq, .int p1, .int p2, .int p3]) ++ List.replicate (4 - (lg_sl ([.ref vq, .int p1, .int p2, .int p3])).length) Slot.unset).toArray = ls at hl ⊢
  have hl : lv_has ls 4 [(0, .ref vq), (1, .int p1), (2, .int p2), (3, .int p3)] := hl
  refine lv_iload_n hx hb dJ1_indexOf_4cfef_0 rfl (lv_at hl 1 rfl) ?_
  have hFc := noneFree hS hA
  refine va_calli (va_runS (As := [.int p1]) (rest := []) ⟨hx, hb, hml, hown, hts⟩ (m_J1_canEncode_9a6ad l dC dI p1 s.heap.size) (va_cwS 1 hts gwsMJ1_indexOf_4cfef_0 rfl rfl rfl (by decide +kernel) ⟨by decide +kernel, by decide +kernel⟩) ⟨fun a U g mk q => by obtain ⟨q0, q1, qP, qK, qD⟩ := q; exact ⟨q0, q1, qP, va_K.moved (u := U) (U := U.calling g mk a) (Vm.Alike.refl U.vm) qK, qD⟩, fun U hU9 hW => ⟨rfl, by rw [hU9], by rw [hU9]; exact nilP, va_K.moved hW.alike (hK.sub (tys' := []) [] rfl), nilD⟩⟩ rfl rfl hl.1 rfl (lv_room (Nat.le_of_ble_eq_true rfl)) dJ1_indexOf_4cfef_1 (by decide +kernel)) hS (fun q _ h => hFc q h) hFc (fun r1 u t9_ H1 locs ht hvm hw9 hB9 hz1 hk1 hS => ?_)
  have b_r1 := hw9
  try dsimp only at b_r1
  clear hB9
  have hP := keepAll hP hk1
  generalize H1 = H at hP hS ⊢
  have hP : va_P (dC, dI) vwCl ([]) H := hP
  have hD : va_D A ([]) := hD
  refine lv_if_ne (tgt := 9) hx hb dJ1_indexOf_4cfef_4 (by decide) (fun c_4 => ?_) (fun c_4 => ?_)
  · have t_4 : r1.toInt ≠ 0 := toI_ne c_4 rfl (by decide : (0 : Int32).toInt = 0)
    refine lv_iload_n hx hb dJ1_indexOf_4cfef_9 rfl (lv_at hl 2 rfl) ?_
    refine lv_iconst (v := 0) hx hb dJ1_indexOf_4cfef_10 (by decide) ?_
    refine va_mmax hx hb (by rw [hml]; exact hl.1.symm) hown (hts (.methodLink RJ1 92 Lib.Math.max.name) (by decide +kernel)) (hts (.static Lib.Math.max.name) (by decide +kernel)) (hts (.initialized "java/lang/Math") (by decide +kernel)) (hts (.code Lib.Math.max.name Lib.Math.max.code 2 (some .int)) (by decide +kernel)) (by decide +kernel) (Nat.le_of_ble_eq_true rfl) (by decide +kernel) (by decide +kernel) dJ1_indexOf_4cfef_11 ?_
    refine lv_topi (fun v2 hv2 => ?_)
    have b_v2 : (p2.toInt ≤ v2.toInt ∧ 0 ≤ v2.toInt) ∧ (v2.toInt = p2.toInt ∨ v2.toInt = 0) := by rw [hv2]; exact max_t rfl (by decide : (0 : Int32).toInt = 0)
    clear hv2
    refine lv_istore_n hx hb dJ1_indexOf_4cfef_14 rfl hl (by decide) rfl (fun ls (hl : lv_has ls _ ([(2, .int v2), (0, .ref vq), (1, .int p1), (3, .int p3)])) => ?_)
    refine lv_iload_n hx hb dJ1_indexOf_4cfef_15 rfl (lv_at hl 3 rfl) ?_
    refine lv_aload_n hx hb dJ1_indexOf_4cfef_16 rfl (lv_at hl 1 rfl) ?_
    refine va_tlen hx hb hE.2 hS (v := (iI ((nn : Nat) : Int))) (iI_nat _) dJ1_indexOf_4cfef_17 ?_
    refine va_mmin hx hb (by rw [hml]; exact hl.1.symm) hown (hts (.methodLink RJ1 38 Lib.Math.min.name) (by decide +kernel)) (hts (.static Lib.Math.min.name) (by decide +kernel)) (hts (.initialized "java/lang/Math") (by decide +kernel)) (hts (.code Lib.Math.min.name Lib.Math.min.code 2 (some .int)) (by decide +kernel)) (by decide +kernel) (Nat.le_of_ble_eq_true rfl) (by decide +kernel) (by decide +kernel) dJ1_indexOf_4cfef_18 ?_
    refine lv_topi (fun v3 hv3 => ?_)
    first | (have b_v3 : (v3.toInt ≤ p3.toInt ∧ v3.toInt ≤ ((nn : Nat) : Int)) ∧ (v3.toInt = p3.toInt ∨ v3.toInt = ((nn : Nat) : Int)) := by rw [hv3]; exact min_t rfl (iI_t (by omega) (by omega))) | skip
    clear hv3
    refine lv_istore_n hx hb dJ1_indexOf_4cfef_21 rfl hl (by decide) rfl (fun ls (hl : lv_has ls _ ([(3, .int v3), (2, .int v2), (0, .ref vq), (1, .int p1)])) => ?_)
    refine lv_iload_n hx hb dJ1_indexOf_4cfef_22 rfl (lv_at hl 1 rfl) ?_
    refine lv_iload_n hx hb dJ1_indexOf_4cfef_23 rfl (lv_at hl 0 rfl) ?_
    refine lv_icmp_lt (tgt := 29) hx hb dJ1_indexOf_4cfef_24 (by decide) (fun c_24 => ?_) (fun c_24 => ?_)
    · have t_24 : v2.toInt < v3.toInt := toI_lt c_24 rfl rfl
      refine lv_aload_n hx hb dJ1_indexOf_4cfef_29 rfl (lv_at hl 2 rfl) ?_
      refine lv_iload_n hx hb dJ1_indexOf_4cfef_30 rfl (lv_at hl 3 rfl) ?_
      refine lv_iload_n hx hb dJ1_indexOf_4cfef_31 rfl (lv_at hl 1 rfl) ?_
      refine lv_iload_n hx hb dJ1_indexOf_4cfef_32 rfl (lv_at hl 0 rfl) ?_
      have hFc := noneFree hS hA
      refine va_calli (va_runS (As := [.ref vq, .int p1, .int v2, .int v3]) (rest := []) ⟨hx, hb, hml, hown, hts⟩ (m_J1_indexOfChar_4cfef l dC dI vq nn fB p1 v2 v3 (by first | exact b_v2 | assumption | exact ⟨by omega, by omega⟩) (by first | exact b_v3 | assumption | exact ⟨by omega, by omega⟩) (by first | assumption | omega | (rw [iI_t (by omega) (by omega)]; omega) | decide) (by first | assumption | omega | (rw [iI_t (by omega) (by omega)]; omega) | decide) H.size) (va_cwS 4 hts gwsMJ1_indexOf_4cfef_1 rfl rfl rfl (by decide +kernel) ⟨by decide +kernel, by decide +kernel⟩) ⟨fun a U g mk q => by obtain ⟨q0, q1, qP, qK, qD, qE⟩ := q; exact ⟨q0, q1, qP, va_K.moved (u := U) (U := U.calling g mk a) (Vm.Alike.refl U.vm) qK, qD, qE.same rfl⟩, fun U hU9 hW => ⟨rfl, by rw [hU9], by rw [hU9]; exact nilP, va_K.moved hW.alike (hK.sub (tys' := []) [] rfl), nilD, by rw [hU9]; exact (((hE : (ArrE vq nn fB) A s s.heap).kept hS.2.1).narrow (fun q h => hFc q h)).warm hW⟩⟩ rfl rfl hl.1 rfl (lv_room (Nat.le_of_ble_eq_true rfl)) dJ1_indexOf_4cfef_33 (by decide +kernel)) hS (fun q _ h => hFc q h) hFc (fun r4 u t9_ H1 locs ht hvm hw9 hB9 hz1 hk1 hS => ?_)
      clear hw9
      clear hB9
      have hP := keepAll hP hk1
      generalize H1 = H at hP hS ⊢
      have hP : va_P (dC, dI) vwCl ([]) H := hP
      have hD : va_D A ([]) := hD
      refine W.widen (k := 0) (n := 0) (by decide +kernel) (by decide +kernel) ?_
      exact W.iret (v := r4) hx hb hr (fun t9_ ht hW => ⟨⟨r4, (), rfl, trivial, trivial⟩, hS.F ht⟩) hS.2.2 dJ1_indexOf_4cfef_36
    · have t_24 : ¬ v2.toInt < v3.toInt := toI_nlt c_24 rfl rfl
      refine lv_iconst (v := (-1)) hx hb dJ1_indexOf_4cfef_27 (by decide) ?_
      refine W.widen (k := 0) (n := 0) (by decide +kernel) (by decide +kernel) ?_
      exact W.iret (v := (-1)) hx hb hr (fun t9_ ht hW => ⟨⟨((-1) : Int32), (), rfl, trivial, trivial⟩, hS.F ht⟩) hS.2.2 dJ1_indexOf_4cfef_28
  · have t_4 : r1.toInt = 0 := toI_nne c_4 rfl (by decide : (0 : Int32).toInt = 0)
    refine lv_iconst (v := (-1)) hx hb dJ1_indexOf_4cfef_7 (by decide) ?_
    refine W.widen (k := 0) (n := 0) (by decide +kernel) (by decide +kernel) ?_
    exact W.iret (v := (-1)) hx hb hr (fun t9_ ht hW => ⟨⟨((-1) : Int32), (), rfl, trivial, trivial⟩, hS.F ht⟩) hS.2.2 dJ1_indexOf_4cfef_8
theorem dJ0_indexOf_7cf53_0 : decode cJ0_indexOf_7cf53 0 = .ok (.aload_n 0, 1) := dk_42 (by decide +kernel)
theorem dJ0_indexOf_7cf53_1 : decode cJ0_indexOf_7cf53 1 = .ok (.invokevirtual 492, 3) := dk_182 (by decide +kernel)
theorem dJ0_indexOf_7cf53_4 : decode cJ0_indexOf_7cf53 4 = .ok (.ifCond .eq 19, 3) := dk_153 (by decide +kernel)
theorem dJ0_indexOf_7cf53_7 : decode cJ0_indexOf_7cf53 7 = .ok (.aload_n 0, 1) := dk_42 (by decide +kernel)
theorem dJ0_indexOf_7cf53_8 : decode cJ0_indexOf_7cf53 8 = .ok (.getfield 9, 3) := dk_180 (by decide +kernel)
theorem dJ0_indexOf_7cf53_11 : decode cJ0_indexOf_7cf53 11 = .ok (.iload_n 1, 1) := dk_27 (by decide +kernel)
theorem dJ0_indexOf_7cf53_12 : decode cJ0_indexOf_7cf53 12 = .ok (.iload_n 2, 1) := dk_28 (by decide +kernel)
theorem dJ0_indexOf_7cf53_13 : decode cJ0_indexOf_7cf53 13 = .ok (.aload_n 0, 1) := dk_42 (by decide +kernel)
theorem dJ0_indexOf_7cf53_14 : decode cJ0_indexOf_7cf53 14 = .ok (.invokevirtual 505, 3) := dk_182 (by decide +kernel)
theorem dJ0_indexOf_7cf53_17 : decode cJ0_indexOf_7cf53 17 = .ok (.invokestatic 637, 3) := dk_184 (by decide +kernel)
theorem dJ0_indexOf_7cf53_20 : decode cJ0_indexOf_7cf53 20 = .ok (.goto 16, 3) := dk_167 (by decide +kernel)
theorem dJ0_indexOf_7cf53_36 : decode cJ0_indexOf_7cf53 36 = .ok (.ireturn, 1) := dk_172 (by decide +kernel)
def wsMJ0_indexOf_7cf53 : List Cond := .code yJ0_indexOf_7cf53 cJ0_indexOf_7cf53 3 (some .int) :: ([.fieldLink RJ0 9 "java/lang/String" "value" "[B"] ++ (wsV RJ0 492 RJ0 yJ0_isLatin1_aae02 wsRJ0il) ++ (wsV RJ0 505 RJ0 yJ0_length_8abf5 wsMJ0_length_8abf5) ++ (va_wsS RJ0 637 yJ1_indexOf_4cfef wsMJ1_indexOf_4cfef))
theorem gwsMJ0_indexOf_7cf53_0 : GoodIn wsMJ0_indexOf_7cf53 (wsV RJ0 492 RJ0 yJ0_isLatin1_aae02 wsRJ0il) := goodIn_sub (fun _ h => List.mem_cons_of_mem _ (List.mem_append_left _ (List.mem_append_left _ (List.mem_append_right _ h)))) (gdV (by decide +kernel) gdwsRJ0il)
theorem gwsMJ0_indexOf_7cf53_1 : GoodIn wsMJ0_indexOf_7cf53 (wsV RJ0 505 RJ0 yJ0_length_8abf5 wsMJ0_length_8abf5) := goodIn_sub (fun _ h => List.mem_cons_of_mem _ (List.mem_append_left _ (List.mem_append_right _ h))) (gdV (by decide +kernel) gdwsMJ0_length_8abf5)
theorem gwsMJ0_indexOf_7cf53_2 : GoodIn wsMJ0_indexOf_7cf53 (va_wsS RJ0 637 yJ1_indexOf_4cfef wsMJ1_indexOf_4cfef) := goodIn_sub (fun _ h => List.mem_cons_of_mem _ (List.mem_append_right _ h)) (gdS (by decide +kernel) gdwsMJ1_indexOf_4cfef)
theorem gdwsMJ0_indexOf_7cf53 : wsMJ0_indexOf_7cf53.all goodWord = true := gdC rfl (gdA (gdA (gdA (by decide +kernel : ([.fieldLink RJ0 9 "java/lang/String" "value" "[B"] : List Cond).all goodWord = true) (gdV (by decide +kernel) gdwsRJ0il)) (gdV (by decide +kernel) gdwsMJ0_length_8abf5)) (gdS (by decide +kernel) gdwsMJ1_indexOf_4cfef))
set_option maxHeartbeats 4000000 in
set_option maxRecDepth 100000 in
/-- indexOf from -/
theorem m_J0_indexOf_7cf53 (l : Launch) (dC : Nat → ClassId) (dI : Nat → Nat → Nat) (qS : Nat) (nn : Nat) (fB : Nat → Int32) (p1 : Int32) (p2 : Int32) (b_p2 : 0 ≤ p2.toInt ∧ p2.toInt ≤ 0) (hnn : nn ≤ 1000) (sz : Nat) : Met l yJ0_indexOf_7cf53 wsMJ0_indexOf_7cf53 ({ frames := 2, cells := 0, slots := 0, locals := 48 }) (va_Pc [.ref qS, .int p1, .int p2] (fun U => U.heap.size = sz ∧ va_P (dC, dI) vwCl [] U.heap ∧ va_K (dC, dI) vwCl [] U ∧ va_D (fun _ => True) [] ∧ (StrE qS nn fB) (va_A [] sz) U U.heap)) (va_Qi (fun (r : Int32) (u : Unit) => True) (fun (u : Unit) t => True) (va_A [] sz)) 0 0 (va_A [] sz) := by
  refine Met.ofW (cc := cJ0_indexOf_7cf53) (maxL := 3) (ret := (some .int)) (by decide) rfl ?_
  intro p e s m args below meth c s₁ B hml hv
  obtain ⟨rfl, hsz, hP, hK, hD0, hE⟩ := hv
  have hx := B.exec
  have hb := B.bytes
  have hr := B.returns
  have hts := atoms_spec (ws := wsMJ0_indexOf_7cf53) B.pre
  have hown : s.vm.findClass RJ0 = some m.cls := findClass_of_methodNamed B.named
  have hlocks := B.notSynchronized
  subst hsz
  have hD := hD0.self (sz := s.heap.size)
  generalize hAe : va_A [] s.heap.size = A at hD hE ⊢
  have hA : ∀ q : Nat, s.heap.size ≤ q → A q := fun q h => by rw [← hAe]; exact Or.inr h
  have hS : va_S A s.heap s.heap [] := va_S.rf
  have hl := lv_entry ([.ref qS, .int p1, .int p2]) (n := 3) (Nat.le_of_ble_eq_true rfl)
  rw [lg_entry_eq]
  generalize (lg_sl ([.ref qS, .int p1, .int p2]) ++ List.replicate (3 - (lg_sl ([.ref qS, .int p1, .int p2])).length) Slot.unset).toArray = ls at hl ⊢
  have hl : lv_has ls 3 [(0, .ref qS), (1, .int p1), (2, .int p2)] := hl
  refine lv_aload_n hx hb dJ0_indexOf_7cf53_0 rfl (lv_at hl 0 rfl) ?_
  have hFc := noneFree hS hA
  refine va_calli (va_runV (As := []) (rest := []) ⟨hx, hb, hml, hown, hts⟩ (r_J0_isLatin1_aae02 l dC dI qS nn fB s.heap.size) (cwV 0 hts gwsMJ0_indexOf_7cf53_0 rfl rfl rfl hd_yJ0_isLatin1_aae02_RJ0 (by decide +kernel)) ⟨fun a U g mk q => by obtain ⟨q0, q1, qP, qK, qD, qE⟩ := q; exact ⟨q0, q1, qP, va_K.moved (u := U) (U := U.calling g mk a) (Vm.Alike.refl U.vm) qK, qD, qE.same rfl⟩, hE.recv hS, fun U hU9 hW => ⟨rfl, by rw [hU9], by rw [hU9]; exact nilP, va_K.moved hW.alike (hK.sub (tys' := []) [] rfl), nilD, by rw [hU9]; exact (((hE : (StrE qS nn fB) A s s.heap).kept hS.2.1).narrow (fun q h => hFc q h)).warm hW⟩⟩ rfl rfl hl.1 rfl (lv_room (Nat.le_of_ble_eq_true rfl)) dJ0_indexOf_7cf53_1 (by decide +kernel)) hS (fun q _ h => hFc q h) hFc (fun r1 u t9_ H1 locs ht hvm hw9 hB9 hz1 hk1 hS => ?_)
  have f1_0 := hw9
  try dsimp only at f1_0
  clear hB9
  have hP := keepAll hP hk1
  generalize H1 = H at hP hS ⊢
  have hP : va_P (dC, dI) vwCl ([]) H := hP
  have hD : va_D A ([]) := hD
  have e9 : r1 = 1 := f1_0
  subst e9
  refine lv_if_eq (tgt := 23) hx hb dJ0_indexOf_7cf53_4 (by decide) (fun c9 => absurd c9 (by decide)) (fun _ => ?_)
  refine lv_aload_n hx hb dJ0_indexOf_7cf53_7 rfl (lv_at hl 0 rfl) ?_
  obtain ⟨vB, hvB, hfB⟩ := hE.2.2.2
  refine vk_getf hx hb hvB hS hown (hts (.fieldLink RJ0 9 "java/lang/String" "value" "[B") (by decide +kernel)) (fun _ h9 => h9) dJ0_indexOf_7cf53_8 ?_
  refine lv_iload_n hx hb dJ0_indexOf_7cf53_11 rfl (lv_at hl 1 rfl) ?_
  refine lv_iload_n hx hb dJ0_indexOf_7cf53_12 rfl (lv_at hl 2 rfl) ?_
  refine lv_aload_n hx hb dJ0_indexOf_7cf53_13 rfl (lv_at hl 0 rfl) ?_
  have hFc := noneFree hS hA
  refine va_calli (va_runV (As := []) (rest := [.int p2, .int p1, .ref vB]) ⟨hx, hb, hml, hown, hts⟩ (m_J0_length_8abf5 l dC dI qS nn fB (by first | assumption | omega | (rw [iI_t (by omega) (by omega)]; omega) | decide) H.size) (cwV 0 hts gwsMJ0_indexOf_7cf53_1 rfl rfl rfl hd_yJ0_length_8abf5_RJ0 (by decide +kernel)) ⟨fun a U g mk q => by obtain ⟨q0, q1, qP, qK, qD, qE⟩ := q; exact ⟨q0, q1, qP, va_K.moved (u := U) (U := U.calling g mk a) (Vm.Alike.refl U.vm) qK, qD, qE.same rfl⟩, hE.recv hS, fun U hU9 hW => ⟨rfl, by rw [hU9], by rw [hU9]; exact nilP, va_K.moved hW.alike (hK.sub (tys' := []) [] rfl), nilD, by rw [hU9]; exact (((hE : (StrE qS nn fB) A s s.heap).kept hS.2.1).narrow (fun q h => hFc q h)).warm hW⟩⟩ rfl rfl hl.1 rfl (lv_room (Nat.le_of_ble_eq_true rfl)) dJ0_indexOf_7cf53_14 (by decide +kernel)) hS (fun q _ h => hFc q h) hFc (fun r2 u t9_ H1 locs ht hvm hw9 hB9 hz1 hk1 hS => ?_)
  have f2_0 := hw9
  try dsimp only at f2_0
  clear hB9
  have hP := keepAll hP hk1
  generalize H1 = H at hP hS ⊢
  have hP : va_P (dC, dI) vwCl ([]) H := hP
  have hD : va_D A ([]) := hD
  have hFc := noneFree hS hA
  refine va_calli (va_runS (As := [.ref vB, .int p1, .int p2, .int r2]) (rest := []) ⟨hx, hb, hml, hown, hts⟩ (m_J1_indexOf_4cfef l dC dI vB nn fB p1 p2 r2 (b_p2) (by first | exact b_r2 | assumption | exact ⟨by omega, by omega⟩) (by first | assumption | omega | (rw [iI_t (by omega) (by omega)]; omega) | decide) H.size) (va_cwS 4 hts gwsMJ0_indexOf_7cf53_2 rfl rfl rfl (by decide +kernel) ⟨by decide +kernel, by decide +kernel⟩) ⟨fun a U g mk q => by obtain ⟨q0, q1, qP, qK, qD, qE⟩ := q; exact ⟨q0, q1, qP, va_K.moved (u := U) (U := U.calling g mk a) (Vm.Alike.refl U.vm) qK, qD, qE.same rfl⟩, fun U hU9 hW => ⟨rfl, by rw [hU9], by rw [hU9]; exact nilP, va_K.moved hW.alike (hK.sub (tys' := []) [] rfl), nilD, by rw [hU9]; exact ((((show ArrE vB nn fB A s s.heap from ⟨hE.1, hfB⟩) : (ArrE vB nn fB) A s s.heap).kept hS.2.1).narrow (fun q h => hFc q h)).warm hW⟩⟩ rfl rfl hl.1 rfl (lv_room (Nat.le_of_ble_eq_true rfl)) dJ0_indexOf_7cf53_17 (by decide +kernel)) hS (fun q _ h => hFc q h) hFc (fun r3 u t9_ H1 locs ht hvm hw9 hB9 hz1 hk1 hS => ?_)
  clear hw9
  clear hB9
  have hP := keepAll hP hk1
  generalize H1 = H at hP hS ⊢
  have hP : va_P (dC, dI) vwCl ([]) H := hP
  have hD : va_D A ([]) := hD
  refine lv_goto (tgt := 36) hx hb dJ0_indexOf_7cf53_20 (by decide) ?_
  refine W.widen (k := 0) (n := 0) (by decide +kernel) (by decide +kernel) ?_
  exact W.iret (v := r3) hx hb hr (fun t9_ ht hW => ⟨⟨r3, (), rfl, trivial, trivial⟩, hS.F ht⟩) hS.2.2 dJ0_indexOf_7cf53_36
theorem dJ0_indexOf_0f7a4_0 : decode cJ0_indexOf_0f7a4 0 = .ok (.aload_n 0, 1) := dk_42 (by decide +kernel)
theorem dJ0_indexOf_0f7a4_1 : decode cJ0_indexOf_0f7a4 1 = .ok (.iload_n 1, 1) := dk_27 (by decide +kernel)
theorem dJ0_indexOf_0f7a4_2 : decode cJ0_indexOf_0f7a4 2 = .ok (.iconst 0, 1) := dk_3 (by decide +kernel)
theorem dJ0_indexOf_0f7a4_3 : decode cJ0_indexOf_0f7a4 3 = .ok (.invokevirtual 633, 3) := dk_182 (by decide +kernel)
theorem dJ0_indexOf_0f7a4_6 : decode cJ0_indexOf_0f7a4 6 = .ok (.ireturn, 1) := dk_172 (by decide +kernel)
def wsMJ0_indexOf_0f7a4 : List Cond := .code yJ0_indexOf_0f7a4 cJ0_indexOf_0f7a4 2 (some .int) :: ([] ++ (wsV RJ0 633 RJ0 yJ0_indexOf_7cf53 wsMJ0_indexOf_7cf53))
theorem gwsMJ0_indexOf_0f7a4_0 : GoodIn wsMJ0_indexOf_0f7a4 (wsV RJ0 633 RJ0 yJ0_indexOf_7cf53 wsMJ0_indexOf_7cf53) := goodIn_sub (fun _ h => List.mem_cons_of_mem _ (List.mem_append_right _ h)) (gdV (by decide +kernel) gdwsMJ0_indexOf_7cf53)
theorem gdwsMJ0_indexOf_0f7a4 : wsMJ0_indexOf_0f7a4.all goodWord = true := gdC rfl (gdA (by decide +kernel : ([] : List Cond).all goodWord = true) (gdV (by decide +kernel) gdwsMJ0_indexOf_7cf53))
set_option maxHeartbeats 4000000 in
set_option maxRecDepth 100000 in
/-- indexOf -/
theorem m_J0_indexOf_0f7a4 (l : Launch) (dC : Nat → ClassId) (dI : Nat → Nat → Nat) (qS : Nat) (nn : Nat) (fB : Nat → Int32) (p1 : Int32) (hnn : nn ≤ 1000) (sz : Nat) : Met l yJ0_indexOf_0f7a4 wsMJ0_indexOf_0f7a4 ({ frames := 3, cells := 0, slots := 0, locals := 70 }) (va_Pc [.ref qS, .int p1] (fun U => U.heap.size = sz ∧ va_P (dC, dI) vwCl [] U.heap ∧ va_K (dC, dI) vwCl [] U ∧ va_D (fun _ => True) [] ∧ (StrE qS nn fB) (va_A [] sz) U U.heap)) (va_Qi (fun (r : Int32) (u : Unit) => True) (fun (u : Unit) t => True) (va_A [] sz)) 0 0 (va_A [] sz) := by
  refine Met.ofW (cc := cJ0_indexOf_0f7a4) (maxL := 2) (ret := (some .int)) (by decide) rfl ?_
  intro p e s m args below meth c s₁ B hml hv
  obtain ⟨rfl, hsz, hP, hK, hD0, hE⟩ := hv
  have hx := B.exec
  have hb := B.bytes
  have hr := B.returns
  have hts := atoms_spec (ws := wsMJ0_indexOf_0f7a4) B.pre
  have hown : s.vm.findClass RJ0 = some m.cls := findClass_of_methodNamed B.named
  have hlocks := B.notSynchronized
  subst hsz
  have hD := hD0.self (sz := s.heap.size)
  generalize hAe : va_A [] s.heap.size = A at hD hE ⊢
  have hA : ∀ q : Nat, s.heap.size ≤ q → A q := fun q h => by rw [← hAe]; exact Or.inr h
  have hS : va_S A s.heap s.heap [] := va_S.rf
  have hl := lv_entry ([.ref qS, .int p1]) (n := 2) (Nat.le_of_ble_eq_true rfl)
  rw [lg_entry_eq]
  generalize (lg_sl ([.ref qS, .int p1]) ++ List.replicate (2 - (lg_sl ([.ref qS, .int p1])).length) Slot.unset).toArray = ls at hl ⊢
  have hl : lv_has ls 2 [(0, .ref qS), (1, .int p1)] := hl
  refine lv_aload_n hx hb dJ0_indexOf_0f7a4_0 rfl (lv_at hl 0 rfl) ?_
  refine lv_iload_n hx hb dJ0_indexOf_0f7a4_1 rfl (lv_at hl 1 rfl) ?_
  refine lv_iconst (v := 0) hx hb dJ0_indexOf_0f7a4_2 (by decide) ?_
  have hFc := noneFree hS hA
  refine va_calli (va_runV (As := [.int p1, .int 0]) (rest := []) ⟨hx, hb, hml, hown, hts⟩ (m_J0_indexOf_7cf53 l dC dI qS nn fB p1 0 (show 0 ≤ (0 : Int32).toInt ∧ (0 : Int32).toInt ≤ 0 from by decide) (by first | assumption | omega | (rw [iI_t (by omega) (by omega)]; omega) | decide) s.heap.size) (cwV 2 hts gwsMJ0_indexOf_0f7a4_0 rfl rfl rfl hd_yJ0_indexOf_7cf53_RJ0 (by decide +kernel)) ⟨fun a U g mk q => by obtain ⟨q0, q1, qP, qK, qD, qE⟩ := q; exact ⟨q0, q1, qP, va_K.moved (u := U) (U := U.calling g mk a) (Vm.Alike.refl U.vm) qK, qD, qE.same rfl⟩, hE.recv hS, fun U hU9 hW => ⟨rfl, by rw [hU9], by rw [hU9]; exact nilP, va_K.moved hW.alike (hK.sub (tys' := []) [] rfl), nilD, by rw [hU9]; exact (((hE : (StrE qS nn fB) A s s.heap).kept hS.2.1).narrow (fun q h => hFc q h)).warm hW⟩⟩ rfl rfl hl.1 rfl (lv_room (Nat.le_of_ble_eq_true rfl)) dJ0_indexOf_0f7a4_3 (by decide +kernel)) hS (fun q _ h => hFc q h) hFc (fun r1 u t9_ H1 locs ht hvm hw9 hB9 hz1 hk1 hS => ?_)
  clear hw9
  clear hB9
  have hP := keepAll hP hk1
  generalize H1 = H at hP hS ⊢
  have hP : va_P (dC, dI) vwCl ([]) H := hP
  have hD : va_D A ([]) := hD
  refine W.widen (k := 0) (n := 0) (by decide +kernel) (by decide +kernel) ?_
  exact W.iret (v := r1) hx hb hr (fun t9_ ht hW => ⟨⟨r1, (), rfl, trivial, trivial⟩, hS.F ht⟩) hS.2.2 dJ0_indexOf_0f7a4_6

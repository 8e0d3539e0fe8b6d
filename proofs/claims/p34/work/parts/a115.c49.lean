theorem hd_yX12_sayText_RX12 : yX12_sayText.cls = RX12 ∧ yX12_sayText.cls ≠ "java/lang/invoke/MethodHandle" ∧ yX12_sayText.cls ≠ "java/lang/invoke/VarHandle" ∧ (parseMethodDescriptor yX12_sayText.desc).map (fun d => d.parameters.length) = some 2 := by decide +kernel
theorem hd_yX12_sayGoal_RX12 : yX12_sayGoal.cls = RX12 ∧ yX12_sayGoal.cls ≠ "java/lang/invoke/MethodHandle" ∧ yX12_sayGoal.cls ≠ "java/lang/invoke/VarHandle" ∧ (parseMethodDescriptor yX12_sayGoal.desc).map (fun d => d.parameters.length) = some 1 := by decide +kernel
theorem hd_yX12_endLine_RX12 : yX12_endLine.cls = RX12 ∧ yX12_endLine.cls ≠ "java/lang/invoke/MethodHandle" ∧ yX12_endLine.cls ≠ "java/lang/invoke/VarHandle" ∧ (parseMethodDescriptor yX12_endLine.desc).map (fun d => d.parameters.length) = some 0 := by decide +kernel
theorem hd_yX12_sayWay_RX12 : yX12_sayWay.cls = RX12 ∧ yX12_sayWay.cls ≠ "java/lang/invoke/MethodHandle" ∧ yX12_sayWay.cls ≠ "java/lang/invoke/VarHandle" ∧ (parseMethodDescriptor yX12_sayWay.desc).map (fun d => d.parameters.length) = some 1 := by decide +kernel
theorem hd_yX12_byteAt_RX12 : yX12_byteAt.cls = RX12 ∧ yX12_byteAt.cls ≠ "java/lang/invoke/MethodHandle" ∧ yX12_byteAt.cls ≠ "java/lang/invoke/VarHandle" ∧ (parseMethodDescriptor yX12_byteAt.desc).map (fun d => d.parameters.length) = some 1 := by decide +kernel
theorem dX12_sayText_0 : decode cX12_sayText 0 = .ok (.iload_n 1, 1) := dk_27 (by decide +kernel)
theorem dX12_sayText_1 : decode cX12_sayText 1 = .ok (.istore_n 3, 1) := dk_62 (by decide +kernel)
theorem dX12_sayText_2 : decode cX12_sayText 2 = .ok (.iload_n 3, 1) := dk_29 (by decide +kernel)
theorem dX12_sayText_3 : decode cX12_sayText 3 = .ok (.iload_n 2, 1) := dk_28 (by decide +kernel)
theorem dX12_sayText_4 : decode cX12_sayText 4 = .ok (.if_icmp .ge 17, 3) := dk_162 (by decide +kernel)
theorem dX12_sayText_7 : decode cX12_sayText 7 = .ok (.aload_n 0, 1) := dk_42 (by decide +kernel)
theorem dX12_sayText_8 : decode cX12_sayText 8 = .ok (.iload_n 3, 1) := dk_29 (by decide +kernel)
theorem dX12_sayText_9 : decode cX12_sayText 9 = .ok (.invokestatic 952, 3) := dk_184 (by decide +kernel)
theorem dX12_sayText_12 : decode cX12_sayText 12 = .ok (.invokevirtual 936, 3) := dk_182 (by decide +kernel)
theorem dX12_sayText_15 : decode cX12_sayText 15 = .ok (.iinc 3 1, 3) := dk_132 (by decide +kernel)
theorem dX12_sayText_18 : decode cX12_sayText 18 = .ok (.goto (-16), 3) := dk_167 (by decide +kernel)
theorem dX12_sayText_21 : decode cX12_sayText 21 = .ok (.return_, 1) := dk_177 (by decide +kernel)
def wsRX12_sayText : List Cond := .code yX12_sayText cX12_sayText 4 none :: ([] ++ wsX120 ++ (va_wsS RX12 952 yX12_textLetter wsRX12_textLetter) ++ (wsV RX12 936 RX12 yX12_say wsRX12_say))
theorem iwsRX12_sayText_in12 : ∀ w ∈ wsX120, w ∈ wsRX12_sayText := fun _ h => List.mem_cons_of_mem _ (List.mem_append_left _ (List.mem_append_left _ (List.mem_append_right _ h)))
theorem gwsRX12_sayText_0 : GoodIn wsRX12_sayText (va_wsS RX12 952 yX12_textLetter wsRX12_textLetter) := goodIn_sub (fun _ h => List.mem_cons_of_mem _ (List.mem_append_left _ (List.mem_append_right _ h))) (gdS (by decide +kernel) gdwsRX12_textLetter)
theorem gwsRX12_sayText_1 : GoodIn wsRX12_sayText (wsV RX12 936 RX12 yX12_say wsRX12_say) := goodIn_sub (fun _ h => List.mem_cons_of_mem _ (List.mem_append_right _ h)) (gdV (by decide +kernel) gdwsRX12_say)
theorem gdwsRX12_sayText : wsRX12_sayText.all goodWord = true := gdC rfl (gdA (gdA (gdA (by decide +kernel : ([] : List Cond).all goodWord = true) gdwsX120) (gdS (by decide +kernel) gdwsRX12_textLetter)) (gdV (by decide +kernel) gdwsRX12_say))
set_option maxHeartbeats 4000000 in
set_option maxRecDepth 100000 in
/-- sayText(begin, end) -/
theorem r_X12_sayText (l : Launch) (dC : Nat → ClassId) (dI : Nat → Nat → Nat) (a : Nat → Nat) (k : Nat → ClassId) (h0 : Nat) (vi : Nat → Int32) (vj : Nat → Int64) (vF : Nat → Nat → Int32) (vG : Nat → Nat → Int64) (bn : Nat) (en : Nat) (pn : Nat) (hpn : vi 125 = nI pn) (hpn2 : pn ≤ 30000) (hen : en ≤ 63) (hbn : bn ≤ 63) (sz : Nat) : Met l yX12_sayText wsRX12_sayText ({ frames := 5, cells := 0, slots := 0, locals := 105 }) (va_Pc [.ref h0, .int (nI bn), .int (nI en)] (fun U => U.heap.size = sz ∧ va_P (dC, dI) vwCl (WR a k h0 vi vj vF vG) U.heap ∧ va_K (dC, dI) vwCl (tX12 k) U ∧ va_D (fun _ => True) (WR a k h0 vi vj vF vG) ∧ StrA (va_A (WR a k h0 vi vj vF vG) sz) U U.heap)) (va_Qv (fun (u : (Nat) × (Nat → Int32)) => ((u.1) ≤ 30000)) (fun (u : (Nat) × (Nat → Int32)) t => va_P (dC, dI) vwCl (WR a k h0 (fT vi 125 (nI (u.1))) vj (fT vF 75 (u.2)) vG) t.heap ∧ va_D (va_A (WR a k h0 vi vj vF vG) sz) (WR a k h0 (fT vi 125 (nI (u.1))) vj (fT vF 75 (u.2)) vG)) (va_A (WR a k h0 vi vj vF vG) sz)) 0 0 (va_A (WR a k h0 vi vj vF vG) sz) := by
  refine Met.ofW (cc := cX12_sayText) (maxL := 4) (ret := none) (by decide) rfl ?_
  intro p e s m args below meth c s₁ B hml hv
  obtain ⟨rfl, hsz, hP, hK, hD0, hE⟩ := hv
  have hx := B.exec
  have hb := B.bytes
  have hr := B.returns
  have hts := atoms_spec (ws := wsRX12_sayText) B.pre
  have hown : s.vm.findClass RX12 = some m.cls := findClass_of_methodNamed B.named
  have hlocks := B.notSynchronized
  subst hsz
  have hD := hD0.self (sz := s.heap.size)
  generalize hAe : va_A (WR a k h0 vi vj vF vG) s.heap.size = A at hD hE ⊢
  have hA : ∀ q : Nat, s.heap.size ≤ q → A q := fun q h => by rw [← hAe]; exact Or.inr h
  have hS : va_S A s.heap s.heap [] := va_S.rf
  have hl := lv_entry ([.ref h0, .int (nI bn), .int (nI en)]) (n := 4) (Nat.le_of_ble_eq_true rfl)
  rw [lg_entry_eq]
  generalize (lg_sl ([.ref h0, .int (nI bn), .int (nI en)]) ++ List.replicate (4 - (lg_sl ([.ref h0, .int (nI bn), .int (nI en)])).length) Slot.unset).toArray = ls at hl ⊢
  have hl : lv_has ls 4 [(0, .ref h0), (1, .int (nI bn)), (2, .int (nI en))] := hl
  refine lv_iload_n hx hb dX12_sayText_0 rfl (lv_at hl 1 rfl) ?_
  refine lv_istore_n hx hb dX12_sayText_1 rfl hl (by decide) rfl (fun ls (hl : lv_has ls _ ([(3, .int (nI bn)), (0, .ref h0), (1, .int (nI bn)), (2, .int (nI en))])) => ?_)
  have e9 : fT vi 125 (nI pn) = vi := by funext q9; by_cases h9_125 : q9 = 125; (subst h9_125; exact (fT_eq _ _ _).trans (Eq.trans (by first | rfl | assumption | (symm; assumption) | (subst_vars; rfl)) (Eq.refl _).symm)); exact (fT_ne _ _ h9_125).trans (Eq.refl _).symm
  have hP : va_P (dC, dI) vwCl (WR a k h0 (fT vi 125 (nI pn)) vj vF vG) s.heap := by rw [e9]; exact hP
  have hD : va_D A (WR a k h0 (fT vi 125 (nI pn)) vj vF vG) := by rw [e9]; exact hD
  clear e9
  have e9 : fT vF 75 (vF 75) = vF := by funext q9; by_cases h9_75 : q9 = 75; (subst h9_75; exact (fT_eq _ _ _).trans (Eq.trans (by first | rfl | assumption | (symm; assumption) | (subst_vars; rfl)) (Eq.refl _).symm)); exact (fT_ne _ _ h9_75).trans (Eq.refl _).symm
  have hP : va_P (dC, dI) vwCl (WR a k h0 (fT vi 125 (nI pn)) vj (fT vF 75 (vF 75)) vG) s.heap := by rw [e9]; exact hP
  have hD : va_D A (WR a k h0 (fT vi 125 (nI pn)) vj (fT vF 75 (vF 75)) vG) := by rw [e9]; exact hD
  clear e9
  have hl : lv_has _ _ ([(0, .ref h0), (1, .int (nI bn)), (2, .int (nI en)), (3, .int (nI bn))]) := lv_sub hl [1, 2, 3, 0] rfl
  refine (fun (loop : ∀ (n9 : Nat) (k5 : Nat) (x1_i125 : Nat) (x1_F75 : Nat → Int32) (H : Heap) (locs : List Loc) (ls : Array Slot), (k5 ≤ 63) → (x1_i125 ≤ 30000) →  (63 < k5 + n9) → va_P (dC, dI) vwCl (WR a k h0 (fT vi 125 (nI x1_i125)) vj (fT vF 75 x1_F75) vG) H → va_D A (WR a k h0 (fT vi 125 (nI x1_i125)) vj (fT vF 75 x1_F75) vG) → va_S A s.heap H locs → lv_has ls 4 [(0, .ref h0), (1, .int (nI bn)), (2, .int (nI en)), (3, .int (nI k5))] → W p l e _ s m _ below meth c H locs 0 0 _ (F0 m 2 ls [])) => loop (64) bn pn (vF 75) _ _ _ (by omega) (by first | assumption | omega) (by omega) hP hD hS hl) ?_
  intro n9
  induction n9 with
  | zero => intro k5 x1_i125 x1_F75 H locs ls hk5 hx1_i125 hf9; exact False.elim (by omega)
  | succ n9 ih2 =>
    intro k5 x1_i125 x1_F75 H locs ls hk5 hx1_i125 hf2 hP hD hS hl
    refine lv_iload_n hx hb dX12_sayText_2 rfl (lv_at hl 3 rfl) ?_
    refine lv_iload_n hx hb dX12_sayText_3 rfl (lv_at hl 2 rfl) ?_
    refine lv_icmp_ge (tgt := 21) hx hb dX12_sayText_4 (by decide) (fun c_4 => ?_) (fun c_4 => ?_)
    · have t_4 : ((k5 : Nat) : Int) ≥ ((en : Nat) : Int) := toI_ge c_4 (nI_toInt (by omega)) (nI_toInt (by omega))
      refine W.widen (k := 0) (n := 0) (by decide +kernel) (by decide +kernel) ?_
      exact W.vret hx hb hr (fun t9_ ht hW => ⟨⟨(x1_i125, x1_F75), rfl, by (try dsimp only); first | assumption | omega, by rw [ht]; exact hP, hD⟩, hS.F ht⟩) hS.2.2 dX12_sayText_21
    · have t_4 : ¬ ((k5 : Nat) : Int) ≥ ((en : Nat) : Int) := toI_nge c_4 (nI_toInt (by omega)) (nI_toInt (by omega))
      refine lv_aload_n hx hb dX12_sayText_7 rfl (lv_at hl 0 rfl) ?_
      refine lv_iload_n hx hb dX12_sayText_8 rfl (lv_at hl 3 rfl) ?_
      have hFc := noneFree hS hA
      refine va_calli (va_runS (As := [.int (nI k5)]) (rest := [.ref h0]) ⟨hx, hb, hml, hown, hts⟩ (r_X12_textLetter l dC dI k5 (by first | assumption | decide | omega | rfl) H.size) (va_cwS 1 hts gwsRX12_sayText_0 rfl rfl rfl (by decide +kernel) ⟨by decide +kernel, by decide +kernel⟩) ⟨fun a U g mk q => by obtain ⟨q0, q1, qP, qK, qD, qE⟩ := q; exact ⟨q0, q1, qP, va_K.moved (u := U) (U := U.calling g mk a) (Vm.Alike.refl U.vm) qK, qD, qE.same rfl⟩, fun U hU9 hW => ⟨rfl, by rw [hU9], by rw [hU9]; exact nilP, va_K.moved hW.alike (hK.sub (tys' := []) [] rfl), nilD, by rw [hU9]; exact (((hE : StrA A s s.heap).kept hS.2.1).narrow (fun q h => hFc q h)).warm hW⟩⟩ rfl rfl hl.1 rfl (lv_room (Nat.le_of_ble_eq_true rfl)) dX12_sayText_9 (by decide +kernel)) hS (fun q _ h => hFc q h) hFc (fun r9 u t9_ H1 locs ht hvm hw9 hB9 hz1 hk1 hS => ?_)
      have hP := keepAll hP hk1
      clear hB9
      generalize H1 = H at hP hS ⊢
      have hP : va_P (dC, dI) vwCl (WR a k h0 (fT vi 125 (nI x1_i125)) vj (fT vF 75 x1_F75) vG) H := hP
      have hD : va_D A (WR a k h0 (fT vi 125 (nI x1_i125)) vj (fT vF 75 x1_F75) vG) := hD
      have hFc := allFree hD hS hA
      refine va_callv (va_runV (As := [.int r9]) (rest := []) ⟨hx, hb, hml, hown, hts⟩ (r_X12_say l dC dI a k h0 (fT vi 125 (nI x1_i125)) vj (fT vF 75 x1_F75) vG r9 x1_i125 rfl (by first | assumption | decide | omega | rfl) H.size) (cwV 1 hts gwsRX12_sayText_1 rfl rfl rfl hd_yX12_say_RX12 (by decide +kernel)) (fz_pre (va_recv hK hP (ci := 12) (q0 := 0) rfl rfl) hP hK hD) rfl rfl hl.1 rfl (lv_room (Nat.le_of_ble_eq_true rfl)) dX12_sayText_12 (by decide +kernel)) hS (fun q _ h => hFc q h) hFc (fun u t9_ H locs ht hvm hw9 hB9 hz1 hk1 hS => ?_)
      obtain ⟨p212, f7512⟩ := u
      try dsimp only at hw9 hB9
      have hP : va_P (dC, dI) vwCl (WR a k h0 (fT (fT vi 125 (nI x1_i125)) 125 (nI p212)) vj (fT (fT vF 75 x1_F75) 75 f7512) vG) H := fz_P ht hB9.1
      have hD : va_D A (WR a k h0 (fT (fT vi 125 (nI x1_i125)) 125 (nI p212)) vj (fT (fT vF 75 x1_F75) 75 f7512) vG) := hB9.2.weaken (fun _ q _ h => hFc q.1 h)
      have e9 : fT vi 125 (nI p212) = fT (fT vi 125 (nI x1_i125)) 125 (nI p212) := (fT_sm _ _ _ _).symm
      rw [← e9] at hP hD
      clear e9
      have e9 : fT vF 75 f7512 = fT (fT vF 75 x1_F75) 75 f7512 := (fT_sm _ _ _ _).symm
      rw [← e9] at hP hD
      clear e9
      have hP : va_P (dC, dI) vwCl (WR a k h0 (fT vi 125 (nI p212)) vj (fT vF 75 f7512) vG) H := hP
      have hD : va_D A (WR a k h0 (fT vi 125 (nI p212)) vj (fT vF 75 f7512) vG) := hD
      obtain ⟨f12_0, f12_1, f12_2⟩ := hw9
      refine lv_iinc (v := (nI (k5 + 1))) hx hb dX12_sayText_15 hl (k := 3) rfl (nI_add k5 1) (by decide) rfl (fun ls (hl : lv_has ls _ ([(3, .int (nI (k5 + 1))), (0, .ref h0), (1, .int (nI bn)), (2, .int (nI en))])) => ?_)
      refine lv_goto (tgt := 2) hx hb dX12_sayText_18 (by decide) ?_
      have hl : lv_has _ _ ([(0, .ref h0), (1, .int (nI bn)), (2, .int (nI en)), (3, .int (nI (k5 + 1)))]) := lv_sub hl [1, 2, 3, 0] rfl
      exact ih2 (k5 + 1) p212 f7512 _ _ _ (by omega) (by first | assumption | omega) (by omega) hP hD hS hl
theorem dX12_sayGoal_0 : decode cX12_sayGoal 0 = .ok (.aload_n 0, 1) := dk_42 (by decide +kernel)
theorem dX12_sayGoal_1 : decode cX12_sayGoal 1 = .ok (.aload_n 0, 1) := dk_42 (by decide +kernel)
theorem dX12_sayGoal_2 : decode cX12_sayGoal 2 = .ok (.getfield 218, 3) := dk_180 (by decide +kernel)
theorem dX12_sayGoal_5 : decode cX12_sayGoal 5 = .ok (.iload_n 1, 1) := dk_27 (by decide +kernel)
theorem dX12_sayGoal_6 : decode cX12_sayGoal 6 = .ok (.iaload, 1) := dk_46 (by decide +kernel)
theorem dX12_sayGoal_7 : decode cX12_sayGoal 7 = .ok (.iconst 1, 1) := dk_4 (by decide +kernel)
theorem dX12_sayGoal_8 : decode cX12_sayGoal 8 = .ok (.if_icmp .ne 8, 3) := dk_160 (by decide +kernel)
theorem dX12_sayGoal_11 : decode cX12_sayGoal 11 = .ok (.bipush 57, 2) := dk_16 (by decide +kernel)
theorem dX12_sayGoal_13 : decode cX12_sayGoal 13 = .ok (.goto 5, 3) := dk_167 (by decide +kernel)
theorem dX12_sayGoal_16 : decode cX12_sayGoal 16 = .ok (.bipush 53, 2) := dk_16 (by decide +kernel)
theorem dX12_sayGoal_18 : decode cX12_sayGoal 18 = .ok (.aload_n 0, 1) := dk_42 (by decide +kernel)
theorem dX12_sayGoal_19 : decode cX12_sayGoal 19 = .ok (.getfield 218, 3) := dk_180 (by decide +kernel)
theorem dX12_sayGoal_22 : decode cX12_sayGoal 22 = .ok (.iload_n 1, 1) := dk_27 (by decide +kernel)
theorem dX12_sayGoal_23 : decode cX12_sayGoal 23 = .ok (.iaload, 1) := dk_46 (by decide +kernel)
theorem dX12_sayGoal_24 : decode cX12_sayGoal 24 = .ok (.iconst 1, 1) := dk_4 (by decide +kernel)
theorem dX12_sayGoal_25 : decode cX12_sayGoal 25 = .ok (.if_icmp .ne 8, 3) := dk_160 (by decide +kernel)
theorem dX12_sayGoal_28 : decode cX12_sayGoal 28 = .ok (.bipush 61, 2) := dk_16 (by decide +kernel)
theorem dX12_sayGoal_30 : decode cX12_sayGoal 30 = .ok (.goto 5, 3) := dk_167 (by decide +kernel)
theorem dX12_sayGoal_33 : decode cX12_sayGoal 33 = .ok (.bipush 57, 2) := dk_16 (by decide +kernel)
theorem dX12_sayGoal_35 : decode cX12_sayGoal 35 = .ok (.invokevirtual 965, 3) := dk_182 (by decide +kernel)
theorem dX12_sayGoal_38 : decode cX12_sayGoal 38 = .ok (.iconst 0, 1) := dk_3 (by decide +kernel)
theorem dX12_sayGoal_39 : decode cX12_sayGoal 39 = .ok (.istore_n 2, 1) := dk_61 (by decide +kernel)
theorem dX12_sayGoal_40 : decode cX12_sayGoal 40 = .ok (.iconst 0, 1) := dk_3 (by decide +kernel)
theorem dX12_sayGoal_41 : decode cX12_sayGoal 41 = .ok (.istore_n 3, 1) := dk_62 (by decide +kernel)
theorem dX12_sayGoal_42 : decode cX12_sayGoal 42 = .ok (.iload_n 3, 1) := dk_29 (by decide +kernel)
theorem dX12_sayGoal_43 : decode cX12_sayGoal 43 = .ok (.aload_n 0, 1) := dk_42 (by decide +kernel)
theorem dX12_sayGoal_44 : decode cX12_sayGoal 44 = .ok (.getfield 774, 3) := dk_180 (by decide +kernel)
theorem dX12_sayGoal_47 : decode cX12_sayGoal 47 = .ok (.if_icmp .ge 55, 3) := dk_162 (by decide +kernel)
theorem dX12_sayGoal_50 : decode cX12_sayGoal 50 = .ok (.aload_n 0, 1) := dk_42 (by decide +kernel)
theorem dX12_sayGoal_51 : decode cX12_sayGoal 51 = .ok (.getfield 212, 3) := dk_180 (by decide +kernel)
theorem dX12_sayGoal_54 : decode cX12_sayGoal 54 = .ok (.bipush 9, 2) := dk_16 (by decide +kernel)
theorem dX12_sayGoal_56 : decode cX12_sayGoal 56 = .ok (.iload_n 1, 1) := dk_27 (by decide +kernel)
theorem dX12_sayGoal_57 : decode cX12_sayGoal 57 = .ok (.imul, 1) := dk_104 (by decide +kernel)
theorem dX12_sayGoal_58 : decode cX12_sayGoal 58 = .ok (.iconst 1, 1) := dk_4 (by decide +kernel)
theorem dX12_sayGoal_59 : decode cX12_sayGoal 59 = .ok (.iadd, 1) := dk_96 (by decide +kernel)
theorem dX12_sayGoal_60 : decode cX12_sayGoal 60 = .ok (.iload_n 3, 1) := dk_29 (by decide +kernel)
theorem dX12_sayGoal_61 : decode cX12_sayGoal 61 = .ok (.iadd, 1) := dk_96 (by decide +kernel)
theorem dX12_sayGoal_62 : decode cX12_sayGoal 62 = .ok (.iaload, 1) := dk_46 (by decide +kernel)
theorem dX12_sayGoal_63 : decode cX12_sayGoal 63 = .ok (.istore 4, 2) := dk_54 (by decide +kernel)
theorem dX12_sayGoal_65 : decode cX12_sayGoal 65 = .ok (.iload 4, 2) := dk_21 (by decide +kernel)
theorem dX12_sayGoal_67 : decode cX12_sayGoal 67 = .ok (.ifCond .ne 6, 3) := dk_154 (by decide +kernel)
theorem dX12_sayGoal_70 : decode cX12_sayGoal 70 = .ok (.goto 26, 3) := dk_167 (by decide +kernel)
theorem dX12_sayGoal_73 : decode cX12_sayGoal 73 = .ok (.aload_n 0, 1) := dk_42 (by decide +kernel)
theorem dX12_sayGoal_74 : decode cX12_sayGoal 74 = .ok (.iload 4, 2) := dk_21 (by decide +kernel)
theorem dX12_sayGoal_76 : decode cX12_sayGoal 76 = .ok (.aload_n 0, 1) := dk_42 (by decide +kernel)
theorem dX12_sayGoal_77 : decode cX12_sayGoal 77 = .ok (.getfield 215, 3) := dk_180 (by decide +kernel)
theorem dX12_sayGoal_80 : decode cX12_sayGoal 80 = .ok (.bipush 9, 2) := dk_16 (by decide +kernel)
theorem dX12_sayGoal_82 : decode cX12_sayGoal 82 = .ok (.iload_n 1, 1) := dk_27 (by decide +kernel)
theorem dX12_sayGoal_83 : decode cX12_sayGoal 83 = .ok (.imul, 1) := dk_104 (by decide +kernel)
theorem dX12_sayGoal_84 : decode cX12_sayGoal 84 = .ok (.iconst 1, 1) := dk_4 (by decide +kernel)
theorem dX12_sayGoal_85 : decode cX12_sayGoal 85 = .ok (.iadd, 1) := dk_96 (by decide +kernel)
theorem dX12_sayGoal_86 : decode cX12_sayGoal 86 = .ok (.iload_n 3, 1) := dk_29 (by decide +kernel)
theorem dX12_sayGoal_87 : decode cX12_sayGoal 87 = .ok (.iadd, 1) := dk_96 (by decide +kernel)
theorem dX12_sayGoal_88 : decode cX12_sayGoal 88 = .ok (.iaload, 1) := dk_46 (by decide +kernel)
theorem dX12_sayGoal_89 : decode cX12_sayGoal 89 = .ok (.iload_n 3, 1) := dk_29 (by decide +kernel)
theorem dX12_sayGoal_90 : decode cX12_sayGoal 90 = .ok (.iload_n 2, 1) := dk_28 (by decide +kernel)
theorem dX12_sayGoal_91 : decode cX12_sayGoal 91 = .ok (.invokevirtual 961, 3) := dk_182 (by decide +kernel)
theorem dX12_sayGoal_94 : decode cX12_sayGoal 94 = .ok (.iconst 1, 1) := dk_4 (by decide +kernel)
theorem dX12_sayGoal_95 : decode cX12_sayGoal 95 = .ok (.istore_n 2, 1) := dk_61 (by decide +kernel)
theorem dX12_sayGoal_96 : decode cX12_sayGoal 96 = .ok (.iinc 3 1, 3) := dk_132 (by decide +kernel)
theorem dX12_sayGoal_99 : decode cX12_sayGoal 99 = .ok (.goto (-57), 3) := dk_167 (by decide +kernel)
theorem dX12_sayGoal_102 : decode cX12_sayGoal 102 = .ok (.aload_n 0, 1) := dk_42 (by decide +kernel)
theorem dX12_sayGoal_103 : decode cX12_sayGoal 103 = .ok (.getfield 212, 3) := dk_180 (by decide +kernel)
theorem dX12_sayGoal_106 : decode cX12_sayGoal 106 = .ok (.bipush 9, 2) := dk_16 (by decide +kernel)
theorem dX12_sayGoal_108 : decode cX12_sayGoal 108 = .ok (.iload_n 1, 1) := dk_27 (by decide +kernel)
theorem dX12_sayGoal_109 : decode cX12_sayGoal 109 = .ok (.imul, 1) := dk_104 (by decide +kernel)
theorem dX12_sayGoal_110 : decode cX12_sayGoal 110 = .ok (.iaload, 1) := dk_46 (by decide +kernel)
theorem dX12_sayGoal_111 : decode cX12_sayGoal 111 = .ok (.ifCond .eq 30, 3) := dk_153 (by decide +kernel)
theorem dX12_sayGoal_114 : decode cX12_sayGoal 114 = .ok (.aload_n 0, 1) := dk_42 (by decide +kernel)
theorem dX12_sayGoal_115 : decode cX12_sayGoal 115 = .ok (.aload_n 0, 1) := dk_42 (by decide +kernel)
theorem dX12_sayGoal_116 : decode cX12_sayGoal 116 = .ok (.getfield 212, 3) := dk_180 (by decide +kernel)
theorem dX12_sayGoal_119 : decode cX12_sayGoal 119 = .ok (.bipush 9, 2) := dk_16 (by decide +kernel)
theorem dX12_sayGoal_121 : decode cX12_sayGoal 121 = .ok (.iload_n 1, 1) := dk_27 (by decide +kernel)
theorem dX12_sayGoal_122 : decode cX12_sayGoal 122 = .ok (.imul, 1) := dk_104 (by decide +kernel)
theorem dX12_sayGoal_123 : decode cX12_sayGoal 123 = .ok (.iaload, 1) := dk_46 (by decide +kernel)
theorem dX12_sayGoal_124 : decode cX12_sayGoal 124 = .ok (.aload_n 0, 1) := dk_42 (by decide +kernel)
theorem dX12_sayGoal_125 : decode cX12_sayGoal 125 = .ok (.getfield 215, 3) := dk_180 (by decide +kernel)
theorem dX12_sayGoal_128 : decode cX12_sayGoal 128 = .ok (.bipush 9, 2) := dk_16 (by decide +kernel)
theorem dX12_sayGoal_130 : decode cX12_sayGoal 130 = .ok (.iload_n 1, 1) := dk_27 (by decide +kernel)
theorem dX12_sayGoal_131 : decode cX12_sayGoal 131 = .ok (.imul, 1) := dk_104 (by decide +kernel)
theorem dX12_sayGoal_132 : decode cX12_sayGoal 132 = .ok (.iaload, 1) := dk_46 (by decide +kernel)
theorem dX12_sayGoal_133 : decode cX12_sayGoal 133 = .ok (.iconst (-1), 1) := dk_2 (by decide +kernel)
theorem dX12_sayGoal_134 : decode cX12_sayGoal 134 = .ok (.iload_n 2, 1) := dk_28 (by decide +kernel)
theorem dX12_sayGoal_135 : decode cX12_sayGoal 135 = .ok (.invokevirtual 961, 3) := dk_182 (by decide +kernel)
theorem dX12_sayGoal_138 : decode cX12_sayGoal 138 = .ok (.goto 13, 3) := dk_167 (by decide +kernel)
theorem dX12_sayGoal_141 : decode cX12_sayGoal 141 = .ok (.iload_n 2, 1) := dk_28 (by decide +kernel)
theorem dX12_sayGoal_142 : decode cX12_sayGoal 142 = .ok (.ifCond .ne 9, 3) := dk_154 (by decide +kernel)
theorem dX12_sayGoal_145 : decode cX12_sayGoal 145 = .ok (.aload_n 0, 1) := dk_42 (by decide +kernel)
theorem dX12_sayGoal_146 : decode cX12_sayGoal 146 = .ok (.bipush 48, 2) := dk_16 (by decide +kernel)
theorem dX12_sayGoal_148 : decode cX12_sayGoal 148 = .ok (.invokevirtual 936, 3) := dk_182 (by decide +kernel)
theorem dX12_sayGoal_151 : decode cX12_sayGoal 151 = .ok (.return_, 1) := dk_177 (by decide +kernel)
def wsRX12_sayGoal : List Cond := .code yX12_sayGoal cX12_sayGoal 5 none :: ([.fieldLink RX12 218 "OptimaWorksModel" "goalMax" "[I", .fieldLink RX12 774 "OptimaWorksModel" "variables" "I", .fieldLink RX12 212 "OptimaWorksModel" "goalTop" "[I", .fieldLink RX12 215 "OptimaWorksModel" "goalUnder" "[I"] ++ wsX120 ++ (wsV RX12 965 RX12 yX12_sayText wsRX12_sayText) ++ (wsV RX12 936 RX12 yX12_say wsRX12_say) ++ (wsV RX12 961 RX12 yX12_sayTerm wsRX12_sayTerm))
theorem iwsRX12_sayGoal_in12 : ∀ w ∈ wsX120, w ∈ wsRX12_sayGoal := fun _ h => List.mem_cons_of_mem _ (List.mem_append_left _ (List.mem_append_left _ (List.mem_append_left _ (List.mem_append_right _ h))))
theorem gwsRX12_sayGoal_0 : GoodIn wsRX12_sayGoal (wsV RX12 965 RX12 yX12_sayText wsRX12_sayText) := goodIn_sub (fun _ h => List.mem_cons_of_mem _ (List.mem_append_left _ (List.mem_append_left _ (List.mem_append_right _ h)))) (gdV (by decide +kernel) gdwsRX12_sayText)
theorem gwsRX12_sayGoal_1 : GoodIn wsRX12_sayGoal (wsV RX12 936 RX12 yX12_say wsRX12_say) := goodIn_sub (fun _ h => List.mem_cons_of_mem _ (List.mem_append_left _ (List.mem_append_right _ h))) (gdV (by decide +kernel) gdwsRX12_say)
theorem gwsRX12_sayGoal_2 : GoodIn wsRX12_sayGoal (wsV RX12 961 RX12 yX12_sayTerm wsRX12_sayTerm) := goodIn_sub (fun _ h => List.mem_cons_of_mem _ (List.mem_append_right _ h)) (gdV (by decide +kernel) gdwsRX12_sayTerm)
theorem gdwsRX12_sayGoal : wsRX12_sayGoal.all goodWord = true := gdC rfl (gdA (gdA (gdA (gdA (by decide +kernel : ([.fieldLink RX12 218 "OptimaWorksModel" "goalMax" "[I", .fieldLink RX12 774 "OptimaWorksModel" "variables" "I", .fieldLink RX12 212 "OptimaWorksModel" "goalTop" "[I", .fieldLink RX12 215 "OptimaWorksModel" "goalUnder" "[I"] : List Cond).all goodWord = true) gdwsX120) (gdV (by decide +kernel) gdwsRX12_sayText)) (gdV (by decide +kernel) gdwsRX12_say)) (gdV (by decide +kernel) gdwsRX12_sayTerm))
set_option maxHeartbeats 4000000 in
set_option maxRecDepth 100000 in
/-- sayGoal(g) -/
theorem r_X12_sayGoal (l : Launch) (dC : Nat → ClassId) (dI : Nat → Nat → Nat) (a : Nat → Nat) (k : Nat → ClassId) (h0 : Nat) (vi : Nat → Int32) (vj : Nat → Int64) (vF : Nat → Nat → Int32) (vG : Nat → Nat → Int64) (gn : Nat) (vn : Nat) (gq : Nat) (pn : Nat) (hpn : vi 125 = nI pn) (hpn2 : pn ≤ 30000) (hvn : vi 90 = nI vn) (hvn8 : vn ≤ 8) (hgq : gq ≤ 3) (hM : MdlB vF gq) (hgn : gn < gq) (sz : Nat) : Met l yX12_sayGoal wsRX12_sayGoal ({ frames := 6, cells := 0, slots := 0, locals := 128 }) (va_Pc [.ref h0, .int (nI gn)] (fun U => U.heap.size = sz ∧ va_P (dC, dI) vwCl (WR a k h0 vi vj vF vG) U.heap ∧ va_K (dC, dI) vwCl (tX12 k) U ∧ va_D (fun _ => True) (WR a k h0 vi vj vF vG) ∧ StrA (va_A (WR a k h0 vi vj vF vG) sz) U U.heap)) (va_Qv (fun (u : (Nat) × (Nat → Int32)) => ((u.1) ≤ 30000)) (fun (u : (Nat) × (Nat → Int32)) t => va_P (dC, dI) vwCl (WR a k h0 (fT vi 125 (nI (u.1))) vj (fT vF 75 (u.2)) vG) t.heap ∧ va_D (va_A (WR a k h0 vi vj vF vG) sz) (WR a k h0 (fT vi 125 (nI (u.1))) vj (fT vF 75 (u.2)) vG)) (va_A (WR a k h0 vi vj vF vG) sz)) 0 0 (va_A (WR a k h0 vi vj vF vG) sz) := by
  refine Met.ofW (cc := cX12_sayGoal) (maxL := 5) (ret := none) (by decide) rfl ?_
  intro p e s m args below meth c s₁ B hml hv
  obtain ⟨rfl, hsz, hP, hK, hD0, hE⟩ := hv
  have hx := B.exec
  have hb := B.bytes
  have hr := B.returns
  have hts := atoms_spec (ws := wsRX12_sayGoal) B.pre
  have hown : s.vm.findClass RX12 = some m.cls := findClass_of_methodNamed B.named
  have hlocks := B.notSynchronized
  subst hsz
  have hD := hD0.self (sz := s.heap.size)
  generalize hAe : va_A (WR a k h0 vi vj vF vG) s.heap.size = A at hD hE ⊢
  have hA : ∀ q : Nat, s.heap.size ≤ q → A q := fun q h => by rw [← hAe]; exact Or.inr h
  have hS : va_S A s.heap s.heap [] := va_S.rf
  have hl := lv_entry ([.ref h0, .int (nI gn)]) (n := 5) (Nat.le_of_ble_eq_true rfl)
  rw [lg_entry_eq]
  generalize (lg_sl ([.ref h0, .int (nI gn)]) ++ List.replicate (5 - (lg_sl ([.ref h0, .int (nI gn)])).length) Slot.unset).toArray = ls at hl ⊢
  have hl : lv_has ls 5 [(0, .ref h0), (1, .int (nI gn))] := hl
  refine lv_aload_n hx hb dX12_sayGoal_0 rfl (lv_at hl 0 rfl) ?_
  refine lv_aload_n hx hb dX12_sayGoal_1 rfl (lv_at hl 0 rfl) ?_
  refine va_get (D := (dC, dI)) (ci := 12) (v := .ref (a 65)) (C := RX12) (T := TX12) (N := 163) (fs := fM (vS a vi vj)) hx hb hts iwsRX12_sayGoal_in12 hown hK hP 0 rfl rfl 105 (by decide) (hts (.fieldLink RX12 218 "OptimaWorksModel" "goalMax" "[I") (by decide +kernel)) (fun _ h9 => h9) rfl dX12_sayGoal_2 ?_
  refine lv_iload_n hx hb dX12_sayGoal_5 rfl (lv_at hl 1 rfl) ?_
  refine va_iald (cA := k 65) (n := 3) (f := (vF 65)) hx hb hK hP 66 65 (WR_get 65 (by decide)) (TR_get 65 (by decide)) (vp_in_nI (show gn < 3 by omega) (by omega)) dX12_sayGoal_6 ?_
  refine lv_topi (fun y1 hy1 => ?_)
  obtain rfl : ((vF 65) gn) = y1 := (hy1.trans (by rw [nI_clamp (by omega)])).symm
  refine lv_iconst (v := 1) hx hb dX12_sayGoal_7 (by decide) ?_
  refine W.cut (pc := 35) (fun H locs ls stk => ∃ (e9 : Nat) (b9 : Nat), (e9 ≤ 63 ∧ b9 ≤ 63) ∧  stk = [.int (nI e9), .int (nI b9), .ref h0] ∧ va_P (dC, dI) vwCl (WR a k h0 vi vj vF vG) H ∧ va_D A (WR a k h0 vi vj vF vG) ∧ va_S A s.heap H locs ∧ lv_has ls 5 [(0, .ref h0), (1, .int (nI gn))]) (fun join1 => ?_) ?_
  · refine lv_icmp_ne (tgt := 16) hx hb dX12_sayGoal_8 (by decide) (fun c_8 => ?_) (fun c_8 => ?_)
    · have t_8 : (((vF 65) gn)).toInt ≠ 1 := toI_ne c_8 rfl (by decide)
      refine lv_bipush (v := 53) hx hb dX12_sayGoal_16 (by decide) ?_
      refine lv_aload_n hx hb dX12_sayGoal_18 rfl (lv_at hl 0 rfl) ?_
      refine va_get (D := (dC, dI)) (ci := 12) (v := .ref (a 65)) (C := RX12) (T := TX12) (N := 163) (fs := fM (vS a vi vj)) hx hb hts iwsRX12_sayGoal_in12 hown hK hP 0 rfl rfl 105 (by decide) (hts (.fieldLink RX12 218 "OptimaWorksModel" "goalMax" "[I") (by decide +kernel)) (fun _ h9 => h9) rfl dX12_sayGoal_19 ?_
      refine lv_iload_n hx hb dX12_sayGoal_22 rfl (lv_at hl 1 rfl) ?_
      refine va_iald (cA := k 65) (n := 3) (f := (vF 65)) hx hb hK hP 66 65 (WR_get 65 (by decide)) (TR_get 65 (by decide)) (vp_in_nI (show gn < 3 by omega) (by omega)) dX12_sayGoal_23 ?_
      refine lv_topi (fun y2 hy2 => ?_)
      obtain rfl : ((vF 65) gn) = y2 := (hy2.trans (by rw [nI_clamp (by omega)])).symm
      refine lv_iconst (v := 1) hx hb dX12_sayGoal_24 (by decide) ?_
      refine lv_icmp_ne (tgt := 33) hx hb dX12_sayGoal_25 (by decide) (fun c_25 => ?_) (fun c_25 => ?_)
      · have t_25 : (((vF 65) gn)).toInt ≠ 1 := toI_ne c_25 rfl (by decide)
        refine lv_bipush (v := 57) hx hb dX12_sayGoal_33 (by decide) ?_
        have hl : lv_has _ _ ([(0, .ref h0), (1, .int (nI gn))]) := lv_sub hl [0, 1] rfl
        exact join1 _ _ _ _ ⟨57, 53, by omega, rfl, hP, hD, hS, hl⟩
      · have t_25 : (((vF 65) gn)).toInt = 1 := toI_nne c_25 rfl (by decide)
        refine lv_bipush (v := 61) hx hb dX12_sayGoal_28 (by decide) ?_
        refine lv_goto (tgt := 35) hx hb dX12_sayGoal_30 (by decide) ?_
        have hl : lv_has _ _ ([(0, .ref h0), (1, .int (nI gn))]) := lv_sub hl [0, 1] rfl
        exact join1 _ _ _ _ ⟨61, 53, by omega, rfl, hP, hD, hS, hl⟩
    · have t_8 : (((vF 65) gn)).toInt = 1 := toI_nne c_8 rfl (by decide)
      refine lv_bipush (v := 57) hx hb dX12_sayGoal_11 (by decide) ?_
      refine lv_goto (tgt := 18) hx hb dX12_sayGoal_13 (by decide) ?_
      refine lv_aload_n hx hb dX12_sayGoal_18 rfl (lv_at hl 0 rfl) ?_
      refine va_get (D := (dC, dI)) (ci := 12) (v := .ref (a 65)) (C := RX12) (T := TX12) (N := 163) (fs := fM (vS a vi vj)) hx hb hts iwsRX12_sayGoal_in12 hown hK hP 0 rfl rfl 105 (by decide) (hts (.fieldLink RX12 218 "OptimaWorksModel" "goalMax" "[I") (by decide +kernel)) (fun _ h9 => h9) rfl dX12_sayGoal_19 ?_
      refine lv_iload_n hx hb dX12_sayGoal_22 rfl (lv_at hl 1 rfl) ?_
      refine va_iald (cA := k 65) (n := 3) (f := (vF 65)) hx hb hK hP 66 65 (WR_get 65 (by decide)) (TR_get 65 (by decide)) (vp_in_nI (show gn < 3 by omega) (by omega)) dX12_sayGoal_23 ?_
      refine lv_topi (fun y3 hy3 => ?_)
      obtain rfl : ((vF 65) gn) = y3 := (hy3.trans (by rw [nI_clamp (by omega)])).symm
      refine lv_iconst (v := 1) hx hb dX12_sayGoal_24 (by decide) ?_
      refine lv_icmp_ne (tgt := 33) hx hb dX12_sayGoal_25 (by decide) (fun c_25 => ?_) (fun c_25 => ?_)
      · have t_25 : (((vF 65) gn)).toInt ≠ 1 := toI_ne c_25 rfl (by decide)
        refine lv_bipush (v := 57) hx hb dX12_sayGoal_33 (by decide) ?_
        have hl : lv_has _ _ ([(0, .ref h0), (1, .int (nI gn))]) := lv_sub hl [0, 1] rfl
        exact join1 _ _ _ _ ⟨57, 57, by omega, rfl, hP, hD, hS, hl⟩
      · have t_25 : (((vF 65) gn)).toInt = 1 := toI_nne c_25 rfl (by decide)
        refine lv_bipush (v := 61) hx hb dX12_sayGoal_28 (by decide) ?_
        refine lv_goto (tgt := 35) hx hb dX12_sayGoal_30 (by decide) ?_
        have hl : lv_has _ _ ([(0, .ref h0), (1, .int (nI gn))]) := lv_sub hl [0, 1] rfl
        exact join1 _ _ _ _ ⟨61, 57, by omega, rfl, hP, hD, hS, hl⟩
  · rintro H locs ls stk ⟨e9, b9, he9, rfl, hP, hD, hS, hl⟩
    have hFc := allFree hD hS hA
    refine va_callv (va_runV (As := [.int (nI b9), .int (nI e9)]) (rest := []) ⟨hx, hb, hml, hown, hts⟩ (r_X12_sayText l dC dI a k h0 vi vj vF vG b9 e9 pn hpn (by first | assumption | decide | omega | rfl) (by first | assumption | decide | omega | rfl) (by first | assumption | decide | omega | rfl) H.size) (cwV 2 hts gwsRX12_sayGoal_0 rfl rfl rfl hd_yX12_sayText_RX12 (by decide +kernel)) (fz_preE (va_recv hK hP (ci := 12) (q0 := 0) rfl rfl) hP hK hD (fun a U g mk qE => qE.same rfl) (fun U hU9 hW => by rw [hU9]; exact (((hE : StrA A s s.heap).kept hS.2.1).narrow (fun q h => hFc q h)).warm hW)) rfl rfl hl.1 rfl (lv_room (Nat.le_of_ble_eq_true rfl)) dX12_sayGoal_35 (by decide +kernel)) hS (fun q _ h => hFc q h) hFc (fun u t9_ H locs ht hvm hw9 hB9 hz1 hk1 hS => ?_)
    obtain ⟨p235, f7535⟩ := u
    try dsimp only at hw9 hB9
    have hP : va_P (dC, dI) vwCl (WR a k h0 (fT vi 125 (nI p235)) vj (fT vF 75 f7535) vG) H := fz_P ht hB9.1
    have hD : va_D A (WR a k h0 (fT vi 125 (nI p235)) vj (fT vF 75 f7535) vG) := hB9.2.weaken (fun _ q _ h => hFc q.1 h)
    have f35_0 := hw9
    try dsimp only at f35_0
    refine lv_iconst (v := 0) hx hb dX12_sayGoal_38 (by decide) ?_
    refine lv_istore_n hx hb dX12_sayGoal_39 rfl hl (by decide) rfl (fun ls (hl : lv_has ls _ ([(2, .int 0), (0, .ref h0), (1, .int (nI gn))])) => ?_)
    refine lv_iconst (v := 0) hx hb dX12_sayGoal_40 (by decide) ?_
    refine lv_istore_n hx hb dX12_sayGoal_41 rfl hl (by decide) rfl (fun ls (hl : lv_has ls _ ([(3, .int 0), (2, .int 0), (0, .ref h0), (1, .int (nI gn))])) => ?_)
    have hl : lv_has _ _ ([(0, .ref h0), (1, .int (nI gn)), (2, .int 0), (3, .int (nI 0))]) := lv_sub hl [2, 3, 1, 0] rfl
    refine (fun (loop : ∀ (n9 : Nat) (k5 : Nat) (so : Int32) (x2_i125 : Nat) (x2_F75 : Nat → Int32) (H : Heap) (locs : List Loc) (ls : Array Slot), (k5 ≤ vn) → (x2_i125 ≤ 30000) →  (vn < k5 + n9) → va_P (dC, dI) vwCl (WR a k h0 (fT vi 125 (nI x2_i125)) vj (fT vF 75 x2_F75) vG) H → va_D A (WR a k h0 (fT vi 125 (nI x2_i125)) vj (fT vF 75 x2_F75) vG) → va_S A s.heap H locs → lv_has ls 5 [(0, .ref h0), (1, .int (nI gn)), (2, .int so), (3, .int (nI k5))] → W p l e _ s m _ below meth c H locs 0 0 _ (F0 m 42 ls [])) => loop (vn + 1) 0 0 p235 f7535 _ _ _ (by omega) (by first | assumption | omega) (by omega) hP hD hS hl) ?_
    intro n9
    induction n9 with
    | zero => intro k5 so x2_i125 x2_F75 H locs ls hk5 hx2_i125 hf9; exact False.elim (by omega)
    | succ n9 ih42 =>
      intro k5 so x2_i125 x2_F75 H locs ls hk5 hx2_i125 hf42 hP hD hS hl
      refine lv_iload_n hx hb dX12_sayGoal_42 rfl (lv_at hl 3 rfl) ?_
      refine lv_aload_n hx hb dX12_sayGoal_43 rfl (lv_at hl 0 rfl) ?_
      refine va_get (D := (dC, dI)) (ci := 12) (v := .int (vi 90)) (C := RX12) (T := TX12) (N := 163) (fs := fM (vS a (fT vi 125 (nI x2_i125)) vj)) hx hb hts iwsRX12_sayGoal_in12 hown hK hP 0 rfl rfl 90 (by decide) (hts (.fieldLink RX12 774 "OptimaWorksModel" "variables" "I") (by decide +kernel)) (fun _ h9 => h9) rfl dX12_sayGoal_44 ?_
      refine lv_topi (fun y4 hy4 => ?_)
      obtain rfl : (nI vn) = y4 := (hy4.trans (hvn)).symm
      refine lv_icmp_ge (tgt := 102) hx hb dX12_sayGoal_47 (by decide) (fun c_47 => ?_) (fun c_47 => ?_)
      · have t_47 : ((k5 : Nat) : Int) ≥ ((vn : Nat) : Int) := toI_ge c_47 (nI_toInt (by omega)) (nI_toInt (by omega))
        refine lv_aload_n hx hb dX12_sayGoal_102 rfl (lv_at hl 0 rfl) ?_
        refine va_get (D := (dC, dI)) (ci := 12) (v := .ref (a 63)) (C := RX12) (T := TX12) (N := 163) (fs := fM (vS a (fT vi 125 (nI x2_i125)) vj)) hx hb hts iwsRX12_sayGoal_in12 hown hK hP 0 rfl rfl 103 (by decide) (hts (.fieldLink RX12 212 "OptimaWorksModel" "goalTop" "[I") (by decide +kernel)) (fun _ h9 => h9) rfl dX12_sayGoal_103 ?_
        refine lv_bipush (v := 9) hx hb dX12_sayGoal_106 (by decide) ?_
        refine lv_iload_n hx hb dX12_sayGoal_108 rfl (lv_at hl 1 rfl) ?_
        refine lv_imul hx hb dX12_sayGoal_109 ?_
        refine lv_topi (fun y5 hy5 => ?_)
        obtain rfl : (nI (9 * gn)) = y5 := (hy5.trans (pk_mul 9 gn)).symm
        refine va_iald (cA := k 63) (n := 27) (f := (vF 63)) hx hb hK hP 64 63 (WR_get 63 (by decide)) (TR_get 63 (by decide)) (vp_in_nI (show (9 * gn) < 27 by omega) (by omega)) dX12_sayGoal_110 ?_
        refine lv_topi (fun y6 hy6 => ?_)
        obtain rfl : ((vF 63) (9 * gn)) = y6 := (hy6.trans (by rw [nI_clamp (by omega)])).symm
        refine lv_if_eq (tgt := 141) hx hb dX12_sayGoal_111 (by decide) (fun c_111 => ?_) (fun c_111 => ?_)
        · have t_111 : (((vF 63) (9 * gn))).toInt = 0 := toI_eq c_111 rfl (by decide)
          refine lv_iload_n hx hb dX12_sayGoal_141 rfl (lv_at hl 2 rfl) ?_
          refine lv_if_ne (tgt := 151) hx hb dX12_sayGoal_142 (by decide) (fun c_142 => ?_) (fun c_142 => ?_)
          · have t_142 : (so).toInt ≠ 0 := toI_ne c_142 rfl (by decide)
            refine W.widen (k := 0) (n := 0) (by decide +kernel) (by decide +kernel) ?_
            exact W.vret hx hb hr (fun t9_ ht hW => ⟨⟨(x2_i125, x2_F75), rfl, by (try dsimp only); first | assumption | omega, by rw [ht]; exact hP, hD⟩, hS.F ht⟩) hS.2.2 dX12_sayGoal_151
          · have t_142 : (so).toInt = 0 := toI_nne c_142 rfl (by decide)
            refine lv_aload_n hx hb dX12_sayGoal_145 rfl (lv_at hl 0 rfl) ?_
            refine lv_bipush (v := 48) hx hb dX12_sayGoal_146 (by decide) ?_
            have hFc := allFree hD hS hA
            refine va_callv (va_runV (As := [.int 48]) (rest := []) ⟨hx, hb, hml, hown, hts⟩ (r_X12_say l dC dI a k h0 (fT vi 125 (nI x2_i125)) vj (fT vF 75 x2_F75) vG 48 x2_i125 rfl (by first | assumption | decide | omega | rfl) H.size) (cwV 1 hts gwsRX12_sayGoal_1 rfl rfl rfl hd_yX12_say_RX12 (by decide +kernel)) (fz_pre (va_recv hK hP (ci := 12) (q0 := 0) rfl rfl) hP hK hD) rfl rfl hl.1 rfl (lv_room (Nat.le_of_ble_eq_true rfl)) dX12_sayGoal_148 (by decide +kernel)) hS (fun q _ h => hFc q h) hFc (fun u t9_ H locs ht hvm hw9 hB9 hz1 hk1 hS => ?_)
            obtain ⟨p2148, f75148⟩ := u
            try dsimp only at hw9 hB9
            have hP : va_P (dC, dI) vwCl (WR a k h0 (fT (fT vi 125 (nI x2_i125)) 125 (nI p2148)) vj (fT (fT vF 75 x2_F75) 75 f75148) vG) H := fz_P ht hB9.1
            have hD : va_D A (WR a k h0 (fT (fT vi 125 (nI x2_i125)) 125 (nI p2148)) vj (fT (fT vF 75 x2_F75) 75 f75148) vG) := hB9.2.weaken (fun _ q _ h => hFc q.1 h)
            have e9 : fT vi 125 (nI p2148) = fT (fT vi 125 (nI x2_i125)) 125 (nI p2148) := (fT_sm _ _ _ _).symm
            rw [← e9] at hP hD
            clear e9
            have e9 : fT vF 75 f75148 = fT (fT vF 75 x2_F75) 75 f75148 := (fT_sm _ _ _ _).symm
            rw [← e9] at hP hD
            clear e9
            have hP : va_P (dC, dI) vwCl (WR a k h0 (fT vi 125 (nI p2148)) vj (fT vF 75 f75148) vG) H := hP
            have hD : va_D A (WR a k h0 (fT vi 125 (nI p2148)) vj (fT vF 75 f75148) vG) := hD
            obtain ⟨f148_0, f148_1, f148_2⟩ := hw9
            refine W.widen (k := 0) (n := 0) (by decide +kernel) (by decide +kernel) ?_
            exact W.vret hx hb hr (fun t9_ ht hW => ⟨⟨(p2148, f75148), rfl, by (try dsimp only); first | assumption | omega, by rw [ht]; exact hP, hD⟩, hS.F ht⟩) hS.2.2 dX12_sayGoal_151
        · have t_111 : ¬ (((vF 63) (9 * gn))).toInt = 0 := toI_neq c_111 rfl (by decide)
          have bt := hM.top hgn (k := 0) (by omega)
          have bu := hM.under hgn (k := 0) (by omega)
          rw [if_pos rfl] at bt bu
          simp only [Nat.add_zero] at bt bu
          refine lv_aload_n hx hb dX12_sayGoal_114 rfl (lv_at hl 0 rfl) ?_
          refine lv_aload_n hx hb dX12_sayGoal_115 rfl (lv_at hl 0 rfl) ?_
          refine va_get (D := (dC, dI)) (ci := 12) (v := .ref (a 63)) (C := RX12) (T := TX12) (N := 163) (fs := fM (vS a (fT vi 125 (nI x2_i125)) vj)) hx hb hts iwsRX12_sayGoal_in12 hown hK hP 0 rfl rfl 103 (by decide) (hts (.fieldLink RX12 212 "OptimaWorksModel" "goalTop" "[I") (by decide +kernel)) (fun _ h9 => h9) rfl dX12_sayGoal_116 ?_
          refine lv_bipush (v := 9) hx hb dX12_sayGoal_119 (by decide) ?_
          refine lv_iload_n hx hb dX12_sayGoal_121 rfl (lv_at hl 1 rfl) ?_
          refine lv_imul hx hb dX12_sayGoal_122 ?_
          refine lv_topi (fun y7 hy7 => ?_)
          obtain rfl : (nI (9 * gn)) = y7 := (hy7.trans (pk_mul 9 gn)).symm
          refine va_iald (cA := k 63) (n := 27) (f := (vF 63)) hx hb hK hP 64 63 (WR_get 63 (by decide)) (TR_get 63 (by decide)) (vp_in_nI (show (9 * gn) < 27 by omega) (by omega)) dX12_sayGoal_123 ?_
          refine lv_topi (fun y8 hy8 => ?_)
          obtain rfl : ((vF 63) (9 * gn)) = y8 := (hy8.trans (by rw [nI_clamp (by omega)])).symm
          refine lv_aload_n hx hb dX12_sayGoal_124 rfl (lv_at hl 0 rfl) ?_
          refine va_get (D := (dC, dI)) (ci := 12) (v := .ref (a 64)) (C := RX12) (T := TX12) (N := 163) (fs := fM (vS a (fT vi 125 (nI x2_i125)) vj)) hx hb hts iwsRX12_sayGoal_in12 hown hK hP 0 rfl rfl 104 (by decide) (hts (.fieldLink RX12 215 "OptimaWorksModel" "goalUnder" "[I") (by decide +kernel)) (fun _ h9 => h9) rfl dX12_sayGoal_125 ?_
          refine lv_bipush (v := 9) hx hb dX12_sayGoal_128 (by decide) ?_
          refine lv_iload_n hx hb dX12_sayGoal_130 rfl (lv_at hl 1 rfl) ?_
          refine lv_imul hx hb dX12_sayGoal_131 ?_
          refine lv_topi (fun y9 hy9 => ?_)
          obtain rfl : (nI (9 * gn)) = y9 := (hy9.trans (pk_mul 9 gn)).symm
          refine va_iald (cA := k 64) (n := 27) (f := (vF 64)) hx hb hK hP 65 64 (WR_get 64 (by decide)) (TR_get 64 (by decide)) (vp_in_nI (show (9 * gn) < 27 by omega) (by omega)) dX12_sayGoal_132 ?_
          refine lv_topi (fun y10 hy10 => ?_)
          obtain rfl : ((vF 64) (9 * gn)) = y10 := (hy10.trans (by rw [nI_clamp (by omega)])).symm
          refine lv_iconst (v := (-1)) hx hb dX12_sayGoal_133 (by decide) ?_
          refine lv_iload_n hx hb dX12_sayGoal_134 rfl (lv_at hl 2 rfl) ?_
          have hFc := allFree hD hS hA
          refine va_callv (va_runV (As := [.int ((vF 63) (9 * gn)), .int ((vF 64) (9 * gn)), .int (-1), .int so]) (rest := []) ⟨hx, hb, hml, hown, hts⟩ (r_X12_sayTerm l dC dI a k h0 (fT vi 125 (nI x2_i125)) vj (fT vF 75 x2_F75) vG ((vF 63) (9 * gn)) ((vF 64) (9 * gn)) (-1) so x2_i125 rfl (by first | assumption | decide | omega | rfl) (by omega) (by omega) (by decide) H.size) (cwV 4 hts gwsRX12_sayGoal_2 rfl rfl rfl hd_yX12_sayTerm_RX12 (by decide +kernel)) (fz_pre (va_recv hK hP (ci := 12) (q0 := 0) rfl rfl) hP hK hD) rfl rfl hl.1 rfl (lv_room (Nat.le_of_ble_eq_true rfl)) dX12_sayGoal_135 (by decide +kernel)) hS (fun q _ h => hFc q h) hFc (fun u t9_ H locs ht hvm hw9 hB9 hz1 hk1 hS => ?_)
          obtain ⟨p2135, f75135⟩ := u
          try dsimp only at hw9 hB9
          have hP : va_P (dC, dI) vwCl (WR a k h0 (fT (fT vi 125 (nI x2_i125)) 125 (nI p2135)) vj (fT (fT vF 75 x2_F75) 75 f75135) vG) H := fz_P ht hB9.1
          have hD : va_D A (WR a k h0 (fT (fT vi 125 (nI x2_i125)) 125 (nI p2135)) vj (fT (fT vF 75 x2_F75) 75 f75135) vG) := hB9.2.weaken (fun _ q _ h => hFc q.1 h)
          have e9 : fT vi 125 (nI p2135) = fT (fT vi 125 (nI x2_i125)) 125 (nI p2135) := (fT_sm _ _ _ _).symm
          rw [← e9] at hP hD
          clear e9
          have e9 : fT vF 75 f75135 = fT (fT vF 75 x2_F75) 75 f75135 := (fT_sm _ _ _ _).symm
          rw [← e9] at hP hD
          clear e9
          have hP : va_P (dC, dI) vwCl (WR a k h0 (fT vi 125 (nI p2135)) vj (fT vF 75 f75135) vG) H := hP
          have hD : va_D A (WR a k h0 (fT vi 125 (nI p2135)) vj (fT vF 75 f75135) vG) := hD
          have f135_0 := hw9
          try dsimp only at f135_0
          refine lv_goto (tgt := 151) hx hb dX12_sayGoal_138 (by decide) ?_
          refine W.widen (k := 0) (n := 0) (by decide +kernel) (by decide +kernel) ?_
          exact W.vret hx hb hr (fun t9_ ht hW => ⟨⟨(p2135, f75135), rfl, by (try dsimp only); first | assumption | omega, by rw [ht]; exact hP, hD⟩, hS.F ht⟩) hS.2.2 dX12_sayGoal_151
      · have t_47 : ¬ ((k5 : Nat) : Int) ≥ ((vn : Nat) : Int) := toI_nge c_47 (nI_toInt (by omega)) (nI_toInt (by omega))
        refine lv_aload_n hx hb dX12_sayGoal_50 rfl (lv_at hl 0 rfl) ?_
        refine va_get (D := (dC, dI)) (ci := 12) (v := .ref (a 63)) (C := RX12) (T := TX12) (N := 163) (fs := fM (vS a (fT vi 125 (nI x2_i125)) vj)) hx hb hts iwsRX12_sayGoal_in12 hown hK hP 0 rfl rfl 103 (by decide) (hts (.fieldLink RX12 212 "OptimaWorksModel" "goalTop" "[I") (by decide +kernel)) (fun _ h9 => h9) rfl dX12_sayGoal_51 ?_
        refine lv_bipush (v := 9) hx hb dX12_sayGoal_54 (by decide) ?_
        refine lv_iload_n hx hb dX12_sayGoal_56 rfl (lv_at hl 1 rfl) ?_
        refine lv_imul hx hb dX12_sayGoal_57 ?_
        refine lv_topi (fun y11 hy11 => ?_)
        obtain rfl : (nI (9 * gn)) = y11 := (hy11.trans (pk_mul 9 gn)).symm
        refine lv_iconst (v := 1) hx hb dX12_sayGoal_58 (by decide) ?_
        refine lv_iadd hx hb dX12_sayGoal_59 ?_
        refine lv_topi (fun y12 hy12 => ?_)
        obtain rfl : (nI ((9 * gn) + 1)) = y12 := (hy12.trans (nI_add (9 * gn) 1)).symm
        refine lv_iload_n hx hb dX12_sayGoal_60 rfl (lv_at hl 3 rfl) ?_
        refine lv_iadd hx hb dX12_sayGoal_61 ?_
        refine lv_topi (fun y13 hy13 => ?_)
        obtain rfl : (nI (((9 * gn) + 1) + k5)) = y13 := (hy13.trans (nI_add ((9 * gn) + 1) k5)).symm
        refine va_iald (cA := k 63) (n := 27) (f := (vF 63)) hx hb hK hP 64 63 (WR_get 63 (by decide)) (TR_get 63 (by decide)) (vp_in_nI (show (((9 * gn) + 1) + k5) < 27 by omega) (by omega)) dX12_sayGoal_62 ?_
        refine lv_topi (fun y14 hy14 => ?_)
        obtain rfl : ((vF 63) (((9 * gn) + 1) + k5)) = y14 := (hy14.trans (by rw [nI_clamp (by omega)])).symm
        refine lv_istore hx hb dX12_sayGoal_63 hl (by decide) rfl (fun ls (hl : lv_has ls _ ([(4, .int ((vF 63) (((9 * gn) + 1) + k5))), (0, .ref h0), (1, .int (nI gn)), (2, .int so), (3, .int (nI k5))])) => ?_)
        refine lv_iload hx hb dX12_sayGoal_65 (lv_at hl 0 rfl) ?_
        refine lv_if_ne (tgt := 73) hx hb dX12_sayGoal_67 (by decide) (fun c_67 => ?_) (fun c_67 => ?_)
        · have t_67 : (((vF 63) (((9 * gn) + 1) + k5))).toInt ≠ 0 := toI_ne c_67 rfl (by decide)
          have bt := hM.top hgn (k := k5 + 1) (by omega)
          have bu := hM.under hgn (k := k5 + 1) (by omega)
          rw [if_neg (by omega)] at bt bu
          rw [show 9 * gn + (k5 + 1) = 9 * gn + 1 + k5 by omega] at bt bu
          refine lv_aload_n hx hb dX12_sayGoal_73 rfl (lv_at hl 1 rfl) ?_
          refine lv_iload hx hb dX12_sayGoal_74 (lv_at hl 0 rfl) ?_
          refine lv_aload_n hx hb dX12_sayGoal_76 rfl (lv_at hl 1 rfl) ?_
          refine va_get (D := (dC, dI)) (ci := 12) (v := .ref (a 64)) (C := RX12) (T := TX12) (N := 163) (fs := fM (vS a (fT vi 125 (nI x2_i125)) vj)) hx hb hts iwsRX12_sayGoal_in12 hown hK hP 0 rfl rfl 104 (by decide) (hts (.fieldLink RX12 215 "OptimaWorksModel" "goalUnder" "[I") (by decide +kernel)) (fun _ h9 => h9) rfl dX12_sayGoal_77 ?_
          refine lv_bipush (v := 9) hx hb dX12_sayGoal_80 (by decide) ?_
          refine lv_iload_n hx hb dX12_sayGoal_82 rfl (lv_at hl 2 rfl) ?_
          refine lv_imul hx hb dX12_sayGoal_83 ?_
          refine lv_topi (fun y15 hy15 => ?_)
          obtain rfl : (nI (9 * gn)) = y15 := (hy15.trans (pk_mul 9 gn)).symm
          refine lv_iconst (v := 1) hx hb dX12_sayGoal_84 (by decide) ?_
          refine lv_iadd hx hb dX12_sayGoal_85 ?_
          refine lv_topi (fun y16 hy16 => ?_)
          obtain rfl : (nI ((9 * gn) + 1)) = y16 := (hy16.trans (nI_add (9 * gn) 1)).symm
          refine lv_iload_n hx hb dX12_sayGoal_86 rfl (lv_at hl 4 rfl) ?_
          refine lv_iadd hx hb dX12_sayGoal_87 ?_
          refine lv_topi (fun y17 hy17 => ?_)
          obtain rfl : (nI (((9 * gn) + 1) + k5)) = y17 := (hy17.trans (nI_add ((9 * gn) + 1) k5)).symm
          refine va_iald (cA := k 64) (n := 27) (f := (vF 64)) hx hb hK hP 65 64 (WR_get 64 (by decide)) (TR_get 64 (by decide)) (vp_in_nI (show (((9 * gn) + 1) + k5) < 27 by omega) (by omega)) dX12_sayGoal_88 ?_
          refine lv_topi (fun y18 hy18 => ?_)
          obtain rfl : ((vF 64) (((9 * gn) + 1) + k5)) = y18 := (hy18.trans (by rw [nI_clamp (by omega)])).symm
          refine lv_iload_n hx hb dX12_sayGoal_89 rfl (lv_at hl 4 rfl) ?_
          refine lv_iload_n hx hb dX12_sayGoal_90 rfl (lv_at hl 3 rfl) ?_
          have hFc := allFree hD hS hA
          refine va_callv (va_runV (As := [.int ((vF 63) (((9 * gn) + 1) + k5)), .int ((vF 64) (((9 * gn) + 1) + k5)), .int (nI k5), .int so]) (rest := []) ⟨hx, hb, hml, hown, hts⟩ (r_X12_sayTerm l dC dI a k h0 (fT vi 125 (nI x2_i125)) vj (fT vF 75 x2_F75) vG ((vF 63) (((9 * gn) + 1) + k5)) ((vF 64) (((9 * gn) + 1) + k5)) (nI k5) so x2_i125 rfl (by first | assumption | decide | omega | rfl) (by omega) (by omega) (by (have e9 := nI_toInt (n := k5) (by omega)); rw [e9]; omega) H.size) (cwV 4 hts gwsRX12_sayGoal_2 rfl rfl rfl hd_yX12_sayTerm_RX12 (by decide +kernel)) (fz_pre (va_recv hK hP (ci := 12) (q0 := 0) rfl rfl) hP hK hD) rfl rfl hl.1 rfl (lv_room (Nat.le_of_ble_eq_true rfl)) dX12_sayGoal_91 (by decide +kernel)) hS (fun q _ h => hFc q h) hFc (fun u t9_ H locs ht hvm hw9 hB9 hz1 hk1 hS => ?_)
          obtain ⟨p291, f7591⟩ := u
          try dsimp only at hw9 hB9
          have hP : va_P (dC, dI) vwCl (WR a k h0 (fT (fT vi 125 (nI x2_i125)) 125 (nI p291)) vj (fT (fT vF 75 x2_F75) 75 f7591) vG) H := fz_P ht hB9.1
          have hD : va_D A (WR a k h0 (fT (fT vi 125 (nI x2_i125)) 125 (nI p291)) vj (fT (fT vF 75 x2_F75) 75 f7591) vG) := hB9.2.weaken (fun _ q _ h => hFc q.1 h)
          have e9 : fT vi 125 (nI p291) = fT (fT vi 125 (nI x2_i125)) 125 (nI p291) := (fT_sm _ _ _ _).symm
          rw [← e9] at hP hD
          clear e9
          have e9 : fT vF 75 f7591 = fT (fT vF 75 x2_F75) 75 f7591 := (fT_sm _ _ _ _).symm
          rw [← e9] at hP hD
          clear e9
          have hP : va_P (dC, dI) vwCl (WR a k h0 (fT vi 125 (nI p291)) vj (fT vF 75 f7591) vG) H := hP
          have hD : va_D A (WR a k h0 (fT vi 125 (nI p291)) vj (fT vF 75 f7591) vG) := hD
          have f91_0 := hw9
          try dsimp only at f91_0
          refine lv_iconst (v := 1) hx hb dX12_sayGoal_94 (by decide) ?_
          refine lv_istore_n hx hb dX12_sayGoal_95 rfl hl (by decide) rfl (fun ls (hl : lv_has ls _ ([(2, .int 1), (4, .int ((vF 63) (((9 * gn) + 1) + k5))), (0, .ref h0), (1, .int (nI gn)), (3, .int (nI k5))])) => ?_)
          refine lv_iinc (v := (nI (k5 + 1))) hx hb dX12_sayGoal_96 hl (k := 4) rfl (nI_add k5 1) (by decide) rfl (fun ls (hl : lv_has ls _ ([(3, .int (nI (k5 + 1))), (2, .int 1), (4, .int ((vF 63) (((9 * gn) + 1) + k5))), (0, .ref h0), (1, .int (nI gn))])) => ?_)
          refine lv_goto (tgt := 42) hx hb dX12_sayGoal_99 (by decide) ?_
          have hl : lv_has _ _ ([(0, .ref h0), (1, .int (nI gn)), (2, .int 1), (3, .int (nI (k5 + 1)))]) := lv_sub hl [3, 4, 1, 0] rfl
          exact ih42 (k5 + 1) 1 p291 f7591 _ _ _ (by omega) (by first | assumption | omega) (by omega) hP hD hS hl
        · have t_67 : (((vF 63) (((9 * gn) + 1) + k5))).toInt = 0 := toI_nne c_67 rfl (by decide)
          refine lv_goto (tgt := 96) hx hb dX12_sayGoal_70 (by decide) ?_
          refine lv_iinc (v := (nI (k5 + 1))) hx hb dX12_sayGoal_96 hl (k := 4) rfl (nI_add k5 1) (by decide) rfl (fun ls (hl : lv_has ls _ ([(3, .int (nI (k5 + 1))), (4, .int ((vF 63) (((9 * gn) + 1) + k5))), (0, .ref h0), (1, .int (nI gn)), (2, .int so)])) => ?_)
          refine lv_goto (tgt := 42) hx hb dX12_sayGoal_99 (by decide) ?_
          have hl : lv_has _ _ ([(0, .ref h0), (1, .int (nI gn)), (2, .int so), (3, .int (nI (k5 + 1)))]) := lv_sub hl [2, 3, 4, 0] rfl
          exact ih42 (k5 + 1) so x2_i125 x2_F75 _ _ _ (by omega) (by first | assumption | omega) (by omega) hP hD hS hl
theorem dX12_write_0 : decode cX12_write 0 = .ok (.aload_n 0, 1) := dk_42 (by decide +kernel)
theorem dX12_write_1 : decode cX12_write 1 = .ok (.aload_n 0, 1) := dk_42 (by decide +kernel)
theorem dX12_write_2 : decode cX12_write 2 = .ok (.getfield 808, 3) := dk_180 (by decide +kernel)
theorem dX12_write_5 : decode cX12_write 5 = .ok (.ifCond .eq 7, 3) := dk_153 (by decide +kernel)
theorem dX12_write_8 : decode cX12_write 8 = .ok (.iconst 0, 1) := dk_3 (by decide +kernel)
theorem dX12_write_9 : decode cX12_write 9 = .ok (.goto 4, 3) := dk_167 (by decide +kernel)
theorem dX12_write_12 : decode cX12_write 12 = .ok (.iconst 1, 1) := dk_4 (by decide +kernel)
theorem dX12_write_13 : decode cX12_write 13 = .ok (.putfield 348, 3) := dk_181 (by decide +kernel)
theorem dX12_write_16 : decode cX12_write 16 = .ok (.aload_n 0, 1) := dk_42 (by decide +kernel)
theorem dX12_write_17 : decode cX12_write 17 = .ok (.getfield 348, 3) := dk_180 (by decide +kernel)
theorem dX12_write_20 : decode cX12_write 20 = .ok (.ifCond .le 5, 3) := dk_158 (by decide +kernel)
theorem dX12_write_23 : decode cX12_write 23 = .ok (.iconst 0, 1) := dk_3 (by decide +kernel)
theorem dX12_write_24 : decode cX12_write 24 = .ok (.ireturn, 1) := dk_172 (by decide +kernel)
theorem dX12_write_25 : decode cX12_write 25 = .ok (.aload_n 0, 1) := dk_42 (by decide +kernel)
theorem dX12_write_26 : decode cX12_write 26 = .ok (.iconst 0, 1) := dk_3 (by decide +kernel)
theorem dX12_write_27 : decode cX12_write 27 = .ok (.putfield 933, 3) := dk_181 (by decide +kernel)
theorem dX12_write_30 : decode cX12_write 30 = .ok (.iconst 0, 1) := dk_3 (by decide +kernel)
theorem dX12_write_31 : decode cX12_write 31 = .ok (.istore_n 1, 1) := dk_60 (by decide +kernel)
theorem dX12_write_32 : decode cX12_write 32 = .ok (.iload_n 1, 1) := dk_27 (by decide +kernel)
theorem dX12_write_33 : decode cX12_write 33 = .ok (.aload_n 0, 1) := dk_42 (by decide +kernel)
theorem dX12_write_34 : decode cX12_write 34 = .ok (.getfield 774, 3) := dk_180 (by decide +kernel)
theorem dX12_write_37 : decode cX12_write 37 = .ok (.if_icmp .ge 90, 3) := dk_162 (by decide +kernel)
theorem dX12_write_40 : decode cX12_write 40 = .ok (.aload_n 0, 1) := dk_42 (by decide +kernel)
theorem dX12_write_41 : decode cX12_write 41 = .ok (.iconst 0, 1) := dk_3 (by decide +kernel)
theorem dX12_write_42 : decode cX12_write 42 = .ok (.iconst 5, 1) := dk_8 (by decide +kernel)
theorem dX12_write_43 : decode cX12_write 43 = .ok (.invokevirtual 965, 3) := dk_182 (by decide +kernel)
theorem dX12_write_46 : decode cX12_write 46 = .ok (.aload_n 0, 1) := dk_42 (by decide +kernel)
theorem dX12_write_47 : decode cX12_write 47 = .ok (.iload_n 1, 1) := dk_27 (by decide +kernel)
theorem dX12_write_48 : decode cX12_write 48 = .ok (.invokevirtual 955, 3) := dk_182 (by decide +kernel)
theorem dX12_write_51 : decode cX12_write 51 = .ok (.aload_n 0, 1) := dk_42 (by decide +kernel)
theorem dX12_write_52 : decode cX12_write 52 = .ok (.bipush 32, 2) := dk_16 (by decide +kernel)
theorem dX12_write_54 : decode cX12_write 54 = .ok (.invokevirtual 936, 3) := dk_182 (by decide +kernel)
theorem dX12_write_57 : decode cX12_write 57 = .ok (.aload_n 0, 1) := dk_42 (by decide +kernel)
theorem dX12_write_58 : decode cX12_write 58 = .ok (.getfield 197, 3) := dk_180 (by decide +kernel)
theorem dX12_write_61 : decode cX12_write 61 = .ok (.iload_n 1, 1) := dk_27 (by decide +kernel)
theorem dX12_write_62 : decode cX12_write 62 = .ok (.iaload, 1) := dk_46 (by decide +kernel)
theorem dX12_write_63 : decode cX12_write 63 = .ok (.iconst 1, 1) := dk_4 (by decide +kernel)
theorem dX12_write_64 : decode cX12_write 64 = .ok (.if_icmp .ne 11, 3) := dk_160 (by decide +kernel)
theorem dX12_write_67 : decode cX12_write 67 = .ok (.aload_n 0, 1) := dk_42 (by decide +kernel)
theorem dX12_write_68 : decode cX12_write 68 = .ok (.bipush 6, 2) := dk_16 (by decide +kernel)
theorem dX12_write_70 : decode cX12_write 70 = .ok (.bipush 12, 2) := dk_16 (by decide +kernel)
theorem dX12_write_72 : decode cX12_write 72 = .ok (.invokevirtual 965, 3) := dk_182 (by decide +kernel)
theorem dX12_write_75 : decode cX12_write 75 = .ok (.aload_n 0, 1) := dk_42 (by decide +kernel)
theorem dX12_write_76 : decode cX12_write 76 = .ok (.bipush 12, 2) := dk_16 (by decide +kernel)
theorem dX12_write_78 : decode cX12_write 78 = .ok (.bipush 17, 2) := dk_16 (by decide +kernel)
theorem dX12_write_80 : decode cX12_write 80 = .ok (.invokevirtual 965, 3) := dk_182 (by decide +kernel)
theorem dX12_write_83 : decode cX12_write 83 = .ok (.aload_n 0, 1) := dk_42 (by decide +kernel)
theorem dX12_write_84 : decode cX12_write 84 = .ok (.aload_n 0, 1) := dk_42 (by decide +kernel)
theorem dX12_write_85 : decode cX12_write 85 = .ok (.getfield 191, 3) := dk_180 (by decide +kernel)
theorem dX12_write_88 : decode cX12_write 88 = .ok (.iload_n 1, 1) := dk_27 (by decide +kernel)
theorem dX12_write_89 : decode cX12_write 89 = .ok (.iaload, 1) := dk_46 (by decide +kernel)
theorem dX12_write_90 : decode cX12_write 90 = .ok (.invokevirtual 955, 3) := dk_182 (by decide +kernel)
theorem dX12_write_93 : decode cX12_write 93 = .ok (.aload_n 0, 1) := dk_42 (by decide +kernel)
theorem dX12_write_94 : decode cX12_write 94 = .ok (.bipush 32, 2) := dk_16 (by decide +kernel)
theorem dX12_write_96 : decode cX12_write 96 = .ok (.invokevirtual 936, 3) := dk_182 (by decide +kernel)
theorem dX12_write_99 : decode cX12_write 99 = .ok (.aload_n 0, 1) := dk_42 (by decide +kernel)
theorem dX12_write_100 : decode cX12_write 100 = .ok (.bipush 17, 2) := dk_16 (by decide +kernel)
theorem dX12_write_102 : decode cX12_write 102 = .ok (.bipush 20, 2) := dk_16 (by decide +kernel)
theorem dX12_write_104 : decode cX12_write 104 = .ok (.invokevirtual 965, 3) := dk_182 (by decide +kernel)
theorem dX12_write_107 : decode cX12_write 107 = .ok (.aload_n 0, 1) := dk_42 (by decide +kernel)
theorem dX12_write_108 : decode cX12_write 108 = .ok (.aload_n 0, 1) := dk_42 (by decide +kernel)
theorem dX12_write_109 : decode cX12_write 109 = .ok (.getfield 194, 3) := dk_180 (by decide +kernel)
theorem dX12_write_112 : decode cX12_write 112 = .ok (.iload_n 1, 1) := dk_27 (by decide +kernel)
theorem dX12_write_113 : decode cX12_write 113 = .ok (.iaload, 1) := dk_46 (by decide +kernel)
theorem dX12_write_114 : decode cX12_write 114 = .ok (.invokevirtual 955, 3) := dk_182 (by decide +kernel)
theorem dX12_write_117 : decode cX12_write 117 = .ok (.aload_n 0, 1) := dk_42 (by decide +kernel)
theorem dX12_write_118 : decode cX12_write 118 = .ok (.invokevirtual 968, 3) := dk_182 (by decide +kernel)
theorem dX12_write_121 : decode cX12_write 121 = .ok (.iinc 1 1, 3) := dk_132 (by decide +kernel)
theorem dX12_write_124 : decode cX12_write 124 = .ok (.goto (-92), 3) := dk_167 (by decide +kernel)
theorem dX12_write_127 : decode cX12_write 127 = .ok (.iconst 0, 1) := dk_3 (by decide +kernel)
theorem dX12_write_128 : decode cX12_write 128 = .ok (.istore_n 1, 1) := dk_60 (by decide +kernel)
theorem dX12_write_129 : decode cX12_write 129 = .ok (.iload_n 1, 1) := dk_27 (by decide +kernel)
theorem dX12_write_130 : decode cX12_write 130 = .ok (.aload_n 0, 1) := dk_42 (by decide +kernel)
theorem dX12_write_131 : decode cX12_write 131 = .ok (.getfield 786, 3) := dk_180 (by decide +kernel)
theorem dX12_write_134 : decode cX12_write 134 = .ok (.if_icmp .ge 89, 3) := dk_162 (by decide +kernel)
theorem dX12_write_137 : decode cX12_write 137 = .ok (.aload_n 0, 1) := dk_42 (by decide +kernel)
theorem dX12_write_138 : decode cX12_write 138 = .ok (.bipush 20, 2) := dk_16 (by decide +kernel)
theorem dX12_write_140 : decode cX12_write 140 = .ok (.bipush 25, 2) := dk_16 (by decide +kernel)
theorem dX12_write_142 : decode cX12_write 142 = .ok (.invokevirtual 965, 3) := dk_182 (by decide +kernel)
theorem dX12_write_145 : decode cX12_write 145 = .ok (.aload_n 0, 1) := dk_42 (by decide +kernel)
theorem dX12_write_146 : decode cX12_write 146 = .ok (.iload_n 1, 1) := dk_27 (by decide +kernel)
theorem dX12_write_147 : decode cX12_write 147 = .ok (.invokevirtual 955, 3) := dk_182 (by decide +kernel)
theorem dX12_write_150 : decode cX12_write 150 = .ok (.aload_n 0, 1) := dk_42 (by decide +kernel)
theorem dX12_write_151 : decode cX12_write 151 = .ok (.bipush 32, 2) := dk_16 (by decide +kernel)
theorem dX12_write_153 : decode cX12_write 153 = .ok (.invokevirtual 936, 3) := dk_182 (by decide +kernel)
theorem dX12_write_156 : decode cX12_write 156 = .ok (.aload_n 0, 1) := dk_42 (by decide +kernel)
theorem dX12_write_157 : decode cX12_write 157 = .ok (.bipush 26, 2) := dk_16 (by decide +kernel)
theorem dX12_write_159 : decode cX12_write 159 = .ok (.bipush 28, 2) := dk_16 (by decide +kernel)
theorem dX12_write_161 : decode cX12_write 161 = .ok (.invokevirtual 965, 3) := dk_182 (by decide +kernel)
theorem dX12_write_164 : decode cX12_write 164 = .ok (.iconst 0, 1) := dk_3 (by decide +kernel)
theorem dX12_write_165 : decode cX12_write 165 = .ok (.istore_n 2, 1) := dk_61 (by decide +kernel)
theorem dX12_write_166 : decode cX12_write 166 = .ok (.iload_n 2, 1) := dk_28 (by decide +kernel)
theorem dX12_write_167 : decode cX12_write 167 = .ok (.aload_n 0, 1) := dk_42 (by decide +kernel)
theorem dX12_write_168 : decode cX12_write 168 = .ok (.getfield 200, 3) := dk_180 (by decide +kernel)
theorem dX12_write_171 : decode cX12_write 171 = .ok (.iload_n 1, 1) := dk_27 (by decide +kernel)
theorem dX12_write_172 : decode cX12_write 172 = .ok (.iaload, 1) := dk_46 (by decide +kernel)
theorem dX12_write_173 : decode cX12_write 173 = .ok (.if_icmp .ge 40, 3) := dk_162 (by decide +kernel)
theorem dX12_write_176 : decode cX12_write 176 = .ok (.iload_n 2, 1) := dk_28 (by decide +kernel)
theorem dX12_write_177 : decode cX12_write 177 = .ok (.ifCond .le 9, 3) := dk_158 (by decide +kernel)
theorem dX12_write_180 : decode cX12_write 180 = .ok (.aload_n 0, 1) := dk_42 (by decide +kernel)
theorem dX12_write_181 : decode cX12_write 181 = .ok (.bipush 32, 2) := dk_16 (by decide +kernel)
theorem dX12_write_183 : decode cX12_write 183 = .ok (.invokevirtual 936, 3) := dk_182 (by decide +kernel)
theorem dX12_write_186 : decode cX12_write 186 = .ok (.iload_n 2, 1) := dk_28 (by decide +kernel)
theorem dX12_write_187 : decode cX12_write 187 = .ok (.ifCond .le 11, 3) := dk_158 (by decide +kernel)
theorem dX12_write_190 : decode cX12_write 190 = .ok (.aload_n 0, 1) := dk_42 (by decide +kernel)
theorem dX12_write_191 : decode cX12_write 191 = .ok (.bipush 28, 2) := dk_16 (by decide +kernel)
theorem dX12_write_193 : decode cX12_write 193 = .ok (.bipush 31, 2) := dk_16 (by decide +kernel)
theorem dX12_write_195 : decode cX12_write 195 = .ok (.invokevirtual 965, 3) := dk_182 (by decide +kernel)
theorem dX12_write_198 : decode cX12_write 198 = .ok (.aload_n 0, 1) := dk_42 (by decide +kernel)
theorem dX12_write_199 : decode cX12_write 199 = .ok (.iconst 3, 1) := dk_6 (by decide +kernel)
theorem dX12_write_200 : decode cX12_write 200 = .ok (.iload_n 1, 1) := dk_27 (by decide +kernel)
theorem dX12_write_201 : decode cX12_write 201 = .ok (.imul, 1) := dk_104 (by decide +kernel)
theorem dX12_write_202 : decode cX12_write 202 = .ok (.iload_n 2, 1) := dk_28 (by decide +kernel)
theorem dX12_write_203 : decode cX12_write 203 = .ok (.iadd, 1) := dk_96 (by decide +kernel)
theorem dX12_write_204 : decode cX12_write 204 = .ok (.invokevirtual 971, 3) := dk_182 (by decide +kernel)
theorem dX12_write_207 : decode cX12_write 207 = .ok (.iinc 2 1, 3) := dk_132 (by decide +kernel)
theorem dX12_write_210 : decode cX12_write 210 = .ok (.goto (-44), 3) := dk_167 (by decide +kernel)
theorem dX12_write_213 : decode cX12_write 213 = .ok (.aload_n 0, 1) := dk_42 (by decide +kernel)
theorem dX12_write_214 : decode cX12_write 214 = .ok (.invokevirtual 968, 3) := dk_182 (by decide +kernel)
theorem dX12_write_217 : decode cX12_write 217 = .ok (.iinc 1 1, 3) := dk_132 (by decide +kernel)
theorem dX12_write_220 : decode cX12_write 220 = .ok (.goto (-91), 3) := dk_167 (by decide +kernel)
theorem dX12_write_223 : decode cX12_write 223 = .ok (.iconst 0, 1) := dk_3 (by decide +kernel)
theorem dX12_write_224 : decode cX12_write 224 = .ok (.istore_n 1, 1) := dk_60 (by decide +kernel)
theorem dX12_write_225 : decode cX12_write 225 = .ok (.iload_n 1, 1) := dk_27 (by decide +kernel)
theorem dX12_write_226 : decode cX12_write 226 = .ok (.aload_n 0, 1) := dk_42 (by decide +kernel)
theorem dX12_write_227 : decode cX12_write 227 = .ok (.getfield 802, 3) := dk_180 (by decide +kernel)
theorem dX12_write_230 : decode cX12_write 230 = .ok (.if_icmp .ge 90, 3) := dk_162 (by decide +kernel)
theorem dX12_write_233 : decode cX12_write 233 = .ok (.aload_n 0, 1) := dk_42 (by decide +kernel)
theorem dX12_write_234 : decode cX12_write 234 = .ok (.bipush 39, 2) := dk_16 (by decide +kernel)
theorem dX12_write_236 : decode cX12_write 236 = .ok (.bipush 48, 2) := dk_16 (by decide +kernel)
theorem dX12_write_238 : decode cX12_write 238 = .ok (.invokevirtual 965, 3) := dk_182 (by decide +kernel)
theorem dX12_write_241 : decode cX12_write 241 = .ok (.iconst 0, 1) := dk_3 (by decide +kernel)
theorem dX12_write_242 : decode cX12_write 242 = .ok (.istore_n 2, 1) := dk_61 (by decide +kernel)
theorem dX12_write_243 : decode cX12_write 243 = .ok (.iconst 0, 1) := dk_3 (by decide +kernel)
theorem dX12_write_244 : decode cX12_write 244 = .ok (.istore_n 3, 1) := dk_62 (by decide +kernel)
theorem dX12_write_245 : decode cX12_write 245 = .ok (.iload_n 3, 1) := dk_29 (by decide +kernel)
theorem dX12_write_246 : decode cX12_write 246 = .ok (.aload_n 0, 1) := dk_42 (by decide +kernel)
theorem dX12_write_247 : decode cX12_write 247 = .ok (.getfield 774, 3) := dk_180 (by decide +kernel)
theorem dX12_write_250 : decode cX12_write 250 = .ok (.if_icmp .ge 60, 3) := dk_162 (by decide +kernel)
theorem dX12_write_253 : decode cX12_write 253 = .ok (.aload_n 0, 1) := dk_42 (by decide +kernel)
theorem dX12_write_254 : decode cX12_write 254 = .ok (.getfield 209, 3) := dk_180 (by decide +kernel)
theorem dX12_write_257 : decode cX12_write 257 = .ok (.iload_n 1, 1) := dk_27 (by decide +kernel)
theorem dX12_write_258 : decode cX12_write 258 = .ok (.iaload, 1) := dk_46 (by decide +kernel)
theorem dX12_write_259 : decode cX12_write 259 = .ok (.iload_n 3, 1) := dk_29 (by decide +kernel)
theorem dX12_write_260 : decode cX12_write 260 = .ok (.ishr, 1) := dk_122 (by decide +kernel)
theorem dX12_write_261 : decode cX12_write 261 = .ok (.iconst 1, 1) := dk_4 (by decide +kernel)
theorem dX12_write_262 : decode cX12_write 262 = .ok (.iand, 1) := dk_126 (by decide +kernel)
theorem dX12_write_263 : decode cX12_write 263 = .ok (.ifCond .ne 6, 3) := dk_154 (by decide +kernel)
theorem dX12_write_266 : decode cX12_write 266 = .ok (.goto 38, 3) := dk_167 (by decide +kernel)
theorem dX12_write_269 : decode cX12_write 269 = .ok (.aload_n 0, 1) := dk_42 (by decide +kernel)
theorem dX12_write_270 : decode cX12_write 270 = .ok (.bipush 32, 2) := dk_16 (by decide +kernel)
theorem dX12_write_272 : decode cX12_write 272 = .ok (.invokevirtual 936, 3) := dk_182 (by decide +kernel)
theorem dX12_write_275 : decode cX12_write 275 = .ok (.iload_n 2, 1) := dk_28 (by decide +kernel)
theorem dX12_write_276 : decode cX12_write 276 = .ok (.ifCond .eq 15, 3) := dk_153 (by decide +kernel)
theorem dX12_write_279 : decode cX12_write 279 = .ok (.aload_n 0, 1) := dk_42 (by decide +kernel)
theorem dX12_write_280 : decode cX12_write 280 = .ok (.bipush 44, 2) := dk_16 (by decide +kernel)
theorem dX12_write_282 : decode cX12_write 282 = .ok (.invokevirtual 936, 3) := dk_182 (by decide +kernel)
theorem dX12_write_285 : decode cX12_write 285 = .ok (.aload_n 0, 1) := dk_42 (by decide +kernel)
theorem dX12_write_286 : decode cX12_write 286 = .ok (.bipush 32, 2) := dk_16 (by decide +kernel)
theorem dX12_write_288 : decode cX12_write 288 = .ok (.invokevirtual 936, 3) := dk_182 (by decide +kernel)
theorem dX12_write_291 : decode cX12_write 291 = .ok (.aload_n 0, 1) := dk_42 (by decide +kernel)
theorem dX12_write_292 : decode cX12_write 292 = .ok (.bipush 120, 2) := dk_16 (by decide +kernel)
theorem dX12_write_294 : decode cX12_write 294 = .ok (.invokevirtual 936, 3) := dk_182 (by decide +kernel)
theorem dX12_write_297 : decode cX12_write 297 = .ok (.aload_n 0, 1) := dk_42 (by decide +kernel)
theorem dX12_write_298 : decode cX12_write 298 = .ok (.iload_n 3, 1) := dk_29 (by decide +kernel)
theorem dX12_write_299 : decode cX12_write 299 = .ok (.invokevirtual 955, 3) := dk_182 (by decide +kernel)
theorem dX12_write_302 : decode cX12_write 302 = .ok (.iconst 1, 1) := dk_4 (by decide +kernel)
theorem dX12_write_303 : decode cX12_write 303 = .ok (.istore_n 2, 1) := dk_61 (by decide +kernel)
theorem dX12_write_304 : decode cX12_write 304 = .ok (.iinc 3 1, 3) := dk_132 (by decide +kernel)
theorem dX12_write_307 : decode cX12_write 307 = .ok (.goto (-62), 3) := dk_167 (by decide +kernel)
theorem dX12_write_310 : decode cX12_write 310 = .ok (.aload_n 0, 1) := dk_42 (by decide +kernel)
theorem dX12_write_311 : decode cX12_write 311 = .ok (.invokevirtual 968, 3) := dk_182 (by decide +kernel)
theorem dX12_write_314 : decode cX12_write 314 = .ok (.iinc 1 1, 3) := dk_132 (by decide +kernel)
theorem dX12_write_317 : decode cX12_write 317 = .ok (.goto (-92), 3) := dk_167 (by decide +kernel)
theorem dX12_write_320 : decode cX12_write 320 = .ok (.iconst 0, 1) := dk_3 (by decide +kernel)
theorem dX12_write_321 : decode cX12_write 321 = .ok (.istore_n 1, 1) := dk_60 (by decide +kernel)
theorem dX12_write_322 : decode cX12_write 322 = .ok (.iload_n 1, 1) := dk_27 (by decide +kernel)
theorem dX12_write_323 : decode cX12_write 323 = .ok (.aload_n 0, 1) := dk_42 (by decide +kernel)
theorem dX12_write_324 : decode cX12_write 324 = .ok (.getfield 805, 3) := dk_180 (by decide +kernel)
theorem dX12_write_327 : decode cX12_write 327 = .ok (.if_icmp .ge 18, 3) := dk_162 (by decide +kernel)
theorem dX12_write_330 : decode cX12_write 330 = .ok (.aload_n 0, 1) := dk_42 (by decide +kernel)
theorem dX12_write_331 : decode cX12_write 331 = .ok (.iload_n 1, 1) := dk_27 (by decide +kernel)
theorem dX12_write_332 : decode cX12_write 332 = .ok (.invokevirtual 974, 3) := dk_182 (by decide +kernel)
theorem dX12_write_335 : decode cX12_write 335 = .ok (.aload_n 0, 1) := dk_42 (by decide +kernel)
theorem dX12_write_336 : decode cX12_write 336 = .ok (.invokevirtual 968, 3) := dk_182 (by decide +kernel)
theorem dX12_write_339 : decode cX12_write 339 = .ok (.iinc 1 1, 3) := dk_132 (by decide +kernel)
theorem dX12_write_342 : decode cX12_write 342 = .ok (.goto (-20), 3) := dk_167 (by decide +kernel)
theorem dX12_write_345 : decode cX12_write 345 = .ok (.aload_n 0, 1) := dk_42 (by decide +kernel)
theorem dX12_write_346 : decode cX12_write 346 = .ok (.getfield 933, 3) := dk_180 (by decide +kernel)
theorem dX12_write_349 : decode cX12_write 349 = .ok (.ireturn, 1) := dk_172 (by decide +kernel)
def wsRX12_write : List Cond := .code yX12_write cX12_write 4 (some .int) :: ([.fieldLink RX12 808 "OptimaWorksModel" "isModel" "Z", .fieldLink RX12 348 "OptimaWorksModel" "thrown" "I", .fieldLink RX12 933 "OptimaWorksModel" "printed" "I", .fieldLink RX12 774 "OptimaWorksModel" "variables" "I", .fieldLink RX12 786 "OptimaWorksModel" "modelRows" "I", .fieldLink RX12 802 "OptimaWorksModel" "differents" "I", .fieldLink RX12 805 "OptimaWorksModel" "modelGoals" "I", .fieldLink RX12 209 "OptimaWorksModel" "differentSet" "[I", .fieldLink RX12 200 "OptimaWorksModel" "wayMany" "[I", .fieldLink RX12 197 "OptimaWorksModel" "whole" "[I", .fieldLink RX12 191 "OptimaWorksModel" "low" "[I", .fieldLink RX12 194 "OptimaWorksModel" "high" "[I"] ++ wsX120 ++ (wsV RX12 974 RX12 yX12_sayGoal wsRX12_sayGoal) ++ (wsV RX12 968 RX12 yX12_endLine wsRX12_endLine) ++ (wsV RX12 965 RX12 yX12_sayText wsRX12_sayText) ++ (wsV RX12 936 RX12 yX12_say wsRX12_say) ++ (wsV RX12 955 RX12 yX12_sayNumber wsRX12_sayNumber) ++ (wsV RX12 971 RX12 yX12_sayWay wsRX12_sayWay))
theorem iwsRX12_write_in12 : ∀ w ∈ wsX120, w ∈ wsRX12_write := fun _ h => List.mem_cons_of_mem _ (List.mem_append_left _ (List.mem_append_left _ (List.mem_append_left _ (List.mem_append_left _ (List.mem_append_left _ (List.mem_append_left _ (List.mem_append_right _ h)))))))
theorem gwsRX12_write_0 : GoodIn wsRX12_write (wsV RX12 974 RX12 yX12_sayGoal wsRX12_sayGoal) := goodIn_sub (fun _ h => List.mem_cons_of_mem _ (List.mem_append_left _ (List.mem_append_left _ (List.mem_append_left _ (List.mem_append_left _ (List.mem_append_left _ (List.mem_append_right _ h))))))) (gdV (by decide +kernel) gdwsRX12_sayGoal)
theorem gwsRX12_write_1 : GoodIn wsRX12_write (wsV RX12 968 RX12 yX12_endLine wsRX12_endLine) := goodIn_sub (fun _ h => List.mem_cons_of_mem _ (List.mem_append_left _ (List.mem_append_left _ (List.mem_append_left _ (List.mem_append_left _ (List.mem_append_right _ h)))))) (gdV (by decide +kernel) gdwsRX12_endLine)
theorem gwsRX12_write_2 : GoodIn wsRX12_write (wsV RX12 965 RX12 yX12_sayText wsRX12_sayText) := goodIn_sub (fun _ h => List.mem_cons_of_mem _ (List.mem_append_left _ (List.mem_append_left _ (List.mem_append_left _ (List.mem_append_right _ h))))) (gdV (by decide +kernel) gdwsRX12_sayText)
theorem gwsRX12_write_3 : GoodIn wsRX12_write (wsV RX12 936 RX12 yX12_say wsRX12_say) := goodIn_sub (fun _ h => List.mem_cons_of_mem _ (List.mem_append_left _ (List.mem_append_left _ (List.mem_append_right _ h)))) (gdV (by decide +kernel) gdwsRX12_say)
theorem gwsRX12_write_4 : GoodIn wsRX12_write (wsV RX12 955 RX12 yX12_sayNumber wsRX12_sayNumber) := goodIn_sub (fun _ h => List.mem_cons_of_mem _ (List.mem_append_left _ (List.mem_append_right _ h))) (gdV (by decide +kernel) gdwsRX12_sayNumber)
theorem gwsRX12_write_5 : GoodIn wsRX12_write (wsV RX12 971 RX12 yX12_sayWay wsRX12_sayWay) := goodIn_sub (fun _ h => List.mem_cons_of_mem _ (List.mem_append_right _ h)) (gdV (by decide +kernel) gdwsRX12_sayWay)
theorem gdwsRX12_write : wsRX12_write.all goodWord = true := gdC rfl (gdA (gdA (gdA (gdA (gdA (gdA (gdA (by decide +kernel : ([.fieldLink RX12 808 "OptimaWorksModel" "isModel" "Z", .fieldLink RX12 348 "OptimaWorksModel" "thrown" "I", .fieldLink RX12 933 "OptimaWorksModel" "printed" "I", .fieldLink RX12 774 "OptimaWorksModel" "variables" "I", .fieldLink RX12 786 "OptimaWorksModel" "modelRows" "I", .fieldLink RX12 802 "OptimaWorksModel" "differents" "I", .fieldLink RX12 805 "OptimaWorksModel" "modelGoals" "I", .fieldLink RX12 209 "OptimaWorksModel" "differentSet" "[I", .fieldLink RX12 200 "OptimaWorksModel" "wayMany" "[I", .fieldLink RX12 197 "OptimaWorksModel" "whole" "[I", .fieldLink RX12 191 "OptimaWorksModel" "low" "[I", .fieldLink RX12 194 "OptimaWorksModel" "high" "[I"] : List Cond).all goodWord = true) gdwsX120) (gdV (by decide +kernel) gdwsRX12_sayGoal)) (gdV (by decide +kernel) gdwsRX12_endLine)) (gdV (by decide +kernel) gdwsRX12_sayText)) (gdV (by decide +kernel) gdwsRX12_say)) (gdV (by decide +kernel) gdwsRX12_sayNumber)) (gdV (by decide +kernel) gdwsRX12_sayWay))
set_option maxHeartbeats 4000000 in
set_option maxRecDepth 100000 in
/-- write() -/
theorem r_X12_write (l : Launch) (dC : Nat → ClassId) (dI : Nat → Nat → Nat) (a : Nat → Nat) (k : Nat → ClassId) (h0 : Nat) (vi : Nat → Int32) (vj : Nat → Int64) (vF : Nat → Nat → Int32) (vG : Nat → Nat → Int64) (vn : Nat) (mr : Nat) (gq : Nat) (dn : Nat) (pn : Nat) (hpn : vi 125 = nI pn) (hpn2 : pn ≤ 30000) (hvn : vi 90 = nI vn) (hvn8 : vn ≤ 8) (hmr : vi 91 = nI mr) (hmr12 : mr ≤ 12) (hmg : vi 93 = nI gq) (hgq : gq ≤ 3) (hdn : vi 92 = nI dn) (hdn8 : dn ≤ 8) (hM : MdlB vF gq) (hwm : WmO (vF 59) mr) (sz : Nat) : Met l yX12_write wsRX12_write ({ frames := 7, cells := 0, slots := 0, locals := 152 }) (va_Pc [.ref h0] (fun U => U.heap.size = sz ∧ va_P (dC, dI) vwCl (WR a k h0 vi vj vF vG) U.heap ∧ va_K (dC, dI) vwCl (tX12 k) U ∧ va_D (fun _ => True) (WR a k h0 vi vj vF vG) ∧ StrA (va_A (WR a k h0 vi vj vF vG) sz) U U.heap)) (va_Qi (fun (r : Int32) (u : (Int32) × (Nat) × (Nat → Int32)) => ((u.2.1) ≤ 30000)) (fun (u : (Int32) × (Nat) × (Nat → Int32)) t => va_P (dC, dI) vwCl (WR a k h0 (fT (fT vi 0 (u.1)) 125 (nI (u.2.1))) vj (fT vF 75 (u.2.2)) vG) t.heap ∧ va_D (va_A (WR a k h0 vi vj vF vG) sz) (WR a k h0 (fT (fT vi 0 (u.1)) 125 (nI (u.2.1))) vj (fT vF 75 (u.2.2)) vG)) (va_A (WR a k h0 vi vj vF vG) sz)) 0 0 (va_A (WR a k h0 vi vj vF vG) sz) := by
  refine Met.ofW (cc := cX12_write) (maxL := 4) (ret := (some .int)) (by decide) rfl ?_
  intro p e s m args below meth c s₁ B hml hv
  obtain ⟨rfl, hsz, hP, hK, hD0, hE⟩ := hv
  have hx := B.exec
  have hb := B.bytes
  have hr := B.returns
  have hts := atoms_spec (ws := wsRX12_write) B.pre
  have hown : s.vm.findClass RX12 = some m.cls := findClass_of_methodNamed B.named
  have hlocks := B.notSynchronized
  subst hsz
  have hD := hD0.self (sz := s.heap.size)
  generalize hAe : va_A (WR a k h0 vi vj vF vG) s.heap.size = A at hD hE ⊢
  have hA : ∀ q : Nat, s.heap.size ≤ q → A q := fun q h => by rw [← hAe]; exact Or.inr h
  have hS : va_S A s.heap s.heap [] := va_S.rf
  have hl := lv_entry ([.ref h0]) (n := 4) (Nat.le_of_ble_eq_true rfl)
  rw [lg_entry_eq]
  generalize (lg_sl ([.ref h0]) ++ List.replicate (4 - (lg_sl ([.ref h0])).length) Slot.unset).toArray = ls at hl ⊢
  have hl : lv_has ls 4 [(0, .ref h0)] := hl
  refine lv_aload_n hx hb dX12_write_0 rfl (lv_at hl 0 rfl) ?_
  refine lv_aload_n hx hb dX12_write_1 rfl (lv_at hl 0 rfl) ?_
  refine va_get (D := (dC, dI)) (ci := 12) (v := .int (vi 95)) (C := RX12) (T := TX12) (N := 163) (fs := fM (vS a vi vj)) hx hb hts iwsRX12_write_in12 hown hK hP 0 rfl rfl 95 (by decide) (hts (.fieldLink RX12 808 "OptimaWorksModel" "isModel" "Z") (by decide +kernel)) (fun _ h9 => h9) rfl dX12_write_2 ?_
  refine lv_if_eq (tgt := 12) hx hb dX12_write_5 (by decide) (fun c_5 => ?_) (fun c_5 => ?_)
  · have t_5 : ((vi 95)).toInt = 0 := toI_eq c_5 rfl (by decide)
    refine lv_iconst (v := 1) hx hb dX12_write_12 (by decide) ?_
    refine va_put (D := (dC, dI)) (ci := 12) (v := .int 1) (ty := .int) (C := RX12) (T := TX12) (N := 163) (fs := fM (vS a vi vj)) hx hb hts iwsRX12_write_in12 tyX12 tyX12_ok nmX12 hown hK hP hD hS 0 rfl rfl 0 (by decide) (hts (.fieldLink RX12 348 "OptimaWorksModel" "thrown" "I") (by decide +kernel)) (fun _ h9 => h9) rfl (by decide +kernel) rfl rfl (Nat.le_of_ble_eq_true rfl) dX12_write_13 (fun H locs hP hD hS => ?_)
    have hP : va_P (dC, dI) vwCl (WR a k h0 (fT vi 0 1) vj vF vG) H := by rw [← WR_i 0 _ rfl]; exact hP
    have hD : va_D A (WR a k h0 (fT vi 0 1) vj vF vG) := by rw [← WR_i 0 _ rfl]; exact hD
    refine lv_aload_n hx hb dX12_write_16 rfl (lv_at hl 0 rfl) ?_
    refine va_get (D := (dC, dI)) (ci := 12) (v := .int 1) (C := RX12) (T := TX12) (N := 163) (fs := fM (vS a (fT vi 0 1) vj)) hx hb hts iwsRX12_write_in12 hown hK hP 0 rfl rfl 0 (by decide) (hts (.fieldLink RX12 348 "OptimaWorksModel" "thrown" "I") (by decide +kernel)) (fun _ h9 => h9) rfl dX12_write_17 ?_
    refine lv_if_le (tgt := 25) hx hb dX12_write_20 (by decide) (fun c9 => absurd c9 (by decide)) (fun _ => ?_)
    refine lv_iconst (v := 0) hx hb dX12_write_23 (by decide) ?_
    refine W.widen (k := 0) (n := 0) (by decide +kernel) (by decide +kernel) ?_
    have e9 : fT (fT vi 0 1) 125 (nI pn) = fT vi 0 1 := by funext q9; by_cases h9_0 : q9 = 0; (subst h9_0; exact ((fT_ne _ _ (Nat.ne_of_beq_eq_false rfl)).trans (fT_eq _ _ _)).trans (Eq.trans (by first | rfl | assumption | (symm; assumption) | (subst_vars; rfl)) (fT_eq _ _ _).symm)); by_cases h9_125 : q9 = 125; (subst h9_125; exact (fT_eq _ _ _).trans (Eq.trans (by first | rfl | assumption | (symm; assumption) | (subst_vars; rfl)) (fT_ne _ _ (Nat.ne_of_beq_eq_false rfl)).symm)); exact ((fT_ne _ _ h9_125).trans (fT_ne _ _ h9_0)).trans (fT_ne _ _ h9_0).symm
    have hP : va_P (dC, dI) vwCl (WR a k h0 (fT (fT vi 0 1) 125 (nI pn)) vj vF vG) H := by rw [e9]; exact hP
    have hD : va_D A (WR a k h0 (fT (fT vi 0 1) 125 (nI pn)) vj vF vG) := by rw [e9]; exact hD
    clear e9
    have e9 : fT vF 75 (vF 75) = vF := fT_id _ _ (rfl)
    have hP : va_P (dC, dI) vwCl (WR a k h0 (fT (fT vi 0 1) 125 (nI pn)) vj (fT vF 75 (vF 75)) vG) H := by rw [e9]; exact hP
    have hD : va_D A (WR a k h0 (fT (fT vi 0 1) 125 (nI pn)) vj (fT vF 75 (vF 75)) vG) := by rw [e9]; exact hD
    clear e9
    exact W.iret (v := 0) hx hb hr (fun t9_ ht hW => ⟨⟨0, (1, pn, (vF 75)), rfl, by (try dsimp only); first | assumption | omega, by rw [ht]; exact hP, hD⟩, hS.F ht⟩) hS.2.2 dX12_write_24
  · have t_5 : ¬ ((vi 95)).toInt = 0 := toI_neq c_5 rfl (by decide)
    refine lv_iconst (v := 0) hx hb dX12_write_8 (by decide) ?_
    refine lv_goto (tgt := 13) hx hb dX12_write_9 (by decide) ?_
    refine va_put (D := (dC, dI)) (ci := 12) (v := .int 0) (ty := .int) (C := RX12) (T := TX12) (N := 163) (fs := fM (vS a vi vj)) hx hb hts iwsRX12_write_in12 tyX12 tyX12_ok nmX12 hown hK hP hD hS 0 rfl rfl 0 (by decide) (hts (.fieldLink RX12 348 "OptimaWorksModel" "thrown" "I") (by decide +kernel)) (fun _ h9 => h9) rfl (by decide +kernel) rfl rfl (Nat.le_of_ble_eq_true rfl) dX12_write_13 (fun H locs hP hD hS => ?_)
    have hP : va_P (dC, dI) vwCl (WR a k h0 (fT vi 0 0) vj vF vG) H := by rw [← WR_i 0 _ rfl]; exact hP
    have hD : va_D A (WR a k h0 (fT vi 0 0) vj vF vG) := by rw [← WR_i 0 _ rfl]; exact hD
    refine lv_aload_n hx hb dX12_write_16 rfl (lv_at hl 0 rfl) ?_
    refine va_get (D := (dC, dI)) (ci := 12) (v := .int 0) (C := RX12) (T := TX12) (N := 163) (fs := fM (vS a (fT vi 0 0) vj)) hx hb hts iwsRX12_write_in12 hown hK hP 0 rfl rfl 0 (by decide) (hts (.fieldLink RX12 348 "OptimaWorksModel" "thrown" "I") (by decide +kernel)) (fun _ h9 => h9) rfl dX12_write_17 ?_
    refine lv_if_le (tgt := 25) hx hb dX12_write_20 (by decide) (fun _ => ?_) (fun c9 => absurd (by decide) c9)
    refine lv_aload_n hx hb dX12_write_25 rfl (lv_at hl 0 rfl) ?_
    refine lv_iconst (v := 0) hx hb dX12_write_26 (by decide) ?_
    refine va_put (D := (dC, dI)) (ci := 12) (v := .int 0) (ty := .int) (C := RX12) (T := TX12) (N := 163) (fs := fM (vS a (fT vi 0 0) vj)) hx hb hts iwsRX12_write_in12 tyX12 tyX12_ok nmX12 hown hK hP hD hS 0 rfl rfl 125 (by decide) (hts (.fieldLink RX12 933 "OptimaWorksModel" "printed" "I") (by decide +kernel)) (fun _ h9 => h9) rfl (by decide +kernel) rfl rfl (Nat.le_of_ble_eq_true rfl) dX12_write_27 (fun H locs hP hD hS => ?_)
    have hP : va_P (dC, dI) vwCl (WR a k h0 (fT (fT vi 0 0) 125 0) vj vF vG) H := by rw [← WR_i 125 _ rfl]; exact hP
    have hD : va_D A (WR a k h0 (fT (fT vi 0 0) 125 0) vj vF vG) := by rw [← WR_i 125 _ rfl]; exact hD
    refine lv_iconst (v := 0) hx hb dX12_write_30 (by decide) ?_
    refine lv_istore_n hx hb dX12_write_31 rfl hl (by decide) rfl (fun ls (hl : lv_has ls _ ([(1, .int 0), (0, .ref h0)])) => ?_)
    have e9 : fT (fT vi 0 0) 125 (nI 0) = fT (fT vi 0 0) 125 0 := by funext q9; by_cases h9_0 : q9 = 0; (subst h9_0; exact ((fT_ne _ _ (Nat.ne_of_beq_eq_false rfl)).trans (fT_eq _ _ _)).trans (Eq.trans (by first | rfl | assumption | (symm; assumption) | (subst_vars; rfl)) ((fT_ne _ _ (Nat.ne_of_beq_eq_false rfl)).trans (fT_eq _ _ _)).symm)); by_cases h9_125 : q9 = 125; (subst h9_125; exact (fT_eq _ _ _).trans (Eq.trans (by first | rfl | assumption | (symm; assumption) | (subst_vars; rfl)) (fT_eq _ _ _).symm)); exact ((fT_ne _ _ h9_125).trans (fT_ne _ _ h9_0)).trans ((fT_ne _ _ h9_125).trans (fT_ne _ _ h9_0)).symm
    have hP : va_P (dC, dI) vwCl (WR a k h0 (fT (fT vi 0 0) 125 (nI 0)) vj vF vG) H := by rw [e9]; exact hP
    have hD : va_D A (WR a k h0 (fT (fT vi 0 0) 125 (nI 0)) vj vF vG) := by rw [e9]; exact hD
    clear e9
    have e9 : fT vF 75 (vF 75) = vF := by funext q9; by_cases h9_75 : q9 = 75; (subst h9_75; exact (fT_eq _ _ _).trans (Eq.trans (by first | rfl | assumption | (symm; assumption) | (subst_vars; rfl)) (Eq.refl _).symm)); exact (fT_ne _ _ h9_75).trans (Eq.refl _).symm
    have hP : va_P (dC, dI) vwCl (WR a k h0 (fT (fT vi 0 0) 125 (nI 0)) vj (fT vF 75 (vF 75)) vG) H := by rw [e9]; exact hP
    have hD : va_D A (WR a k h0 (fT (fT vi 0 0) 125 (nI 0)) vj (fT vF 75 (vF 75)) vG) := by rw [e9]; exact hD
    clear e9
    have hl : lv_has _ _ ([(0, .ref h0), (1, .int (nI 0))]) := lv_sub hl [1, 0] rfl
    refine (fun (loop : ∀ (n9 : Nat) (k5 : Nat) (x31_i125 : Nat) (x31_F75 : Nat → Int32) (H : Heap) (locs : List Loc) (ls : Array Slot), (k5 ≤ vn) → (x31_i125 ≤ 30000) →  (vn < k5 + n9) → va_P (dC, dI) vwCl (WR a k h0 (fT (fT vi 0 0) 125 (nI x31_i125)) vj (fT vF 75 x31_F75) vG) H → va_D A (WR a k h0 (fT (fT vi 0 0) 125 (nI x31_i125)) vj (fT vF 75 x31_F75) vG) → va_S A s.heap H locs → lv_has ls 4 [(0, .ref h0), (1, .int (nI k5))] → W p l e _ s m _ below meth c H locs 0 0 _ (F0 m 32 ls [])) => loop (vn + 1) 0 0 (vF 75) _ _ _ (by omega) (by first | assumption | omega) (by omega) hP hD hS hl) ?_
    intro n9
    induction n9 with
    | zero => intro k5 x31_i125 x31_F75 H locs ls hk5 hx31_i125 hf9; exact False.elim (by omega)
    | succ n9 ih32 =>
      intro k5 x31_i125 x31_F75 H locs ls hk5 hx31_i125 hf32 hP hD hS hl
      refine lv_iload_n hx hb dX12_write_32 rfl (lv_at hl 1 rfl) ?_
      refine lv_aload_n hx hb dX12_write_33 rfl (lv_at hl 0 rfl) ?_
      refine va_get (D := (dC, dI)) (ci := 12) (v := .int (vi 90)) (C := RX12) (T := TX12) (N := 163) (fs := fM (vS a (fT (fT vi 0 0) 125 (nI x31_i125)) vj)) hx hb hts iwsRX12_write_in12 hown hK hP 0 rfl rfl 90 (by decide) (hts (.fieldLink RX12 774 "OptimaWorksModel" "variables" "I") (by decide +kernel)) (fun _ h9 => h9) rfl dX12_write_34 ?_
      refine lv_topi (fun y1 hy1 => ?_)
      obtain rfl : (nI vn) = y1 := (hy1.trans (hvn)).symm
      refine lv_icmp_ge (tgt := 127) hx hb dX12_write_37 (by decide) (fun c_37 => ?_) (fun c_37 => ?_)
      · have t_37 : ((k5 : Nat) : Int) ≥ ((vn : Nat) : Int) := toI_ge c_37 (nI_toInt (by omega)) (nI_toInt (by omega))
        refine lv_iconst (v := 0) hx hb dX12_write_127 (by decide) ?_
        refine lv_istore_n hx hb dX12_write_128 rfl hl (by decide) rfl (fun ls (hl : lv_has ls _ ([(1, .int 0), (0, .ref h0)])) => ?_)
        have hl : lv_has _ _ ([(0, .ref h0), (1, .int (nI 0))]) := lv_sub hl [1, 0] rfl
        refine (fun (loop : ∀ (n9 : Nat) (r5 : Nat) (x46_i125 : Nat) (x46_F75 : Nat → Int32) (H : Heap) (locs : List Loc) (ls : Array Slot), (r5 ≤ mr) → (x46_i125 ≤ 30000) →  (mr < r5 + n9) → va_P (dC, dI) vwCl (WR a k h0 (fT (fT vi 0 0) 125 (nI x46_i125)) vj (fT vF 75 x46_F75) vG) H → va_D A (WR a k h0 (fT (fT vi 0 0) 125 (nI x46_i125)) vj (fT vF 75 x46_F75) vG) → va_S A s.heap H locs → lv_has ls 4 [(0, .ref h0), (1, .int (nI r5))] → W p l e _ s m _ below meth c H locs 0 0 _ (F0 m 129 ls [])) => loop (mr + 1) 0 x31_i125 x31_F75 _ _ _ (by omega) (by first | assumption | omega) (by omega) hP hD hS hl) ?_
        intro n9
        induction n9 with
        | zero => intro r5 x46_i125 x46_F75 H locs ls hr5 hx46_i125 hf9; exact False.elim (by omega)
        | succ n9 ih129_1 =>
          intro r5 x46_i125 x46_F75 H locs ls hr5 hx46_i125 hf129_1 hP hD hS hl
          refine lv_iload_n hx hb dX12_write_129 rfl (lv_at hl 1 rfl) ?_
          refine lv_aload_n hx hb dX12_write_130 rfl (lv_at hl 0 rfl) ?_
          refine va_get (D := (dC, dI)) (ci := 12) (v := .int (vi 91)) (C := RX12) (T := TX12) (N := 163) (fs := fM (vS a (fT (fT vi 0 0) 125 (nI x46_i125)) vj)) hx hb hts iwsRX12_write_in12 hown hK hP 0 rfl rfl 91 (by decide) (hts (.fieldLink RX12 786 "OptimaWorksModel" "modelRows" "I") (by decide +kernel)) (fun _ h9 => h9) rfl dX12_write_131 ?_
          refine lv_topi (fun y2 hy2 => ?_)
          obtain rfl : (nI mr) = y2 := (hy2.trans (hmr)).symm
          refine lv_icmp_ge (tgt := 223) hx hb dX12_write_134 (by decide) (fun c_134 => ?_) (fun c_134 => ?_)
          · have t_134 : ((r5 : Nat) : Int) ≥ ((mr : Nat) : Int) := toI_ge c_134 (nI_toInt (by omega)) (nI_toInt (by omega))
            refine lv_iconst (v := 0) hx hb dX12_write_223 (by decide) ?_
            refine lv_istore_n hx hb dX12_write_224 rfl hl (by decide) rfl (fun ls (hl : lv_has ls _ ([(1, .int 0), (0, .ref h0)])) => ?_)
            have hl : lv_has _ _ ([(0, .ref h0), (1, .int (nI 0))]) := lv_sub hl [1, 0] rfl
            refine (fun (loop : ∀ (n9 : Nat) (d5 : Nat) (x51_i125 : Nat) (x51_F75 : Nat → Int32) (H : Heap) (locs : List Loc) (ls : Array Slot), (d5 ≤ dn) → (x51_i125 ≤ 30000) →  (dn < d5 + n9) → va_P (dC, dI) vwCl (WR a k h0 (fT (fT vi 0 0) 125 (nI x51_i125)) vj (fT vF 75 x51_F75) vG) H → va_D A (WR a k h0 (fT (fT vi 0 0) 125 (nI x51_i125)) vj (fT vF 75 x51_F75) vG) → va_S A s.heap H locs → lv_has ls 4 [(0, .ref h0), (1, .int (nI d5))] → W p l e _ s m _ below meth c H locs 0 0 _ (F0 m 225 ls [])) => loop (dn + 1) 0 x46_i125 x46_F75 _ _ _ (by omega) (by first | assumption | omega) (by omega) hP hD hS hl) ?_
            intro n9
            induction n9 with
            | zero => intro d5 x51_i125 x51_F75 H locs ls hd5 hx51_i125 hf9; exact False.elim (by omega)
            | succ n9 ih225_2 =>
              intro d5 x51_i125 x51_F75 H locs ls hd5 hx51_i125 hf225_2 hP hD hS hl
              refine lv_iload_n hx hb dX12_write_225 rfl (lv_at hl 1 rfl) ?_
              refine lv_aload_n hx hb dX12_write_226 rfl (lv_at hl 0 rfl) ?_
              refine va_get (D := (dC, dI)) (ci := 12) (v := .int (vi 92)) (C := RX12) (T := TX12) (N := 163) (fs := fM (vS a (fT (fT vi 0 0) 125 (nI x51_i125)) vj)) hx hb hts iwsRX12_write_in12 hown hK hP 0 rfl rfl 92 (by decide) (hts (.fieldLink RX12 802 "OptimaWorksModel" "differents" "I") (by decide +kernel)) (fun _ h9 => h9) rfl dX12_write_227 ?_
              refine lv_topi (fun y3 hy3 => ?_)
              obtain rfl : (nI dn) = y3 := (hy3.trans (hdn)).symm
              refine lv_icmp_ge (tgt := 320) hx hb dX12_write_230 (by decide) (fun c_230 => ?_) (fun c_230 => ?_)
              · have t_230 : ((d5 : Nat) : Int) ≥ ((dn : Nat) : Int) := toI_ge c_230 (nI_toInt (by omega)) (nI_toInt (by omega))
                refine lv_iconst (v := 0) hx hb dX12_write_320 (by decide) ?_
                refine lv_istore_n hx hb dX12_write_321 rfl hl (by decide) rfl (fun ls (hl : lv_has ls _ ([(1, .int 0), (0, .ref h0)])) => ?_)
                have hl : lv_has _ _ ([(0, .ref h0), (1, .int (nI 0))]) := lv_sub hl [1, 0] rfl
                refine (fun (loop : ∀ (n9 : Nat) (g5 : Nat) (x52_i125 : Nat) (x52_F75 : Nat → Int32) (H : Heap) (locs : List Loc) (ls : Array Slot), (g5 ≤ gq) → (x52_i125 ≤ 30000) →  (gq < g5 + n9) → va_P (dC, dI) vwCl (WR a k h0 (fT (fT vi 0 0) 125 (nI x52_i125)) vj (fT vF 75 x52_F75) vG) H → va_D A (WR a k h0 (fT (fT vi 0 0) 125 (nI x52_i125)) vj (fT vF 75 x52_F75) vG) → va_S A s.heap H locs → lv_has ls 4 [(0, .ref h0), (1, .int (nI g5))] → W p l e _ s m _ below meth c H locs 0 0 _ (F0 m 322 ls [])) => loop (gq + 1) 0 x51_i125 x51_F75 _ _ _ (by omega) (by first | assumption | omega) (by omega) hP hD hS hl) ?_
                intro n9
                induction n9 with
                | zero => intro g5 x52_i125 x52_F75 H locs ls hg5 hx52_i125 hf9; exact False.elim (by omega)
                | succ n9 ih322_3 =>
                  intro g5 x52_i125 x52_F75 H locs ls hg5 hx52_i125 hf322_3 hP hD hS hl
                  refine lv_iload_n hx hb dX12_write_322 rfl (lv_at hl 1 rfl) ?_
                  refine lv_aload_n hx hb dX12_write_323 rfl (lv_at hl 0 rfl) ?_
                  refine va_get (D := (dC, dI)) (ci := 12) (v := .int (vi 93)) (C := RX12) (T := TX12) (N := 163) (fs := fM (vS a (fT (fT vi 0 0) 125 (nI x52_i125)) vj)) hx hb hts iwsRX12_write_in12 hown hK hP 0 rfl rfl 93 (by decide) (hts (.fieldLink RX12 805 "OptimaWorksModel" "modelGoals" "I") (by decide +kernel)) (fun _ h9 => h9) rfl dX12_write_324 ?_
                  refine lv_topi (fun y4 hy4 => ?_)
                  obtain rfl : (nI gq) = y4 := (hy4.trans (hmg)).symm
                  refine lv_icmp_ge (tgt := 345) hx hb dX12_write_327 (by decide) (fun c_327 => ?_) (fun c_327 => ?_)
                  · have t_327 : ((g5 : Nat) : Int) ≥ ((gq : Nat) : Int) := toI_ge c_327 (nI_toInt (by omega)) (nI_toInt (by omega))
                    refine lv_aload_n hx hb dX12_write_345 rfl (lv_at hl 0 rfl) ?_
                    refine va_get (D := (dC, dI)) (ci := 12) (v := .int (nI x52_i125)) (C := RX12) (T := TX12) (N := 163) (fs := fM (vS a (fT (fT vi 0 0) 125 (nI x52_i125)) vj)) hx hb hts iwsRX12_write_in12 hown hK hP 0 rfl rfl 125 (by decide) (hts (.fieldLink RX12 933 "OptimaWorksModel" "printed" "I") (by decide +kernel)) (fun _ h9 => h9) rfl dX12_write_346 ?_
                    refine W.widen (k := 0) (n := 0) (by decide +kernel) (by decide +kernel) ?_
                    exact W.iret (v := (nI x52_i125)) hx hb hr (fun t9_ ht hW => ⟨⟨(nI x52_i125), (0, x52_i125, x52_F75), rfl, by (try dsimp only); first | assumption | omega, by rw [ht]; exact hP, hD⟩, hS.F ht⟩) hS.2.2 dX12_write_349
                  · have t_327 : ¬ ((g5 : Nat) : Int) ≥ ((gq : Nat) : Int) := toI_nge c_327 (nI_toInt (by omega)) (nI_toInt (by omega))
                    refine lv_aload_n hx hb dX12_write_330 rfl (lv_at hl 0 rfl) ?_
                    refine lv_iload_n hx hb dX12_write_331 rfl (lv_at hl 1 rfl) ?_
                    have hFc := allFree hD hS hA
                    refine va_callv (va_runV (As := [.int (nI g5)]) (rest := []) ⟨hx, hb, hml, hown, hts⟩ (r_X12_sayGoal l dC dI a k h0 (fT (fT vi 0 0) 125 (nI x52_i125)) vj (fT vF 75 x52_F75) vG g5 vn gq x52_i125 rfl (by first | assumption | decide | omega | rfl) hvn (by first | assumption | decide | omega | rfl) (by first | assumption | decide | omega | rfl) (by first | assumption | decide | omega | rfl) (by first | assumption | decide | omega | rfl) H.size) (cwV 1 hts gwsRX12_write_0 rfl rfl rfl hd_yX12_sayGoal_RX12 (by decide +kernel)) (fz_preE (va_recv hK hP (ci := 12) (q0 := 0) rfl rfl) hP hK hD (fun a U g mk qE => qE.same rfl) (fun U hU9 hW => by rw [hU9]; exact (((hE : StrA A s s.heap).kept hS.2.1).narrow (fun q h => hFc q h)).warm hW)) rfl rfl hl.1 rfl (lv_room (Nat.le_of_ble_eq_true rfl)) dX12_write_332 (by decide +kernel)) hS (fun q _ h => hFc q h) hFc (fun u t9_ H locs ht hvm hw9 hB9 hz1 hk1 hS => ?_)
                    obtain ⟨p2332, f75332⟩ := u
                    try dsimp only at hw9 hB9
                    have hP : va_P (dC, dI) vwCl (WR a k h0 (fT (fT (fT vi 0 0) 125 (nI x52_i125)) 125 (nI p2332)) vj (fT (fT vF 75 x52_F75) 75 f75332) vG) H := fz_P ht hB9.1
                    have hD : va_D A (WR a k h0 (fT (fT (fT vi 0 0) 125 (nI x52_i125)) 125 (nI p2332)) vj (fT (fT vF 75 x52_F75) 75 f75332) vG) := hB9.2.weaken (fun _ q _ h => hFc q.1 h)
                    have e9 : fT (fT vi 0 0) 125 (nI p2332) = fT (fT (fT vi 0 0) 125 (nI x52_i125)) 125 (nI p2332) := (fT_sm _ _ _ _).symm
                    rw [← e9] at hP hD
                    clear e9
                    have e9 : fT vF 75 f75332 = fT (fT vF 75 x52_F75) 75 f75332 := (fT_sm _ _ _ _).symm
                    rw [← e9] at hP hD
                    clear e9
                    have hP : va_P (dC, dI) vwCl (WR a k h0 (fT (fT vi 0 0) 125 (nI p2332)) vj (fT vF 75 f75332) vG) H := hP
                    have hD : va_D A (WR a k h0 (fT (fT vi 0 0) 125 (nI p2332)) vj (fT vF 75 f75332) vG) := hD
                    have f332_0 := hw9
                    try dsimp only at f332_0
                    refine lv_aload_n hx hb dX12_write_335 rfl (lv_at hl 0 rfl) ?_
                    have hFc := allFree hD hS hA
                    refine va_callv (va_runV (As := []) (rest := []) ⟨hx, hb, hml, hown, hts⟩ (r_X12_endLine l dC dI a k h0 (fT (fT vi 0 0) 125 (nI p2332)) vj (fT vF 75 f75332) vG p2332 rfl (by first | assumption | decide | omega | rfl) H.size) (cwV 0 hts gwsRX12_write_1 rfl rfl rfl hd_yX12_endLine_RX12 (by decide +kernel)) (fz_pre (va_recv hK hP (ci := 12) (q0 := 0) rfl rfl) hP hK hD) rfl rfl hl.1 rfl (lv_room (Nat.le_of_ble_eq_true rfl)) dX12_write_336 (by decide +kernel)) hS (fun q _ h => hFc q h) hFc (fun u t9_ H locs ht hvm hw9 hB9 hz1 hk1 hS => ?_)
                    obtain ⟨p2336, f75336⟩ := u
                    try dsimp only at hw9 hB9
                    have hP : va_P (dC, dI) vwCl (WR a k h0 (fT (fT (fT vi 0 0) 125 (nI p2332)) 125 (nI p2336)) vj (fT (fT vF 75 f75332) 75 f75336) vG) H := fz_P ht hB9.1
                    have hD : va_D A (WR a k h0 (fT (fT (fT vi 0 0) 125 (nI p2332)) 125 (nI p2336)) vj (fT (fT vF 75 f75332) 75 f75336) vG) := hB9.2.weaken (fun _ q _ h => hFc q.1 h)
                    have e9 : fT (fT vi 0 0) 125 (nI p2336) = fT (fT (fT vi 0 0) 125 (nI p2332)) 125 (nI p2336) := (fT_sm _ _ _ _).symm
                    rw [← e9] at hP hD
                    clear e9
                    have e9 : fT vF 75 f75336 = fT (fT vF 75 f75332) 75 f75336 := (fT_sm _ _ _ _).symm
                    rw [← e9] at hP hD
                    clear e9
                    have hP : va_P (dC, dI) vwCl (WR a k h0 (fT (fT vi 0 0) 125 (nI p2336)) vj (fT vF 75 f75336) vG) H := hP
                    have hD : va_D A (WR a k h0 (fT (fT vi 0 0) 125 (nI p2336)) vj (fT vF 75 f75336) vG) := hD
                    have f336_0 := hw9
                    try dsimp only at f336_0
                    refine lv_iinc (v := (nI (g5 + 1))) hx hb dX12_write_339 hl (k := 1) rfl (nI_add g5 1) (by decide) rfl (fun ls (hl : lv_has ls _ ([(1, .int (nI (g5 + 1))), (0, .ref h0)])) => ?_)
                    refine lv_goto (tgt := 322) hx hb dX12_write_342 (by decide) ?_
                    have hl : lv_has _ _ ([(0, .ref h0), (1, .int (nI (g5 + 1)))]) := lv_sub hl [1, 0] rfl
                    exact ih322_3 (g5 + 1) p2336 f75336 _ _ _ (by omega) (by first | assumption | omega) (by omega) hP hD hS hl
              · have t_230 : ¬ ((d5 : Nat) : Int) ≥ ((dn : Nat) : Int) := toI_nge c_230 (nI_toInt (by omega)) (nI_toInt (by omega))
                refine lv_aload_n hx hb dX12_write_233 rfl (lv_at hl 0 rfl) ?_
                refine lv_bipush (v := 39) hx hb dX12_write_234 (by decide) ?_
                refine lv_bipush (v := 48) hx hb dX12_write_236 (by decide) ?_
                have hFc := allFree hD hS hA
                refine va_callv (va_runV (As := [.int 39, .int 48]) (rest := []) ⟨hx, hb, hml, hown, hts⟩ (r_X12_sayText l dC dI a k h0 (fT (fT vi 0 0) 125 (nI x51_i125)) vj (fT vF 75 x51_F75) vG 39 48 x51_i125 rfl (by first | assumption | decide | omega | rfl) (by first | assumption | decide | omega | rfl) (by first | assumption | decide | omega | rfl) H.size) (cwV 2 hts gwsRX12_write_2 rfl rfl rfl hd_yX12_sayText_RX12 (by decide +kernel)) (fz_preE (va_recv hK hP (ci := 12) (q0 := 0) rfl rfl) hP hK hD (fun a U g mk qE => qE.same rfl) (fun U hU9 hW => by rw [hU9]; exact (((hE : StrA A s s.heap).kept hS.2.1).narrow (fun q h => hFc q h)).warm hW)) rfl rfl hl.1 rfl (lv_room (Nat.le_of_ble_eq_true rfl)) dX12_write_238 (by decide +kernel)) hS (fun q _ h => hFc q h) hFc (fun u t9_ H locs ht hvm hw9 hB9 hz1 hk1 hS => ?_)
                obtain ⟨p2238, f75238⟩ := u
                try dsimp only at hw9 hB9
                have hP : va_P (dC, dI) vwCl (WR a k h0 (fT (fT (fT vi 0 0) 125 (nI x51_i125)) 125 (nI p2238)) vj (fT (fT vF 75 x51_F75) 75 f75238) vG) H := fz_P ht hB9.1
                have hD : va_D A (WR a k h0 (fT (fT (fT vi 0 0) 125 (nI x51_i125)) 125 (nI p2238)) vj (fT (fT vF 75 x51_F75) 75 f75238) vG) := hB9.2.weaken (fun _ q _ h => hFc q.1 h)
                have e9 : fT (fT vi 0 0) 125 (nI p2238) = fT (fT (fT vi 0 0) 125 (nI x51_i125)) 125 (nI p2238) := (fT_sm _ _ _ _).symm
                rw [← e9] at hP hD
                clear e9
                have e9 : fT vF 75 f75238 = fT (fT vF 75 x51_F75) 75 f75238 := (fT_sm _ _ _ _).symm
                rw [← e9] at hP hD
                clear e9
                have hP : va_P (dC, dI) vwCl (WR a k h0 (fT (fT vi 0 0) 125 (nI p2238)) vj (fT vF 75 f75238) vG) H := hP
                have hD : va_D A (WR a k h0 (fT (fT vi 0 0) 125 (nI p2238)) vj (fT vF 75 f75238) vG) := hD
                have f238_0 := hw9
                try dsimp only at f238_0
                refine lv_iconst (v := 0) hx hb dX12_write_241 (by decide) ?_
                refine lv_istore_n hx hb dX12_write_242 rfl hl (by decide) rfl (fun ls (hl : lv_has ls _ ([(2, .int 0), (0, .ref h0), (1, .int (nI d5))])) => ?_)
                refine lv_iconst (v := 0) hx hb dX12_write_243 (by decide) ?_
                refine lv_istore_n hx hb dX12_write_244 rfl hl (by decide) rfl (fun ls (hl : lv_has ls _ ([(3, .int 0), (2, .int 0), (0, .ref h0), (1, .int (nI d5))])) => ?_)
                have hl : lv_has _ _ ([(0, .ref h0), (1, .int (nI d5)), (2, .int 0), (3, .int (nI 0))]) := lv_sub hl [2, 3, 1, 0] rfl
                refine (fun (loop : ∀ (n9 : Nat) (k6 : Nat) (so : Int32) (x54_i125 : Nat) (x54_F75 : Nat → Int32) (H : Heap) (locs : List Loc) (ls : Array Slot), (k6 ≤ vn) → (x54_i125 ≤ 30000) →  (vn < k6 + n9) → va_P (dC, dI) vwCl (WR a k h0 (fT (fT vi 0 0) 125 (nI x54_i125)) vj (fT vF 75 x54_F75) vG) H → va_D A (WR a k h0 (fT (fT vi 0 0) 125 (nI x54_i125)) vj (fT vF 75 x54_F75) vG) → va_S A s.heap H locs → lv_has ls 4 [(0, .ref h0), (1, .int (nI d5)), (2, .int so), (3, .int (nI k6))] → W p l e _ s m _ below meth c H locs 0 0 _ (F0 m 245 ls [])) => loop (vn + 1) 0 0 p2238 f75238 _ _ _ (by omega) (by first | assumption | omega) (by omega) hP hD hS hl) ?_
                intro n9
                induction n9 with
                | zero => intro k6 so x54_i125 x54_F75 H locs ls hk6 hx54_i125 hf9; exact False.elim (by omega)
                | succ n9 ih245_4 =>
                  intro k6 so x54_i125 x54_F75 H locs ls hk6 hx54_i125 hf245_4 hP hD hS hl
                  refine lv_iload_n hx hb dX12_write_245 rfl (lv_at hl 3 rfl) ?_
                  refine lv_aload_n hx hb dX12_write_246 rfl (lv_at hl 0 rfl) ?_
                  refine va_get (D := (dC, dI)) (ci := 12) (v := .int (vi 90)) (C := RX12) (T := TX12) (N := 163) (fs := fM (vS a (fT (fT vi 0 0) 125 (nI x54_i125)) vj)) hx hb hts iwsRX12_write_in12 hown hK hP 0 rfl rfl 90 (by decide) (hts (.fieldLink RX12 774 "OptimaWorksModel" "variables" "I") (by decide +kernel)) (fun _ h9 => h9) rfl dX12_write_247 ?_
                  refine lv_topi (fun y5 hy5 => ?_)
                  obtain rfl : (nI vn) = y5 := (hy5.trans (hvn)).symm
                  refine lv_icmp_ge (tgt := 310) hx hb dX12_write_250 (by decide) (fun c_250 => ?_) (fun c_250 => ?_)
                  · have t_250 : ((k6 : Nat) : Int) ≥ ((vn : Nat) : Int) := toI_ge c_250 (nI_toInt (by omega)) (nI_toInt (by omega))
                    refine lv_aload_n hx hb dX12_write_310 rfl (lv_at hl 0 rfl) ?_
                    have hFc := allFree hD hS hA
                    refine va_callv (va_runV (As := []) (rest := []) ⟨hx, hb, hml, hown, hts⟩ (r_X12_endLine l dC dI a k h0 (fT (fT vi 0 0) 125 (nI x54_i125)) vj (fT vF 75 x54_F75) vG x54_i125 rfl (by first | assumption | decide | omega | rfl) H.size) (cwV 0 hts gwsRX12_write_1 rfl rfl rfl hd_yX12_endLine_RX12 (by decide +kernel)) (fz_pre (va_recv hK hP (ci := 12) (q0 := 0) rfl rfl) hP hK hD) rfl rfl hl.1 rfl (lv_room (Nat.le_of_ble_eq_true rfl)) dX12_write_311 (by decide +kernel)) hS (fun q _ h => hFc q h) hFc (fun u t9_ H locs ht hvm hw9 hB9 hz1 hk1 hS => ?_)
                    obtain ⟨p2311, f75311⟩ := u
                    try dsimp only at hw9 hB9
                    have hP : va_P (dC, dI) vwCl (WR a k h0 (fT (fT (fT vi 0 0) 125 (nI x54_i125)) 125 (nI p2311)) vj (fT (fT vF 75 x54_F75) 75 f75311) vG) H := fz_P ht hB9.1
                    have hD : va_D A (WR a k h0 (fT (fT (fT vi 0 0) 125 (nI x54_i125)) 125 (nI p2311)) vj (fT (fT vF 75 x54_F75) 75 f75311) vG) := hB9.2.weaken (fun _ q _ h => hFc q.1 h)
                    have e9 : fT (fT vi 0 0) 125 (nI p2311) = fT (fT (fT vi 0 0) 125 (nI x54_i125)) 125 (nI p2311) := (fT_sm _ _ _ _).symm
                    rw [← e9] at hP hD
                    clear e9
                    have e9 : fT vF 75 f75311 = fT (fT vF 75 x54_F75) 75 f75311 := (fT_sm _ _ _ _).symm
                    rw [← e9] at hP hD
                    clear e9
                    have hP : va_P (dC, dI) vwCl (WR a k h0 (fT (fT vi 0 0) 125 (nI p2311)) vj (fT vF 75 f75311) vG) H := hP
                    have hD : va_D A (WR a k h0 (fT (fT vi 0 0) 125 (nI p2311)) vj (fT vF 75 f75311) vG) := hD
                    have f311_0 := hw9
                    try dsimp only at f311_0
                    refine lv_iinc (v := (nI (d5 + 1))) hx hb dX12_write_314 hl (k := 1) rfl (nI_add d5 1) (by decide) rfl (fun ls (hl : lv_has ls _ ([(1, .int (nI (d5 + 1))), (0, .ref h0), (2, .int so), (3, .int (nI k6))])) => ?_)
                    refine lv_goto (tgt := 225) hx hb dX12_write_317 (by decide) ?_
                    have hl : lv_has _ _ ([(0, .ref h0), (1, .int (nI (d5 + 1)))]) := lv_sub hl [1, 0] rfl
                    exact ih225_2 (d5 + 1) p2311 f75311 _ _ _ (by omega) (by first | assumption | omega) (by omega) hP hD hS hl
                  · have t_250 : ¬ ((k6 : Nat) : Int) ≥ ((vn : Nat) : Int) := toI_nge c_250 (nI_toInt (by omega)) (nI_toInt (by omega))
                    refine lv_aload_n hx hb dX12_write_253 rfl (lv_at hl 0 rfl) ?_
                    refine va_get (D := (dC, dI)) (ci := 12) (v := .ref (a 62)) (C := RX12) (T := TX12) (N := 163) (fs := fM (vS a (fT (fT vi 0 0) 125 (nI x54_i125)) vj)) hx hb hts iwsRX12_write_in12 hown hK hP 0 rfl rfl 102 (by decide) (hts (.fieldLink RX12 209 "OptimaWorksModel" "differentSet" "[I") (by decide +kernel)) (fun _ h9 => h9) rfl dX12_write_254 ?_
                    refine lv_iload_n hx hb dX12_write_257 rfl (lv_at hl 1 rfl) ?_
                    refine va_iald (cA := k 62) (n := 9) (f := (vF 62)) hx hb hK hP 63 62 (WR_get 62 (by decide)) (TR_get 62 (by decide)) (vp_in_nI (show d5 < 9 by omega) (by omega)) dX12_write_258 ?_
                    refine lv_topi (fun y6 hy6 => ?_)
                    obtain rfl : ((vF 62) d5) = y6 := (hy6.trans (by rw [nI_clamp (by omega)])).symm
                    refine lv_iload_n hx hb dX12_write_259 rfl (lv_at hl 3 rfl) ?_
                    refine lv_ishr hx hb dX12_write_260 ?_
                    refine lv_iconst (v := 1) hx hb dX12_write_261 (by decide) ?_
                    refine lv_iand hx hb dX12_write_262 ?_
                    refine lv_if_ne (tgt := 269) hx hb dX12_write_263 (by decide) (fun c_263 => ?_) (fun c_263 => ?_)
                    · have t_263 : (((((vF 62) d5) >>> ((nI k6) &&& 31)) &&& 1)).toInt ≠ 0 := toI_ne c_263 rfl (by decide)
                      refine lv_aload_n hx hb dX12_write_269 rfl (lv_at hl 0 rfl) ?_
                      refine lv_bipush (v := 32) hx hb dX12_write_270 (by decide) ?_
                      have hFc := allFree hD hS hA
                      refine va_callv (va_runV (As := [.int 32]) (rest := []) ⟨hx, hb, hml, hown, hts⟩ (r_X12_say l dC dI a k h0 (fT (fT vi 0 0) 125 (nI x54_i125)) vj (fT vF 75 x54_F75) vG 32 x54_i125 rfl (by first | assumption | decide | omega | rfl) H.size) (cwV 1 hts gwsRX12_write_3 rfl rfl rfl hd_yX12_say_RX12 (by decide +kernel)) (fz_pre (va_recv hK hP (ci := 12) (q0 := 0) rfl rfl) hP hK hD) rfl rfl hl.1 rfl (lv_room (Nat.le_of_ble_eq_true rfl)) dX12_write_272 (by decide +kernel)) hS (fun q _ h => hFc q h) hFc (fun u t9_ H locs ht hvm hw9 hB9 hz1 hk1 hS => ?_)
                      obtain ⟨p2272, f75272⟩ := u
                      try dsimp only at hw9 hB9
                      have hP : va_P (dC, dI) vwCl (WR a k h0 (fT (fT (fT vi 0 0) 125 (nI x54_i125)) 125 (nI p2272)) vj (fT (fT vF 75 x54_F75) 75 f75272) vG) H := fz_P ht hB9.1
                      have hD : va_D A (WR a k h0 (fT (fT (fT vi 0 0) 125 (nI x54_i125)) 125 (nI p2272)) vj (fT (fT vF 75 x54_F75) 75 f75272) vG) := hB9.2.weaken (fun _ q _ h => hFc q.1 h)
                      have e9 : fT (fT vi 0 0) 125 (nI p2272) = fT (fT (fT vi 0 0) 125 (nI x54_i125)) 125 (nI p2272) := (fT_sm _ _ _ _).symm
                      rw [← e9] at hP hD
                      clear e9
                      have e9 : fT vF 75 f75272 = fT (fT vF 75 x54_F75) 75 f75272 := (fT_sm _ _ _ _).symm
                      rw [← e9] at hP hD
                      clear e9
                      have hP : va_P (dC, dI) vwCl (WR a k h0 (fT (fT vi 0 0) 125 (nI p2272)) vj (fT vF 75 f75272) vG) H := hP
                      have hD : va_D A (WR a k h0 (fT (fT vi 0 0) 125 (nI p2272)) vj (fT vF 75 f75272) vG) := hD
                      obtain ⟨f272_0, f272_1, f272_2⟩ := hw9
                      refine lv_iload_n hx hb dX12_write_275 rfl (lv_at hl 2 rfl) ?_
                      refine W.cut (pc := 291) (fun H locs ls stk => ∃ (j55_i125 : Nat) (j55_F75 : Nat → Int32), (j55_i125 ≤ 30000) ∧  stk = [] ∧ va_P (dC, dI) vwCl (WR a k h0 (fT (fT vi 0 0) 125 (nI j55_i125)) vj (fT vF 75 j55_F75) vG) H ∧ va_D A (WR a k h0 (fT (fT vi 0 0) 125 (nI j55_i125)) vj (fT vF 75 j55_F75) vG) ∧ va_S A s.heap H locs ∧ lv_has ls 4 [(0, .ref h0), (1, .int (nI d5)), (2, .int so), (3, .int (nI k6))]) (fun join1 => ?_) ?_
                      · refine lv_if_eq (tgt := 291) hx hb dX12_write_276 (by decide) (fun c_276 => ?_) (fun c_276 => ?_)
                        · have t_276 : (so).toInt = 0 := toI_eq c_276 rfl (by decide)
                          have hl : lv_has _ _ ([(0, .ref h0), (1, .int (nI d5)), (2, .int so), (3, .int (nI k6))]) := lv_sub hl [0, 1, 2, 3] rfl
                          exact join1 _ _ _ _ ⟨p2272, f75272, by first | assumption | omega, rfl, hP, hD, hS, hl⟩
                        · have t_276 : ¬ (so).toInt = 0 := toI_neq c_276 rfl (by decide)
                          refine lv_aload_n hx hb dX12_write_279 rfl (lv_at hl 0 rfl) ?_
                          refine lv_bipush (v := 44) hx hb dX12_write_280 (by decide) ?_
                          have hFc := allFree hD hS hA
                          refine va_callv (va_runV (As := [.int 44]) (rest := []) ⟨hx, hb, hml, hown, hts⟩ (r_X12_say l dC dI a k h0 (fT (fT vi 0 0) 125 (nI p2272)) vj (fT vF 75 f75272) vG 44 p2272 rfl (by first | assumption | decide | omega | rfl) H.size) (cwV 1 hts gwsRX12_write_3 rfl rfl rfl hd_yX12_say_RX12 (by decide +kernel)) (fz_pre (va_recv hK hP (ci := 12) (q0 := 0) rfl rfl) hP hK hD) rfl rfl hl.1 rfl (lv_room (Nat.le_of_ble_eq_true rfl)) dX12_write_282 (by decide +kernel)) hS (fun q _ h => hFc q h) hFc (fun u t9_ H locs ht hvm hw9 hB9 hz1 hk1 hS => ?_)
                          obtain ⟨p2282, f75282⟩ := u
                          try dsimp only at hw9 hB9
                          have hP : va_P (dC, dI) vwCl (WR a k h0 (fT (fT (fT vi 0 0) 125 (nI p2272)) 125 (nI p2282)) vj (fT (fT vF 75 f75272) 75 f75282) vG) H := fz_P ht hB9.1
                          have hD : va_D A (WR a k h0 (fT (fT (fT vi 0 0) 125 (nI p2272)) 125 (nI p2282)) vj (fT (fT vF 75 f75272) 75 f75282) vG) := hB9.2.weaken (fun _ q _ h => hFc q.1 h)
                          have e9 : fT (fT vi 0 0) 125 (nI p2282) = fT (fT (fT vi 0 0) 125 (nI p2272)) 125 (nI p2282) := (fT_sm _ _ _ _).symm
                          rw [← e9] at hP hD
                          clear e9
                          have e9 : fT vF 75 f75282 = fT (fT vF 75 f75272) 75 f75282 := (fT_sm _ _ _ _).symm
                          rw [← e9] at hP hD
                          clear e9
                          have hP : va_P (dC, dI) vwCl (WR a k h0 (fT (fT vi 0 0) 125 (nI p2282)) vj (fT vF 75 f75282) vG) H := hP
                          have hD : va_D A (WR a k h0 (fT (fT vi 0 0) 125 (nI p2282)) vj (fT vF 75 f75282) vG) := hD
                          obtain ⟨f282_0, f282_1, f282_2⟩ := hw9
                          refine lv_aload_n hx hb dX12_write_285 rfl (lv_at hl 0 rfl) ?_
                          refine lv_bipush (v := 32) hx hb dX12_write_286 (by decide) ?_
                          have hFc := allFree hD hS hA
                          refine va_callv (va_runV (As := [.int 32]) (rest := []) ⟨hx, hb, hml, hown, hts⟩ (r_X12_say l dC dI a k h0 (fT (fT vi 0 0) 125 (nI p2282)) vj (fT vF 75 f75282) vG 32 p2282 rfl (by first | assumption | decide | omega | rfl) H.size) (cwV 1 hts gwsRX12_write_3 rfl rfl rfl hd_yX12_say_RX12 (by decide +kernel)) (fz_pre (va_recv hK hP (ci := 12) (q0 := 0) rfl rfl) hP hK hD) rfl rfl hl.1 rfl (lv_room (Nat.le_of_ble_eq_true rfl)) dX12_write_288 (by decide +kernel)) hS (fun q _ h => hFc q h) hFc (fun u t9_ H locs ht hvm hw9 hB9 hz1 hk1 hS => ?_)
                          obtain ⟨p2288, f75288⟩ := u
                          try dsimp only at hw9 hB9
                          have hP : va_P (dC, dI) vwCl (WR a k h0 (fT (fT (fT vi 0 0) 125 (nI p2282)) 125 (nI p2288)) vj (fT (fT vF 75 f75282) 75 f75288) vG) H := fz_P ht hB9.1
                          have hD : va_D A (WR a k h0 (fT (fT (fT vi 0 0) 125 (nI p2282)) 125 (nI p2288)) vj (fT (fT vF 75 f75282) 75 f75288) vG) := hB9.2.weaken (fun _ q _ h => hFc q.1 h)
                          have e9 : fT (fT vi 0 0) 125 (nI p2288) = fT (fT (fT vi 0 0) 125 (nI p2282)) 125 (nI p2288) := (fT_sm _ _ _ _).symm
                          rw [← e9] at hP hD
                          clear e9
                          have e9 : fT vF 75 f75288 = fT (fT vF 75 f75282) 75 f75288 := (fT_sm _ _ _ _).symm
                          rw [← e9] at hP hD
                          clear e9
                          have hP : va_P (dC, dI) vwCl (WR a k h0 (fT (fT vi 0 0) 125 (nI p2288)) vj (fT vF 75 f75288) vG) H := hP
                          have hD : va_D A (WR a k h0 (fT (fT vi 0 0) 125 (nI p2288)) vj (fT vF 75 f75288) vG) := hD
                          obtain ⟨f288_0, f288_1, f288_2⟩ := hw9
                          have hl : lv_has _ _ ([(0, .ref h0), (1, .int (nI d5)), (2, .int so), (3, .int (nI k6))]) := lv_sub hl [0, 1, 2, 3] rfl
                          exact join1 _ _ _ _ ⟨p2288, f75288, by first | assumption | omega, rfl, hP, hD, hS, hl⟩
                      · rintro H locs ls stk ⟨j55_i125, j55_F75, hj55_i125, rfl, hP, hD, hS, hl⟩
                        refine lv_aload_n hx hb dX12_write_291 rfl (lv_at hl 0 rfl) ?_
                        refine lv_bipush (v := 120) hx hb dX12_write_292 (by decide) ?_
                        have hFc := allFree hD hS hA
                        refine va_callv (va_runV (As := [.int 120]) (rest := []) ⟨hx, hb, hml, hown, hts⟩ (r_X12_say l dC dI a k h0 (fT (fT vi 0 0) 125 (nI j55_i125)) vj (fT vF 75 j55_F75) vG 120 j55_i125 rfl (by first | assumption | decide | omega | rfl) H.size) (cwV 1 hts gwsRX12_write_3 rfl rfl rfl hd_yX12_say_RX12 (by decide +kernel)) (fz_pre (va_recv hK hP (ci := 12) (q0 := 0) rfl rfl) hP hK hD) rfl rfl hl.1 rfl (lv_room (Nat.le_of_ble_eq_true rfl)) dX12_write_294 (by decide +kernel)) hS (fun q _ h => hFc q h) hFc (fun u t9_ H locs ht hvm hw9 hB9 hz1 hk1 hS => ?_)
                        obtain ⟨p2294, f75294⟩ := u
                        try dsimp only at hw9 hB9
                        have hP : va_P (dC, dI) vwCl (WR a k h0 (fT (fT (fT vi 0 0) 125 (nI j55_i125)) 125 (nI p2294)) vj (fT (fT vF 75 j55_F75) 75 f75294) vG) H := fz_P ht hB9.1
                        have hD : va_D A (WR a k h0 (fT (fT (fT vi 0 0) 125 (nI j55_i125)) 125 (nI p2294)) vj (fT (fT vF 75 j55_F75) 75 f75294) vG) := hB9.2.weaken (fun _ q _ h => hFc q.1 h)
                        have e9 : fT (fT vi 0 0) 125 (nI p2294) = fT (fT (fT vi 0 0) 125 (nI j55_i125)) 125 (nI p2294) := (fT_sm _ _ _ _).symm
                        rw [← e9] at hP hD
                        clear e9
                        have e9 : fT vF 75 f75294 = fT (fT vF 75 j55_F75) 75 f75294 := (fT_sm _ _ _ _).symm
                        rw [← e9] at hP hD
                        clear e9
                        have hP : va_P (dC, dI) vwCl (WR a k h0 (fT (fT vi 0 0) 125 (nI p2294)) vj (fT vF 75 f75294) vG) H := hP
                        have hD : va_D A (WR a k h0 (fT (fT vi 0 0) 125 (nI p2294)) vj (fT vF 75 f75294) vG) := hD
                        obtain ⟨f294_0, f294_1, f294_2⟩ := hw9
                        refine lv_aload_n hx hb dX12_write_297 rfl (lv_at hl 0 rfl) ?_
                        refine lv_iload_n hx hb dX12_write_298 rfl (lv_at hl 3 rfl) ?_
                        have hFc := allFree hD hS hA
                        refine va_callv (va_runV (As := [.int (nI k6)]) (rest := []) ⟨hx, hb, hml, hown, hts⟩ (r_X12_sayNumber l dC dI a k h0 (fT (fT vi 0 0) 125 (nI p2294)) vj (fT vF 75 f75294) vG (nI k6) p2294 rfl (by first | assumption | decide | omega | rfl) (by rw [nI_toInt (by omega)]; omega) H.size) (cwV 1 hts gwsRX12_write_4 rfl rfl rfl hd_yX12_sayNumber_RX12 (by decide +kernel)) (fz_pre (va_recv hK hP (ci := 12) (q0 := 0) rfl rfl) hP hK hD) rfl rfl hl.1 rfl (lv_room (Nat.le_of_ble_eq_true rfl)) dX12_write_299 (by decide +kernel)) hS (fun q _ h => hFc q h) hFc (fun u t9_ H locs ht hvm hw9 hB9 hz1 hk1 hS => ?_)
                        obtain ⟨p2299, f75299⟩ := u
                        try dsimp only at hw9 hB9
                        have hP : va_P (dC, dI) vwCl (WR a k h0 (fT (fT (fT vi 0 0) 125 (nI p2294)) 125 (nI p2299)) vj (fT (fT vF 75 f75294) 75 f75299) vG) H := fz_P ht hB9.1
                        have hD : va_D A (WR a k h0 (fT (fT (fT vi 0 0) 125 (nI p2294)) 125 (nI p2299)) vj (fT (fT vF 75 f75294) 75 f75299) vG) := hB9.2.weaken (fun _ q _ h => hFc q.1 h)
                        have e9 : fT (fT vi 0 0) 125 (nI p2299) = fT (fT (fT vi 0 0) 125 (nI p2294)) 125 (nI p2299) := (fT_sm _ _ _ _).symm
                        rw [← e9] at hP hD
                        clear e9
                        have e9 : fT vF 75 f75299 = fT (fT vF 75 f75294) 75 f75299 := (fT_sm _ _ _ _).symm
                        rw [← e9] at hP hD
                        clear e9
                        have hP : va_P (dC, dI) vwCl (WR a k h0 (fT (fT vi 0 0) 125 (nI p2299)) vj (fT vF 75 f75299) vG) H := hP
                        have hD : va_D A (WR a k h0 (fT (fT vi 0 0) 125 (nI p2299)) vj (fT vF 75 f75299) vG) := hD
                        have f299_0 := hw9
                        try dsimp only at f299_0
                        refine lv_iconst (v := 1) hx hb dX12_write_302 (by decide) ?_
                        refine lv_istore_n hx hb dX12_write_303 rfl hl (by decide) rfl (fun ls (hl : lv_has ls _ ([(2, .int 1), (0, .ref h0), (1, .int (nI d5)), (3, .int (nI k6))])) => ?_)
                        refine lv_iinc (v := (nI (k6 + 1))) hx hb dX12_write_304 hl (k := 3) rfl (nI_add k6 1) (by decide) rfl (fun ls (hl : lv_has ls _ ([(3, .int (nI (k6 + 1))), (2, .int 1), (0, .ref h0), (1, .int (nI d5))])) => ?_)
                        refine lv_goto (tgt := 245) hx hb dX12_write_307 (by decide) ?_
                        have hl : lv_has _ _ ([(0, .ref h0), (1, .int (nI d5)), (2, .int 1), (3, .int (nI (k6 + 1)))]) := lv_sub hl [2, 3, 1, 0] rfl
                        exact ih245_4 (k6 + 1) 1 p2299 f75299 _ _ _ (by omega) (by first | assumption | omega) (by omega) hP hD hS hl
                    · have t_263 : (((((vF 62) d5) >>> ((nI k6) &&& 31)) &&& 1)).toInt = 0 := toI_nne c_263 rfl (by decide)
                      refine lv_goto (tgt := 304) hx hb dX12_write_266 (by decide) ?_
                      refine lv_iinc (v := (nI (k6 + 1))) hx hb dX12_write_304 hl (k := 3) rfl (nI_add k6 1) (by decide) rfl (fun ls (hl : lv_has ls _ ([(3, .int (nI (k6 + 1))), (0, .ref h0), (1, .int (nI d5)), (2, .int so)])) => ?_)
                      refine lv_goto (tgt := 245) hx hb dX12_write_307 (by decide) ?_
                      have hl : lv_has _ _ ([(0, .ref h0), (1, .int (nI d5)), (2, .int so), (3, .int (nI (k6 + 1)))]) := lv_sub hl [1, 2, 3, 0] rfl
                      exact ih245_4 (k6 + 1) so x54_i125 x54_F75 _ _ _ (by omega) (by first | assumption | omega) (by omega) hP hD hS hl
          · have t_134 : ¬ ((r5 : Nat) : Int) ≥ ((mr : Nat) : Int) := toI_nge c_134 (nI_toInt (by omega)) (nI_toInt (by omega))
            refine lv_aload_n hx hb dX12_write_137 rfl (lv_at hl 0 rfl) ?_
            refine lv_bipush (v := 20) hx hb dX12_write_138 (by decide) ?_
            refine lv_bipush (v := 25) hx hb dX12_write_140 (by decide) ?_
            have hFc := allFree hD hS hA
            refine va_callv (va_runV (As := [.int 20, .int 25]) (rest := []) ⟨hx, hb, hml, hown, hts⟩ (r_X12_sayText l dC dI a k h0 (fT (fT vi 0 0) 125 (nI x46_i125)) vj (fT vF 75 x46_F75) vG 20 25 x46_i125 rfl (by first | assumption | decide | omega | rfl) (by first | assumption | decide | omega | rfl) (by first | assumption | decide | omega | rfl) H.size) (cwV 2 hts gwsRX12_write_2 rfl rfl rfl hd_yX12_sayText_RX12 (by decide +kernel)) (fz_preE (va_recv hK hP (ci := 12) (q0 := 0) rfl rfl) hP hK hD (fun a U g mk qE => qE.same rfl) (fun U hU9 hW => by rw [hU9]; exact (((hE : StrA A s s.heap).kept hS.2.1).narrow (fun q h => hFc q h)).warm hW)) rfl rfl hl.1 rfl (lv_room (Nat.le_of_ble_eq_true rfl)) dX12_write_142 (by decide +kernel)) hS (fun q _ h => hFc q h) hFc (fun u t9_ H locs ht hvm hw9 hB9 hz1 hk1 hS => ?_)
            obtain ⟨p2142, f75142⟩ := u
            try dsimp only at hw9 hB9
            have hP : va_P (dC, dI) vwCl (WR a k h0 (fT (fT (fT vi 0 0) 125 (nI x46_i125)) 125 (nI p2142)) vj (fT (fT vF 75 x46_F75) 75 f75142) vG) H := fz_P ht hB9.1
            have hD : va_D A (WR a k h0 (fT (fT (fT vi 0 0) 125 (nI x46_i125)) 125 (nI p2142)) vj (fT (fT vF 75 x46_F75) 75 f75142) vG) := hB9.2.weaken (fun _ q _ h => hFc q.1 h)
            have e9 : fT (fT vi 0 0) 125 (nI p2142) = fT (fT (fT vi 0 0) 125 (nI x46_i125)) 125 (nI p2142) := (fT_sm _ _ _ _).symm
            rw [← e9] at hP hD
            clear e9
            have e9 : fT vF 75 f75142 = fT (fT vF 75 x46_F75) 75 f75142 := (fT_sm _ _ _ _).symm
            rw [← e9] at hP hD
            clear e9
            have hP : va_P (dC, dI) vwCl (WR a k h0 (fT (fT vi 0 0) 125 (nI p2142)) vj (fT vF 75 f75142) vG) H := hP
            have hD : va_D A (WR a k h0 (fT (fT vi 0 0) 125 (nI p2142)) vj (fT vF 75 f75142) vG) := hD
            have f142_0 := hw9
            try dsimp only at f142_0
            refine lv_aload_n hx hb dX12_write_145 rfl (lv_at hl 0 rfl) ?_
            refine lv_iload_n hx hb dX12_write_146 rfl (lv_at hl 1 rfl) ?_
            have hFc := allFree hD hS hA
            refine va_callv (va_runV (As := [.int (nI r5)]) (rest := []) ⟨hx, hb, hml, hown, hts⟩ (r_X12_sayNumber l dC dI a k h0 (fT (fT vi 0 0) 125 (nI p2142)) vj (fT vF 75 f75142) vG (nI r5) p2142 rfl (by first | assumption | decide | omega | rfl) (by rw [nI_toInt (by omega)]; omega) H.size) (cwV 1 hts gwsRX12_write_4 rfl rfl rfl hd_yX12_sayNumber_RX12 (by decide +kernel)) (fz_pre (va_recv hK hP (ci := 12) (q0 := 0) rfl rfl) hP hK hD) rfl rfl hl.1 rfl (lv_room (Nat.le_of_ble_eq_true rfl)) dX12_write_147 (by decide +kernel)) hS (fun q _ h => hFc q h) hFc (fun u t9_ H locs ht hvm hw9 hB9 hz1 hk1 hS => ?_)
            obtain ⟨p2147, f75147⟩ := u
            try dsimp only at hw9 hB9
            have hP : va_P (dC, dI) vwCl (WR a k h0 (fT (fT (fT vi 0 0) 125 (nI p2142)) 125 (nI p2147)) vj (fT (fT vF 75 f75142) 75 f75147) vG) H := fz_P ht hB9.1
            have hD : va_D A (WR a k h0 (fT (fT (fT vi 0 0) 125 (nI p2142)) 125 (nI p2147)) vj (fT (fT vF 75 f75142) 75 f75147) vG) := hB9.2.weaken (fun _ q _ h => hFc q.1 h)
            have e9 : fT (fT vi 0 0) 125 (nI p2147) = fT (fT (fT vi 0 0) 125 (nI p2142)) 125 (nI p2147) := (fT_sm _ _ _ _).symm
            rw [← e9] at hP hD
            clear e9
            have e9 : fT vF 75 f75147 = fT (fT vF 75 f75142) 75 f75147 := (fT_sm _ _ _ _).symm
            rw [← e9] at hP hD
            clear e9
            have hP : va_P (dC, dI) vwCl (WR a k h0 (fT (fT vi 0 0) 125 (nI p2147)) vj (fT vF 75 f75147) vG) H := hP
            have hD : va_D A (WR a k h0 (fT (fT vi 0 0) 125 (nI p2147)) vj (fT vF 75 f75147) vG) := hD
            have f147_0 := hw9
            try dsimp only at f147_0
            refine lv_aload_n hx hb dX12_write_150 rfl (lv_at hl 0 rfl) ?_
            refine lv_bipush (v := 32) hx hb dX12_write_151 (by decide) ?_
            have hFc := allFree hD hS hA
            refine va_callv (va_runV (As := [.int 32]) (rest := []) ⟨hx, hb, hml, hown, hts⟩ (r_X12_say l dC dI a k h0 (fT (fT vi 0 0) 125 (nI p2147)) vj (fT vF 75 f75147) vG 32 p2147 rfl (by first | assumption | decide | omega | rfl) H.size) (cwV 1 hts gwsRX12_write_3 rfl rfl rfl hd_yX12_say_RX12 (by decide +kernel)) (fz_pre (va_recv hK hP (ci := 12) (q0 := 0) rfl rfl) hP hK hD) rfl rfl hl.1 rfl (lv_room (Nat.le_of_ble_eq_true rfl)) dX12_write_153 (by decide +kernel)) hS (fun q _ h => hFc q h) hFc (fun u t9_ H locs ht hvm hw9 hB9 hz1 hk1 hS => ?_)
            obtain ⟨p2153, f75153⟩ := u
            try dsimp only at hw9 hB9
            have hP : va_P (dC, dI) vwCl (WR a k h0 (fT (fT (fT vi 0 0) 125 (nI p2147)) 125 (nI p2153)) vj (fT (fT vF 75 f75147) 75 f75153) vG) H := fz_P ht hB9.1
            have hD : va_D A (WR a k h0 (fT (fT (fT vi 0 0) 125 (nI p2147)) 125 (nI p2153)) vj (fT (fT vF 75 f75147) 75 f75153) vG) := hB9.2.weaken (fun _ q _ h => hFc q.1 h)
            have e9 : fT (fT vi 0 0) 125 (nI p2153) = fT (fT (fT vi 0 0) 125 (nI p2147)) 125 (nI p2153) := (fT_sm _ _ _ _).symm
            rw [← e9] at hP hD
            clear e9
            have e9 : fT vF 75 f75153 = fT (fT vF 75 f75147) 75 f75153 := (fT_sm _ _ _ _).symm
            rw [← e9] at hP hD
            clear e9
            have hP : va_P (dC, dI) vwCl (WR a k h0 (fT (fT vi 0 0) 125 (nI p2153)) vj (fT vF 75 f75153) vG) H := hP
            have hD : va_D A (WR a k h0 (fT (fT vi 0 0) 125 (nI p2153)) vj (fT vF 75 f75153) vG) := hD
            obtain ⟨f153_0, f153_1, f153_2⟩ := hw9
            refine lv_aload_n hx hb dX12_write_156 rfl (lv_at hl 0 rfl) ?_
            refine lv_bipush (v := 26) hx hb dX12_write_157 (by decide) ?_
            refine lv_bipush (v := 28) hx hb dX12_write_159 (by decide) ?_
            have hFc := allFree hD hS hA
            refine va_callv (va_runV (As := [.int 26, .int 28]) (rest := []) ⟨hx, hb, hml, hown, hts⟩ (r_X12_sayText l dC dI a k h0 (fT (fT vi 0 0) 125 (nI p2153)) vj (fT vF 75 f75153) vG 26 28 p2153 rfl (by first | assumption | decide | omega | rfl) (by first | assumption | decide | omega | rfl) (by first | assumption | decide | omega | rfl) H.size) (cwV 2 hts gwsRX12_write_2 rfl rfl rfl hd_yX12_sayText_RX12 (by decide +kernel)) (fz_preE (va_recv hK hP (ci := 12) (q0 := 0) rfl rfl) hP hK hD (fun a U g mk qE => qE.same rfl) (fun U hU9 hW => by rw [hU9]; exact (((hE : StrA A s s.heap).kept hS.2.1).narrow (fun q h => hFc q h)).warm hW)) rfl rfl hl.1 rfl (lv_room (Nat.le_of_ble_eq_true rfl)) dX12_write_161 (by decide +kernel)) hS (fun q _ h => hFc q h) hFc (fun u t9_ H locs ht hvm hw9 hB9 hz1 hk1 hS => ?_)
            obtain ⟨p2161, f75161⟩ := u
            try dsimp only at hw9 hB9
            have hP : va_P (dC, dI) vwCl (WR a k h0 (fT (fT (fT vi 0 0) 125 (nI p2153)) 125 (nI p2161)) vj (fT (fT vF 75 f75153) 75 f75161) vG) H := fz_P ht hB9.1
            have hD : va_D A (WR a k h0 (fT (fT (fT vi 0 0) 125 (nI p2153)) 125 (nI p2161)) vj (fT (fT vF 75 f75153) 75 f75161) vG) := hB9.2.weaken (fun _ q _ h => hFc q.1 h)
            have e9 : fT (fT vi 0 0) 125 (nI p2161) = fT (fT (fT vi 0 0) 125 (nI p2153)) 125 (nI p2161) := (fT_sm _ _ _ _).symm
            rw [← e9] at hP hD
            clear e9
            have e9 : fT vF 75 f75161 = fT (fT vF 75 f75153) 75 f75161 := (fT_sm _ _ _ _).symm
            rw [← e9] at hP hD
            clear e9
            have hP : va_P (dC, dI) vwCl (WR a k h0 (fT (fT vi 0 0) 125 (nI p2161)) vj (fT vF 75 f75161) vG) H := hP
            have hD : va_D A (WR a k h0 (fT (fT vi 0 0) 125 (nI p2161)) vj (fT vF 75 f75161) vG) := hD
            have f161_0 := hw9
            try dsimp only at f161_0
            obtain ⟨wk, ewk, hwk1, hwk3⟩ := hwm r5 (by omega)
            refine lv_iconst (v := 0) hx hb dX12_write_164 (by decide) ?_
            refine lv_istore_n hx hb dX12_write_165 rfl hl (by decide) rfl (fun ls (hl : lv_has ls _ ([(2, .int 0), (0, .ref h0), (1, .int (nI r5))])) => ?_)
            have hl : lv_has _ _ ([(0, .ref h0), (1, .int (nI r5)), (2, .int (nI 0))]) := lv_sub hl [1, 2, 0] rfl
            refine (fun (loop : ∀ (n9 : Nat) (w5 : Nat) (x58_i125 : Nat) (x58_F75 : Nat → Int32) (H : Heap) (locs : List Loc) (ls : Array Slot), (w5 ≤ wk) → (x58_i125 ≤ 30000) →  (wk < w5 + n9) → va_P (dC, dI) vwCl (WR a k h0 (fT (fT vi 0 0) 125 (nI x58_i125)) vj (fT vF 75 x58_F75) vG) H → va_D A (WR a k h0 (fT (fT vi 0 0) 125 (nI x58_i125)) vj (fT vF 75 x58_F75) vG) → va_S A s.heap H locs → lv_has ls 4 [(0, .ref h0), (1, .int (nI r5)), (2, .int (nI w5))] → W p l e _ s m _ below meth c H locs 0 0 _ (F0 m 166 ls [])) => loop (wk + 1) 0 p2161 f75161 _ _ _ (by omega) (by first | assumption | omega) (by omega) hP hD hS hl) ?_
            intro n9
            induction n9 with
            | zero => intro w5 x58_i125 x58_F75 H locs ls hw5 hx58_i125 hf9; exact False.elim (by omega)
            | succ n9 ih166_5 =>
              intro w5 x58_i125 x58_F75 H locs ls hw5 hx58_i125 hf166_5 hP hD hS hl
              refine lv_iload_n hx hb dX12_write_166 rfl (lv_at hl 2 rfl) ?_
              refine lv_aload_n hx hb dX12_write_167 rfl (lv_at hl 0 rfl) ?_
              refine va_get (D := (dC, dI)) (ci := 12) (v := .ref (a 59)) (C := RX12) (T := TX12) (N := 163) (fs := fM (vS a (fT (fT vi 0 0) 125 (nI x58_i125)) vj)) hx hb hts iwsRX12_write_in12 hown hK hP 0 rfl rfl 99 (by decide) (hts (.fieldLink RX12 200 "OptimaWorksModel" "wayMany" "[I") (by decide +kernel)) (fun _ h9 => h9) rfl dX12_write_168 ?_
              refine lv_iload_n hx hb dX12_write_171 rfl (lv_at hl 1 rfl) ?_
              refine va_iald (cA := k 59) (n := 13) (f := (vF 59)) hx hb hK hP 60 59 (WR_get 59 (by decide)) (TR_get 59 (by decide)) (vp_in_nI (show r5 < 13 by omega) (by omega)) dX12_write_172 ?_
              refine lv_topi (fun y7 hy7 => ?_)
              obtain rfl : ((vF 59) r5) = y7 := (hy7.trans (by rw [nI_clamp (by omega)])).symm
              refine lv_topi (fun y8 hy8 => ?_)
              obtain rfl : (nI wk) = y8 := (hy8.trans (ewk)).symm
              refine lv_icmp_ge (tgt := 213) hx hb dX12_write_173 (by decide) (fun c_173 => ?_) (fun c_173 => ?_)
              · have t_173 : ((w5 : Nat) : Int) ≥ ((wk : Nat) : Int) := toI_ge c_173 (nI_toInt (by omega)) (nI_toInt (by omega))
                refine lv_aload_n hx hb dX12_write_213 rfl (lv_at hl 0 rfl) ?_
                have hFc := allFree hD hS hA
                refine va_callv (va_runV (As := []) (rest := []) ⟨hx, hb, hml, hown, hts⟩ (r_X12_endLine l dC dI a k h0 (fT (fT vi 0 0) 125 (nI x58_i125)) vj (fT vF 75 x58_F75) vG x58_i125 rfl (by first | assumption | decide | omega | rfl) H.size) (cwV 0 hts gwsRX12_write_1 rfl rfl rfl hd_yX12_endLine_RX12 (by decide +kernel)) (fz_pre (va_recv hK hP (ci := 12) (q0 := 0) rfl rfl) hP hK hD) rfl rfl hl.1 rfl (lv_room (Nat.le_of_ble_eq_true rfl)) dX12_write_214 (by decide +kernel)) hS (fun q _ h => hFc q h) hFc (fun u t9_ H locs ht hvm hw9 hB9 hz1 hk1 hS => ?_)
                obtain ⟨p2214, f75214⟩ := u
                try dsimp only at hw9 hB9
                have hP : va_P (dC, dI) vwCl (WR a k h0 (fT (fT (fT vi 0 0) 125 (nI x58_i125)) 125 (nI p2214)) vj (fT (fT vF 75 x58_F75) 75 f75214) vG) H := fz_P ht hB9.1
                have hD : va_D A (WR a k h0 (fT (fT (fT vi 0 0) 125 (nI x58_i125)) 125 (nI p2214)) vj (fT (fT vF 75 x58_F75) 75 f75214) vG) := hB9.2.weaken (fun _ q _ h => hFc q.1 h)
                have e9 : fT (fT vi 0 0) 125 (nI p2214) = fT (fT (fT vi 0 0) 125 (nI x58_i125)) 125 (nI p2214) := (fT_sm _ _ _ _).symm
                rw [← e9] at hP hD
                clear e9
                have e9 : fT vF 75 f75214 = fT (fT vF 75 x58_F75) 75 f75214 := (fT_sm _ _ _ _).symm
                rw [← e9] at hP hD
                clear e9
                have hP : va_P (dC, dI) vwCl (WR a k h0 (fT (fT vi 0 0) 125 (nI p2214)) vj (fT vF 75 f75214) vG) H := hP
                have hD : va_D A (WR a k h0 (fT (fT vi 0 0) 125 (nI p2214)) vj (fT vF 75 f75214) vG) := hD
                have f214_0 := hw9
                try dsimp only at f214_0
                refine lv_iinc (v := (nI (r5 + 1))) hx hb dX12_write_217 hl (k := 1) rfl (nI_add r5 1) (by decide) rfl (fun ls (hl : lv_has ls _ ([(1, .int (nI (r5 + 1))), (0, .ref h0), (2, .int (nI w5))])) => ?_)
                refine lv_goto (tgt := 129) hx hb dX12_write_220 (by decide) ?_
                have hl : lv_has _ _ ([(0, .ref h0), (1, .int (nI (r5 + 1)))]) := lv_sub hl [1, 0] rfl
                exact ih129_1 (r5 + 1) p2214 f75214 _ _ _ (by omega) (by first | assumption | omega) (by omega) hP hD hS hl
              · have t_173 : ¬ ((w5 : Nat) : Int) ≥ ((wk : Nat) : Int) := toI_nge c_173 (nI_toInt (by omega)) (nI_toInt (by omega))
                refine lv_iload_n hx hb dX12_write_176 rfl (lv_at hl 2 rfl) ?_
                refine W.cut (pc := 186) (fun H locs ls stk => ∃ (j59_i125 : Nat) (j59_F75 : Nat → Int32), (j59_i125 ≤ 30000) ∧  stk = [] ∧ va_P (dC, dI) vwCl (WR a k h0 (fT (fT vi 0 0) 125 (nI j59_i125)) vj (fT vF 75 j59_F75) vG) H ∧ va_D A (WR a k h0 (fT (fT vi 0 0) 125 (nI j59_i125)) vj (fT vF 75 j59_F75) vG) ∧ va_S A s.heap H locs ∧ lv_has ls 4 [(0, .ref h0), (1, .int (nI r5)), (2, .int (nI w5))]) (fun join2 => ?_) ?_
                · refine lv_if_le (tgt := 186) hx hb dX12_write_177 (by decide) (fun c_177 => ?_) (fun c_177 => ?_)
                  · have t_177 : ((w5 : Nat) : Int) ≤ 0 := toI_le c_177 (nI_toInt (by omega)) (by decide)
                    have hl : lv_has _ _ ([(0, .ref h0), (1, .int (nI r5)), (2, .int (nI w5))]) := lv_sub hl [0, 1, 2] rfl
                    exact join2 _ _ _ _ ⟨x58_i125, x58_F75, by first | assumption | omega, rfl, hP, hD, hS, hl⟩
                  · have t_177 : ¬ ((w5 : Nat) : Int) ≤ 0 := toI_nle c_177 (nI_toInt (by omega)) (by decide)
                    refine lv_aload_n hx hb dX12_write_180 rfl (lv_at hl 0 rfl) ?_
                    refine lv_bipush (v := 32) hx hb dX12_write_181 (by decide) ?_
                    have hFc := allFree hD hS hA
                    refine va_callv (va_runV (As := [.int 32]) (rest := []) ⟨hx, hb, hml, hown, hts⟩ (r_X12_say l dC dI a k h0 (fT (fT vi 0 0) 125 (nI x58_i125)) vj (fT vF 75 x58_F75) vG 32 x58_i125 rfl (by first | assumption | decide | omega | rfl) H.size) (cwV 1 hts gwsRX12_write_3 rfl rfl rfl hd_yX12_say_RX12 (by decide +kernel)) (fz_pre (va_recv hK hP (ci := 12) (q0 := 0) rfl rfl) hP hK hD) rfl rfl hl.1 rfl (lv_room (Nat.le_of_ble_eq_true rfl)) dX12_write_183 (by decide +kernel)) hS (fun q _ h => hFc q h) hFc (fun u t9_ H locs ht hvm hw9 hB9 hz1 hk1 hS => ?_)
                    obtain ⟨p2183, f75183⟩ := u
                    try dsimp only at hw9 hB9
                    have hP : va_P (dC, dI) vwCl (WR a k h0 (fT (fT (fT vi 0 0) 125 (nI x58_i125)) 125 (nI p2183)) vj (fT (fT vF 75 x58_F75) 75 f75183) vG) H := fz_P ht hB9.1
                    have hD : va_D A (WR a k h0 (fT (fT (fT vi 0 0) 125 (nI x58_i125)) 125 (nI p2183)) vj (fT (fT vF 75 x58_F75) 75 f75183) vG) := hB9.2.weaken (fun _ q _ h => hFc q.1 h)
                    have e9 : fT (fT vi 0 0) 125 (nI p2183) = fT (fT (fT vi 0 0) 125 (nI x58_i125)) 125 (nI p2183) := (fT_sm _ _ _ _).symm
                    rw [← e9] at hP hD
                    clear e9
                    have e9 : fT vF 75 f75183 = fT (fT vF 75 x58_F75) 75 f75183 := (fT_sm _ _ _ _).symm
                    rw [← e9] at hP hD
                    clear e9
                    have hP : va_P (dC, dI) vwCl (WR a k h0 (fT (fT vi 0 0) 125 (nI p2183)) vj (fT vF 75 f75183) vG) H := hP
                    have hD : va_D A (WR a k h0 (fT (fT vi 0 0) 125 (nI p2183)) vj (fT vF 75 f75183) vG) := hD
                    obtain ⟨f183_0, f183_1, f183_2⟩ := hw9
                    have hl : lv_has _ _ ([(0, .ref h0), (1, .int (nI r5)), (2, .int (nI w5))]) := lv_sub hl [0, 1, 2] rfl
                    exact join2 _ _ _ _ ⟨p2183, f75183, by first | assumption | omega, rfl, hP, hD, hS, hl⟩
                · rintro H locs ls stk ⟨j59_i125, j59_F75, hj59_i125, rfl, hP, hD, hS, hl⟩
                  refine lv_iload_n hx hb dX12_write_186 rfl (lv_at hl 2 rfl) ?_
                  refine W.cut (pc := 198) (fun H locs ls stk => ∃ (j60_i125 : Nat) (j60_F75 : Nat → Int32), (j60_i125 ≤ 30000) ∧  stk = [] ∧ va_P (dC, dI) vwCl (WR a k h0 (fT (fT vi 0 0) 125 (nI j60_i125)) vj (fT vF 75 j60_F75) vG) H ∧ va_D A (WR a k h0 (fT (fT vi 0 0) 125 (nI j60_i125)) vj (fT vF 75 j60_F75) vG) ∧ va_S A s.heap H locs ∧ lv_has ls 4 [(0, .ref h0), (1, .int (nI r5)), (2, .int (nI w5))]) (fun join3 => ?_) ?_
                  · refine lv_if_le (tgt := 198) hx hb dX12_write_187 (by decide) (fun c_187 => ?_) (fun c_187 => ?_)
                    · have t_187 : ((w5 : Nat) : Int) ≤ 0 := toI_le c_187 (nI_toInt (by omega)) (by decide)
                      have hl : lv_has _ _ ([(0, .ref h0), (1, .int (nI r5)), (2, .int (nI w5))]) := lv_sub hl [0, 1, 2] rfl
                      exact join3 _ _ _ _ ⟨j59_i125, j59_F75, by first | assumption | omega, rfl, hP, hD, hS, hl⟩
                    · have t_187 : ¬ ((w5 : Nat) : Int) ≤ 0 := toI_nle c_187 (nI_toInt (by omega)) (by decide)
                      refine lv_aload_n hx hb dX12_write_190 rfl (lv_at hl 0 rfl) ?_
                      refine lv_bipush (v := 28) hx hb dX12_write_191 (by decide) ?_
                      refine lv_bipush (v := 31) hx hb dX12_write_193 (by decide) ?_
                      have hFc := allFree hD hS hA
                      refine va_callv (va_runV (As := [.int 28, .int 31]) (rest := []) ⟨hx, hb, hml, hown, hts⟩ (r_X12_sayText l dC dI a k h0 (fT (fT vi 0 0) 125 (nI j59_i125)) vj (fT vF 75 j59_F75) vG 28 31 j59_i125 rfl (by first | assumption | decide | omega | rfl) (by first | assumption | decide | omega | rfl) (by first | assumption | decide | omega | rfl) H.size) (cwV 2 hts gwsRX12_write_2 rfl rfl rfl hd_yX12_sayText_RX12 (by decide +kernel)) (fz_preE (va_recv hK hP (ci := 12) (q0 := 0) rfl rfl) hP hK hD (fun a U g mk qE => qE.same rfl) (fun U hU9 hW => by rw [hU9]; exact (((hE : StrA A s s.heap).kept hS.2.1).narrow (fun q h => hFc q h)).warm hW)) rfl rfl hl.1 rfl (lv_room (Nat.le_of_ble_eq_true rfl)) dX12_write_195 (by decide +kernel)) hS (fun q _ h => hFc q h) hFc (fun u t9_ H locs ht hvm hw9 hB9 hz1 hk1 hS => ?_)
                      obtain ⟨p2195, f75195⟩ := u
                      try dsimp only at hw9 hB9
                      have hP : va_P (dC, dI) vwCl (WR a k h0 (fT (fT (fT vi 0 0) 125 (nI j59_i125)) 125 (nI p2195)) vj (fT (fT vF 75 j59_F75) 75 f75195) vG) H := fz_P ht hB9.1
                      have hD : va_D A (WR a k h0 (fT (fT (fT vi 0 0) 125 (nI j59_i125)) 125 (nI p2195)) vj (fT (fT vF 75 j59_F75) 75 f75195) vG) := hB9.2.weaken (fun _ q _ h => hFc q.1 h)
                      have e9 : fT (fT vi 0 0) 125 (nI p2195) = fT (fT (fT vi 0 0) 125 (nI j59_i125)) 125 (nI p2195) := (fT_sm _ _ _ _).symm
                      rw [← e9] at hP hD
                      clear e9
                      have e9 : fT vF 75 f75195 = fT (fT vF 75 j59_F75) 75 f75195 := (fT_sm _ _ _ _).symm
                      rw [← e9] at hP hD
                      clear e9
                      have hP : va_P (dC, dI) vwCl (WR a k h0 (fT (fT vi 0 0) 125 (nI p2195)) vj (fT vF 75 f75195) vG) H := hP
                      have hD : va_D A (WR a k h0 (fT (fT vi 0 0) 125 (nI p2195)) vj (fT vF 75 f75195) vG) := hD
                      have f195_0 := hw9
                      try dsimp only at f195_0
                      have hl : lv_has _ _ ([(0, .ref h0), (1, .int (nI r5)), (2, .int (nI w5))]) := lv_sub hl [0, 1, 2] rfl
                      exact join3 _ _ _ _ ⟨p2195, f75195, by first | assumption | omega, rfl, hP, hD, hS, hl⟩
                  · rintro H locs ls stk ⟨j60_i125, j60_F75, hj60_i125, rfl, hP, hD, hS, hl⟩
                    refine lv_aload_n hx hb dX12_write_198 rfl (lv_at hl 0 rfl) ?_
                    refine lv_iconst (v := 3) hx hb dX12_write_199 (by decide) ?_
                    refine lv_iload_n hx hb dX12_write_200 rfl (lv_at hl 1 rfl) ?_
                    refine lv_imul hx hb dX12_write_201 ?_
                    refine lv_topi (fun y9 hy9 => ?_)
                    obtain rfl : (nI (3 * r5)) = y9 := (hy9.trans (pk_mul 3 r5)).symm
                    refine lv_iload_n hx hb dX12_write_202 rfl (lv_at hl 2 rfl) ?_
                    refine lv_iadd hx hb dX12_write_203 ?_
                    refine lv_topi (fun y10 hy10 => ?_)
                    obtain rfl : (nI ((3 * r5) + w5)) = y10 := (hy10.trans (nI_add (3 * r5) w5)).symm
                    have hFc := allFree hD hS hA
                    refine va_callv (va_runV (As := [.int (nI ((3 * r5) + w5))]) (rest := []) ⟨hx, hb, hml, hown, hts⟩ (r_X12_sayWay l dC dI a k h0 (fT (fT vi 0 0) 125 (nI j60_i125)) vj (fT vF 75 j60_F75) vG ((3 * r5) + w5) vn gq j60_i125 rfl (by first | assumption | decide | omega | rfl) hvn (by first | assumption | decide | omega | rfl) (by first | assumption | decide | omega | rfl) (by omega) H.size) (cwV 1 hts gwsRX12_write_5 rfl rfl rfl hd_yX12_sayWay_RX12 (by decide +kernel)) (fz_pre (va_recv hK hP (ci := 12) (q0 := 0) rfl rfl) hP hK hD) rfl rfl hl.1 rfl (lv_room (Nat.le_of_ble_eq_true rfl)) dX12_write_204 (by decide +kernel)) hS (fun q _ h => hFc q h) hFc (fun u t9_ H locs ht hvm hw9 hB9 hz1 hk1 hS => ?_)
                    obtain ⟨p2204, f75204⟩ := u
                    try dsimp only at hw9 hB9
                    have hP : va_P (dC, dI) vwCl (WR a k h0 (fT (fT (fT vi 0 0) 125 (nI j60_i125)) 125 (nI p2204)) vj (fT (fT vF 75 j60_F75) 75 f75204) vG) H := fz_P ht hB9.1
                    have hD : va_D A (WR a k h0 (fT (fT (fT vi 0 0) 125 (nI j60_i125)) 125 (nI p2204)) vj (fT (fT vF 75 j60_F75) 75 f75204) vG) := hB9.2.weaken (fun _ q _ h => hFc q.1 h)
                    have e9 : fT (fT vi 0 0) 125 (nI p2204) = fT (fT (fT vi 0 0) 125 (nI j60_i125)) 125 (nI p2204) := (fT_sm _ _ _ _).symm
                    rw [← e9] at hP hD
                    clear e9
                    have e9 : fT vF 75 f75204 = fT (fT vF 75 j60_F75) 75 f75204 := (fT_sm _ _ _ _).symm
                    rw [← e9] at hP hD
                    clear e9
                    have hP : va_P (dC, dI) vwCl (WR a k h0 (fT (fT vi 0 0) 125 (nI p2204)) vj (fT vF 75 f75204) vG) H := hP
                    have hD : va_D A (WR a k h0 (fT (fT vi 0 0) 125 (nI p2204)) vj (fT vF 75 f75204) vG) := hD
                    have f204_0 := hw9
                    try dsimp only at f204_0
                    refine lv_iinc (v := (nI (w5 + 1))) hx hb dX12_write_207 hl (k := 2) rfl (nI_add w5 1) (by decide) rfl (fun ls (hl : lv_has ls _ ([(2, .int (nI (w5 + 1))), (0, .ref h0), (1, .int (nI r5))])) => ?_)
                    refine lv_goto (tgt := 166) hx hb dX12_write_210 (by decide) ?_
                    have hl : lv_has _ _ ([(0, .ref h0), (1, .int (nI r5)), (2, .int (nI (w5 + 1)))]) := lv_sub hl [1, 2, 0] rfl
                    exact ih166_5 (w5 + 1) p2204 f75204 _ _ _ (by omega) (by first | assumption | omega) (by omega) hP hD hS hl
      · have t_37 : ¬ ((k5 : Nat) : Int) ≥ ((vn : Nat) : Int) := toI_nge c_37 (nI_toInt (by omega)) (nI_toInt (by omega))
        refine lv_aload_n hx hb dX12_write_40 rfl (lv_at hl 0 rfl) ?_
        refine lv_iconst (v := 0) hx hb dX12_write_41 (by decide) ?_
        refine lv_iconst (v := 5) hx hb dX12_write_42 (by decide) ?_
        have hFc := allFree hD hS hA
        refine va_callv (va_runV (As := [.int 0, .int 5]) (rest := []) ⟨hx, hb, hml, hown, hts⟩ (r_X12_sayText l dC dI a k h0 (fT (fT vi 0 0) 125 (nI x31_i125)) vj (fT vF 75 x31_F75) vG 0 5 x31_i125 rfl (by first | assumption | decide | omega | rfl) (by first | assumption | decide | omega | rfl) (by first | assumption | decide | omega | rfl) H.size) (cwV 2 hts gwsRX12_write_2 rfl rfl rfl hd_yX12_sayText_RX12 (by decide +kernel)) (fz_preE (va_recv hK hP (ci := 12) (q0 := 0) rfl rfl) hP hK hD (fun a U g mk qE => qE.same rfl) (fun U hU9 hW => by rw [hU9]; exact (((hE : StrA A s s.heap).kept hS.2.1).narrow (fun q h => hFc q h)).warm hW)) rfl rfl hl.1 rfl (lv_room (Nat.le_of_ble_eq_true rfl)) dX12_write_43 (by decide +kernel)) hS (fun q _ h => hFc q h) hFc (fun u t9_ H locs ht hvm hw9 hB9 hz1 hk1 hS => ?_)
        obtain ⟨p243, f7543⟩ := u
        try dsimp only at hw9 hB9
        have hP : va_P (dC, dI) vwCl (WR a k h0 (fT (fT (fT vi 0 0) 125 (nI x31_i125)) 125 (nI p243)) vj (fT (fT vF 75 x31_F75) 75 f7543) vG) H := fz_P ht hB9.1
        have hD : va_D A (WR a k h0 (fT (fT (fT vi 0 0) 125 (nI x31_i125)) 125 (nI p243)) vj (fT (fT vF 75 x31_F75) 75 f7543) vG) := hB9.2.weaken (fun _ q _ h => hFc q.1 h)
        have e9 : fT (fT vi 0 0) 125 (nI p243) = fT (fT (fT vi 0 0) 125 (nI x31_i125)) 125 (nI p243) := (fT_sm _ _ _ _).symm
        rw [← e9] at hP hD
        clear e9
        have e9 : fT vF 75 f7543 = fT (fT vF 75 x31_F75) 75 f7543 := (fT_sm _ _ _ _).symm
        rw [← e9] at hP hD
        clear e9
        have hP : va_P (dC, dI) vwCl (WR a k h0 (fT (fT vi 0 0) 125 (nI p243)) vj (fT vF 75 f7543) vG) H := hP
        have hD : va_D A (WR a k h0 (fT (fT vi 0 0) 125 (nI p243)) vj (fT vF 75 f7543) vG) := hD
        have f43_0 := hw9
        try dsimp only at f43_0
        refine lv_aload_n hx hb dX12_write_46 rfl (lv_at hl 0 rfl) ?_
        refine lv_iload_n hx hb dX12_write_47 rfl (lv_at hl 1 rfl) ?_
        have hFc := allFree hD hS hA
        refine va_callv (va_runV (As := [.int (nI k5)]) (rest := []) ⟨hx, hb, hml, hown, hts⟩ (r_X12_sayNumber l dC dI a k h0 (fT (fT vi 0 0) 125 (nI p243)) vj (fT vF 75 f7543) vG (nI k5) p243 rfl (by first | assumption | decide | omega | rfl) (by rw [nI_toInt (by omega)]; omega) H.size) (cwV 1 hts gwsRX12_write_4 rfl rfl rfl hd_yX12_sayNumber_RX12 (by decide +kernel)) (fz_pre (va_recv hK hP (ci := 12) (q0 := 0) rfl rfl) hP hK hD) rfl rfl hl.1 rfl (lv_room (Nat.le_of_ble_eq_true rfl)) dX12_write_48 (by decide +kernel)) hS (fun q _ h => hFc q h) hFc (fun u t9_ H locs ht hvm hw9 hB9 hz1 hk1 hS => ?_)
        obtain ⟨p248, f7548⟩ := u
        try dsimp only at hw9 hB9
        have hP : va_P (dC, dI) vwCl (WR a k h0 (fT (fT (fT vi 0 0) 125 (nI p243)) 125 (nI p248)) vj (fT (fT vF 75 f7543) 75 f7548) vG) H := fz_P ht hB9.1
        have hD : va_D A (WR a k h0 (fT (fT (fT vi 0 0) 125 (nI p243)) 125 (nI p248)) vj (fT (fT vF 75 f7543) 75 f7548) vG) := hB9.2.weaken (fun _ q _ h => hFc q.1 h)
        have e9 : fT (fT vi 0 0) 125 (nI p248) = fT (fT (fT vi 0 0) 125 (nI p243)) 125 (nI p248) := (fT_sm _ _ _ _).symm
        rw [← e9] at hP hD
        clear e9
        have e9 : fT vF 75 f7548 = fT (fT vF 75 f7543) 75 f7548 := (fT_sm _ _ _ _).symm
        rw [← e9] at hP hD
        clear e9
        have hP : va_P (dC, dI) vwCl (WR a k h0 (fT (fT vi 0 0) 125 (nI p248)) vj (fT vF 75 f7548) vG) H := hP
        have hD : va_D A (WR a k h0 (fT (fT vi 0 0) 125 (nI p248)) vj (fT vF 75 f7548) vG) := hD
        have f48_0 := hw9
        try dsimp only at f48_0
        refine lv_aload_n hx hb dX12_write_51 rfl (lv_at hl 0 rfl) ?_
        refine lv_bipush (v := 32) hx hb dX12_write_52 (by decide) ?_
        have hFc := allFree hD hS hA
        refine va_callv (va_runV (As := [.int 32]) (rest := []) ⟨hx, hb, hml, hown, hts⟩ (r_X12_say l dC dI a k h0 (fT (fT vi 0 0) 125 (nI p248)) vj (fT vF 75 f7548) vG 32 p248 rfl (by first | assumption | decide | omega | rfl) H.size) (cwV 1 hts gwsRX12_write_3 rfl rfl rfl hd_yX12_say_RX12 (by decide +kernel)) (fz_pre (va_recv hK hP (ci := 12) (q0 := 0) rfl rfl) hP hK hD) rfl rfl hl.1 rfl (lv_room (Nat.le_of_ble_eq_true rfl)) dX12_write_54 (by decide +kernel)) hS (fun q _ h => hFc q h) hFc (fun u t9_ H locs ht hvm hw9 hB9 hz1 hk1 hS => ?_)
        obtain ⟨p254, f7554⟩ := u
        try dsimp only at hw9 hB9
        have hP : va_P (dC, dI) vwCl (WR a k h0 (fT (fT (fT vi 0 0) 125 (nI p248)) 125 (nI p254)) vj (fT (fT vF 75 f7548) 75 f7554) vG) H := fz_P ht hB9.1
        have hD : va_D A (WR a k h0 (fT (fT (fT vi 0 0) 125 (nI p248)) 125 (nI p254)) vj (fT (fT vF 75 f7548) 75 f7554) vG) := hB9.2.weaken (fun _ q _ h => hFc q.1 h)
        have e9 : fT (fT vi 0 0) 125 (nI p254) = fT (fT (fT vi 0 0) 125 (nI p248)) 125 (nI p254) := (fT_sm _ _ _ _).symm
        rw [← e9] at hP hD
        clear e9
        have e9 : fT vF 75 f7554 = fT (fT vF 75 f7548) 75 f7554 := (fT_sm _ _ _ _).symm
        rw [← e9] at hP hD
        clear e9
        have hP : va_P (dC, dI) vwCl (WR a k h0 (fT (fT vi 0 0) 125 (nI p254)) vj (fT vF 75 f7554) vG) H := hP
        have hD : va_D A (WR a k h0 (fT (fT vi 0 0) 125 (nI p254)) vj (fT vF 75 f7554) vG) := hD
        obtain ⟨f54_0, f54_1, f54_2⟩ := hw9
        refine lv_aload_n hx hb dX12_write_57 rfl (lv_at hl 0 rfl) ?_
        refine va_get (D := (dC, dI)) (ci := 12) (v := .ref (a 58)) (C := RX12) (T := TX12) (N := 163) (fs := fM (vS a (fT (fT vi 0 0) 125 (nI p254)) vj)) hx hb hts iwsRX12_write_in12 hown hK hP 0 rfl rfl 98 (by decide) (hts (.fieldLink RX12 197 "OptimaWorksModel" "whole" "[I") (by decide +kernel)) (fun _ h9 => h9) rfl dX12_write_58 ?_
        refine lv_iload_n hx hb dX12_write_61 rfl (lv_at hl 1 rfl) ?_
        refine va_iald (cA := k 58) (n := 9) (f := (vF 58)) hx hb hK hP 59 58 (WR_get 58 (by decide)) (TR_get 58 (by decide)) (vp_in_nI (show k5 < 9 by omega) (by omega)) dX12_write_62 ?_
        refine lv_topi (fun y11 hy11 => ?_)
        obtain rfl : ((vF 58) k5) = y11 := (hy11.trans (by rw [nI_clamp (by omega)])).symm
        refine lv_iconst (v := 1) hx hb dX12_write_63 (by decide) ?_
        refine W.cut (pc := 75) (fun H locs ls stk => ∃ (j61_i125 : Nat) (j61_F75 : Nat → Int32), (j61_i125 ≤ 30000) ∧  stk = [] ∧ va_P (dC, dI) vwCl (WR a k h0 (fT (fT vi 0 0) 125 (nI j61_i125)) vj (fT vF 75 j61_F75) vG) H ∧ va_D A (WR a k h0 (fT (fT vi 0 0) 125 (nI j61_i125)) vj (fT vF 75 j61_F75) vG) ∧ va_S A s.heap H locs ∧ lv_has ls 4 [(0, .ref h0), (1, .int (nI k5))]) (fun join4 => ?_) ?_
        · refine lv_icmp_ne (tgt := 75) hx hb dX12_write_64 (by decide) (fun c_64 => ?_) (fun c_64 => ?_)
          · have t_64 : (((vF 58) k5)).toInt ≠ 1 := toI_ne c_64 rfl (by decide)
            have hl : lv_has _ _ ([(0, .ref h0), (1, .int (nI k5))]) := lv_sub hl [0, 1] rfl
            exact join4 _ _ _ _ ⟨p254, f7554, by first | assumption | omega, rfl, hP, hD, hS, hl⟩
          · have t_64 : (((vF 58) k5)).toInt = 1 := toI_nne c_64 rfl (by decide)
            refine lv_aload_n hx hb dX12_write_67 rfl (lv_at hl 0 rfl) ?_
            refine lv_bipush (v := 6) hx hb dX12_write_68 (by decide) ?_
            refine lv_bipush (v := 12) hx hb dX12_write_70 (by decide) ?_
            have hFc := allFree hD hS hA
            refine va_callv (va_runV (As := [.int 6, .int 12]) (rest := []) ⟨hx, hb, hml, hown, hts⟩ (r_X12_sayText l dC dI a k h0 (fT (fT vi 0 0) 125 (nI p254)) vj (fT vF 75 f7554) vG 6 12 p254 rfl (by first | assumption | decide | omega | rfl) (by first | assumption | decide | omega | rfl) (by first | assumption | decide | omega | rfl) H.size) (cwV 2 hts gwsRX12_write_2 rfl rfl rfl hd_yX12_sayText_RX12 (by decide +kernel)) (fz_preE (va_recv hK hP (ci := 12) (q0 := 0) rfl rfl) hP hK hD (fun a U g mk qE => qE.same rfl) (fun U hU9 hW => by rw [hU9]; exact (((hE : StrA A s s.heap).kept hS.2.1).narrow (fun q h => hFc q h)).warm hW)) rfl rfl hl.1 rfl (lv_room (Nat.le_of_ble_eq_true rfl)) dX12_write_72 (by decide +kernel)) hS (fun q _ h => hFc q h) hFc (fun u t9_ H locs ht hvm hw9 hB9 hz1 hk1 hS => ?_)
            obtain ⟨p272, f7572⟩ := u
            try dsimp only at hw9 hB9
            have hP : va_P (dC, dI) vwCl (WR a k h0 (fT (fT (fT vi 0 0) 125 (nI p254)) 125 (nI p272)) vj (fT (fT vF 75 f7554) 75 f7572) vG) H := fz_P ht hB9.1
            have hD : va_D A (WR a k h0 (fT (fT (fT vi 0 0) 125 (nI p254)) 125 (nI p272)) vj (fT (fT vF 75 f7554) 75 f7572) vG) := hB9.2.weaken (fun _ q _ h => hFc q.1 h)
            have e9 : fT (fT vi 0 0) 125 (nI p272) = fT (fT (fT vi 0 0) 125 (nI p254)) 125 (nI p272) := (fT_sm _ _ _ _).symm
            rw [← e9] at hP hD
            clear e9
            have e9 : fT vF 75 f7572 = fT (fT vF 75 f7554) 75 f7572 := (fT_sm _ _ _ _).symm
            rw [← e9] at hP hD
            clear e9
            have hP : va_P (dC, dI) vwCl (WR a k h0 (fT (fT vi 0 0) 125 (nI p272)) vj (fT vF 75 f7572) vG) H := hP
            have hD : va_D A (WR a k h0 (fT (fT vi 0 0) 125 (nI p272)) vj (fT vF 75 f7572) vG) := hD
            have f72_0 := hw9
            try dsimp only at f72_0
            have hl : lv_has _ _ ([(0, .ref h0), (1, .int (nI k5))]) := lv_sub hl [0, 1] rfl
            exact join4 _ _ _ _ ⟨p272, f7572, by first | assumption | omega, rfl, hP, hD, hS, hl⟩
        · rintro H locs ls stk ⟨j61_i125, j61_F75, hj61_i125, rfl, hP, hD, hS, hl⟩
          refine lv_aload_n hx hb dX12_write_75 rfl (lv_at hl 0 rfl) ?_
          refine lv_bipush (v := 12) hx hb dX12_write_76 (by decide) ?_
          refine lv_bipush (v := 17) hx hb dX12_write_78 (by decide) ?_
          have hFc := allFree hD hS hA
          refine va_callv (va_runV (As := [.int 12, .int 17]) (rest := []) ⟨hx, hb, hml, hown, hts⟩ (r_X12_sayText l dC dI a k h0 (fT (fT vi 0 0) 125 (nI j61_i125)) vj (fT vF 75 j61_F75) vG 12 17 j61_i125 rfl (by first | assumption | decide | omega | rfl) (by first | assumption | decide | omega | rfl) (by first | assumption | decide | omega | rfl) H.size) (cwV 2 hts gwsRX12_write_2 rfl rfl rfl hd_yX12_sayText_RX12 (by decide +kernel)) (fz_preE (va_recv hK hP (ci := 12) (q0 := 0) rfl rfl) hP hK hD (fun a U g mk qE => qE.same rfl) (fun U hU9 hW => by rw [hU9]; exact (((hE : StrA A s s.heap).kept hS.2.1).narrow (fun q h => hFc q h)).warm hW)) rfl rfl hl.1 rfl (lv_room (Nat.le_of_ble_eq_true rfl)) dX12_write_80 (by decide +kernel)) hS (fun q _ h => hFc q h) hFc (fun u t9_ H locs ht hvm hw9 hB9 hz1 hk1 hS => ?_)
          obtain ⟨p280, f7580⟩ := u
          try dsimp only at hw9 hB9
          have hP : va_P (dC, dI) vwCl (WR a k h0 (fT (fT (fT vi 0 0) 125 (nI j61_i125)) 125 (nI p280)) vj (fT (fT vF 75 j61_F75) 75 f7580) vG) H := fz_P ht hB9.1
          have hD : va_D A (WR a k h0 (fT (fT (fT vi 0 0) 125 (nI j61_i125)) 125 (nI p280)) vj (fT (fT vF 75 j61_F75) 75 f7580) vG) := hB9.2.weaken (fun _ q _ h => hFc q.1 h)
          have e9 : fT (fT vi 0 0) 125 (nI p280) = fT (fT (fT vi 0 0) 125 (nI j61_i125)) 125 (nI p280) := (fT_sm _ _ _ _).symm
          rw [← e9] at hP hD
          clear e9
          have e9 : fT vF 75 f7580 = fT (fT vF 75 j61_F75) 75 f7580 := (fT_sm _ _ _ _).symm
          rw [← e9] at hP hD
          clear e9
          have hP : va_P (dC, dI) vwCl (WR a k h0 (fT (fT vi 0 0) 125 (nI p280)) vj (fT vF 75 f7580) vG) H := hP
          have hD : va_D A (WR a k h0 (fT (fT vi 0 0) 125 (nI p280)) vj (fT vF 75 f7580) vG) := hD
          have f80_0 := hw9
          try dsimp only at f80_0
          have bl := hM.1 k5 (by omega)
          refine lv_aload_n hx hb dX12_write_83 rfl (lv_at hl 0 rfl) ?_
          refine lv_aload_n hx hb dX12_write_84 rfl (lv_at hl 0 rfl) ?_
          refine va_get (D := (dC, dI)) (ci := 12) (v := .ref (a 56)) (C := RX12) (T := TX12) (N := 163) (fs := fM (vS a (fT (fT vi 0 0) 125 (nI p280)) vj)) hx hb hts iwsRX12_write_in12 hown hK hP 0 rfl rfl 96 (by decide) (hts (.fieldLink RX12 191 "OptimaWorksModel" "low" "[I") (by decide +kernel)) (fun _ h9 => h9) rfl dX12_write_85 ?_
          refine lv_iload_n hx hb dX12_write_88 rfl (lv_at hl 1 rfl) ?_
          refine va_iald (cA := k 56) (n := 9) (f := (vF 56)) hx hb hK hP 57 56 (WR_get 56 (by decide)) (TR_get 56 (by decide)) (vp_in_nI (show k5 < 9 by omega) (by omega)) dX12_write_89 ?_
          refine lv_topi (fun y12 hy12 => ?_)
          obtain rfl : ((vF 56) k5) = y12 := (hy12.trans (by rw [nI_clamp (by omega)])).symm
          have hFc := allFree hD hS hA
          refine va_callv (va_runV (As := [.int ((vF 56) k5)]) (rest := []) ⟨hx, hb, hml, hown, hts⟩ (r_X12_sayNumber l dC dI a k h0 (fT (fT vi 0 0) 125 (nI p280)) vj (fT vF 75 f7580) vG ((vF 56) k5) p280 rfl (by first | assumption | decide | omega | rfl) (by omega) H.size) (cwV 1 hts gwsRX12_write_4 rfl rfl rfl hd_yX12_sayNumber_RX12 (by decide +kernel)) (fz_pre (va_recv hK hP (ci := 12) (q0 := 0) rfl rfl) hP hK hD) rfl rfl hl.1 rfl (lv_room (Nat.le_of_ble_eq_true rfl)) dX12_write_90 (by decide +kernel)) hS (fun q _ h => hFc q h) hFc (fun u t9_ H locs ht hvm hw9 hB9 hz1 hk1 hS => ?_)
          obtain ⟨p290, f7590⟩ := u
          try dsimp only at hw9 hB9
          have hP : va_P (dC, dI) vwCl (WR a k h0 (fT (fT (fT vi 0 0) 125 (nI p280)) 125 (nI p290)) vj (fT (fT vF 75 f7580) 75 f7590) vG) H := fz_P ht hB9.1
          have hD : va_D A (WR a k h0 (fT (fT (fT vi 0 0) 125 (nI p280)) 125 (nI p290)) vj (fT (fT vF 75 f7580) 75 f7590) vG) := hB9.2.weaken (fun _ q _ h => hFc q.1 h)
          have e9 : fT (fT vi 0 0) 125 (nI p290) = fT (fT (fT vi 0 0) 125 (nI p280)) 125 (nI p290) := (fT_sm _ _ _ _).symm
          rw [← e9] at hP hD
          clear e9
          have e9 : fT vF 75 f7590 = fT (fT vF 75 f7580) 75 f7590 := (fT_sm _ _ _ _).symm
          rw [← e9] at hP hD
          clear e9
          have hP : va_P (dC, dI) vwCl (WR a k h0 (fT (fT vi 0 0) 125 (nI p290)) vj (fT vF 75 f7590) vG) H := hP
          have hD : va_D A (WR a k h0 (fT (fT vi 0 0) 125 (nI p290)) vj (fT vF 75 f7590) vG) := hD
          have f90_0 := hw9
          try dsimp only at f90_0
          refine lv_aload_n hx hb dX12_write_93 rfl (lv_at hl 0 rfl) ?_
          refine lv_bipush (v := 32) hx hb dX12_write_94 (by decide) ?_
          have hFc := allFree hD hS hA
          refine va_callv (va_runV (As := [.int 32]) (rest := []) ⟨hx, hb, hml, hown, hts⟩ (r_X12_say l dC dI a k h0 (fT (fT vi 0 0) 125 (nI p290)) vj (fT vF 75 f7590) vG 32 p290 rfl (by first | assumption | decide | omega | rfl) H.size) (cwV 1 hts gwsRX12_write_3 rfl rfl rfl hd_yX12_say_RX12 (by decide +kernel)) (fz_pre (va_recv hK hP (ci := 12) (q0 := 0) rfl rfl) hP hK hD) rfl rfl hl.1 rfl (lv_room (Nat.le_of_ble_eq_true rfl)) dX12_write_96 (by decide +kernel)) hS (fun q _ h => hFc q h) hFc (fun u t9_ H locs ht hvm hw9 hB9 hz1 hk1 hS => ?_)
          obtain ⟨p296, f7596⟩ := u
          try dsimp only at hw9 hB9
          have hP : va_P (dC, dI) vwCl (WR a k h0 (fT (fT (fT vi 0 0) 125 (nI p290)) 125 (nI p296)) vj (fT (fT vF 75 f7590) 75 f7596) vG) H := fz_P ht hB9.1
          have hD : va_D A (WR a k h0 (fT (fT (fT vi 0 0) 125 (nI p290)) 125 (nI p296)) vj (fT (fT vF 75 f7590) 75 f7596) vG) := hB9.2.weaken (fun _ q _ h => hFc q.1 h)
          have e9 : fT (fT vi 0 0) 125 (nI p296) = fT (fT (fT vi 0 0) 125 (nI p290)) 125 (nI p296) := (fT_sm _ _ _ _).symm
          rw [← e9] at hP hD
          clear e9
          have e9 : fT vF 75 f7596 = fT (fT vF 75 f7590) 75 f7596 := (fT_sm _ _ _ _).symm
          rw [← e9] at hP hD
          clear e9
          have hP : va_P (dC, dI) vwCl (WR a k h0 (fT (fT vi 0 0) 125 (nI p296)) vj (fT vF 75 f7596) vG) H := hP
          have hD : va_D A (WR a k h0 (fT (fT vi 0 0) 125 (nI p296)) vj (fT vF 75 f7596) vG) := hD
          obtain ⟨f96_0, f96_1, f96_2⟩ := hw9
          refine lv_aload_n hx hb dX12_write_99 rfl (lv_at hl 0 rfl) ?_
          refine lv_bipush (v := 17) hx hb dX12_write_100 (by decide) ?_
          refine lv_bipush (v := 20) hx hb dX12_write_102 (by decide) ?_
          have hFc := allFree hD hS hA
          refine va_callv (va_runV (As := [.int 17, .int 20]) (rest := []) ⟨hx, hb, hml, hown, hts⟩ (r_X12_sayText l dC dI a k h0 (fT (fT vi 0 0) 125 (nI p296)) vj (fT vF 75 f7596) vG 17 20 p296 rfl (by first | assumption | decide | omega | rfl) (by first | assumption | decide | omega | rfl) (by first | assumption | decide | omega | rfl) H.size) (cwV 2 hts gwsRX12_write_2 rfl rfl rfl hd_yX12_sayText_RX12 (by decide +kernel)) (fz_preE (va_recv hK hP (ci := 12) (q0 := 0) rfl rfl) hP hK hD (fun a U g mk qE => qE.same rfl) (fun U hU9 hW => by rw [hU9]; exact (((hE : StrA A s s.heap).kept hS.2.1).narrow (fun q h => hFc q h)).warm hW)) rfl rfl hl.1 rfl (lv_room (Nat.le_of_ble_eq_true rfl)) dX12_write_104 (by decide +kernel)) hS (fun q _ h => hFc q h) hFc (fun u t9_ H locs ht hvm hw9 hB9 hz1 hk1 hS => ?_)
          obtain ⟨p2104, f75104⟩ := u
          try dsimp only at hw9 hB9
          have hP : va_P (dC, dI) vwCl (WR a k h0 (fT (fT (fT vi 0 0) 125 (nI p296)) 125 (nI p2104)) vj (fT (fT vF 75 f7596) 75 f75104) vG) H := fz_P ht hB9.1
          have hD : va_D A (WR a k h0 (fT (fT (fT vi 0 0) 125 (nI p296)) 125 (nI p2104)) vj (fT (fT vF 75 f7596) 75 f75104) vG) := hB9.2.weaken (fun _ q _ h => hFc q.1 h)
          have e9 : fT (fT vi 0 0) 125 (nI p2104) = fT (fT (fT vi 0 0) 125 (nI p296)) 125 (nI p2104) := (fT_sm _ _ _ _).symm
          rw [← e9] at hP hD
          clear e9
          have e9 : fT vF 75 f75104 = fT (fT vF 75 f7596) 75 f75104 := (fT_sm _ _ _ _).symm
          rw [← e9] at hP hD
          clear e9
          have hP : va_P (dC, dI) vwCl (WR a k h0 (fT (fT vi 0 0) 125 (nI p2104)) vj (fT vF 75 f75104) vG) H := hP
          have hD : va_D A (WR a k h0 (fT (fT vi 0 0) 125 (nI p2104)) vj (fT vF 75 f75104) vG) := hD
          have f104_0 := hw9
          try dsimp only at f104_0
          have bh := hM.2.1 k5 (by omega)
          refine lv_aload_n hx hb dX12_write_107 rfl (lv_at hl 0 rfl) ?_
          refine lv_aload_n hx hb dX12_write_108 rfl (lv_at hl 0 rfl) ?_
          refine va_get (D := (dC, dI)) (ci := 12) (v := .ref (a 57)) (C := RX12) (T := TX12) (N := 163) (fs := fM (vS a (fT (fT vi 0 0) 125 (nI p2104)) vj)) hx hb hts iwsRX12_write_in12 hown hK hP 0 rfl rfl 97 (by decide) (hts (.fieldLink RX12 194 "OptimaWorksModel" "high" "[I") (by decide +kernel)) (fun _ h9 => h9) rfl dX12_write_109 ?_
          refine lv_iload_n hx hb dX12_write_112 rfl (lv_at hl 1 rfl) ?_
          refine va_iald (cA := k 57) (n := 9) (f := (vF 57)) hx hb hK hP 58 57 (WR_get 57 (by decide)) (TR_get 57 (by decide)) (vp_in_nI (show k5 < 9 by omega) (by omega)) dX12_write_113 ?_
          refine lv_topi (fun y13 hy13 => ?_)
          obtain rfl : ((vF 57) k5) = y13 := (hy13.trans (by rw [nI_clamp (by omega)])).symm
          have hFc := allFree hD hS hA
          refine va_callv (va_runV (As := [.int ((vF 57) k5)]) (rest := []) ⟨hx, hb, hml, hown, hts⟩ (r_X12_sayNumber l dC dI a k h0 (fT (fT vi 0 0) 125 (nI p2104)) vj (fT vF 75 f75104) vG ((vF 57) k5) p2104 rfl (by first | assumption | decide | omega | rfl) (by omega) H.size) (cwV 1 hts gwsRX12_write_4 rfl rfl rfl hd_yX12_sayNumber_RX12 (by decide +kernel)) (fz_pre (va_recv hK hP (ci := 12) (q0 := 0) rfl rfl) hP hK hD) rfl rfl hl.1 rfl (lv_room (Nat.le_of_ble_eq_true rfl)) dX12_write_114 (by decide +kernel)) hS (fun q _ h => hFc q h) hFc (fun u t9_ H locs ht hvm hw9 hB9 hz1 hk1 hS => ?_)
          obtain ⟨p2114, f75114⟩ := u
          try dsimp only at hw9 hB9
          have hP : va_P (dC, dI) vwCl (WR a k h0 (fT (fT (fT vi 0 0) 125 (nI p2104)) 125 (nI p2114)) vj (fT (fT vF 75 f75104) 75 f75114) vG) H := fz_P ht hB9.1
          have hD : va_D A (WR a k h0 (fT (fT (fT vi 0 0) 125 (nI p2104)) 125 (nI p2114)) vj (fT (fT vF 75 f75104) 75 f75114) vG) := hB9.2.weaken (fun _ q _ h => hFc q.1 h)
          have e9 : fT (fT vi 0 0) 125 (nI p2114) = fT (fT (fT vi 0 0) 125 (nI p2104)) 125 (nI p2114) := (fT_sm _ _ _ _).symm
          rw [← e9] at hP hD
          clear e9
          have e9 : fT vF 75 f75114 = fT (fT vF 75 f75104) 75 f75114 := (fT_sm _ _ _ _).symm
          rw [← e9] at hP hD
          clear e9
          have hP : va_P (dC, dI) vwCl (WR a k h0 (fT (fT vi 0 0) 125 (nI p2114)) vj (fT vF 75 f75114) vG) H := hP
          have hD : va_D A (WR a k h0 (fT (fT vi 0 0) 125 (nI p2114)) vj (fT vF 75 f75114) vG) := hD
          have f114_0 := hw9
          try dsimp only at f114_0
          refine lv_aload_n hx hb dX12_write_117 rfl (lv_at hl 0 rfl) ?_
          have hFc := allFree hD hS hA
          refine va_callv (va_runV (As := []) (rest := []) ⟨hx, hb, hml, hown, hts⟩ (r_X12_endLine l dC dI a k h0 (fT (fT vi 0 0) 125 (nI p2114)) vj (fT vF 75 f75114) vG p2114 rfl (by first | assumption | decide | omega | rfl) H.size) (cwV 0 hts gwsRX12_write_1 rfl rfl rfl hd_yX12_endLine_RX12 (by decide +kernel)) (fz_pre (va_recv hK hP (ci := 12) (q0 := 0) rfl rfl) hP hK hD) rfl rfl hl.1 rfl (lv_room (Nat.le_of_ble_eq_true rfl)) dX12_write_118 (by decide +kernel)) hS (fun q _ h => hFc q h) hFc (fun u t9_ H locs ht hvm hw9 hB9 hz1 hk1 hS => ?_)
          obtain ⟨p2118, f75118⟩ := u
          try dsimp only at hw9 hB9
          have hP : va_P (dC, dI) vwCl (WR a k h0 (fT (fT (fT vi 0 0) 125 (nI p2114)) 125 (nI p2118)) vj (fT (fT vF 75 f75114) 75 f75118) vG) H := fz_P ht hB9.1
          have hD : va_D A (WR a k h0 (fT (fT (fT vi 0 0) 125 (nI p2114)) 125 (nI p2118)) vj (fT (fT vF 75 f75114) 75 f75118) vG) := hB9.2.weaken (fun _ q _ h => hFc q.1 h)
          have e9 : fT (fT vi 0 0) 125 (nI p2118) = fT (fT (fT vi 0 0) 125 (nI p2114)) 125 (nI p2118) := (fT_sm _ _ _ _).symm
          rw [← e9] at hP hD
          clear e9
          have e9 : fT vF 75 f75118 = fT (fT vF 75 f75114) 75 f75118 := (fT_sm _ _ _ _).symm
          rw [← e9] at hP hD
          clear e9
          have hP : va_P (dC, dI) vwCl (WR a k h0 (fT (fT vi 0 0) 125 (nI p2118)) vj (fT vF 75 f75118) vG) H := hP
          have hD : va_D A (WR a k h0 (fT (fT vi 0 0) 125 (nI p2118)) vj (fT vF 75 f75118) vG) := hD
          have f118_0 := hw9
          try dsimp only at f118_0
          refine lv_iinc (v := (nI (k5 + 1))) hx hb dX12_write_121 hl (k := 1) rfl (nI_add k5 1) (by decide) rfl (fun ls (hl : lv_has ls _ ([(1, .int (nI (k5 + 1))), (0, .ref h0)])) => ?_)
          refine lv_goto (tgt := 32) hx hb dX12_write_124 (by decide) ?_
          have hl : lv_has _ _ ([(0, .ref h0), (1, .int (nI (k5 + 1)))]) := lv_sub hl [1, 0] rfl
          exact ih32 (k5 + 1) p2118 f75118 _ _ _ (by omega) (by first | assumption | omega) (by omega) hP hD hS hl
theorem dX12_key_0 : decode cX12_key 0 = .ok (.iconst 0, 1) := dk_3 (by decide +kernel)
theorem dX12_key_1 : decode cX12_key 1 = .ok (.istore_n 3, 1) := dk_62 (by decide +kernel)
theorem dX12_key_2 : decode cX12_key 2 = .ok (.iconst 0, 1) := dk_3 (by decide +kernel)
theorem dX12_key_3 : decode cX12_key 3 = .ok (.istore 4, 2) := dk_54 (by decide +kernel)
theorem dX12_key_5 : decode cX12_key 5 = .ok (.iload 4, 2) := dk_21 (by decide +kernel)
theorem dX12_key_7 : decode cX12_key 7 = .ok (.bipush 16, 2) := dk_16 (by decide +kernel)
theorem dX12_key_9 : decode cX12_key 9 = .ok (.if_icmp .ge 83, 3) := dk_162 (by decide +kernel)
theorem dX12_key_12 : decode cX12_key 12 = .ok (.iconst 0, 1) := dk_3 (by decide +kernel)
theorem dX12_key_13 : decode cX12_key 13 = .ok (.istore 5, 2) := dk_54 (by decide +kernel)
theorem dX12_key_15 : decode cX12_key 15 = .ok (.iconst 1, 1) := dk_4 (by decide +kernel)
theorem dX12_key_16 : decode cX12_key 16 = .ok (.istore 6, 2) := dk_54 (by decide +kernel)
theorem dX12_key_18 : decode cX12_key 18 = .ok (.iload_n 3, 1) := dk_29 (by decide +kernel)
theorem dX12_key_19 : decode cX12_key 19 = .ok (.invokestatic 479, 3) := dk_184 (by decide +kernel)
theorem dX12_key_22 : decode cX12_key 22 = .ok (.bipush 32, 2) := dk_16 (by decide +kernel)
theorem dX12_key_24 : decode cX12_key 24 = .ok (.if_icmp .eq 45, 3) := dk_159 (by decide +kernel)
theorem dX12_key_27 : decode cX12_key 27 = .ok (.iload 6, 2) := dk_21 (by decide +kernel)
theorem dX12_key_29 : decode cX12_key 29 = .ok (.ifCond .eq 28, 3) := dk_153 (by decide +kernel)
theorem dX12_key_32 : decode cX12_key 32 = .ok (.iload 5, 2) := dk_21 (by decide +kernel)
theorem dX12_key_34 : decode cX12_key 34 = .ok (.iload_n 2, 1) := dk_28 (by decide +kernel)
theorem dX12_key_35 : decode cX12_key 35 = .ok (.if_icmp .ge 22, 3) := dk_162 (by decide +kernel)
theorem dX12_key_38 : decode cX12_key 38 = .ok (.aload_n 0, 1) := dk_42 (by decide +kernel)
theorem dX12_key_39 : decode cX12_key 39 = .ok (.iload_n 1, 1) := dk_27 (by decide +kernel)
theorem dX12_key_40 : decode cX12_key 40 = .ok (.iload 5, 2) := dk_21 (by decide +kernel)
theorem dX12_key_42 : decode cX12_key 42 = .ok (.iadd, 1) := dk_96 (by decide +kernel)
theorem dX12_key_43 : decode cX12_key 43 = .ok (.invokevirtual 482, 3) := dk_182 (by decide +kernel)
theorem dX12_key_46 : decode cX12_key 46 = .ok (.iload_n 3, 1) := dk_29 (by decide +kernel)
theorem dX12_key_47 : decode cX12_key 47 = .ok (.invokestatic 479, 3) := dk_184 (by decide +kernel)
theorem dX12_key_50 : decode cX12_key 50 = .ok (.if_icmp .ne 7, 3) := dk_160 (by decide +kernel)
theorem dX12_key_53 : decode cX12_key 53 = .ok (.iconst 1, 1) := dk_4 (by decide +kernel)
theorem dX12_key_54 : decode cX12_key 54 = .ok (.goto 4, 3) := dk_167 (by decide +kernel)
theorem dX12_key_57 : decode cX12_key 57 = .ok (.iconst 0, 1) := dk_3 (by decide +kernel)
theorem dX12_key_58 : decode cX12_key 58 = .ok (.istore 6, 2) := dk_54 (by decide +kernel)
theorem dX12_key_60 : decode cX12_key 60 = .ok (.iinc 3 1, 3) := dk_132 (by decide +kernel)
theorem dX12_key_63 : decode cX12_key 63 = .ok (.iinc 5 1, 3) := dk_132 (by decide +kernel)
theorem dX12_key_66 : decode cX12_key 66 = .ok (.goto (-48), 3) := dk_167 (by decide +kernel)
theorem dX12_key_69 : decode cX12_key 69 = .ok (.iinc 3 1, 3) := dk_132 (by decide +kernel)
theorem dX12_key_72 : decode cX12_key 72 = .ok (.iload 6, 2) := dk_21 (by decide +kernel)
theorem dX12_key_74 : decode cX12_key 74 = .ok (.ifCond .eq 12, 3) := dk_153 (by decide +kernel)
theorem dX12_key_77 : decode cX12_key 77 = .ok (.iload 5, 2) := dk_21 (by decide +kernel)
theorem dX12_key_79 : decode cX12_key 79 = .ok (.iload_n 2, 1) := dk_28 (by decide +kernel)
theorem dX12_key_80 : decode cX12_key 80 = .ok (.if_icmp .ne 6, 3) := dk_160 (by decide +kernel)
theorem dX12_key_83 : decode cX12_key 83 = .ok (.iload 4, 2) := dk_21 (by decide +kernel)
theorem dX12_key_85 : decode cX12_key 85 = .ok (.ireturn, 1) := dk_172 (by decide +kernel)
theorem dX12_key_86 : decode cX12_key 86 = .ok (.iinc 4 1, 3) := dk_132 (by decide +kernel)
theorem dX12_key_89 : decode cX12_key 89 = .ok (.goto (-84), 3) := dk_167 (by decide +kernel)
theorem dX12_key_92 : decode cX12_key 92 = .ok (.iconst (-1), 1) := dk_2 (by decide +kernel)
theorem dX12_key_93 : decode cX12_key 93 = .ok (.ireturn, 1) := dk_172 (by decide +kernel)
def wsRX12_key : List Cond := .code yX12_key cX12_key 7 (some .int) :: ([] ++ wsX120 ++ (va_wsS RX12 479 yX12_keyLetter wsRX12_keyLetter) ++ (wsV RX12 482 RX12 yX12_byteAt wsRX12_byteAt))
theorem iwsRX12_key_in12 : ∀ w ∈ wsX120, w ∈ wsRX12_key := fun _ h => List.mem_cons_of_mem _ (List.mem_append_left _ (List.mem_append_left _ (List.mem_append_right _ h)))
theorem gwsRX12_key_0 : GoodIn wsRX12_key (va_wsS RX12 479 yX12_keyLetter wsRX12_keyLetter) := goodIn_sub (fun _ h => List.mem_cons_of_mem _ (List.mem_append_left _ (List.mem_append_right _ h))) (gdS (by decide +kernel) gdwsRX12_keyLetter)
theorem gwsRX12_key_1 : GoodIn wsRX12_key (wsV RX12 482 RX12 yX12_byteAt wsRX12_byteAt) := goodIn_sub (fun _ h => List.mem_cons_of_mem _ (List.mem_append_right _ h)) (gdV (by decide +kernel) gdwsRX12_byteAt)
theorem gdwsRX12_key : wsRX12_key.all goodWord = true := gdC rfl (gdA (gdA (gdA (by decide +kernel : ([] : List Cond).all goodWord = true) gdwsX120) (gdS (by decide +kernel) gdwsRX12_keyLetter)) (gdV (by decide +kernel) gdwsRX12_byteAt))
set_option maxHeartbeats 4000000 in
set_option maxRecDepth 100000 in
/-- key(begin, n) -/
theorem r_X12_key (l : Launch) (dC : Nat → ClassId) (dI : Nat → Nat → Nat) (a : Nat → Nat) (k : Nat → ClassId) (h0 : Nat) (vi : Nat → Int32) (vj : Nat → Int64) (vF : Nat → Nat → Int32) (vG : Nat → Nat → Int64) (bn : Nat) (nn : Nat) (tp : Nat) (hTp : vi 16 = nI tp) (htp : tp ≤ 4000) (hbn : bn ≤ 4000) (hnn : nn ≤ 4000) (sz : Nat) : Met l yX12_key wsRX12_key ({ frames := 5, cells := 0, slots := 0, locals := 105 }) (va_Pc [.ref h0, .int (nI bn), .int (nI nn)] (fun U => U.heap.size = sz ∧ va_P (dC, dI) vwCl (WR a k h0 vi vj vF vG) U.heap ∧ va_K (dC, dI) vwCl (tX12 k) U ∧ va_D (fun _ => True) (WR a k h0 vi vj vF vG) ∧ StrA (va_A (WR a k h0 vi vj vF vG) sz) U U.heap)) (va_Qi (fun (r : Int32) (u : Unit) => True) (fun (u : Unit) t => va_P (dC, dI) vwCl (WR a k h0 vi vj vF vG) t.heap ∧ va_D (va_A (WR a k h0 vi vj vF vG) sz) (WR a k h0 vi vj vF vG)) (va_A (WR a k h0 vi vj vF vG) sz)) 0 0 (va_A (WR a k h0 vi vj vF vG) sz) := by
  refine Met.ofW (cc := cX12_key) (maxL := 7) (ret := (some .int)) (by decide) rfl ?_
  intro p e s m args below meth c s₁ B hml hv
  obtain ⟨rfl, hsz, hP, hK, hD0, hE⟩ := hv
  have hx := B.exec
  have hb := B.bytes
  have hr := B.returns
  have hts := atoms_spec (ws := wsRX12_key) B.pre
  have hown : s.vm.findClass RX12 = some m.cls := findClass_of_methodNamed B.named
  have hlocks := B.notSynchronized
  subst hsz
  have hD := hD0.self (sz := s.heap.size)
  generalize hAe : va_A (WR a k h0 vi vj vF vG) s.heap.size = A at hD hE ⊢
  have hA : ∀ q : Nat, s.heap.size ≤ q → A q := fun q h => by rw [← hAe]; exact Or.inr h
  have hS : va_S A s.heap s.heap [] := va_S.rf
  have hl := lv_entry ([.ref h0, .int (nI bn), .int (nI nn)]) (n := 7) (Nat.le_of_ble_eq_true rfl)
  rw [lg_entry_eq]
  generalize (lg_sl ([.ref h0, .int (nI bn), .int (nI nn)]) ++ List.replicate (7 - (lg_sl ([.ref h0, .int (nI bn), .int (nI nn)])).length) Slot.unset).toArray = ls at hl ⊢
  have hl : lv_has ls 7 [(0, .ref h0), (1, .int (nI bn)), (2, .int (nI nn))] := hl
  refine lv_iconst (v := 0) hx hb dX12_key_0 (by decide) ?_
  refine lv_istore_n hx hb dX12_key_1 rfl hl (by decide) rfl (fun ls (hl : lv_has ls _ ([(3, .int 0), (0, .ref h0), (1, .int (nI bn)), (2, .int (nI nn))])) => ?_)
  refine lv_iconst (v := 0) hx hb dX12_key_2 (by decide) ?_
  refine lv_istore hx hb dX12_key_3 hl (by decide) rfl (fun ls (hl : lv_has ls _ ([(4, .int 0), (3, .int 0), (0, .ref h0), (1, .int (nI bn)), (2, .int (nI nn))])) => ?_)
  have hl : lv_has _ _ ([(0, .ref h0), (1, .int (nI bn)), (2, .int (nI nn)), (3, .int (nI 0)), (4, .int (nI 0))]) := lv_sub hl [2, 3, 4, 1, 0] rfl
  refine (fun (loop : ∀ (n9 : Nat) (k5 : Nat) (i5 : Nat) (H : Heap) (locs : List Loc) (ls : Array Slot), (i5 ≤ 71 ∧ k5 ≤ 16 ∧ nSp i5 = k5) →  (16 < k5 + n9) → va_P (dC, dI) vwCl (WR a k h0 vi vj vF vG) H → va_D A (WR a k h0 vi vj vF vG) → va_S A s.heap H locs → lv_has ls 7 [(0, .ref h0), (1, .int (nI bn)), (2, .int (nI nn)), (3, .int (nI i5)), (4, .int (nI k5))] → W p l e _ s m _ below meth c H locs 0 0 _ (F0 m 5 ls [])) => loop (17) 0 0 _ _ _ (⟨by omega, by omega, rfl⟩) (by omega) hP hD hS hl) ?_
  intro n9
  induction n9 with
  | zero => intro k5 i5 H locs ls hi5 hf9; exact False.elim (by omega)
  | succ n9 ih5 =>
    intro k5 i5 H locs ls hi5 hf5 hP hD hS hl
    refine lv_iload hx hb dX12_key_5 (lv_at hl 4 rfl) ?_
    refine lv_bipush (v := 16) hx hb dX12_key_7 (by decide) ?_
    refine lv_icmp_ge (tgt := 92) hx hb dX12_key_9 (by decide) (fun c_9 => ?_) (fun c_9 => ?_)
    · have t_9 : ((k5 : Nat) : Int) ≥ 16 := toI_ge c_9 (nI_toInt (by omega)) (by decide)
      refine lv_iconst (v := (-1)) hx hb dX12_key_92 (by decide) ?_
      refine W.widen (k := 0) (n := 0) (by decide +kernel) (by decide +kernel) ?_
      exact W.iret (v := (-1)) hx hb hr (fun t9_ ht hW => ⟨⟨(-1), (), rfl, trivial, by rw [ht]; exact hP, hD⟩, hS.F ht⟩) hS.2.2 dX12_key_93
    · have t_9 : ¬ ((k5 : Nat) : Int) ≥ 16 := toI_nge c_9 (nI_toInt (by omega)) (by decide)
      refine lv_iconst (v := 0) hx hb dX12_key_12 (by decide) ?_
      refine lv_istore hx hb dX12_key_13 hl (by decide) rfl (fun ls (hl : lv_has ls _ ([(5, .int 0), (0, .ref h0), (1, .int (nI bn)), (2, .int (nI nn)), (3, .int (nI i5)), (4, .int (nI k5))])) => ?_)
      refine lv_iconst (v := 1) hx hb dX12_key_15 (by decide) ?_
      refine lv_istore hx hb dX12_key_16 hl (by decide) rfl (fun ls (hl : lv_has ls _ ([(6, .int 1), (5, .int 0), (0, .ref h0), (1, .int (nI bn)), (2, .int (nI nn)), (3, .int (nI i5)), (4, .int (nI k5))])) => ?_)
      have hl : lv_has _ _ ([(0, .ref h0), (1, .int (nI bn)), (2, .int (nI nn)), (3, .int (nI i5)), (4, .int (nI k5)), (5, .int (nI 0)), (6, .int 1)]) := lv_sub hl [2, 3, 4, 5, 6, 1, 0] rfl
      refine (fun (loop : ∀ (n9 : Nat) (i6 : Nat) (j6 : Nat) (iq : Int32) (H : Heap) (locs : List Loc) (ls : Array Slot), (i6 < 71 ∧ nSp i6 = k5 ∧ j6 ≤ i6) →  (71 < i6 + n9) → va_P (dC, dI) vwCl (WR a k h0 vi vj vF vG) H → va_D A (WR a k h0 vi vj vF vG) → va_S A s.heap H locs → lv_has ls 7 [(0, .ref h0), (1, .int (nI bn)), (2, .int (nI nn)), (3, .int (nI i6)), (4, .int (nI k5)), (5, .int (nI j6)), (6, .int iq)] → W p l e _ s m _ below meth c H locs 0 0 _ (F0 m 18 ls [])) => loop (72) i5 0 1 _ _ _ (⟨nSp_lt i5 (by omega) (by omega), by omega, by omega⟩) (by omega) hP hD hS hl) ?_
      intro n9
      induction n9 with
      | zero => intro i6 j6 iq H locs ls hi6 hf9; exact False.elim (by omega)
      | succ n9 ih18_1 =>
        intro i6 j6 iq H locs ls hi6 hf18_1 hP hD hS hl
        refine lv_iload_n hx hb dX12_key_18 rfl (lv_at hl 3 rfl) ?_
        have hFc := noneFree hS hA
        refine va_calli (va_runS (As := [.int (nI i6)]) (rest := []) ⟨hx, hb, hml, hown, hts⟩ (r_X12_keyLetter l dC dI i6 (by first | assumption | decide | omega | rfl) H.size) (va_cwS 1 hts gwsRX12_key_0 rfl rfl rfl (by decide +kernel) ⟨by decide +kernel, by decide +kernel⟩) ⟨fun a U g mk q => by obtain ⟨q0, q1, qP, qK, qD, qE⟩ := q; exact ⟨q0, q1, qP, va_K.moved (u := U) (U := U.calling g mk a) (Vm.Alike.refl U.vm) qK, qD, qE.same rfl⟩, fun U hU9 hW => ⟨rfl, by rw [hU9], by rw [hU9]; exact nilP, va_K.moved hW.alike (hK.sub (tys' := []) [] rfl), nilD, by rw [hU9]; exact (((hE : StrA A s s.heap).kept hS.2.1).narrow (fun q h => hFc q h)).warm hW⟩⟩ rfl rfl hl.1 rfl (lv_room (Nat.le_of_ble_eq_true rfl)) dX12_key_19 (by decide +kernel)) hS (fun q _ h => hFc q h) hFc (fun r19 u t9_ H1 locs ht hvm hw9 hB9 hz1 hk1 hS => ?_)
        have hP := keepAll hP hk1
        clear hB9
        generalize H1 = H at hP hS ⊢
        have hP : va_P (dC, dI) vwCl (WR a k h0 vi vj vF vG) H := hP
        have hD : va_D A (WR a k h0 vi vj vF vG) := hD
        have f19_0 := hw9
        try dsimp only at f19_0
        refine lv_bipush (v := 32) hx hb dX12_key_22 (by decide) ?_
        refine lv_icmp_eq (tgt := 69) hx hb dX12_key_24 (by decide) (fun c_24 => ?_) (fun c_24 => ?_)
        · have t_24 : (r19).toInt = 32 := toI_eq c_24 rfl (by decide)
          refine lv_iinc (v := (nI (i6 + 1))) hx hb dX12_key_69 hl (k := 3) rfl (nI_add i6 1) (by decide) rfl (fun ls (hl : lv_has ls _ ([(3, .int (nI (i6 + 1))), (0, .ref h0), (1, .int (nI bn)), (2, .int (nI nn)), (4, .int (nI k5)), (5, .int (nI j6)), (6, .int iq)])) => ?_)
          refine lv_iload hx hb dX12_key_72 (lv_at hl 6 rfl) ?_
          refine W.cut (pc := 86) (fun H locs ls stk =>  stk = [] ∧ va_P (dC, dI) vwCl (WR a k h0 vi vj vF vG) H ∧ va_D A (WR a k h0 vi vj vF vG) ∧ va_S A s.heap H locs ∧ lv_has ls 7 [(3, .int (nI (i6 + 1))), (0, .ref h0), (1, .int (nI bn)), (2, .int (nI nn)), (4, .int (nI k5)), (5, .int (nI j6)), (6, .int iq)]) (fun join1 => ?_) ?_
          · refine lv_if_eq (tgt := 86) hx hb dX12_key_74 (by decide) (fun c_74 => ?_) (fun c_74 => ?_)
            · have t_74 : (iq).toInt = 0 := toI_eq c_74 rfl (by decide)
              have hl : lv_has _ _ ([(3, .int (nI (i6 + 1))), (0, .ref h0), (1, .int (nI bn)), (2, .int (nI nn)), (4, .int (nI k5)), (5, .int (nI j6)), (6, .int iq)]) := lv_sub hl [0, 1, 2, 3, 4, 5, 6] rfl
              exact join1 _ _ _ _ ⟨rfl, hP, hD, hS, hl⟩
            · have t_74 : ¬ (iq).toInt = 0 := toI_neq c_74 rfl (by decide)
              refine lv_iload hx hb dX12_key_77 (lv_at hl 5 rfl) ?_
              refine lv_iload_n hx hb dX12_key_79 rfl (lv_at hl 3 rfl) ?_
              refine lv_icmp_ne (tgt := 86) hx hb dX12_key_80 (by decide) (fun c_80 => ?_) (fun c_80 => ?_)
              · have t_80 : ((j6 : Nat) : Int) ≠ ((nn : Nat) : Int) := toI_ne c_80 (nI_toInt (by omega)) (nI_toInt (by omega))
                have hl : lv_has _ _ ([(3, .int (nI (i6 + 1))), (0, .ref h0), (1, .int (nI bn)), (2, .int (nI nn)), (4, .int (nI k5)), (5, .int (nI j6)), (6, .int iq)]) := lv_sub hl [0, 1, 2, 3, 4, 5, 6] rfl
                exact join1 _ _ _ _ ⟨rfl, hP, hD, hS, hl⟩
              · have t_80 : ((j6 : Nat) : Int) = ((nn : Nat) : Int) := toI_nne c_80 (nI_toInt (by omega)) (nI_toInt (by omega))
                refine lv_iload hx hb dX12_key_83 (lv_at hl 4 rfl) ?_
                refine W.widen (k := 0) (n := 0) (by decide +kernel) (by decide +kernel) ?_
                exact W.iret (v := (nI k5)) hx hb hr (fun t9_ ht hW => ⟨⟨(nI k5), (), rfl, trivial, by rw [ht]; exact hP, hD⟩, hS.F ht⟩) hS.2.2 dX12_key_85
          · rintro H locs ls stk ⟨rfl, hP, hD, hS, hl⟩
            refine lv_iinc (v := (nI (k5 + 1))) hx hb dX12_key_86 hl (k := 4) rfl (nI_add k5 1) (by decide) rfl (fun ls (hl : lv_has ls _ ([(4, .int (nI (k5 + 1))), (3, .int (nI (i6 + 1))), (0, .ref h0), (1, .int (nI bn)), (2, .int (nI nn)), (5, .int (nI j6)), (6, .int iq)])) => ?_)
            refine lv_goto (tgt := 5) hx hb dX12_key_89 (by decide) ?_
            have hl : lv_has _ _ ([(0, .ref h0), (1, .int (nI bn)), (2, .int (nI nn)), (3, .int (nI (i6 + 1))), (4, .int (nI (k5 + 1)))]) := lv_sub hl [2, 3, 4, 1, 0] rfl
            exact ih5 (k5 + 1) (i6 + 1) _ _ _ (by (have h9 : nSp (i6 + 1) = nSp i6 + 1 := by simp only [nSp]; rw [if_pos (by rw [← f19_0]; exact c_24)]); omega) (by omega) hP hD hS hl
        · have t_24 : ¬ (r19).toInt = 32 := toI_neq c_24 rfl (by decide)
          refine lv_iload hx hb dX12_key_27 (lv_at hl 6 rfl) ?_
          refine W.cut (pc := 58) (fun H locs ls stk => ∃ (j2_s0 : Int32),  stk = [.int j2_s0] ∧ va_P (dC, dI) vwCl (WR a k h0 vi vj vF vG) H ∧ va_D A (WR a k h0 vi vj vF vG) ∧ va_S A s.heap H locs ∧ lv_has ls 7 [(0, .ref h0), (1, .int (nI bn)), (2, .int (nI nn)), (3, .int (nI i6)), (4, .int (nI k5)), (5, .int (nI j6)), (6, .int iq)]) (fun join2 => ?_) ?_
          · refine lv_if_eq (tgt := 57) hx hb dX12_key_29 (by decide) (fun c_29 => ?_) (fun c_29 => ?_)
            · have t_29 : (iq).toInt = 0 := toI_eq c_29 rfl (by decide)
              refine lv_iconst (v := 0) hx hb dX12_key_57 (by decide) ?_
              have hl : lv_has _ _ ([(0, .ref h0), (1, .int (nI bn)), (2, .int (nI nn)), (3, .int (nI i6)), (4, .int (nI k5)), (5, .int (nI j6)), (6, .int iq)]) := lv_sub hl [0, 1, 2, 3, 4, 5, 6] rfl
              exact join2 _ _ _ _ ⟨0, rfl, hP, hD, hS, hl⟩
            · have t_29 : ¬ (iq).toInt = 0 := toI_neq c_29 rfl (by decide)
              refine lv_iload hx hb dX12_key_32 (lv_at hl 5 rfl) ?_
              refine lv_iload_n hx hb dX12_key_34 rfl (lv_at hl 2 rfl) ?_
              refine lv_icmp_ge (tgt := 57) hx hb dX12_key_35 (by decide) (fun c_35 => ?_) (fun c_35 => ?_)
              · have t_35 : ((j6 : Nat) : Int) ≥ ((nn : Nat) : Int) := toI_ge c_35 (nI_toInt (by omega)) (nI_toInt (by omega))
                refine lv_iconst (v := 0) hx hb dX12_key_57 (by decide) ?_
                have hl : lv_has _ _ ([(0, .ref h0), (1, .int (nI bn)), (2, .int (nI nn)), (3, .int (nI i6)), (4, .int (nI k5)), (5, .int (nI j6)), (6, .int iq)]) := lv_sub hl [0, 1, 2, 3, 4, 5, 6] rfl
                exact join2 _ _ _ _ ⟨0, rfl, hP, hD, hS, hl⟩
              · have t_35 : ¬ ((j6 : Nat) : Int) ≥ ((nn : Nat) : Int) := toI_nge c_35 (nI_toInt (by omega)) (nI_toInt (by omega))
                refine lv_aload_n hx hb dX12_key_38 rfl (lv_at hl 0 rfl) ?_
                refine lv_iload_n hx hb dX12_key_39 rfl (lv_at hl 1 rfl) ?_
                refine lv_iload hx hb dX12_key_40 (lv_at hl 5 rfl) ?_
                refine lv_iadd hx hb dX12_key_42 ?_
                refine lv_topi (fun y1 hy1 => ?_)
                obtain rfl : (nI (bn + j6)) = y1 := (hy1.trans (nI_add bn j6)).symm
                have hFc := allFree hD hS hA
                refine va_calli (va_runV (As := [.int (nI (bn + j6))]) (rest := []) ⟨hx, hb, hml, hown, hts⟩ (r_X12_byteAt l dC dI a k h0 vi vj vF vG (bn + j6) tp hTp (by first | assumption | decide | omega | rfl) (by first | assumption | decide | omega | rfl) H.size) (cwV 1 hts gwsRX12_key_1 rfl rfl rfl hd_yX12_byteAt_RX12 (by decide +kernel)) (fz_pre (va_recv hK hP (ci := 12) (q0 := 0) rfl rfl) hP hK hD) rfl rfl hl.1 rfl (lv_room (Nat.le_of_ble_eq_true rfl)) dX12_key_43 (by decide +kernel)) hS (fun q _ h => hFc q h) hFc (fun r43 u t9_ H locs ht hvm hw9 hB9 hz1 hk1 hS => ?_)
                have hP : va_P (dC, dI) vwCl (WR a k h0 vi vj vF vG) H := fz_P ht hB9.1
                have hD : va_D A (WR a k h0 vi vj vF vG) := hB9.2.weaken (fun _ q _ h => hFc q.1 h)
                obtain rfl := hw9
                refine lv_iload_n hx hb dX12_key_46 rfl (lv_at hl 3 rfl) ?_
                have hFc := noneFree hS hA
                refine va_calli (va_runS (As := [.int (nI i6)]) (rest := [.int (bA tp (vF 9) (bn + j6))]) ⟨hx, hb, hml, hown, hts⟩ (r_X12_keyLetter l dC dI i6 (by first | assumption | decide | omega | rfl) H.size) (va_cwS 1 hts gwsRX12_key_0 rfl rfl rfl (by decide +kernel) ⟨by decide +kernel, by decide +kernel⟩) ⟨fun a U g mk q => by obtain ⟨q0, q1, qP, qK, qD, qE⟩ := q; exact ⟨q0, q1, qP, va_K.moved (u := U) (U := U.calling g mk a) (Vm.Alike.refl U.vm) qK, qD, qE.same rfl⟩, fun U hU9 hW => ⟨rfl, by rw [hU9], by rw [hU9]; exact nilP, va_K.moved hW.alike (hK.sub (tys' := []) [] rfl), nilD, by rw [hU9]; exact (((hE : StrA A s s.heap).kept hS.2.1).narrow (fun q h => hFc q h)).warm hW⟩⟩ rfl rfl hl.1 rfl (lv_room (Nat.le_of_ble_eq_true rfl)) dX12_key_47 (by decide +kernel)) hS (fun q _ h => hFc q h) hFc (fun r47 u t9_ H1 locs ht hvm hw9 hB9 hz1 hk1 hS => ?_)
                have hP := keepAll hP hk1
                clear hB9
                generalize H1 = H at hP hS ⊢
                have hP : va_P (dC, dI) vwCl (WR a k h0 vi vj vF vG) H := hP
                have hD : va_D A (WR a k h0 vi vj vF vG) := hD
                have f47_0 := hw9
                try dsimp only at f47_0
                refine lv_icmp_ne (tgt := 57) hx hb dX12_key_50 (by decide) (fun c_50 => ?_) (fun c_50 => ?_)
                · have t_50 : ((bA tp (vF 9) (bn + j6))).toInt ≠ (r47).toInt := toI_ne c_50 rfl rfl
                  refine lv_iconst (v := 0) hx hb dX12_key_57 (by decide) ?_
                  have hl : lv_has _ _ ([(0, .ref h0), (1, .int (nI bn)), (2, .int (nI nn)), (3, .int (nI i6)), (4, .int (nI k5)), (5, .int (nI j6)), (6, .int iq)]) := lv_sub hl [0, 1, 2, 3, 4, 5, 6] rfl
                  exact join2 _ _ _ _ ⟨0, rfl, hP, hD, hS, hl⟩
                · have t_50 : ((bA tp (vF 9) (bn + j6))).toInt = (r47).toInt := toI_nne c_50 rfl rfl
                  refine lv_iconst (v := 1) hx hb dX12_key_53 (by decide) ?_
                  refine lv_goto (tgt := 58) hx hb dX12_key_54 (by decide) ?_
                  have hl : lv_has _ _ ([(0, .ref h0), (1, .int (nI bn)), (2, .int (nI nn)), (3, .int (nI i6)), (4, .int (nI k5)), (5, .int (nI j6)), (6, .int iq)]) := lv_sub hl [0, 1, 2, 3, 4, 5, 6] rfl
                  exact join2 _ _ _ _ ⟨1, rfl, hP, hD, hS, hl⟩
          · rintro H locs ls stk ⟨j2_s0, rfl, hP, hD, hS, hl⟩
            refine lv_istore hx hb dX12_key_58 hl (by decide) rfl (fun ls (hl : lv_has ls _ ([(6, .int j2_s0), (0, .ref h0), (1, .int (nI bn)), (2, .int (nI nn)), (3, .int (nI i6)), (4, .int (nI k5)), (5, .int (nI j6))])) => ?_)
            refine lv_iinc (v := (nI (i6 + 1))) hx hb dX12_key_60 hl (k := 4) rfl (nI_add i6 1) (by decide) rfl (fun ls (hl : lv_has ls _ ([(3, .int (nI (i6 + 1))), (6, .int j2_s0), (0, .ref h0), (1, .int (nI bn)), (2, .int (nI nn)), (4, .int (nI k5)), (5, .int (nI j6))])) => ?_)
            refine lv_iinc (v := (nI (j6 + 1))) hx hb dX12_key_63 hl (k := 6) rfl (nI_add j6 1) (by decide) rfl (fun ls (hl : lv_has ls _ ([(5, .int (nI (j6 + 1))), (3, .int (nI (i6 + 1))), (6, .int j2_s0), (0, .ref h0), (1, .int (nI bn)), (2, .int (nI nn)), (4, .int (nI k5))])) => ?_)
            refine lv_goto (tgt := 18) hx hb dX12_key_66 (by decide) ?_
            have hl : lv_has _ _ ([(0, .ref h0), (1, .int (nI bn)), (2, .int (nI nn)), (3, .int (nI (i6 + 1))), (4, .int (nI k5)), (5, .int (nI (j6 + 1))), (6, .int j2_s0)]) := lv_sub hl [3, 4, 5, 1, 6, 0, 2] rfl
            exact ih18_1 (i6 + 1) (j6 + 1) j2_s0 _ _ _ (by (have h9 : nSp (i6 + 1) = nSp i6 := by simp only [nSp]; rw [if_neg (by rw [← f19_0]; exact c_24)]; rfl); (have h8 := kl_end i6 (by omega) (by rw [← f19_0]; exact c_24)); omega) (by omega) hP hD hS hl

section
theorem hd_yX12_sayText_RX12 : yX12_sayText.cls = RX12 ∧ yX12_sayText.cls ≠ "java/lang/invoke/MethodHandle" ∧ yX12_sayText.cls ≠ "java/lang/invoke/VarHandle" ∧ (parseMethodDescriptor yX12_sayText.desc).map (fun d => d.parameters.length) = some 2 := by decide +kernel
theorem hd_yX12_sayGoal_RX12 : yX12_sayGoal.cls = RX12 ∧ yX12_sayGoal.cls ≠ "java/lang/invoke/MethodHandle" ∧ yX12_sayGoal.cls ≠ "java/lang/invoke/VarHandle" ∧ (parseMethodDescriptor yX12_sayGoal.desc).map (fun d => d.parameters.length) = some 1 := by decide +kernel
theorem hd_yX12_endLine_RX12 : yX12_endLine.cls = RX12 ∧ yX12_endLine.cls ≠ "java/lang/invoke/MethodHandle" ∧ yX12_endLine.cls ≠ "java/lang/invoke/VarHandle" ∧ (parseMethodDescriptor yX12_endLine.desc).map (fun d => d.parameters.length) = some 0 := by decide +kernel
theorem hd_yX12_sayWay_RX12 : yX12_sayWay.cls = RX12 ∧ yX12_sayWay.cls ≠ "java/lang/invoke/MethodHandle" ∧ yX12_sayWay.cls ≠ "java/lang/invoke/VarHandle" ∧ (parseMethodDescriptor yX12_sayWay.desc).map (fun d => d.parameters.length) = some 1 := by decide +kernel
theorem dX12_sayText_0 : decode cX12_sayText 0 = .ok (.iload_n 1, 1) := dk_27 (by decide +kernel)
theorem dX12_sayText_1 : decode cX12_sayText 1 = .ok (.istore_n 3, 1) := dk_62 (by decide +kernel)
theorem dX12_sayText_2 : decode cX12_sayText 2 = .ok (.iload_n 3, 1) := dk_29 (by decide +kernel)
theorem dX12_sayText_3 : decode cX12_sayText 3 = .ok (.iload_n 2, 1) := dk_28 (by decide +kernel)
theorem dX12_sayText_4 : decode cX12_sayText 4 = .ok (.if_icmp .ge 17, 3) := dk_162 (by decide +kernel)
theorem dX12_sayText_7 : decode cX12_sayText 7 = .ok (.aload_n 0, 1) := dk_42 (by decide +kernel)
theorem dX12_sayText_8 : decode cX12_sayText 8 = .ok (.iload_n 3, 1) := dk_29 (by decide +kernel)
theorem dX12_sayText_9 : decode cX12_sayText 9 = .ok (.invokestatic 952, 3) := dk_184 (by decide +kernel)
theorem dX12_sayText_12 : decode cX12_sayText 12 = .ok (.invokevirtual 936, 3) := dk_182 (by decide +kernel)
theorem dX12_sayText_15 : decode cX12_sayText 15 = .ok (.iinc 3 1, 3) := dk_132 (by decide +kernel)
theorem dX12_sayText_18 : decode cX12_sayText 18 = .ok (.goto (-16), 3) := dk_167 (by decide +kernel)
theorem dX12_sayText_21 : decode cX12_sayText 21 = .ok (.return_, 1) := dk_177 (by decide +kernel)
def wsRX12_sayText : List Cond := .code yX12_sayText cX12_sayText 4 none :: ([] ++ wsX120 ++ (va_wsS RX12 952 yX12_textLetter wsRX12_textLetter) ++ (wsV RX12 936 RX12 yX12_say wsRX12_say))
theorem iwsRX12_sayText_in12 : ∀ w ∈ wsX120, w ∈ wsRX12_sayText := fun _ h => List.mem_cons_of_mem _ (List.mem_append_left _ (List.mem_append_left _ (List.mem_append_right _ h)))
theorem gwsRX12_sayText_0 : GoodIn wsRX12_sayText (va_wsS RX12 952 yX12_textLetter wsRX12_textLetter) := goodIn_sub (fun _ h => List.mem_cons_of_mem _ (List.mem_append_left _ (List.mem_append_right _ h))) (gdS (by decide +kernel) gdwsRX12_textLetter)
theorem gwsRX12_sayText_1 : GoodIn wsRX12_sayText (wsV RX12 936 RX12 yX12_say wsRX12_say) := goodIn_sub (fun _ h => List.mem_cons_of_mem _ (List.mem_append_right _ h)) (gdV (by decide +kernel) gdwsRX12_say)
theorem gdwsRX12_sayText : wsRX12_sayText.all goodWord = true := gdC rfl (gdA (gdA (gdA (by decide +kernel : ([] : List Cond).all goodWord = true) gdwsX120) (gdS (by decide +kernel) gdwsRX12_textLetter)) (gdV (by decide +kernel) gdwsRX12_say))
set_option maxHeartbeats 4000000 in
set_option maxRecDepth 100000 in
/-- sayText(begin, end) -/
theorem r_X12_sayText (l : Launch) (dC : Nat → ClassId) (dI : Nat → Nat → Nat) (a : Nat → Nat) (k : Nat → ClassId) (h0 : Nat) (vi : Nat → Int32) (vj : Nat → Int64) (vF : Nat → Nat → Int32) (vG : Nat → Nat → Int64) (bn : Nat) (en : Nat) (pn : Nat) (hpn : vi 125 = nI pn) (hpn2 : pn ≤ 30000) (hen : en ≤ 63) (hbn : bn ≤ 63) (sz : Nat) : Met l yX12_sayText wsRX12_sayText ({ frames := 5, cells := 0, slots := 0, locals := 105 }) (va_Pc [.ref h0, .int (nI bn), .int (nI en)] (fun U => U.heap.size = sz ∧ va_P (dC, dI) vwCl (WR a k h0 vi vj vF vG) U.heap ∧ va_K (dC, dI) vwCl (tX12 k) U ∧ va_D (fun _ => True) (WR a k h0 vi vj vF vG) ∧ StrA (va_A (WR a k h0 vi vj vF vG) sz) U U.heap)) (va_Qv (fun (u : (Nat) × (Nat → Int32)) => ((u.1) ≤ 30000)) (fun (u : (Nat) × (Nat → Int32)) t => va_P (dC, dI) vwCl (WR a k h0 (fT vi 125 (nI (u.1))) vj (fT vF 75 (u.2)) vG) t.heap ∧ va_D (va_A (WR a k h0 vi vj vF vG) sz) (WR a k h0 (fT vi 125 (nI (u.1))) vj (fT vF 75 (u.2)) vG)) (va_A (WR a k h0 vi vj vF vG) sz)) 0 0 (va_A (WR a k h0 vi vj vF vG) sz) := by
  refine Met.ofW (cc := cX12_sayText) (maxL := 4) (ret := none) (by decide) rfl ?_
  intro p e s m args below meth c s₁ B hml hv
  obtain ⟨rfl, hsz, hP, hK, hD0, hE⟩ := hv
  have hx := B.exec
  have hb := B.bytes
  have hr := B.returns
  have hts := atoms_spec (ws := wsRX12_sayText) B.pre
  have hown : s.vm.findClass RX12 = some m.cls := findClass_of_methodNamed B.named
  have hlocks := B.notSynchronized
  subst hsz
  have hD := hD0.self (sz := s.heap.size)
  generalize hAe : va_A (WR a k h0 vi vj vF vG) s.heap.size = A at hD hE ⊢
  have hA : ∀ q : Nat, s.heap.size ≤ q → A q := fun q h => by rw [← hAe]; exact Or.inr h
  have hS : va_S A s.heap s.heap [] := va_S.rf
  have hl := lv_entry ([.ref h0, .int (nI bn), .int (nI en)]) (n := 4) (Nat.le_of_ble_eq_true rfl)
  rw [lg_entry_eq]
  generalize (lg_sl ([.ref h0, .int (nI bn), .int (nI en)]) ++ List.replicate (4 - (lg_sl ([.ref h0, .int (nI bn), .int (nI en)])).length) Slot.unset).toArray = ls at hl ⊢
  have hl : lv_has ls 4 [(0, .ref h0), (1, .int (nI bn)), (2, .int (nI en))] := hl
  refine lv_iload_n hx hb dX12_sayText_0 rfl (lv_at hl 1 rfl) ?_
  refine lv_istore_n hx hb dX12_sayText_1 rfl hl (by decide) rfl (fun ls (hl : lv_has ls _ ([(3, .int (nI bn)), (0, .ref h0), (1, .int (nI bn)), (2, .int (nI en))])) => ?_)
  have e9 : fT vi 125 (nI pn) = vi := by funext q9; by_cases h9_125 : q9 = 125; (subst h9_125; exact (fT_eq _ _ _).trans (Eq.trans (by first | with_reducible rfl | with_reducible assumption | (symm; with_reducible assumption) | rfl | assumption | (symm; assumption) | (subst_vars; rfl)) (Eq.refl _).symm)); exact (fT_ne _ _ h9_125).trans (Eq.refl _).symm
  have hP := wr_Pi e9 hP
  have hD := wr_Di e9 hD
  clear e9
  have e9 : fT vF 75 (vF 75) = vF := by funext q9; by_cases h9_75 : q9 = 75; (subst h9_75; exact (fT_eq _ _ _).trans (Eq.trans (by first | with_reducible rfl | with_reducible assumption | (symm; with_reducible assumption) | rfl | assumption | (symm; assumption) | (subst_vars; rfl)) (Eq.refl _).symm)); exact (fT_ne _ _ h9_75).trans (Eq.refl _).symm
  have hP := wr_PF e9 hP
  have hD := wr_DF e9 hD
  clear e9
  have hl : lv_has _ _ ([(0, .ref h0), (1, .int (nI bn)), (2, .int (nI en)), (3, .int (nI bn))]) := lv_sub hl [1, 2, 3, 0] rfl
  refine (fun (loop : ∀ (n9 : Nat) (k5 : Nat) (x1_i125 : Nat) (x1_F75 : Nat → Int32) (H : Heap) (locs : List Loc) (ls : Array Slot), (k5 ≤ 63) → (x1_i125 ≤ 30000) →  (63 < k5 + n9) → va_P (dC, dI) vwCl (WR a k h0 (fT vi 125 (nI x1_i125)) vj (fT vF 75 x1_F75) vG) H → va_D A (WR a k h0 (fT vi 125 (nI x1_i125)) vj (fT vF 75 x1_F75) vG) → va_S A s.heap H locs → lv_has ls 4 [(0, .ref h0), (1, .int (nI bn)), (2, .int (nI en)), (3, .int (nI k5))] → W p l e _ s m _ below meth c H locs 0 0 _ (F0 m 2 ls [])) => loop (64) bn pn (vF 75) _ _ _ (by omega) (by first | with_reducible assumption | omega | assumption) (by omega) hP hD hS hl) ?_
  intro n9
  induction n9 with
  | zero => intro k5 x1_i125 x1_F75 H locs ls hk5 hx1_i125 hf9; exact False.elim (by omega)
  | succ n9 ih2 =>
    intro k5 x1_i125 x1_F75 H locs ls hk5 hx1_i125 hf2 hP hD hS hl
    refine lv_iload_n hx hb dX12_sayText_2 rfl (lv_at hl 3 rfl) ?_
    refine lv_iload_n hx hb dX12_sayText_3 rfl (lv_at hl 2 rfl) ?_
    refine lv_icmp_ge (tgt := 21) hx hb dX12_sayText_4 (by decide) (fun c_4 => ?_) (fun c_4 => ?_)
    · have t_4 : ((k5 : Nat) : Int) ≥ ((en : Nat) : Int) := toI_ge c_4 (nI_toInt (by omega)) (nI_toInt (by omega))
      refine W.widen (k := 0) (n := 0) (by decide +kernel) (by decide +kernel) ?_
      exact W.vret hx hb hr (fun t9_ ht hW => ⟨⟨(x1_i125, x1_F75), rfl, by (try dsimp only); first | assumption | omega, by rw [ht]; exact hP, hD⟩, hS.F ht⟩) hS.2.2 dX12_sayText_21
    · have t_4 : ¬ ((k5 : Nat) : Int) ≥ ((en : Nat) : Int) := toI_nge c_4 (nI_toInt (by omega)) (nI_toInt (by omega))
      refine lv_aload_n hx hb dX12_sayText_7 rfl (lv_at hl 0 rfl) ?_
      refine lv_iload_n hx hb dX12_sayText_8 rfl (lv_at hl 3 rfl) ?_
      have hFc := noneFree hS hA
      refine va_calli (va_runS (As := [.int (nI k5)]) (rest := [.ref h0]) ⟨hx, hb, hml, hown, hts⟩ (r_X12_textLetter l dC dI k5 (by first | with_reducible assumption | decide | omega | rfl | assumption) H.size) (va_cwS 1 hts gwsRX12_sayText_0 rfl rfl rfl (by decide +kernel) ⟨by decide +kernel, by decide +kernel⟩) ⟨fun a U g mk q => by obtain ⟨q0, q1, qP, qK, qD, qE⟩ := q; exact ⟨q0, q1, qP, va_K.moved (u := U) (U := U.calling g mk a) (Vm.Alike.refl U.vm) qK, qD, qE.same rfl⟩, fun U hU9 hW => ⟨rfl, by rw [hU9], by rw [hU9]; exact nilP, va_K.moved hW.alike (hK.sub (tys' := []) [] rfl), nilD, by rw [hU9]; exact (((hE : StrA A s s.heap).kept hS.2.1).narrow (fun q h => hFc q h)).warm hW⟩⟩ rfl rfl hl.1 rfl (lv_room (Nat.le_of_ble_eq_true rfl)) dX12_sayText_9 (by decide +kernel)) hS (fun q _ h => hFc q h) hFc (fun r9 u t9_ H1 locs ht hvm hw9 hB9 hz1 hk1 hS => ?_)
      have hP := keepAll hP hk1
      clear hB9
      generalize H1 = H at hP hS ⊢
      have hP : va_P (dC, dI) vwCl (WR a k h0 (fT vi 125 (nI x1_i125)) vj (fT vF 75 x1_F75) vG) H := hP
      have hD := fz_sd hP (hD) rfl
      have hFc := allFree hD hS hA
      refine va_callv (va_runV (As := [.int r9]) (rest := []) ⟨hx, hb, hml, hown, hts⟩ (r_X12_say l dC dI a k h0 (fT vi 125 (nI x1_i125)) vj (fT vF 75 x1_F75) vG r9 x1_i125 rfl (by first | with_reducible assumption | decide | omega | rfl | assumption) H.size) (cwV 1 hts gwsRX12_sayText_1 rfl rfl rfl hd_yX12_say_RX12 (by decide +kernel)) (fz_pre (va_recv hK hP (ci := 12) (q0 := 0) rfl rfl) hP hK hD) rfl rfl hl.1 rfl (lv_room (Nat.le_of_ble_eq_true rfl)) dX12_sayText_12 (by decide +kernel)) hS (fun q _ h => hFc q h) hFc (fun u t9_ H locs ht hvm hw9 hB9 hz1 hk1 hS => ?_)
      revert u hw9 hB9
      refine fz_p2 ?_
      intro p212 f7512 hw9 hB9
      try dsimp only at hw9 hB9
      have e9i : fT vi 125 (nI p212) = fT (fT vi 125 (nI x1_i125)) 125 (nI p212) := (fT_sm _ _ _ _).symm
      have e9F : fT vF 75 f7512 = fT (fT vF 75 x1_F75) 75 f7512 := (fT_sm _ _ _ _).symm
      have hP := wr_PF e9F (wr_Pi e9i (fz_P ht hB9.1))
      have hD := wr_DF e9F (wr_Di e9i (hB9.2.weaken (fun _ q _ h => hFc q.1 h)))
      clear e9i e9F
      revert hw9
      refine fz_a3 ?_
      intro f12_0 f12_1 f12_2
      refine lv_iinc (v := (nI (k5 + 1))) hx hb dX12_sayText_15 hl (k := 3) rfl (nI_add k5 1) (by decide) rfl (fun ls (hl : lv_has ls _ ([(3, .int (nI (k5 + 1))), (0, .ref h0), (1, .int (nI bn)), (2, .int (nI en))])) => ?_)
      refine lv_goto (tgt := 2) hx hb dX12_sayText_18 (by decide) ?_
      have hl : lv_has _ _ ([(0, .ref h0), (1, .int (nI bn)), (2, .int (nI en)), (3, .int (nI (k5 + 1)))]) := lv_sub hl [1, 2, 3, 0] rfl
      exact ih2 (k5 + 1) p212 f7512 _ _ _ (by omega) (by first | with_reducible assumption | omega | assumption) (by omega) hP hD hS hl
theorem dX12_sayGoal_0 : decode cX12_sayGoal 0 = .ok (.aload_n 0, 1) := dk_42 (by decide +kernel)
theorem dX12_sayGoal_1 : decode cX12_sayGoal 1 = .ok (.aload_n 0, 1) := dk_42 (by decide +kernel)
theorem dX12_sayGoal_2 : decode cX12_sayGoal 2 = .ok (.getfield 218, 3) := dk_180 (by decide +kernel)
theorem dX12_sayGoal_5 : decode cX12_sayGoal 5 = .ok (.iload_n 1, 1) := dk_27 (by decide +kernel)
theorem dX12_sayGoal_6 : decode cX12_sayGoal 6 = .ok (.iaload, 1) := dk_46 (by decide +kernel)
theorem dX12_sayGoal_7 : decode cX12_sayGoal 7 = .ok (.iconst 1, 1) := dk_4 (by decide +kernel)
theorem dX12_sayGoal_8 : decode cX12_sayGoal 8 = .ok (.if_icmp .ne 8, 3) := dk_160 (by decide +kernel)
theorem dX12_sayGoal_11 : decode cX12_sayGoal 11 = .ok (.bipush 57, 2) := dk_16 (by decide +kernel)
theorem dX12_sayGoal_13 : decode cX12_sayGoal 13 = .ok (.goto 5, 3) := dk_167 (by decide +kernel)
theorem dX12_sayGoal_16 : decode cX12_sayGoal 16 = .ok (.bipush 53, 2) := dk_16 (by decide +kernel)
theorem dX12_sayGoal_18 : decode cX12_sayGoal 18 = .ok (.aload_n 0, 1) := dk_42 (by decide +kernel)
theorem dX12_sayGoal_19 : decode cX12_sayGoal 19 = .ok (.getfield 218, 3) := dk_180 (by decide +kernel)
theorem dX12_sayGoal_22 : decode cX12_sayGoal 22 = .ok (.iload_n 1, 1) := dk_27 (by decide +kernel)
theorem dX12_sayGoal_23 : decode cX12_sayGoal 23 = .ok (.iaload, 1) := dk_46 (by decide +kernel)
theorem dX12_sayGoal_24 : decode cX12_sayGoal 24 = .ok (.iconst 1, 1) := dk_4 (by decide +kernel)
theorem dX12_sayGoal_25 : decode cX12_sayGoal 25 = .ok (.if_icmp .ne 8, 3) := dk_160 (by decide +kernel)
theorem dX12_sayGoal_28 : decode cX12_sayGoal 28 = .ok (.bipush 61, 2) := dk_16 (by decide +kernel)
theorem dX12_sayGoal_30 : decode cX12_sayGoal 30 = .ok (.goto 5, 3) := dk_167 (by decide +kernel)
theorem dX12_sayGoal_33 : decode cX12_sayGoal 33 = .ok (.bipush 57, 2) := dk_16 (by decide +kernel)
theorem dX12_sayGoal_35 : decode cX12_sayGoal 35 = .ok (.invokevirtual 965, 3) := dk_182 (by decide +kernel)
theorem dX12_sayGoal_38 : decode cX12_sayGoal 38 = .ok (.iconst 0, 1) := dk_3 (by decide +kernel)
theorem dX12_sayGoal_39 : decode cX12_sayGoal 39 = .ok (.istore_n 2, 1) := dk_61 (by decide +kernel)
theorem dX12_sayGoal_40 : decode cX12_sayGoal 40 = .ok (.iconst 0, 1) := dk_3 (by decide +kernel)
theorem dX12_sayGoal_41 : decode cX12_sayGoal 41 = .ok (.istore_n 3, 1) := dk_62 (by decide +kernel)
theorem dX12_sayGoal_42 : decode cX12_sayGoal 42 = .ok (.iload_n 3, 1) := dk_29 (by decide +kernel)
theorem dX12_sayGoal_43 : decode cX12_sayGoal 43 = .ok (.aload_n 0, 1) := dk_42 (by decide +kernel)
theorem dX12_sayGoal_44 : decode cX12_sayGoal 44 = .ok (.getfield 774, 3) := dk_180 (by decide +kernel)
theorem dX12_sayGoal_47 : decode cX12_sayGoal 47 = .ok (.if_icmp .ge 55, 3) := dk_162 (by decide +kernel)
theorem dX12_sayGoal_50 : decode cX12_sayGoal 50 = .ok (.aload_n 0, 1) := dk_42 (by decide +kernel)
theorem dX12_sayGoal_51 : decode cX12_sayGoal 51 = .ok (.getfield 212, 3) := dk_180 (by decide +kernel)
theorem dX12_sayGoal_54 : decode cX12_sayGoal 54 = .ok (.bipush 9, 2) := dk_16 (by decide +kernel)
theorem dX12_sayGoal_56 : decode cX12_sayGoal 56 = .ok (.iload_n 1, 1) := dk_27 (by decide +kernel)
theorem dX12_sayGoal_57 : decode cX12_sayGoal 57 = .ok (.imul, 1) := dk_104 (by decide +kernel)
theorem dX12_sayGoal_58 : decode cX12_sayGoal 58 = .ok (.iconst 1, 1) := dk_4 (by decide +kernel)
theorem dX12_sayGoal_59 : decode cX12_sayGoal 59 = .ok (.iadd, 1) := dk_96 (by decide +kernel)
theorem dX12_sayGoal_60 : decode cX12_sayGoal 60 = .ok (.iload_n 3, 1) := dk_29 (by decide +kernel)
theorem dX12_sayGoal_61 : decode cX12_sayGoal 61 = .ok (.iadd, 1) := dk_96 (by decide +kernel)
theorem dX12_sayGoal_62 : decode cX12_sayGoal 62 = .ok (.iaload, 1) := dk_46 (by decide +kernel)
theorem dX12_sayGoal_63 : decode cX12_sayGoal 63 = .ok (.istore 4, 2) := dk_54 (by decide +kernel)
theorem dX12_sayGoal_65 : decode cX12_sayGoal 65 = .ok (.iload 4, 2) := dk_21 (by decide +kernel)
theorem dX12_sayGoal_67 : decode cX12_sayGoal 67 = .ok (.ifCond .ne 6, 3) := dk_154 (by decide +kernel)
theorem dX12_sayGoal_70 : decode cX12_sayGoal 70 = .ok (.goto 26, 3) := dk_167 (by decide +kernel)
theorem dX12_sayGoal_73 : decode cX12_sayGoal 73 = .ok (.aload_n 0, 1) := dk_42 (by decide +kernel)
theorem dX12_sayGoal_74 : decode cX12_sayGoal 74 = .ok (.iload 4, 2) := dk_21 (by decide +kernel)
theorem dX12_sayGoal_76 : decode cX12_sayGoal 76 = .ok (.aload_n 0, 1) := dk_42 (by decide +kernel)
theorem dX12_sayGoal_77 : decode cX12_sayGoal 77 = .ok (.getfield 215, 3) := dk_180 (by decide +kernel)
theorem dX12_sayGoal_80 : decode cX12_sayGoal 80 = .ok (.bipush 9, 2) := dk_16 (by decide +kernel)
theorem dX12_sayGoal_82 : decode cX12_sayGoal 82 = .ok (.iload_n 1, 1) := dk_27 (by decide +kernel)
theorem dX12_sayGoal_83 : decode cX12_sayGoal 83 = .ok (.imul, 1) := dk_104 (by decide +kernel)
theorem dX12_sayGoal_84 : decode cX12_sayGoal 84 = .ok (.iconst 1, 1) := dk_4 (by decide +kernel)
theorem dX12_sayGoal_85 : decode cX12_sayGoal 85 = .ok (.iadd, 1) := dk_96 (by decide +kernel)
theorem dX12_sayGoal_86 : decode cX12_sayGoal 86 = .ok (.iload_n 3, 1) := dk_29 (by decide +kernel)
theorem dX12_sayGoal_87 : decode cX12_sayGoal 87 = .ok (.iadd, 1) := dk_96 (by decide +kernel)
theorem dX12_sayGoal_88 : decode cX12_sayGoal 88 = .ok (.iaload, 1) := dk_46 (by decide +kernel)
theorem dX12_sayGoal_89 : decode cX12_sayGoal 89 = .ok (.iload_n 3, 1) := dk_29 (by decide +kernel)
theorem dX12_sayGoal_90 : decode cX12_sayGoal 90 = .ok (.iload_n 2, 1) := dk_28 (by decide +kernel)
theorem dX12_sayGoal_91 : decode cX12_sayGoal 91 = .ok (.invokevirtual 961, 3) := dk_182 (by decide +kernel)
theorem dX12_sayGoal_94 : decode cX12_sayGoal 94 = .ok (.iconst 1, 1) := dk_4 (by decide +kernel)
theorem dX12_sayGoal_95 : decode cX12_sayGoal 95 = .ok (.istore_n 2, 1) := dk_61 (by decide +kernel)
theorem dX12_sayGoal_96 : decode cX12_sayGoal 96 = .ok (.iinc 3 1, 3) := dk_132 (by decide +kernel)
theorem dX12_sayGoal_99 : decode cX12_sayGoal 99 = .ok (.goto (-57), 3) := dk_167 (by decide +kernel)
theorem dX12_sayGoal_102 : decode cX12_sayGoal 102 = .ok (.aload_n 0, 1) := dk_42 (by decide +kernel)
theorem dX12_sayGoal_103 : decode cX12_sayGoal 103 = .ok (.getfield 212, 3) := dk_180 (by decide +kernel)
theorem dX12_sayGoal_106 : decode cX12_sayGoal 106 = .ok (.bipush 9, 2) := dk_16 (by decide +kernel)
theorem dX12_sayGoal_108 : decode cX12_sayGoal 108 = .ok (.iload_n 1, 1) := dk_27 (by decide +kernel)
theorem dX12_sayGoal_109 : decode cX12_sayGoal 109 = .ok (.imul, 1) := dk_104 (by decide +kernel)
theorem dX12_sayGoal_110 : decode cX12_sayGoal 110 = .ok (.iaload, 1) := dk_46 (by decide +kernel)
theorem dX12_sayGoal_111 : decode cX12_sayGoal 111 = .ok (.ifCond .eq 30, 3) := dk_153 (by decide +kernel)
theorem dX12_sayGoal_114 : decode cX12_sayGoal 114 = .ok (.aload_n 0, 1) := dk_42 (by decide +kernel)
theorem dX12_sayGoal_115 : decode cX12_sayGoal 115 = .ok (.aload_n 0, 1) := dk_42 (by decide +kernel)
theorem dX12_sayGoal_116 : decode cX12_sayGoal 116 = .ok (.getfield 212, 3) := dk_180 (by decide +kernel)
theorem dX12_sayGoal_119 : decode cX12_sayGoal 119 = .ok (.bipush 9, 2) := dk_16 (by decide +kernel)
theorem dX12_sayGoal_121 : decode cX12_sayGoal 121 = .ok (.iload_n 1, 1) := dk_27 (by decide +kernel)
theorem dX12_sayGoal_122 : decode cX12_sayGoal 122 = .ok (.imul, 1) := dk_104 (by decide +kernel)
theorem dX12_sayGoal_123 : decode cX12_sayGoal 123 = .ok (.iaload, 1) := dk_46 (by decide +kernel)
theorem dX12_sayGoal_124 : decode cX12_sayGoal 124 = .ok (.aload_n 0, 1) := dk_42 (by decide +kernel)
theorem dX12_sayGoal_125 : decode cX12_sayGoal 125 = .ok (.getfield 215, 3) := dk_180 (by decide +kernel)
theorem dX12_sayGoal_128 : decode cX12_sayGoal 128 = .ok (.bipush 9, 2) := dk_16 (by decide +kernel)
theorem dX12_sayGoal_130 : decode cX12_sayGoal 130 = .ok (.iload_n 1, 1) := dk_27 (by decide +kernel)
theorem dX12_sayGoal_131 : decode cX12_sayGoal 131 = .ok (.imul, 1) := dk_104 (by decide +kernel)
theorem dX12_sayGoal_132 : decode cX12_sayGoal 132 = .ok (.iaload, 1) := dk_46 (by decide +kernel)
theorem dX12_sayGoal_133 : decode cX12_sayGoal 133 = .ok (.iconst (-1), 1) := dk_2 (by decide +kernel)
theorem dX12_sayGoal_134 : decode cX12_sayGoal 134 = .ok (.iload_n 2, 1) := dk_28 (by decide +kernel)
theorem dX12_sayGoal_135 : decode cX12_sayGoal 135 = .ok (.invokevirtual 961, 3) := dk_182 (by decide +kernel)
theorem dX12_sayGoal_138 : decode cX12_sayGoal 138 = .ok (.goto 13, 3) := dk_167 (by decide +kernel)
theorem dX12_sayGoal_141 : decode cX12_sayGoal 141 = .ok (.iload_n 2, 1) := dk_28 (by decide +kernel)
theorem dX12_sayGoal_142 : decode cX12_sayGoal 142 = .ok (.ifCond .ne 9, 3) := dk_154 (by decide +kernel)
theorem dX12_sayGoal_145 : decode cX12_sayGoal 145 = .ok (.aload_n 0, 1) := dk_42 (by decide +kernel)
theorem dX12_sayGoal_146 : decode cX12_sayGoal 146 = .ok (.bipush 48, 2) := dk_16 (by decide +kernel)
theorem dX12_sayGoal_148 : decode cX12_sayGoal 148 = .ok (.invokevirtual 936, 3) := dk_182 (by decide +kernel)
theorem dX12_sayGoal_151 : decode cX12_sayGoal 151 = .ok (.return_, 1) := dk_177 (by decide +kernel)
def wsRX12_sayGoal : List Cond := .code yX12_sayGoal cX12_sayGoal 5 none :: ([.fieldLink RX12 218 "OptimaWorksModel" "goalMax" "[I", .fieldLink RX12 774 "OptimaWorksModel" "variables" "I", .fieldLink RX12 212 "OptimaWorksModel" "goalTop" "[I", .fieldLink RX12 215 "OptimaWorksModel" "goalUnder" "[I"] ++ wsX120 ++ (wsV RX12 965 RX12 yX12_sayText wsRX12_sayText) ++ (wsV RX12 936 RX12 yX12_say wsRX12_say) ++ (wsV RX12 961 RX12 yX12_sayTerm wsRX12_sayTerm))
theorem iwsRX12_sayGoal_in12 : ∀ w ∈ wsX120, w ∈ wsRX12_sayGoal := fun _ h => List.mem_cons_of_mem _ (List.mem_append_left _ (List.mem_append_left _ (List.mem_append_left _ (List.mem_append_right _ h))))
theorem gwsRX12_sayGoal_0 : GoodIn wsRX12_sayGoal (wsV RX12 965 RX12 yX12_sayText wsRX12_sayText) := goodIn_sub (fun _ h => List.mem_cons_of_mem _ (List.mem_append_left _ (List.mem_append_left _ (List.mem_append_right _ h)))) (gdV (by decide +kernel) gdwsRX12_sayText)
theorem gwsRX12_sayGoal_1 : GoodIn wsRX12_sayGoal (wsV RX12 936 RX12 yX12_say wsRX12_say) := goodIn_sub (fun _ h => List.mem_cons_of_mem _ (List.mem_append_left _ (List.mem_append_right _ h))) (gdV (by decide +kernel) gdwsRX12_say)
theorem gwsRX12_sayGoal_2 : GoodIn wsRX12_sayGoal (wsV RX12 961 RX12 yX12_sayTerm wsRX12_sayTerm) := goodIn_sub (fun _ h => List.mem_cons_of_mem _ (List.mem_append_right _ h)) (gdV (by decide +kernel) gdwsRX12_sayTerm)
theorem gdwsRX12_sayGoal : wsRX12_sayGoal.all goodWord = true := gdC rfl (gdA (gdA (gdA (gdA (by decide +kernel : ([.fieldLink RX12 218 "OptimaWorksModel" "goalMax" "[I", .fieldLink RX12 774 "OptimaWorksModel" "variables" "I", .fieldLink RX12 212 "OptimaWorksModel" "goalTop" "[I", .fieldLink RX12 215 "OptimaWorksModel" "goalUnder" "[I"] : List Cond).all goodWord = true) gdwsX120) (gdV (by decide +kernel) gdwsRX12_sayText)) (gdV (by decide +kernel) gdwsRX12_say)) (gdV (by decide +kernel) gdwsRX12_sayTerm))
theorem hm_r_X12_sayGoal_0 : (.fieldLink RX12 218 "OptimaWorksModel" "goalMax" "[I" : Cond) ∈ wsRX12_sayGoal := by decide +kernel
theorem hm_r_X12_sayGoal_1 : (.fieldLink RX12 212 "OptimaWorksModel" "goalTop" "[I" : Cond) ∈ wsRX12_sayGoal := by decide +kernel
theorem hm_r_X12_sayGoal_2 : (.fieldLink RX12 215 "OptimaWorksModel" "goalUnder" "[I" : Cond) ∈ wsRX12_sayGoal := by decide +kernel
set_option maxHeartbeats 4000000 in
set_option maxRecDepth 100000 in
/-- sayGoal(g) -/
theorem r_X12_sayGoal (l : Launch) (dC : Nat → ClassId) (dI : Nat → Nat → Nat) (a : Nat → Nat) (k : Nat → ClassId) (h0 : Nat) (vi : Nat → Int32) (vj : Nat → Int64) (vF : Nat → Nat → Int32) (vG : Nat → Nat → Int64) (gn : Nat) (vn : Nat) (gq : Nat) (pn : Nat) (hpn : vi 125 = nI pn) (hpn2 : pn ≤ 30000) (hvn : vi 90 = nI vn) (hvn8 : vn ≤ 8) (hgq : gq ≤ 3) (hM : MdlB vF gq) (hgn : gn < gq) (sz : Nat) : Met l yX12_sayGoal wsRX12_sayGoal ({ frames := 6, cells := 0, slots := 0, locals := 128 }) (va_Pc [.ref h0, .int (nI gn)] (fun U => U.heap.size = sz ∧ va_P (dC, dI) vwCl (WR a k h0 vi vj vF vG) U.heap ∧ va_K (dC, dI) vwCl (tX12 k) U ∧ va_D (fun _ => True) (WR a k h0 vi vj vF vG) ∧ StrA (va_A (WR a k h0 vi vj vF vG) sz) U U.heap)) (va_Qv (fun (u : (Nat) × (Nat → Int32)) => ((u.1) ≤ 30000)) (fun (u : (Nat) × (Nat → Int32)) t => va_P (dC, dI) vwCl (WR a k h0 (fT vi 125 (nI (u.1))) vj (fT vF 75 (u.2)) vG) t.heap ∧ va_D (va_A (WR a k h0 vi vj vF vG) sz) (WR a k h0 (fT vi 125 (nI (u.1))) vj (fT vF 75 (u.2)) vG)) (va_A (WR a k h0 vi vj vF vG) sz)) 0 0 (va_A (WR a k h0 vi vj vF vG) sz) := by
  refine Met.ofW (cc := cX12_sayGoal) (maxL := 5) (ret := none) (by decide) rfl ?_
  intro p e s m args below meth c s₁ B hml hv
  obtain ⟨rfl, hsz, hP, hK, hD0, hE⟩ := hv
  have hx := B.exec
  have hb := B.bytes
  have hr := B.returns
  have hts := atoms_spec (ws := wsRX12_sayGoal) B.pre
  have hown : s.vm.findClass RX12 = some m.cls := findClass_of_methodNamed B.named
  have hlocks := B.notSynchronized
  subst hsz
  have hD := hD0.self (sz := s.heap.size)
  generalize hAe : va_A (WR a k h0 vi vj vF vG) s.heap.size = A at hD hE ⊢
  have hA : ∀ q : Nat, s.heap.size ≤ q → A q := fun q h => by rw [← hAe]; exact Or.inr h
  have hS : va_S A s.heap s.heap [] := va_S.rf
  have hl := lv_entry ([.ref h0, .int (nI gn)]) (n := 5) (Nat.le_of_ble_eq_true rfl)
  rw [lg_entry_eq]
  generalize (lg_sl ([.ref h0, .int (nI gn)]) ++ List.replicate (5 - (lg_sl ([.ref h0, .int (nI gn)])).length) Slot.unset).toArray = ls at hl ⊢
  have hl : lv_has ls 5 [(0, .ref h0), (1, .int (nI gn))] := hl
  refine lv_aload_n hx hb dX12_sayGoal_0 rfl (lv_at hl 0 rfl) ?_
  refine lv_aload_n hx hb dX12_sayGoal_1 rfl (lv_at hl 0 rfl) ?_
  refine va_get (D := (dC, dI)) (ci := 12) (v := .ref (a 65)) (C := RX12) (T := TX12) (N := 163) (fs := fM (vS a vi vj)) hx hb hts iwsRX12_sayGoal_in12 hown hK hP 0 rfl rfl 105 (by decide) (hts _ hm_r_X12_sayGoal_0) (fun _ h9 => h9) rfl dX12_sayGoal_2 ?_
  refine lv_iload_n hx hb dX12_sayGoal_5 rfl (lv_at hl 1 rfl) ?_
  refine va_iald (cA := k 65) (n := 3) (f := (vF 65)) hx hb hK hP 66 65 (WR_get 65 (by decide)) (TR_get 65 (by decide)) (vp_in_nI (show gn < 3 by omega) (by omega)) dX12_sayGoal_6 ?_
  refine lv_topi (fun y1 hy1 => ?_)
  obtain rfl : ((vF 65) gn) = y1 := (hy1.trans (by rw [nI_clamp (by omega)])).symm
  refine lv_iconst (v := 1) hx hb dX12_sayGoal_7 (by decide) ?_
  refine W.cut (pc := 35) (fun H locs ls stk => ∃ (e9 : Nat) (b9 : Nat), (e9 ≤ 63 ∧ b9 ≤ 63) ∧  stk = [.int (nI e9), .int (nI b9), .ref h0] ∧ va_P (dC, dI) vwCl (WR a k h0 vi vj vF vG) H ∧ va_D A (WR a k h0 vi vj vF vG) ∧ va_S A s.heap H locs ∧ lv_has ls 5 [(0, .ref h0), (1, .int (nI gn))]) (fun join1 => ?_) ?_
  · refine lv_icmp_ne (tgt := 16) hx hb dX12_sayGoal_8 (by decide) (fun c_8 => ?_) (fun c_8 => ?_)
    · have t_8 : (((vF 65) gn)).toInt ≠ 1 := toI_ne c_8 rfl (by decide)
      refine lv_bipush (v := 53) hx hb dX12_sayGoal_16 (by decide) ?_
      refine lv_aload_n hx hb dX12_sayGoal_18 rfl (lv_at hl 0 rfl) ?_
      refine va_get (D := (dC, dI)) (ci := 12) (v := .ref (a 65)) (C := RX12) (T := TX12) (N := 163) (fs := fM (vS a vi vj)) hx hb hts iwsRX12_sayGoal_in12 hown hK hP 0 rfl rfl 105 (by decide) (hts _ hm_r_X12_sayGoal_0) (fun _ h9 => h9) rfl dX12_sayGoal_19 ?_
      refine lv_iload_n hx hb dX12_sayGoal_22 rfl (lv_at hl 1 rfl) ?_
      refine va_iald (cA := k 65) (n := 3) (f := (vF 65)) hx hb hK hP 66 65 (WR_get 65 (by decide)) (TR_get 65 (by decide)) (vp_in_nI (show gn < 3 by omega) (by omega)) dX12_sayGoal_23 ?_
      refine lv_topi (fun y2 hy2 => ?_)
      obtain rfl : ((vF 65) gn) = y2 := (hy2.trans (by rw [nI_clamp (by omega)])).symm
      refine lv_iconst (v := 1) hx hb dX12_sayGoal_24 (by decide) ?_
      refine lv_icmp_ne (tgt := 33) hx hb dX12_sayGoal_25 (by decide) (fun c_25 => ?_) (fun c_25 => ?_)
      · have t_25 : (((vF 65) gn)).toInt ≠ 1 := toI_ne c_25 rfl (by decide)
        refine lv_bipush (v := 57) hx hb dX12_sayGoal_33 (by decide) ?_
        have hl : lv_has _ _ ([(0, .ref h0), (1, .int (nI gn))]) := lv_sub hl [0, 1] rfl
        exact join1 _ _ _ _ ⟨57, 53, by omega, rfl, hP, hD, hS, hl⟩
      · have t_25 : (((vF 65) gn)).toInt = 1 := toI_nne c_25 rfl (by decide)
        refine lv_bipush (v := 61) hx hb dX12_sayGoal_28 (by decide) ?_
        refine lv_goto (tgt := 35) hx hb dX12_sayGoal_30 (by decide) ?_
        have hl : lv_has _ _ ([(0, .ref h0), (1, .int (nI gn))]) := lv_sub hl [0, 1] rfl
        exact join1 _ _ _ _ ⟨61, 53, by omega, rfl, hP, hD, hS, hl⟩
    · have t_8 : (((vF 65) gn)).toInt = 1 := toI_nne c_8 rfl (by decide)
      refine lv_bipush (v := 57) hx hb dX12_sayGoal_11 (by decide) ?_
      refine lv_goto (tgt := 18) hx hb dX12_sayGoal_13 (by decide) ?_
      refine lv_aload_n hx hb dX12_sayGoal_18 rfl (lv_at hl 0 rfl) ?_
      refine va_get (D := (dC, dI)) (ci := 12) (v := .ref (a 65)) (C := RX12) (T := TX12) (N := 163) (fs := fM (vS a vi vj)) hx hb hts iwsRX12_sayGoal_in12 hown hK hP 0 rfl rfl 105 (by decide) (hts _ hm_r_X12_sayGoal_0) (fun _ h9 => h9) rfl dX12_sayGoal_19 ?_
      refine lv_iload_n hx hb dX12_sayGoal_22 rfl (lv_at hl 1 rfl) ?_
      refine va_iald (cA := k 65) (n := 3) (f := (vF 65)) hx hb hK hP 66 65 (WR_get 65 (by decide)) (TR_get 65 (by decide)) (vp_in_nI (show gn < 3 by omega) (by omega)) dX12_sayGoal_23 ?_
      refine lv_topi (fun y3 hy3 => ?_)
      obtain rfl : ((vF 65) gn) = y3 := (hy3.trans (by rw [nI_clamp (by omega)])).symm
      refine lv_iconst (v := 1) hx hb dX12_sayGoal_24 (by decide) ?_
      refine lv_icmp_ne (tgt := 33) hx hb dX12_sayGoal_25 (by decide) (fun c_25 => ?_) (fun c_25 => ?_)
      · have t_25 : (((vF 65) gn)).toInt ≠ 1 := toI_ne c_25 rfl (by decide)
        refine lv_bipush (v := 57) hx hb dX12_sayGoal_33 (by decide) ?_
        have hl : lv_has _ _ ([(0, .ref h0), (1, .int (nI gn))]) := lv_sub hl [0, 1] rfl
        exact join1 _ _ _ _ ⟨57, 57, by omega, rfl, hP, hD, hS, hl⟩
      · have t_25 : (((vF 65) gn)).toInt = 1 := toI_nne c_25 rfl (by decide)
        refine lv_bipush (v := 61) hx hb dX12_sayGoal_28 (by decide) ?_
        refine lv_goto (tgt := 35) hx hb dX12_sayGoal_30 (by decide) ?_
        have hl : lv_has _ _ ([(0, .ref h0), (1, .int (nI gn))]) := lv_sub hl [0, 1] rfl
        exact join1 _ _ _ _ ⟨61, 57, by omega, rfl, hP, hD, hS, hl⟩
  · rintro H locs ls stk ⟨e9, b9, he9, rfl, hP, hD, hS, hl⟩
    have hFc := allFree hD hS hA
    refine va_callv (va_runV (As := [.int (nI b9), .int (nI e9)]) (rest := []) ⟨hx, hb, hml, hown, hts⟩ (r_X12_sayText l dC dI a k h0 vi vj vF vG b9 e9 pn hpn (by first | with_reducible assumption | decide | omega | rfl | assumption) (by first | with_reducible assumption | decide | omega | rfl | assumption) (by first | with_reducible assumption | decide | omega | rfl | assumption) H.size) (cwV 2 hts gwsRX12_sayGoal_0 rfl rfl rfl hd_yX12_sayText_RX12 (by decide +kernel)) (fz_preE (va_recv hK hP (ci := 12) (q0 := 0) rfl rfl) hP hK hD (fun a U g mk qE => qE.same rfl) (fun U hU9 hW => by rw [hU9]; exact (((hE : StrA A s s.heap).kept hS.2.1).narrow (fun q h => hFc q h)).warm hW)) rfl rfl hl.1 rfl (lv_room (Nat.le_of_ble_eq_true rfl)) dX12_sayGoal_35 (by decide +kernel)) hS (fun q _ h => hFc q h) hFc (fun u t9_ H locs ht hvm hw9 hB9 hz1 hk1 hS => ?_)
    revert u hw9 hB9
    refine fz_p2 ?_
    intro p235 f7535 hw9 hB9
    try dsimp only at hw9 hB9
    have hP : va_P (dC, dI) vwCl (WR a k h0 (fT vi 125 (nI p235)) vj (fT vF 75 f7535) vG) H := fz_P ht hB9.1
    have hD := fz_sd hP (hB9.2.weaken (fun _ q _ h => hFc q.1 h)) rfl
    have f35_0 := hw9
    try dsimp only at f35_0
    refine lv_iconst (v := 0) hx hb dX12_sayGoal_38 (by decide) ?_
    refine lv_istore_n hx hb dX12_sayGoal_39 rfl hl (by decide) rfl (fun ls (hl : lv_has ls _ ([(2, .int 0), (0, .ref h0), (1, .int (nI gn))])) => ?_)
    refine lv_iconst (v := 0) hx hb dX12_sayGoal_40 (by decide) ?_
    refine lv_istore_n hx hb dX12_sayGoal_41 rfl hl (by decide) rfl (fun ls (hl : lv_has ls _ ([(3, .int 0), (2, .int 0), (0, .ref h0), (1, .int (nI gn))])) => ?_)
    have hl : lv_has _ _ ([(0, .ref h0), (1, .int (nI gn)), (2, .int 0), (3, .int (nI 0))]) := lv_sub hl [2, 3, 1, 0] rfl
    refine (fun (loop : ∀ (n9 : Nat) (k5 : Nat) (so : Int32) (x2_i125 : Nat) (x2_F75 : Nat → Int32) (H : Heap) (locs : List Loc) (ls : Array Slot), (k5 ≤ vn) → (x2_i125 ≤ 30000) →  (vn < k5 + n9) → va_P (dC, dI) vwCl (WR a k h0 (fT vi 125 (nI x2_i125)) vj (fT vF 75 x2_F75) vG) H → va_D A (WR a k h0 (fT vi 125 (nI x2_i125)) vj (fT vF 75 x2_F75) vG) → va_S A s.heap H locs → lv_has ls 5 [(0, .ref h0), (1, .int (nI gn)), (2, .int so), (3, .int (nI k5))] → W p l e _ s m _ below meth c H locs 0 0 _ (F0 m 42 ls [])) => loop (vn + 1) 0 0 p235 f7535 _ _ _ (by omega) (by first | with_reducible assumption | omega | assumption) (by omega) hP hD hS hl) ?_
    intro n9
    induction n9 with
    | zero => intro k5 so x2_i125 x2_F75 H locs ls hk5 hx2_i125 hf9; exact False.elim (by omega)
    | succ n9 ih42 =>
      intro k5 so x2_i125 x2_F75 H locs ls hk5 hx2_i125 hf42 hP hD hS hl
      refine lv_iload_n hx hb dX12_sayGoal_42 rfl (lv_at hl 3 rfl) ?_
      refine lv_aload_n hx hb dX12_sayGoal_43 rfl (lv_at hl 0 rfl) ?_
      refine va_get (D := (dC, dI)) (ci := 12) (v := .int (vi 90)) (C := RX12) (T := TX12) (N := 163) (fs := fM (vS a (fT vi 125 (nI x2_i125)) vj)) hx hb hts iwsRX12_sayGoal_in12 hown hK hP 0 rfl rfl 90 (by decide) (hts (.fieldLink RX12 774 "OptimaWorksModel" "variables" "I") (by decide +kernel)) (fun _ h9 => h9) rfl dX12_sayGoal_44 ?_
      refine lv_topi (fun y4 hy4 => ?_)
      obtain rfl : (nI vn) = y4 := (hy4.trans (hvn)).symm
      refine lv_icmp_ge (tgt := 102) hx hb dX12_sayGoal_47 (by decide) (fun c_47 => ?_) (fun c_47 => ?_)
      · have t_47 : ((k5 : Nat) : Int) ≥ ((vn : Nat) : Int) := toI_ge c_47 (nI_toInt (by omega)) (nI_toInt (by omega))
        refine lv_aload_n hx hb dX12_sayGoal_102 rfl (lv_at hl 0 rfl) ?_
        refine va_get (D := (dC, dI)) (ci := 12) (v := .ref (a 63)) (C := RX12) (T := TX12) (N := 163) (fs := fM (vS a (fT vi 125 (nI x2_i125)) vj)) hx hb hts iwsRX12_sayGoal_in12 hown hK hP 0 rfl rfl 103 (by decide) (hts _ hm_r_X12_sayGoal_1) (fun _ h9 => h9) rfl dX12_sayGoal_103 ?_
        refine lv_bipush (v := 9) hx hb dX12_sayGoal_106 (by decide) ?_
        refine lv_iload_n hx hb dX12_sayGoal_108 rfl (lv_at hl 1 rfl) ?_
        refine lv_imul hx hb dX12_sayGoal_109 ?_
        refine lv_topi (fun y5 hy5 => ?_)
        obtain rfl : (nI (9 * gn)) = y5 := (hy5.trans (pk_mul 9 gn)).symm
        refine va_iald (cA := k 63) (n := 27) (f := (vF 63)) hx hb hK hP 64 63 (WR_get 63 (by decide)) (TR_get 63 (by decide)) (vp_in_nI (show (9 * gn) < 27 by omega) (by omega)) dX12_sayGoal_110 ?_
        refine lv_topi (fun y6 hy6 => ?_)
        obtain rfl : ((vF 63) (9 * gn)) = y6 := (hy6.trans (by rw [nI_clamp (by omega)])).symm
        refine lv_if_eq (tgt := 141) hx hb dX12_sayGoal_111 (by decide) (fun c_111 => ?_) (fun c_111 => ?_)
        · have t_111 : (((vF 63) (9 * gn))).toInt = 0 := toI_eq c_111 rfl (by decide)
          refine lv_iload_n hx hb dX12_sayGoal_141 rfl (lv_at hl 2 rfl) ?_
          refine lv_if_ne (tgt := 151) hx hb dX12_sayGoal_142 (by decide) (fun c_142 => ?_) (fun c_142 => ?_)
          · have t_142 : (so).toInt ≠ 0 := toI_ne c_142 rfl (by decide)
            refine W.widen (k := 0) (n := 0) (by decide +kernel) (by decide +kernel) ?_
            exact W.vret hx hb hr (fun t9_ ht hW => ⟨⟨(x2_i125, x2_F75), rfl, by (try dsimp only); first | assumption | omega, by rw [ht]; exact hP, hD⟩, hS.F ht⟩) hS.2.2 dX12_sayGoal_151
          · have t_142 : (so).toInt = 0 := toI_nne c_142 rfl (by decide)
            refine lv_aload_n hx hb dX12_sayGoal_145 rfl (lv_at hl 0 rfl) ?_
            refine lv_bipush (v := 48) hx hb dX12_sayGoal_146 (by decide) ?_
            have hFc := allFree hD hS hA
            refine va_callv (va_runV (As := [.int 48]) (rest := []) ⟨hx, hb, hml, hown, hts⟩ (r_X12_say l dC dI a k h0 (fT vi 125 (nI x2_i125)) vj (fT vF 75 x2_F75) vG 48 x2_i125 rfl (by first | with_reducible assumption | decide | omega | rfl | assumption) H.size) (cwV 1 hts gwsRX12_sayGoal_1 rfl rfl rfl hd_yX12_say_RX12 (by decide +kernel)) (fz_pre (va_recv hK hP (ci := 12) (q0 := 0) rfl rfl) hP hK hD) rfl rfl hl.1 rfl (lv_room (Nat.le_of_ble_eq_true rfl)) dX12_sayGoal_148 (by decide +kernel)) hS (fun q _ h => hFc q h) hFc (fun u t9_ H locs ht hvm hw9 hB9 hz1 hk1 hS => ?_)
            revert u hw9 hB9
            refine fz_p2 ?_
            intro p2148 f75148 hw9 hB9
            try dsimp only at hw9 hB9
            have e9i : fT vi 125 (nI p2148) = fT (fT vi 125 (nI x2_i125)) 125 (nI p2148) := (fT_sm _ _ _ _).symm
            have e9F : fT vF 75 f75148 = fT (fT vF 75 x2_F75) 75 f75148 := (fT_sm _ _ _ _).symm
            have hP := wr_PF e9F (wr_Pi e9i (fz_P ht hB9.1))
            have hD := wr_DF e9F (wr_Di e9i (hB9.2.weaken (fun _ q _ h => hFc q.1 h)))
            clear e9i e9F
            revert hw9
            refine fz_a3 ?_
            intro f148_0 f148_1 f148_2
            refine W.widen (k := 0) (n := 0) (by decide +kernel) (by decide +kernel) ?_
            exact W.vret hx hb hr (fun t9_ ht hW => ⟨⟨(p2148, f75148), rfl, by (try dsimp only); first | assumption | omega, by rw [ht]; exact hP, hD⟩, hS.F ht⟩) hS.2.2 dX12_sayGoal_151
        · have t_111 : ¬ (((vF 63) (9 * gn))).toInt = 0 := toI_neq c_111 rfl (by decide)
          have bt := hM.top hgn (k := 0) (by omega)
          have bu := hM.under hgn (k := 0) (by omega)
          rw [if_pos rfl] at bt bu
          simp only [Nat.add_zero] at bt bu
          refine lv_aload_n hx hb dX12_sayGoal_114 rfl (lv_at hl 0 rfl) ?_
          refine lv_aload_n hx hb dX12_sayGoal_115 rfl (lv_at hl 0 rfl) ?_
          refine va_get (D := (dC, dI)) (ci := 12) (v := .ref (a 63)) (C := RX12) (T := TX12) (N := 163) (fs := fM (vS a (fT vi 125 (nI x2_i125)) vj)) hx hb hts iwsRX12_sayGoal_in12 hown hK hP 0 rfl rfl 103 (by decide) (hts _ hm_r_X12_sayGoal_1) (fun _ h9 => h9) rfl dX12_sayGoal_116 ?_
          refine lv_bipush (v := 9) hx hb dX12_sayGoal_119 (by decide) ?_
          refine lv_iload_n hx hb dX12_sayGoal_121 rfl (lv_at hl 1 rfl) ?_
          refine lv_imul hx hb dX12_sayGoal_122 ?_
          refine lv_topi (fun y7 hy7 => ?_)
          obtain rfl : (nI (9 * gn)) = y7 := (hy7.trans (pk_mul 9 gn)).symm
          refine va_iald (cA := k 63) (n := 27) (f := (vF 63)) hx hb hK hP 64 63 (WR_get 63 (by decide)) (TR_get 63 (by decide)) (vp_in_nI (show (9 * gn) < 27 by omega) (by omega)) dX12_sayGoal_123 ?_
          refine lv_topi (fun y8 hy8 => ?_)
          obtain rfl : ((vF 63) (9 * gn)) = y8 := (hy8.trans (by rw [nI_clamp (by omega)])).symm
          refine lv_aload_n hx hb dX12_sayGoal_124 rfl (lv_at hl 0 rfl) ?_
          refine va_get (D := (dC, dI)) (ci := 12) (v := .ref (a 64)) (C := RX12) (T := TX12) (N := 163) (fs := fM (vS a (fT vi 125 (nI x2_i125)) vj)) hx hb hts iwsRX12_sayGoal_in12 hown hK hP 0 rfl rfl 104 (by decide) (hts _ hm_r_X12_sayGoal_2) (fun _ h9 => h9) rfl dX12_sayGoal_125 ?_
          refine lv_bipush (v := 9) hx hb dX12_sayGoal_128 (by decide) ?_
          refine lv_iload_n hx hb dX12_sayGoal_130 rfl (lv_at hl 1 rfl) ?_
          refine lv_imul hx hb dX12_sayGoal_131 ?_
          refine lv_topi (fun y9 hy9 => ?_)
          obtain rfl : (nI (9 * gn)) = y9 := (hy9.trans (pk_mul 9 gn)).symm
          refine va_iald (cA := k 64) (n := 27) (f := (vF 64)) hx hb hK hP 65 64 (WR_get 64 (by decide)) (TR_get 64 (by decide)) (vp_in_nI (show (9 * gn) < 27 by omega) (by omega)) dX12_sayGoal_132 ?_
          refine lv_topi (fun y10 hy10 => ?_)
          obtain rfl : ((vF 64) (9 * gn)) = y10 := (hy10.trans (by rw [nI_clamp (by omega)])).symm
          refine lv_iconst (v := (-1)) hx hb dX12_sayGoal_133 (by decide) ?_
          refine lv_iload_n hx hb dX12_sayGoal_134 rfl (lv_at hl 2 rfl) ?_
          have hFc := allFree hD hS hA
          refine va_callv (va_runV (As := [.int ((vF 63) (9 * gn)), .int ((vF 64) (9 * gn)), .int (-1), .int so]) (rest := []) ⟨hx, hb, hml, hown, hts⟩ (r_X12_sayTerm l dC dI a k h0 (fT vi 125 (nI x2_i125)) vj (fT vF 75 x2_F75) vG ((vF 63) (9 * gn)) ((vF 64) (9 * gn)) (-1) so x2_i125 rfl (by first | with_reducible assumption | decide | omega | rfl | assumption) (by omega) (by omega) (by decide) H.size) (cwV 4 hts gwsRX12_sayGoal_2 rfl rfl rfl hd_yX12_sayTerm_RX12 (by decide +kernel)) (fz_pre (va_recv hK hP (ci := 12) (q0 := 0) rfl rfl) hP hK hD) rfl rfl hl.1 rfl (lv_room (Nat.le_of_ble_eq_true rfl)) dX12_sayGoal_135 (by decide +kernel)) hS (fun q _ h => hFc q h) hFc (fun u t9_ H locs ht hvm hw9 hB9 hz1 hk1 hS => ?_)
          revert u hw9 hB9
          refine fz_p2 ?_
          intro p2135 f75135 hw9 hB9
          try dsimp only at hw9 hB9
          have e9i : fT vi 125 (nI p2135) = fT (fT vi 125 (nI x2_i125)) 125 (nI p2135) := (fT_sm _ _ _ _).symm
          have e9F : fT vF 75 f75135 = fT (fT vF 75 x2_F75) 75 f75135 := (fT_sm _ _ _ _).symm
          have hP := wr_PF e9F (wr_Pi e9i (fz_P ht hB9.1))
          have hD := wr_DF e9F (wr_Di e9i (hB9.2.weaken (fun _ q _ h => hFc q.1 h)))
          clear e9i e9F
          have f135_0 := hw9
          try dsimp only at f135_0
          refine lv_goto (tgt := 151) hx hb dX12_sayGoal_138 (by decide) ?_
          refine W.widen (k := 0) (n := 0) (by decide +kernel) (by decide +kernel) ?_
          exact W.vret hx hb hr (fun t9_ ht hW => ⟨⟨(p2135, f75135), rfl, by (try dsimp only); first | assumption | omega, by rw [ht]; exact hP, hD⟩, hS.F ht⟩) hS.2.2 dX12_sayGoal_151
      · have t_47 : ¬ ((k5 : Nat) : Int) ≥ ((vn : Nat) : Int) := toI_nge c_47 (nI_toInt (by omega)) (nI_toInt (by omega))
        refine lv_aload_n hx hb dX12_sayGoal_50 rfl (lv_at hl 0 rfl) ?_
        refine va_get (D := (dC, dI)) (ci := 12) (v := .ref (a 63)) (C := RX12) (T := TX12) (N := 163) (fs := fM (vS a (fT vi 125 (nI x2_i125)) vj)) hx hb hts iwsRX12_sayGoal_in12 hown hK hP 0 rfl rfl 103 (by decide) (hts _ hm_r_X12_sayGoal_1) (fun _ h9 => h9) rfl dX12_sayGoal_51 ?_
        refine lv_bipush (v := 9) hx hb dX12_sayGoal_54 (by decide) ?_
        refine lv_iload_n hx hb dX12_sayGoal_56 rfl (lv_at hl 1 rfl) ?_
        refine lv_imul hx hb dX12_sayGoal_57 ?_
        refine lv_topi (fun y11 hy11 => ?_)
        obtain rfl : (nI (9 * gn)) = y11 := (hy11.trans (pk_mul 9 gn)).symm
        refine lv_iconst (v := 1) hx hb dX12_sayGoal_58 (by decide) ?_
        refine lv_iadd hx hb dX12_sayGoal_59 ?_
        refine lv_topi (fun y12 hy12 => ?_)
        obtain rfl : (nI ((9 * gn) + 1)) = y12 := (hy12.trans (nI_add (9 * gn) 1)).symm
        refine lv_iload_n hx hb dX12_sayGoal_60 rfl (lv_at hl 3 rfl) ?_
        refine lv_iadd hx hb dX12_sayGoal_61 ?_
        refine lv_topi (fun y13 hy13 => ?_)
        obtain rfl : (nI (((9 * gn) + 1) + k5)) = y13 := (hy13.trans (nI_add ((9 * gn) + 1) k5)).symm
        refine va_iald (cA := k 63) (n := 27) (f := (vF 63)) hx hb hK hP 64 63 (WR_get 63 (by decide)) (TR_get 63 (by decide)) (vp_in_nI (show (((9 * gn) + 1) + k5) < 27 by omega) (by omega)) dX12_sayGoal_62 ?_
        refine lv_topi (fun y14 hy14 => ?_)
        obtain rfl : ((vF 63) (((9 * gn) + 1) + k5)) = y14 := (hy14.trans (by rw [nI_clamp (by omega)])).symm
        refine lv_istore hx hb dX12_sayGoal_63 hl (by decide) rfl (fun ls (hl : lv_has ls _ ([(4, .int ((vF 63) (((9 * gn) + 1) + k5))), (0, .ref h0), (1, .int (nI gn)), (2, .int so), (3, .int (nI k5))])) => ?_)
        refine lv_iload hx hb dX12_sayGoal_65 (lv_at hl 0 rfl) ?_
        refine lv_if_ne (tgt := 73) hx hb dX12_sayGoal_67 (by decide) (fun c_67 => ?_) (fun c_67 => ?_)
        · have t_67 : (((vF 63) (((9 * gn) + 1) + k5))).toInt ≠ 0 := toI_ne c_67 rfl (by decide)
          have bt := hM.top hgn (k := k5 + 1) (by omega)
          have bu := hM.under hgn (k := k5 + 1) (by omega)
          rw [if_neg (by omega)] at bt bu
          rw [show 9 * gn + (k5 + 1) = 9 * gn + 1 + k5 by omega] at bt bu
          refine lv_aload_n hx hb dX12_sayGoal_73 rfl (lv_at hl 1 rfl) ?_
          refine lv_iload hx hb dX12_sayGoal_74 (lv_at hl 0 rfl) ?_
          refine lv_aload_n hx hb dX12_sayGoal_76 rfl (lv_at hl 1 rfl) ?_
          refine va_get (D := (dC, dI)) (ci := 12) (v := .ref (a 64)) (C := RX12) (T := TX12) (N := 163) (fs := fM (vS a (fT vi 125 (nI x2_i125)) vj)) hx hb hts iwsRX12_sayGoal_in12 hown hK hP 0 rfl rfl 104 (by decide) (hts _ hm_r_X12_sayGoal_2) (fun _ h9 => h9) rfl dX12_sayGoal_77 ?_
          refine lv_bipush (v := 9) hx hb dX12_sayGoal_80 (by decide) ?_
          refine lv_iload_n hx hb dX12_sayGoal_82 rfl (lv_at hl 2 rfl) ?_
          refine lv_imul hx hb dX12_sayGoal_83 ?_
          refine lv_topi (fun y15 hy15 => ?_)
          obtain rfl : (nI (9 * gn)) = y15 := (hy15.trans (pk_mul 9 gn)).symm
          refine lv_iconst (v := 1) hx hb dX12_sayGoal_84 (by decide) ?_
          refine lv_iadd hx hb dX12_sayGoal_85 ?_
          refine lv_topi (fun y16 hy16 => ?_)
          obtain rfl : (nI ((9 * gn) + 1)) = y16 := (hy16.trans (nI_add (9 * gn) 1)).symm
          refine lv_iload_n hx hb dX12_sayGoal_86 rfl (lv_at hl 4 rfl) ?_
          refine lv_iadd hx hb dX12_sayGoal_87 ?_
          refine lv_topi (fun y17 hy17 => ?_)
          obtain rfl : (nI (((9 * gn) + 1) + k5)) = y17 := (hy17.trans (nI_add ((9 * gn) + 1) k5)).symm
          refine va_iald (cA := k 64) (n := 27) (f := (vF 64)) hx hb hK hP 65 64 (WR_get 64 (by decide)) (TR_get 64 (by decide)) (vp_in_nI (show (((9 * gn) + 1) + k5) < 27 by omega) (by omega)) dX12_sayGoal_88 ?_
          refine lv_topi (fun y18 hy18 => ?_)
          obtain rfl : ((vF 64) (((9 * gn) + 1) + k5)) = y18 := (hy18.trans (by rw [nI_clamp (by omega)])).symm
          refine lv_iload_n hx hb dX12_sayGoal_89 rfl (lv_at hl 4 rfl) ?_
          refine lv_iload_n hx hb dX12_sayGoal_90 rfl (lv_at hl 3 rfl) ?_
          have hFc := allFree hD hS hA
          refine va_callv (va_runV (As := [.int ((vF 63) (((9 * gn) + 1) + k5)), .int ((vF 64) (((9 * gn) + 1) + k5)), .int (nI k5), .int so]) (rest := []) ⟨hx, hb, hml, hown, hts⟩ (r_X12_sayTerm l dC dI a k h0 (fT vi 125 (nI x2_i125)) vj (fT vF 75 x2_F75) vG ((vF 63) (((9 * gn) + 1) + k5)) ((vF 64) (((9 * gn) + 1) + k5)) (nI k5) so x2_i125 rfl (by first | with_reducible assumption | decide | omega | rfl | assumption) (by omega) (by omega) (by (have e9 := nI_toInt (n := k5) (by omega)); rw [e9]; omega) H.size) (cwV 4 hts gwsRX12_sayGoal_2 rfl rfl rfl hd_yX12_sayTerm_RX12 (by decide +kernel)) (fz_pre (va_recv hK hP (ci := 12) (q0 := 0) rfl rfl) hP hK hD) rfl rfl hl.1 rfl (lv_room (Nat.le_of_ble_eq_true rfl)) dX12_sayGoal_91 (by decide +kernel)) hS (fun q _ h => hFc q h) hFc (fun u t9_ H locs ht hvm hw9 hB9 hz1 hk1 hS => ?_)
          revert u hw9 hB9
          refine fz_p2 ?_
          intro p291 f7591 hw9 hB9
          try dsimp only at hw9 hB9
          have e9i : fT vi 125 (nI p291) = fT (fT vi 125 (nI x2_i125)) 125 (nI p291) := (fT_sm _ _ _ _).symm
          have e9F : fT vF 75 f7591 = fT (fT vF 75 x2_F75) 75 f7591 := (fT_sm _ _ _ _).symm
          have hP := wr_PF e9F (wr_Pi e9i (fz_P ht hB9.1))
          have hD := wr_DF e9F (wr_Di e9i (hB9.2.weaken (fun _ q _ h => hFc q.1 h)))
          clear e9i e9F
          have f91_0 := hw9
          try dsimp only at f91_0
          refine lv_iconst (v := 1) hx hb dX12_sayGoal_94 (by decide) ?_
          refine lv_istore_n hx hb dX12_sayGoal_95 rfl hl (by decide) rfl (fun ls (hl : lv_has ls _ ([(2, .int 1), (4, .int ((vF 63) (((9 * gn) + 1) + k5))), (0, .ref h0), (1, .int (nI gn)), (3, .int (nI k5))])) => ?_)
          refine lv_iinc (v := (nI (k5 + 1))) hx hb dX12_sayGoal_96 hl (k := 4) rfl (nI_add k5 1) (by decide) rfl (fun ls (hl : lv_has ls _ ([(3, .int (nI (k5 + 1))), (2, .int 1), (4, .int ((vF 63) (((9 * gn) + 1) + k5))), (0, .ref h0), (1, .int (nI gn))])) => ?_)
          refine lv_goto (tgt := 42) hx hb dX12_sayGoal_99 (by decide) ?_
          have hl : lv_has _ _ ([(0, .ref h0), (1, .int (nI gn)), (2, .int 1), (3, .int (nI (k5 + 1)))]) := lv_sub hl [3, 4, 1, 0] rfl
          exact ih42 (k5 + 1) 1 p291 f7591 _ _ _ (by omega) (by first | with_reducible assumption | omega | assumption) (by omega) hP hD hS hl
        · have t_67 : (((vF 63) (((9 * gn) + 1) + k5))).toInt = 0 := toI_nne c_67 rfl (by decide)
          refine lv_goto (tgt := 96) hx hb dX12_sayGoal_70 (by decide) ?_
          refine lv_iinc (v := (nI (k5 + 1))) hx hb dX12_sayGoal_96 hl (k := 4) rfl (nI_add k5 1) (by decide) rfl (fun ls (hl : lv_has ls _ ([(3, .int (nI (k5 + 1))), (4, .int ((vF 63) (((9 * gn) + 1) + k5))), (0, .ref h0), (1, .int (nI gn)), (2, .int so)])) => ?_)
          refine lv_goto (tgt := 42) hx hb dX12_sayGoal_99 (by decide) ?_
          have hl : lv_has _ _ ([(0, .ref h0), (1, .int (nI gn)), (2, .int so), (3, .int (nI (k5 + 1)))]) := lv_sub hl [2, 3, 4, 0] rfl
          exact ih42 (k5 + 1) so x2_i125 x2_F75 _ _ _ (by omega) (by first | with_reducible assumption | omega | assumption) (by omega) hP hD hS hl
theorem dX12_write_0 : decode cX12_write 0 = .ok (.aload_n 0, 1) := dk_42 (by decide +kernel)
theorem dX12_write_1 : decode cX12_write 1 = .ok (.aload_n 0, 1) := dk_42 (by decide +kernel)
theorem dX12_write_2 : decode cX12_write 2 = .ok (.getfield 808, 3) := dk_180 (by decide +kernel)
theorem dX12_write_5 : decode cX12_write 5 = .ok (.ifCond .eq 7, 3) := dk_153 (by decide +kernel)
theorem dX12_write_8 : decode cX12_write 8 = .ok (.iconst 0, 1) := dk_3 (by decide +kernel)
theorem dX12_write_9 : decode cX12_write 9 = .ok (.goto 4, 3) := dk_167 (by decide +kernel)
theorem dX12_write_12 : decode cX12_write 12 = .ok (.iconst 1, 1) := dk_4 (by decide +kernel)
theorem dX12_write_13 : decode cX12_write 13 = .ok (.putfield 348, 3) := dk_181 (by decide +kernel)
theorem dX12_write_16 : decode cX12_write 16 = .ok (.aload_n 0, 1) := dk_42 (by decide +kernel)
theorem dX12_write_17 : decode cX12_write 17 = .ok (.getfield 348, 3) := dk_180 (by decide +kernel)
theorem dX12_write_20 : decode cX12_write 20 = .ok (.ifCond .le 5, 3) := dk_158 (by decide +kernel)
theorem dX12_write_23 : decode cX12_write 23 = .ok (.iconst 0, 1) := dk_3 (by decide +kernel)
theorem dX12_write_24 : decode cX12_write 24 = .ok (.ireturn, 1) := dk_172 (by decide +kernel)
theorem dX12_write_25 : decode cX12_write 25 = .ok (.aload_n 0, 1) := dk_42 (by decide +kernel)
theorem dX12_write_26 : decode cX12_write 26 = .ok (.iconst 0, 1) := dk_3 (by decide +kernel)
theorem dX12_write_27 : decode cX12_write 27 = .ok (.putfield 933, 3) := dk_181 (by decide +kernel)
theorem dX12_write_30 : decode cX12_write 30 = .ok (.iconst 0, 1) := dk_3 (by decide +kernel)
theorem dX12_write_31 : decode cX12_write 31 = .ok (.istore_n 1, 1) := dk_60 (by decide +kernel)
theorem dX12_write_32 : decode cX12_write 32 = .ok (.iload_n 1, 1) := dk_27 (by decide +kernel)
theorem dX12_write_33 : decode cX12_write 33 = .ok (.aload_n 0, 1) := dk_42 (by decide +kernel)
theorem dX12_write_34 : decode cX12_write 34 = .ok (.getfield 774, 3) := dk_180 (by decide +kernel)
theorem dX12_write_37 : decode cX12_write 37 = .ok (.if_icmp .ge 90, 3) := dk_162 (by decide +kernel)
theorem dX12_write_40 : decode cX12_write 40 = .ok (.aload_n 0, 1) := dk_42 (by decide +kernel)
theorem dX12_write_41 : decode cX12_write 41 = .ok (.iconst 0, 1) := dk_3 (by decide +kernel)
theorem dX12_write_42 : decode cX12_write 42 = .ok (.iconst 5, 1) := dk_8 (by decide +kernel)
theorem dX12_write_43 : decode cX12_write 43 = .ok (.invokevirtual 965, 3) := dk_182 (by decide +kernel)
theorem dX12_write_46 : decode cX12_write 46 = .ok (.aload_n 0, 1) := dk_42 (by decide +kernel)
theorem dX12_write_47 : decode cX12_write 47 = .ok (.iload_n 1, 1) := dk_27 (by decide +kernel)
theorem dX12_write_48 : decode cX12_write 48 = .ok (.invokevirtual 955, 3) := dk_182 (by decide +kernel)
theorem dX12_write_51 : decode cX12_write 51 = .ok (.aload_n 0, 1) := dk_42 (by decide +kernel)
theorem dX12_write_52 : decode cX12_write 52 = .ok (.bipush 32, 2) := dk_16 (by decide +kernel)
theorem dX12_write_54 : decode cX12_write 54 = .ok (.invokevirtual 936, 3) := dk_182 (by decide +kernel)
theorem dX12_write_57 : decode cX12_write 57 = .ok (.aload_n 0, 1) := dk_42 (by decide +kernel)
theorem dX12_write_58 : decode cX12_write 58 = .ok (.getfield 197, 3) := dk_180 (by decide +kernel)
theorem dX12_write_61 : decode cX12_write 61 = .ok (.iload_n 1, 1) := dk_27 (by decide +kernel)
theorem dX12_write_62 : decode cX12_write 62 = .ok (.iaload, 1) := dk_46 (by decide +kernel)
theorem dX12_write_63 : decode cX12_write 63 = .ok (.iconst 1, 1) := dk_4 (by decide +kernel)
theorem dX12_write_64 : decode cX12_write 64 = .ok (.if_icmp .ne 11, 3) := dk_160 (by decide +kernel)
theorem dX12_write_67 : decode cX12_write 67 = .ok (.aload_n 0, 1) := dk_42 (by decide +kernel)
theorem dX12_write_68 : decode cX12_write 68 = .ok (.bipush 6, 2) := dk_16 (by decide +kernel)
theorem dX12_write_70 : decode cX12_write 70 = .ok (.bipush 12, 2) := dk_16 (by decide +kernel)
theorem dX12_write_72 : decode cX12_write 72 = .ok (.invokevirtual 965, 3) := dk_182 (by decide +kernel)
theorem dX12_write_75 : decode cX12_write 75 = .ok (.aload_n 0, 1) := dk_42 (by decide +kernel)
theorem dX12_write_76 : decode cX12_write 76 = .ok (.bipush 12, 2) := dk_16 (by decide +kernel)
theorem dX12_write_78 : decode cX12_write 78 = .ok (.bipush 17, 2) := dk_16 (by decide +kernel)
theorem dX12_write_80 : decode cX12_write 80 = .ok (.invokevirtual 965, 3) := dk_182 (by decide +kernel)
theorem dX12_write_83 : decode cX12_write 83 = .ok (.aload_n 0, 1) := dk_42 (by decide +kernel)
theorem dX12_write_84 : decode cX12_write 84 = .ok (.aload_n 0, 1) := dk_42 (by decide +kernel)
theorem dX12_write_85 : decode cX12_write 85 = .ok (.getfield 191, 3) := dk_180 (by decide +kernel)
theorem dX12_write_88 : decode cX12_write 88 = .ok (.iload_n 1, 1) := dk_27 (by decide +kernel)
theorem dX12_write_89 : decode cX12_write 89 = .ok (.iaload, 1) := dk_46 (by decide +kernel)
theorem dX12_write_90 : decode cX12_write 90 = .ok (.invokevirtual 955, 3) := dk_182 (by decide +kernel)
theorem dX12_write_93 : decode cX12_write 93 = .ok (.aload_n 0, 1) := dk_42 (by decide +kernel)
theorem dX12_write_94 : decode cX12_write 94 = .ok (.bipush 32, 2) := dk_16 (by decide +kernel)
theorem dX12_write_96 : decode cX12_write 96 = .ok (.invokevirtual 936, 3) := dk_182 (by decide +kernel)
theorem dX12_write_99 : decode cX12_write 99 = .ok (.aload_n 0, 1) := dk_42 (by decide +kernel)
theorem dX12_write_100 : decode cX12_write 100 = .ok (.bipush 17, 2) := dk_16 (by decide +kernel)
theorem dX12_write_102 : decode cX12_write 102 = .ok (.bipush 20, 2) := dk_16 (by decide +kernel)
theorem dX12_write_104 : decode cX12_write 104 = .ok (.invokevirtual 965, 3) := dk_182 (by decide +kernel)
theorem dX12_write_107 : decode cX12_write 107 = .ok (.aload_n 0, 1) := dk_42 (by decide +kernel)
theorem dX12_write_108 : decode cX12_write 108 = .ok (.aload_n 0, 1) := dk_42 (by decide +kernel)
theorem dX12_write_109 : decode cX12_write 109 = .ok (.getfield 194, 3) := dk_180 (by decide +kernel)
theorem dX12_write_112 : decode cX12_write 112 = .ok (.iload_n 1, 1) := dk_27 (by decide +kernel)
theorem dX12_write_113 : decode cX12_write 113 = .ok (.iaload, 1) := dk_46 (by decide +kernel)
theorem dX12_write_114 : decode cX12_write 114 = .ok (.invokevirtual 955, 3) := dk_182 (by decide +kernel)
theorem dX12_write_117 : decode cX12_write 117 = .ok (.aload_n 0, 1) := dk_42 (by decide +kernel)
theorem dX12_write_118 : decode cX12_write 118 = .ok (.invokevirtual 968, 3) := dk_182 (by decide +kernel)
theorem dX12_write_121 : decode cX12_write 121 = .ok (.iinc 1 1, 3) := dk_132 (by decide +kernel)
theorem dX12_write_124 : decode cX12_write 124 = .ok (.goto (-92), 3) := dk_167 (by decide +kernel)
theorem dX12_write_127 : decode cX12_write 127 = .ok (.iconst 0, 1) := dk_3 (by decide +kernel)
theorem dX12_write_128 : decode cX12_write 128 = .ok (.istore_n 1, 1) := dk_60 (by decide +kernel)
theorem dX12_write_129 : decode cX12_write 129 = .ok (.iload_n 1, 1) := dk_27 (by decide +kernel)
theorem dX12_write_130 : decode cX12_write 130 = .ok (.aload_n 0, 1) := dk_42 (by decide +kernel)
theorem dX12_write_131 : decode cX12_write 131 = .ok (.getfield 786, 3) := dk_180 (by decide +kernel)
theorem dX12_write_134 : decode cX12_write 134 = .ok (.if_icmp .ge 89, 3) := dk_162 (by decide +kernel)
theorem dX12_write_137 : decode cX12_write 137 = .ok (.aload_n 0, 1) := dk_42 (by decide +kernel)
theorem dX12_write_138 : decode cX12_write 138 = .ok (.bipush 20, 2) := dk_16 (by decide +kernel)
theorem dX12_write_140 : decode cX12_write 140 = .ok (.bipush 25, 2) := dk_16 (by decide +kernel)
theorem dX12_write_142 : decode cX12_write 142 = .ok (.invokevirtual 965, 3) := dk_182 (by decide +kernel)
theorem dX12_write_145 : decode cX12_write 145 = .ok (.aload_n 0, 1) := dk_42 (by decide +kernel)
theorem dX12_write_146 : decode cX12_write 146 = .ok (.iload_n 1, 1) := dk_27 (by decide +kernel)
theorem dX12_write_147 : decode cX12_write 147 = .ok (.invokevirtual 955, 3) := dk_182 (by decide +kernel)
theorem dX12_write_150 : decode cX12_write 150 = .ok (.aload_n 0, 1) := dk_42 (by decide +kernel)
theorem dX12_write_151 : decode cX12_write 151 = .ok (.bipush 32, 2) := dk_16 (by decide +kernel)
theorem dX12_write_153 : decode cX12_write 153 = .ok (.invokevirtual 936, 3) := dk_182 (by decide +kernel)
theorem dX12_write_156 : decode cX12_write 156 = .ok (.aload_n 0, 1) := dk_42 (by decide +kernel)
theorem dX12_write_157 : decode cX12_write 157 = .ok (.bipush 26, 2) := dk_16 (by decide +kernel)
theorem dX12_write_159 : decode cX12_write 159 = .ok (.bipush 28, 2) := dk_16 (by decide +kernel)
theorem dX12_write_161 : decode cX12_write 161 = .ok (.invokevirtual 965, 3) := dk_182 (by decide +kernel)
theorem dX12_write_164 : decode cX12_write 164 = .ok (.iconst 0, 1) := dk_3 (by decide +kernel)
theorem dX12_write_165 : decode cX12_write 165 = .ok (.istore_n 2, 1) := dk_61 (by decide +kernel)
theorem dX12_write_166 : decode cX12_write 166 = .ok (.iload_n 2, 1) := dk_28 (by decide +kernel)
theorem dX12_write_167 : decode cX12_write 167 = .ok (.aload_n 0, 1) := dk_42 (by decide +kernel)
theorem dX12_write_168 : decode cX12_write 168 = .ok (.getfield 200, 3) := dk_180 (by decide +kernel)
theorem dX12_write_171 : decode cX12_write 171 = .ok (.iload_n 1, 1) := dk_27 (by decide +kernel)
theorem dX12_write_172 : decode cX12_write 172 = .ok (.iaload, 1) := dk_46 (by decide +kernel)
theorem dX12_write_173 : decode cX12_write 173 = .ok (.if_icmp .ge 40, 3) := dk_162 (by decide +kernel)
theorem dX12_write_176 : decode cX12_write 176 = .ok (.iload_n 2, 1) := dk_28 (by decide +kernel)
theorem dX12_write_177 : decode cX12_write 177 = .ok (.ifCond .le 9, 3) := dk_158 (by decide +kernel)
theorem dX12_write_180 : decode cX12_write 180 = .ok (.aload_n 0, 1) := dk_42 (by decide +kernel)
theorem dX12_write_181 : decode cX12_write 181 = .ok (.bipush 32, 2) := dk_16 (by decide +kernel)
theorem dX12_write_183 : decode cX12_write 183 = .ok (.invokevirtual 936, 3) := dk_182 (by decide +kernel)
theorem dX12_write_186 : decode cX12_write 186 = .ok (.iload_n 2, 1) := dk_28 (by decide +kernel)
theorem dX12_write_187 : decode cX12_write 187 = .ok (.ifCond .le 11, 3) := dk_158 (by decide +kernel)
theorem dX12_write_190 : decode cX12_write 190 = .ok (.aload_n 0, 1) := dk_42 (by decide +kernel)
theorem dX12_write_191 : decode cX12_write 191 = .ok (.bipush 28, 2) := dk_16 (by decide +kernel)
theorem dX12_write_193 : decode cX12_write 193 = .ok (.bipush 31, 2) := dk_16 (by decide +kernel)
theorem dX12_write_195 : decode cX12_write 195 = .ok (.invokevirtual 965, 3) := dk_182 (by decide +kernel)
theorem dX12_write_198 : decode cX12_write 198 = .ok (.aload_n 0, 1) := dk_42 (by decide +kernel)
theorem dX12_write_199 : decode cX12_write 199 = .ok (.iconst 3, 1) := dk_6 (by decide +kernel)
theorem dX12_write_200 : decode cX12_write 200 = .ok (.iload_n 1, 1) := dk_27 (by decide +kernel)
theorem dX12_write_201 : decode cX12_write 201 = .ok (.imul, 1) := dk_104 (by decide +kernel)
theorem dX12_write_202 : decode cX12_write 202 = .ok (.iload_n 2, 1) := dk_28 (by decide +kernel)
theorem dX12_write_203 : decode cX12_write 203 = .ok (.iadd, 1) := dk_96 (by decide +kernel)
theorem dX12_write_204 : decode cX12_write 204 = .ok (.invokevirtual 971, 3) := dk_182 (by decide +kernel)
theorem dX12_write_207 : decode cX12_write 207 = .ok (.iinc 2 1, 3) := dk_132 (by decide +kernel)
theorem dX12_write_210 : decode cX12_write 210 = .ok (.goto (-44), 3) := dk_167 (by decide +kernel)
theorem dX12_write_213 : decode cX12_write 213 = .ok (.aload_n 0, 1) := dk_42 (by decide +kernel)
theorem dX12_write_214 : decode cX12_write 214 = .ok (.invokevirtual 968, 3) := dk_182 (by decide +kernel)
theorem dX12_write_217 : decode cX12_write 217 = .ok (.iinc 1 1, 3) := dk_132 (by decide +kernel)
theorem dX12_write_220 : decode cX12_write 220 = .ok (.goto (-91), 3) := dk_167 (by decide +kernel)
theorem dX12_write_223 : decode cX12_write 223 = .ok (.iconst 0, 1) := dk_3 (by decide +kernel)
theorem dX12_write_224 : decode cX12_write 224 = .ok (.istore_n 1, 1) := dk_60 (by decide +kernel)
theorem dX12_write_225 : decode cX12_write 225 = .ok (.iload_n 1, 1) := dk_27 (by decide +kernel)
theorem dX12_write_226 : decode cX12_write 226 = .ok (.aload_n 0, 1) := dk_42 (by decide +kernel)
theorem dX12_write_227 : decode cX12_write 227 = .ok (.getfield 802, 3) := dk_180 (by decide +kernel)
theorem dX12_write_230 : decode cX12_write 230 = .ok (.if_icmp .ge 90, 3) := dk_162 (by decide +kernel)
theorem dX12_write_233 : decode cX12_write 233 = .ok (.aload_n 0, 1) := dk_42 (by decide +kernel)
theorem dX12_write_234 : decode cX12_write 234 = .ok (.bipush 39, 2) := dk_16 (by decide +kernel)
theorem dX12_write_236 : decode cX12_write 236 = .ok (.bipush 48, 2) := dk_16 (by decide +kernel)
theorem dX12_write_238 : decode cX12_write 238 = .ok (.invokevirtual 965, 3) := dk_182 (by decide +kernel)
theorem dX12_write_241 : decode cX12_write 241 = .ok (.iconst 0, 1) := dk_3 (by decide +kernel)
theorem dX12_write_242 : decode cX12_write 242 = .ok (.istore_n 2, 1) := dk_61 (by decide +kernel)
theorem dX12_write_243 : decode cX12_write 243 = .ok (.iconst 0, 1) := dk_3 (by decide +kernel)
theorem dX12_write_244 : decode cX12_write 244 = .ok (.istore_n 3, 1) := dk_62 (by decide +kernel)
theorem dX12_write_245 : decode cX12_write 245 = .ok (.iload_n 3, 1) := dk_29 (by decide +kernel)
theorem dX12_write_246 : decode cX12_write 246 = .ok (.aload_n 0, 1) := dk_42 (by decide +kernel)
theorem dX12_write_247 : decode cX12_write 247 = .ok (.getfield 774, 3) := dk_180 (by decide +kernel)
theorem dX12_write_250 : decode cX12_write 250 = .ok (.if_icmp .ge 60, 3) := dk_162 (by decide +kernel)
theorem dX12_write_253 : decode cX12_write 253 = .ok (.aload_n 0, 1) := dk_42 (by decide +kernel)
theorem dX12_write_254 : decode cX12_write 254 = .ok (.getfield 209, 3) := dk_180 (by decide +kernel)
theorem dX12_write_257 : decode cX12_write 257 = .ok (.iload_n 1, 1) := dk_27 (by decide +kernel)
theorem dX12_write_258 : decode cX12_write 258 = .ok (.iaload, 1) := dk_46 (by decide +kernel)
theorem dX12_write_259 : decode cX12_write 259 = .ok (.iload_n 3, 1) := dk_29 (by decide +kernel)
theorem dX12_write_260 : decode cX12_write 260 = .ok (.ishr, 1) := dk_122 (by decide +kernel)
theorem dX12_write_261 : decode cX12_write 261 = .ok (.iconst 1, 1) := dk_4 (by decide +kernel)
theorem dX12_write_262 : decode cX12_write 262 = .ok (.iand, 1) := dk_126 (by decide +kernel)
theorem dX12_write_263 : decode cX12_write 263 = .ok (.ifCond .ne 6, 3) := dk_154 (by decide +kernel)
theorem dX12_write_266 : decode cX12_write 266 = .ok (.goto 38, 3) := dk_167 (by decide +kernel)
theorem dX12_write_269 : decode cX12_write 269 = .ok (.aload_n 0, 1) := dk_42 (by decide +kernel)
theorem dX12_write_270 : decode cX12_write 270 = .ok (.bipush 32, 2) := dk_16 (by decide +kernel)
theorem dX12_write_272 : decode cX12_write 272 = .ok (.invokevirtual 936, 3) := dk_182 (by decide +kernel)
theorem dX12_write_275 : decode cX12_write 275 = .ok (.iload_n 2, 1) := dk_28 (by decide +kernel)
theorem dX12_write_276 : decode cX12_write 276 = .ok (.ifCond .eq 15, 3) := dk_153 (by decide +kernel)
theorem dX12_write_279 : decode cX12_write 279 = .ok (.aload_n 0, 1) := dk_42 (by decide +kernel)
theorem dX12_write_280 : decode cX12_write 280 = .ok (.bipush 44, 2) := dk_16 (by decide +kernel)
theorem dX12_write_282 : decode cX12_write 282 = .ok (.invokevirtual 936, 3) := dk_182 (by decide +kernel)
theorem dX12_write_285 : decode cX12_write 285 = .ok (.aload_n 0, 1) := dk_42 (by decide +kernel)
theorem dX12_write_286 : decode cX12_write 286 = .ok (.bipush 32, 2) := dk_16 (by decide +kernel)
theorem dX12_write_288 : decode cX12_write 288 = .ok (.invokevirtual 936, 3) := dk_182 (by decide +kernel)
theorem dX12_write_291 : decode cX12_write 291 = .ok (.aload_n 0, 1) := dk_42 (by decide +kernel)
theorem dX12_write_292 : decode cX12_write 292 = .ok (.bipush 120, 2) := dk_16 (by decide +kernel)
theorem dX12_write_294 : decode cX12_write 294 = .ok (.invokevirtual 936, 3) := dk_182 (by decide +kernel)
theorem dX12_write_297 : decode cX12_write 297 = .ok (.aload_n 0, 1) := dk_42 (by decide +kernel)
theorem dX12_write_298 : decode cX12_write 298 = .ok (.iload_n 3, 1) := dk_29 (by decide +kernel)
theorem dX12_write_299 : decode cX12_write 299 = .ok (.invokevirtual 955, 3) := dk_182 (by decide +kernel)
theorem dX12_write_302 : decode cX12_write 302 = .ok (.iconst 1, 1) := dk_4 (by decide +kernel)
theorem dX12_write_303 : decode cX12_write 303 = .ok (.istore_n 2, 1) := dk_61 (by decide +kernel)
theorem dX12_write_304 : decode cX12_write 304 = .ok (.iinc 3 1, 3) := dk_132 (by decide +kernel)
theorem dX12_write_307 : decode cX12_write 307 = .ok (.goto (-62), 3) := dk_167 (by decide +kernel)
theorem dX12_write_310 : decode cX12_write 310 = .ok (.aload_n 0, 1) := dk_42 (by decide +kernel)
theorem dX12_write_311 : decode cX12_write 311 = .ok (.invokevirtual 968, 3) := dk_182 (by decide +kernel)
theorem dX12_write_314 : decode cX12_write 314 = .ok (.iinc 1 1, 3) := dk_132 (by decide +kernel)
theorem dX12_write_317 : decode cX12_write 317 = .ok (.goto (-92), 3) := dk_167 (by decide +kernel)
theorem dX12_write_320 : decode cX12_write 320 = .ok (.iconst 0, 1) := dk_3 (by decide +kernel)
theorem dX12_write_321 : decode cX12_write 321 = .ok (.istore_n 1, 1) := dk_60 (by decide +kernel)
theorem dX12_write_322 : decode cX12_write 322 = .ok (.iload_n 1, 1) := dk_27 (by decide +kernel)
theorem dX12_write_323 : decode cX12_write 323 = .ok (.aload_n 0, 1) := dk_42 (by decide +kernel)
theorem dX12_write_324 : decode cX12_write 324 = .ok (.getfield 805, 3) := dk_180 (by decide +kernel)
theorem dX12_write_327 : decode cX12_write 327 = .ok (.if_icmp .ge 18, 3) := dk_162 (by decide +kernel)
theorem dX12_write_330 : decode cX12_write 330 = .ok (.aload_n 0, 1) := dk_42 (by decide +kernel)
theorem dX12_write_331 : decode cX12_write 331 = .ok (.iload_n 1, 1) := dk_27 (by decide +kernel)
theorem dX12_write_332 : decode cX12_write 332 = .ok (.invokevirtual 974, 3) := dk_182 (by decide +kernel)
theorem dX12_write_335 : decode cX12_write 335 = .ok (.aload_n 0, 1) := dk_42 (by decide +kernel)
theorem dX12_write_336 : decode cX12_write 336 = .ok (.invokevirtual 968, 3) := dk_182 (by decide +kernel)
theorem dX12_write_339 : decode cX12_write 339 = .ok (.iinc 1 1, 3) := dk_132 (by decide +kernel)
theorem dX12_write_342 : decode cX12_write 342 = .ok (.goto (-20), 3) := dk_167 (by decide +kernel)
theorem dX12_write_345 : decode cX12_write 345 = .ok (.aload_n 0, 1) := dk_42 (by decide +kernel)
theorem dX12_write_346 : decode cX12_write 346 = .ok (.getfield 933, 3) := dk_180 (by decide +kernel)
theorem dX12_write_349 : decode cX12_write 349 = .ok (.ireturn, 1) := dk_172 (by decide +kernel)
def wsRX12_write : List Cond := .code yX12_write cX12_write 4 (some .int) :: ([.fieldLink RX12 808 "OptimaWorksModel" "isModel" "Z", .fieldLink RX12 348 "OptimaWorksModel" "thrown" "I", .fieldLink RX12 933 "OptimaWorksModel" "printed" "I", .fieldLink RX12 774 "OptimaWorksModel" "variables" "I", .fieldLink RX12 786 "OptimaWorksModel" "modelRows" "I", .fieldLink RX12 802 "OptimaWorksModel" "differents" "I", .fieldLink RX12 805 "OptimaWorksModel" "modelGoals" "I", .fieldLink RX12 209 "OptimaWorksModel" "differentSet" "[I", .fieldLink RX12 200 "OptimaWorksModel" "wayMany" "[I", .fieldLink RX12 197 "OptimaWorksModel" "whole" "[I", .fieldLink RX12 191 "OptimaWorksModel" "low" "[I", .fieldLink RX12 194 "OptimaWorksModel" "high" "[I"] ++ wsX120 ++ (wsV RX12 974 RX12 yX12_sayGoal wsRX12_sayGoal) ++ (wsV RX12 968 RX12 yX12_endLine wsRX12_endLine) ++ (wsV RX12 965 RX12 yX12_sayText wsRX12_sayText) ++ (wsV RX12 936 RX12 yX12_say wsRX12_say) ++ (wsV RX12 955 RX12 yX12_sayNumber wsRX12_sayNumber) ++ (wsV RX12 971 RX12 yX12_sayWay wsRX12_sayWay))
theorem iwsRX12_write_in12 : ∀ w ∈ wsX120, w ∈ wsRX12_write := fun _ h => List.mem_cons_of_mem _ (List.mem_append_left _ (List.mem_append_left _ (List.mem_append_left _ (List.mem_append_left _ (List.mem_append_left _ (List.mem_append_left _ (List.mem_append_right _ h)))))))
theorem gwsRX12_write_0 : GoodIn wsRX12_write (wsV RX12 974 RX12 yX12_sayGoal wsRX12_sayGoal) := goodIn_sub (fun _ h => List.mem_cons_of_mem _ (List.mem_append_left _ (List.mem_append_left _ (List.mem_append_left _ (List.mem_append_left _ (List.mem_append_left _ (List.mem_append_right _ h))))))) (gdV (by decide +kernel) gdwsRX12_sayGoal)
theorem gwsRX12_write_1 : GoodIn wsRX12_write (wsV RX12 968 RX12 yX12_endLine wsRX12_endLine) := goodIn_sub (fun _ h => List.mem_cons_of_mem _ (List.mem_append_left _ (List.mem_append_left _ (List.mem_append_left _ (List.mem_append_left _ (List.mem_append_right _ h)))))) (gdV (by decide +kernel) gdwsRX12_endLine)
theorem gwsRX12_write_2 : GoodIn wsRX12_write (wsV RX12 965 RX12 yX12_sayText wsRX12_sayText) := goodIn_sub (fun _ h => List.mem_cons_of_mem _ (List.mem_append_left _ (List.mem_append_left _ (List.mem_append_left _ (List.mem_append_right _ h))))) (gdV (by decide +kernel) gdwsRX12_sayText)
theorem gwsRX12_write_3 : GoodIn wsRX12_write (wsV RX12 936 RX12 yX12_say wsRX12_say) := goodIn_sub (fun _ h => List.mem_cons_of_mem _ (List.mem_append_left _ (List.mem_append_left _ (List.mem_append_right _ h)))) (gdV (by decide +kernel) gdwsRX12_say)
theorem gwsRX12_write_4 : GoodIn wsRX12_write (wsV RX12 955 RX12 yX12_sayNumber wsRX12_sayNumber) := goodIn_sub (fun _ h => List.mem_cons_of_mem _ (List.mem_append_left _ (List.mem_append_right _ h))) (gdV (by decide +kernel) gdwsRX12_sayNumber)
theorem gwsRX12_write_5 : GoodIn wsRX12_write (wsV RX12 971 RX12 yX12_sayWay wsRX12_sayWay) := goodIn_sub (fun _ h => List.mem_cons_of_mem _ (List.mem_append_right _ h)) (gdV (by decide +kernel) gdwsRX12_sayWay)
theorem gdwsRX12_write : wsRX12_write.all goodWord = true := gdC rfl (gdA (gdA (gdA (gdA (gdA (gdA (gdA (by decide +kernel : ([.fieldLink RX12 808 "OptimaWorksModel" "isModel" "Z", .fieldLink RX12 348 "OptimaWorksModel" "thrown" "I", .fieldLink RX12 933 "OptimaWorksModel" "printed" "I", .fieldLink RX12 774 "OptimaWorksModel" "variables" "I", .fieldLink RX12 786 "OptimaWorksModel" "modelRows" "I", .fieldLink RX12 802 "OptimaWorksModel" "differents" "I", .fieldLink RX12 805 "OptimaWorksModel" "modelGoals" "I", .fieldLink RX12 209 "OptimaWorksModel" "differentSet" "[I", .fieldLink RX12 200 "OptimaWorksModel" "wayMany" "[I", .fieldLink RX12 197 "OptimaWorksModel" "whole" "[I", .fieldLink RX12 191 "OptimaWorksModel" "low" "[I", .fieldLink RX12 194 "OptimaWorksModel" "high" "[I"] : List Cond).all goodWord = true) gdwsX120) (gdV (by decide +kernel) gdwsRX12_sayGoal)) (gdV (by decide +kernel) gdwsRX12_endLine)) (gdV (by decide +kernel) gdwsRX12_sayText)) (gdV (by decide +kernel) gdwsRX12_say)) (gdV (by decide +kernel) gdwsRX12_sayNumber)) (gdV (by decide +kernel) gdwsRX12_sayWay))
theorem hm_r_X12_write_0 : (.fieldLink RX12 348 "OptimaWorksModel" "thrown" "I" : Cond) ∈ wsRX12_write := by decide +kernel
theorem hm_r_X12_write_1 : (.fieldLink RX12 933 "OptimaWorksModel" "printed" "I" : Cond) ∈ wsRX12_write := by decide +kernel
theorem hm_r_X12_write_2 : (.fieldLink RX12 774 "OptimaWorksModel" "variables" "I" : Cond) ∈ wsRX12_write := by decide +kernel
set_option maxHeartbeats 4000000 in
set_option maxRecDepth 100000 in
/-- write() -/
theorem r_X12_write (l : Launch) (dC : Nat → ClassId) (dI : Nat → Nat → Nat) (a : Nat → Nat) (k : Nat → ClassId) (h0 : Nat) (vi : Nat → Int32) (vj : Nat → Int64) (vF : Nat → Nat → Int32) (vG : Nat → Nat → Int64) (vn : Nat) (mr : Nat) (gq : Nat) (dn : Nat) (pn : Nat) (hpn : vi 125 = nI pn) (hpn2 : pn ≤ 30000) (hvn : vi 90 = nI vn) (hvn8 : vn ≤ 8) (hmr : vi 91 = nI mr) (hmr12 : mr ≤ 12) (hmg : vi 93 = nI gq) (hgq : gq ≤ 3) (hdn : vi 92 = nI dn) (hdn8 : dn ≤ 8) (hM : MdlB vF gq) (hwm : WmO (vF 59) mr) (sz : Nat) : Met l yX12_write wsRX12_write ({ frames := 7, cells := 0, slots := 0, locals := 152 }) (va_Pc [.ref h0] (fun U => U.heap.size = sz ∧ va_P (dC, dI) vwCl (WR a k h0 vi vj vF vG) U.heap ∧ va_K (dC, dI) vwCl (tX12 k) U ∧ va_D (fun _ => True) (WR a k h0 vi vj vF vG) ∧ StrA (va_A (WR a k h0 vi vj vF vG) sz) U U.heap)) (va_Qi (fun (r : Int32) (u : (Int32) × (Nat) × (Nat → Int32)) => ((u.2.1) ≤ 30000)) (fun (u : (Int32) × (Nat) × (Nat → Int32)) t => va_P (dC, dI) vwCl (WR a k h0 (fT (fT vi 0 (u.1)) 125 (nI (u.2.1))) vj (fT vF 75 (u.2.2)) vG) t.heap ∧ va_D (va_A (WR a k h0 vi vj vF vG) sz) (WR a k h0 (fT (fT vi 0 (u.1)) 125 (nI (u.2.1))) vj (fT vF 75 (u.2.2)) vG)) (va_A (WR a k h0 vi vj vF vG) sz)) 0 0 (va_A (WR a k h0 vi vj vF vG) sz) := by
  refine Met.ofW (cc := cX12_write) (maxL := 4) (ret := (some .int)) (by decide) rfl ?_
  intro p e s m args below meth c s₁ B hml hv
  obtain ⟨rfl, hsz, hP, hK, hD0, hE⟩ := hv
  have hx := B.exec
  have hb := B.bytes
  have hr := B.returns
  have hts := atoms_spec (ws := wsRX12_write) B.pre
  have hown : s.vm.findClass RX12 = some m.cls := findClass_of_methodNamed B.named
  have hlocks := B.notSynchronized
  subst hsz
  have hD := hD0.self (sz := s.heap.size)
  generalize hAe : va_A (WR a k h0 vi vj vF vG) s.heap.size = A at hD hE ⊢
  have hA : ∀ q : Nat, s.heap.size ≤ q → A q := fun q h => by rw [← hAe]; exact Or.inr h
  have hS : va_S A s.heap s.heap [] := va_S.rf
  have hl := lv_entry ([.ref h0]) (n := 4) (Nat.le_of_ble_eq_true rfl)
  rw [lg_entry_eq]
  generalize (lg_sl ([.ref h0]) ++ List.replicate (4 - (lg_sl ([.ref h0])).length) Slot.unset).toArray = ls at hl ⊢
  have hl : lv_has ls 4 [(0, .ref h0)] := hl
  refine lv_aload_n hx hb dX12_write_0 rfl (lv_at hl 0 rfl) ?_
  refine lv_aload_n hx hb dX12_write_1 rfl (lv_at hl 0 rfl) ?_
  refine va_get (D := (dC, dI)) (ci := 12) (v := .int (vi 95)) (C := RX12) (T := TX12) (N := 163) (fs := fM (vS a vi vj)) hx hb hts iwsRX12_write_in12 hown hK hP 0 rfl rfl 95 (by decide) (hts (.fieldLink RX12 808 "OptimaWorksModel" "isModel" "Z") (by decide +kernel)) (fun _ h9 => h9) rfl dX12_write_2 ?_
  refine lv_if_eq (tgt := 12) hx hb dX12_write_5 (by decide) (fun c_5 => ?_) (fun c_5 => ?_)
  · have t_5 : ((vi 95)).toInt = 0 := toI_eq c_5 rfl (by decide)
    refine lv_iconst (v := 1) hx hb dX12_write_12 (by decide) ?_
    refine va_put (D := (dC, dI)) (ci := 12) (v := .int 1) (ty := .int) (C := RX12) (T := TX12) (N := 163) (fs := fM (vS a vi vj)) hx hb hts iwsRX12_write_in12 tyX12 tyX12_ok nmX12 hown hK hP hD hS 0 rfl rfl 0 (by decide) (hts _ hm_r_X12_write_0) (fun _ h9 => h9) rfl (by decide +kernel) rfl rfl (Nat.le_of_ble_eq_true rfl) dX12_write_13 (fun H locs hP hD hS => ?_)
    have hP : va_P (dC, dI) vwCl (WR a k h0 (fT vi 0 1) vj vF vG) H := fz_w (WR_i 0 _ rfl) hP
    have hD : va_D A (WR a k h0 (fT vi 0 1) vj vF vG) := fz_wD (WR_i 0 _ rfl) hD
    refine lv_aload_n hx hb dX12_write_16 rfl (lv_at hl 0 rfl) ?_
    refine va_get (D := (dC, dI)) (ci := 12) (v := .int 1) (C := RX12) (T := TX12) (N := 163) (fs := fM (vS a (fT vi 0 1) vj)) hx hb hts iwsRX12_write_in12 hown hK hP 0 rfl rfl 0 (by decide) (hts _ hm_r_X12_write_0) (fun _ h9 => h9) rfl dX12_write_17 ?_
    refine lv_if_le (tgt := 25) hx hb dX12_write_20 (by decide) (fun c9 => absurd c9 (by decide)) (fun _ => ?_)
    refine lv_iconst (v := 0) hx hb dX12_write_23 (by decide) ?_
    refine W.widen (k := 0) (n := 0) (by decide +kernel) (by decide +kernel) ?_
    have e9 : fT (fT vi 0 1) 125 (nI pn) = fT vi 0 1 := Eq.trans (congrArg (fT _ 125) (show nI pn = vi 125 from (by first | with_reducible rfl | with_reducible assumption | (symm; with_reducible assumption) | rfl | assumption | (symm; assumption) | (subst_vars; rfl)))) (id_1 rfl)
    have hP := wr_Pi e9 hP
    have hD := wr_Di e9 hD
    clear e9
    have e9 : fT vF 75 (vF 75) = vF := fT_id _ _ (rfl)
    have hP := wr_PF e9 hP
    have hD := wr_DF e9 hD
    clear e9
    exact W.iret (v := 0) hx hb hr (fun t9_ ht hW => ⟨⟨0, (1, pn, (vF 75)), rfl, by (try dsimp only); first | assumption | omega, by rw [ht]; exact hP, hD⟩, hS.F ht⟩) hS.2.2 dX12_write_24
  · have t_5 : ¬ ((vi 95)).toInt = 0 := toI_neq c_5 rfl (by decide)
    refine lv_iconst (v := 0) hx hb dX12_write_8 (by decide) ?_
    refine lv_goto (tgt := 13) hx hb dX12_write_9 (by decide) ?_
    refine va_put (D := (dC, dI)) (ci := 12) (v := .int 0) (ty := .int) (C := RX12) (T := TX12) (N := 163) (fs := fM (vS a vi vj)) hx hb hts iwsRX12_write_in12 tyX12 tyX12_ok nmX12 hown hK hP hD hS 0 rfl rfl 0 (by decide) (hts _ hm_r_X12_write_0) (fun _ h9 => h9) rfl (by decide +kernel) rfl rfl (Nat.le_of_ble_eq_true rfl) dX12_write_13 (fun H locs hP hD hS => ?_)
    have hP : va_P (dC, dI) vwCl (WR a k h0 (fT vi 0 0) vj vF vG) H := fz_w (WR_i 0 _ rfl) hP
    have hD : va_D A (WR a k h0 (fT vi 0 0) vj vF vG) := fz_wD (WR_i 0 _ rfl) hD
    refine lv_aload_n hx hb dX12_write_16 rfl (lv_at hl 0 rfl) ?_
    refine va_get (D := (dC, dI)) (ci := 12) (v := .int 0) (C := RX12) (T := TX12) (N := 163) (fs := fM (vS a (fT vi 0 0) vj)) hx hb hts iwsRX12_write_in12 hown hK hP 0 rfl rfl 0 (by decide) (hts _ hm_r_X12_write_0) (fun _ h9 => h9) rfl dX12_write_17 ?_
    refine lv_if_le (tgt := 25) hx hb dX12_write_20 (by decide) (fun _ => ?_) (fun c9 => absurd (by decide) c9)
    refine lv_aload_n hx hb dX12_write_25 rfl (lv_at hl 0 rfl) ?_
    refine lv_iconst (v := 0) hx hb dX12_write_26 (by decide) ?_
    refine va_put (D := (dC, dI)) (ci := 12) (v := .int 0) (ty := .int) (C := RX12) (T := TX12) (N := 163) (fs := fM (vS a (fT vi 0 0) vj)) hx hb hts iwsRX12_write_in12 tyX12 tyX12_ok nmX12 hown hK hP hD hS 0 rfl rfl 125 (by decide) (hts _ hm_r_X12_write_1) (fun _ h9 => h9) rfl (by decide +kernel) rfl rfl (Nat.le_of_ble_eq_true rfl) dX12_write_27 (fun H locs hP hD hS => ?_)
    have hP : va_P (dC, dI) vwCl (WR a k h0 (fT (fT vi 0 0) 125 0) vj vF vG) H := fz_w (WR_i 125 _ rfl) hP
    have hD : va_D A (WR a k h0 (fT (fT vi 0 0) 125 0) vj vF vG) := fz_wD (WR_i 125 _ rfl) hD
    refine lv_iconst (v := 0) hx hb dX12_write_30 (by decide) ?_
    refine lv_istore_n hx hb dX12_write_31 rfl hl (by decide) rfl (fun ls (hl : lv_has ls _ ([(1, .int 0), (0, .ref h0)])) => ?_)
    have e9 : fT (fT vi 0 0) 125 (nI 0) = fT (fT vi 0 0) 125 0 := congrArg (fT _ 125) (show nI 0 = 0 from (by first | with_reducible rfl | with_reducible assumption | (symm; with_reducible assumption) | rfl | assumption | (symm; assumption) | (subst_vars; rfl)))
    have hP := wr_Pi e9 hP
    have hD := wr_Di e9 hD
    clear e9
    have e9 : fT vF 75 (vF 75) = vF := by funext q9; by_cases h9_75 : q9 = 75; (subst h9_75; exact (fT_eq _ _ _).trans (Eq.trans (by first | with_reducible rfl | with_reducible assumption | (symm; with_reducible assumption) | rfl | assumption | (symm; assumption) | (subst_vars; rfl)) (Eq.refl _).symm)); exact (fT_ne _ _ h9_75).trans (Eq.refl _).symm
    have hP := wr_PF e9 hP
    have hD := wr_DF e9 hD
    clear e9
    have hl : lv_has _ _ ([(0, .ref h0), (1, .int (nI 0))]) := lv_sub hl [1, 0] rfl
    refine (fun (loop : ∀ (n9 : Nat) (k5 : Nat) (x31_i125 : Nat) (x31_F75 : Nat → Int32) (H : Heap) (locs : List Loc) (ls : Array Slot), (k5 ≤ vn) → (x31_i125 ≤ 30000) →  (vn < k5 + n9) → va_P (dC, dI) vwCl (WR a k h0 (fT (fT vi 0 0) 125 (nI x31_i125)) vj (fT vF 75 x31_F75) vG) H → va_D A (WR a k h0 (fT (fT vi 0 0) 125 (nI x31_i125)) vj (fT vF 75 x31_F75) vG) → va_S A s.heap H locs → lv_has ls 4 [(0, .ref h0), (1, .int (nI k5))] → W p l e _ s m _ below meth c H locs 0 0 _ (F0 m 32 ls [])) => loop (vn + 1) 0 0 (vF 75) _ _ _ (by omega) (by first | with_reducible assumption | omega | assumption) (by omega) hP hD hS hl) ?_
    intro n9
    induction n9 with
    | zero => intro k5 x31_i125 x31_F75 H locs ls hk5 hx31_i125 hf9; exact False.elim (by omega)
    | succ n9 ih32 =>
      intro k5 x31_i125 x31_F75 H locs ls hk5 hx31_i125 hf32 hP hD hS hl
      refine lv_iload_n hx hb dX12_write_32 rfl (lv_at hl 1 rfl) ?_
      refine lv_aload_n hx hb dX12_write_33 rfl (lv_at hl 0 rfl) ?_
      refine va_get (D := (dC, dI)) (ci := 12) (v := .int (vi 90)) (C := RX12) (T := TX12) (N := 163) (fs := fM (vS a (fT (fT vi 0 0) 125 (nI x31_i125)) vj)) hx hb hts iwsRX12_write_in12 hown hK hP 0 rfl rfl 90 (by decide) (hts _ hm_r_X12_write_2) (fun _ h9 => h9) rfl dX12_write_34 ?_
      refine lv_topi (fun y1 hy1 => ?_)
      obtain rfl : (nI vn) = y1 := (hy1.trans (hvn)).symm
      refine lv_icmp_ge (tgt := 127) hx hb dX12_write_37 (by decide) (fun c_37 => ?_) (fun c_37 => ?_)
      · have t_37 : ((k5 : Nat) : Int) ≥ ((vn : Nat) : Int) := toI_ge c_37 (nI_toInt (by omega)) (nI_toInt (by omega))
        refine lv_iconst (v := 0) hx hb dX12_write_127 (by decide) ?_
        refine lv_istore_n hx hb dX12_write_128 rfl hl (by decide) rfl (fun ls (hl : lv_has ls _ ([(1, .int 0), (0, .ref h0)])) => ?_)
        have hl : lv_has _ _ ([(0, .ref h0), (1, .int (nI 0))]) := lv_sub hl [1, 0] rfl
        refine (fun (loop : ∀ (n9 : Nat) (r5 : Nat) (x46_i125 : Nat) (x46_F75 : Nat → Int32) (H : Heap) (locs : List Loc) (ls : Array Slot), (r5 ≤ mr) → (x46_i125 ≤ 30000) →  (mr < r5 + n9) → va_P (dC, dI) vwCl (WR a k h0 (fT (fT vi 0 0) 125 (nI x46_i125)) vj (fT vF 75 x46_F75) vG) H → va_D A (WR a k h0 (fT (fT vi 0 0) 125 (nI x46_i125)) vj (fT vF 75 x46_F75) vG) → va_S A s.heap H locs → lv_has ls 4 [(0, .ref h0), (1, .int (nI r5))] → W p l e _ s m _ below meth c H locs 0 0 _ (F0 m 129 ls [])) => loop (mr + 1) 0 x31_i125 x31_F75 _ _ _ (by omega) (by first | with_reducible assumption | omega | assumption) (by omega) hP hD hS hl) ?_
        intro n9
        induction n9 with
        | zero => intro r5 x46_i125 x46_F75 H locs ls hr5 hx46_i125 hf9; exact False.elim (by omega)
        | succ n9 ih129_1 =>
          intro r5 x46_i125 x46_F75 H locs ls hr5 hx46_i125 hf129_1 hP hD hS hl
          refine lv_iload_n hx hb dX12_write_129 rfl (lv_at hl 1 rfl) ?_
          refine lv_aload_n hx hb dX12_write_130 rfl (lv_at hl 0 rfl) ?_
          refine va_get (D := (dC, dI)) (ci := 12) (v := .int (vi 91)) (C := RX12) (T := TX12) (N := 163) (fs := fM (vS a (fT (fT vi 0 0) 125 (nI x46_i125)) vj)) hx hb hts iwsRX12_write_in12 hown hK hP 0 rfl rfl 91 (by decide) (hts (.fieldLink RX12 786 "OptimaWorksModel" "modelRows" "I") (by decide +kernel)) (fun _ h9 => h9) rfl dX12_write_131 ?_
          refine lv_topi (fun y2 hy2 => ?_)
          obtain rfl : (nI mr) = y2 := (hy2.trans (hmr)).symm
          refine lv_icmp_ge (tgt := 223) hx hb dX12_write_134 (by decide) (fun c_134 => ?_) (fun c_134 => ?_)
          · have t_134 : ((r5 : Nat) : Int) ≥ ((mr : Nat) : Int) := toI_ge c_134 (nI_toInt (by omega)) (nI_toInt (by omega))
            refine lv_iconst (v := 0) hx hb dX12_write_223 (by decide) ?_
            refine lv_istore_n hx hb dX12_write_224 rfl hl (by decide) rfl (fun ls (hl : lv_has ls _ ([(1, .int 0), (0, .ref h0)])) => ?_)
            have hl : lv_has _ _ ([(0, .ref h0), (1, .int (nI 0))]) := lv_sub hl [1, 0] rfl
            refine (fun (loop : ∀ (n9 : Nat) (d5 : Nat) (x51_i125 : Nat) (x51_F75 : Nat → Int32) (H : Heap) (locs : List Loc) (ls : Array Slot), (d5 ≤ dn) → (x51_i125 ≤ 30000) →  (dn < d5 + n9) → va_P (dC, dI) vwCl (WR a k h0 (fT (fT vi 0 0) 125 (nI x51_i125)) vj (fT vF 75 x51_F75) vG) H → va_D A (WR a k h0 (fT (fT vi 0 0) 125 (nI x51_i125)) vj (fT vF 75 x51_F75) vG) → va_S A s.heap H locs → lv_has ls 4 [(0, .ref h0), (1, .int (nI d5))] → W p l e _ s m _ below meth c H locs 0 0 _ (F0 m 225 ls [])) => loop (dn + 1) 0 x46_i125 x46_F75 _ _ _ (by omega) (by first | with_reducible assumption | omega | assumption) (by omega) hP hD hS hl) ?_
            intro n9
            induction n9 with
            | zero => intro d5 x51_i125 x51_F75 H locs ls hd5 hx51_i125 hf9; exact False.elim (by omega)
            | succ n9 ih225_2 =>
              intro d5 x51_i125 x51_F75 H locs ls hd5 hx51_i125 hf225_2 hP hD hS hl
              refine lv_iload_n hx hb dX12_write_225 rfl (lv_at hl 1 rfl) ?_
              refine lv_aload_n hx hb dX12_write_226 rfl (lv_at hl 0 rfl) ?_
              refine va_get (D := (dC, dI)) (ci := 12) (v := .int (vi 92)) (C := RX12) (T := TX12) (N := 163) (fs := fM (vS a (fT (fT vi 0 0) 125 (nI x51_i125)) vj)) hx hb hts iwsRX12_write_in12 hown hK hP 0 rfl rfl 92 (by decide) (hts (.fieldLink RX12 802 "OptimaWorksModel" "differents" "I") (by decide +kernel)) (fun _ h9 => h9) rfl dX12_write_227 ?_
              refine lv_topi (fun y3 hy3 => ?_)
              obtain rfl : (nI dn) = y3 := (hy3.trans (hdn)).symm
              refine lv_icmp_ge (tgt := 320) hx hb dX12_write_230 (by decide) (fun c_230 => ?_) (fun c_230 => ?_)
              · have t_230 : ((d5 : Nat) : Int) ≥ ((dn : Nat) : Int) := toI_ge c_230 (nI_toInt (by omega)) (nI_toInt (by omega))
                refine lv_iconst (v := 0) hx hb dX12_write_320 (by decide) ?_
                refine lv_istore_n hx hb dX12_write_321 rfl hl (by decide) rfl (fun ls (hl : lv_has ls _ ([(1, .int 0), (0, .ref h0)])) => ?_)
                have hl : lv_has _ _ ([(0, .ref h0), (1, .int (nI 0))]) := lv_sub hl [1, 0] rfl
                refine (fun (loop : ∀ (n9 : Nat) (g5 : Nat) (x52_i125 : Nat) (x52_F75 : Nat → Int32) (H : Heap) (locs : List Loc) (ls : Array Slot), (g5 ≤ gq) → (x52_i125 ≤ 30000) →  (gq < g5 + n9) → va_P (dC, dI) vwCl (WR a k h0 (fT (fT vi 0 0) 125 (nI x52_i125)) vj (fT vF 75 x52_F75) vG) H → va_D A (WR a k h0 (fT (fT vi 0 0) 125 (nI x52_i125)) vj (fT vF 75 x52_F75) vG) → va_S A s.heap H locs → lv_has ls 4 [(0, .ref h0), (1, .int (nI g5))] → W p l e _ s m _ below meth c H locs 0 0 _ (F0 m 322 ls [])) => loop (gq + 1) 0 x51_i125 x51_F75 _ _ _ (by omega) (by first | with_reducible assumption | omega | assumption) (by omega) hP hD hS hl) ?_
                intro n9
                induction n9 with
                | zero => intro g5 x52_i125 x52_F75 H locs ls hg5 hx52_i125 hf9; exact False.elim (by omega)
                | succ n9 ih322_3 =>
                  intro g5 x52_i125 x52_F75 H locs ls hg5 hx52_i125 hf322_3 hP hD hS hl
                  refine lv_iload_n hx hb dX12_write_322 rfl (lv_at hl 1 rfl) ?_
                  refine lv_aload_n hx hb dX12_write_323 rfl (lv_at hl 0 rfl) ?_
                  refine va_get (D := (dC, dI)) (ci := 12) (v := .int (vi 93)) (C := RX12) (T := TX12) (N := 163) (fs := fM (vS a (fT (fT vi 0 0) 125 (nI x52_i125)) vj)) hx hb hts iwsRX12_write_in12 hown hK hP 0 rfl rfl 93 (by decide) (hts (.fieldLink RX12 805 "OptimaWorksModel" "modelGoals" "I") (by decide +kernel)) (fun _ h9 => h9) rfl dX12_write_324 ?_
                  refine lv_topi (fun y4 hy4 => ?_)
                  obtain rfl : (nI gq) = y4 := (hy4.trans (hmg)).symm
                  refine lv_icmp_ge (tgt := 345) hx hb dX12_write_327 (by decide) (fun c_327 => ?_) (fun c_327 => ?_)
                  · have t_327 : ((g5 : Nat) : Int) ≥ ((gq : Nat) : Int) := toI_ge c_327 (nI_toInt (by omega)) (nI_toInt (by omega))
                    refine lv_aload_n hx hb dX12_write_345 rfl (lv_at hl 0 rfl) ?_
                    refine va_get (D := (dC, dI)) (ci := 12) (v := .int (nI x52_i125)) (C := RX12) (T := TX12) (N := 163) (fs := fM (vS a (fT (fT vi 0 0) 125 (nI x52_i125)) vj)) hx hb hts iwsRX12_write_in12 hown hK hP 0 rfl rfl 125 (by decide) (hts _ hm_r_X12_write_1) (fun _ h9 => h9) rfl dX12_write_346 ?_
                    refine W.widen (k := 0) (n := 0) (by decide +kernel) (by decide +kernel) ?_
                    exact W.iret (v := (nI x52_i125)) hx hb hr (fun t9_ ht hW => ⟨⟨(nI x52_i125), (0, x52_i125, x52_F75), rfl, by (try dsimp only); first | assumption | omega, by rw [ht]; exact hP, hD⟩, hS.F ht⟩) hS.2.2 dX12_write_349
                  · have t_327 : ¬ ((g5 : Nat) : Int) ≥ ((gq : Nat) : Int) := toI_nge c_327 (nI_toInt (by omega)) (nI_toInt (by omega))
                    refine lv_aload_n hx hb dX12_write_330 rfl (lv_at hl 0 rfl) ?_
                    refine lv_iload_n hx hb dX12_write_331 rfl (lv_at hl 1 rfl) ?_
                    have hFc := allFree hD hS hA
                    refine va_callv (va_runV (As := [.int (nI g5)]) (rest := []) ⟨hx, hb, hml, hown, hts⟩ (r_X12_sayGoal l dC dI a k h0 (fT (fT vi 0 0) 125 (nI x52_i125)) vj (fT vF 75 x52_F75) vG g5 vn gq x52_i125 rfl (by first | with_reducible assumption | decide | omega | rfl | assumption) hvn (by first | with_reducible assumption | decide | omega | rfl | assumption) (by first | with_reducible assumption | decide | omega | rfl | assumption) (by first | with_reducible assumption | decide | omega | rfl | assumption) (by first | with_reducible assumption | decide | omega | rfl | assumption) H.size) (cwV 1 hts gwsRX12_write_0 rfl rfl rfl hd_yX12_sayGoal_RX12 (by decide +kernel)) (fz_preE (va_recv hK hP (ci := 12) (q0 := 0) rfl rfl) hP hK hD (fun a U g mk qE => qE.same rfl) (fun U hU9 hW => by rw [hU9]; exact (((hE : StrA A s s.heap).kept hS.2.1).narrow (fun q h => hFc q h)).warm hW)) rfl rfl hl.1 rfl (lv_room (Nat.le_of_ble_eq_true rfl)) dX12_write_332 (by decide +kernel)) hS (fun q _ h => hFc q h) hFc (fun u t9_ H locs ht hvm hw9 hB9 hz1 hk1 hS => ?_)
                    revert u hw9 hB9
                    refine fz_p2 ?_
                    intro p2332 f75332 hw9 hB9
                    try dsimp only at hw9 hB9
                    have e9i : fT (fT vi 0 0) 125 (nI p2332) = fT (fT (fT vi 0 0) 125 (nI x52_i125)) 125 (nI p2332) := (fT_sm _ _ _ _).symm
                    have e9F : fT vF 75 f75332 = fT (fT vF 75 x52_F75) 75 f75332 := (fT_sm _ _ _ _).symm
                    have hP := wr_PF e9F (wr_Pi e9i (fz_P ht hB9.1))
                    have hD := wr_DF e9F (wr_Di e9i (hB9.2.weaken (fun _ q _ h => hFc q.1 h)))
                    clear e9i e9F
                    have f332_0 := hw9
                    try dsimp only at f332_0
                    refine lv_aload_n hx hb dX12_write_335 rfl (lv_at hl 0 rfl) ?_
                    have hFc := allFree hD hS hA
                    refine va_callv (va_runV (As := []) (rest := []) ⟨hx, hb, hml, hown, hts⟩ (r_X12_endLine l dC dI a k h0 (fT (fT vi 0 0) 125 (nI p2332)) vj (fT vF 75 f75332) vG p2332 rfl (by first | with_reducible assumption | decide | omega | rfl | assumption) H.size) (cwV 0 hts gwsRX12_write_1 rfl rfl rfl hd_yX12_endLine_RX12 (by decide +kernel)) (fz_pre (va_recv hK hP (ci := 12) (q0 := 0) rfl rfl) hP hK hD) rfl rfl hl.1 rfl (lv_room (Nat.le_of_ble_eq_true rfl)) dX12_write_336 (by decide +kernel)) hS (fun q _ h => hFc q h) hFc (fun u t9_ H locs ht hvm hw9 hB9 hz1 hk1 hS => ?_)
                    revert u hw9 hB9
                    refine fz_p2 ?_
                    intro p2336 f75336 hw9 hB9
                    try dsimp only at hw9 hB9
                    have e9i : fT (fT vi 0 0) 125 (nI p2336) = fT (fT (fT vi 0 0) 125 (nI p2332)) 125 (nI p2336) := (fT_sm _ _ _ _).symm
                    have e9F : fT vF 75 f75336 = fT (fT vF 75 f75332) 75 f75336 := (fT_sm _ _ _ _).symm
                    have hP := wr_PF e9F (wr_Pi e9i (fz_P ht hB9.1))
                    have hD := wr_DF e9F (wr_Di e9i (hB9.2.weaken (fun _ q _ h => hFc q.1 h)))
                    clear e9i e9F
                    have f336_0 := hw9
                    try dsimp only at f336_0
                    refine lv_iinc (v := (nI (g5 + 1))) hx hb dX12_write_339 hl (k := 1) rfl (nI_add g5 1) (by decide) rfl (fun ls (hl : lv_has ls _ ([(1, .int (nI (g5 + 1))), (0, .ref h0)])) => ?_)
                    refine lv_goto (tgt := 322) hx hb dX12_write_342 (by decide) ?_
                    have hl : lv_has _ _ ([(0, .ref h0), (1, .int (nI (g5 + 1)))]) := lv_sub hl [1, 0] rfl
                    exact ih322_3 (g5 + 1) p2336 f75336 _ _ _ (by omega) (by first | with_reducible assumption | omega | assumption) (by omega) hP hD hS hl
              · have t_230 : ¬ ((d5 : Nat) : Int) ≥ ((dn : Nat) : Int) := toI_nge c_230 (nI_toInt (by omega)) (nI_toInt (by omega))
                refine lv_aload_n hx hb dX12_write_233 rfl (lv_at hl 0 rfl) ?_
                refine lv_bipush (v := 39) hx hb dX12_write_234 (by decide) ?_
                refine lv_bipush (v := 48) hx hb dX12_write_236 (by decide) ?_
                have hFc := allFree hD hS hA
                refine va_callv (va_runV (As := [.int 39, .int 48]) (rest := []) ⟨hx, hb, hml, hown, hts⟩ (r_X12_sayText l dC dI a k h0 (fT (fT vi 0 0) 125 (nI x51_i125)) vj (fT vF 75 x51_F75) vG 39 48 x51_i125 rfl (by first | with_reducible assumption | decide | omega | rfl | assumption) (by first | with_reducible assumption | decide | omega | rfl | assumption) (by first | with_reducible assumption | decide | omega | rfl | assumption) H.size) (cwV 2 hts gwsRX12_write_2 rfl rfl rfl hd_yX12_sayText_RX12 (by decide +kernel)) (fz_preE (va_recv hK hP (ci := 12) (q0 := 0) rfl rfl) hP hK hD (fun a U g mk qE => qE.same rfl) (fun U hU9 hW => by rw [hU9]; exact (((hE : StrA A s s.heap).kept hS.2.1).narrow (fun q h => hFc q h)).warm hW)) rfl rfl hl.1 rfl (lv_room (Nat.le_of_ble_eq_true rfl)) dX12_write_238 (by decide +kernel)) hS (fun q _ h => hFc q h) hFc (fun u t9_ H locs ht hvm hw9 hB9 hz1 hk1 hS => ?_)
                revert u hw9 hB9
                refine fz_p2 ?_
                intro p2238 f75238 hw9 hB9
                try dsimp only at hw9 hB9
                have e9i : fT (fT vi 0 0) 125 (nI p2238) = fT (fT (fT vi 0 0) 125 (nI x51_i125)) 125 (nI p2238) := (fT_sm _ _ _ _).symm
                have e9F : fT vF 75 f75238 = fT (fT vF 75 x51_F75) 75 f75238 := (fT_sm _ _ _ _).symm
                have hP := wr_PF e9F (wr_Pi e9i (fz_P ht hB9.1))
                have hD := wr_DF e9F (wr_Di e9i (hB9.2.weaken (fun _ q _ h => hFc q.1 h)))
                clear e9i e9F
                have f238_0 := hw9
                try dsimp only at f238_0
                refine lv_iconst (v := 0) hx hb dX12_write_241 (by decide) ?_
                refine lv_istore_n hx hb dX12_write_242 rfl hl (by decide) rfl (fun ls (hl : lv_has ls _ ([(2, .int 0), (0, .ref h0), (1, .int (nI d5))])) => ?_)
                refine lv_iconst (v := 0) hx hb dX12_write_243 (by decide) ?_
                refine lv_istore_n hx hb dX12_write_244 rfl hl (by decide) rfl (fun ls (hl : lv_has ls _ ([(3, .int 0), (2, .int 0), (0, .ref h0), (1, .int (nI d5))])) => ?_)
                have hl : lv_has _ _ ([(0, .ref h0), (1, .int (nI d5)), (2, .int 0), (3, .int (nI 0))]) := lv_sub hl [2, 3, 1, 0] rfl
                refine (fun (loop : ∀ (n9 : Nat) (k6 : Nat) (so : Int32) (x54_i125 : Nat) (x54_F75 : Nat → Int32) (H : Heap) (locs : List Loc) (ls : Array Slot), (k6 ≤ vn) → (x54_i125 ≤ 30000) →  (vn < k6 + n9) → va_P (dC, dI) vwCl (WR a k h0 (fT (fT vi 0 0) 125 (nI x54_i125)) vj (fT vF 75 x54_F75) vG) H → va_D A (WR a k h0 (fT (fT vi 0 0) 125 (nI x54_i125)) vj (fT vF 75 x54_F75) vG) → va_S A s.heap H locs → lv_has ls 4 [(0, .ref h0), (1, .int (nI d5)), (2, .int so), (3, .int (nI k6))] → W p l e _ s m _ below meth c H locs 0 0 _ (F0 m 245 ls [])) => loop (vn + 1) 0 0 p2238 f75238 _ _ _ (by omega) (by first | with_reducible assumption | omega | assumption) (by omega) hP hD hS hl) ?_
                intro n9
                induction n9 with
                | zero => intro k6 so x54_i125 x54_F75 H locs ls hk6 hx54_i125 hf9; exact False.elim (by omega)
                | succ n9 ih245_4 =>
                  intro k6 so x54_i125 x54_F75 H locs ls hk6 hx54_i125 hf245_4 hP hD hS hl
                  refine lv_iload_n hx hb dX12_write_245 rfl (lv_at hl 3 rfl) ?_
                  refine lv_aload_n hx hb dX12_write_246 rfl (lv_at hl 0 rfl) ?_
                  refine va_get (D := (dC, dI)) (ci := 12) (v := .int (vi 90)) (C := RX12) (T := TX12) (N := 163) (fs := fM (vS a (fT (fT vi 0 0) 125 (nI x54_i125)) vj)) hx hb hts iwsRX12_write_in12 hown hK hP 0 rfl rfl 90 (by decide) (hts _ hm_r_X12_write_2) (fun _ h9 => h9) rfl dX12_write_247 ?_
                  refine lv_topi (fun y5 hy5 => ?_)
                  obtain rfl : (nI vn) = y5 := (hy5.trans (hvn)).symm
                  refine lv_icmp_ge (tgt := 310) hx hb dX12_write_250 (by decide) (fun c_250 => ?_) (fun c_250 => ?_)
                  · have t_250 : ((k6 : Nat) : Int) ≥ ((vn : Nat) : Int) := toI_ge c_250 (nI_toInt (by omega)) (nI_toInt (by omega))
                    refine lv_aload_n hx hb dX12_write_310 rfl (lv_at hl 0 rfl) ?_
                    have hFc := allFree hD hS hA
                    refine va_callv (va_runV (As := []) (rest := []) ⟨hx, hb, hml, hown, hts⟩ (r_X12_endLine l dC dI a k h0 (fT (fT vi 0 0) 125 (nI x54_i125)) vj (fT vF 75 x54_F75) vG x54_i125 rfl (by first | with_reducible assumption | decide | omega | rfl | assumption) H.size) (cwV 0 hts gwsRX12_write_1 rfl rfl rfl hd_yX12_endLine_RX12 (by decide +kernel)) (fz_pre (va_recv hK hP (ci := 12) (q0 := 0) rfl rfl) hP hK hD) rfl rfl hl.1 rfl (lv_room (Nat.le_of_ble_eq_true rfl)) dX12_write_311 (by decide +kernel)) hS (fun q _ h => hFc q h) hFc (fun u t9_ H locs ht hvm hw9 hB9 hz1 hk1 hS => ?_)
                    revert u hw9 hB9
                    refine fz_p2 ?_
                    intro p2311 f75311 hw9 hB9
                    try dsimp only at hw9 hB9
                    have e9i : fT (fT vi 0 0) 125 (nI p2311) = fT (fT (fT vi 0 0) 125 (nI x54_i125)) 125 (nI p2311) := (fT_sm _ _ _ _).symm
                    have e9F : fT vF 75 f75311 = fT (fT vF 75 x54_F75) 75 f75311 := (fT_sm _ _ _ _).symm
                    have hP := wr_PF e9F (wr_Pi e9i (fz_P ht hB9.1))
                    have hD := wr_DF e9F (wr_Di e9i (hB9.2.weaken (fun _ q _ h => hFc q.1 h)))
                    clear e9i e9F
                    have f311_0 := hw9
                    try dsimp only at f311_0
                    refine lv_iinc (v := (nI (d5 + 1))) hx hb dX12_write_314 hl (k := 1) rfl (nI_add d5 1) (by decide) rfl (fun ls (hl : lv_has ls _ ([(1, .int (nI (d5 + 1))), (0, .ref h0), (2, .int so), (3, .int (nI k6))])) => ?_)
                    refine lv_goto (tgt := 225) hx hb dX12_write_317 (by decide) ?_
                    have hl : lv_has _ _ ([(0, .ref h0), (1, .int (nI (d5 + 1)))]) := lv_sub hl [1, 0] rfl
                    exact ih225_2 (d5 + 1) p2311 f75311 _ _ _ (by omega) (by first | with_reducible assumption | omega | assumption) (by omega) hP hD hS hl
                  · have t_250 : ¬ ((k6 : Nat) : Int) ≥ ((vn : Nat) : Int) := toI_nge c_250 (nI_toInt (by omega)) (nI_toInt (by omega))
                    refine lv_aload_n hx hb dX12_write_253 rfl (lv_at hl 0 rfl) ?_
                    refine va_get (D := (dC, dI)) (ci := 12) (v := .ref (a 62)) (C := RX12) (T := TX12) (N := 163) (fs := fM (vS a (fT (fT vi 0 0) 125 (nI x54_i125)) vj)) hx hb hts iwsRX12_write_in12 hown hK hP 0 rfl rfl 102 (by decide) (hts (.fieldLink RX12 209 "OptimaWorksModel" "differentSet" "[I") (by decide +kernel)) (fun _ h9 => h9) rfl dX12_write_254 ?_
                    refine lv_iload_n hx hb dX12_write_257 rfl (lv_at hl 1 rfl) ?_
                    refine va_iald (cA := k 62) (n := 9) (f := (vF 62)) hx hb hK hP 63 62 (WR_get 62 (by decide)) (TR_get 62 (by decide)) (vp_in_nI (show d5 < 9 by omega) (by omega)) dX12_write_258 ?_
                    refine lv_topi (fun y6 hy6 => ?_)
                    obtain rfl : ((vF 62) d5) = y6 := (hy6.trans (by rw [nI_clamp (by omega)])).symm
                    refine lv_iload_n hx hb dX12_write_259 rfl (lv_at hl 3 rfl) ?_
                    refine lv_ishr hx hb dX12_write_260 ?_
                    refine lv_iconst (v := 1) hx hb dX12_write_261 (by decide) ?_
                    refine lv_iand hx hb dX12_write_262 ?_
                    refine lv_if_ne (tgt := 269) hx hb dX12_write_263 (by decide) (fun c_263 => ?_) (fun c_263 => ?_)
                    · have t_263 : (((((vF 62) d5) >>> ((nI k6) &&& 31)) &&& 1)).toInt ≠ 0 := toI_ne c_263 rfl (by decide)
                      refine lv_aload_n hx hb dX12_write_269 rfl (lv_at hl 0 rfl) ?_
                      refine lv_bipush (v := 32) hx hb dX12_write_270 (by decide) ?_
                      have hFc := allFree hD hS hA
                      refine va_callv (va_runV (As := [.int 32]) (rest := []) ⟨hx, hb, hml, hown, hts⟩ (r_X12_say l dC dI a k h0 (fT (fT vi 0 0) 125 (nI x54_i125)) vj (fT vF 75 x54_F75) vG 32 x54_i125 rfl (by first | with_reducible assumption | decide | omega | rfl | assumption) H.size) (cwV 1 hts gwsRX12_write_3 rfl rfl rfl hd_yX12_say_RX12 (by decide +kernel)) (fz_pre (va_recv hK hP (ci := 12) (q0 := 0) rfl rfl) hP hK hD) rfl rfl hl.1 rfl (lv_room (Nat.le_of_ble_eq_true rfl)) dX12_write_272 (by decide +kernel)) hS (fun q _ h => hFc q h) hFc (fun u t9_ H locs ht hvm hw9 hB9 hz1 hk1 hS => ?_)
                      revert u hw9 hB9
                      refine fz_p2 ?_
                      intro p2272 f75272 hw9 hB9
                      try dsimp only at hw9 hB9
                      have e9i : fT (fT vi 0 0) 125 (nI p2272) = fT (fT (fT vi 0 0) 125 (nI x54_i125)) 125 (nI p2272) := (fT_sm _ _ _ _).symm
                      have e9F : fT vF 75 f75272 = fT (fT vF 75 x54_F75) 75 f75272 := (fT_sm _ _ _ _).symm
                      have hP := wr_PF e9F (wr_Pi e9i (fz_P ht hB9.1))
                      have hD := wr_DF e9F (wr_Di e9i (hB9.2.weaken (fun _ q _ h => hFc q.1 h)))
                      clear e9i e9F
                      revert hw9
                      refine fz_a3 ?_
                      intro f272_0 f272_1 f272_2
                      refine lv_iload_n hx hb dX12_write_275 rfl (lv_at hl 2 rfl) ?_
                      refine W.cut (pc := 291) (fun H locs ls stk => ∃ (j55_i125 : Nat) (j55_F75 : Nat → Int32), (j55_i125 ≤ 30000) ∧  stk = [] ∧ va_P (dC, dI) vwCl (WR a k h0 (fT (fT vi 0 0) 125 (nI j55_i125)) vj (fT vF 75 j55_F75) vG) H ∧ va_D A (WR a k h0 (fT (fT vi 0 0) 125 (nI j55_i125)) vj (fT vF 75 j55_F75) vG) ∧ va_S A s.heap H locs ∧ lv_has ls 4 [(0, .ref h0), (1, .int (nI d5)), (2, .int so), (3, .int (nI k6))]) (fun join1 => ?_) ?_
                      · refine lv_if_eq (tgt := 291) hx hb dX12_write_276 (by decide) (fun c_276 => ?_) (fun c_276 => ?_)
                        · have t_276 : (so).toInt = 0 := toI_eq c_276 rfl (by decide)
                          have hl : lv_has _ _ ([(0, .ref h0), (1, .int (nI d5)), (2, .int so), (3, .int (nI k6))]) := lv_sub hl [0, 1, 2, 3] rfl
                          exact join1 _ _ _ _ ⟨p2272, f75272, by first | assumption | omega, rfl, hP, hD, hS, hl⟩
                        · have t_276 : ¬ (so).toInt = 0 := toI_neq c_276 rfl (by decide)
                          refine lv_aload_n hx hb dX12_write_279 rfl (lv_at hl 0 rfl) ?_
                          refine lv_bipush (v := 44) hx hb dX12_write_280 (by decide) ?_
                          have hFc := allFree hD hS hA
                          refine va_callv (va_runV (As := [.int 44]) (rest := []) ⟨hx, hb, hml, hown, hts⟩ (r_X12_say l dC dI a k h0 (fT (fT vi 0 0) 125 (nI p2272)) vj (fT vF 75 f75272) vG 44 p2272 rfl (by first | with_reducible assumption | decide | omega | rfl | assumption) H.size) (cwV 1 hts gwsRX12_write_3 rfl rfl rfl hd_yX12_say_RX12 (by decide +kernel)) (fz_pre (va_recv hK hP (ci := 12) (q0 := 0) rfl rfl) hP hK hD) rfl rfl hl.1 rfl (lv_room (Nat.le_of_ble_eq_true rfl)) dX12_write_282 (by decide +kernel)) hS (fun q _ h => hFc q h) hFc (fun u t9_ H locs ht hvm hw9 hB9 hz1 hk1 hS => ?_)
                          revert u hw9 hB9
                          refine fz_p2 ?_
                          intro p2282 f75282 hw9 hB9
                          try dsimp only at hw9 hB9
                          have e9i : fT (fT vi 0 0) 125 (nI p2282) = fT (fT (fT vi 0 0) 125 (nI p2272)) 125 (nI p2282) := (fT_sm _ _ _ _).symm
                          have e9F : fT vF 75 f75282 = fT (fT vF 75 f75272) 75 f75282 := (fT_sm _ _ _ _).symm
                          have hP := wr_PF e9F (wr_Pi e9i (fz_P ht hB9.1))
                          have hD := wr_DF e9F (wr_Di e9i (hB9.2.weaken (fun _ q _ h => hFc q.1 h)))
                          clear e9i e9F
                          revert hw9
                          refine fz_a3 ?_
                          intro f282_0 f282_1 f282_2
                          refine lv_aload_n hx hb dX12_write_285 rfl (lv_at hl 0 rfl) ?_
                          refine lv_bipush (v := 32) hx hb dX12_write_286 (by decide) ?_
                          have hFc := allFree hD hS hA
                          refine va_callv (va_runV (As := [.int 32]) (rest := []) ⟨hx, hb, hml, hown, hts⟩ (r_X12_say l dC dI a k h0 (fT (fT vi 0 0) 125 (nI p2282)) vj (fT vF 75 f75282) vG 32 p2282 rfl (by first | with_reducible assumption | decide | omega | rfl | assumption) H.size) (cwV 1 hts gwsRX12_write_3 rfl rfl rfl hd_yX12_say_RX12 (by decide +kernel)) (fz_pre (va_recv hK hP (ci := 12) (q0 := 0) rfl rfl) hP hK hD) rfl rfl hl.1 rfl (lv_room (Nat.le_of_ble_eq_true rfl)) dX12_write_288 (by decide +kernel)) hS (fun q _ h => hFc q h) hFc (fun u t9_ H locs ht hvm hw9 hB9 hz1 hk1 hS => ?_)
                          revert u hw9 hB9
                          refine fz_p2 ?_
                          intro p2288 f75288 hw9 hB9
                          try dsimp only at hw9 hB9
                          have e9i : fT (fT vi 0 0) 125 (nI p2288) = fT (fT (fT vi 0 0) 125 (nI p2282)) 125 (nI p2288) := (fT_sm _ _ _ _).symm
                          have e9F : fT vF 75 f75288 = fT (fT vF 75 f75282) 75 f75288 := (fT_sm _ _ _ _).symm
                          have hP := wr_PF e9F (wr_Pi e9i (fz_P ht hB9.1))
                          have hD := wr_DF e9F (wr_Di e9i (hB9.2.weaken (fun _ q _ h => hFc q.1 h)))
                          clear e9i e9F
                          revert hw9
                          refine fz_a3 ?_
                          intro f288_0 f288_1 f288_2
                          have hl : lv_has _ _ ([(0, .ref h0), (1, .int (nI d5)), (2, .int so), (3, .int (nI k6))]) := lv_sub hl [0, 1, 2, 3] rfl
                          exact join1 _ _ _ _ ⟨p2288, f75288, by first | assumption | omega, rfl, hP, hD, hS, hl⟩
                      · rintro H locs ls stk ⟨j55_i125, j55_F75, hj55_i125, rfl, hP, hD, hS, hl⟩
                        refine lv_aload_n hx hb dX12_write_291 rfl (lv_at hl 0 rfl) ?_
                        refine lv_bipush (v := 120) hx hb dX12_write_292 (by decide) ?_
                        have hFc := allFree hD hS hA
                        refine va_callv (va_runV (As := [.int 120]) (rest := []) ⟨hx, hb, hml, hown, hts⟩ (r_X12_say l dC dI a k h0 (fT (fT vi 0 0) 125 (nI j55_i125)) vj (fT vF 75 j55_F75) vG 120 j55_i125 rfl (by first | with_reducible assumption | decide | omega | rfl | assumption) H.size) (cwV 1 hts gwsRX12_write_3 rfl rfl rfl hd_yX12_say_RX12 (by decide +kernel)) (fz_pre (va_recv hK hP (ci := 12) (q0 := 0) rfl rfl) hP hK hD) rfl rfl hl.1 rfl (lv_room (Nat.le_of_ble_eq_true rfl)) dX12_write_294 (by decide +kernel)) hS (fun q _ h => hFc q h) hFc (fun u t9_ H locs ht hvm hw9 hB9 hz1 hk1 hS => ?_)
                        revert u hw9 hB9
                        refine fz_p2 ?_
                        intro p2294 f75294 hw9 hB9
                        try dsimp only at hw9 hB9
                        have e9i : fT (fT vi 0 0) 125 (nI p2294) = fT (fT (fT vi 0 0) 125 (nI j55_i125)) 125 (nI p2294) := (fT_sm _ _ _ _).symm
                        have e9F : fT vF 75 f75294 = fT (fT vF 75 j55_F75) 75 f75294 := (fT_sm _ _ _ _).symm
                        have hP := wr_PF e9F (wr_Pi e9i (fz_P ht hB9.1))
                        have hD := wr_DF e9F (wr_Di e9i (hB9.2.weaken (fun _ q _ h => hFc q.1 h)))
                        clear e9i e9F
                        revert hw9
                        refine fz_a3 ?_
                        intro f294_0 f294_1 f294_2
                        refine lv_aload_n hx hb dX12_write_297 rfl (lv_at hl 0 rfl) ?_
                        refine lv_iload_n hx hb dX12_write_298 rfl (lv_at hl 3 rfl) ?_
                        have hFc := allFree hD hS hA
                        refine va_callv (va_runV (As := [.int (nI k6)]) (rest := []) ⟨hx, hb, hml, hown, hts⟩ (r_X12_sayNumber l dC dI a k h0 (fT (fT vi 0 0) 125 (nI p2294)) vj (fT vF 75 f75294) vG (nI k6) p2294 rfl (by first | with_reducible assumption | decide | omega | rfl | assumption) (by rw [nI_toInt (by omega)]; omega) H.size) (cwV 1 hts gwsRX12_write_4 rfl rfl rfl hd_yX12_sayNumber_RX12 (by decide +kernel)) (fz_pre (va_recv hK hP (ci := 12) (q0 := 0) rfl rfl) hP hK hD) rfl rfl hl.1 rfl (lv_room (Nat.le_of_ble_eq_true rfl)) dX12_write_299 (by decide +kernel)) hS (fun q _ h => hFc q h) hFc (fun u t9_ H locs ht hvm hw9 hB9 hz1 hk1 hS => ?_)
                        revert u hw9 hB9
                        refine fz_p2 ?_
                        intro p2299 f75299 hw9 hB9
                        try dsimp only at hw9 hB9
                        have e9i : fT (fT vi 0 0) 125 (nI p2299) = fT (fT (fT vi 0 0) 125 (nI p2294)) 125 (nI p2299) := (fT_sm _ _ _ _).symm
                        have e9F : fT vF 75 f75299 = fT (fT vF 75 f75294) 75 f75299 := (fT_sm _ _ _ _).symm
                        have hP := wr_PF e9F (wr_Pi e9i (fz_P ht hB9.1))
                        have hD := wr_DF e9F (wr_Di e9i (hB9.2.weaken (fun _ q _ h => hFc q.1 h)))
                        clear e9i e9F
                        have f299_0 := hw9
                        try dsimp only at f299_0
                        refine lv_iconst (v := 1) hx hb dX12_write_302 (by decide) ?_
                        refine lv_istore_n hx hb dX12_write_303 rfl hl (by decide) rfl (fun ls (hl : lv_has ls _ ([(2, .int 1), (0, .ref h0), (1, .int (nI d5)), (3, .int (nI k6))])) => ?_)
                        refine lv_iinc (v := (nI (k6 + 1))) hx hb dX12_write_304 hl (k := 3) rfl (nI_add k6 1) (by decide) rfl (fun ls (hl : lv_has ls _ ([(3, .int (nI (k6 + 1))), (2, .int 1), (0, .ref h0), (1, .int (nI d5))])) => ?_)
                        refine lv_goto (tgt := 245) hx hb dX12_write_307 (by decide) ?_
                        have hl : lv_has _ _ ([(0, .ref h0), (1, .int (nI d5)), (2, .int 1), (3, .int (nI (k6 + 1)))]) := lv_sub hl [2, 3, 1, 0] rfl
                        exact ih245_4 (k6 + 1) 1 p2299 f75299 _ _ _ (by omega) (by first | with_reducible assumption | omega | assumption) (by omega) hP hD hS hl
                    · have t_263 : (((((vF 62) d5) >>> ((nI k6) &&& 31)) &&& 1)).toInt = 0 := toI_nne c_263 rfl (by decide)
                      refine lv_goto (tgt := 304) hx hb dX12_write_266 (by decide) ?_
                      refine lv_iinc (v := (nI (k6 + 1))) hx hb dX12_write_304 hl (k := 3) rfl (nI_add k6 1) (by decide) rfl (fun ls (hl : lv_has ls _ ([(3, .int (nI (k6 + 1))), (0, .ref h0), (1, .int (nI d5)), (2, .int so)])) => ?_)
                      refine lv_goto (tgt := 245) hx hb dX12_write_307 (by decide) ?_
                      have hl : lv_has _ _ ([(0, .ref h0), (1, .int (nI d5)), (2, .int so), (3, .int (nI (k6 + 1)))]) := lv_sub hl [1, 2, 3, 0] rfl
                      exact ih245_4 (k6 + 1) so x54_i125 x54_F75 _ _ _ (by omega) (by first | with_reducible assumption | omega | assumption) (by omega) hP hD hS hl
          · have t_134 : ¬ ((r5 : Nat) : Int) ≥ ((mr : Nat) : Int) := toI_nge c_134 (nI_toInt (by omega)) (nI_toInt (by omega))
            refine lv_aload_n hx hb dX12_write_137 rfl (lv_at hl 0 rfl) ?_
            refine lv_bipush (v := 20) hx hb dX12_write_138 (by decide) ?_
            refine lv_bipush (v := 25) hx hb dX12_write_140 (by decide) ?_
            have hFc := allFree hD hS hA
            refine va_callv (va_runV (As := [.int 20, .int 25]) (rest := []) ⟨hx, hb, hml, hown, hts⟩ (r_X12_sayText l dC dI a k h0 (fT (fT vi 0 0) 125 (nI x46_i125)) vj (fT vF 75 x46_F75) vG 20 25 x46_i125 rfl (by first | with_reducible assumption | decide | omega | rfl | assumption) (by first | with_reducible assumption | decide | omega | rfl | assumption) (by first | with_reducible assumption | decide | omega | rfl | assumption) H.size) (cwV 2 hts gwsRX12_write_2 rfl rfl rfl hd_yX12_sayText_RX12 (by decide +kernel)) (fz_preE (va_recv hK hP (ci := 12) (q0 := 0) rfl rfl) hP hK hD (fun a U g mk qE => qE.same rfl) (fun U hU9 hW => by rw [hU9]; exact (((hE : StrA A s s.heap).kept hS.2.1).narrow (fun q h => hFc q h)).warm hW)) rfl rfl hl.1 rfl (lv_room (Nat.le_of_ble_eq_true rfl)) dX12_write_142 (by decide +kernel)) hS (fun q _ h => hFc q h) hFc (fun u t9_ H locs ht hvm hw9 hB9 hz1 hk1 hS => ?_)
            revert u hw9 hB9
            refine fz_p2 ?_
            intro p2142 f75142 hw9 hB9
            try dsimp only at hw9 hB9
            have e9i : fT (fT vi 0 0) 125 (nI p2142) = fT (fT (fT vi 0 0) 125 (nI x46_i125)) 125 (nI p2142) := (fT_sm _ _ _ _).symm
            have e9F : fT vF 75 f75142 = fT (fT vF 75 x46_F75) 75 f75142 := (fT_sm _ _ _ _).symm
            have hP := wr_PF e9F (wr_Pi e9i (fz_P ht hB9.1))
            have hD := wr_DF e9F (wr_Di e9i (hB9.2.weaken (fun _ q _ h => hFc q.1 h)))
            clear e9i e9F
            have f142_0 := hw9
            try dsimp only at f142_0
            refine lv_aload_n hx hb dX12_write_145 rfl (lv_at hl 0 rfl) ?_
            refine lv_iload_n hx hb dX12_write_146 rfl (lv_at hl 1 rfl) ?_
            have hFc := allFree hD hS hA
            refine va_callv (va_runV (As := [.int (nI r5)]) (rest := []) ⟨hx, hb, hml, hown, hts⟩ (r_X12_sayNumber l dC dI a k h0 (fT (fT vi 0 0) 125 (nI p2142)) vj (fT vF 75 f75142) vG (nI r5) p2142 rfl (by first | with_reducible assumption | decide | omega | rfl | assumption) (by rw [nI_toInt (by omega)]; omega) H.size) (cwV 1 hts gwsRX12_write_4 rfl rfl rfl hd_yX12_sayNumber_RX12 (by decide +kernel)) (fz_pre (va_recv hK hP (ci := 12) (q0 := 0) rfl rfl) hP hK hD) rfl rfl hl.1 rfl (lv_room (Nat.le_of_ble_eq_true rfl)) dX12_write_147 (by decide +kernel)) hS (fun q _ h => hFc q h) hFc (fun u t9_ H locs ht hvm hw9 hB9 hz1 hk1 hS => ?_)
            revert u hw9 hB9
            refine fz_p2 ?_
            intro p2147 f75147 hw9 hB9
            try dsimp only at hw9 hB9
            have e9i : fT (fT vi 0 0) 125 (nI p2147) = fT (fT (fT vi 0 0) 125 (nI p2142)) 125 (nI p2147) := (fT_sm _ _ _ _).symm
            have e9F : fT vF 75 f75147 = fT (fT vF 75 f75142) 75 f75147 := (fT_sm _ _ _ _).symm
            have hP := wr_PF e9F (wr_Pi e9i (fz_P ht hB9.1))
            have hD := wr_DF e9F (wr_Di e9i (hB9.2.weaken (fun _ q _ h => hFc q.1 h)))
            clear e9i e9F
            have f147_0 := hw9
            try dsimp only at f147_0
            refine lv_aload_n hx hb dX12_write_150 rfl (lv_at hl 0 rfl) ?_
            refine lv_bipush (v := 32) hx hb dX12_write_151 (by decide) ?_
            have hFc := allFree hD hS hA
            refine va_callv (va_runV (As := [.int 32]) (rest := []) ⟨hx, hb, hml, hown, hts⟩ (r_X12_say l dC dI a k h0 (fT (fT vi 0 0) 125 (nI p2147)) vj (fT vF 75 f75147) vG 32 p2147 rfl (by first | with_reducible assumption | decide | omega | rfl | assumption) H.size) (cwV 1 hts gwsRX12_write_3 rfl rfl rfl hd_yX12_say_RX12 (by decide +kernel)) (fz_pre (va_recv hK hP (ci := 12) (q0 := 0) rfl rfl) hP hK hD) rfl rfl hl.1 rfl (lv_room (Nat.le_of_ble_eq_true rfl)) dX12_write_153 (by decide +kernel)) hS (fun q _ h => hFc q h) hFc (fun u t9_ H locs ht hvm hw9 hB9 hz1 hk1 hS => ?_)
            revert u hw9 hB9
            refine fz_p2 ?_
            intro p2153 f75153 hw9 hB9
            try dsimp only at hw9 hB9
            have e9i : fT (fT vi 0 0) 125 (nI p2153) = fT (fT (fT vi 0 0) 125 (nI p2147)) 125 (nI p2153) := (fT_sm _ _ _ _).symm
            have e9F : fT vF 75 f75153 = fT (fT vF 75 f75147) 75 f75153 := (fT_sm _ _ _ _).symm
            have hP := wr_PF e9F (wr_Pi e9i (fz_P ht hB9.1))
            have hD := wr_DF e9F (wr_Di e9i (hB9.2.weaken (fun _ q _ h => hFc q.1 h)))
            clear e9i e9F
            revert hw9
            refine fz_a3 ?_
            intro f153_0 f153_1 f153_2
            refine lv_aload_n hx hb dX12_write_156 rfl (lv_at hl 0 rfl) ?_
            refine lv_bipush (v := 26) hx hb dX12_write_157 (by decide) ?_
            refine lv_bipush (v := 28) hx hb dX12_write_159 (by decide) ?_
            have hFc := allFree hD hS hA
            refine va_callv (va_runV (As := [.int 26, .int 28]) (rest := []) ⟨hx, hb, hml, hown, hts⟩ (r_X12_sayText l dC dI a k h0 (fT (fT vi 0 0) 125 (nI p2153)) vj (fT vF 75 f75153) vG 26 28 p2153 rfl (by first | with_reducible assumption | decide | omega | rfl | assumption) (by first | with_reducible assumption | decide | omega | rfl | assumption) (by first | with_reducible assumption | decide | omega | rfl | assumption) H.size) (cwV 2 hts gwsRX12_write_2 rfl rfl rfl hd_yX12_sayText_RX12 (by decide +kernel)) (fz_preE (va_recv hK hP (ci := 12) (q0 := 0) rfl rfl) hP hK hD (fun a U g mk qE => qE.same rfl) (fun U hU9 hW => by rw [hU9]; exact (((hE : StrA A s s.heap).kept hS.2.1).narrow (fun q h => hFc q h)).warm hW)) rfl rfl hl.1 rfl (lv_room (Nat.le_of_ble_eq_true rfl)) dX12_write_161 (by decide +kernel)) hS (fun q _ h => hFc q h) hFc (fun u t9_ H locs ht hvm hw9 hB9 hz1 hk1 hS => ?_)
            revert u hw9 hB9
            refine fz_p2 ?_
            intro p2161 f75161 hw9 hB9
            try dsimp only at hw9 hB9
            have e9i : fT (fT vi 0 0) 125 (nI p2161) = fT (fT (fT vi 0 0) 125 (nI p2153)) 125 (nI p2161) := (fT_sm _ _ _ _).symm
            have e9F : fT vF 75 f75161 = fT (fT vF 75 f75153) 75 f75161 := (fT_sm _ _ _ _).symm
            have hP := wr_PF e9F (wr_Pi e9i (fz_P ht hB9.1))
            have hD := wr_DF e9F (wr_Di e9i (hB9.2.weaken (fun _ q _ h => hFc q.1 h)))
            clear e9i e9F
            have f161_0 := hw9
            try dsimp only at f161_0
            obtain ⟨wk, ewk, hwk1, hwk3⟩ := hwm r5 (by omega)
            refine lv_iconst (v := 0) hx hb dX12_write_164 (by decide) ?_
            refine lv_istore_n hx hb dX12_write_165 rfl hl (by decide) rfl (fun ls (hl : lv_has ls _ ([(2, .int 0), (0, .ref h0), (1, .int (nI r5))])) => ?_)
            have hl : lv_has _ _ ([(0, .ref h0), (1, .int (nI r5)), (2, .int (nI 0))]) := lv_sub hl [1, 2, 0] rfl
            refine (fun (loop : ∀ (n9 : Nat) (w5 : Nat) (x58_i125 : Nat) (x58_F75 : Nat → Int32) (H : Heap) (locs : List Loc) (ls : Array Slot), (w5 ≤ wk) → (x58_i125 ≤ 30000) →  (wk < w5 + n9) → va_P (dC, dI) vwCl (WR a k h0 (fT (fT vi 0 0) 125 (nI x58_i125)) vj (fT vF 75 x58_F75) vG) H → va_D A (WR a k h0 (fT (fT vi 0 0) 125 (nI x58_i125)) vj (fT vF 75 x58_F75) vG) → va_S A s.heap H locs → lv_has ls 4 [(0, .ref h0), (1, .int (nI r5)), (2, .int (nI w5))] → W p l e _ s m _ below meth c H locs 0 0 _ (F0 m 166 ls [])) => loop (wk + 1) 0 p2161 f75161 _ _ _ (by omega) (by first | with_reducible assumption | omega | assumption) (by omega) hP hD hS hl) ?_
            intro n9
            induction n9 with
            | zero => intro w5 x58_i125 x58_F75 H locs ls hw5 hx58_i125 hf9; exact False.elim (by omega)
            | succ n9 ih166_5 =>
              intro w5 x58_i125 x58_F75 H locs ls hw5 hx58_i125 hf166_5 hP hD hS hl
              refine lv_iload_n hx hb dX12_write_166 rfl (lv_at hl 2 rfl) ?_
              refine lv_aload_n hx hb dX12_write_167 rfl (lv_at hl 0 rfl) ?_
              refine va_get (D := (dC, dI)) (ci := 12) (v := .ref (a 59)) (C := RX12) (T := TX12) (N := 163) (fs := fM (vS a (fT (fT vi 0 0) 125 (nI x58_i125)) vj)) hx hb hts iwsRX12_write_in12 hown hK hP 0 rfl rfl 99 (by decide) (hts (.fieldLink RX12 200 "OptimaWorksModel" "wayMany" "[I") (by decide +kernel)) (fun _ h9 => h9) rfl dX12_write_168 ?_
              refine lv_iload_n hx hb dX12_write_171 rfl (lv_at hl 1 rfl) ?_
              refine va_iald (cA := k 59) (n := 13) (f := (vF 59)) hx hb hK hP 60 59 (WR_get 59 (by decide)) (TR_get 59 (by decide)) (vp_in_nI (show r5 < 13 by omega) (by omega)) dX12_write_172 ?_
              refine lv_topi (fun y7 hy7 => ?_)
              obtain rfl : ((vF 59) r5) = y7 := (hy7.trans (by rw [nI_clamp (by omega)])).symm
              refine lv_topi (fun y8 hy8 => ?_)
              obtain rfl : (nI wk) = y8 := (hy8.trans (ewk)).symm
              refine lv_icmp_ge (tgt := 213) hx hb dX12_write_173 (by decide) (fun c_173 => ?_) (fun c_173 => ?_)
              · have t_173 : ((w5 : Nat) : Int) ≥ ((wk : Nat) : Int) := toI_ge c_173 (nI_toInt (by omega)) (nI_toInt (by omega))
                refine lv_aload_n hx hb dX12_write_213 rfl (lv_at hl 0 rfl) ?_
                have hFc := allFree hD hS hA
                refine va_callv (va_runV (As := []) (rest := []) ⟨hx, hb, hml, hown, hts⟩ (r_X12_endLine l dC dI a k h0 (fT (fT vi 0 0) 125 (nI x58_i125)) vj (fT vF 75 x58_F75) vG x58_i125 rfl (by first | with_reducible assumption | decide | omega | rfl | assumption) H.size) (cwV 0 hts gwsRX12_write_1 rfl rfl rfl hd_yX12_endLine_RX12 (by decide +kernel)) (fz_pre (va_recv hK hP (ci := 12) (q0 := 0) rfl rfl) hP hK hD) rfl rfl hl.1 rfl (lv_room (Nat.le_of_ble_eq_true rfl)) dX12_write_214 (by decide +kernel)) hS (fun q _ h => hFc q h) hFc (fun u t9_ H locs ht hvm hw9 hB9 hz1 hk1 hS => ?_)
                revert u hw9 hB9
                refine fz_p2 ?_
                intro p2214 f75214 hw9 hB9
                try dsimp only at hw9 hB9
                have e9i : fT (fT vi 0 0) 125 (nI p2214) = fT (fT (fT vi 0 0) 125 (nI x58_i125)) 125 (nI p2214) := (fT_sm _ _ _ _).symm
                have e9F : fT vF 75 f75214 = fT (fT vF 75 x58_F75) 75 f75214 := (fT_sm _ _ _ _).symm
                have hP := wr_PF e9F (wr_Pi e9i (fz_P ht hB9.1))
                have hD := wr_DF e9F (wr_Di e9i (hB9.2.weaken (fun _ q _ h => hFc q.1 h)))
                clear e9i e9F
                have f214_0 := hw9
                try dsimp only at f214_0
                refine lv_iinc (v := (nI (r5 + 1))) hx hb dX12_write_217 hl (k := 1) rfl (nI_add r5 1) (by decide) rfl (fun ls (hl : lv_has ls _ ([(1, .int (nI (r5 + 1))), (0, .ref h0), (2, .int (nI w5))])) => ?_)
                refine lv_goto (tgt := 129) hx hb dX12_write_220 (by decide) ?_
                have hl : lv_has _ _ ([(0, .ref h0), (1, .int (nI (r5 + 1)))]) := lv_sub hl [1, 0] rfl
                exact ih129_1 (r5 + 1) p2214 f75214 _ _ _ (by omega) (by first | with_reducible assumption | omega | assumption) (by omega) hP hD hS hl
              · have t_173 : ¬ ((w5 : Nat) : Int) ≥ ((wk : Nat) : Int) := toI_nge c_173 (nI_toInt (by omega)) (nI_toInt (by omega))
                refine lv_iload_n hx hb dX12_write_176 rfl (lv_at hl 2 rfl) ?_
                refine W.cut (pc := 186) (fun H locs ls stk => ∃ (j59_i125 : Nat) (j59_F75 : Nat → Int32), (j59_i125 ≤ 30000) ∧  stk = [] ∧ va_P (dC, dI) vwCl (WR a k h0 (fT (fT vi 0 0) 125 (nI j59_i125)) vj (fT vF 75 j59_F75) vG) H ∧ va_D A (WR a k h0 (fT (fT vi 0 0) 125 (nI j59_i125)) vj (fT vF 75 j59_F75) vG) ∧ va_S A s.heap H locs ∧ lv_has ls 4 [(0, .ref h0), (1, .int (nI r5)), (2, .int (nI w5))]) (fun join2 => ?_) ?_
                · refine lv_if_le (tgt := 186) hx hb dX12_write_177 (by decide) (fun c_177 => ?_) (fun c_177 => ?_)
                  · have t_177 : ((w5 : Nat) : Int) ≤ 0 := toI_le c_177 (nI_toInt (by omega)) (by decide)
                    have hl : lv_has _ _ ([(0, .ref h0), (1, .int (nI r5)), (2, .int (nI w5))]) := lv_sub hl [0, 1, 2] rfl
                    exact join2 _ _ _ _ ⟨x58_i125, x58_F75, by first | assumption | omega, rfl, hP, hD, hS, hl⟩
                  · have t_177 : ¬ ((w5 : Nat) : Int) ≤ 0 := toI_nle c_177 (nI_toInt (by omega)) (by decide)
                    refine lv_aload_n hx hb dX12_write_180 rfl (lv_at hl 0 rfl) ?_
                    refine lv_bipush (v := 32) hx hb dX12_write_181 (by decide) ?_
                    have hFc := allFree hD hS hA
                    refine va_callv (va_runV (As := [.int 32]) (rest := []) ⟨hx, hb, hml, hown, hts⟩ (r_X12_say l dC dI a k h0 (fT (fT vi 0 0) 125 (nI x58_i125)) vj (fT vF 75 x58_F75) vG 32 x58_i125 rfl (by first | with_reducible assumption | decide | omega | rfl | assumption) H.size) (cwV 1 hts gwsRX12_write_3 rfl rfl rfl hd_yX12_say_RX12 (by decide +kernel)) (fz_pre (va_recv hK hP (ci := 12) (q0 := 0) rfl rfl) hP hK hD) rfl rfl hl.1 rfl (lv_room (Nat.le_of_ble_eq_true rfl)) dX12_write_183 (by decide +kernel)) hS (fun q _ h => hFc q h) hFc (fun u t9_ H locs ht hvm hw9 hB9 hz1 hk1 hS => ?_)
                    revert u hw9 hB9
                    refine fz_p2 ?_
                    intro p2183 f75183 hw9 hB9
                    try dsimp only at hw9 hB9
                    have e9i : fT (fT vi 0 0) 125 (nI p2183) = fT (fT (fT vi 0 0) 125 (nI x58_i125)) 125 (nI p2183) := (fT_sm _ _ _ _).symm
                    have e9F : fT vF 75 f75183 = fT (fT vF 75 x58_F75) 75 f75183 := (fT_sm _ _ _ _).symm
                    have hP := wr_PF e9F (wr_Pi e9i (fz_P ht hB9.1))
                    have hD := wr_DF e9F (wr_Di e9i (hB9.2.weaken (fun _ q _ h => hFc q.1 h)))
                    clear e9i e9F
                    revert hw9
                    refine fz_a3 ?_
                    intro f183_0 f183_1 f183_2
                    have hl : lv_has _ _ ([(0, .ref h0), (1, .int (nI r5)), (2, .int (nI w5))]) := lv_sub hl [0, 1, 2] rfl
                    exact join2 _ _ _ _ ⟨p2183, f75183, by first | assumption | omega, rfl, hP, hD, hS, hl⟩
                · rintro H locs ls stk ⟨j59_i125, j59_F75, hj59_i125, rfl, hP, hD, hS, hl⟩
                  refine lv_iload_n hx hb dX12_write_186 rfl (lv_at hl 2 rfl) ?_
                  refine W.cut (pc := 198) (fun H locs ls stk => ∃ (j60_i125 : Nat) (j60_F75 : Nat → Int32), (j60_i125 ≤ 30000) ∧  stk = [] ∧ va_P (dC, dI) vwCl (WR a k h0 (fT (fT vi 0 0) 125 (nI j60_i125)) vj (fT vF 75 j60_F75) vG) H ∧ va_D A (WR a k h0 (fT (fT vi 0 0) 125 (nI j60_i125)) vj (fT vF 75 j60_F75) vG) ∧ va_S A s.heap H locs ∧ lv_has ls 4 [(0, .ref h0), (1, .int (nI r5)), (2, .int (nI w5))]) (fun join3 => ?_) ?_
                  · refine lv_if_le (tgt := 198) hx hb dX12_write_187 (by decide) (fun c_187 => ?_) (fun c_187 => ?_)
                    · have t_187 : ((w5 : Nat) : Int) ≤ 0 := toI_le c_187 (nI_toInt (by omega)) (by decide)
                      have hl : lv_has _ _ ([(0, .ref h0), (1, .int (nI r5)), (2, .int (nI w5))]) := lv_sub hl [0, 1, 2] rfl
                      exact join3 _ _ _ _ ⟨j59_i125, j59_F75, by first | assumption | omega, rfl, hP, hD, hS, hl⟩
                    · have t_187 : ¬ ((w5 : Nat) : Int) ≤ 0 := toI_nle c_187 (nI_toInt (by omega)) (by decide)
                      refine lv_aload_n hx hb dX12_write_190 rfl (lv_at hl 0 rfl) ?_
                      refine lv_bipush (v := 28) hx hb dX12_write_191 (by decide) ?_
                      refine lv_bipush (v := 31) hx hb dX12_write_193 (by decide) ?_
                      have hFc := allFree hD hS hA
                      refine va_callv (va_runV (As := [.int 28, .int 31]) (rest := []) ⟨hx, hb, hml, hown, hts⟩ (r_X12_sayText l dC dI a k h0 (fT (fT vi 0 0) 125 (nI j59_i125)) vj (fT vF 75 j59_F75) vG 28 31 j59_i125 rfl (by first | with_reducible assumption | decide | omega | rfl | assumption) (by first | with_reducible assumption | decide | omega | rfl | assumption) (by first | with_reducible assumption | decide | omega | rfl | assumption) H.size) (cwV 2 hts gwsRX12_write_2 rfl rfl rfl hd_yX12_sayText_RX12 (by decide +kernel)) (fz_preE (va_recv hK hP (ci := 12) (q0 := 0) rfl rfl) hP hK hD (fun a U g mk qE => qE.same rfl) (fun U hU9 hW => by rw [hU9]; exact (((hE : StrA A s s.heap).kept hS.2.1).narrow (fun q h => hFc q h)).warm hW)) rfl rfl hl.1 rfl (lv_room (Nat.le_of_ble_eq_true rfl)) dX12_write_195 (by decide +kernel)) hS (fun q _ h => hFc q h) hFc (fun u t9_ H locs ht hvm hw9 hB9 hz1 hk1 hS => ?_)
                      revert u hw9 hB9
                      refine fz_p2 ?_
                      intro p2195 f75195 hw9 hB9
                      try dsimp only at hw9 hB9
                      have e9i : fT (fT vi 0 0) 125 (nI p2195) = fT (fT (fT vi 0 0) 125 (nI j59_i125)) 125 (nI p2195) := (fT_sm _ _ _ _).symm
                      have e9F : fT vF 75 f75195 = fT (fT vF 75 j59_F75) 75 f75195 := (fT_sm _ _ _ _).symm
                      have hP := wr_PF e9F (wr_Pi e9i (fz_P ht hB9.1))
                      have hD := wr_DF e9F (wr_Di e9i (hB9.2.weaken (fun _ q _ h => hFc q.1 h)))
                      clear e9i e9F
                      have f195_0 := hw9
                      try dsimp only at f195_0
                      have hl : lv_has _ _ ([(0, .ref h0), (1, .int (nI r5)), (2, .int (nI w5))]) := lv_sub hl [0, 1, 2] rfl
                      exact join3 _ _ _ _ ⟨p2195, f75195, by first | assumption | omega, rfl, hP, hD, hS, hl⟩
                  · rintro H locs ls stk ⟨j60_i125, j60_F75, hj60_i125, rfl, hP, hD, hS, hl⟩
                    refine lv_aload_n hx hb dX12_write_198 rfl (lv_at hl 0 rfl) ?_
                    refine lv_iconst (v := 3) hx hb dX12_write_199 (by decide) ?_
                    refine lv_iload_n hx hb dX12_write_200 rfl (lv_at hl 1 rfl) ?_
                    refine lv_imul hx hb dX12_write_201 ?_
                    refine lv_topi (fun y9 hy9 => ?_)
                    obtain rfl : (nI (3 * r5)) = y9 := (hy9.trans (pk_mul 3 r5)).symm
                    refine lv_iload_n hx hb dX12_write_202 rfl (lv_at hl 2 rfl) ?_
                    refine lv_iadd hx hb dX12_write_203 ?_
                    refine lv_topi (fun y10 hy10 => ?_)
                    obtain rfl : (nI ((3 * r5) + w5)) = y10 := (hy10.trans (nI_add (3 * r5) w5)).symm
                    have hFc := allFree hD hS hA
                    refine va_callv (va_runV (As := [.int (nI ((3 * r5) + w5))]) (rest := []) ⟨hx, hb, hml, hown, hts⟩ (r_X12_sayWay l dC dI a k h0 (fT (fT vi 0 0) 125 (nI j60_i125)) vj (fT vF 75 j60_F75) vG ((3 * r5) + w5) vn gq j60_i125 rfl (by first | with_reducible assumption | decide | omega | rfl | assumption) hvn (by first | with_reducible assumption | decide | omega | rfl | assumption) (by first | with_reducible assumption | decide | omega | rfl | assumption) (by omega) H.size) (cwV 1 hts gwsRX12_write_5 rfl rfl rfl hd_yX12_sayWay_RX12 (by decide +kernel)) (fz_pre (va_recv hK hP (ci := 12) (q0 := 0) rfl rfl) hP hK hD) rfl rfl hl.1 rfl (lv_room (Nat.le_of_ble_eq_true rfl)) dX12_write_204 (by decide +kernel)) hS (fun q _ h => hFc q h) hFc (fun u t9_ H locs ht hvm hw9 hB9 hz1 hk1 hS => ?_)
                    revert u hw9 hB9
                    refine fz_p2 ?_
                    intro p2204 f75204 hw9 hB9
                    try dsimp only at hw9 hB9
                    have e9i : fT (fT vi 0 0) 125 (nI p2204) = fT (fT (fT vi 0 0) 125 (nI j60_i125)) 125 (nI p2204) := (fT_sm _ _ _ _).symm
                    have e9F : fT vF 75 f75204 = fT (fT vF 75 j60_F75) 75 f75204 := (fT_sm _ _ _ _).symm
                    have hP := wr_PF e9F (wr_Pi e9i (fz_P ht hB9.1))
                    have hD := wr_DF e9F (wr_Di e9i (hB9.2.weaken (fun _ q _ h => hFc q.1 h)))
                    clear e9i e9F
                    have f204_0 := hw9
                    try dsimp only at f204_0
                    refine lv_iinc (v := (nI (w5 + 1))) hx hb dX12_write_207 hl (k := 2) rfl (nI_add w5 1) (by decide) rfl (fun ls (hl : lv_has ls _ ([(2, .int (nI (w5 + 1))), (0, .ref h0), (1, .int (nI r5))])) => ?_)
                    refine lv_goto (tgt := 166) hx hb dX12_write_210 (by decide) ?_
                    have hl : lv_has _ _ ([(0, .ref h0), (1, .int (nI r5)), (2, .int (nI (w5 + 1)))]) := lv_sub hl [1, 2, 0] rfl
                    exact ih166_5 (w5 + 1) p2204 f75204 _ _ _ (by omega) (by first | with_reducible assumption | omega | assumption) (by omega) hP hD hS hl
      · have t_37 : ¬ ((k5 : Nat) : Int) ≥ ((vn : Nat) : Int) := toI_nge c_37 (nI_toInt (by omega)) (nI_toInt (by omega))
        refine lv_aload_n hx hb dX12_write_40 rfl (lv_at hl 0 rfl) ?_
        refine lv_iconst (v := 0) hx hb dX12_write_41 (by decide) ?_
        refine lv_iconst (v := 5) hx hb dX12_write_42 (by decide) ?_
        have hFc := allFree hD hS hA
        refine va_callv (va_runV (As := [.int 0, .int 5]) (rest := []) ⟨hx, hb, hml, hown, hts⟩ (r_X12_sayText l dC dI a k h0 (fT (fT vi 0 0) 125 (nI x31_i125)) vj (fT vF 75 x31_F75) vG 0 5 x31_i125 rfl (by first | with_reducible assumption | decide | omega | rfl | assumption) (by first | with_reducible assumption | decide | omega | rfl | assumption) (by first | with_reducible assumption | decide | omega | rfl | assumption) H.size) (cwV 2 hts gwsRX12_write_2 rfl rfl rfl hd_yX12_sayText_RX12 (by decide +kernel)) (fz_preE (va_recv hK hP (ci := 12) (q0 := 0) rfl rfl) hP hK hD (fun a U g mk qE => qE.same rfl) (fun U hU9 hW => by rw [hU9]; exact (((hE : StrA A s s.heap).kept hS.2.1).narrow (fun q h => hFc q h)).warm hW)) rfl rfl hl.1 rfl (lv_room (Nat.le_of_ble_eq_true rfl)) dX12_write_43 (by decide +kernel)) hS (fun q _ h => hFc q h) hFc (fun u t9_ H locs ht hvm hw9 hB9 hz1 hk1 hS => ?_)
        revert u hw9 hB9
        refine fz_p2 ?_
        intro p243 f7543 hw9 hB9
        try dsimp only at hw9 hB9
        have e9i : fT (fT vi 0 0) 125 (nI p243) = fT (fT (fT vi 0 0) 125 (nI x31_i125)) 125 (nI p243) := (fT_sm _ _ _ _).symm
        have e9F : fT vF 75 f7543 = fT (fT vF 75 x31_F75) 75 f7543 := (fT_sm _ _ _ _).symm
        have hP := wr_PF e9F (wr_Pi e9i (fz_P ht hB9.1))
        have hD := wr_DF e9F (wr_Di e9i (hB9.2.weaken (fun _ q _ h => hFc q.1 h)))
        clear e9i e9F
        have f43_0 := hw9
        try dsimp only at f43_0
        refine lv_aload_n hx hb dX12_write_46 rfl (lv_at hl 0 rfl) ?_
        refine lv_iload_n hx hb dX12_write_47 rfl (lv_at hl 1 rfl) ?_
        have hFc := allFree hD hS hA
        refine va_callv (va_runV (As := [.int (nI k5)]) (rest := []) ⟨hx, hb, hml, hown, hts⟩ (r_X12_sayNumber l dC dI a k h0 (fT (fT vi 0 0) 125 (nI p243)) vj (fT vF 75 f7543) vG (nI k5) p243 rfl (by first | with_reducible assumption | decide | omega | rfl | assumption) (by rw [nI_toInt (by omega)]; omega) H.size) (cwV 1 hts gwsRX12_write_4 rfl rfl rfl hd_yX12_sayNumber_RX12 (by decide +kernel)) (fz_pre (va_recv hK hP (ci := 12) (q0 := 0) rfl rfl) hP hK hD) rfl rfl hl.1 rfl (lv_room (Nat.le_of_ble_eq_true rfl)) dX12_write_48 (by decide +kernel)) hS (fun q _ h => hFc q h) hFc (fun u t9_ H locs ht hvm hw9 hB9 hz1 hk1 hS => ?_)
        revert u hw9 hB9
        refine fz_p2 ?_
        intro p248 f7548 hw9 hB9
        try dsimp only at hw9 hB9
        have e9i : fT (fT vi 0 0) 125 (nI p248) = fT (fT (fT vi 0 0) 125 (nI p243)) 125 (nI p248) := (fT_sm _ _ _ _).symm
        have e9F : fT vF 75 f7548 = fT (fT vF 75 f7543) 75 f7548 := (fT_sm _ _ _ _).symm
        have hP := wr_PF e9F (wr_Pi e9i (fz_P ht hB9.1))
        have hD := wr_DF e9F (wr_Di e9i (hB9.2.weaken (fun _ q _ h => hFc q.1 h)))
        clear e9i e9F
        have f48_0 := hw9
        try dsimp only at f48_0
        refine lv_aload_n hx hb dX12_write_51 rfl (lv_at hl 0 rfl) ?_
        refine lv_bipush (v := 32) hx hb dX12_write_52 (by decide) ?_
        have hFc := allFree hD hS hA
        refine va_callv (va_runV (As := [.int 32]) (rest := []) ⟨hx, hb, hml, hown, hts⟩ (r_X12_say l dC dI a k h0 (fT (fT vi 0 0) 125 (nI p248)) vj (fT vF 75 f7548) vG 32 p248 rfl (by first | with_reducible assumption | decide | omega | rfl | assumption) H.size) (cwV 1 hts gwsRX12_write_3 rfl rfl rfl hd_yX12_say_RX12 (by decide +kernel)) (fz_pre (va_recv hK hP (ci := 12) (q0 := 0) rfl rfl) hP hK hD) rfl rfl hl.1 rfl (lv_room (Nat.le_of_ble_eq_true rfl)) dX12_write_54 (by decide +kernel)) hS (fun q _ h => hFc q h) hFc (fun u t9_ H locs ht hvm hw9 hB9 hz1 hk1 hS => ?_)
        revert u hw9 hB9
        refine fz_p2 ?_
        intro p254 f7554 hw9 hB9
        try dsimp only at hw9 hB9
        have e9i : fT (fT vi 0 0) 125 (nI p254) = fT (fT (fT vi 0 0) 125 (nI p248)) 125 (nI p254) := (fT_sm _ _ _ _).symm
        have e9F : fT vF 75 f7554 = fT (fT vF 75 f7548) 75 f7554 := (fT_sm _ _ _ _).symm
        have hP := wr_PF e9F (wr_Pi e9i (fz_P ht hB9.1))
        have hD := wr_DF e9F (wr_Di e9i (hB9.2.weaken (fun _ q _ h => hFc q.1 h)))
        clear e9i e9F
        revert hw9
        refine fz_a3 ?_
        intro f54_0 f54_1 f54_2
        refine lv_aload_n hx hb dX12_write_57 rfl (lv_at hl 0 rfl) ?_
        refine va_get (D := (dC, dI)) (ci := 12) (v := .ref (a 58)) (C := RX12) (T := TX12) (N := 163) (fs := fM (vS a (fT (fT vi 0 0) 125 (nI p254)) vj)) hx hb hts iwsRX12_write_in12 hown hK hP 0 rfl rfl 98 (by decide) (hts (.fieldLink RX12 197 "OptimaWorksModel" "whole" "[I") (by decide +kernel)) (fun _ h9 => h9) rfl dX12_write_58 ?_
        refine lv_iload_n hx hb dX12_write_61 rfl (lv_at hl 1 rfl) ?_
        refine va_iald (cA := k 58) (n := 9) (f := (vF 58)) hx hb hK hP 59 58 (WR_get 58 (by decide)) (TR_get 58 (by decide)) (vp_in_nI (show k5 < 9 by omega) (by omega)) dX12_write_62 ?_
        refine lv_topi (fun y11 hy11 => ?_)
        obtain rfl : ((vF 58) k5) = y11 := (hy11.trans (by rw [nI_clamp (by omega)])).symm
        refine lv_iconst (v := 1) hx hb dX12_write_63 (by decide) ?_
        refine W.cut (pc := 75) (fun H locs ls stk => ∃ (j61_i125 : Nat) (j61_F75 : Nat → Int32), (j61_i125 ≤ 30000) ∧  stk = [] ∧ va_P (dC, dI) vwCl (WR a k h0 (fT (fT vi 0 0) 125 (nI j61_i125)) vj (fT vF 75 j61_F75) vG) H ∧ va_D A (WR a k h0 (fT (fT vi 0 0) 125 (nI j61_i125)) vj (fT vF 75 j61_F75) vG) ∧ va_S A s.heap H locs ∧ lv_has ls 4 [(0, .ref h0), (1, .int (nI k5))]) (fun join4 => ?_) ?_
        · refine lv_icmp_ne (tgt := 75) hx hb dX12_write_64 (by decide) (fun c_64 => ?_) (fun c_64 => ?_)
          · have t_64 : (((vF 58) k5)).toInt ≠ 1 := toI_ne c_64 rfl (by decide)
            have hl : lv_has _ _ ([(0, .ref h0), (1, .int (nI k5))]) := lv_sub hl [0, 1] rfl
            exact join4 _ _ _ _ ⟨p254, f7554, by first | assumption | omega, rfl, hP, hD, hS, hl⟩
          · have t_64 : (((vF 58) k5)).toInt = 1 := toI_nne c_64 rfl (by decide)
            refine lv_aload_n hx hb dX12_write_67 rfl (lv_at hl 0 rfl) ?_
            refine lv_bipush (v := 6) hx hb dX12_write_68 (by decide) ?_
            refine lv_bipush (v := 12) hx hb dX12_write_70 (by decide) ?_
            have hFc := allFree hD hS hA
            refine va_callv (va_runV (As := [.int 6, .int 12]) (rest := []) ⟨hx, hb, hml, hown, hts⟩ (r_X12_sayText l dC dI a k h0 (fT (fT vi 0 0) 125 (nI p254)) vj (fT vF 75 f7554) vG 6 12 p254 rfl (by first | with_reducible assumption | decide | omega | rfl | assumption) (by first | with_reducible assumption | decide | omega | rfl | assumption) (by first | with_reducible assumption | decide | omega | rfl | assumption) H.size) (cwV 2 hts gwsRX12_write_2 rfl rfl rfl hd_yX12_sayText_RX12 (by decide +kernel)) (fz_preE (va_recv hK hP (ci := 12) (q0 := 0) rfl rfl) hP hK hD (fun a U g mk qE => qE.same rfl) (fun U hU9 hW => by rw [hU9]; exact (((hE : StrA A s s.heap).kept hS.2.1).narrow (fun q h => hFc q h)).warm hW)) rfl rfl hl.1 rfl (lv_room (Nat.le_of_ble_eq_true rfl)) dX12_write_72 (by decide +kernel)) hS (fun q _ h => hFc q h) hFc (fun u t9_ H locs ht hvm hw9 hB9 hz1 hk1 hS => ?_)
            revert u hw9 hB9
            refine fz_p2 ?_
            intro p272 f7572 hw9 hB9
            try dsimp only at hw9 hB9
            have e9i : fT (fT vi 0 0) 125 (nI p272) = fT (fT (fT vi 0 0) 125 (nI p254)) 125 (nI p272) := (fT_sm _ _ _ _).symm
            have e9F : fT vF 75 f7572 = fT (fT vF 75 f7554) 75 f7572 := (fT_sm _ _ _ _).symm
            have hP := wr_PF e9F (wr_Pi e9i (fz_P ht hB9.1))
            have hD := wr_DF e9F (wr_Di e9i (hB9.2.weaken (fun _ q _ h => hFc q.1 h)))
            clear e9i e9F
            have f72_0 := hw9
            try dsimp only at f72_0
            have hl : lv_has _ _ ([(0, .ref h0), (1, .int (nI k5))]) := lv_sub hl [0, 1] rfl
            exact join4 _ _ _ _ ⟨p272, f7572, by first | assumption | omega, rfl, hP, hD, hS, hl⟩
        · rintro H locs ls stk ⟨j61_i125, j61_F75, hj61_i125, rfl, hP, hD, hS, hl⟩
          refine lv_aload_n hx hb dX12_write_75 rfl (lv_at hl 0 rfl) ?_
          refine lv_bipush (v := 12) hx hb dX12_write_76 (by decide) ?_
          refine lv_bipush (v := 17) hx hb dX12_write_78 (by decide) ?_
          have hFc := allFree hD hS hA
          refine va_callv (va_runV (As := [.int 12, .int 17]) (rest := []) ⟨hx, hb, hml, hown, hts⟩ (r_X12_sayText l dC dI a k h0 (fT (fT vi 0 0) 125 (nI j61_i125)) vj (fT vF 75 j61_F75) vG 12 17 j61_i125 rfl (by first | with_reducible assumption | decide | omega | rfl | assumption) (by first | with_reducible assumption | decide | omega | rfl | assumption) (by first | with_reducible assumption | decide | omega | rfl | assumption) H.size) (cwV 2 hts gwsRX12_write_2 rfl rfl rfl hd_yX12_sayText_RX12 (by decide +kernel)) (fz_preE (va_recv hK hP (ci := 12) (q0 := 0) rfl rfl) hP hK hD (fun a U g mk qE => qE.same rfl) (fun U hU9 hW => by rw [hU9]; exact (((hE : StrA A s s.heap).kept hS.2.1).narrow (fun q h => hFc q h)).warm hW)) rfl rfl hl.1 rfl (lv_room (Nat.le_of_ble_eq_true rfl)) dX12_write_80 (by decide +kernel)) hS (fun q _ h => hFc q h) hFc (fun u t9_ H locs ht hvm hw9 hB9 hz1 hk1 hS => ?_)
          revert u hw9 hB9
          refine fz_p2 ?_
          intro p280 f7580 hw9 hB9
          try dsimp only at hw9 hB9
          have e9i : fT (fT vi 0 0) 125 (nI p280) = fT (fT (fT vi 0 0) 125 (nI j61_i125)) 125 (nI p280) := (fT_sm _ _ _ _).symm
          have e9F : fT vF 75 f7580 = fT (fT vF 75 j61_F75) 75 f7580 := (fT_sm _ _ _ _).symm
          have hP := wr_PF e9F (wr_Pi e9i (fz_P ht hB9.1))
          have hD := wr_DF e9F (wr_Di e9i (hB9.2.weaken (fun _ q _ h => hFc q.1 h)))
          clear e9i e9F
          have f80_0 := hw9
          try dsimp only at f80_0
          have bl := hM.1 k5 (by omega)
          refine lv_aload_n hx hb dX12_write_83 rfl (lv_at hl 0 rfl) ?_
          refine lv_aload_n hx hb dX12_write_84 rfl (lv_at hl 0 rfl) ?_
          refine va_get (D := (dC, dI)) (ci := 12) (v := .ref (a 56)) (C := RX12) (T := TX12) (N := 163) (fs := fM (vS a (fT (fT vi 0 0) 125 (nI p280)) vj)) hx hb hts iwsRX12_write_in12 hown hK hP 0 rfl rfl 96 (by decide) (hts (.fieldLink RX12 191 "OptimaWorksModel" "low" "[I") (by decide +kernel)) (fun _ h9 => h9) rfl dX12_write_85 ?_
          refine lv_iload_n hx hb dX12_write_88 rfl (lv_at hl 1 rfl) ?_
          refine va_iald (cA := k 56) (n := 9) (f := (vF 56)) hx hb hK hP 57 56 (WR_get 56 (by decide)) (TR_get 56 (by decide)) (vp_in_nI (show k5 < 9 by omega) (by omega)) dX12_write_89 ?_
          refine lv_topi (fun y12 hy12 => ?_)
          obtain rfl : ((vF 56) k5) = y12 := (hy12.trans (by rw [nI_clamp (by omega)])).symm
          have hFc := allFree hD hS hA
          refine va_callv (va_runV (As := [.int ((vF 56) k5)]) (rest := []) ⟨hx, hb, hml, hown, hts⟩ (r_X12_sayNumber l dC dI a k h0 (fT (fT vi 0 0) 125 (nI p280)) vj (fT vF 75 f7580) vG ((vF 56) k5) p280 rfl (by first | with_reducible assumption | decide | omega | rfl | assumption) (by omega) H.size) (cwV 1 hts gwsRX12_write_4 rfl rfl rfl hd_yX12_sayNumber_RX12 (by decide +kernel)) (fz_pre (va_recv hK hP (ci := 12) (q0 := 0) rfl rfl) hP hK hD) rfl rfl hl.1 rfl (lv_room (Nat.le_of_ble_eq_true rfl)) dX12_write_90 (by decide +kernel)) hS (fun q _ h => hFc q h) hFc (fun u t9_ H locs ht hvm hw9 hB9 hz1 hk1 hS => ?_)
          revert u hw9 hB9
          refine fz_p2 ?_
          intro p290 f7590 hw9 hB9
          try dsimp only at hw9 hB9
          have e9i : fT (fT vi 0 0) 125 (nI p290) = fT (fT (fT vi 0 0) 125 (nI p280)) 125 (nI p290) := (fT_sm _ _ _ _).symm
          have e9F : fT vF 75 f7590 = fT (fT vF 75 f7580) 75 f7590 := (fT_sm _ _ _ _).symm
          have hP := wr_PF e9F (wr_Pi e9i (fz_P ht hB9.1))
          have hD := wr_DF e9F (wr_Di e9i (hB9.2.weaken (fun _ q _ h => hFc q.1 h)))
          clear e9i e9F
          have f90_0 := hw9
          try dsimp only at f90_0
          refine lv_aload_n hx hb dX12_write_93 rfl (lv_at hl 0 rfl) ?_
          refine lv_bipush (v := 32) hx hb dX12_write_94 (by decide) ?_
          have hFc := allFree hD hS hA
          refine va_callv (va_runV (As := [.int 32]) (rest := []) ⟨hx, hb, hml, hown, hts⟩ (r_X12_say l dC dI a k h0 (fT (fT vi 0 0) 125 (nI p290)) vj (fT vF 75 f7590) vG 32 p290 rfl (by first | with_reducible assumption | decide | omega | rfl | assumption) H.size) (cwV 1 hts gwsRX12_write_3 rfl rfl rfl hd_yX12_say_RX12 (by decide +kernel)) (fz_pre (va_recv hK hP (ci := 12) (q0 := 0) rfl rfl) hP hK hD) rfl rfl hl.1 rfl (lv_room (Nat.le_of_ble_eq_true rfl)) dX12_write_96 (by decide +kernel)) hS (fun q _ h => hFc q h) hFc (fun u t9_ H locs ht hvm hw9 hB9 hz1 hk1 hS => ?_)
          revert u hw9 hB9
          refine fz_p2 ?_
          intro p296 f7596 hw9 hB9
          try dsimp only at hw9 hB9
          have e9i : fT (fT vi 0 0) 125 (nI p296) = fT (fT (fT vi 0 0) 125 (nI p290)) 125 (nI p296) := (fT_sm _ _ _ _).symm
          have e9F : fT vF 75 f7596 = fT (fT vF 75 f7590) 75 f7596 := (fT_sm _ _ _ _).symm
          have hP := wr_PF e9F (wr_Pi e9i (fz_P ht hB9.1))
          have hD := wr_DF e9F (wr_Di e9i (hB9.2.weaken (fun _ q _ h => hFc q.1 h)))
          clear e9i e9F
          revert hw9
          refine fz_a3 ?_
          intro f96_0 f96_1 f96_2
          refine lv_aload_n hx hb dX12_write_99 rfl (lv_at hl 0 rfl) ?_
          refine lv_bipush (v := 17) hx hb dX12_write_100 (by decide) ?_
          refine lv_bipush (v := 20) hx hb dX12_write_102 (by decide) ?_
          have hFc := allFree hD hS hA
          refine va_callv (va_runV (As := [.int 17, .int 20]) (rest := []) ⟨hx, hb, hml, hown, hts⟩ (r_X12_sayText l dC dI a k h0 (fT (fT vi 0 0) 125 (nI p296)) vj (fT vF 75 f7596) vG 17 20 p296 rfl (by first | with_reducible assumption | decide | omega | rfl | assumption) (by first | with_reducible assumption | decide | omega | rfl | assumption) (by first | with_reducible assumption | decide | omega | rfl | assumption) H.size) (cwV 2 hts gwsRX12_write_2 rfl rfl rfl hd_yX12_sayText_RX12 (by decide +kernel)) (fz_preE (va_recv hK hP (ci := 12) (q0 := 0) rfl rfl) hP hK hD (fun a U g mk qE => qE.same rfl) (fun U hU9 hW => by rw [hU9]; exact (((hE : StrA A s s.heap).kept hS.2.1).narrow (fun q h => hFc q h)).warm hW)) rfl rfl hl.1 rfl (lv_room (Nat.le_of_ble_eq_true rfl)) dX12_write_104 (by decide +kernel)) hS (fun q _ h => hFc q h) hFc (fun u t9_ H locs ht hvm hw9 hB9 hz1 hk1 hS => ?_)
          revert u hw9 hB9
          refine fz_p2 ?_
          intro p2104 f75104 hw9 hB9
          try dsimp only at hw9 hB9
          have e9i : fT (fT vi 0 0) 125 (nI p2104) = fT (fT (fT vi 0 0) 125 (nI p296)) 125 (nI p2104) := (fT_sm _ _ _ _).symm
          have e9F : fT vF 75 f75104 = fT (fT vF 75 f7596) 75 f75104 := (fT_sm _ _ _ _).symm
          have hP := wr_PF e9F (wr_Pi e9i (fz_P ht hB9.1))
          have hD := wr_DF e9F (wr_Di e9i (hB9.2.weaken (fun _ q _ h => hFc q.1 h)))
          clear e9i e9F
          have f104_0 := hw9
          try dsimp only at f104_0
          have bh := hM.2.1 k5 (by omega)
          refine lv_aload_n hx hb dX12_write_107 rfl (lv_at hl 0 rfl) ?_
          refine lv_aload_n hx hb dX12_write_108 rfl (lv_at hl 0 rfl) ?_
          refine va_get (D := (dC, dI)) (ci := 12) (v := .ref (a 57)) (C := RX12) (T := TX12) (N := 163) (fs := fM (vS a (fT (fT vi 0 0) 125 (nI p2104)) vj)) hx hb hts iwsRX12_write_in12 hown hK hP 0 rfl rfl 97 (by decide) (hts (.fieldLink RX12 194 "OptimaWorksModel" "high" "[I") (by decide +kernel)) (fun _ h9 => h9) rfl dX12_write_109 ?_
          refine lv_iload_n hx hb dX12_write_112 rfl (lv_at hl 1 rfl) ?_
          refine va_iald (cA := k 57) (n := 9) (f := (vF 57)) hx hb hK hP 58 57 (WR_get 57 (by decide)) (TR_get 57 (by decide)) (vp_in_nI (show k5 < 9 by omega) (by omega)) dX12_write_113 ?_
          refine lv_topi (fun y13 hy13 => ?_)
          obtain rfl : ((vF 57) k5) = y13 := (hy13.trans (by rw [nI_clamp (by omega)])).symm
          have hFc := allFree hD hS hA
          refine va_callv (va_runV (As := [.int ((vF 57) k5)]) (rest := []) ⟨hx, hb, hml, hown, hts⟩ (r_X12_sayNumber l dC dI a k h0 (fT (fT vi 0 0) 125 (nI p2104)) vj (fT vF 75 f75104) vG ((vF 57) k5) p2104 rfl (by first | with_reducible assumption | decide | omega | rfl | assumption) (by omega) H.size) (cwV 1 hts gwsRX12_write_4 rfl rfl rfl hd_yX12_sayNumber_RX12 (by decide +kernel)) (fz_pre (va_recv hK hP (ci := 12) (q0 := 0) rfl rfl) hP hK hD) rfl rfl hl.1 rfl (lv_room (Nat.le_of_ble_eq_true rfl)) dX12_write_114 (by decide +kernel)) hS (fun q _ h => hFc q h) hFc (fun u t9_ H locs ht hvm hw9 hB9 hz1 hk1 hS => ?_)
          revert u hw9 hB9
          refine fz_p2 ?_
          intro p2114 f75114 hw9 hB9
          try dsimp only at hw9 hB9
          have e9i : fT (fT vi 0 0) 125 (nI p2114) = fT (fT (fT vi 0 0) 125 (nI p2104)) 125 (nI p2114) := (fT_sm _ _ _ _).symm
          have e9F : fT vF 75 f75114 = fT (fT vF 75 f75104) 75 f75114 := (fT_sm _ _ _ _).symm
          have hP := wr_PF e9F (wr_Pi e9i (fz_P ht hB9.1))
          have hD := wr_DF e9F (wr_Di e9i (hB9.2.weaken (fun _ q _ h => hFc q.1 h)))
          clear e9i e9F
          have f114_0 := hw9
          try dsimp only at f114_0
          refine lv_aload_n hx hb dX12_write_117 rfl (lv_at hl 0 rfl) ?_
          have hFc := allFree hD hS hA
          refine va_callv (va_runV (As := []) (rest := []) ⟨hx, hb, hml, hown, hts⟩ (r_X12_endLine l dC dI a k h0 (fT (fT vi 0 0) 125 (nI p2114)) vj (fT vF 75 f75114) vG p2114 rfl (by first | with_reducible assumption | decide | omega | rfl | assumption) H.size) (cwV 0 hts gwsRX12_write_1 rfl rfl rfl hd_yX12_endLine_RX12 (by decide +kernel)) (fz_pre (va_recv hK hP (ci := 12) (q0 := 0) rfl rfl) hP hK hD) rfl rfl hl.1 rfl (lv_room (Nat.le_of_ble_eq_true rfl)) dX12_write_118 (by decide +kernel)) hS (fun q _ h => hFc q h) hFc (fun u t9_ H locs ht hvm hw9 hB9 hz1 hk1 hS => ?_)
          revert u hw9 hB9
          refine fz_p2 ?_
          intro p2118 f75118 hw9 hB9
          try dsimp only at hw9 hB9
          have e9i : fT (fT vi 0 0) 125 (nI p2118) = fT (fT (fT vi 0 0) 125 (nI p2114)) 125 (nI p2118) := (fT_sm _ _ _ _).symm
          have e9F : fT vF 75 f75118 = fT (fT vF 75 f75114) 75 f75118 := (fT_sm _ _ _ _).symm
          have hP := wr_PF e9F (wr_Pi e9i (fz_P ht hB9.1))
          have hD := wr_DF e9F (wr_Di e9i (hB9.2.weaken (fun _ q _ h => hFc q.1 h)))
          clear e9i e9F
          have f118_0 := hw9
          try dsimp only at f118_0
          refine lv_iinc (v := (nI (k5 + 1))) hx hb dX12_write_121 hl (k := 1) rfl (nI_add k5 1) (by decide) rfl (fun ls (hl : lv_has ls _ ([(1, .int (nI (k5 + 1))), (0, .ref h0)])) => ?_)
          refine lv_goto (tgt := 32) hx hb dX12_write_124 (by decide) ?_
          have hl : lv_has _ _ ([(0, .ref h0), (1, .int (nI (k5 + 1)))]) := lv_sub hl [1, 0] rfl
          exact ih32 (k5 + 1) p2118 f75118 _ _ _ (by omega) (by first | with_reducible assumption | omega | assumption) (by omega) hP hD hS hl
theorem dX12_key_0 : decode cX12_key 0 = .ok (.iconst 0, 1) := dk_3 (by decide +kernel)
theorem dX12_key_1 : decode cX12_key 1 = .ok (.istore_n 3, 1) := dk_62 (by decide +kernel)
theorem dX12_key_2 : decode cX12_key 2 = .ok (.iconst 0, 1) := dk_3 (by decide +kernel)
theorem dX12_key_3 : decode cX12_key 3 = .ok (.istore 4, 2) := dk_54 (by decide +kernel)
theorem dX12_key_5 : decode cX12_key 5 = .ok (.iload 4, 2) := dk_21 (by decide +kernel)
theorem dX12_key_7 : decode cX12_key 7 = .ok (.bipush 16, 2) := dk_16 (by decide +kernel)
theorem dX12_key_9 : decode cX12_key 9 = .ok (.if_icmp .ge 83, 3) := dk_162 (by decide +kernel)
theorem dX12_key_12 : decode cX12_key 12 = .ok (.iconst 0, 1) := dk_3 (by decide +kernel)
theorem dX12_key_13 : decode cX12_key 13 = .ok (.istore 5, 2) := dk_54 (by decide +kernel)
theorem dX12_key_15 : decode cX12_key 15 = .ok (.iconst 1, 1) := dk_4 (by decide +kernel)
theorem dX12_key_16 : decode cX12_key 16 = .ok (.istore 6, 2) := dk_54 (by decide +kernel)
theorem dX12_key_18 : decode cX12_key 18 = .ok (.iload_n 3, 1) := dk_29 (by decide +kernel)
theorem dX12_key_19 : decode cX12_key 19 = .ok (.invokestatic 479, 3) := dk_184 (by decide +kernel)
theorem dX12_key_22 : decode cX12_key 22 = .ok (.bipush 32, 2) := dk_16 (by decide +kernel)
theorem dX12_key_24 : decode cX12_key 24 = .ok (.if_icmp .eq 45, 3) := dk_159 (by decide +kernel)
theorem dX12_key_27 : decode cX12_key 27 = .ok (.iload 6, 2) := dk_21 (by decide +kernel)
theorem dX12_key_29 : decode cX12_key 29 = .ok (.ifCond .eq 28, 3) := dk_153 (by decide +kernel)
theorem dX12_key_32 : decode cX12_key 32 = .ok (.iload 5, 2) := dk_21 (by decide +kernel)
theorem dX12_key_34 : decode cX12_key 34 = .ok (.iload_n 2, 1) := dk_28 (by decide +kernel)
theorem dX12_key_35 : decode cX12_key 35 = .ok (.if_icmp .ge 22, 3) := dk_162 (by decide +kernel)
theorem dX12_key_38 : decode cX12_key 38 = .ok (.aload_n 0, 1) := dk_42 (by decide +kernel)
theorem dX12_key_39 : decode cX12_key 39 = .ok (.iload_n 1, 1) := dk_27 (by decide +kernel)
theorem dX12_key_40 : decode cX12_key 40 = .ok (.iload 5, 2) := dk_21 (by decide +kernel)
theorem dX12_key_42 : decode cX12_key 42 = .ok (.iadd, 1) := dk_96 (by decide +kernel)
theorem dX12_key_43 : decode cX12_key 43 = .ok (.invokevirtual 482, 3) := dk_182 (by decide +kernel)
theorem dX12_key_46 : decode cX12_key 46 = .ok (.iload_n 3, 1) := dk_29 (by decide +kernel)
theorem dX12_key_47 : decode cX12_key 47 = .ok (.invokestatic 479, 3) := dk_184 (by decide +kernel)
theorem dX12_key_50 : decode cX12_key 50 = .ok (.if_icmp .ne 7, 3) := dk_160 (by decide +kernel)
theorem dX12_key_53 : decode cX12_key 53 = .ok (.iconst 1, 1) := dk_4 (by decide +kernel)
theorem dX12_key_54 : decode cX12_key 54 = .ok (.goto 4, 3) := dk_167 (by decide +kernel)
theorem dX12_key_57 : decode cX12_key 57 = .ok (.iconst 0, 1) := dk_3 (by decide +kernel)
theorem dX12_key_58 : decode cX12_key 58 = .ok (.istore 6, 2) := dk_54 (by decide +kernel)
theorem dX12_key_60 : decode cX12_key 60 = .ok (.iinc 3 1, 3) := dk_132 (by decide +kernel)
theorem dX12_key_63 : decode cX12_key 63 = .ok (.iinc 5 1, 3) := dk_132 (by decide +kernel)
theorem dX12_key_66 : decode cX12_key 66 = .ok (.goto (-48), 3) := dk_167 (by decide +kernel)
theorem dX12_key_69 : decode cX12_key 69 = .ok (.iinc 3 1, 3) := dk_132 (by decide +kernel)
theorem dX12_key_72 : decode cX12_key 72 = .ok (.iload 6, 2) := dk_21 (by decide +kernel)
theorem dX12_key_74 : decode cX12_key 74 = .ok (.ifCond .eq 12, 3) := dk_153 (by decide +kernel)
theorem dX12_key_77 : decode cX12_key 77 = .ok (.iload 5, 2) := dk_21 (by decide +kernel)
theorem dX12_key_79 : decode cX12_key 79 = .ok (.iload_n 2, 1) := dk_28 (by decide +kernel)
theorem dX12_key_80 : decode cX12_key 80 = .ok (.if_icmp .ne 6, 3) := dk_160 (by decide +kernel)
theorem dX12_key_83 : decode cX12_key 83 = .ok (.iload 4, 2) := dk_21 (by decide +kernel)
theorem dX12_key_85 : decode cX12_key 85 = .ok (.ireturn, 1) := dk_172 (by decide +kernel)
theorem dX12_key_86 : decode cX12_key 86 = .ok (.iinc 4 1, 3) := dk_132 (by decide +kernel)
theorem dX12_key_89 : decode cX12_key 89 = .ok (.goto (-84), 3) := dk_167 (by decide +kernel)
theorem dX12_key_92 : decode cX12_key 92 = .ok (.iconst (-1), 1) := dk_2 (by decide +kernel)
theorem dX12_key_93 : decode cX12_key 93 = .ok (.ireturn, 1) := dk_172 (by decide +kernel)
def wsRX12_key : List Cond := .code yX12_key cX12_key 7 (some .int) :: ([] ++ wsX120 ++ (va_wsS RX12 479 yX12_keyLetter wsRX12_keyLetter) ++ (wsV RX12 482 RX12 yX12_byteAt wsRX12_byteAt))
theorem iwsRX12_key_in12 : ∀ w ∈ wsX120, w ∈ wsRX12_key := fun _ h => List.mem_cons_of_mem _ (List.mem_append_left _ (List.mem_append_left _ (List.mem_append_right _ h)))
theorem gwsRX12_key_0 : GoodIn wsRX12_key (va_wsS RX12 479 yX12_keyLetter wsRX12_keyLetter) := goodIn_sub (fun _ h => List.mem_cons_of_mem _ (List.mem_append_left _ (List.mem_append_right _ h))) (gdS (by decide +kernel) gdwsRX12_keyLetter)
theorem gwsRX12_key_1 : GoodIn wsRX12_key (wsV RX12 482 RX12 yX12_byteAt wsRX12_byteAt) := goodIn_sub (fun _ h => List.mem_cons_of_mem _ (List.mem_append_right _ h)) (gdV (by decide +kernel) gdwsRX12_byteAt)
theorem gdwsRX12_key : wsRX12_key.all goodWord = true := gdC rfl (gdA (gdA (gdA (by decide +kernel : ([] : List Cond).all goodWord = true) gdwsX120) (gdS (by decide +kernel) gdwsRX12_keyLetter)) (gdV (by decide +kernel) gdwsRX12_byteAt))
set_option maxHeartbeats 4000000 in
set_option maxRecDepth 100000 in
/-- key(begin, n) -/
theorem r_X12_key (l : Launch) (dC : Nat → ClassId) (dI : Nat → Nat → Nat) (a : Nat → Nat) (k : Nat → ClassId) (h0 : Nat) (vi : Nat → Int32) (vj : Nat → Int64) (vF : Nat → Nat → Int32) (vG : Nat → Nat → Int64) (bn : Nat) (nn : Nat) (tp : Nat) (hTp : vi 16 = nI tp) (htp : tp ≤ 4000) (hbn : bn ≤ 4000) (hnn : nn ≤ 4000) (sz : Nat) : Met l yX12_key wsRX12_key ({ frames := 5, cells := 0, slots := 0, locals := 105 }) (va_Pc [.ref h0, .int (nI bn), .int (nI nn)] (fun U => U.heap.size = sz ∧ va_P (dC, dI) vwCl (WR a k h0 vi vj vF vG) U.heap ∧ va_K (dC, dI) vwCl (tX12 k) U ∧ va_D (fun _ => True) (WR a k h0 vi vj vF vG) ∧ StrA (va_A (WR a k h0 vi vj vF vG) sz) U U.heap)) (va_Qi (fun (r : Int32) (u : Unit) => True) (fun (u : Unit) t => va_P (dC, dI) vwCl (WR a k h0 vi vj vF vG) t.heap ∧ va_D (va_A (WR a k h0 vi vj vF vG) sz) (WR a k h0 vi vj vF vG)) (va_A (WR a k h0 vi vj vF vG) sz)) 0 0 (va_A (WR a k h0 vi vj vF vG) sz) := by
  refine Met.ofW (cc := cX12_key) (maxL := 7) (ret := (some .int)) (by decide) rfl ?_
  intro p e s m args below meth c s₁ B hml hv
  obtain ⟨rfl, hsz, hP, hK, hD0, hE⟩ := hv
  have hx := B.exec
  have hb := B.bytes
  have hr := B.returns
  have hts := atoms_spec (ws := wsRX12_key) B.pre
  have hown : s.vm.findClass RX12 = some m.cls := findClass_of_methodNamed B.named
  have hlocks := B.notSynchronized
  subst hsz
  have hD := hD0.self (sz := s.heap.size)
  generalize hAe : va_A (WR a k h0 vi vj vF vG) s.heap.size = A at hD hE ⊢
  have hA : ∀ q : Nat, s.heap.size ≤ q → A q := fun q h => by rw [← hAe]; exact Or.inr h
  have hS : va_S A s.heap s.heap [] := va_S.rf
  have hl := lv_entry ([.ref h0, .int (nI bn), .int (nI nn)]) (n := 7) (Nat.le_of_ble_eq_true rfl)
  rw [lg_entry_eq]
  generalize (lg_sl ([.ref h0, .int (nI bn), .int (nI nn)]) ++ List.replicate (7 - (lg_sl ([.ref h0, .int (nI bn), .int (nI nn)])).length) Slot.unset).toArray = ls at hl ⊢
  have hl : lv_has ls 7 [(0, .ref h0), (1, .int (nI bn)), (2, .int (nI nn))] := hl
  refine lv_iconst (v := 0) hx hb dX12_key_0 (by decide) ?_
  refine lv_istore_n hx hb dX12_key_1 rfl hl (by decide) rfl (fun ls (hl : lv_has ls _ ([(3, .int 0), (0, .ref h0), (1, .int (nI bn)), (2, .int (nI nn))])) => ?_)
  refine lv_iconst (v := 0) hx hb dX12_key_2 (by decide) ?_
  refine lv_istore hx hb dX12_key_3 hl (by decide) rfl (fun ls (hl : lv_has ls _ ([(4, .int 0), (3, .int 0), (0, .ref h0), (1, .int (nI bn)), (2, .int (nI nn))])) => ?_)
  have hl : lv_has _ _ ([(0, .ref h0), (1, .int (nI bn)), (2, .int (nI nn)), (3, .int (nI 0)), (4, .int (nI 0))]) := lv_sub hl [2, 3, 4, 1, 0] rfl
  refine (fun (loop : ∀ (n9 : Nat) (k5 : Nat) (i5 : Nat) (H : Heap) (locs : List Loc) (ls : Array Slot), (i5 ≤ 71 ∧ k5 ≤ 16 ∧ nSp i5 = k5) →  (16 < k5 + n9) → va_P (dC, dI) vwCl (WR a k h0 vi vj vF vG) H → va_D A (WR a k h0 vi vj vF vG) → va_S A s.heap H locs → lv_has ls 7 [(0, .ref h0), (1, .int (nI bn)), (2, .int (nI nn)), (3, .int (nI i5)), (4, .int (nI k5))] → W p l e _ s m _ below meth c H locs 0 0 _ (F0 m 5 ls [])) => loop (17) 0 0 _ _ _ (⟨by omega, by omega, rfl⟩) (by omega) hP hD hS hl) ?_
  intro n9
  induction n9 with
  | zero => intro k5 i5 H locs ls hi5 hf9; exact False.elim (by omega)
  | succ n9 ih5 =>
    intro k5 i5 H locs ls hi5 hf5 hP hD hS hl
    refine lv_iload hx hb dX12_key_5 (lv_at hl 4 rfl) ?_
    refine lv_bipush (v := 16) hx hb dX12_key_7 (by decide) ?_
    refine lv_icmp_ge (tgt := 92) hx hb dX12_key_9 (by decide) (fun c_9 => ?_) (fun c_9 => ?_)
    · have t_9 : ((k5 : Nat) : Int) ≥ 16 := toI_ge c_9 (nI_toInt (by omega)) (by decide)
      refine lv_iconst (v := (-1)) hx hb dX12_key_92 (by decide) ?_
      refine W.widen (k := 0) (n := 0) (by decide +kernel) (by decide +kernel) ?_
      exact W.iret (v := (-1)) hx hb hr (fun t9_ ht hW => ⟨⟨(-1), (), rfl, trivial, by rw [ht]; exact hP, hD⟩, hS.F ht⟩) hS.2.2 dX12_key_93
    · have t_9 : ¬ ((k5 : Nat) : Int) ≥ 16 := toI_nge c_9 (nI_toInt (by omega)) (by decide)
      refine lv_iconst (v := 0) hx hb dX12_key_12 (by decide) ?_
      refine lv_istore hx hb dX12_key_13 hl (by decide) rfl (fun ls (hl : lv_has ls _ ([(5, .int 0), (0, .ref h0), (1, .int (nI bn)), (2, .int (nI nn)), (3, .int (nI i5)), (4, .int (nI k5))])) => ?_)
      refine lv_iconst (v := 1) hx hb dX12_key_15 (by decide) ?_
      refine lv_istore hx hb dX12_key_16 hl (by decide) rfl (fun ls (hl : lv_has ls _ ([(6, .int 1), (5, .int 0), (0, .ref h0), (1, .int (nI bn)), (2, .int (nI nn)), (3, .int (nI i5)), (4, .int (nI k5))])) => ?_)
      have hl : lv_has _ _ ([(0, .ref h0), (1, .int (nI bn)), (2, .int (nI nn)), (3, .int (nI i5)), (4, .int (nI k5)), (5, .int (nI 0)), (6, .int 1)]) := lv_sub hl [2, 3, 4, 5, 6, 1, 0] rfl
      refine (fun (loop : ∀ (n9 : Nat) (i6 : Nat) (j6 : Nat) (iq : Int32) (H : Heap) (locs : List Loc) (ls : Array Slot), (i6 < 71 ∧ nSp i6 = k5 ∧ j6 ≤ i6) →  (71 < i6 + n9) → va_P (dC, dI) vwCl (WR a k h0 vi vj vF vG) H → va_D A (WR a k h0 vi vj vF vG) → va_S A s.heap H locs → lv_has ls 7 [(0, .ref h0), (1, .int (nI bn)), (2, .int (nI nn)), (3, .int (nI i6)), (4, .int (nI k5)), (5, .int (nI j6)), (6, .int iq)] → W p l e _ s m _ below meth c H locs 0 0 _ (F0 m 18 ls [])) => loop (72) i5 0 1 _ _ _ (⟨nSp_lt i5 (by omega) (by omega), by omega, by omega⟩) (by omega) hP hD hS hl) ?_
      intro n9
      induction n9 with
      | zero => intro i6 j6 iq H locs ls hi6 hf9; exact False.elim (by omega)
      | succ n9 ih18_1 =>
        intro i6 j6 iq H locs ls hi6 hf18_1 hP hD hS hl
        refine lv_iload_n hx hb dX12_key_18 rfl (lv_at hl 3 rfl) ?_
        have hFc := noneFree hS hA
        refine va_calli (va_runS (As := [.int (nI i6)]) (rest := []) ⟨hx, hb, hml, hown, hts⟩ (r_X12_keyLetter l dC dI i6 (by first | with_reducible assumption | decide | omega | rfl | assumption) H.size) (va_cwS 1 hts gwsRX12_key_0 rfl rfl rfl (by decide +kernel) ⟨by decide +kernel, by decide +kernel⟩) ⟨fun a U g mk q => by obtain ⟨q0, q1, qP, qK, qD, qE⟩ := q; exact ⟨q0, q1, qP, va_K.moved (u := U) (U := U.calling g mk a) (Vm.Alike.refl U.vm) qK, qD, qE.same rfl⟩, fun U hU9 hW => ⟨rfl, by rw [hU9], by rw [hU9]; exact nilP, va_K.moved hW.alike (hK.sub (tys' := []) [] rfl), nilD, by rw [hU9]; exact (((hE : StrA A s s.heap).kept hS.2.1).narrow (fun q h => hFc q h)).warm hW⟩⟩ rfl rfl hl.1 rfl (lv_room (Nat.le_of_ble_eq_true rfl)) dX12_key_19 (by decide +kernel)) hS (fun q _ h => hFc q h) hFc (fun r19 u t9_ H1 locs ht hvm hw9 hB9 hz1 hk1 hS => ?_)
        have hP := keepAll hP hk1
        clear hB9
        generalize H1 = H at hP hS ⊢
        have hP : va_P (dC, dI) vwCl (WR a k h0 vi vj vF vG) H := hP
        have hD := fz_sd hP (hD) rfl
        have f19_0 := hw9
        try dsimp only at f19_0
        refine lv_bipush (v := 32) hx hb dX12_key_22 (by decide) ?_
        refine lv_icmp_eq (tgt := 69) hx hb dX12_key_24 (by decide) (fun c_24 => ?_) (fun c_24 => ?_)
        · have t_24 : (r19).toInt = 32 := toI_eq c_24 rfl (by decide)
          refine lv_iinc (v := (nI (i6 + 1))) hx hb dX12_key_69 hl (k := 3) rfl (nI_add i6 1) (by decide) rfl (fun ls (hl : lv_has ls _ ([(3, .int (nI (i6 + 1))), (0, .ref h0), (1, .int (nI bn)), (2, .int (nI nn)), (4, .int (nI k5)), (5, .int (nI j6)), (6, .int iq)])) => ?_)
          refine lv_iload hx hb dX12_key_72 (lv_at hl 6 rfl) ?_
          refine W.cut (pc := 86) (fun H locs ls stk =>  stk = [] ∧ va_P (dC, dI) vwCl (WR a k h0 vi vj vF vG) H ∧ va_D A (WR a k h0 vi vj vF vG) ∧ va_S A s.heap H locs ∧ lv_has ls 7 [(3, .int (nI (i6 + 1))), (0, .ref h0), (1, .int (nI bn)), (2, .int (nI nn)), (4, .int (nI k5)), (5, .int (nI j6)), (6, .int iq)]) (fun join1 => ?_) ?_
          · refine lv_if_eq (tgt := 86) hx hb dX12_key_74 (by decide) (fun c_74 => ?_) (fun c_74 => ?_)
            · have t_74 : (iq).toInt = 0 := toI_eq c_74 rfl (by decide)
              have hl : lv_has _ _ ([(3, .int (nI (i6 + 1))), (0, .ref h0), (1, .int (nI bn)), (2, .int (nI nn)), (4, .int (nI k5)), (5, .int (nI j6)), (6, .int iq)]) := lv_sub hl [0, 1, 2, 3, 4, 5, 6] rfl
              exact join1 _ _ _ _ ⟨rfl, hP, hD, hS, hl⟩
            · have t_74 : ¬ (iq).toInt = 0 := toI_neq c_74 rfl (by decide)
              refine lv_iload hx hb dX12_key_77 (lv_at hl 5 rfl) ?_
              refine lv_iload_n hx hb dX12_key_79 rfl (lv_at hl 3 rfl) ?_
              refine lv_icmp_ne (tgt := 86) hx hb dX12_key_80 (by decide) (fun c_80 => ?_) (fun c_80 => ?_)
              · have t_80 : ((j6 : Nat) : Int) ≠ ((nn : Nat) : Int) := toI_ne c_80 (nI_toInt (by omega)) (nI_toInt (by omega))
                have hl : lv_has _ _ ([(3, .int (nI (i6 + 1))), (0, .ref h0), (1, .int (nI bn)), (2, .int (nI nn)), (4, .int (nI k5)), (5, .int (nI j6)), (6, .int iq)]) := lv_sub hl [0, 1, 2, 3, 4, 5, 6] rfl
                exact join1 _ _ _ _ ⟨rfl, hP, hD, hS, hl⟩
              · have t_80 : ((j6 : Nat) : Int) = ((nn : Nat) : Int) := toI_nne c_80 (nI_toInt (by omega)) (nI_toInt (by omega))
                refine lv_iload hx hb dX12_key_83 (lv_at hl 4 rfl) ?_
                refine W.widen (k := 0) (n := 0) (by decide +kernel) (by decide +kernel) ?_
                exact W.iret (v := (nI k5)) hx hb hr (fun t9_ ht hW => ⟨⟨(nI k5), (), rfl, trivial, by rw [ht]; exact hP, hD⟩, hS.F ht⟩) hS.2.2 dX12_key_85
          · rintro H locs ls stk ⟨rfl, hP, hD, hS, hl⟩
            refine lv_iinc (v := (nI (k5 + 1))) hx hb dX12_key_86 hl (k := 4) rfl (nI_add k5 1) (by decide) rfl (fun ls (hl : lv_has ls _ ([(4, .int (nI (k5 + 1))), (3, .int (nI (i6 + 1))), (0, .ref h0), (1, .int (nI bn)), (2, .int (nI nn)), (5, .int (nI j6)), (6, .int iq)])) => ?_)
            refine lv_goto (tgt := 5) hx hb dX12_key_89 (by decide) ?_
            have hl : lv_has _ _ ([(0, .ref h0), (1, .int (nI bn)), (2, .int (nI nn)), (3, .int (nI (i6 + 1))), (4, .int (nI (k5 + 1)))]) := lv_sub hl [2, 3, 4, 1, 0] rfl
            exact ih5 (k5 + 1) (i6 + 1) _ _ _ (by (have h9 : nSp (i6 + 1) = nSp i6 + 1 := by simp only [nSp]; rw [if_pos (by rw [← f19_0]; exact c_24)]); omega) (by omega) hP hD hS hl
        · have t_24 : ¬ (r19).toInt = 32 := toI_neq c_24 rfl (by decide)
          refine lv_iload hx hb dX12_key_27 (lv_at hl 6 rfl) ?_
          refine W.cut (pc := 58) (fun H locs ls stk => ∃ (j2_s0 : Int32),  stk = [.int j2_s0] ∧ va_P (dC, dI) vwCl (WR a k h0 vi vj vF vG) H ∧ va_D A (WR a k h0 vi vj vF vG) ∧ va_S A s.heap H locs ∧ lv_has ls 7 [(0, .ref h0), (1, .int (nI bn)), (2, .int (nI nn)), (3, .int (nI i6)), (4, .int (nI k5)), (5, .int (nI j6)), (6, .int iq)]) (fun join2 => ?_) ?_
          · refine lv_if_eq (tgt := 57) hx hb dX12_key_29 (by decide) (fun c_29 => ?_) (fun c_29 => ?_)
            · have t_29 : (iq).toInt = 0 := toI_eq c_29 rfl (by decide)
              refine lv_iconst (v := 0) hx hb dX12_key_57 (by decide) ?_
              have hl : lv_has _ _ ([(0, .ref h0), (1, .int (nI bn)), (2, .int (nI nn)), (3, .int (nI i6)), (4, .int (nI k5)), (5, .int (nI j6)), (6, .int iq)]) := lv_sub hl [0, 1, 2, 3, 4, 5, 6] rfl
              exact join2 _ _ _ _ ⟨0, rfl, hP, hD, hS, hl⟩
            · have t_29 : ¬ (iq).toInt = 0 := toI_neq c_29 rfl (by decide)
              refine lv_iload hx hb dX12_key_32 (lv_at hl 5 rfl) ?_
              refine lv_iload_n hx hb dX12_key_34 rfl (lv_at hl 2 rfl) ?_
              refine lv_icmp_ge (tgt := 57) hx hb dX12_key_35 (by decide) (fun c_35 => ?_) (fun c_35 => ?_)
              · have t_35 : ((j6 : Nat) : Int) ≥ ((nn : Nat) : Int) := toI_ge c_35 (nI_toInt (by omega)) (nI_toInt (by omega))
                refine lv_iconst (v := 0) hx hb dX12_key_57 (by decide) ?_
                have hl : lv_has _ _ ([(0, .ref h0), (1, .int (nI bn)), (2, .int (nI nn)), (3, .int (nI i6)), (4, .int (nI k5)), (5, .int (nI j6)), (6, .int iq)]) := lv_sub hl [0, 1, 2, 3, 4, 5, 6] rfl
                exact join2 _ _ _ _ ⟨0, rfl, hP, hD, hS, hl⟩
              · have t_35 : ¬ ((j6 : Nat) : Int) ≥ ((nn : Nat) : Int) := toI_nge c_35 (nI_toInt (by omega)) (nI_toInt (by omega))
                refine lv_aload_n hx hb dX12_key_38 rfl (lv_at hl 0 rfl) ?_
                refine lv_iload_n hx hb dX12_key_39 rfl (lv_at hl 1 rfl) ?_
                refine lv_iload hx hb dX12_key_40 (lv_at hl 5 rfl) ?_
                refine lv_iadd hx hb dX12_key_42 ?_
                refine lv_topi (fun y1 hy1 => ?_)
                obtain rfl : (nI (bn + j6)) = y1 := (hy1.trans (nI_add bn j6)).symm
                have hFc := allFree hD hS hA
                refine va_calli (va_runV (As := [.int (nI (bn + j6))]) (rest := []) ⟨hx, hb, hml, hown, hts⟩ (r_X12_byteAt l dC dI a k h0 vi vj vF vG (bn + j6) tp hTp (by first | with_reducible assumption | decide | omega | rfl | assumption) (by first | with_reducible assumption | decide | omega | rfl | assumption) H.size) (cwV 1 hts gwsRX12_key_1 rfl rfl rfl hd_yX12_byteAt_RX12 (by decide +kernel)) (fz_pre (va_recv hK hP (ci := 12) (q0 := 0) rfl rfl) hP hK hD) rfl rfl hl.1 rfl (lv_room (Nat.le_of_ble_eq_true rfl)) dX12_key_43 (by decide +kernel)) hS (fun q _ h => hFc q h) hFc (fun r43 u t9_ H locs ht hvm hw9 hB9 hz1 hk1 hS => ?_)
                have hP : va_P (dC, dI) vwCl (WR a k h0 vi vj vF vG) H := fz_P ht hB9.1
                have hD := fz_sd hP (hB9.2.weaken (fun _ q _ h => hFc q.1 h)) rfl
                obtain rfl := hw9
                refine lv_iload_n hx hb dX12_key_46 rfl (lv_at hl 3 rfl) ?_
                have hFc := noneFree hS hA
                refine va_calli (va_runS (As := [.int (nI i6)]) (rest := [.int (bA tp (vF 9) (bn + j6))]) ⟨hx, hb, hml, hown, hts⟩ (r_X12_keyLetter l dC dI i6 (by first | with_reducible assumption | decide | omega | rfl | assumption) H.size) (va_cwS 1 hts gwsRX12_key_0 rfl rfl rfl (by decide +kernel) ⟨by decide +kernel, by decide +kernel⟩) ⟨fun a U g mk q => by obtain ⟨q0, q1, qP, qK, qD, qE⟩ := q; exact ⟨q0, q1, qP, va_K.moved (u := U) (U := U.calling g mk a) (Vm.Alike.refl U.vm) qK, qD, qE.same rfl⟩, fun U hU9 hW => ⟨rfl, by rw [hU9], by rw [hU9]; exact nilP, va_K.moved hW.alike (hK.sub (tys' := []) [] rfl), nilD, by rw [hU9]; exact (((hE : StrA A s s.heap).kept hS.2.1).narrow (fun q h => hFc q h)).warm hW⟩⟩ rfl rfl hl.1 rfl (lv_room (Nat.le_of_ble_eq_true rfl)) dX12_key_47 (by decide +kernel)) hS (fun q _ h => hFc q h) hFc (fun r47 u t9_ H1 locs ht hvm hw9 hB9 hz1 hk1 hS => ?_)
                have hP := keepAll hP hk1
                clear hB9
                generalize H1 = H at hP hS ⊢
                have hP : va_P (dC, dI) vwCl (WR a k h0 vi vj vF vG) H := hP
                have hD := fz_sd hP (hD) rfl
                have f47_0 := hw9
                try dsimp only at f47_0
                refine lv_icmp_ne (tgt := 57) hx hb dX12_key_50 (by decide) (fun c_50 => ?_) (fun c_50 => ?_)
                · have t_50 : ((bA tp (vF 9) (bn + j6))).toInt ≠ (r47).toInt := toI_ne c_50 rfl rfl
                  refine lv_iconst (v := 0) hx hb dX12_key_57 (by decide) ?_
                  have hl : lv_has _ _ ([(0, .ref h0), (1, .int (nI bn)), (2, .int (nI nn)), (3, .int (nI i6)), (4, .int (nI k5)), (5, .int (nI j6)), (6, .int iq)]) := lv_sub hl [0, 1, 2, 3, 4, 5, 6] rfl
                  exact join2 _ _ _ _ ⟨0, rfl, hP, hD, hS, hl⟩
                · have t_50 : ((bA tp (vF 9) (bn + j6))).toInt = (r47).toInt := toI_nne c_50 rfl rfl
                  refine lv_iconst (v := 1) hx hb dX12_key_53 (by decide) ?_
                  refine lv_goto (tgt := 58) hx hb dX12_key_54 (by decide) ?_
                  have hl : lv_has _ _ ([(0, .ref h0), (1, .int (nI bn)), (2, .int (nI nn)), (3, .int (nI i6)), (4, .int (nI k5)), (5, .int (nI j6)), (6, .int iq)]) := lv_sub hl [0, 1, 2, 3, 4, 5, 6] rfl
                  exact join2 _ _ _ _ ⟨1, rfl, hP, hD, hS, hl⟩
          · rintro H locs ls stk ⟨j2_s0, rfl, hP, hD, hS, hl⟩
            refine lv_istore hx hb dX12_key_58 hl (by decide) rfl (fun ls (hl : lv_has ls _ ([(6, .int j2_s0), (0, .ref h0), (1, .int (nI bn)), (2, .int (nI nn)), (3, .int (nI i6)), (4, .int (nI k5)), (5, .int (nI j6))])) => ?_)
            refine lv_iinc (v := (nI (i6 + 1))) hx hb dX12_key_60 hl (k := 4) rfl (nI_add i6 1) (by decide) rfl (fun ls (hl : lv_has ls _ ([(3, .int (nI (i6 + 1))), (6, .int j2_s0), (0, .ref h0), (1, .int (nI bn)), (2, .int (nI nn)), (4, .int (nI k5)), (5, .int (nI j6))])) => ?_)
            refine lv_iinc (v := (nI (j6 + 1))) hx hb dX12_key_63 hl (k := 6) rfl (nI_add j6 1) (by decide) rfl (fun ls (hl : lv_has ls _ ([(5, .int (nI (j6 + 1))), (3, .int (nI (i6 + 1))), (6, .int j2_s0), (0, .ref h0), (1, .int (nI bn)), (2, .int (nI nn)), (4, .int (nI k5))])) => ?_)
            refine lv_goto (tgt := 18) hx hb dX12_key_66 (by decide) ?_
            have hl : lv_has _ _ ([(0, .ref h0), (1, .int (nI bn)), (2, .int (nI nn)), (3, .int (nI (i6 + 1))), (4, .int (nI k5)), (5, .int (nI (j6 + 1))), (6, .int j2_s0)]) := lv_sub hl [3, 4, 5, 1, 6, 0, 2] rfl
            exact ih18_1 (i6 + 1) (j6 + 1) j2_s0 _ _ _ (by (have h9 : nSp (i6 + 1) = nSp i6 := by simp only [nSp]; rw [if_neg (by rw [← f19_0]; exact c_24)]; rfl); (have h8 := kl_end i6 (by omega) (by rw [← f19_0]; exact c_24)); omega) (by omega) hP hD hS hl
end
section
/-- the word before the reader: from fn to an; only the end has no letters; a number has at most six figures -/
def LxO (tp fn an : Nat) (wd sg : Int32) : Prop := fn ≤ an ∧ an ≤ tp ∧ (wd = 0 ∨ fn < an) ∧ (wd = 3 → 0 ≤ sg.toInt ∧ sg.toInt ≤ 999999)
theorem i32z {x : Int32} (h : x.toInt = 0) : x = 0 := Int32.toInt_inj.mp (by rw [h]; decide)
end
section
theorem hd_yX12_key_RX12 : yX12_key.cls = RX12 ∧ yX12_key.cls ≠ "java/lang/invoke/MethodHandle" ∧ yX12_key.cls ≠ "java/lang/invoke/VarHandle" ∧ (parseMethodDescriptor yX12_key.desc).map (fun d => d.parameters.length) = some 2 := by decide +kernel
theorem hd_yX12_takeName_RX12 : yX12_takeName.cls = RX12 ∧ yX12_takeName.cls ≠ "java/lang/invoke/MethodHandle" ∧ yX12_takeName.cls ≠ "java/lang/invoke/VarHandle" ∧ (parseMethodDescriptor yX12_takeName.desc).map (fun d => d.parameters.length) = some 0 := by decide +kernel
theorem hd_yX12_takeNumber_RX12 : yX12_takeNumber.cls = RX12 ∧ yX12_takeNumber.cls ≠ "java/lang/invoke/MethodHandle" ∧ yX12_takeNumber.cls ≠ "java/lang/invoke/VarHandle" ∧ (parseMethodDescriptor yX12_takeNumber.desc).map (fun d => d.parameters.length) = some 0 := by decide +kernel
theorem hd_yX12_takeSign_RX12 : yX12_takeSign.cls = RX12 ∧ yX12_takeSign.cls ≠ "java/lang/invoke/MethodHandle" ∧ yX12_takeSign.cls ≠ "java/lang/invoke/VarHandle" ∧ (parseMethodDescriptor yX12_takeSign.desc).map (fun d => d.parameters.length) = some 1 := by decide +kernel
theorem hd_yX12_isSign_RX12 : yX12_isSign.cls = RX12 ∧ yX12_isSign.cls ≠ "java/lang/invoke/MethodHandle" ∧ yX12_isSign.cls ≠ "java/lang/invoke/VarHandle" ∧ (parseMethodDescriptor yX12_isSign.desc).map (fun d => d.parameters.length) = some 1 := by decide +kernel
theorem hd_yX12_next_RX12 : yX12_next.cls = RX12 ∧ yX12_next.cls ≠ "java/lang/invoke/MethodHandle" ∧ yX12_next.cls ≠ "java/lang/invoke/VarHandle" ∧ (parseMethodDescriptor yX12_next.desc).map (fun d => d.parameters.length) = some 0 := by decide +kernel
theorem hd_yX12_wrong_RX12 : yX12_wrong.cls = RX12 ∧ yX12_wrong.cls ≠ "java/lang/invoke/MethodHandle" ∧ yX12_wrong.cls ≠ "java/lang/invoke/VarHandle" ∧ (parseMethodDescriptor yX12_wrong.desc).map (fun d => d.parameters.length) = some 0 := by decide +kernel
theorem hd_yX12_isKey_RX12 : yX12_isKey.cls = RX12 ∧ yX12_isKey.cls ≠ "java/lang/invoke/MethodHandle" ∧ yX12_isKey.cls ≠ "java/lang/invoke/VarHandle" ∧ (parseMethodDescriptor yX12_isKey.desc).map (fun d => d.parameters.length) = some 1 := by decide +kernel
theorem dX12_takeName_0 : decode cX12_takeName 0 = .ok (.aload_n 0, 1) := dk_42 (by decide +kernel)
theorem dX12_takeName_1 : decode cX12_takeName 1 = .ok (.aload_n 0, 1) := dk_42 (by decide +kernel)
theorem dX12_takeName_2 : decode cX12_takeName 2 = .ok (.getfield 485, 3) := dk_180 (by decide +kernel)
theorem dX12_takeName_5 : decode cX12_takeName 5 = .ok (.invokevirtual 482, 3) := dk_182 (by decide +kernel)
theorem dX12_takeName_8 : decode cX12_takeName 8 = .ok (.invokestatic 497, 3) := dk_184 (by decide +kernel)
theorem dX12_takeName_11 : decode cX12_takeName 11 = .ok (.ifCond .ne 17, 3) := dk_154 (by decide +kernel)
theorem dX12_takeName_14 : decode cX12_takeName 14 = .ok (.aload_n 0, 1) := dk_42 (by decide +kernel)
theorem dX12_takeName_15 : decode cX12_takeName 15 = .ok (.aload_n 0, 1) := dk_42 (by decide +kernel)
theorem dX12_takeName_16 : decode cX12_takeName 16 = .ok (.getfield 485, 3) := dk_180 (by decide +kernel)
theorem dX12_takeName_19 : decode cX12_takeName 19 = .ok (.invokevirtual 482, 3) := dk_182 (by decide +kernel)
theorem dX12_takeName_22 : decode cX12_takeName 22 = .ok (.invokestatic 503, 3) := dk_184 (by decide +kernel)
theorem dX12_takeName_25 : decode cX12_takeName 25 = .ok (.ifCond .eq 16, 3) := dk_153 (by decide +kernel)
theorem dX12_takeName_28 : decode cX12_takeName 28 = .ok (.aload_n 0, 1) := dk_42 (by decide +kernel)
theorem dX12_takeName_29 : decode cX12_takeName 29 = .ok (.dup, 1) := dk_89 (by decide +kernel)
theorem dX12_takeName_30 : decode cX12_takeName 30 = .ok (.getfield 485, 3) := dk_180 (by decide +kernel)
theorem dX12_takeName_33 : decode cX12_takeName 33 = .ok (.iconst 1, 1) := dk_4 (by decide +kernel)
theorem dX12_takeName_34 : decode cX12_takeName 34 = .ok (.iadd, 1) := dk_96 (by decide +kernel)
theorem dX12_takeName_35 : decode cX12_takeName 35 = .ok (.putfield 485, 3) := dk_181 (by decide +kernel)
theorem dX12_takeName_38 : decode cX12_takeName 38 = .ok (.goto (-38), 3) := dk_167 (by decide +kernel)
theorem dX12_takeName_41 : decode cX12_takeName 41 = .ok (.aload_n 0, 1) := dk_42 (by decide +kernel)
theorem dX12_takeName_42 : decode cX12_takeName 42 = .ok (.aload_n 0, 1) := dk_42 (by decide +kernel)
theorem dX12_takeName_43 : decode cX12_takeName 43 = .ok (.aload_n 0, 1) := dk_42 (by decide +kernel)
theorem dX12_takeName_44 : decode cX12_takeName 44 = .ok (.getfield 488, 3) := dk_180 (by decide +kernel)
theorem dX12_takeName_47 : decode cX12_takeName 47 = .ok (.aload_n 0, 1) := dk_42 (by decide +kernel)
theorem dX12_takeName_48 : decode cX12_takeName 48 = .ok (.getfield 485, 3) := dk_180 (by decide +kernel)
theorem dX12_takeName_51 : decode cX12_takeName 51 = .ok (.aload_n 0, 1) := dk_42 (by decide +kernel)
theorem dX12_takeName_52 : decode cX12_takeName 52 = .ok (.getfield 488, 3) := dk_180 (by decide +kernel)
theorem dX12_takeName_55 : decode cX12_takeName 55 = .ok (.isub, 1) := dk_100 (by decide +kernel)
theorem dX12_takeName_56 : decode cX12_takeName 56 = .ok (.invokevirtual 512, 3) := dk_182 (by decide +kernel)
theorem dX12_takeName_59 : decode cX12_takeName 59 = .ok (.putfield 491, 3) := dk_181 (by decide +kernel)
theorem dX12_takeName_62 : decode cX12_takeName 62 = .ok (.aload_n 0, 1) := dk_42 (by decide +kernel)
theorem dX12_takeName_63 : decode cX12_takeName 63 = .ok (.aload_n 0, 1) := dk_42 (by decide +kernel)
theorem dX12_takeName_64 : decode cX12_takeName 64 = .ok (.getfield 491, 3) := dk_180 (by decide +kernel)
theorem dX12_takeName_67 : decode cX12_takeName 67 = .ok (.iconst (-1), 1) := dk_2 (by decide +kernel)
theorem dX12_takeName_68 : decode cX12_takeName 68 = .ok (.if_icmp .eq 7, 3) := dk_159 (by decide +kernel)
theorem dX12_takeName_71 : decode cX12_takeName 71 = .ok (.iconst 2, 1) := dk_5 (by decide +kernel)
theorem dX12_takeName_72 : decode cX12_takeName 72 = .ok (.goto 22, 3) := dk_167 (by decide +kernel)
theorem dX12_takeName_75 : decode cX12_takeName 75 = .ok (.aload_n 0, 1) := dk_42 (by decide +kernel)
theorem dX12_takeName_76 : decode cX12_takeName 76 = .ok (.getfield 485, 3) := dk_180 (by decide +kernel)
theorem dX12_takeName_79 : decode cX12_takeName 79 = .ok (.aload_n 0, 1) := dk_42 (by decide +kernel)
theorem dX12_takeName_80 : decode cX12_takeName 80 = .ok (.getfield 488, 3) := dk_180 (by decide +kernel)
theorem dX12_takeName_83 : decode cX12_takeName 83 = .ok (.isub, 1) := dk_100 (by decide +kernel)
theorem dX12_takeName_84 : decode cX12_takeName 84 = .ok (.bipush 8, 2) := dk_16 (by decide +kernel)
theorem dX12_takeName_86 : decode cX12_takeName 86 = .ok (.if_icmp .le 7, 3) := dk_164 (by decide +kernel)
theorem dX12_takeName_89 : decode cX12_takeName 89 = .ok (.iconst 5, 1) := dk_8 (by decide +kernel)
theorem dX12_takeName_90 : decode cX12_takeName 90 = .ok (.goto 4, 3) := dk_167 (by decide +kernel)
theorem dX12_takeName_93 : decode cX12_takeName 93 = .ok (.iconst 1, 1) := dk_4 (by decide +kernel)
theorem dX12_takeName_94 : decode cX12_takeName 94 = .ok (.putfield 494, 3) := dk_181 (by decide +kernel)
theorem dX12_takeName_97 : decode cX12_takeName 97 = .ok (.return_, 1) := dk_177 (by decide +kernel)
def wsRX12_takeName : List Cond := .code yX12_takeName cX12_takeName 1 none :: ([.fieldLink RX12 485 "OptimaWorksModel" "at0" "I", .fieldLink RX12 488 "OptimaWorksModel" "from" "I", .fieldLink RX12 491 "OptimaWorksModel" "sign0" "I", .fieldLink RX12 494 "OptimaWorksModel" "word" "I"] ++ wsX120 ++ (wsV RX12 482 RX12 yX12_byteAt wsRX12_byteAt) ++ (va_wsS RX12 497 yX12_isLetter wsRX12_isLetter) ++ (va_wsS RX12 503 yX12_isDigit wsRX12_isDigit) ++ (wsV RX12 512 RX12 yX12_key wsRX12_key))
theorem iwsRX12_takeName_in12 : ∀ w ∈ wsX120, w ∈ wsRX12_takeName := fun _ h => List.mem_cons_of_mem _ (List.mem_append_left _ (List.mem_append_left _ (List.mem_append_left _ (List.mem_append_left _ (List.mem_append_right _ h)))))
theorem gwsRX12_takeName_0 : GoodIn wsRX12_takeName (wsV RX12 482 RX12 yX12_byteAt wsRX12_byteAt) := goodIn_sub (fun _ h => List.mem_cons_of_mem _ (List.mem_append_left _ (List.mem_append_left _ (List.mem_append_left _ (List.mem_append_right _ h))))) (gdV (by decide +kernel) gdwsRX12_byteAt)
theorem gwsRX12_takeName_1 : GoodIn wsRX12_takeName (va_wsS RX12 497 yX12_isLetter wsRX12_isLetter) := goodIn_sub (fun _ h => List.mem_cons_of_mem _ (List.mem_append_left _ (List.mem_append_left _ (List.mem_append_right _ h)))) (gdS (by decide +kernel) gdwsRX12_isLetter)
theorem gwsRX12_takeName_2 : GoodIn wsRX12_takeName (va_wsS RX12 503 yX12_isDigit wsRX12_isDigit) := goodIn_sub (fun _ h => List.mem_cons_of_mem _ (List.mem_append_left _ (List.mem_append_right _ h))) (gdS (by decide +kernel) gdwsRX12_isDigit)
theorem gwsRX12_takeName_3 : GoodIn wsRX12_takeName (wsV RX12 512 RX12 yX12_key wsRX12_key) := goodIn_sub (fun _ h => List.mem_cons_of_mem _ (List.mem_append_right _ h)) (gdV (by decide +kernel) gdwsRX12_key)
theorem gdwsRX12_takeName : wsRX12_takeName.all goodWord = true := gdC rfl (gdA (gdA (gdA (gdA (gdA (by decide +kernel : ([.fieldLink RX12 485 "OptimaWorksModel" "at0" "I", .fieldLink RX12 488 "OptimaWorksModel" "from" "I", .fieldLink RX12 491 "OptimaWorksModel" "sign0" "I", .fieldLink RX12 494 "OptimaWorksModel" "word" "I"] : List Cond).all goodWord = true) gdwsX120) (gdV (by decide +kernel) gdwsRX12_byteAt)) (gdS (by decide +kernel) gdwsRX12_isLetter)) (gdS (by decide +kernel) gdwsRX12_isDigit)) (gdV (by decide +kernel) gdwsRX12_key))
theorem hm_r_X12_takeName_0 : (.fieldLink RX12 485 "OptimaWorksModel" "at0" "I" : Cond) ∈ wsRX12_takeName := by decide +kernel
theorem hm_r_X12_takeName_1 : (.fieldLink RX12 488 "OptimaWorksModel" "from" "I" : Cond) ∈ wsRX12_takeName := by decide +kernel
theorem hm_r_X12_takeName_2 : (.fieldLink RX12 491 "OptimaWorksModel" "sign0" "I" : Cond) ∈ wsRX12_takeName := by decide +kernel
theorem hm_r_X12_takeName_3 : (.fieldLink RX12 494 "OptimaWorksModel" "word" "I" : Cond) ∈ wsRX12_takeName := by decide +kernel
set_option maxHeartbeats 4000000 in
set_option maxRecDepth 100000 in
/-- takeName() -/
theorem r_X12_takeName (l : Launch) (dC : Nat → ClassId) (dI : Nat → Nat → Nat) (a : Nat → Nat) (k : Nat → ClassId) (h0 : Nat) (vi : Nat → Int32) (vj : Nat → Int64) (vF : Nat → Nat → Int32) (vG : Nat → Nat → Int64) (tp : Nat) (an : Nat) (fn : Nat) (hTp : vi 16 = nI tp) (htp : tp ≤ 4000) (ha0 : vi 17 = nI an) (hfr : vi 19 = nI fn) (hfa : fn ≤ an) (hant : an < tp) (hlt : (65 ≤ (bA tp (vF 9) an).toInt ∧ (bA tp (vF 9) an).toInt ≤ 90) ∨ (97 ≤ (bA tp (vF 9) an).toInt ∧ (bA tp (vF 9) an).toInt ≤ 122)) (sz : Nat) : Met l yX12_takeName wsRX12_takeName ({ frames := 6, cells := 0, slots := 0, locals := 131 }) (va_Pc [.ref h0] (fun U => U.heap.size = sz ∧ va_P (dC, dI) vwCl (WR a k h0 vi vj vF vG) U.heap ∧ va_K (dC, dI) vwCl (tX12 k) U ∧ va_D (fun _ => True) (WR a k h0 vi vj vF vG) ∧ StrA (va_A (WR a k h0 vi vj vF vG) sz) U U.heap)) (va_Qv (fun (u : (Nat) × (Int32) × (Int32)) => (an < (u.1) ∧ (u.1) ≤ tp) ∧ ((u.2.2) = 1 ∨ (u.2.2) = 2 ∨ (u.2.2) = 5)) (fun (u : (Nat) × (Int32) × (Int32)) t => va_P (dC, dI) vwCl (WR a k h0 (fT (fT (fT vi 17 (nI (u.1))) 20 (u.2.1)) 18 (u.2.2)) vj vF vG) t.heap ∧ va_D (va_A (WR a k h0 vi vj vF vG) sz) (WR a k h0 (fT (fT (fT vi 17 (nI (u.1))) 20 (u.2.1)) 18 (u.2.2)) vj vF vG)) (va_A (WR a k h0 vi vj vF vG) sz)) 0 0 (va_A (WR a k h0 vi vj vF vG) sz) := by
  refine Met.ofW (cc := cX12_takeName) (maxL := 1) (ret := none) (by decide) rfl ?_
  intro p e s m args below meth c s₁ B hml hv
  obtain ⟨rfl, hsz, hP, hK, hD0, hE⟩ := hv
  have hx := B.exec
  have hb := B.bytes
  have hr := B.returns
  have hts := atoms_spec (ws := wsRX12_takeName) B.pre
  have hown : s.vm.findClass RX12 = some m.cls := findClass_of_methodNamed B.named
  have hlocks := B.notSynchronized
  subst hsz
  have hD := hD0.self (sz := s.heap.size)
  generalize hAe : va_A (WR a k h0 vi vj vF vG) s.heap.size = A at hD hE ⊢
  have hA : ∀ q : Nat, s.heap.size ≤ q → A q := fun q h => by rw [← hAe]; exact Or.inr h
  have hS : va_S A s.heap s.heap [] := va_S.rf
  have hl := lv_entry ([.ref h0]) (n := 1) (Nat.le_of_ble_eq_true rfl)
  rw [lg_entry_eq]
  generalize (lg_sl ([.ref h0]) ++ List.replicate (1 - (lg_sl ([.ref h0])).length) Slot.unset).toArray = ls at hl ⊢
  have hl : lv_has ls 1 [(0, .ref h0)] := hl
  have e9 : fT vi 17 (nI an) = vi := by funext q9; by_cases h9_17 : q9 = 17; (subst h9_17; exact (fT_eq _ _ _).trans (Eq.trans (by first | with_reducible rfl | with_reducible assumption | (symm; with_reducible assumption) | rfl | assumption | (symm; assumption) | (subst_vars; rfl)) (Eq.refl _).symm)); exact (fT_ne _ _ h9_17).trans (Eq.refl _).symm
  have hP := wr_Pi e9 hP
  have hD := wr_Di e9 hD
  clear e9
  have hl : lv_has _ _ ([(0, .ref h0)]) := lv_sub hl [0] rfl
  refine (fun (loop : ∀ (n9 : Nat) (a5 : Nat) (H : Heap) (locs : List Loc) (ls : Array Slot), (an ≤ a5 ∧ a5 ≤ tp) →  (tp < a5 + n9) → va_P (dC, dI) vwCl (WR a k h0 (fT vi 17 (nI a5)) vj vF vG) H → va_D A (WR a k h0 (fT vi 17 (nI a5)) vj vF vG) → va_S A s.heap H locs → lv_has ls 1 [(0, .ref h0)] → W p l e _ s m _ below meth c H locs 0 0 _ (F0 m 0 ls [])) => loop (tp + 1) an _ _ _ (by omega) (by omega) hP hD hS hl) ?_
  intro n9
  induction n9 with
  | zero => intro a5 H locs ls ha5 hf9; exact False.elim (by omega)
  | succ n9 ih0 =>
    intro a5 H locs ls ha5 hf0 hP hD hS hl
    refine lv_aload_n hx hb dX12_takeName_0 rfl (lv_at hl 0 rfl) ?_
    refine lv_aload_n hx hb dX12_takeName_1 rfl (lv_at hl 0 rfl) ?_
    refine va_get (D := (dC, dI)) (ci := 12) (v := .int (nI a5)) (C := RX12) (T := TX12) (N := 163) (fs := fM (vS a (fT vi 17 (nI a5)) vj)) hx hb hts iwsRX12_takeName_in12 hown hK hP 0 rfl rfl 17 (by decide) (hts _ hm_r_X12_takeName_0) (fun _ h9 => h9) rfl dX12_takeName_2 ?_
    have hFc := allFree hD hS hA
    refine va_calli (va_runV (As := [.int (nI a5)]) (rest := []) ⟨hx, hb, hml, hown, hts⟩ (r_X12_byteAt l dC dI a k h0 (fT vi 17 (nI a5)) vj vF vG a5 tp hTp (by first | with_reducible assumption | decide | omega | rfl | assumption) (by first | with_reducible assumption | decide | omega | rfl | assumption) H.size) (cwV 1 hts gwsRX12_takeName_0 rfl rfl rfl hd_yX12_byteAt_RX12 (by decide +kernel)) (fz_pre (va_recv hK hP (ci := 12) (q0 := 0) rfl rfl) hP hK hD) rfl rfl hl.1 rfl (lv_room (Nat.le_of_ble_eq_true rfl)) dX12_takeName_5 (by decide +kernel)) hS (fun q _ h => hFc q h) hFc (fun r5 u t9_ H locs ht hvm hw9 hB9 hz1 hk1 hS => ?_)
    have hP : va_P (dC, dI) vwCl (WR a k h0 (fT vi 17 (nI a5)) vj vF vG) H := fz_P ht hB9.1
    have hD := fz_sd hP (hB9.2.weaken (fun _ q _ h => hFc q.1 h)) rfl
    obtain rfl := hw9
    have hFc := noneFree hS hA
    refine va_calli (va_runS (As := [.int (bA tp (vF 9) a5)]) (rest := []) ⟨hx, hb, hml, hown, hts⟩ (r_X12_isLetter l dC dI (bA tp (vF 9) a5) H.size) (va_cwS 1 hts gwsRX12_takeName_1 rfl rfl rfl (by decide +kernel) ⟨by decide +kernel, by decide +kernel⟩) ⟨fun a U g mk q => by obtain ⟨q0, q1, qP, qK, qD⟩ := q; exact ⟨q0, q1, qP, va_K.moved (u := U) (U := U.calling g mk a) (Vm.Alike.refl U.vm) qK, qD⟩, fun U hU9 hW => ⟨rfl, by rw [hU9], by rw [hU9]; exact nilP, va_K.moved hW.alike (hK.sub (tys' := []) [] rfl), nilD⟩⟩ rfl rfl hl.1 rfl (lv_room (Nat.le_of_ble_eq_true rfl)) dX12_takeName_8 (by decide +kernel)) hS (fun q _ h => hFc q h) hFc (fun r8 u t9_ H1 locs ht hvm hw9 hB9 hz1 hk1 hS => ?_)
    have hP := keepAll hP hk1
    clear hB9
    generalize H1 = H at hP hS ⊢
    have hP : va_P (dC, dI) vwCl (WR a k h0 (fT vi 17 (nI a5)) vj vF vG) H := hP
    have hD := fz_sd hP (hD) rfl
    rcases hw9 with ⟨rfl, f8_0⟩ | ⟨rfl, f8_0⟩
    · refine lv_if_ne (tgt := 28) hx hb dX12_takeName_11 (by decide) (fun _ => ?_) (fun c9 => absurd c9 (by decide))
      have bi := bA_in tp (vF 9) a5
      refine lv_aload_n hx hb dX12_takeName_28 rfl (lv_at hl 0 rfl) ?_
      refine lv_dup hx hb dX12_takeName_29 rfl ?_
      refine va_get (D := (dC, dI)) (ci := 12) (v := .int (nI a5)) (C := RX12) (T := TX12) (N := 163) (fs := fM (vS a (fT vi 17 (nI a5)) vj)) hx hb hts iwsRX12_takeName_in12 hown hK hP 0 rfl rfl 17 (by decide) (hts _ hm_r_X12_takeName_0) (fun _ h9 => h9) rfl dX12_takeName_30 ?_
      refine lv_iconst (v := 1) hx hb dX12_takeName_33 (by decide) ?_
      refine lv_iadd hx hb dX12_takeName_34 ?_
      refine lv_topi (fun y1 hy1 => ?_)
      obtain rfl : (nI (a5 + 1)) = y1 := (hy1.trans (nI_add a5 1)).symm
      refine va_put (D := (dC, dI)) (ci := 12) (v := .int (nI (a5 + 1))) (ty := .int) (C := RX12) (T := TX12) (N := 163) (fs := fM (vS a (fT vi 17 (nI a5)) vj)) hx hb hts iwsRX12_takeName_in12 tyX12 tyX12_ok nmX12 hown hK hP hD hS 0 rfl rfl 17 (by decide) (hts _ hm_r_X12_takeName_0) (fun _ h9 => h9) rfl (by decide +kernel) rfl rfl (Nat.le_of_ble_eq_true rfl) dX12_takeName_35 (fun H locs hP hD hS => ?_)
      have e9 : fT vi 17 (nI (a5 + 1)) = fT (fT vi 17 (nI a5)) 17 (nI (a5 + 1)) := (fT_sm _ _ _ _).symm
      have hP := wr_Pi e9 (fz_w (WR_i 17 _ rfl) hP)
      have hD := wr_Di e9 (fz_wD (WR_i 17 _ rfl) hD)
      clear e9
      refine lv_goto (tgt := 0) hx hb dX12_takeName_38 (by decide) ?_
      have hl : lv_has _ _ ([(0, .ref h0)]) := lv_sub hl [0] rfl
      exact ih0 (a5 + 1) _ _ _ (by omega) (by omega) hP hD hS hl
    · refine lv_if_ne (tgt := 28) hx hb dX12_takeName_11 (by decide) (fun c9 => absurd c9 (by decide)) (fun _ => ?_)
      refine lv_aload_n hx hb dX12_takeName_14 rfl (lv_at hl 0 rfl) ?_
      refine lv_aload_n hx hb dX12_takeName_15 rfl (lv_at hl 0 rfl) ?_
      refine va_get (D := (dC, dI)) (ci := 12) (v := .int (nI a5)) (C := RX12) (T := TX12) (N := 163) (fs := fM (vS a (fT vi 17 (nI a5)) vj)) hx hb hts iwsRX12_takeName_in12 hown hK hP 0 rfl rfl 17 (by decide) (hts _ hm_r_X12_takeName_0) (fun _ h9 => h9) rfl dX12_takeName_16 ?_
      have hFc := allFree hD hS hA
      refine va_calli (va_runV (As := [.int (nI a5)]) (rest := []) ⟨hx, hb, hml, hown, hts⟩ (r_X12_byteAt l dC dI a k h0 (fT vi 17 (nI a5)) vj vF vG a5 tp hTp (by first | with_reducible assumption | decide | omega | rfl | assumption) (by first | with_reducible assumption | decide | omega | rfl | assumption) H.size) (cwV 1 hts gwsRX12_takeName_0 rfl rfl rfl hd_yX12_byteAt_RX12 (by decide +kernel)) (fz_pre (va_recv hK hP (ci := 12) (q0 := 0) rfl rfl) hP hK hD) rfl rfl hl.1 rfl (lv_room (Nat.le_of_ble_eq_true rfl)) dX12_takeName_19 (by decide +kernel)) hS (fun q _ h => hFc q h) hFc (fun r19 u t9_ H locs ht hvm hw9 hB9 hz1 hk1 hS => ?_)
      have hP : va_P (dC, dI) vwCl (WR a k h0 (fT vi 17 (nI a5)) vj vF vG) H := fz_P ht hB9.1
      have hD := fz_sd hP (hB9.2.weaken (fun _ q _ h => hFc q.1 h)) rfl
      obtain rfl := hw9
      have hFc := noneFree hS hA
      refine va_calli (va_runS (As := [.int (bA tp (vF 9) a5)]) (rest := []) ⟨hx, hb, hml, hown, hts⟩ (r_X12_isDigit l dC dI (bA tp (vF 9) a5) H.size) (va_cwS 1 hts gwsRX12_takeName_2 rfl rfl rfl (by decide +kernel) ⟨by decide +kernel, by decide +kernel⟩) ⟨fun a U g mk q => by obtain ⟨q0, q1, qP, qK, qD⟩ := q; exact ⟨q0, q1, qP, va_K.moved (u := U) (U := U.calling g mk a) (Vm.Alike.refl U.vm) qK, qD⟩, fun U hU9 hW => ⟨rfl, by rw [hU9], by rw [hU9]; exact nilP, va_K.moved hW.alike (hK.sub (tys' := []) [] rfl), nilD⟩⟩ rfl rfl hl.1 rfl (lv_room (Nat.le_of_ble_eq_true rfl)) dX12_takeName_22 (by decide +kernel)) hS (fun q _ h => hFc q h) hFc (fun r22 u t9_ H1 locs ht hvm hw9 hB9 hz1 hk1 hS => ?_)
      have hP := keepAll hP hk1
      clear hB9
      generalize H1 = H at hP hS ⊢
      have hP : va_P (dC, dI) vwCl (WR a k h0 (fT vi 17 (nI a5)) vj vF vG) H := hP
      have hD := fz_sd hP (hD) rfl
      rcases hw9 with ⟨rfl, f22_0⟩ | ⟨rfl, f22_0⟩
      · refine lv_if_eq (tgt := 41) hx hb dX12_takeName_25 (by decide) (fun c9 => absurd c9 (by decide)) (fun _ => ?_)
        have bi := bA_in tp (vF 9) a5
        refine lv_aload_n hx hb dX12_takeName_28 rfl (lv_at hl 0 rfl) ?_
        refine lv_dup hx hb dX12_takeName_29 rfl ?_
        refine va_get (D := (dC, dI)) (ci := 12) (v := .int (nI a5)) (C := RX12) (T := TX12) (N := 163) (fs := fM (vS a (fT vi 17 (nI a5)) vj)) hx hb hts iwsRX12_takeName_in12 hown hK hP 0 rfl rfl 17 (by decide) (hts _ hm_r_X12_takeName_0) (fun _ h9 => h9) rfl dX12_takeName_30 ?_
        refine lv_iconst (v := 1) hx hb dX12_takeName_33 (by decide) ?_
        refine lv_iadd hx hb dX12_takeName_34 ?_
        refine lv_topi (fun y2 hy2 => ?_)
        obtain rfl : (nI (a5 + 1)) = y2 := (hy2.trans (nI_add a5 1)).symm
        refine va_put (D := (dC, dI)) (ci := 12) (v := .int (nI (a5 + 1))) (ty := .int) (C := RX12) (T := TX12) (N := 163) (fs := fM (vS a (fT vi 17 (nI a5)) vj)) hx hb hts iwsRX12_takeName_in12 tyX12 tyX12_ok nmX12 hown hK hP hD hS 0 rfl rfl 17 (by decide) (hts _ hm_r_X12_takeName_0) (fun _ h9 => h9) rfl (by decide +kernel) rfl rfl (Nat.le_of_ble_eq_true rfl) dX12_takeName_35 (fun H locs hP hD hS => ?_)
        have e9 : fT vi 17 (nI (a5 + 1)) = fT (fT vi 17 (nI a5)) 17 (nI (a5 + 1)) := (fT_sm _ _ _ _).symm
        have hP := wr_Pi e9 (fz_w (WR_i 17 _ rfl) hP)
        have hD := wr_Di e9 (fz_wD (WR_i 17 _ rfl) hD)
        clear e9
        refine lv_goto (tgt := 0) hx hb dX12_takeName_38 (by decide) ?_
        have hl : lv_has _ _ ([(0, .ref h0)]) := lv_sub hl [0] rfl
        exact ih0 (a5 + 1) _ _ _ (by omega) (by omega) hP hD hS hl
      · refine lv_if_eq (tgt := 41) hx hb dX12_takeName_25 (by decide) (fun _ => ?_) (fun c9 => absurd (by decide) c9)
        have ha5 : an < a5 := by rcases Nat.lt_or_ge an a5 with h | h; (exact h); (exfalso; (have e9 : a5 = an := by omega); rw [e9] at f8_0; exact f8_0 hlt)
        refine lv_aload_n hx hb dX12_takeName_41 rfl (lv_at hl 0 rfl) ?_
        refine lv_aload_n hx hb dX12_takeName_42 rfl (lv_at hl 0 rfl) ?_
        refine lv_aload_n hx hb dX12_takeName_43 rfl (lv_at hl 0 rfl) ?_
        refine va_get (D := (dC, dI)) (ci := 12) (v := .int (vi 19)) (C := RX12) (T := TX12) (N := 163) (fs := fM (vS a (fT vi 17 (nI a5)) vj)) hx hb hts iwsRX12_takeName_in12 hown hK hP 0 rfl rfl 19 (by decide) (hts _ hm_r_X12_takeName_1) (fun _ h9 => h9) rfl dX12_takeName_44 ?_
        refine lv_topi (fun y3 hy3 => ?_)
        obtain rfl : (nI fn) = y3 := (hy3.trans (hfr)).symm
        refine lv_aload_n hx hb dX12_takeName_47 rfl (lv_at hl 0 rfl) ?_
        refine va_get (D := (dC, dI)) (ci := 12) (v := .int (nI a5)) (C := RX12) (T := TX12) (N := 163) (fs := fM (vS a (fT vi 17 (nI a5)) vj)) hx hb hts iwsRX12_takeName_in12 hown hK hP 0 rfl rfl 17 (by decide) (hts _ hm_r_X12_takeName_0) (fun _ h9 => h9) rfl dX12_takeName_48 ?_
        refine lv_aload_n hx hb dX12_takeName_51 rfl (lv_at hl 0 rfl) ?_
        refine va_get (D := (dC, dI)) (ci := 12) (v := .int (vi 19)) (C := RX12) (T := TX12) (N := 163) (fs := fM (vS a (fT vi 17 (nI a5)) vj)) hx hb hts iwsRX12_takeName_in12 hown hK hP 0 rfl rfl 19 (by decide) (hts _ hm_r_X12_takeName_1) (fun _ h9 => h9) rfl dX12_takeName_52 ?_
        refine lv_topi (fun y4 hy4 => ?_)
        obtain rfl : (nI fn) = y4 := (hy4.trans (hfr)).symm
        refine lv_isub hx hb dX12_takeName_55 ?_
        refine lv_topi (fun y5 hy5 => ?_)
        obtain rfl : (nI (a5 - fn)) = y5 := (hy5.trans (pk_sub (a := a5) (b := fn) (by omega))).symm
        have hFc := allFree hD hS hA
        refine va_calli (va_runV (As := [.int (nI fn), .int (nI (a5 - fn))]) (rest := [.ref h0]) ⟨hx, hb, hml, hown, hts⟩ (r_X12_key l dC dI a k h0 (fT vi 17 (nI a5)) vj vF vG fn (a5 - fn) tp hTp (by first | with_reducible assumption | decide | omega | rfl | assumption) (by first | with_reducible assumption | decide | omega | rfl | assumption) (by first | with_reducible assumption | decide | omega | rfl | assumption) H.size) (cwV 2 hts gwsRX12_takeName_3 rfl rfl rfl hd_yX12_key_RX12 (by decide +kernel)) (fz_preE (va_recv hK hP (ci := 12) (q0 := 0) rfl rfl) hP hK hD (fun a U g mk qE => qE.same rfl) (fun U hU9 hW => by rw [hU9]; exact (((hE : StrA A s s.heap).kept hS.2.1).narrow (fun q h => hFc q h)).warm hW)) rfl rfl hl.1 rfl (lv_room (Nat.le_of_ble_eq_true rfl)) dX12_takeName_56 (by decide +kernel)) hS (fun q _ h => hFc q h) hFc (fun r56 u t9_ H locs ht hvm hw9 hB9 hz1 hk1 hS => ?_)
        have hP : va_P (dC, dI) vwCl (WR a k h0 (fT vi 17 (nI a5)) vj vF vG) H := fz_P ht hB9.1
        have hD := fz_sd hP (hB9.2.weaken (fun _ q _ h => hFc q.1 h)) rfl
        refine va_put (D := (dC, dI)) (ci := 12) (v := .int r56) (ty := .int) (C := RX12) (T := TX12) (N := 163) (fs := fM (vS a (fT vi 17 (nI a5)) vj)) hx hb hts iwsRX12_takeName_in12 tyX12 tyX12_ok nmX12 hown hK hP hD hS 0 rfl rfl 20 (by decide) (hts _ hm_r_X12_takeName_2) (fun _ h9 => h9) rfl (by decide +kernel) rfl rfl (Nat.le_of_ble_eq_true rfl) dX12_takeName_59 (fun H locs hP hD hS => ?_)
        have hP : va_P (dC, dI) vwCl (WR a k h0 (fT (fT vi 17 (nI a5)) 20 r56) vj vF vG) H := fz_w (WR_i 20 _ rfl) hP
        have hD : va_D A (WR a k h0 (fT (fT vi 17 (nI a5)) 20 r56) vj vF vG) := fz_wD (WR_i 20 _ rfl) hD
        refine lv_aload_n hx hb dX12_takeName_62 rfl (lv_at hl 0 rfl) ?_
        refine lv_aload_n hx hb dX12_takeName_63 rfl (lv_at hl 0 rfl) ?_
        refine va_get (D := (dC, dI)) (ci := 12) (v := .int r56) (C := RX12) (T := TX12) (N := 163) (fs := fM (vS a (fT (fT vi 17 (nI a5)) 20 r56) vj)) hx hb hts iwsRX12_takeName_in12 hown hK hP 0 rfl rfl 20 (by decide) (hts _ hm_r_X12_takeName_2) (fun _ h9 => h9) rfl dX12_takeName_64 ?_
        refine lv_iconst (v := (-1)) hx hb dX12_takeName_67 (by decide) ?_
        refine lv_icmp_eq (tgt := 75) hx hb dX12_takeName_68 (by decide) (fun c_68 => ?_) (fun c_68 => ?_)
        · have t_68 : (r56).toInt = -1 := toI_eq c_68 rfl (by decide)
          refine lv_aload_n hx hb dX12_takeName_75 rfl (lv_at hl 0 rfl) ?_
          refine va_get (D := (dC, dI)) (ci := 12) (v := .int (nI a5)) (C := RX12) (T := TX12) (N := 163) (fs := fM (vS a (fT (fT vi 17 (nI a5)) 20 r56) vj)) hx hb hts iwsRX12_takeName_in12 hown hK hP 0 rfl rfl 17 (by decide) (hts _ hm_r_X12_takeName_0) (fun _ h9 => h9) rfl dX12_takeName_76 ?_
          refine lv_aload_n hx hb dX12_takeName_79 rfl (lv_at hl 0 rfl) ?_
          refine va_get (D := (dC, dI)) (ci := 12) (v := .int (vi 19)) (C := RX12) (T := TX12) (N := 163) (fs := fM (vS a (fT (fT vi 17 (nI a5)) 20 r56) vj)) hx hb hts iwsRX12_takeName_in12 hown hK hP 0 rfl rfl 19 (by decide) (hts _ hm_r_X12_takeName_1) (fun _ h9 => h9) rfl dX12_takeName_80 ?_
          refine lv_topi (fun y6 hy6 => ?_)
          obtain rfl : (nI fn) = y6 := (hy6.trans (hfr)).symm
          refine lv_isub hx hb dX12_takeName_83 ?_
          refine lv_topi (fun y7 hy7 => ?_)
          obtain rfl : (nI (a5 - fn)) = y7 := (hy7.trans (pk_sub (a := a5) (b := fn) (by omega))).symm
          refine lv_bipush (v := 8) hx hb dX12_takeName_84 (by decide) ?_
          refine lv_icmp_le (tgt := 93) hx hb dX12_takeName_86 (by decide) (fun c_86 => ?_) (fun c_86 => ?_)
          · have t_86 : (((a5 - fn) : Nat) : Int) ≤ 8 := toI_le c_86 (nI_toInt (by omega)) (by decide)
            refine lv_iconst (v := 1) hx hb dX12_takeName_93 (by decide) ?_
            refine va_put (D := (dC, dI)) (ci := 12) (v := .int 1) (ty := .int) (C := RX12) (T := TX12) (N := 163) (fs := fM (vS a (fT (fT vi 17 (nI a5)) 20 r56) vj)) hx hb hts iwsRX12_takeName_in12 tyX12 tyX12_ok nmX12 hown hK hP hD hS 0 rfl rfl 18 (by decide) (hts _ hm_r_X12_takeName_3) (fun _ h9 => h9) rfl (by decide +kernel) rfl rfl (Nat.le_of_ble_eq_true rfl) dX12_takeName_94 (fun H locs hP hD hS => ?_)
            have hP : va_P (dC, dI) vwCl (WR a k h0 (fT (fT (fT vi 17 (nI a5)) 20 r56) 18 1) vj vF vG) H := fz_w (WR_i 18 _ rfl) hP
            have hD : va_D A (WR a k h0 (fT (fT (fT vi 17 (nI a5)) 20 r56) 18 1) vj vF vG) := fz_wD (WR_i 18 _ rfl) hD
            refine W.widen (k := 0) (n := 0) (by decide +kernel) (by decide +kernel) ?_
            exact W.vret hx hb hr (fun t9_ ht hW => ⟨⟨(a5, r56, 1), rfl, by (try dsimp only); exact ⟨by omega, Or.inl rfl⟩, by rw [ht]; exact hP, hD⟩, hS.F ht⟩) hS.2.2 dX12_takeName_97
          · have t_86 : ¬ (((a5 - fn) : Nat) : Int) ≤ 8 := toI_nle c_86 (nI_toInt (by omega)) (by decide)
            refine lv_iconst (v := 5) hx hb dX12_takeName_89 (by decide) ?_
            refine lv_goto (tgt := 94) hx hb dX12_takeName_90 (by decide) ?_
            refine va_put (D := (dC, dI)) (ci := 12) (v := .int 5) (ty := .int) (C := RX12) (T := TX12) (N := 163) (fs := fM (vS a (fT (fT vi 17 (nI a5)) 20 r56) vj)) hx hb hts iwsRX12_takeName_in12 tyX12 tyX12_ok nmX12 hown hK hP hD hS 0 rfl rfl 18 (by decide) (hts _ hm_r_X12_takeName_3) (fun _ h9 => h9) rfl (by decide +kernel) rfl rfl (Nat.le_of_ble_eq_true rfl) dX12_takeName_94 (fun H locs hP hD hS => ?_)
            have hP : va_P (dC, dI) vwCl (WR a k h0 (fT (fT (fT vi 17 (nI a5)) 20 r56) 18 5) vj vF vG) H := fz_w (WR_i 18 _ rfl) hP
            have hD : va_D A (WR a k h0 (fT (fT (fT vi 17 (nI a5)) 20 r56) 18 5) vj vF vG) := fz_wD (WR_i 18 _ rfl) hD
            refine W.widen (k := 0) (n := 0) (by decide +kernel) (by decide +kernel) ?_
            exact W.vret hx hb hr (fun t9_ ht hW => ⟨⟨(a5, r56, 5), rfl, by (try dsimp only); exact ⟨by omega, Or.inr (Or.inr rfl)⟩, by rw [ht]; exact hP, hD⟩, hS.F ht⟩) hS.2.2 dX12_takeName_97
        · have t_68 : ¬ (r56).toInt = -1 := toI_neq c_68 rfl (by decide)
          refine lv_iconst (v := 2) hx hb dX12_takeName_71 (by decide) ?_
          refine lv_goto (tgt := 94) hx hb dX12_takeName_72 (by decide) ?_
          refine va_put (D := (dC, dI)) (ci := 12) (v := .int 2) (ty := .int) (C := RX12) (T := TX12) (N := 163) (fs := fM (vS a (fT (fT vi 17 (nI a5)) 20 r56) vj)) hx hb hts iwsRX12_takeName_in12 tyX12 tyX12_ok nmX12 hown hK hP hD hS 0 rfl rfl 18 (by decide) (hts _ hm_r_X12_takeName_3) (fun _ h9 => h9) rfl (by decide +kernel) rfl rfl (Nat.le_of_ble_eq_true rfl) dX12_takeName_94 (fun H locs hP hD hS => ?_)
          have hP : va_P (dC, dI) vwCl (WR a k h0 (fT (fT (fT vi 17 (nI a5)) 20 r56) 18 2) vj vF vG) H := fz_w (WR_i 18 _ rfl) hP
          have hD : va_D A (WR a k h0 (fT (fT (fT vi 17 (nI a5)) 20 r56) 18 2) vj vF vG) := fz_wD (WR_i 18 _ rfl) hD
          refine W.widen (k := 0) (n := 0) (by decide +kernel) (by decide +kernel) ?_
          exact W.vret hx hb hr (fun t9_ ht hW => ⟨⟨(a5, r56, 2), rfl, by (try dsimp only); exact ⟨by omega, Or.inr (Or.inl rfl)⟩, by rw [ht]; exact hP, hD⟩, hS.F ht⟩) hS.2.2 dX12_takeName_97
theorem dX12_next_0 : decode cX12_next 0 = .ok (.iconst 1, 1) := dk_4 (by decide +kernel)
theorem dX12_next_1 : decode cX12_next 1 = .ok (.istore_n 1, 1) := dk_60 (by decide +kernel)
theorem dX12_next_2 : decode cX12_next 2 = .ok (.iload_n 1, 1) := dk_27 (by decide +kernel)
theorem dX12_next_3 : decode cX12_next 3 = .ok (.ifCond .eq 97, 3) := dk_153 (by decide +kernel)
theorem dX12_next_6 : decode cX12_next 6 = .ok (.aload_n 0, 1) := dk_42 (by decide +kernel)
theorem dX12_next_7 : decode cX12_next 7 = .ok (.aload_n 0, 1) := dk_42 (by decide +kernel)
theorem dX12_next_8 : decode cX12_next 8 = .ok (.getfield 485, 3) := dk_180 (by decide +kernel)
theorem dX12_next_11 : decode cX12_next 11 = .ok (.invokevirtual 482, 3) := dk_182 (by decide +kernel)
theorem dX12_next_14 : decode cX12_next 14 = .ok (.istore_n 2, 1) := dk_61 (by decide +kernel)
theorem dX12_next_15 : decode cX12_next 15 = .ok (.iload_n 2, 1) := dk_28 (by decide +kernel)
theorem dX12_next_16 : decode cX12_next 16 = .ok (.bipush 35, 2) := dk_16 (by decide +kernel)
theorem dX12_next_18 : decode cX12_next 18 = .ok (.if_icmp .ne 40, 3) := dk_160 (by decide +kernel)
theorem dX12_next_21 : decode cX12_next 21 = .ok (.aload_n 0, 1) := dk_42 (by decide +kernel)
theorem dX12_next_22 : decode cX12_next 22 = .ok (.aload_n 0, 1) := dk_42 (by decide +kernel)
theorem dX12_next_23 : decode cX12_next 23 = .ok (.getfield 485, 3) := dk_180 (by decide +kernel)
theorem dX12_next_26 : decode cX12_next 26 = .ok (.invokevirtual 482, 3) := dk_182 (by decide +kernel)
theorem dX12_next_29 : decode cX12_next 29 = .ok (.ifCond .lt 68, 3) := dk_155 (by decide +kernel)
theorem dX12_next_32 : decode cX12_next 32 = .ok (.aload_n 0, 1) := dk_42 (by decide +kernel)
theorem dX12_next_33 : decode cX12_next 33 = .ok (.aload_n 0, 1) := dk_42 (by decide +kernel)
theorem dX12_next_34 : decode cX12_next 34 = .ok (.getfield 485, 3) := dk_180 (by decide +kernel)
theorem dX12_next_37 : decode cX12_next 37 = .ok (.invokevirtual 482, 3) := dk_182 (by decide +kernel)
theorem dX12_next_40 : decode cX12_next 40 = .ok (.bipush 10, 2) := dk_16 (by decide +kernel)
theorem dX12_next_42 : decode cX12_next 42 = .ok (.if_icmp .eq 55, 3) := dk_159 (by decide +kernel)
theorem dX12_next_45 : decode cX12_next 45 = .ok (.aload_n 0, 1) := dk_42 (by decide +kernel)
theorem dX12_next_46 : decode cX12_next 46 = .ok (.dup, 1) := dk_89 (by decide +kernel)
theorem dX12_next_47 : decode cX12_next 47 = .ok (.getfield 485, 3) := dk_180 (by decide +kernel)
theorem dX12_next_50 : decode cX12_next 50 = .ok (.iconst 1, 1) := dk_4 (by decide +kernel)
theorem dX12_next_51 : decode cX12_next 51 = .ok (.iadd, 1) := dk_96 (by decide +kernel)
theorem dX12_next_52 : decode cX12_next 52 = .ok (.putfield 485, 3) := dk_181 (by decide +kernel)
theorem dX12_next_55 : decode cX12_next 55 = .ok (.goto (-34), 3) := dk_167 (by decide +kernel)
theorem dX12_next_58 : decode cX12_next 58 = .ok (.iload_n 2, 1) := dk_28 (by decide +kernel)
theorem dX12_next_59 : decode cX12_next 59 = .ok (.bipush 9, 2) := dk_16 (by decide +kernel)
theorem dX12_next_61 : decode cX12_next 61 = .ok (.if_icmp .eq 21, 3) := dk_159 (by decide +kernel)
theorem dX12_next_64 : decode cX12_next 64 = .ok (.iload_n 2, 1) := dk_28 (by decide +kernel)
theorem dX12_next_65 : decode cX12_next 65 = .ok (.bipush 10, 2) := dk_16 (by decide +kernel)
theorem dX12_next_67 : decode cX12_next 67 = .ok (.if_icmp .eq 15, 3) := dk_159 (by decide +kernel)
theorem dX12_next_70 : decode cX12_next 70 = .ok (.iload_n 2, 1) := dk_28 (by decide +kernel)
theorem dX12_next_71 : decode cX12_next 71 = .ok (.bipush 13, 2) := dk_16 (by decide +kernel)
theorem dX12_next_73 : decode cX12_next 73 = .ok (.if_icmp .eq 9, 3) := dk_159 (by decide +kernel)
theorem dX12_next_76 : decode cX12_next 76 = .ok (.iload_n 2, 1) := dk_28 (by decide +kernel)
theorem dX12_next_77 : decode cX12_next 77 = .ok (.bipush 32, 2) := dk_16 (by decide +kernel)
theorem dX12_next_79 : decode cX12_next 79 = .ok (.if_icmp .ne 16, 3) := dk_160 (by decide +kernel)
theorem dX12_next_82 : decode cX12_next 82 = .ok (.aload_n 0, 1) := dk_42 (by decide +kernel)
theorem dX12_next_83 : decode cX12_next 83 = .ok (.dup, 1) := dk_89 (by decide +kernel)
theorem dX12_next_84 : decode cX12_next 84 = .ok (.getfield 485, 3) := dk_180 (by decide +kernel)
theorem dX12_next_87 : decode cX12_next 87 = .ok (.iconst 1, 1) := dk_4 (by decide +kernel)
theorem dX12_next_88 : decode cX12_next 88 = .ok (.iadd, 1) := dk_96 (by decide +kernel)
theorem dX12_next_89 : decode cX12_next 89 = .ok (.putfield 485, 3) := dk_181 (by decide +kernel)
theorem dX12_next_92 : decode cX12_next 92 = .ok (.goto 5, 3) := dk_167 (by decide +kernel)
theorem dX12_next_95 : decode cX12_next 95 = .ok (.iconst 0, 1) := dk_3 (by decide +kernel)
theorem dX12_next_96 : decode cX12_next 96 = .ok (.istore_n 1, 1) := dk_60 (by decide +kernel)
theorem dX12_next_97 : decode cX12_next 97 = .ok (.goto (-95), 3) := dk_167 (by decide +kernel)
theorem dX12_next_100 : decode cX12_next 100 = .ok (.aload_n 0, 1) := dk_42 (by decide +kernel)
theorem dX12_next_101 : decode cX12_next 101 = .ok (.aload_n 0, 1) := dk_42 (by decide +kernel)
theorem dX12_next_102 : decode cX12_next 102 = .ok (.getfield 485, 3) := dk_180 (by decide +kernel)
theorem dX12_next_105 : decode cX12_next 105 = .ok (.putfield 488, 3) := dk_181 (by decide +kernel)
theorem dX12_next_108 : decode cX12_next 108 = .ok (.aload_n 0, 1) := dk_42 (by decide +kernel)
theorem dX12_next_109 : decode cX12_next 109 = .ok (.aload_n 0, 1) := dk_42 (by decide +kernel)
theorem dX12_next_110 : decode cX12_next 110 = .ok (.getfield 485, 3) := dk_180 (by decide +kernel)
theorem dX12_next_113 : decode cX12_next 113 = .ok (.invokevirtual 482, 3) := dk_182 (by decide +kernel)
theorem dX12_next_116 : decode cX12_next 116 = .ok (.istore_n 2, 1) := dk_61 (by decide +kernel)
theorem dX12_next_117 : decode cX12_next 117 = .ok (.aload_n 0, 1) := dk_42 (by decide +kernel)
theorem dX12_next_118 : decode cX12_next 118 = .ok (.iload_n 2, 1) := dk_28 (by decide +kernel)
theorem dX12_next_119 : decode cX12_next 119 = .ok (.putfield 491, 3) := dk_181 (by decide +kernel)
theorem dX12_next_122 : decode cX12_next 122 = .ok (.iload_n 2, 1) := dk_28 (by decide +kernel)
theorem dX12_next_123 : decode cX12_next 123 = .ok (.ifCond .ge 11, 3) := dk_156 (by decide +kernel)
theorem dX12_next_126 : decode cX12_next 126 = .ok (.aload_n 0, 1) := dk_42 (by decide +kernel)
theorem dX12_next_127 : decode cX12_next 127 = .ok (.iconst 0, 1) := dk_3 (by decide +kernel)
theorem dX12_next_128 : decode cX12_next 128 = .ok (.putfield 494, 3) := dk_181 (by decide +kernel)
theorem dX12_next_131 : decode cX12_next 131 = .ok (.goto 36, 3) := dk_167 (by decide +kernel)
theorem dX12_next_134 : decode cX12_next 134 = .ok (.iload_n 2, 1) := dk_28 (by decide +kernel)
theorem dX12_next_135 : decode cX12_next 135 = .ok (.invokestatic 497, 3) := dk_184 (by decide +kernel)
theorem dX12_next_138 : decode cX12_next 138 = .ok (.ifCond .eq 10, 3) := dk_153 (by decide +kernel)
theorem dX12_next_141 : decode cX12_next 141 = .ok (.aload_n 0, 1) := dk_42 (by decide +kernel)
theorem dX12_next_142 : decode cX12_next 142 = .ok (.invokevirtual 500, 3) := dk_182 (by decide +kernel)
theorem dX12_next_145 : decode cX12_next 145 = .ok (.goto 22, 3) := dk_167 (by decide +kernel)
theorem dX12_next_148 : decode cX12_next 148 = .ok (.iload_n 2, 1) := dk_28 (by decide +kernel)
theorem dX12_next_149 : decode cX12_next 149 = .ok (.invokestatic 503, 3) := dk_184 (by decide +kernel)
theorem dX12_next_152 : decode cX12_next 152 = .ok (.ifCond .eq 10, 3) := dk_153 (by decide +kernel)
theorem dX12_next_155 : decode cX12_next 155 = .ok (.aload_n 0, 1) := dk_42 (by decide +kernel)
theorem dX12_next_156 : decode cX12_next 156 = .ok (.invokevirtual 506, 3) := dk_182 (by decide +kernel)
theorem dX12_next_159 : decode cX12_next 159 = .ok (.goto 8, 3) := dk_167 (by decide +kernel)
theorem dX12_next_162 : decode cX12_next 162 = .ok (.aload_n 0, 1) := dk_42 (by decide +kernel)
theorem dX12_next_163 : decode cX12_next 163 = .ok (.iload_n 2, 1) := dk_28 (by decide +kernel)
theorem dX12_next_164 : decode cX12_next 164 = .ok (.invokevirtual 509, 3) := dk_182 (by decide +kernel)
theorem dX12_next_167 : decode cX12_next 167 = .ok (.return_, 1) := dk_177 (by decide +kernel)
def wsRX12_next : List Cond := .code yX12_next cX12_next 3 none :: ([.fieldLink RX12 485 "OptimaWorksModel" "at0" "I", .fieldLink RX12 488 "OptimaWorksModel" "from" "I", .fieldLink RX12 491 "OptimaWorksModel" "sign0" "I", .fieldLink RX12 494 "OptimaWorksModel" "word" "I"] ++ wsX120 ++ (wsV RX12 482 RX12 yX12_byteAt wsRX12_byteAt) ++ (va_wsS RX12 497 yX12_isLetter wsRX12_isLetter) ++ (wsV RX12 500 RX12 yX12_takeName wsRX12_takeName) ++ (va_wsS RX12 503 yX12_isDigit wsRX12_isDigit) ++ (wsV RX12 506 RX12 yX12_takeNumber wsRX12_takeNumber) ++ (wsV RX12 509 RX12 yX12_takeSign wsRX12_takeSign))
theorem iwsRX12_next_in12 : ∀ w ∈ wsX120, w ∈ wsRX12_next := fun _ h => List.mem_cons_of_mem _ (List.mem_append_left _ (List.mem_append_left _ (List.mem_append_left _ (List.mem_append_left _ (List.mem_append_left _ (List.mem_append_left _ (List.mem_append_right _ h)))))))
theorem gwsRX12_next_0 : GoodIn wsRX12_next (wsV RX12 482 RX12 yX12_byteAt wsRX12_byteAt) := goodIn_sub (fun _ h => List.mem_cons_of_mem _ (List.mem_append_left _ (List.mem_append_left _ (List.mem_append_left _ (List.mem_append_left _ (List.mem_append_left _ (List.mem_append_right _ h))))))) (gdV (by decide +kernel) gdwsRX12_byteAt)
theorem gwsRX12_next_1 : GoodIn wsRX12_next (va_wsS RX12 497 yX12_isLetter wsRX12_isLetter) := goodIn_sub (fun _ h => List.mem_cons_of_mem _ (List.mem_append_left _ (List.mem_append_left _ (List.mem_append_left _ (List.mem_append_left _ (List.mem_append_right _ h)))))) (gdS (by decide +kernel) gdwsRX12_isLetter)
theorem gwsRX12_next_2 : GoodIn wsRX12_next (wsV RX12 500 RX12 yX12_takeName wsRX12_takeName) := goodIn_sub (fun _ h => List.mem_cons_of_mem _ (List.mem_append_left _ (List.mem_append_left _ (List.mem_append_left _ (List.mem_append_right _ h))))) (gdV (by decide +kernel) gdwsRX12_takeName)
theorem gwsRX12_next_3 : GoodIn wsRX12_next (va_wsS RX12 503 yX12_isDigit wsRX12_isDigit) := goodIn_sub (fun _ h => List.mem_cons_of_mem _ (List.mem_append_left _ (List.mem_append_left _ (List.mem_append_right _ h)))) (gdS (by decide +kernel) gdwsRX12_isDigit)
theorem gwsRX12_next_4 : GoodIn wsRX12_next (wsV RX12 506 RX12 yX12_takeNumber wsRX12_takeNumber) := goodIn_sub (fun _ h => List.mem_cons_of_mem _ (List.mem_append_left _ (List.mem_append_right _ h))) (gdV (by decide +kernel) gdwsRX12_takeNumber)
theorem gwsRX12_next_5 : GoodIn wsRX12_next (wsV RX12 509 RX12 yX12_takeSign wsRX12_takeSign) := goodIn_sub (fun _ h => List.mem_cons_of_mem _ (List.mem_append_right _ h)) (gdV (by decide +kernel) gdwsRX12_takeSign)
theorem gdwsRX12_next : wsRX12_next.all goodWord = true := gdC rfl (gdA (gdA (gdA (gdA (gdA (gdA (gdA (by decide +kernel : ([.fieldLink RX12 485 "OptimaWorksModel" "at0" "I", .fieldLink RX12 488 "OptimaWorksModel" "from" "I", .fieldLink RX12 491 "OptimaWorksModel" "sign0" "I", .fieldLink RX12 494 "OptimaWorksModel" "word" "I"] : List Cond).all goodWord = true) gdwsX120) (gdV (by decide +kernel) gdwsRX12_byteAt)) (gdS (by decide +kernel) gdwsRX12_isLetter)) (gdV (by decide +kernel) gdwsRX12_takeName)) (gdS (by decide +kernel) gdwsRX12_isDigit)) (gdV (by decide +kernel) gdwsRX12_takeNumber)) (gdV (by decide +kernel) gdwsRX12_takeSign))
theorem hm_r_X12_next_0 : (.fieldLink RX12 485 "OptimaWorksModel" "at0" "I" : Cond) ∈ wsRX12_next := by decide +kernel
set_option maxHeartbeats 4000000 in
set_option maxRecDepth 100000 in
/-- next() -/
theorem r_X12_next (l : Launch) (dC : Nat → ClassId) (dI : Nat → Nat → Nat) (a : Nat → Nat) (k : Nat → ClassId) (h0 : Nat) (vi : Nat → Int32) (vj : Nat → Int64) (vF : Nat → Nat → Int32) (vG : Nat → Nat → Int64) (tp : Nat) (an : Nat) (hTp : vi 16 = nI tp) (htp : tp ≤ 4000) (ha0 : vi 17 = nI an) (han : an ≤ tp) (sz : Nat) : Met l yX12_next wsRX12_next ({ frames := 7, cells := 0, slots := 0, locals := 151 }) (va_Pc [.ref h0] (fun U => U.heap.size = sz ∧ va_P (dC, dI) vwCl (WR a k h0 vi vj vF vG) U.heap ∧ va_K (dC, dI) vwCl (tX12 k) U ∧ va_D (fun _ => True) (WR a k h0 vi vj vF vG) ∧ StrA (va_A (WR a k h0 vi vj vF vG) sz) U U.heap)) (va_Qv (fun (u : (Nat) × (Nat) × (Int32) × (Int32)) => (LxO tp (u.2.1) (u.1) (u.2.2.2) (u.2.2.1)) ∧ (an ≤ (u.2.1))) (fun (u : (Nat) × (Nat) × (Int32) × (Int32)) t => va_P (dC, dI) vwCl (WR a k h0 (fT (fT (fT (fT vi 17 (nI (u.1))) 19 (nI (u.2.1))) 20 (u.2.2.1)) 18 (u.2.2.2)) vj vF vG) t.heap ∧ va_D (va_A (WR a k h0 vi vj vF vG) sz) (WR a k h0 (fT (fT (fT (fT vi 17 (nI (u.1))) 19 (nI (u.2.1))) 20 (u.2.2.1)) 18 (u.2.2.2)) vj vF vG)) (va_A (WR a k h0 vi vj vF vG) sz)) 0 0 (va_A (WR a k h0 vi vj vF vG) sz) := by
  refine Met.ofW (cc := cX12_next) (maxL := 3) (ret := none) (by decide) rfl ?_
  intro p e s m args below meth c s₁ B hml hv
  obtain ⟨rfl, hsz, hP, hK, hD0, hE⟩ := hv
  have hx := B.exec
  have hb := B.bytes
  have hr := B.returns
  have hts := atoms_spec (ws := wsRX12_next) B.pre
  have hown : s.vm.findClass RX12 = some m.cls := findClass_of_methodNamed B.named
  have hlocks := B.notSynchronized
  subst hsz
  have hD := hD0.self (sz := s.heap.size)
  generalize hAe : va_A (WR a k h0 vi vj vF vG) s.heap.size = A at hD hE ⊢
  have hA : ∀ q : Nat, s.heap.size ≤ q → A q := fun q h => by rw [← hAe]; exact Or.inr h
  have hS : va_S A s.heap s.heap [] := va_S.rf
  have hl := lv_entry ([.ref h0]) (n := 3) (Nat.le_of_ble_eq_true rfl)
  rw [lg_entry_eq]
  generalize (lg_sl ([.ref h0]) ++ List.replicate (3 - (lg_sl ([.ref h0])).length) Slot.unset).toArray = ls at hl ⊢
  have hl : lv_has ls 3 [(0, .ref h0)] := hl
  refine lv_iconst (v := 1) hx hb dX12_next_0 (by decide) ?_
  refine lv_istore_n hx hb dX12_next_1 rfl hl (by decide) rfl (fun ls (hl : lv_has ls _ ([(1, .int 1), (0, .ref h0)])) => ?_)
  have e9 : fT vi 17 (nI an) = vi := by funext q9; by_cases h9_17 : q9 = 17; (subst h9_17; exact (fT_eq _ _ _).trans (Eq.trans (by first | with_reducible rfl | with_reducible assumption | (symm; with_reducible assumption) | rfl | assumption | (symm; assumption) | (subst_vars; rfl)) (Eq.refl _).symm)); exact (fT_ne _ _ h9_17).trans (Eq.refl _).symm
  have hP := wr_Pi e9 hP
  have hD := wr_Di e9 hD
  clear e9
  have hl : lv_has _ _ ([(0, .ref h0), (1, .int 1)]) := lv_sub hl [1, 0] rfl
  refine (fun (loop : ∀ (n9 : Nat) (mo : Int32) (a5 : Nat) (H : Heap) (locs : List Loc) (ls : Array Slot), (an ≤ a5 ∧ a5 ≤ tp) →  ((mo = 0 ∧ 0 < n9) ∨ tp + 1 < a5 + n9) → va_P (dC, dI) vwCl (WR a k h0 (fT vi 17 (nI a5)) vj vF vG) H → va_D A (WR a k h0 (fT vi 17 (nI a5)) vj vF vG) → va_S A s.heap H locs → lv_has ls 3 [(0, .ref h0), (1, .int mo)] → W p l e _ s m _ below meth c H locs 0 0 _ (F0 m 2 ls [])) => loop (tp + 2) 1 an _ _ _ (by omega) (Or.inr (by omega)) hP hD hS hl) ?_
  intro n9
  induction n9 with
  | zero => intro mo a5 H locs ls ha5 hf9; exact False.elim (by omega)
  | succ n9 ih2 =>
    intro mo a5 H locs ls ha5 hf2 hP hD hS hl
    have hfx := hf2
    refine lv_iload_n hx hb dX12_next_2 rfl (lv_at hl 1 rfl) ?_
    refine lv_if_eq (tgt := 100) hx hb dX12_next_3 (by decide) (fun c_3 => ?_) (fun c_3 => ?_)
    · have t_3 : (mo).toInt = 0 := toI_eq c_3 rfl (by decide)
      refine lv_aload_n hx hb dX12_next_100 rfl (lv_at hl 0 rfl) ?_
      refine lv_aload_n hx hb dX12_next_101 rfl (lv_at hl 0 rfl) ?_
      refine va_get (D := (dC, dI)) (ci := 12) (v := .int (nI a5)) (C := RX12) (T := TX12) (N := 163) (fs := fM (vS a (fT vi 17 (nI a5)) vj)) hx hb hts iwsRX12_next_in12 hown hK hP 0 rfl rfl 17 (by decide) (hts _ hm_r_X12_next_0) (fun _ h9 => h9) rfl dX12_next_102 ?_
      refine va_put (D := (dC, dI)) (ci := 12) (v := .int (nI a5)) (ty := .int) (C := RX12) (T := TX12) (N := 163) (fs := fM (vS a (fT vi 17 (nI a5)) vj)) hx hb hts iwsRX12_next_in12 tyX12 tyX12_ok nmX12 hown hK hP hD hS 0 rfl rfl 19 (by decide) (hts (.fieldLink RX12 488 "OptimaWorksModel" "from" "I") (by decide +kernel)) (fun _ h9 => h9) rfl (by decide +kernel) rfl rfl (Nat.le_of_ble_eq_true rfl) dX12_next_105 (fun H locs hP hD hS => ?_)
      have hP : va_P (dC, dI) vwCl (WR a k h0 (fT (fT vi 17 (nI a5)) 19 (nI a5)) vj vF vG) H := fz_w (WR_i 19 _ rfl) hP
      have hD : va_D A (WR a k h0 (fT (fT vi 17 (nI a5)) 19 (nI a5)) vj vF vG) := fz_wD (WR_i 19 _ rfl) hD
      refine lv_aload_n hx hb dX12_next_108 rfl (lv_at hl 0 rfl) ?_
      refine lv_aload_n hx hb dX12_next_109 rfl (lv_at hl 0 rfl) ?_
      refine va_get (D := (dC, dI)) (ci := 12) (v := .int (nI a5)) (C := RX12) (T := TX12) (N := 163) (fs := fM (vS a (fT (fT vi 17 (nI a5)) 19 (nI a5)) vj)) hx hb hts iwsRX12_next_in12 hown hK hP 0 rfl rfl 17 (by decide) (hts _ hm_r_X12_next_0) (fun _ h9 => h9) rfl dX12_next_110 ?_
      have hFc := allFree hD hS hA
      refine va_calli (va_runV (As := [.int (nI a5)]) (rest := []) ⟨hx, hb, hml, hown, hts⟩ (r_X12_byteAt l dC dI a k h0 (fT (fT vi 17 (nI a5)) 19 (nI a5)) vj vF vG a5 tp hTp (by first | with_reducible assumption | decide | omega | rfl | assumption) (by first | with_reducible assumption | decide | omega | rfl | assumption) H.size) (cwV 1 hts gwsRX12_next_0 rfl rfl rfl hd_yX12_byteAt_RX12 (by decide +kernel)) (fz_pre (va_recv hK hP (ci := 12) (q0 := 0) rfl rfl) hP hK hD) rfl rfl hl.1 rfl (lv_room (Nat.le_of_ble_eq_true rfl)) dX12_next_113 (by decide +kernel)) hS (fun q _ h => hFc q h) hFc (fun r113 u t9_ H locs ht hvm hw9 hB9 hz1 hk1 hS => ?_)
      have hP : va_P (dC, dI) vwCl (WR a k h0 (fT (fT vi 17 (nI a5)) 19 (nI a5)) vj vF vG) H := fz_P ht hB9.1
      have hD := fz_sd hP (hB9.2.weaken (fun _ q _ h => hFc q.1 h)) rfl
      obtain rfl := hw9
      refine lv_istore_n hx hb dX12_next_116 rfl hl (by decide) rfl (fun ls (hl : lv_has ls _ ([(2, .int (bA tp (vF 9) a5)), (0, .ref h0), (1, .int mo)])) => ?_)
      have bi7 := bA_in tp (vF 9) a5
      refine lv_aload_n hx hb dX12_next_117 rfl (lv_at hl 1 rfl) ?_
      refine lv_iload_n hx hb dX12_next_118 rfl (lv_at hl 0 rfl) ?_
      refine va_put (D := (dC, dI)) (ci := 12) (v := .int (bA tp (vF 9) a5)) (ty := .int) (C := RX12) (T := TX12) (N := 163) (fs := fM (vS a (fT (fT vi 17 (nI a5)) 19 (nI a5)) vj)) hx hb hts iwsRX12_next_in12 tyX12 tyX12_ok nmX12 hown hK hP hD hS 0 rfl rfl 20 (by decide) (hts (.fieldLink RX12 491 "OptimaWorksModel" "sign0" "I") (by decide +kernel)) (fun _ h9 => h9) rfl (by decide +kernel) rfl rfl (Nat.le_of_ble_eq_true rfl) dX12_next_119 (fun H locs hP hD hS => ?_)
      have hP : va_P (dC, dI) vwCl (WR a k h0 (fT (fT (fT vi 17 (nI a5)) 19 (nI a5)) 20 (bA tp (vF 9) a5)) vj vF vG) H := fz_w (WR_i 20 _ rfl) hP
      have hD : va_D A (WR a k h0 (fT (fT (fT vi 17 (nI a5)) 19 (nI a5)) 20 (bA tp (vF 9) a5)) vj vF vG) := fz_wD (WR_i 20 _ rfl) hD
      refine lv_iload_n hx hb dX12_next_122 rfl (lv_at hl 0 rfl) ?_
      refine lv_if_ge (tgt := 134) hx hb dX12_next_123 (by decide) (fun c_123 => ?_) (fun c_123 => ?_)
      · have t_123 : ((bA tp (vF 9) a5)).toInt ≥ 0 := toI_ge c_123 rfl (by decide)
        refine lv_iload_n hx hb dX12_next_134 rfl (lv_at hl 0 rfl) ?_
        have hFc := noneFree hS hA
        refine va_calli (va_runS (As := [.int (bA tp (vF 9) a5)]) (rest := []) ⟨hx, hb, hml, hown, hts⟩ (r_X12_isLetter l dC dI (bA tp (vF 9) a5) H.size) (va_cwS 1 hts gwsRX12_next_1 rfl rfl rfl (by decide +kernel) ⟨by decide +kernel, by decide +kernel⟩) ⟨fun a U g mk q => by obtain ⟨q0, q1, qP, qK, qD⟩ := q; exact ⟨q0, q1, qP, va_K.moved (u := U) (U := U.calling g mk a) (Vm.Alike.refl U.vm) qK, qD⟩, fun U hU9 hW => ⟨rfl, by rw [hU9], by rw [hU9]; exact nilP, va_K.moved hW.alike (hK.sub (tys' := []) [] rfl), nilD⟩⟩ rfl rfl hl.1 rfl (lv_room (Nat.le_of_ble_eq_true rfl)) dX12_next_135 (by decide +kernel)) hS (fun q _ h => hFc q h) hFc (fun r135 u t9_ H1 locs ht hvm hw9 hB9 hz1 hk1 hS => ?_)
        have hP := keepAll hP hk1
        clear hB9
        generalize H1 = H at hP hS ⊢
        have hP : va_P (dC, dI) vwCl (WR a k h0 (fT (fT (fT vi 17 (nI a5)) 19 (nI a5)) 20 (bA tp (vF 9) a5)) vj vF vG) H := hP
        have hD := fz_sd hP (hD) rfl
        rcases hw9 with ⟨rfl, f135_0⟩ | ⟨rfl, f135_0⟩
        · refine lv_if_eq (tgt := 148) hx hb dX12_next_138 (by decide) (fun c9 => absurd c9 (by decide)) (fun _ => ?_)
          refine lv_aload_n hx hb dX12_next_141 rfl (lv_at hl 1 rfl) ?_
          have hFc := allFree hD hS hA
          refine va_callv (va_runV (As := []) (rest := []) ⟨hx, hb, hml, hown, hts⟩ (r_X12_takeName l dC dI a k h0 (fT (fT (fT vi 17 (nI a5)) 19 (nI a5)) 20 (bA tp (vF 9) a5)) vj vF vG tp a5 a5 hTp (by first | with_reducible assumption | decide | omega | rfl | assumption) rfl rfl (by first | with_reducible assumption | decide | omega | rfl | assumption) (by omega) (f135_0) H.size) (cwV 0 hts gwsRX12_next_2 rfl rfl rfl hd_yX12_takeName_RX12 (by decide +kernel)) (fz_preE (va_recv hK hP (ci := 12) (q0 := 0) rfl rfl) hP hK hD (fun a U g mk qE => qE.same rfl) (fun U hU9 hW => by rw [hU9]; exact (((hE : StrA A s s.heap).kept hS.2.1).narrow (fun q h => hFc q h)).warm hW)) rfl rfl hl.1 rfl (lv_room (Nat.le_of_ble_eq_true rfl)) dX12_next_142 (by decide +kernel)) hS (fun q _ h => hFc q h) hFc (fun u t9_ H locs ht hvm hw9 hB9 hz1 hk1 hS => ?_)
          revert u hw9 hB9
          refine fz_p3 ?_
          intro a2142 sg142 wd142 hw9 hB9
          try dsimp only at hw9 hB9
          have e9i : fT (fT (fT (fT vi 17 (nI a2142)) 19 (nI a5)) 20 sg142) 18 wd142 = fT (fT (fT (fT (fT (fT vi 17 (nI a5)) 19 (nI a5)) 20 (bA tp (vF 9) a5)) 17 (nI a2142)) 20 sg142) 18 wd142 := ((congrArg (fun g9 => fT (fT g9 20 sg142) 18 wd142) ((fT_sw _ _ _ (Nat.ne_of_beq_eq_false rfl)).trans (congrArg (fun g9 => fT g9 20 (bA tp (vF 9) a5)) ((fT_sw _ _ _ (Nat.ne_of_beq_eq_false rfl)).trans (congrArg (fun g9 => fT g9 19 (nI a5)) (fT_sm _ _ _ _)))))).trans (congrArg (fun g9 => fT g9 18 wd142) (fT_sm _ _ _ _))).symm
          have hP := wr_Pi e9i (fz_P ht hB9.1)
          have hD := wr_Di e9i (hB9.2.weaken (fun _ q _ h => hFc q.1 h))
          clear e9i
          revert hw9
          refine fz_a2 ?_
          intro f142_0 f142_1
          refine lv_goto (tgt := 167) hx hb dX12_next_145 (by decide) ?_
          refine W.widen (k := 0) (n := 0) (by decide +kernel) (by decide +kernel) ?_
          exact W.vret hx hb hr (fun t9_ ht hW => ⟨⟨(a2142, a5, sg142, wd142), rfl, by (try dsimp only); exact ⟨⟨by omega, by omega, Or.inr (by omega), fun h9 => by rcases f142_1 with h | h | h <;> (rw [h] at h9; exact absurd h9 (by decide))⟩, by omega⟩, by rw [ht]; exact hP, hD⟩, hS.F ht⟩) hS.2.2 dX12_next_167
        · refine lv_if_eq (tgt := 148) hx hb dX12_next_138 (by decide) (fun _ => ?_) (fun c9 => absurd (by decide) c9)
          refine lv_iload_n hx hb dX12_next_148 rfl (lv_at hl 0 rfl) ?_
          have hFc := noneFree hS hA
          refine va_calli (va_runS (As := [.int (bA tp (vF 9) a5)]) (rest := []) ⟨hx, hb, hml, hown, hts⟩ (r_X12_isDigit l dC dI (bA tp (vF 9) a5) H.size) (va_cwS 1 hts gwsRX12_next_3 rfl rfl rfl (by decide +kernel) ⟨by decide +kernel, by decide +kernel⟩) ⟨fun a U g mk q => by obtain ⟨q0, q1, qP, qK, qD⟩ := q; exact ⟨q0, q1, qP, va_K.moved (u := U) (U := U.calling g mk a) (Vm.Alike.refl U.vm) qK, qD⟩, fun U hU9 hW => ⟨rfl, by rw [hU9], by rw [hU9]; exact nilP, va_K.moved hW.alike (hK.sub (tys' := []) [] rfl), nilD⟩⟩ rfl rfl hl.1 rfl (lv_room (Nat.le_of_ble_eq_true rfl)) dX12_next_149 (by decide +kernel)) hS (fun q _ h => hFc q h) hFc (fun r149 u t9_ H1 locs ht hvm hw9 hB9 hz1 hk1 hS => ?_)
          have hP := keepAll hP hk1
          clear hB9
          generalize H1 = H at hP hS ⊢
          have hP : va_P (dC, dI) vwCl (WR a k h0 (fT (fT (fT vi 17 (nI a5)) 19 (nI a5)) 20 (bA tp (vF 9) a5)) vj vF vG) H := hP
          have hD := fz_sd hP (hD) rfl
          rcases hw9 with ⟨rfl, f149_0⟩ | ⟨rfl, f149_0⟩
          · refine lv_if_eq (tgt := 162) hx hb dX12_next_152 (by decide) (fun c9 => absurd c9 (by decide)) (fun _ => ?_)
            refine lv_aload_n hx hb dX12_next_155 rfl (lv_at hl 1 rfl) ?_
            have hFc := allFree hD hS hA
            refine va_callv (va_runV (As := []) (rest := []) ⟨hx, hb, hml, hown, hts⟩ (r_X12_takeNumber l dC dI a k h0 (fT (fT (fT vi 17 (nI a5)) 19 (nI a5)) 20 (bA tp (vF 9) a5)) vj vF vG tp a5 a5 hTp (by first | with_reducible assumption | decide | omega | rfl | assumption) rfl rfl (by first | with_reducible assumption | decide | omega | rfl | assumption) (by omega) (f149_0) H.size) (cwV 0 hts gwsRX12_next_4 rfl rfl rfl hd_yX12_takeNumber_RX12 (by decide +kernel)) (fz_pre (va_recv hK hP (ci := 12) (q0 := 0) rfl rfl) hP hK hD) rfl rfl hl.1 rfl (lv_room (Nat.le_of_ble_eq_true rfl)) dX12_next_156 (by decide +kernel)) hS (fun q _ h => hFc q h) hFc (fun u t9_ H locs ht hvm hw9 hB9 hz1 hk1 hS => ?_)
            revert u hw9 hB9
            refine fz_p3 ?_
            intro a2156 sg156 wd156 hw9 hB9
            try dsimp only at hw9 hB9
            have e9i : fT (fT (fT (fT vi 17 (nI a2156)) 19 (nI a5)) 20 sg156) 18 wd156 = fT (fT (fT (fT (fT (fT vi 17 (nI a5)) 19 (nI a5)) 20 (bA tp (vF 9) a5)) 17 (nI a2156)) 20 sg156) 18 wd156 := ((congrArg (fun g9 => fT (fT g9 20 sg156) 18 wd156) ((fT_sw _ _ _ (Nat.ne_of_beq_eq_false rfl)).trans (congrArg (fun g9 => fT g9 20 (bA tp (vF 9) a5)) ((fT_sw _ _ _ (Nat.ne_of_beq_eq_false rfl)).trans (congrArg (fun g9 => fT g9 19 (nI a5)) (fT_sm _ _ _ _)))))).trans (congrArg (fun g9 => fT g9 18 wd156) (fT_sm _ _ _ _))).symm
            have hP := wr_Pi e9i (fz_P ht hB9.1)
            have hD := wr_Di e9i (hB9.2.weaken (fun _ q _ h => hFc q.1 h))
            clear e9i
            revert hw9
            refine fz_a4 ?_
            intro f156_0 f156_1 f156_2 f156_3
            refine lv_goto (tgt := 167) hx hb dX12_next_159 (by decide) ?_
            refine W.widen (k := 0) (n := 0) (by decide +kernel) (by decide +kernel) ?_
            exact W.vret hx hb hr (fun t9_ ht hW => ⟨⟨(a2156, a5, sg156, wd156), rfl, by (try dsimp only); exact ⟨⟨by omega, by omega, Or.inr (by omega), fun _ => f156_2⟩, by omega⟩, by rw [ht]; exact hP, hD⟩, hS.F ht⟩) hS.2.2 dX12_next_167
          · refine lv_if_eq (tgt := 162) hx hb dX12_next_152 (by decide) (fun _ => ?_) (fun c9 => absurd (by decide) c9)
            refine lv_aload_n hx hb dX12_next_162 rfl (lv_at hl 1 rfl) ?_
            refine lv_iload_n hx hb dX12_next_163 rfl (lv_at hl 0 rfl) ?_
            have hFc := allFree hD hS hA
            refine va_callv (va_runV (As := [.int (bA tp (vF 9) a5)]) (rest := []) ⟨hx, hb, hml, hown, hts⟩ (r_X12_takeSign l dC dI a k h0 (fT (fT (fT vi 17 (nI a5)) 19 (nI a5)) 20 (bA tp (vF 9) a5)) vj vF vG (bA tp (vF 9) a5) tp a5 hTp (by first | with_reducible assumption | decide | omega | rfl | assumption) rfl (by omega) H.size) (cwV 1 hts gwsRX12_next_5 rfl rfl rfl hd_yX12_takeSign_RX12 (by decide +kernel)) (fz_pre (va_recv hK hP (ci := 12) (q0 := 0) rfl rfl) hP hK hD) rfl rfl hl.1 rfl (lv_room (Nat.le_of_ble_eq_true rfl)) dX12_next_164 (by decide +kernel)) hS (fun q _ h => hFc q h) hFc (fun u t9_ H locs ht hvm hw9 hB9 hz1 hk1 hS => ?_)
            revert u hw9 hB9
            refine fz_p3 ?_
            intro a2164 sg164 wd164 hw9 hB9
            try dsimp only at hw9 hB9
            have e9i : fT (fT (fT (fT vi 17 (nI a2164)) 19 (nI a5)) 20 sg164) 18 wd164 = fT (fT (fT (fT (fT (fT vi 17 (nI a5)) 19 (nI a5)) 20 (bA tp (vF 9) a5)) 18 wd164) 20 sg164) 17 (nI a2164) := ((congrArg (fun g9 => fT g9 17 (nI a2164)) ((fT_sw _ _ _ (Nat.ne_of_beq_eq_false rfl)).trans (congrArg (fun g9 => fT g9 18 wd164) (fT_sm _ _ _ _)))).trans ((fT_sw _ _ _ (Nat.ne_of_beq_eq_false rfl)).trans (congrArg (fun g9 => fT g9 18 wd164) ((fT_sw _ _ _ (Nat.ne_of_beq_eq_false rfl)).trans (congrArg (fun g9 => fT g9 20 sg164) ((fT_sw _ _ _ (Nat.ne_of_beq_eq_false rfl)).trans (congrArg (fun g9 => fT g9 19 (nI a5)) (fT_sm _ _ _ _)))))))).symm
            have hP := wr_Pi e9i (fz_P ht hB9.1)
            have hD := wr_Di e9i (hB9.2.weaken (fun _ q _ h => hFc q.1 h))
            clear e9i
            revert hw9
            refine fz_a3 ?_
            intro f164_0 f164_1 f164_2
            refine W.widen (k := 0) (n := 0) (by decide +kernel) (by decide +kernel) ?_
            exact W.vret hx hb hr (fun t9_ ht hW => ⟨⟨(a2164, a5, sg164, wd164), rfl, by (try dsimp only); exact ⟨⟨by omega, by omega, Or.inr (by omega), fun h9 => by rcases f164_2 with h | h <;> (rw [h] at h9; exact absurd h9 (by decide))⟩, by omega⟩, by rw [ht]; exact hP, hD⟩, hS.F ht⟩) hS.2.2 dX12_next_167
      · have t_123 : ¬ ((bA tp (vF 9) a5)).toInt ≥ 0 := toI_nge c_123 rfl (by decide)
        refine lv_aload_n hx hb dX12_next_126 rfl (lv_at hl 1 rfl) ?_
        refine lv_iconst (v := 0) hx hb dX12_next_127 (by decide) ?_
        refine va_put (D := (dC, dI)) (ci := 12) (v := .int 0) (ty := .int) (C := RX12) (T := TX12) (N := 163) (fs := fM (vS a (fT (fT (fT vi 17 (nI a5)) 19 (nI a5)) 20 (bA tp (vF 9) a5)) vj)) hx hb hts iwsRX12_next_in12 tyX12 tyX12_ok nmX12 hown hK hP hD hS 0 rfl rfl 18 (by decide) (hts (.fieldLink RX12 494 "OptimaWorksModel" "word" "I") (by decide +kernel)) (fun _ h9 => h9) rfl (by decide +kernel) rfl rfl (Nat.le_of_ble_eq_true rfl) dX12_next_128 (fun H locs hP hD hS => ?_)
        have hP : va_P (dC, dI) vwCl (WR a k h0 (fT (fT (fT (fT vi 17 (nI a5)) 19 (nI a5)) 20 (bA tp (vF 9) a5)) 18 0) vj vF vG) H := fz_w (WR_i 18 _ rfl) hP
        have hD : va_D A (WR a k h0 (fT (fT (fT (fT vi 17 (nI a5)) 19 (nI a5)) 20 (bA tp (vF 9) a5)) 18 0) vj vF vG) := fz_wD (WR_i 18 _ rfl) hD
        refine lv_goto (tgt := 167) hx hb dX12_next_131 (by decide) ?_
        refine W.widen (k := 0) (n := 0) (by decide +kernel) (by decide +kernel) ?_
        exact W.vret hx hb hr (fun t9_ ht hW => ⟨⟨(a5, a5, (bA tp (vF 9) a5), 0), rfl, by (try dsimp only); exact ⟨⟨Nat.le_refl _, by omega, Or.inl rfl, fun h9 => absurd h9 (by decide)⟩, by omega⟩, by rw [ht]; exact hP, hD⟩, hS.F ht⟩) hS.2.2 dX12_next_167
    · have t_3 : ¬ (mo).toInt = 0 := toI_neq c_3 rfl (by decide)
      refine lv_aload_n hx hb dX12_next_6 rfl (lv_at hl 0 rfl) ?_
      refine lv_aload_n hx hb dX12_next_7 rfl (lv_at hl 0 rfl) ?_
      refine va_get (D := (dC, dI)) (ci := 12) (v := .int (nI a5)) (C := RX12) (T := TX12) (N := 163) (fs := fM (vS a (fT vi 17 (nI a5)) vj)) hx hb hts iwsRX12_next_in12 hown hK hP 0 rfl rfl 17 (by decide) (hts _ hm_r_X12_next_0) (fun _ h9 => h9) rfl dX12_next_8 ?_
      have hFc := allFree hD hS hA
      refine va_calli (va_runV (As := [.int (nI a5)]) (rest := []) ⟨hx, hb, hml, hown, hts⟩ (r_X12_byteAt l dC dI a k h0 (fT vi 17 (nI a5)) vj vF vG a5 tp hTp (by first | with_reducible assumption | decide | omega | rfl | assumption) (by first | with_reducible assumption | decide | omega | rfl | assumption) H.size) (cwV 1 hts gwsRX12_next_0 rfl rfl rfl hd_yX12_byteAt_RX12 (by decide +kernel)) (fz_pre (va_recv hK hP (ci := 12) (q0 := 0) rfl rfl) hP hK hD) rfl rfl hl.1 rfl (lv_room (Nat.le_of_ble_eq_true rfl)) dX12_next_11 (by decide +kernel)) hS (fun q _ h => hFc q h) hFc (fun r11 u t9_ H locs ht hvm hw9 hB9 hz1 hk1 hS => ?_)
      have hP : va_P (dC, dI) vwCl (WR a k h0 (fT vi 17 (nI a5)) vj vF vG) H := fz_P ht hB9.1
      have hD := fz_sd hP (hB9.2.weaken (fun _ q _ h => hFc q.1 h)) rfl
      obtain rfl := hw9
      refine lv_istore_n hx hb dX12_next_14 rfl hl (by decide) rfl (fun ls (hl : lv_has ls _ ([(2, .int (bA tp (vF 9) a5)), (0, .ref h0), (1, .int mo)])) => ?_)
      have bi := bA_in tp (vF 9) a5
      refine lv_iload_n hx hb dX12_next_15 rfl (lv_at hl 0 rfl) ?_
      refine lv_bipush (v := 35) hx hb dX12_next_16 (by decide) ?_
      refine lv_icmp_ne (tgt := 58) hx hb dX12_next_18 (by decide) (fun c_18 => ?_) (fun c_18 => ?_)
      · have t_18 : ((bA tp (vF 9) a5)).toInt ≠ 35 := toI_ne c_18 rfl (by decide)
        refine lv_iload_n hx hb dX12_next_58 rfl (lv_at hl 0 rfl) ?_
        refine lv_bipush (v := 9) hx hb dX12_next_59 (by decide) ?_
        refine lv_icmp_eq (tgt := 82) hx hb dX12_next_61 (by decide) (fun c_61 => ?_) (fun c_61 => ?_)
        · have t_61 : ((bA tp (vF 9) a5)).toInt = 9 := toI_eq c_61 rfl (by decide)
          refine lv_aload_n hx hb dX12_next_82 rfl (lv_at hl 1 rfl) ?_
          refine lv_dup hx hb dX12_next_83 rfl ?_
          refine va_get (D := (dC, dI)) (ci := 12) (v := .int (nI a5)) (C := RX12) (T := TX12) (N := 163) (fs := fM (vS a (fT vi 17 (nI a5)) vj)) hx hb hts iwsRX12_next_in12 hown hK hP 0 rfl rfl 17 (by decide) (hts _ hm_r_X12_next_0) (fun _ h9 => h9) rfl dX12_next_84 ?_
          refine lv_iconst (v := 1) hx hb dX12_next_87 (by decide) ?_
          refine lv_iadd hx hb dX12_next_88 ?_
          refine lv_topi (fun y1 hy1 => ?_)
          obtain rfl : (nI (a5 + 1)) = y1 := (hy1.trans (nI_add a5 1)).symm
          refine va_put (D := (dC, dI)) (ci := 12) (v := .int (nI (a5 + 1))) (ty := .int) (C := RX12) (T := TX12) (N := 163) (fs := fM (vS a (fT vi 17 (nI a5)) vj)) hx hb hts iwsRX12_next_in12 tyX12 tyX12_ok nmX12 hown hK hP hD hS 0 rfl rfl 17 (by decide) (hts _ hm_r_X12_next_0) (fun _ h9 => h9) rfl (by decide +kernel) rfl rfl (Nat.le_of_ble_eq_true rfl) dX12_next_89 (fun H locs hP hD hS => ?_)
          have e9 : fT vi 17 (nI (a5 + 1)) = fT (fT vi 17 (nI a5)) 17 (nI (a5 + 1)) := (fT_sm _ _ _ _).symm
          have hP := wr_Pi e9 (fz_w (WR_i 17 _ rfl) hP)
          have hD := wr_Di e9 (fz_wD (WR_i 17 _ rfl) hD)
          clear e9
          refine lv_goto (tgt := 97) hx hb dX12_next_92 (by decide) ?_
          refine lv_goto (tgt := 2) hx hb dX12_next_97 (by decide) ?_
          have hl : lv_has _ _ ([(0, .ref h0), (1, .int mo)]) := lv_sub hl [1, 2] rfl
          exact ih2 mo (a5 + 1) _ _ _ (by omega) (by (have h8 := hfx.resolve_left (fun h => c_3 h.1)); exact Or.inr (by omega)) hP hD hS hl
        · have t_61 : ¬ ((bA tp (vF 9) a5)).toInt = 9 := toI_neq c_61 rfl (by decide)
          refine lv_iload_n hx hb dX12_next_64 rfl (lv_at hl 0 rfl) ?_
          refine lv_bipush (v := 10) hx hb dX12_next_65 (by decide) ?_
          refine lv_icmp_eq (tgt := 82) hx hb dX12_next_67 (by decide) (fun c_67 => ?_) (fun c_67 => ?_)
          · have t_67 : ((bA tp (vF 9) a5)).toInt = 10 := toI_eq c_67 rfl (by decide)
            refine lv_aload_n hx hb dX12_next_82 rfl (lv_at hl 1 rfl) ?_
            refine lv_dup hx hb dX12_next_83 rfl ?_
            refine va_get (D := (dC, dI)) (ci := 12) (v := .int (nI a5)) (C := RX12) (T := TX12) (N := 163) (fs := fM (vS a (fT vi 17 (nI a5)) vj)) hx hb hts iwsRX12_next_in12 hown hK hP 0 rfl rfl 17 (by decide) (hts _ hm_r_X12_next_0) (fun _ h9 => h9) rfl dX12_next_84 ?_
            refine lv_iconst (v := 1) hx hb dX12_next_87 (by decide) ?_
            refine lv_iadd hx hb dX12_next_88 ?_
            refine lv_topi (fun y2 hy2 => ?_)
            obtain rfl : (nI (a5 + 1)) = y2 := (hy2.trans (nI_add a5 1)).symm
            refine va_put (D := (dC, dI)) (ci := 12) (v := .int (nI (a5 + 1))) (ty := .int) (C := RX12) (T := TX12) (N := 163) (fs := fM (vS a (fT vi 17 (nI a5)) vj)) hx hb hts iwsRX12_next_in12 tyX12 tyX12_ok nmX12 hown hK hP hD hS 0 rfl rfl 17 (by decide) (hts _ hm_r_X12_next_0) (fun _ h9 => h9) rfl (by decide +kernel) rfl rfl (Nat.le_of_ble_eq_true rfl) dX12_next_89 (fun H locs hP hD hS => ?_)
            have e9 : fT vi 17 (nI (a5 + 1)) = fT (fT vi 17 (nI a5)) 17 (nI (a5 + 1)) := (fT_sm _ _ _ _).symm
            have hP := wr_Pi e9 (fz_w (WR_i 17 _ rfl) hP)
            have hD := wr_Di e9 (fz_wD (WR_i 17 _ rfl) hD)
            clear e9
            refine lv_goto (tgt := 97) hx hb dX12_next_92 (by decide) ?_
            refine lv_goto (tgt := 2) hx hb dX12_next_97 (by decide) ?_
            have hl : lv_has _ _ ([(0, .ref h0), (1, .int mo)]) := lv_sub hl [1, 2] rfl
            exact ih2 mo (a5 + 1) _ _ _ (by omega) (by (have h8 := hfx.resolve_left (fun h => c_3 h.1)); exact Or.inr (by omega)) hP hD hS hl
          · have t_67 : ¬ ((bA tp (vF 9) a5)).toInt = 10 := toI_neq c_67 rfl (by decide)
            refine lv_iload_n hx hb dX12_next_70 rfl (lv_at hl 0 rfl) ?_
            refine lv_bipush (v := 13) hx hb dX12_next_71 (by decide) ?_
            refine lv_icmp_eq (tgt := 82) hx hb dX12_next_73 (by decide) (fun c_73 => ?_) (fun c_73 => ?_)
            · have t_73 : ((bA tp (vF 9) a5)).toInt = 13 := toI_eq c_73 rfl (by decide)
              refine lv_aload_n hx hb dX12_next_82 rfl (lv_at hl 1 rfl) ?_
              refine lv_dup hx hb dX12_next_83 rfl ?_
              refine va_get (D := (dC, dI)) (ci := 12) (v := .int (nI a5)) (C := RX12) (T := TX12) (N := 163) (fs := fM (vS a (fT vi 17 (nI a5)) vj)) hx hb hts iwsRX12_next_in12 hown hK hP 0 rfl rfl 17 (by decide) (hts _ hm_r_X12_next_0) (fun _ h9 => h9) rfl dX12_next_84 ?_
              refine lv_iconst (v := 1) hx hb dX12_next_87 (by decide) ?_
              refine lv_iadd hx hb dX12_next_88 ?_
              refine lv_topi (fun y3 hy3 => ?_)
              obtain rfl : (nI (a5 + 1)) = y3 := (hy3.trans (nI_add a5 1)).symm
              refine va_put (D := (dC, dI)) (ci := 12) (v := .int (nI (a5 + 1))) (ty := .int) (C := RX12) (T := TX12) (N := 163) (fs := fM (vS a (fT vi 17 (nI a5)) vj)) hx hb hts iwsRX12_next_in12 tyX12 tyX12_ok nmX12 hown hK hP hD hS 0 rfl rfl 17 (by decide) (hts _ hm_r_X12_next_0) (fun _ h9 => h9) rfl (by decide +kernel) rfl rfl (Nat.le_of_ble_eq_true rfl) dX12_next_89 (fun H locs hP hD hS => ?_)
              have e9 : fT vi 17 (nI (a5 + 1)) = fT (fT vi 17 (nI a5)) 17 (nI (a5 + 1)) := (fT_sm _ _ _ _).symm
              have hP := wr_Pi e9 (fz_w (WR_i 17 _ rfl) hP)
              have hD := wr_Di e9 (fz_wD (WR_i 17 _ rfl) hD)
              clear e9
              refine lv_goto (tgt := 97) hx hb dX12_next_92 (by decide) ?_
              refine lv_goto (tgt := 2) hx hb dX12_next_97 (by decide) ?_
              have hl : lv_has _ _ ([(0, .ref h0), (1, .int mo)]) := lv_sub hl [1, 2] rfl
              exact ih2 mo (a5 + 1) _ _ _ (by omega) (by (have h8 := hfx.resolve_left (fun h => c_3 h.1)); exact Or.inr (by omega)) hP hD hS hl
            · have t_73 : ¬ ((bA tp (vF 9) a5)).toInt = 13 := toI_neq c_73 rfl (by decide)
              refine lv_iload_n hx hb dX12_next_76 rfl (lv_at hl 0 rfl) ?_
              refine lv_bipush (v := 32) hx hb dX12_next_77 (by decide) ?_
              refine lv_icmp_ne (tgt := 95) hx hb dX12_next_79 (by decide) (fun c_79 => ?_) (fun c_79 => ?_)
              · have t_79 : ((bA tp (vF 9) a5)).toInt ≠ 32 := toI_ne c_79 rfl (by decide)
                refine lv_iconst (v := 0) hx hb dX12_next_95 (by decide) ?_
                refine lv_istore_n hx hb dX12_next_96 rfl hl (by decide) rfl (fun ls (hl : lv_has ls _ ([(1, .int 0), (2, .int (bA tp (vF 9) a5)), (0, .ref h0)])) => ?_)
                refine lv_goto (tgt := 2) hx hb dX12_next_97 (by decide) ?_
                have hl : lv_has _ _ ([(0, .ref h0), (1, .int 0)]) := lv_sub hl [2, 0] rfl
                exact ih2 0 a5 _ _ _ (by omega) (by (have h8 := hfx.resolve_left (fun h => c_3 h.1)); exact Or.inl ⟨rfl, by omega⟩) hP hD hS hl
              · have t_79 : ((bA tp (vF 9) a5)).toInt = 32 := toI_nne c_79 rfl (by decide)
                refine lv_aload_n hx hb dX12_next_82 rfl (lv_at hl 1 rfl) ?_
                refine lv_dup hx hb dX12_next_83 rfl ?_
                refine va_get (D := (dC, dI)) (ci := 12) (v := .int (nI a5)) (C := RX12) (T := TX12) (N := 163) (fs := fM (vS a (fT vi 17 (nI a5)) vj)) hx hb hts iwsRX12_next_in12 hown hK hP 0 rfl rfl 17 (by decide) (hts _ hm_r_X12_next_0) (fun _ h9 => h9) rfl dX12_next_84 ?_
                refine lv_iconst (v := 1) hx hb dX12_next_87 (by decide) ?_
                refine lv_iadd hx hb dX12_next_88 ?_
                refine lv_topi (fun y4 hy4 => ?_)
                obtain rfl : (nI (a5 + 1)) = y4 := (hy4.trans (nI_add a5 1)).symm
                refine va_put (D := (dC, dI)) (ci := 12) (v := .int (nI (a5 + 1))) (ty := .int) (C := RX12) (T := TX12) (N := 163) (fs := fM (vS a (fT vi 17 (nI a5)) vj)) hx hb hts iwsRX12_next_in12 tyX12 tyX12_ok nmX12 hown hK hP hD hS 0 rfl rfl 17 (by decide) (hts _ hm_r_X12_next_0) (fun _ h9 => h9) rfl (by decide +kernel) rfl rfl (Nat.le_of_ble_eq_true rfl) dX12_next_89 (fun H locs hP hD hS => ?_)
                have e9 : fT vi 17 (nI (a5 + 1)) = fT (fT vi 17 (nI a5)) 17 (nI (a5 + 1)) := (fT_sm _ _ _ _).symm
                have hP := wr_Pi e9 (fz_w (WR_i 17 _ rfl) hP)
                have hD := wr_Di e9 (fz_wD (WR_i 17 _ rfl) hD)
                clear e9
                refine lv_goto (tgt := 97) hx hb dX12_next_92 (by decide) ?_
                refine lv_goto (tgt := 2) hx hb dX12_next_97 (by decide) ?_
                have hl : lv_has _ _ ([(0, .ref h0), (1, .int mo)]) := lv_sub hl [1, 2] rfl
                exact ih2 mo (a5 + 1) _ _ _ (by omega) (by (have h8 := hfx.resolve_left (fun h => c_3 h.1)); exact Or.inr (by omega)) hP hD hS hl
      · have t_18 : ((bA tp (vF 9) a5)).toInt = 35 := toI_nne c_18 rfl (by decide)
        have hl : lv_has _ _ ([(0, .ref h0), (1, .int mo)]) := lv_sub hl [1, 2] rfl
        refine (fun (loop : ∀ (n9 : Nat) (a6 : Nat) (H : Heap) (locs : List Loc) (ls : Array Slot), (a5 ≤ a6 ∧ a6 ≤ tp) →  (tp < a6 + n9) → va_P (dC, dI) vwCl (WR a k h0 (fT vi 17 (nI a6)) vj vF vG) H → va_D A (WR a k h0 (fT vi 17 (nI a6)) vj vF vG) → va_S A s.heap H locs → lv_has ls 3 [(0, .ref h0), (1, .int mo)] → W p l e _ s m _ below meth c H locs 0 0 _ (F0 m 21 ls [])) => loop (tp + 1) a5 _ _ _ (by omega) (by omega) hP hD hS hl) ?_
        intro n9
        induction n9 with
        | zero => intro a6 H locs ls ha6 hf9; exact False.elim (by omega)
        | succ n9 ih21_1 =>
          intro a6 H locs ls ha6 hf21_1 hP hD hS hl
          refine lv_aload_n hx hb dX12_next_21 rfl (lv_at hl 0 rfl) ?_
          refine lv_aload_n hx hb dX12_next_22 rfl (lv_at hl 0 rfl) ?_
          refine va_get (D := (dC, dI)) (ci := 12) (v := .int (nI a6)) (C := RX12) (T := TX12) (N := 163) (fs := fM (vS a (fT vi 17 (nI a6)) vj)) hx hb hts iwsRX12_next_in12 hown hK hP 0 rfl rfl 17 (by decide) (hts _ hm_r_X12_next_0) (fun _ h9 => h9) rfl dX12_next_23 ?_
          have hFc := allFree hD hS hA
          refine va_calli (va_runV (As := [.int (nI a6)]) (rest := []) ⟨hx, hb, hml, hown, hts⟩ (r_X12_byteAt l dC dI a k h0 (fT vi 17 (nI a6)) vj vF vG a6 tp hTp (by first | with_reducible assumption | decide | omega | rfl | assumption) (by first | with_reducible assumption | decide | omega | rfl | assumption) H.size) (cwV 1 hts gwsRX12_next_0 rfl rfl rfl hd_yX12_byteAt_RX12 (by decide +kernel)) (fz_pre (va_recv hK hP (ci := 12) (q0 := 0) rfl rfl) hP hK hD) rfl rfl hl.1 rfl (lv_room (Nat.le_of_ble_eq_true rfl)) dX12_next_26 (by decide +kernel)) hS (fun q _ h => hFc q h) hFc (fun r26 u t9_ H locs ht hvm hw9 hB9 hz1 hk1 hS => ?_)
          have hP : va_P (dC, dI) vwCl (WR a k h0 (fT vi 17 (nI a6)) vj vF vG) H := fz_P ht hB9.1
          have hD := fz_sd hP (hB9.2.weaken (fun _ q _ h => hFc q.1 h)) rfl
          obtain rfl := hw9
          refine lv_if_lt (tgt := 97) hx hb dX12_next_29 (by decide) (fun c_29 => ?_) (fun c_29 => ?_)
          · have t_29 : ((bA tp (vF 9) a6)).toInt < 0 := toI_lt c_29 rfl (by decide)
            refine lv_goto (tgt := 2) hx hb dX12_next_97 (by decide) ?_
            have hl : lv_has _ _ ([(0, .ref h0), (1, .int mo)]) := lv_sub hl [0, 1] rfl
            exact ih2 mo a6 _ _ _ (by omega) (by (have h9 : a5 < a6 := by rcases Nat.lt_or_ge a5 a6 with h | h; (exact h); (exfalso; (have e9 : a6 = a5 := by omega); subst e9; omega)); (have h8 := hfx.resolve_left (fun h => c_3 h.1)); exact Or.inr (by omega)) hP hD hS hl
          · have t_29 : ¬ ((bA tp (vF 9) a6)).toInt < 0 := toI_nlt c_29 rfl (by decide)
            refine lv_aload_n hx hb dX12_next_32 rfl (lv_at hl 0 rfl) ?_
            refine lv_aload_n hx hb dX12_next_33 rfl (lv_at hl 0 rfl) ?_
            refine va_get (D := (dC, dI)) (ci := 12) (v := .int (nI a6)) (C := RX12) (T := TX12) (N := 163) (fs := fM (vS a (fT vi 17 (nI a6)) vj)) hx hb hts iwsRX12_next_in12 hown hK hP 0 rfl rfl 17 (by decide) (hts _ hm_r_X12_next_0) (fun _ h9 => h9) rfl dX12_next_34 ?_
            have hFc := allFree hD hS hA
            refine va_calli (va_runV (As := [.int (nI a6)]) (rest := []) ⟨hx, hb, hml, hown, hts⟩ (r_X12_byteAt l dC dI a k h0 (fT vi 17 (nI a6)) vj vF vG a6 tp hTp (by first | with_reducible assumption | decide | omega | rfl | assumption) (by first | with_reducible assumption | decide | omega | rfl | assumption) H.size) (cwV 1 hts gwsRX12_next_0 rfl rfl rfl hd_yX12_byteAt_RX12 (by decide +kernel)) (fz_pre (va_recv hK hP (ci := 12) (q0 := 0) rfl rfl) hP hK hD) rfl rfl hl.1 rfl (lv_room (Nat.le_of_ble_eq_true rfl)) dX12_next_37 (by decide +kernel)) hS (fun q _ h => hFc q h) hFc (fun r37 u t9_ H locs ht hvm hw9 hB9 hz1 hk1 hS => ?_)
            have hP : va_P (dC, dI) vwCl (WR a k h0 (fT vi 17 (nI a6)) vj vF vG) H := fz_P ht hB9.1
            have hD := fz_sd hP (hB9.2.weaken (fun _ q _ h => hFc q.1 h)) rfl
            obtain rfl := hw9
            refine lv_bipush (v := 10) hx hb dX12_next_40 (by decide) ?_
            refine lv_icmp_eq (tgt := 97) hx hb dX12_next_42 (by decide) (fun c_42 => ?_) (fun c_42 => ?_)
            · have t_42 : ((bA tp (vF 9) a6)).toInt = 10 := toI_eq c_42 rfl (by decide)
              refine lv_goto (tgt := 2) hx hb dX12_next_97 (by decide) ?_
              have hl : lv_has _ _ ([(0, .ref h0), (1, .int mo)]) := lv_sub hl [0, 1] rfl
              exact ih2 mo a6 _ _ _ (by omega) (by (have h9 : a5 < a6 := by rcases Nat.lt_or_ge a5 a6 with h | h; (exact h); (exfalso; (have e9 : a6 = a5 := by omega); subst e9; omega)); (have h8 := hfx.resolve_left (fun h => c_3 h.1)); exact Or.inr (by omega)) hP hD hS hl
            · have t_42 : ¬ ((bA tp (vF 9) a6)).toInt = 10 := toI_neq c_42 rfl (by decide)
              have bi6 := bA_in tp (vF 9) a6
              refine lv_aload_n hx hb dX12_next_45 rfl (lv_at hl 0 rfl) ?_
              refine lv_dup hx hb dX12_next_46 rfl ?_
              refine va_get (D := (dC, dI)) (ci := 12) (v := .int (nI a6)) (C := RX12) (T := TX12) (N := 163) (fs := fM (vS a (fT vi 17 (nI a6)) vj)) hx hb hts iwsRX12_next_in12 hown hK hP 0 rfl rfl 17 (by decide) (hts _ hm_r_X12_next_0) (fun _ h9 => h9) rfl dX12_next_47 ?_
              refine lv_iconst (v := 1) hx hb dX12_next_50 (by decide) ?_
              refine lv_iadd hx hb dX12_next_51 ?_
              refine lv_topi (fun y5 hy5 => ?_)
              obtain rfl : (nI (a6 + 1)) = y5 := (hy5.trans (nI_add a6 1)).symm
              refine va_put (D := (dC, dI)) (ci := 12) (v := .int (nI (a6 + 1))) (ty := .int) (C := RX12) (T := TX12) (N := 163) (fs := fM (vS a (fT vi 17 (nI a6)) vj)) hx hb hts iwsRX12_next_in12 tyX12 tyX12_ok nmX12 hown hK hP hD hS 0 rfl rfl 17 (by decide) (hts _ hm_r_X12_next_0) (fun _ h9 => h9) rfl (by decide +kernel) rfl rfl (Nat.le_of_ble_eq_true rfl) dX12_next_52 (fun H locs hP hD hS => ?_)
              have e9 : fT vi 17 (nI (a6 + 1)) = fT (fT vi 17 (nI a6)) 17 (nI (a6 + 1)) := (fT_sm _ _ _ _).symm
              have hP := wr_Pi e9 (fz_w (WR_i 17 _ rfl) hP)
              have hD := wr_Di e9 (fz_wD (WR_i 17 _ rfl) hD)
              clear e9
              refine lv_goto (tgt := 21) hx hb dX12_next_55 (by decide) ?_
              have hl : lv_has _ _ ([(0, .ref h0), (1, .int mo)]) := lv_sub hl [0, 1] rfl
              exact ih21_1 (a6 + 1) _ _ _ (by omega) (by omega) hP hD hS hl
theorem dX12_needSign_0 : decode cX12_needSign 0 = .ok (.aload_n 0, 1) := dk_42 (by decide +kernel)
theorem dX12_needSign_1 : decode cX12_needSign 1 = .ok (.getfield 515, 3) := dk_180 (by decide +kernel)
theorem dX12_needSign_4 : decode cX12_needSign 4 = .ok (.ifCond .le 5, 3) := dk_158 (by decide +kernel)
theorem dX12_needSign_7 : decode cX12_needSign 7 = .ok (.iconst 0, 1) := dk_3 (by decide +kernel)
theorem dX12_needSign_8 : decode cX12_needSign 8 = .ok (.ireturn, 1) := dk_172 (by decide +kernel)
theorem dX12_needSign_9 : decode cX12_needSign 9 = .ok (.aload_n 0, 1) := dk_42 (by decide +kernel)
theorem dX12_needSign_10 : decode cX12_needSign 10 = .ok (.iload_n 1, 1) := dk_27 (by decide +kernel)
theorem dX12_needSign_11 : decode cX12_needSign 11 = .ok (.invokevirtual 521, 3) := dk_182 (by decide +kernel)
theorem dX12_needSign_14 : decode cX12_needSign 14 = .ok (.ifCond .eq 10, 3) := dk_153 (by decide +kernel)
theorem dX12_needSign_17 : decode cX12_needSign 17 = .ok (.aload_n 0, 1) := dk_42 (by decide +kernel)
theorem dX12_needSign_18 : decode cX12_needSign 18 = .ok (.invokevirtual 524, 3) := dk_182 (by decide +kernel)
theorem dX12_needSign_21 : decode cX12_needSign 21 = .ok (.goto 7, 3) := dk_167 (by decide +kernel)
theorem dX12_needSign_24 : decode cX12_needSign 24 = .ok (.aload_n 0, 1) := dk_42 (by decide +kernel)
theorem dX12_needSign_25 : decode cX12_needSign 25 = .ok (.invokevirtual 527, 3) := dk_182 (by decide +kernel)
theorem dX12_needSign_28 : decode cX12_needSign 28 = .ok (.aload_n 0, 1) := dk_42 (by decide +kernel)
theorem dX12_needSign_29 : decode cX12_needSign 29 = .ok (.getfield 515, 3) := dk_180 (by decide +kernel)
theorem dX12_needSign_32 : decode cX12_needSign 32 = .ok (.ifCond .ne 7, 3) := dk_154 (by decide +kernel)
theorem dX12_needSign_35 : decode cX12_needSign 35 = .ok (.iconst 1, 1) := dk_4 (by decide +kernel)
theorem dX12_needSign_36 : decode cX12_needSign 36 = .ok (.goto 4, 3) := dk_167 (by decide +kernel)
theorem dX12_needSign_39 : decode cX12_needSign 39 = .ok (.iconst 0, 1) := dk_3 (by decide +kernel)
theorem dX12_needSign_40 : decode cX12_needSign 40 = .ok (.ireturn, 1) := dk_172 (by decide +kernel)
def wsRX12_needSign : List Cond := .code yX12_needSign cX12_needSign 2 (some .boolean) :: ([.fieldLink RX12 515 "OptimaWorksModel" "stop" "I"] ++ wsX120 ++ (wsV RX12 521 RX12 yX12_isSign wsRX12_isSign) ++ (wsV RX12 524 RX12 yX12_next wsRX12_next) ++ (wsV RX12 527 RX12 yX12_wrong wsRX12_wrong))
theorem iwsRX12_needSign_in12 : ∀ w ∈ wsX120, w ∈ wsRX12_needSign := fun _ h => List.mem_cons_of_mem _ (List.mem_append_left _ (List.mem_append_left _ (List.mem_append_left _ (List.mem_append_right _ h))))
theorem gwsRX12_needSign_0 : GoodIn wsRX12_needSign (wsV RX12 521 RX12 yX12_isSign wsRX12_isSign) := goodIn_sub (fun _ h => List.mem_cons_of_mem _ (List.mem_append_left _ (List.mem_append_left _ (List.mem_append_right _ h)))) (gdV (by decide +kernel) gdwsRX12_isSign)
theorem gwsRX12_needSign_1 : GoodIn wsRX12_needSign (wsV RX12 524 RX12 yX12_next wsRX12_next) := goodIn_sub (fun _ h => List.mem_cons_of_mem _ (List.mem_append_left _ (List.mem_append_right _ h))) (gdV (by decide +kernel) gdwsRX12_next)
theorem gwsRX12_needSign_2 : GoodIn wsRX12_needSign (wsV RX12 527 RX12 yX12_wrong wsRX12_wrong) := goodIn_sub (fun _ h => List.mem_cons_of_mem _ (List.mem_append_right _ h)) (gdV (by decide +kernel) gdwsRX12_wrong)
theorem gdwsRX12_needSign : wsRX12_needSign.all goodWord = true := gdC rfl (gdA (gdA (gdA (gdA (by decide +kernel : ([.fieldLink RX12 515 "OptimaWorksModel" "stop" "I"] : List Cond).all goodWord = true) gdwsX120) (gdV (by decide +kernel) gdwsRX12_isSign)) (gdV (by decide +kernel) gdwsRX12_next)) (gdV (by decide +kernel) gdwsRX12_wrong))
theorem hm_r_X12_needSign_0 : (.fieldLink RX12 515 "OptimaWorksModel" "stop" "I" : Cond) ∈ wsRX12_needSign := by decide +kernel
set_option maxHeartbeats 4000000 in
set_option maxRecDepth 100000 in
/-- X12_needSign(c) -/
theorem r_X12_needSign (l : Launch) (dC : Nat → ClassId) (dI : Nat → Nat → Nat) (a : Nat → Nat) (k : Nat → ClassId) (h0 : Nat) (vi : Nat → Int32) (vj : Nat → Int64) (vF : Nat → Nat → Int32) (vG : Nat → Nat → Int64) (cv : Int32) (tp : Nat) (an : Nat) (fn : Nat) (hTp : vi 16 = nI tp) (htp : tp ≤ 4000) (ha0 : vi 17 = nI an) (hfr : vi 19 = nI fn) (hLx : LxO tp fn an (vi 18) (vi 20)) (hst0 : 0 ≤ (vi 21).toInt) (sz : Nat) : Met l yX12_needSign wsRX12_needSign ({ frames := 8, cells := 0, slots := 0, locals := 173 }) (va_Pc [.ref h0, .int cv] (fun U => U.heap.size = sz ∧ va_P (dC, dI) vwCl (WR a k h0 vi vj vF vG) U.heap ∧ va_K (dC, dI) vwCl (tX12 k) U ∧ va_D (fun _ => True) (WR a k h0 vi vj vF vG) ∧ StrA (va_A (WR a k h0 vi vj vF vG) sz) U U.heap)) (va_Qi (fun (r : Int32) (u : (Nat) × (Nat) × (Int32) × (Int32) × (Int32) × (Int32)) => (r = 1 ∧ ((u.2.2.2.2.1) = 0) ∧ (LxO tp (u.2.1) (u.1) (u.2.2.2.1) (u.2.2.1)) ∧ (an ≤ (u.2.1) ∧ fn < (u.2.1)) ∧ (vi 21 = 0)) ∨ (r = 0 ∧ (0 < ((u.2.2.2.2.1)).toInt) ∧ (LxO tp (u.2.1) (u.1) (u.2.2.2.1) (u.2.2.1)) ∧ (fn ≤ (u.2.1)))) (fun (u : (Nat) × (Nat) × (Int32) × (Int32) × (Int32) × (Int32)) t => va_P (dC, dI) vwCl (WR a k h0 (fT (fT (fT (fT (fT (fT vi 17 (nI (u.1))) 19 (nI (u.2.1))) 20 (u.2.2.1)) 18 (u.2.2.2.1)) 21 (u.2.2.2.2.1)) 22 (u.2.2.2.2.2)) vj vF vG) t.heap ∧ va_D (va_A (WR a k h0 vi vj vF vG) sz) (WR a k h0 (fT (fT (fT (fT (fT (fT vi 17 (nI (u.1))) 19 (nI (u.2.1))) 20 (u.2.2.1)) 18 (u.2.2.2.1)) 21 (u.2.2.2.2.1)) 22 (u.2.2.2.2.2)) vj vF vG)) (va_A (WR a k h0 vi vj vF vG) sz)) 0 0 (va_A (WR a k h0 vi vj vF vG) sz) := by
  refine Met.ofW (cc := cX12_needSign) (maxL := 2) (ret := (some .boolean)) (by decide) rfl ?_
  intro p e s m args below meth c s₁ B hml hv
  obtain ⟨rfl, hsz, hP, hK, hD0, hE⟩ := hv
  have hx := B.exec
  have hb := B.bytes
  have hr := B.returns
  have hts := atoms_spec (ws := wsRX12_needSign) B.pre
  have hown : s.vm.findClass RX12 = some m.cls := findClass_of_methodNamed B.named
  have hlocks := B.notSynchronized
  subst hsz
  have hD := hD0.self (sz := s.heap.size)
  generalize hAe : va_A (WR a k h0 vi vj vF vG) s.heap.size = A at hD hE ⊢
  have hA : ∀ q : Nat, s.heap.size ≤ q → A q := fun q h => by rw [← hAe]; exact Or.inr h
  have hS : va_S A s.heap s.heap [] := va_S.rf
  have hl := lv_entry ([.ref h0, .int cv]) (n := 2) (Nat.le_of_ble_eq_true rfl)
  rw [lg_entry_eq]
  generalize (lg_sl ([.ref h0, .int cv]) ++ List.replicate (2 - (lg_sl ([.ref h0, .int cv])).length) Slot.unset).toArray = ls at hl ⊢
  have hl : lv_has ls 2 [(0, .ref h0), (1, .int cv)] := hl
  have han := hLx.2.1
  refine lv_aload_n hx hb dX12_needSign_0 rfl (lv_at hl 0 rfl) ?_
  refine va_get (D := (dC, dI)) (ci := 12) (v := .int (vi 21)) (C := RX12) (T := TX12) (N := 163) (fs := fM (vS a vi vj)) hx hb hts iwsRX12_needSign_in12 hown hK hP 0 rfl rfl 21 (by decide) (hts _ hm_r_X12_needSign_0) (fun _ h9 => h9) rfl dX12_needSign_1 ?_
  refine lv_if_le (tgt := 9) hx hb dX12_needSign_4 (by decide) (fun c_4 => ?_) (fun c_4 => ?_)
  · have t_4 : ((vi 21)).toInt ≤ 0 := toI_le c_4 rfl (by decide)
    refine lv_aload_n hx hb dX12_needSign_9 rfl (lv_at hl 0 rfl) ?_
    refine lv_iload_n hx hb dX12_needSign_10 rfl (lv_at hl 1 rfl) ?_
    have hFc := allFree hD hS hA
    refine va_calli (va_runV (As := [.int cv]) (rest := []) ⟨hx, hb, hml, hown, hts⟩ (r_X12_isSign l dC dI a k h0 vi vj vF vG cv s.heap.size) (cwV 1 hts gwsRX12_needSign_0 rfl rfl rfl hd_yX12_isSign_RX12 (by decide +kernel)) (fz_pre (va_recv hK hP (ci := 12) (q0 := 0) rfl rfl) hP hK hD) rfl rfl hl.1 rfl (lv_room (Nat.le_of_ble_eq_true rfl)) dX12_needSign_11 (by decide +kernel)) hS (fun q _ h => hFc q h) hFc (fun r11 u t9_ H locs ht hvm hw9 hB9 hz1 hk1 hS => ?_)
    have hP : va_P (dC, dI) vwCl (WR a k h0 vi vj vF vG) H := fz_P ht hB9.1
    have hD := fz_sd hP (hB9.2.weaken (fun _ q _ h => hFc q.1 h)) rfl
    rcases hw9 with ⟨rfl, f11_0, f11_1⟩ | ⟨rfl, f11_0⟩
    · have f11_0 : (vi 18).toInt = 4 := f11_0
      have f11_1 : (vi 20) = cv := f11_1
      refine lv_if_eq (tgt := 24) hx hb dX12_needSign_14 (by decide) (fun c9 => absurd c9 (by decide)) (fun _ => ?_)
      refine lv_aload_n hx hb dX12_needSign_17 rfl (lv_at hl 0 rfl) ?_
      have hFc := allFree hD hS hA
      refine va_callv (va_runV (As := []) (rest := []) ⟨hx, hb, hml, hown, hts⟩ (r_X12_next l dC dI a k h0 vi vj vF vG tp an hTp (by first | with_reducible assumption | decide | omega | rfl | assumption) ha0 (by first | with_reducible assumption | decide | omega | rfl | assumption) H.size) (cwV 0 hts gwsRX12_needSign_1 rfl rfl rfl hd_yX12_next_RX12 (by decide +kernel)) (fz_preE (va_recv hK hP (ci := 12) (q0 := 0) rfl rfl) hP hK hD (fun a U g mk qE => qE.same rfl) (fun U hU9 hW => by rw [hU9]; exact (((hE : StrA A s s.heap).kept hS.2.1).narrow (fun q h => hFc q h)).warm hW)) rfl rfl hl.1 rfl (lv_room (Nat.le_of_ble_eq_true rfl)) dX12_needSign_18 (by decide +kernel)) hS (fun q _ h => hFc q h) hFc (fun u t9_ H locs ht hvm hw9 hB9 hz1 hk1 hS => ?_)
      revert u hw9 hB9
      refine fz_p4 ?_
      intro a218 f218 sg18 wd18 hw9 hB9
      try dsimp only at hw9 hB9
      have hP : va_P (dC, dI) vwCl (WR a k h0 (fT (fT (fT (fT vi 17 (nI a218)) 19 (nI f218)) 20 sg18) 18 wd18) vj vF vG) H := fz_P ht hB9.1
      have hD := fz_sd hP (hB9.2.weaken (fun _ q _ h => hFc q.1 h)) rfl
      revert hw9
      refine fz_a2 ?_
      intro f18_0 f18_1
      refine lv_goto (tgt := 28) hx hb dX12_needSign_21 (by decide) ?_
      refine lv_aload_n hx hb dX12_needSign_28 rfl (lv_at hl 0 rfl) ?_
      refine va_get (D := (dC, dI)) (ci := 12) (v := .int (vi 21)) (C := RX12) (T := TX12) (N := 163) (fs := fM (vS a (fT (fT (fT (fT vi 17 (nI a218)) 19 (nI f218)) 20 sg18) 18 wd18) vj)) hx hb hts iwsRX12_needSign_in12 hown hK hP 0 rfl rfl 21 (by decide) (hts _ hm_r_X12_needSign_0) (fun _ h9 => h9) rfl dX12_needSign_29 ?_
      refine lv_if_ne (tgt := 39) hx hb dX12_needSign_32 (by decide) (fun c9 => False.elim (by have t9 : ((vi 21)).toInt ≠ 0 := toI_ne c9 rfl (by decide); omega)) (fun c_32 => ?_)
      have t_32 : ((vi 21)).toInt = 0 := toI_nne c_32 rfl (by decide)
      refine lv_iconst (v := 1) hx hb dX12_needSign_35 (by decide) ?_
      refine lv_goto (tgt := 40) hx hb dX12_needSign_36 (by decide) ?_
      refine W.widen (k := 0) (n := 0) (by decide +kernel) (by decide +kernel) ?_
      have e9 : fT (fT (fT (fT (fT (fT vi 17 (nI a218)) 19 (nI f218)) 20 sg18) 18 wd18) 21 (vi 21)) 22 (vi 22) = fT (fT (fT (fT vi 17 (nI a218)) 19 (nI f218)) 20 sg18) 18 wd18 := (fT_id _ _ ((fT_ne _ _ (Nat.ne_of_beq_eq_false rfl)).trans ((fT_ne _ _ (Nat.ne_of_beq_eq_false rfl)).trans ((fT_ne _ _ (Nat.ne_of_beq_eq_false rfl)).trans ((fT_ne _ _ (Nat.ne_of_beq_eq_false rfl)).trans (fT_ne _ _ (Nat.ne_of_beq_eq_false rfl))))))).trans (fT_id _ _ ((fT_ne _ _ (Nat.ne_of_beq_eq_false rfl)).trans ((fT_ne _ _ (Nat.ne_of_beq_eq_false rfl)).trans ((fT_ne _ _ (Nat.ne_of_beq_eq_false rfl)).trans (fT_ne _ _ (Nat.ne_of_beq_eq_false rfl))))))
      have hP := wr_Pi e9 hP
      have hD := wr_Di e9 hD
      clear e9
      exact W.zret (v := 1) hx hb hr rfl (fun t9_ ht hW => ⟨⟨1, (a218, f218, sg18, wd18, (vi 21), (vi 22)), rfl, by (try dsimp only); exact Or.inl ⟨rfl, i32z (by omega), f18_0, by (have h9 := hLx.2.2.1.resolve_left (fun h => by rw [h] at f11_0; exact absurd f11_0 (by decide))); omega, i32z (by omega)⟩, by rw [ht]; exact hP, hD⟩, hS.F ht⟩) hS.2.2 dX12_needSign_40
    · have f11_0 : ¬ ((vi 18).toInt = 4 ∧ (vi 20) = cv) := f11_0
      refine lv_if_eq (tgt := 24) hx hb dX12_needSign_14 (by decide) (fun _ => ?_) (fun c9 => absurd (by decide) c9)
      refine lv_aload_n hx hb dX12_needSign_24 rfl (lv_at hl 0 rfl) ?_
      have hFc := allFree hD hS hA
      refine va_callv (va_runV (As := []) (rest := []) ⟨hx, hb, hml, hown, hts⟩ (r_X12_wrong l dC dI a k h0 vi vj vF vG H.size) (cwV 0 hts gwsRX12_needSign_2 rfl rfl rfl hd_yX12_wrong_RX12 (by decide +kernel)) (fz_pre (va_recv hK hP (ci := 12) (q0 := 0) rfl rfl) hP hK hD) rfl rfl hl.1 rfl (lv_room (Nat.le_of_ble_eq_true rfl)) dX12_needSign_25 (by decide +kernel)) hS (fun q _ h => hFc q h) hFc (fun u t9_ H locs ht hvm hw9 hB9 hz1 hk1 hS => ?_)
      revert u hw9 hB9
      refine fz_p2 ?_
      intro s225 p225 hw9 hB9
      try dsimp only at hw9 hB9
      have hP : va_P (dC, dI) vwCl (WR a k h0 (fT (fT vi 21 s225) 22 p225) vj vF vG) H := fz_P ht hB9.1
      have hD := fz_sd hP (hB9.2.weaken (fun _ q _ h => hFc q.1 h)) rfl
      revert hw9
      refine fz_a2 ?_
      intro f25_0 f25_1
      have f25_0 : (0 < (vi 21).toInt ∧ s225 = (vi 21) ∧ p225 = (vi 22)) ∨ (¬ 0 < (vi 21).toInt ∧ (s225 = 1 ∨ s225 = 2) ∧ p225 = (vi 19)) := f25_0
      have hs2 := f25_1
      refine lv_aload_n hx hb dX12_needSign_28 rfl (lv_at hl 0 rfl) ?_
      refine va_get (D := (dC, dI)) (ci := 12) (v := .int s225) (C := RX12) (T := TX12) (N := 163) (fs := fM (vS a (fT (fT vi 21 s225) 22 p225) vj)) hx hb hts iwsRX12_needSign_in12 hown hK hP 0 rfl rfl 21 (by decide) (hts _ hm_r_X12_needSign_0) (fun _ h9 => h9) rfl dX12_needSign_29 ?_
      refine lv_if_ne (tgt := 39) hx hb dX12_needSign_32 (by decide) (fun c_32 => ?_) (fun c9 => False.elim (by have t9 : (s225).toInt = 0 := toI_nne c9 rfl (by decide); omega))
      have t_32 : (s225).toInt ≠ 0 := toI_ne c_32 rfl (by decide)
      refine lv_iconst (v := 0) hx hb dX12_needSign_39 (by decide) ?_
      refine W.widen (k := 0) (n := 0) (by decide +kernel) (by decide +kernel) ?_
      have e9 : fT (fT (fT (fT (fT (fT vi 17 (nI an)) 19 (nI fn)) 20 (vi 20)) 18 (vi 18)) 21 s225) 22 p225 = fT (fT vi 21 s225) 22 p225 := Eq.trans (mv_5 rfl) (Eq.trans (congrArg (fT _ 17) (show nI an = vi 17 from (by first | with_reducible rfl | with_reducible assumption | (symm; with_reducible assumption) | rfl | assumption | (symm; assumption) | (subst_vars; rfl)))) (Eq.trans (id_5 rfl) (Eq.trans (mv_4 rfl) (Eq.trans (congrArg (fT _ 19) (show nI fn = vi 19 from (by first | with_reducible rfl | with_reducible assumption | (symm; with_reducible assumption) | rfl | assumption | (symm; assumption) | (subst_vars; rfl)))) (Eq.trans (id_4 rfl) (Eq.trans (mv_3 rfl) (Eq.trans (id_3 rfl) (Eq.trans (mv_2 rfl) (id_2 rfl)))))))))
      have hP := wr_Pi e9 hP
      have hD := wr_Di e9 hD
      clear e9
      exact W.zret (v := 0) hx hb hr rfl (fun t9_ ht hW => ⟨⟨0, (an, fn, (vi 20), (vi 18), s225, p225), rfl, by (try dsimp only); exact Or.inr ⟨rfl, hs2, hLx, Nat.le_refl _⟩, by rw [ht]; exact hP, hD⟩, hS.F ht⟩) hS.2.2 dX12_needSign_40
  · have t_4 : ¬ ((vi 21)).toInt ≤ 0 := toI_nle c_4 rfl (by decide)
    refine lv_iconst (v := 0) hx hb dX12_needSign_7 (by decide) ?_
    refine W.widen (k := 0) (n := 0) (by decide +kernel) (by decide +kernel) ?_
    have e9 : fT (fT (fT (fT (fT (fT vi 17 (nI an)) 19 (nI fn)) 20 (vi 20)) 18 (vi 18)) 21 (vi 21)) 22 (vi 22) = vi := Eq.trans (mv_5 rfl) (Eq.trans (congrArg (fT _ 17) (show nI an = vi 17 from (by first | with_reducible rfl | with_reducible assumption | (symm; with_reducible assumption) | rfl | assumption | (symm; assumption) | (subst_vars; rfl)))) (Eq.trans (id_5 rfl) (Eq.trans (mv_4 rfl) (Eq.trans (congrArg (fT _ 19) (show nI fn = vi 19 from (by first | with_reducible rfl | with_reducible assumption | (symm; with_reducible assumption) | rfl | assumption | (symm; assumption) | (subst_vars; rfl)))) (Eq.trans (id_4 rfl) (Eq.trans (mv_3 rfl) (Eq.trans (id_3 rfl) (Eq.trans (mv_2 rfl) (Eq.trans (id_2 rfl) (Eq.trans (mv_1 rfl) (Eq.trans (id_1 rfl) (id_0 rfl))))))))))))
    have hP := wr_Pi e9 hP
    have hD := wr_Di e9 hD
    clear e9
    exact W.zret (v := 0) hx hb hr rfl (fun t9_ ht hW => ⟨⟨0, (an, fn, (vi 20), (vi 18), (vi 21), (vi 22)), rfl, by (try dsimp only); exact Or.inr ⟨rfl, by omega, hLx, Nat.le_refl _⟩, by rw [ht]; exact hP, hD⟩, hS.F ht⟩) hS.2.2 dX12_needSign_8
theorem dX12_needKey_0 : decode cX12_needKey 0 = .ok (.aload_n 0, 1) := dk_42 (by decide +kernel)
theorem dX12_needKey_1 : decode cX12_needKey 1 = .ok (.getfield 515, 3) := dk_180 (by decide +kernel)
theorem dX12_needKey_4 : decode cX12_needKey 4 = .ok (.ifCond .le 5, 3) := dk_158 (by decide +kernel)
theorem dX12_needKey_7 : decode cX12_needKey 7 = .ok (.iconst 0, 1) := dk_3 (by decide +kernel)
theorem dX12_needKey_8 : decode cX12_needKey 8 = .ok (.ireturn, 1) := dk_172 (by decide +kernel)
theorem dX12_needKey_9 : decode cX12_needKey 9 = .ok (.aload_n 0, 1) := dk_42 (by decide +kernel)
theorem dX12_needKey_10 : decode cX12_needKey 10 = .ok (.iload_n 1, 1) := dk_27 (by decide +kernel)
theorem dX12_needKey_11 : decode cX12_needKey 11 = .ok (.invokevirtual 530, 3) := dk_182 (by decide +kernel)
theorem dX12_needKey_14 : decode cX12_needKey 14 = .ok (.ifCond .eq 10, 3) := dk_153 (by decide +kernel)
theorem dX12_needKey_17 : decode cX12_needKey 17 = .ok (.aload_n 0, 1) := dk_42 (by decide +kernel)
theorem dX12_needKey_18 : decode cX12_needKey 18 = .ok (.invokevirtual 524, 3) := dk_182 (by decide +kernel)
theorem dX12_needKey_21 : decode cX12_needKey 21 = .ok (.goto 7, 3) := dk_167 (by decide +kernel)
theorem dX12_needKey_24 : decode cX12_needKey 24 = .ok (.aload_n 0, 1) := dk_42 (by decide +kernel)
theorem dX12_needKey_25 : decode cX12_needKey 25 = .ok (.invokevirtual 527, 3) := dk_182 (by decide +kernel)
theorem dX12_needKey_28 : decode cX12_needKey 28 = .ok (.aload_n 0, 1) := dk_42 (by decide +kernel)
theorem dX12_needKey_29 : decode cX12_needKey 29 = .ok (.getfield 515, 3) := dk_180 (by decide +kernel)
theorem dX12_needKey_32 : decode cX12_needKey 32 = .ok (.ifCond .ne 7, 3) := dk_154 (by decide +kernel)
theorem dX12_needKey_35 : decode cX12_needKey 35 = .ok (.iconst 1, 1) := dk_4 (by decide +kernel)
theorem dX12_needKey_36 : decode cX12_needKey 36 = .ok (.goto 4, 3) := dk_167 (by decide +kernel)
theorem dX12_needKey_39 : decode cX12_needKey 39 = .ok (.iconst 0, 1) := dk_3 (by decide +kernel)
theorem dX12_needKey_40 : decode cX12_needKey 40 = .ok (.ireturn, 1) := dk_172 (by decide +kernel)
def wsRX12_needKey : List Cond := .code yX12_needKey cX12_needKey 2 (some .boolean) :: ([.fieldLink RX12 515 "OptimaWorksModel" "stop" "I"] ++ wsX120 ++ (wsV RX12 530 RX12 yX12_isKey wsRX12_isKey) ++ (wsV RX12 524 RX12 yX12_next wsRX12_next) ++ (wsV RX12 527 RX12 yX12_wrong wsRX12_wrong))
theorem iwsRX12_needKey_in12 : ∀ w ∈ wsX120, w ∈ wsRX12_needKey := fun _ h => List.mem_cons_of_mem _ (List.mem_append_left _ (List.mem_append_left _ (List.mem_append_left _ (List.mem_append_right _ h))))
theorem gwsRX12_needKey_0 : GoodIn wsRX12_needKey (wsV RX12 530 RX12 yX12_isKey wsRX12_isKey) := goodIn_sub (fun _ h => List.mem_cons_of_mem _ (List.mem_append_left _ (List.mem_append_left _ (List.mem_append_right _ h)))) (gdV (by decide +kernel) gdwsRX12_isKey)
theorem gwsRX12_needKey_1 : GoodIn wsRX12_needKey (wsV RX12 524 RX12 yX12_next wsRX12_next) := goodIn_sub (fun _ h => List.mem_cons_of_mem _ (List.mem_append_left _ (List.mem_append_right _ h))) (gdV (by decide +kernel) gdwsRX12_next)
theorem gwsRX12_needKey_2 : GoodIn wsRX12_needKey (wsV RX12 527 RX12 yX12_wrong wsRX12_wrong) := goodIn_sub (fun _ h => List.mem_cons_of_mem _ (List.mem_append_right _ h)) (gdV (by decide +kernel) gdwsRX12_wrong)
theorem gdwsRX12_needKey : wsRX12_needKey.all goodWord = true := gdC rfl (gdA (gdA (gdA (gdA (by decide +kernel : ([.fieldLink RX12 515 "OptimaWorksModel" "stop" "I"] : List Cond).all goodWord = true) gdwsX120) (gdV (by decide +kernel) gdwsRX12_isKey)) (gdV (by decide +kernel) gdwsRX12_next)) (gdV (by decide +kernel) gdwsRX12_wrong))
theorem hm_r_X12_needKey_0 : (.fieldLink RX12 515 "OptimaWorksModel" "stop" "I" : Cond) ∈ wsRX12_needKey := by decide +kernel
set_option maxHeartbeats 4000000 in
set_option maxRecDepth 100000 in
/-- X12_needKey(c) -/
theorem r_X12_needKey (l : Launch) (dC : Nat → ClassId) (dI : Nat → Nat → Nat) (a : Nat → Nat) (k : Nat → ClassId) (h0 : Nat) (vi : Nat → Int32) (vj : Nat → Int64) (vF : Nat → Nat → Int32) (vG : Nat → Nat → Int64) (cv : Int32) (tp : Nat) (an : Nat) (fn : Nat) (hTp : vi 16 = nI tp) (htp : tp ≤ 4000) (ha0 : vi 17 = nI an) (hfr : vi 19 = nI fn) (hLx : LxO tp fn an (vi 18) (vi 20)) (hst0 : 0 ≤ (vi 21).toInt) (sz : Nat) : Met l yX12_needKey wsRX12_needKey ({ frames := 8, cells := 0, slots := 0, locals := 173 }) (va_Pc [.ref h0, .int cv] (fun U => U.heap.size = sz ∧ va_P (dC, dI) vwCl (WR a k h0 vi vj vF vG) U.heap ∧ va_K (dC, dI) vwCl (tX12 k) U ∧ va_D (fun _ => True) (WR a k h0 vi vj vF vG) ∧ StrA (va_A (WR a k h0 vi vj vF vG) sz) U U.heap)) (va_Qi (fun (r : Int32) (u : (Nat) × (Nat) × (Int32) × (Int32) × (Int32) × (Int32)) => (r = 1 ∧ ((u.2.2.2.2.1) = 0) ∧ (LxO tp (u.2.1) (u.1) (u.2.2.2.1) (u.2.2.1)) ∧ (an ≤ (u.2.1) ∧ fn < (u.2.1)) ∧ (vi 21 = 0)) ∨ (r = 0 ∧ (0 < ((u.2.2.2.2.1)).toInt) ∧ (LxO tp (u.2.1) (u.1) (u.2.2.2.1) (u.2.2.1)) ∧ (fn ≤ (u.2.1)))) (fun (u : (Nat) × (Nat) × (Int32) × (Int32) × (Int32) × (Int32)) t => va_P (dC, dI) vwCl (WR a k h0 (fT (fT (fT (fT (fT (fT vi 17 (nI (u.1))) 19 (nI (u.2.1))) 20 (u.2.2.1)) 18 (u.2.2.2.1)) 21 (u.2.2.2.2.1)) 22 (u.2.2.2.2.2)) vj vF vG) t.heap ∧ va_D (va_A (WR a k h0 vi vj vF vG) sz) (WR a k h0 (fT (fT (fT (fT (fT (fT vi 17 (nI (u.1))) 19 (nI (u.2.1))) 20 (u.2.2.1)) 18 (u.2.2.2.1)) 21 (u.2.2.2.2.1)) 22 (u.2.2.2.2.2)) vj vF vG)) (va_A (WR a k h0 vi vj vF vG) sz)) 0 0 (va_A (WR a k h0 vi vj vF vG) sz) := by
  refine Met.ofW (cc := cX12_needKey) (maxL := 2) (ret := (some .boolean)) (by decide) rfl ?_
  intro p e s m args below meth c s₁ B hml hv
  obtain ⟨rfl, hsz, hP, hK, hD0, hE⟩ := hv
  have hx := B.exec
  have hb := B.bytes
  have hr := B.returns
  have hts := atoms_spec (ws := wsRX12_needKey) B.pre
  have hown : s.vm.findClass RX12 = some m.cls := findClass_of_methodNamed B.named
  have hlocks := B.notSynchronized
  subst hsz
  have hD := hD0.self (sz := s.heap.size)
  generalize hAe : va_A (WR a k h0 vi vj vF vG) s.heap.size = A at hD hE ⊢
  have hA : ∀ q : Nat, s.heap.size ≤ q → A q := fun q h => by rw [← hAe]; exact Or.inr h
  have hS : va_S A s.heap s.heap [] := va_S.rf
  have hl := lv_entry ([.ref h0, .int cv]) (n := 2) (Nat.le_of_ble_eq_true rfl)
  rw [lg_entry_eq]
  generalize (lg_sl ([.ref h0, .int cv]) ++ List.replicate (2 - (lg_sl ([.ref h0, .int cv])).length) Slot.unset).toArray = ls at hl ⊢
  have hl : lv_has ls 2 [(0, .ref h0), (1, .int cv)] := hl
  have han := hLx.2.1
  refine lv_aload_n hx hb dX12_needKey_0 rfl (lv_at hl 0 rfl) ?_
  refine va_get (D := (dC, dI)) (ci := 12) (v := .int (vi 21)) (C := RX12) (T := TX12) (N := 163) (fs := fM (vS a vi vj)) hx hb hts iwsRX12_needKey_in12 hown hK hP 0 rfl rfl 21 (by decide) (hts _ hm_r_X12_needKey_0) (fun _ h9 => h9) rfl dX12_needKey_1 ?_
  refine lv_if_le (tgt := 9) hx hb dX12_needKey_4 (by decide) (fun c_4 => ?_) (fun c_4 => ?_)
  · have t_4 : ((vi 21)).toInt ≤ 0 := toI_le c_4 rfl (by decide)
    refine lv_aload_n hx hb dX12_needKey_9 rfl (lv_at hl 0 rfl) ?_
    refine lv_iload_n hx hb dX12_needKey_10 rfl (lv_at hl 1 rfl) ?_
    have hFc := allFree hD hS hA
    refine va_calli (va_runV (As := [.int cv]) (rest := []) ⟨hx, hb, hml, hown, hts⟩ (r_X12_isKey l dC dI a k h0 vi vj vF vG cv s.heap.size) (cwV 1 hts gwsRX12_needKey_0 rfl rfl rfl hd_yX12_isKey_RX12 (by decide +kernel)) (fz_pre (va_recv hK hP (ci := 12) (q0 := 0) rfl rfl) hP hK hD) rfl rfl hl.1 rfl (lv_room (Nat.le_of_ble_eq_true rfl)) dX12_needKey_11 (by decide +kernel)) hS (fun q _ h => hFc q h) hFc (fun r11 u t9_ H locs ht hvm hw9 hB9 hz1 hk1 hS => ?_)
    have hP : va_P (dC, dI) vwCl (WR a k h0 vi vj vF vG) H := fz_P ht hB9.1
    have hD := fz_sd hP (hB9.2.weaken (fun _ q _ h => hFc q.1 h)) rfl
    rcases hw9 with ⟨rfl, f11_0, f11_1⟩ | ⟨rfl, f11_0⟩
    · have f11_0 : (vi 18).toInt = 2 := f11_0
      have f11_1 : (vi 20) = cv := f11_1
      refine lv_if_eq (tgt := 24) hx hb dX12_needKey_14 (by decide) (fun c9 => absurd c9 (by decide)) (fun _ => ?_)
      refine lv_aload_n hx hb dX12_needKey_17 rfl (lv_at hl 0 rfl) ?_
      have hFc := allFree hD hS hA
      refine va_callv (va_runV (As := []) (rest := []) ⟨hx, hb, hml, hown, hts⟩ (r_X12_next l dC dI a k h0 vi vj vF vG tp an hTp (by first | with_reducible assumption | decide | omega | rfl | assumption) ha0 (by first | with_reducible assumption | decide | omega | rfl | assumption) H.size) (cwV 0 hts gwsRX12_needKey_1 rfl rfl rfl hd_yX12_next_RX12 (by decide +kernel)) (fz_preE (va_recv hK hP (ci := 12) (q0 := 0) rfl rfl) hP hK hD (fun a U g mk qE => qE.same rfl) (fun U hU9 hW => by rw [hU9]; exact (((hE : StrA A s s.heap).kept hS.2.1).narrow (fun q h => hFc q h)).warm hW)) rfl rfl hl.1 rfl (lv_room (Nat.le_of_ble_eq_true rfl)) dX12_needKey_18 (by decide +kernel)) hS (fun q _ h => hFc q h) hFc (fun u t9_ H locs ht hvm hw9 hB9 hz1 hk1 hS => ?_)
      revert u hw9 hB9
      refine fz_p4 ?_
      intro a218 f218 sg18 wd18 hw9 hB9
      try dsimp only at hw9 hB9
      have hP : va_P (dC, dI) vwCl (WR a k h0 (fT (fT (fT (fT vi 17 (nI a218)) 19 (nI f218)) 20 sg18) 18 wd18) vj vF vG) H := fz_P ht hB9.1
      have hD := fz_sd hP (hB9.2.weaken (fun _ q _ h => hFc q.1 h)) rfl
      revert hw9
      refine fz_a2 ?_
      intro f18_0 f18_1
      refine lv_goto (tgt := 28) hx hb dX12_needKey_21 (by decide) ?_
      refine lv_aload_n hx hb dX12_needKey_28 rfl (lv_at hl 0 rfl) ?_
      refine va_get (D := (dC, dI)) (ci := 12) (v := .int (vi 21)) (C := RX12) (T := TX12) (N := 163) (fs := fM (vS a (fT (fT (fT (fT vi 17 (nI a218)) 19 (nI f218)) 20 sg18) 18 wd18) vj)) hx hb hts iwsRX12_needKey_in12 hown hK hP 0 rfl rfl 21 (by decide) (hts _ hm_r_X12_needKey_0) (fun _ h9 => h9) rfl dX12_needKey_29 ?_
      refine lv_if_ne (tgt := 39) hx hb dX12_needKey_32 (by decide) (fun c9 => False.elim (by have t9 : ((vi 21)).toInt ≠ 0 := toI_ne c9 rfl (by decide); omega)) (fun c_32 => ?_)
      have t_32 : ((vi 21)).toInt = 0 := toI_nne c_32 rfl (by decide)
      refine lv_iconst (v := 1) hx hb dX12_needKey_35 (by decide) ?_
      refine lv_goto (tgt := 40) hx hb dX12_needKey_36 (by decide) ?_
      refine W.widen (k := 0) (n := 0) (by decide +kernel) (by decide +kernel) ?_
      have e9 : fT (fT (fT (fT (fT (fT vi 17 (nI a218)) 19 (nI f218)) 20 sg18) 18 wd18) 21 (vi 21)) 22 (vi 22) = fT (fT (fT (fT vi 17 (nI a218)) 19 (nI f218)) 20 sg18) 18 wd18 := (fT_id _ _ ((fT_ne _ _ (Nat.ne_of_beq_eq_false rfl)).trans ((fT_ne _ _ (Nat.ne_of_beq_eq_false rfl)).trans ((fT_ne _ _ (Nat.ne_of_beq_eq_false rfl)).trans ((fT_ne _ _ (Nat.ne_of_beq_eq_false rfl)).trans (fT_ne _ _ (Nat.ne_of_beq_eq_false rfl))))))).trans (fT_id _ _ ((fT_ne _ _ (Nat.ne_of_beq_eq_false rfl)).trans ((fT_ne _ _ (Nat.ne_of_beq_eq_false rfl)).trans ((fT_ne _ _ (Nat.ne_of_beq_eq_false rfl)).trans (fT_ne _ _ (Nat.ne_of_beq_eq_false rfl))))))
      have hP := wr_Pi e9 hP
      have hD := wr_Di e9 hD
      clear e9
      exact W.zret (v := 1) hx hb hr rfl (fun t9_ ht hW => ⟨⟨1, (a218, f218, sg18, wd18, (vi 21), (vi 22)), rfl, by (try dsimp only); exact Or.inl ⟨rfl, i32z (by omega), f18_0, by (have h9 := hLx.2.2.1.resolve_left (fun h => by rw [h] at f11_0; exact absurd f11_0 (by decide))); omega, i32z (by omega)⟩, by rw [ht]; exact hP, hD⟩, hS.F ht⟩) hS.2.2 dX12_needKey_40
    · have f11_0 : ¬ ((vi 18).toInt = 2 ∧ (vi 20) = cv) := f11_0
      refine lv_if_eq (tgt := 24) hx hb dX12_needKey_14 (by decide) (fun _ => ?_) (fun c9 => absurd (by decide) c9)
      refine lv_aload_n hx hb dX12_needKey_24 rfl (lv_at hl 0 rfl) ?_
      have hFc := allFree hD hS hA
      refine va_callv (va_runV (As := []) (rest := []) ⟨hx, hb, hml, hown, hts⟩ (r_X12_wrong l dC dI a k h0 vi vj vF vG H.size) (cwV 0 hts gwsRX12_needKey_2 rfl rfl rfl hd_yX12_wrong_RX12 (by decide +kernel)) (fz_pre (va_recv hK hP (ci := 12) (q0 := 0) rfl rfl) hP hK hD) rfl rfl hl.1 rfl (lv_room (Nat.le_of_ble_eq_true rfl)) dX12_needKey_25 (by decide +kernel)) hS (fun q _ h => hFc q h) hFc (fun u t9_ H locs ht hvm hw9 hB9 hz1 hk1 hS => ?_)
      revert u hw9 hB9
      refine fz_p2 ?_
      intro s225 p225 hw9 hB9
      try dsimp only at hw9 hB9
      have hP : va_P (dC, dI) vwCl (WR a k h0 (fT (fT vi 21 s225) 22 p225) vj vF vG) H := fz_P ht hB9.1
      have hD := fz_sd hP (hB9.2.weaken (fun _ q _ h => hFc q.1 h)) rfl
      revert hw9
      refine fz_a2 ?_
      intro f25_0 f25_1
      have f25_0 : (0 < (vi 21).toInt ∧ s225 = (vi 21) ∧ p225 = (vi 22)) ∨ (¬ 0 < (vi 21).toInt ∧ (s225 = 1 ∨ s225 = 2) ∧ p225 = (vi 19)) := f25_0
      have hs2 := f25_1
      refine lv_aload_n hx hb dX12_needKey_28 rfl (lv_at hl 0 rfl) ?_
      refine va_get (D := (dC, dI)) (ci := 12) (v := .int s225) (C := RX12) (T := TX12) (N := 163) (fs := fM (vS a (fT (fT vi 21 s225) 22 p225) vj)) hx hb hts iwsRX12_needKey_in12 hown hK hP 0 rfl rfl 21 (by decide) (hts _ hm_r_X12_needKey_0) (fun _ h9 => h9) rfl dX12_needKey_29 ?_
      refine lv_if_ne (tgt := 39) hx hb dX12_needKey_32 (by decide) (fun c_32 => ?_) (fun c9 => False.elim (by have t9 : (s225).toInt = 0 := toI_nne c9 rfl (by decide); omega))
      have t_32 : (s225).toInt ≠ 0 := toI_ne c_32 rfl (by decide)
      refine lv_iconst (v := 0) hx hb dX12_needKey_39 (by decide) ?_
      refine W.widen (k := 0) (n := 0) (by decide +kernel) (by decide +kernel) ?_
      have e9 : fT (fT (fT (fT (fT (fT vi 17 (nI an)) 19 (nI fn)) 20 (vi 20)) 18 (vi 18)) 21 s225) 22 p225 = fT (fT vi 21 s225) 22 p225 := Eq.trans (mv_5 rfl) (Eq.trans (congrArg (fT _ 17) (show nI an = vi 17 from (by first | with_reducible rfl | with_reducible assumption | (symm; with_reducible assumption) | rfl | assumption | (symm; assumption) | (subst_vars; rfl)))) (Eq.trans (id_5 rfl) (Eq.trans (mv_4 rfl) (Eq.trans (congrArg (fT _ 19) (show nI fn = vi 19 from (by first | with_reducible rfl | with_reducible assumption | (symm; with_reducible assumption) | rfl | assumption | (symm; assumption) | (subst_vars; rfl)))) (Eq.trans (id_4 rfl) (Eq.trans (mv_3 rfl) (Eq.trans (id_3 rfl) (Eq.trans (mv_2 rfl) (id_2 rfl)))))))))
      have hP := wr_Pi e9 hP
      have hD := wr_Di e9 hD
      clear e9
      exact W.zret (v := 0) hx hb hr rfl (fun t9_ ht hW => ⟨⟨0, (an, fn, (vi 20), (vi 18), s225, p225), rfl, by (try dsimp only); exact Or.inr ⟨rfl, hs2, hLx, Nat.le_refl _⟩, by rw [ht]; exact hP, hD⟩, hS.F ht⟩) hS.2.2 dX12_needKey_40
  · have t_4 : ¬ ((vi 21)).toInt ≤ 0 := toI_nle c_4 rfl (by decide)
    refine lv_iconst (v := 0) hx hb dX12_needKey_7 (by decide) ?_
    refine W.widen (k := 0) (n := 0) (by decide +kernel) (by decide +kernel) ?_
    have e9 : fT (fT (fT (fT (fT (fT vi 17 (nI an)) 19 (nI fn)) 20 (vi 20)) 18 (vi 18)) 21 (vi 21)) 22 (vi 22) = vi := Eq.trans (mv_5 rfl) (Eq.trans (congrArg (fT _ 17) (show nI an = vi 17 from (by first | with_reducible rfl | with_reducible assumption | (symm; with_reducible assumption) | rfl | assumption | (symm; assumption) | (subst_vars; rfl)))) (Eq.trans (id_5 rfl) (Eq.trans (mv_4 rfl) (Eq.trans (congrArg (fT _ 19) (show nI fn = vi 19 from (by first | with_reducible rfl | with_reducible assumption | (symm; with_reducible assumption) | rfl | assumption | (symm; assumption) | (subst_vars; rfl)))) (Eq.trans (id_4 rfl) (Eq.trans (mv_3 rfl) (Eq.trans (id_3 rfl) (Eq.trans (mv_2 rfl) (Eq.trans (id_2 rfl) (Eq.trans (mv_1 rfl) (Eq.trans (id_1 rfl) (id_0 rfl))))))))))))
    have hP := wr_Pi e9 hP
    have hD := wr_Di e9 hD
    clear e9
    exact W.zret (v := 0) hx hb hr rfl (fun t9_ ht hW => ⟨⟨0, (an, fn, (vi 20), (vi 18), (vi 21), (vi 22)), rfl, by (try dsimp only); exact Or.inr ⟨rfl, by omega, hLx, Nat.le_refl _⟩, by rw [ht]; exact hP, hD⟩, hS.F ht⟩) hS.2.2 dX12_needKey_8
end
section
/-! the class's contracts: ints over whole numbers -/
def iI (z : Int) : Int32 := Int32.ofInt z
theorem iI_of (x : Int32) : x = iI x.toInt := (Int32.ofInt_toInt x).symm
theorem iI_add2 {x y : Int32} {X Y : Int} (hx : x = iI X) (hy : y = iI Y) : x + y = iI (X + Y) := by subst hx; subst hy; exact (Int32.ofInt_add X Y).symm
theorem iI_sub2 {x y : Int32} {X Y : Int} (hx : x = iI X) (hy : y = iI Y) : x - y = iI (X - Y) := by subst hx; subst hy; exact (Int32.ofInt_sub X Y).symm
theorem iI_mul2 {x y : Int32} {X Y : Int} (hx : x = iI X) (hy : y = iI Y) : x * y = iI (X * Y) := by subst hx; subst hy; exact (Int32.ofInt_mul X Y).symm
theorem iI_neg2 {x : Int32} {X : Int} (hx : x = iI X) : -x = iI (-X) := by subst hx; exact (Int32.ofInt_neg X).symm
theorem iI_t {E : Int} (h1 : -2147483648 ≤ E) (h2 : E ≤ 2147483647) : (iI E).toInt = E := Int32.toInt_ofInt_of_le h1 (by omega)
theorem iI_rng {E lo hi : Int} (h1 : lo ≤ E) (h2 : E ≤ hi) (h3 : -2147483648 ≤ lo) (h4 : hi ≤ 2147483647) : lo ≤ (iI E).toInt ∧ (iI E).toInt ≤ hi := by
  rw [iI_t (by omega) (by omega)]; exact ⟨h1, h2⟩
theorem iI_nat (n : Nat) : Int32.ofNat n = iI ((n : Nat) : Int) := by
  show Int32.ofNat n = Int32.ofInt (n : Int)
  exact (Int32.ofInt_eq_ofNat (n := n)).symm
theorem vp_iI {E : Int} {n : Nat} (h1 : 0 ≤ E) (h2 : E < (n : Int)) (h3 : (n : Int) ≤ 2147483647) : vp_in (iI E) n := vp_in_iff.mpr (by rw [iI_t (by omega) (by omega)]; exact ⟨h1, h2⟩)
theorem nz_i {x : Int32} {X : Int} (hx : x.toInt = X) (h : X ≠ 0) : ¬ x = 0 := fun e => h (by rw [← hx, e]; decide)
theorem nz_l {x : Int64} {X : Int} (hx : x.toInt = X) (h : X ≠ 0) : ¬ x = 0 := fun e => h (by rw [← hx, e]; decide)
theorem nn_i {x : Int32} {X : Int} (hx : x.toInt = X) (h : 0 ≤ X) : ¬ x < 0 := fun e => by have := toI_lt e hx (show (0 : Int32).toInt = 0 by decide); omega
theorem upd_r {f : Nat → Int32} {lo hi : Int} (h : ∀ q : Nat, lo ≤ (f q).toInt ∧ (f q).toInt ≤ hi) {x : Int32} (hx : lo ≤ x.toInt ∧ x.toInt ≤ hi) {n : Nat} : ∀ q : Nat, lo ≤ (upd f n x q).toInt ∧ (upd f n x q).toInt ≤ hi := fun q => by
  by_cases e : q = n
  · rw [e, pk_us]; exact hx
  · rw [pk_un e]; exact h q
theorem cpy_r {f g : Nat → Int32} {lo hi : Int} (hf : ∀ q : Nat, lo ≤ (f q).toInt ∧ (f q).toInt ≤ hi) (hg : ∀ q : Nat, lo ≤ (g q).toInt ∧ (g q).toInt ≤ hi) {a b n : Nat} : ∀ q : Nat, lo ≤ (va_cpy f g a b n q).toInt ∧ (va_cpy f g a b n q).toInt ≤ hi := fun q => by
  by_cases e : b ≤ q ∧ q < b + n
  · rw [pk_cpy_in e.1 e.2]; exact hf _
  · rw [pk_cpy_out (by omega)]; exact hg q
theorem and_rng (x : Int32) {m : Int32} {M : Int} (hm : m.toInt = M) (h0 : 0 ≤ m.toInt) : 0 ≤ (x &&& m).toInt ∧ (x &&& m).toInt ≤ M := by
  subst hm
  obtain ⟨j, hj, e⟩ := nI_of (x := m) (nn_i rfl h0)
  have e2 : (x &&& m) = nI (x.toBitVec.toNat &&& j) := by
    have h1 : x = nI x.toBitVec.toNat := by apply Int32.toBitVec_inj.mp; show x.toBitVec = BitVec.ofNat 32 x.toBitVec.toNat; rw [BitVec.ofNat_toNat, BitVec.setWidth_eq]
    rw [e]; conv => lhs; rw [h1]
    exact and_nI _ _
  have h2 : x.toBitVec.toNat &&& j ≤ j := Nat.and_le_right
  rw [e2, nI_toInt (by omega), e, nI_toInt hj]
  omega
theorem and_rngL (x : Int32) {m : Int32} {M : Int} (hm : m.toInt = M) (h0 : 0 ≤ m.toInt) : 0 ≤ (m &&& x).toInt ∧ (m &&& x).toInt ≤ M := by
  rw [Int32.and_comm]; exact and_rng x hm h0
theorem shr_t {x : Int32} {X M : Int} {k : Int32} {n : Nat} (hk : ((k &&& 31).toBitVec.smod 32).toNat = n) (hx : x.toInt = X) (hM : ((2 ^ n : Nat) : Int) = M) : (x >>> (k &&& 31)).toInt = X / M := by
  rw [pk_shr x (k &&& 31) n hk, hx, ← hM]
  exact Int.shiftRight_eq_div_pow X n
theorem max_t {x y : Int32} {X Y : Int} (hx : x.toInt = X) (hy : y.toInt = Y) : (X ≤ (if x < y then y else x).toInt ∧ Y ≤ (if x < y then y else x).toInt) ∧ ((if x < y then y else x).toInt = X ∨ (if x < y then y else x).toInt = Y) := by
  split
  · rename_i h; have := toI_lt h hx hy; rw [hy]; omega
  · rename_i h; have := toI_nlt h hx hy; rw [hx]; omega
theorem min_t {x y : Int32} {X Y : Int} (hx : x.toInt = X) (hy : y.toInt = Y) : ((if y < x then y else x).toInt ≤ X ∧ (if y < x then y else x).toInt ≤ Y) ∧ ((if y < x then y else x).toInt = X ∨ (if y < x then y else x).toInt = Y) := by
  split
  · rename_i h; have := toI_lt h hy hx; rw [hy]; omega
  · rename_i h; have := toI_nlt h hy hx; rw [hx]; omega
theorem idiv_r {x y : Int32} {X Y : Int} (hx : x.toInt = X) (hy : y.toInt = Y) (h1 : 0 ≤ X) (h2 : 0 < Y) : 0 ≤ (x / y).toInt ∧ (x / y).toInt ≤ X := by
  obtain ⟨a, ha, rfl⟩ := nI_of (x := x) (nn_i hx h1)
  obtain ⟨b, hb, rfl⟩ := nI_of (x := y) (nn_i hy (by omega))
  rw [nI_toInt ha] at hx; rw [nI_toInt hb] at hy
  have h3 : a / b ≤ a := Nat.div_le_self a b
  rw [pk_div ha (by omega) hb]
  generalize a / b = d at h3 ⊢
  rw [nI_toInt (by omega)]
  omega
theorem irem_r {x y : Int32} {X Y : Int} (hx : x.toInt = X) (hy : y.toInt = Y) (h1 : 0 ≤ X) (h2 : 0 < Y) : 0 ≤ (x - x / y * y).toInt ∧ (x - x / y * y).toInt < Y := by
  obtain ⟨a, ha, rfl⟩ := nI_of (x := x) (nn_i hx h1)
  obtain ⟨b, hb, rfl⟩ := nI_of (x := y) (nn_i hy (by omega))
  rw [nI_toInt ha] at hx; rw [nI_toInt hb] at hy
  have h3 : a % b < b := Nat.mod_lt a (by omega)
  rw [pk_rem ha (by omega) hb, nI_toInt (by omega)]
  omega
theorem and_posL {x y : Int32} {X : Int} (hx : x.toInt = X) (h : 0 ≤ X) : 0 ≤ (x &&& y).toInt ∧ (x &&& y).toInt ≤ X := and_rngL y hx (by rw [hx]; exact h)
theorem nn_i2 {x : Int32} (h : 0 ≤ x.toInt) : ¬ x < 0 := nn_i rfl h
/-- 1 moved up -/
theorem shl1_all : (List.range 31).all (fun k => decide (1 ≤ ((1 : Int32) <<< (iI (k : Int) &&& 31)).toInt ∧ ((1 : Int32) <<< (iI (k : Int) &&& 31)).toInt = 2 ^ k)) = true := by decide +kernel
theorem shl1_t {x : Int32} {X : Int} (hx : x.toInt = X) {k : Nat} (h0 : 0 ≤ X) (h1 : X ≤ (k : Int)) (hk : k ≤ 30) : 1 ≤ ((1 : Int32) <<< (x &&& 31)).toInt ∧ ((1 : Int32) <<< (x &&& 31)).toInt ≤ 2 ^ k := by
  have e : x = iI ((X.toNat : Nat) : Int) := by rw [show ((X.toNat : Nat) : Int) = X by omega, ← hx]; exact iI_of x
  have h := of_decide_eq_true (List.all_eq_true.mp shl1_all X.toNat (List.mem_range.mpr (by omega)))
  rw [← e] at h
  refine ⟨h.1, ?_⟩
  rw [h.2]
  exact_mod_cast Nat.pow_le_pow_right (by decide) (show X.toNat ≤ k by omega)
/-- bits -/
def bt (x : Int32) (j : Nat) : Bool := x.toBitVec.getLsbD j
theorem sa_all : (List.range 32).all (fun k => decide (((iI (k : Int) &&& 31).toBitVec.smod 32).toNat = k)) = true := by decide +kernel
theorem sa_t {x : Int32} {X : Int} (hx : x.toInt = X) (h0 : 0 ≤ X) (h1 : X < 32) : ((x &&& 31).toBitVec.smod 32).toNat = X.toNat := by
  have e : x = iI ((X.toNat : Nat) : Int) := by rw [show ((X.toNat : Nat) : Int) = X by omega, ← hx]; exact iI_of x
  have h := of_decide_eq_true (List.all_eq_true.mp sa_all X.toNat (List.mem_range.mpr (by omega)))
  rw [← e] at h; exact h
theorem i32_r (x : Int32) : -2147483648 ≤ x.toInt ∧ x.toInt ≤ 2147483647 := ⟨Int32.le_toInt x, by have := Int32.toInt_lt x; omega⟩
theorem z01 {x : Int32} (h : 0 ≤ x.toInt ∧ x.toInt ≤ 1) : x = 0 ∨ x = 1 := by
  by_cases e : x.toInt = 0
  · exact Or.inl (Int32.toInt_inj.mp (e.trans (by decide)))
  · exact Or.inr (Int32.toInt_inj.mp ((show x.toInt = 1 by omega).trans (by decide)))
theorem cp_fit {p n : Int32} {X Y : Int} {n0 : Nat} (hp : p.toInt = X) (hn : n.toInt = Y) (h1 : 0 ≤ X) (h2 : 0 ≤ Y) (h3 : X + Y ≤ (n0 : Int)) : p.toNatClampNeg + n.toNatClampNeg ≤ n0 := by
  show p.toInt.toNat + n.toInt.toNat ≤ n0
  rw [hp, hn]; omega
theorem or_rng {x y : Int32} {X Y : Int} (hx : x.toInt = X) (hy : y.toInt = Y) (k : Nat) (hk : k ≤ 30) (h1 : 0 ≤ X) (h2 : X < (2 ^ k : Nat)) (h3 : 0 ≤ Y) (h4 : Y < (2 ^ k : Nat)) : 0 ≤ (x ||| y).toInt ∧ (x ||| y).toInt < (2 ^ k : Nat) := by
  obtain ⟨a, ha, rfl⟩ := nI_of (x := x) (nn_i hx h1)
  obtain ⟨b, hb, rfl⟩ := nI_of (x := y) (nn_i hy h3)
  rw [nI_toInt ha] at hx; rw [nI_toInt hb] at hy
  have e : nI a ||| nI b = nI (a ||| b) := by
    apply Int32.toBitVec_inj.mp
    show (BitVec.ofNat 32 a ||| BitVec.ofNat 32 b) = BitVec.ofNat 32 (a ||| b)
    apply BitVec.eq_of_getLsbD_eq
    intro i hi
    simp [BitVec.getLsbD_ofNat, hi]
  have h := Nat.or_lt_two_pow (x := a) (y := b) (n := k) (by omega) (by omega)
  have h2 : 2 ^ k ≤ 2 ^ 30 := Nat.pow_le_pow_right (by decide) hk
  rw [e, nI_toInt (by omega)]
  omega
theorem gdF (l : List Cond) : (l.filter goodWord).all goodWord = true := List.all_eq_true.mpr (fun w h => (List.mem_filter.mp h).2)
theorem toN {x : Int32} {X : Int} (hx : x.toInt = X) (h0 : 0 ≤ X) : x = nI X.toNat := by
  obtain ⟨a, ha, rfl⟩ := nI_of (x := x) (nn_i hx h0)
  rw [nI_toInt ha] at hx
  rw [← hx]; rfl
theorem shr0 {x y : Int32} {X : Int} (hx : x.toInt = X) (hy : y.toInt = 0) : (x >>> (y &&& 31)).toInt = X := by
  rw [pk_shr x (y &&& 31) 0 (sa_t hy (by decide) (by decide)), hx]
  exact Int.shiftRight_zero X
theorem ald_0 {x : Int32} {X : Int} {n : Nat} (hx : x.toInt = X) (h0 : 0 ≤ X) (h1 : X < (n : Int)) : x.toNatClampNeg < n ∧ ((x.toNatClampNeg : Nat) : Int) = X := by
  show x.toInt.toNat < n ∧ ((x.toInt.toNat : Nat) : Int) = X
  rw [hx]; omega
theorem ald_k {x : Int32} {X : Int} {o n : Nat} (hx : x.toInt = X) (h0 : 0 ≤ X) (h1 : X < (n : Int)) : o ≤ o + x.toNatClampNeg ∧ o + x.toNatClampNeg < o + n ∧ ((o + x.toNatClampNeg : Nat) : Int) = (o : Int) + X := by
  show o ≤ o + x.toInt.toNat ∧ o + x.toInt.toNat < o + n ∧ ((o + x.toInt.toNat : Nat) : Int) = (o : Int) + X
  rw [hx]; omega
theorem i2l_t (x : Int32) : (x.toInt64).toInt = x.toInt := Int32.toInt_toInt64 x
end
section
def ngX9_33 : List Cond := (vx_at0 RX9 33 "java/lang/IllegalArgumentException" ["java/lang/RuntimeException", "java/lang/Exception"]).filter (fun w => !goodWord w)
theorem ngX9_33_ot : ∀ w ∈ ngX9_33, w.onTables = true := by decide +kernel
theorem ngX9_33_cd : ∀ w ∈ ngX9_33, isCD w = true := by decide +kernel
def ngX11_161 : List Cond := (vx_at0 RX11 161 "java/lang/IllegalStateException" ["java/lang/RuntimeException", "java/lang/Exception"]).filter (fun w => !goodWord w)
theorem ngX11_161_ot : ∀ w ∈ ngX11_161, w.onTables = true := by decide +kernel
theorem ngX11_161_cd : ∀ w ∈ ngX11_161, isCD w = true := by decide +kernel
def ngX11_79 : List Cond := (vx_at0 RX11 79 "java/lang/IllegalArgumentException" ["java/lang/RuntimeException", "java/lang/Exception"]).filter (fun w => !goodWord w)
theorem ngX11_79_ot : ∀ w ∈ ngX11_79, w.onTables = true := by decide +kernel
theorem ngX11_79_cd : ∀ w ∈ ngX11_79, isCD w = true := by decide +kernel
def ngX11_95 : List Cond := (vx_at0 RX11 95 "java/lang/IndexOutOfBoundsException" ["java/lang/RuntimeException", "java/lang/Exception"]).filter (fun w => !goodWord w)
theorem ngX11_95_ot : ∀ w ∈ ngX11_95, w.onTables = true := by decide +kernel
theorem ngX11_95_cd : ∀ w ∈ ngX11_95, isCD w = true := by decide +kernel
def sTab : List (String × Nat × String × List Int32) := [(RX11, 277, "var x", [118, 97, 114, 32, 120]), (RX11, 286, " whole", [32, 119, 104, 111, 108, 101]), (RX11, 288, " from ", [32, 102, 114, 111, 109, 32]), (RX11, 290, " to ", [32, 116, 111, 32]), (RX11, 292, " ;\n", [32, 59, 10]), (RX11, 294, "row \x72", [114, 111, 119, 32, 114]), (RX11, 296, " :", [32, 58]), (RX11, 298, " or", [32, 111, 114]), (RX11, 307, " 0", [32, 48]), (RX11, 309, " <= ", [32, 60, 61, 32]), (RX11, 311, " >= ", [32, 62, 61, 32]), (RX11, 313, " = ", [32, 61, 32]), (RX11, 315, " -", [32, 45]), (RX11, 317, " +", [32, 43]), (RX11, 322, " *", [32, 42]), (RX11, 324, " x", [32, 120]), (RX11, 326, "different", [100, 105, 102, 102, 101, 114, 101, 110, 116]), (RX11, 327, " , x", [32, 44, 32, 120]), (RX11, 329, "max", [109, 97, 120]), (RX11, 331, "min", [109, 105, 110]), (RX11, 333, " - ", [32, 45, 32]), (RX11, 335, " + ", [32, 43, 32]), (RX9, 70, "set param var whole from to row or if and not in sum different min max ", [115, 101, 116, 32, 112, 97, 114, 97, 109, 32, 118, 97, 114, 32, 119, 104, 111, 108, 101, 32, 102, 114, 111, 109, 32, 116, 111, 32, 114, 111, 119, 32, 111, 114, 32, 105, 102, 32, 97, 110, 100, 32, 110, 111, 116, 32, 105, 110, 32, 115, 117, 109, 32, 100, 105, 102, 102, 101, 114, 101, 110, 116, 32, 109, 105, 110, 32, 109, 97, 120, 32]), (RX9, 84, "=<>:;,[]{}()+-*/", [61, 60, 62, 58, 59, 44, 91, 93, 123, 125, 40, 41, 43, 45, 42, 47])]
def ngN : List Cond := [.methodLinkNest RX11 343 yX7_init RX11, .methodLinkNest RX11 392 yX0_init RX11, .methodLinkNest RX11 421 yX2_init RX11, .methodLinkNest RX3 29 yX8_init RX11, .methodLinkNest RX5 57 yX8_init RX11, .methodLinkNest RX6 28 yX8_init RX11]
def isNL : Cond → Bool
  | .methodLinkNest _ _ _ _ => true
  | _ => false
theorem nl_warm {w : Cond} (hc : isNL w = true) {s U : State} (hW : s.WarmedH U.vm) (h : va_Nw w s) : va_Nw w U := by
  cases w <;> first | (exact va_Nw.warmM hW h) | (cases hc)
theorem ngN_ot : ∀ w ∈ ngN, w.onTables = true := by decide +kernel
theorem ngN_nl : ∀ w ∈ ngN, isNL w = true := by decide +kernel
/-- the ctors that are private to the class, and the row of its whole numbers -/
def NestE (U : State) : Prop := (∀ w ∈ ngN, va_Nw w U) ∧ va_AO "OptimaWorks$Whole" U
theorem NestE.warm {s U : State} (h : NestE s) (hW : s.WarmedH U.vm) : NestE U := ⟨fun w hw => nl_warm (ngN_nl w hw) hW (h.1 w hw), va_AO.moved hW.alike h.2⟩
theorem NestE.call {U : State} {g : JFrame} {mk : MethodId} {a : Array Value} (h : NestE U) : NestE (U.calling g mk a) := ⟨fun w hw => va_Nw.same (u := U) (U := U.calling g mk a) (ngN_ot w hw) rfl (h.1 w hw), va_AO.moved (u := U) (U := U.calling g mk a) (Vm.Alike.refl U.vm) h.2⟩
/-- what the class needs of the world about it: the JDK's statics, the words of its throws, its texts -/
def CE (A : Nat → Prop) (U : State) (H : Heap) : Prop := JdkE A U H ∧ (vx_Zq Bundle.tN "UNASSIGNED_STACK" Bundle.steD A U H ∧ vx_Zq Bundle.tN "SUPPRESSED_SENTINEL" Bundle.listD A U H) ∧ ((∀ w ∈ ngX9_33, va_Nw w U) ∧ (∀ w ∈ ngX11_161, va_Nw w U) ∧ (∀ w ∈ ngX11_79, va_Nw w U) ∧ (∀ w ∈ ngX11_95, va_Nw w U) ∧ NestE U) ∧ ∀ (i : Nat) (x : String × Nat × String × List Int32), sTab[i]? = some x → ∃ q, vk_R x.1 x.2.1 x.2.2.1 q U ∧ StrE q x.2.2.2.length (fun j => x.2.2.2.getD j 0) A U H
theorem CE.kept {A : Nat → Prop} {U : State} {H H1 : Heap} (h : CE A U H) (hq : ∀ a : Nat, a < H.size → ¬ A a → H1[a]? = H[a]?) : CE A U H1 := ⟨h.1.kept hq, ⟨h.2.1.1.kept hq, h.2.1.2.kept hq⟩, h.2.2.1, fun i x hx => (h.2.2.2 i x hx).imp (fun _ h9 => ⟨h9.1, h9.2.kept hq⟩)⟩
theorem CE.narrow {A B : Nat → Prop} {U : State} {H : Heap} (h : CE A U H) (hAB : ∀ q, B q → A q) : CE B U H := ⟨h.1.narrow hAB, ⟨h.2.1.1.narrow hAB, h.2.1.2.narrow hAB⟩, h.2.2.1, fun i x hx => (h.2.2.2 i x hx).imp (fun _ h9 => ⟨h9.1, h9.2.narrow hAB⟩)⟩
theorem CE.warm {A : Nat → Prop} {s U : State} {H : Heap} (h : CE A s H) (hW : s.WarmedH U.vm) : CE A U H := ⟨h.1.warm hW, ⟨h.2.1.1.moved hW.alike, h.2.1.2.moved hW.alike⟩, ⟨fun w hw => cd_warm (ngX9_33_cd w hw) hW (h.2.2.1.1 w hw), fun w hw => cd_warm (ngX11_161_cd w hw) hW (h.2.2.1.2.1 w hw), fun w hw => cd_warm (ngX11_79_cd w hw) hW (h.2.2.1.2.2.1 w hw), fun w hw => cd_warm (ngX11_95_cd w hw) hW (h.2.2.1.2.2.2.1 w hw), h.2.2.1.2.2.2.2.warm hW⟩, fun i x hx => (h.2.2.2 i x hx).imp (fun _ h9 => ⟨vk_R.warm hW h9.1, h9.2.warm hW⟩)⟩
theorem CE.call {A : Nat → Prop} {U : State} {H : Heap} {g : JFrame} {mk : MethodId} {a : Array Value} (h : CE A U H) : CE A (U.calling g mk a) H := ⟨h.1.same rfl, ⟨h.2.1.1.moved (Vm.Alike.refl U.vm), h.2.1.2.moved (Vm.Alike.refl U.vm)⟩, ⟨fun w hw => va_Nw.same (u := U) (U := U.calling g mk a) (ngX9_33_ot w hw) rfl (h.2.2.1.1 w hw), fun w hw => va_Nw.same (u := U) (U := U.calling g mk a) (ngX11_161_ot w hw) rfl (h.2.2.1.2.1 w hw), fun w hw => va_Nw.same (u := U) (U := U.calling g mk a) (ngX11_79_ot w hw) rfl (h.2.2.1.2.2.1 w hw), fun w hw => va_Nw.same (u := U) (U := U.calling g mk a) (ngX11_95_ot w hw) rfl (h.2.2.1.2.2.2.1 w hw), h.2.2.1.2.2.2.2.call⟩, fun i x hx => (h.2.2.2 i x hx).imp (fun _ h9 => ⟨vk_R.same rfl h9.1, h9.2.same rfl⟩)⟩
end
section
/-! worlds up to the order of their cells; the family of whole numbers -/
theorem va_P.mem {D : va_G} {cl : List vw_C} {ws ws' : va_W} {H : Heap} (h : va_P D cl ws H) (hs : ∀ q, q ∈ ws' → q ∈ ws) : va_P D cl ws' H := fun k q hk => by
  obtain ⟨i, hi⟩ := List.getElem?_of_mem (hs q (List.mem_of_getElem? hk))
  exact h i q hi
theorem va_D_iff {A : Nat → Prop} {ws : va_W} : va_D A ws ↔ (ws.map Prod.fst).Nodup ∧ ∀ q ∈ ws, A q.1 := by
  constructor
  · intro h
    refine ⟨?_, fun q hq => ?_⟩
    · rw [List.Nodup, List.pairwise_iff_getElem]
      intro i j hi hj hij e
      rw [List.length_map] at hi hj
      have h1 : ws[i]? = some ws[i] := List.getElem?_eq_getElem hi
      have h2 : ws[j]? = some ws[j] := List.getElem?_eq_getElem hj
      have h3 := h.1 i j _ _ h1 h2 (by simpa using e)
      omega
    · obtain ⟨i, hi⟩ := List.getElem?_of_mem hq
      exact h.2 i q hi
  · intro h
    refine ⟨fun i j p q hi hj e => ?_, fun k q hk => h.2 q (List.mem_of_getElem? hk)⟩
    have hn := h.1
    rw [List.Nodup, List.pairwise_iff_getElem] at hn
    obtain ⟨hi1, hi2⟩ := List.getElem?_eq_some_iff.mp hi
    obtain ⟨hj1, hj2⟩ := List.getElem?_eq_some_iff.mp hj
    rcases Nat.lt_trichotomy i j with h9 | h9 | h9
    · have h8 := hn i j (by simpa using hi1) (by simpa using hj1) h9
      simp only [List.getElem_map, hi2, hj2] at h8
      exact absurd e h8
    · exact h9
    · have h8 := hn j i (by simpa using hj1) (by simpa using hi1) h9
      simp only [List.getElem_map, hi2, hj2] at h8
      exact absurd e.symm h8
theorem va_D.perm {A : Nat → Prop} {ws ws' : va_W} (h : va_D A ws) (p : ws.Perm ws') : va_D A ws' := by
  rw [va_D_iff] at h ⊢
  exact ⟨(p.map Prod.fst).nodup h.1, fun q hq => h.2 q (p.mem_iff.mpr hq)⟩
theorem va_D.left {A : Nat → Prop} {X R : va_W} (h : va_D A (X ++ R)) : va_D A X := by
  rw [va_D_iff] at h ⊢
  rw [List.map_append, List.nodup_append] at h
  exact ⟨h.1.1, fun q hq => h.2 q (List.mem_append_left _ hq)⟩
/-- the frame rule, up to the order of the cells -/
theorem frameG {A : Nat → Prop} {D : va_G} {cl : List vw_C} {ws ws' X X' R : va_W} {H H1 : Heap} (p1 : ws.Perm (X ++ R)) (p2 : ws'.Perm (X' ++ R)) (hP : va_P D cl ws H) (hD : va_D A ws)
    (hk : ∀ q : Nat, q < H.size → ¬ va_A X H.size q → H1[q]? = H[q]?) (hF : ∀ q, va_A X H.size q → A q) (hP1 : va_P D cl X' H1) (hD1 : va_D (va_A X H.size) X') : va_P D cl ws' H1 ∧ va_D A ws' := by
  have hD2 := hD.perm p1
  have hPR : va_P D cl R H := hP.mem (fun q hq => p1.mem_iff.mpr (List.mem_append_right _ hq))
  have hn : ∀ q ∈ R, ¬ va_A X H.size q.1 := fun q hq h9 => by
    rcases h9 with ⟨k, e, h8⟩ | h8
    · have h7 := List.mem_of_getElem? h8
      rw [va_D_iff, List.map_append, List.nodup_append] at hD2
      exact hD2.1.2.2 q.1 (List.mem_map.mpr ⟨_, h7, rfl⟩) q.1 (List.mem_map.mpr ⟨q, hq, rfl⟩) rfl
    · obtain ⟨i, hi⟩ := List.getElem?_of_mem hq
      have := (hPR i q hi).lt
      omega
  have hPR1 : va_P D cl R H1 := fun k q hk9 => (hPR k q hk9).kept (hk q.1 (hPR k q hk9).lt (hn q (List.mem_of_getElem? hk9)))
  constructor
  · have : va_P D cl (X' ++ R) H1 := fun k q hk9 => by
      rcases List.mem_append.mp (List.mem_of_getElem? hk9) with h9 | h9
      · obtain ⟨i, hi⟩ := List.getElem?_of_mem h9; exact hP1 i q hi
      · obtain ⟨i, hi⟩ := List.getElem?_of_mem h9; exact hPR1 i q hi
    exact this.mem (fun q hq => p2.mem_iff.mp hq)
  · refine va_D.perm (ws := X' ++ R) ?_ p2.symm
    rw [va_D_iff] at hD1 hD2 ⊢
    rw [List.map_append, List.nodup_append] at hD2 ⊢
    refine ⟨⟨hD1.1, hD2.1.2.1, fun a ha b hb e => ?_⟩, fun q hq => ?_⟩
    · obtain ⟨x, hx, rfl⟩ := List.mem_map.mp ha
      obtain ⟨y, hy, rfl⟩ := List.mem_map.mp hb
      exact hn y hy (e ▸ hD1.2 x hx)
    · rcases List.mem_append.mp hq with h9 | h9
      · exact hF _ (hD1.2 q h9)
      · exact hD2.2 q (List.mem_append_right _ h9)
theorem freeG {A : Nat → Prop} {ws X R : va_W} {H0 H : Heap} {locs : List Loc} (p1 : ws.Perm (X ++ R)) (hD : va_D A ws) (hS : va_S A H0 H locs) (hA : ∀ q, H0.size ≤ q → A q) : ∀ q, va_A X H.size q → A q := by
  rintro q (⟨k, e, h⟩ | h)
  · exact (va_D_iff.mp hD).2 (q, e) (p1.mem_iff.mpr (List.mem_append_left _ (List.mem_of_getElem? h)))
  · exact hA q (Nat.le_trans hS.1 h)
theorem apR {X Y : va_W} {n k : Nat} {q : Nat × va_E} (hn : X.length = n) (h : Y[k]? = some q) : (X ++ Y)[n + k]? = some q := by
  subst hn; rw [List.getElem?_append_right (by omega), show X.length + k - X.length = k by omega]; exact h
theorem stR {X Y : va_W} {n k : Nat} {q : Nat × va_E} (hn : X.length = n) : (X ++ Y).set (n + k) q = X ++ Y.set k q := by
  subst hn; rw [List.set_append_right _ _ (by omega), show X.length + k - X.length = k by omega]
/-- whole numbers: w's own cell, then the rows of their limbs -/
def WW (nW : Nat) (hw lw : Nat → Nat) (kw : ClassId) (wl wb : Nat → Int32) (wG : Nat → Nat → Int64) : va_W := (List.range nW).map (fun w => (hw w, .inr (8, [.ref (lw w), .int (wl w), .int (wb w)]))) ++ (List.range nW).map (fun w => (lw w, .inl (kw, 14, .inr (.inl (wG w)))))
def tW (kw : ClassId) : List (ClassId × FieldType) := [(kw, .long)]
theorem WW_o {nW : Nat} {hw lw : Nat → Nat} {kw : ClassId} {wl wb : Nat → Int32} {wG : Nat → Nat → Int64} {w : Nat} (h : w < nW) : (WW nW hw lw kw wl wb wG)[w]? = some (hw w, .inr (8, [.ref (lw w), .int (wl w), .int (wb w)])) := by
  unfold WW
  rw [List.getElem?_append_left (by simpa using h), List.getElem?_map, List.getElem?_range h]; rfl
theorem WW_a {nW : Nat} {hw lw : Nat → Nat} {kw : ClassId} {wl wb : Nat → Int32} {wG : Nat → Nat → Int64} {w : Nat} (h : w < nW) : (WW nW hw lw kw wl wb wG)[nW + w]? = some (lw w, .inl (kw, 14, .inr (.inl (wG w)))) := by
  unfold WW
  exact apR (by simp) (by rw [List.getElem?_map, List.getElem?_range h]; rfl)
theorem map_setW {α : Type} (n w : Nat) (h : w < n) (f g : Nat → α) (x : α) (hx : x = g w) (ho : ∀ q, q ≠ w → f q = g q) : ((List.range n).map f).set w x = (List.range n).map g := by
  apply List.ext_getElem?
  intro q
  rw [List.getElem?_set, List.getElem?_map, List.getElem?_map]
  by_cases e : w = q
  · subst e; simp [h, hx]
  · rcases Nat.lt_or_ge q n with hq | hq
    · rw [List.getElem?_range hq]; simp [e, ho q (fun h9 => e h9.symm)]
    · simp [e, List.getElem?_eq_none (show (List.range n).length ≤ q by simpa using hq)]
theorem WW_sl {nW : Nat} {hw lw : Nat → Nat} {kw : ClassId} {wl wb : Nat → Int32} {wG : Nat → Nat → Int64} {w : Nat} (h : w < nW) (x : Int32) : (WW nW hw lw kw wl wb wG).set w (hw w, .inr (8, [.ref (lw w), .int x, .int (wb w)])) = WW nW hw lw kw (fT wl w x) wb wG := by
  unfold WW
  rw [List.set_append_left _ _ (by simpa using h)]
  congr 1
  exact map_setW nW w h _ _ _ (by simp [fT_eq]) (fun q hq => by simp [fT_ne _ _ hq])
theorem WW_sb {nW : Nat} {hw lw : Nat → Nat} {kw : ClassId} {wl wb : Nat → Int32} {wG : Nat → Nat → Int64} {w : Nat} (h : w < nW) (x : Int32) : (WW nW hw lw kw wl wb wG).set w (hw w, .inr (8, [.ref (lw w), .int (wl w), .int x])) = WW nW hw lw kw wl (fT wb w x) wG := by
  unfold WW
  rw [List.set_append_left _ _ (by simpa using h)]
  congr 1
  exact map_setW nW w h _ _ _ (by simp [fT_eq]) (fun q hq => by simp [fT_ne _ _ hq])
theorem WW_sg {nW : Nat} {hw lw : Nat → Nat} {kw : ClassId} {wl wb : Nat → Int32} {wG : Nat → Nat → Int64} {w : Nat} (h : w < nW) (f : Nat → Int64) : (WW nW hw lw kw wl wb wG).set (nW + w) (lw w, .inl (kw, 14, .inr (.inl f))) = WW nW hw lw kw wl wb (fT wG w f) := by
  unfold WW
  rw [stR (by simp)]
  congr 1
  exact map_setW nW w h _ _ _ (by simp [fT_eq]) (fun q hq => by simp [fT_ne _ _ hq])
theorem fT_r {f : Nat → Int32} {lo hi : Int} (h : ∀ q : Nat, lo ≤ (f q).toInt ∧ (f q).toInt ≤ hi) {x : Int32} (hx : lo ≤ x.toInt ∧ x.toInt ≤ hi) {n : Nat} : ∀ q : Nat, lo ≤ (fT f n x q).toInt ∧ (fT f n x q).toInt ≤ hi := fun q => by
  by_cases e : q = n
  · rw [e, fT_eq]; exact hx
  · rw [fT_ne _ _ e]; exact h q
end
section
/-! parts of worlds: permutations of lists -/
theorem cj_10_2 (t0 t1 t2 t3 t4 t5 t6 t7 t8 t9 : va_W) : List.Perm (α := Nat × va_E) (t0 ++ (t1 ++ (t2 ++ (t3 ++ (t4 ++ (t5 ++ (t6 ++ (t7 ++ (t8 ++ (t9)))))))))) ((t2) ++ (t0 ++ (t1 ++ (t3 ++ (t4 ++ (t5 ++ (t6 ++ (t7 ++ (t8 ++ (t9)))))))))) := ((List.Perm.append_left _ (List.perm_append_comm_assoc _ _ _)).trans (List.perm_append_comm_assoc _ _ _))
theorem cj_10_3_4_5_1_2 (t0 t1 t2 t3 t4 t5 t6 t7 t8 t9 : va_W) : List.Perm (α := Nat × va_E) (t0 ++ (t1 ++ (t2 ++ (t3 ++ (t4 ++ (t5 ++ (t6 ++ (t7 ++ (t8 ++ (t9)))))))))) ((t3 ++ (t4 ++ (t5 ++ (t1 ++ (t2))))) ++ (t0 ++ (t6 ++ (t7 ++ (t8 ++ (t9)))))) := (((((((List.Perm.append_left _ (List.perm_append_comm_assoc _ _ _)).trans (List.perm_append_comm_assoc _ _ _)).trans ((List.Perm.append_left _ (List.perm_append_comm_assoc _ _ _)).trans (List.perm_append_comm_assoc _ _ _))).trans ((List.Perm.append_left _ ((List.Perm.append_left _ ((List.Perm.append_left _ ((List.Perm.append_left _ (List.perm_append_comm_assoc _ _ _)).trans (List.perm_append_comm_assoc _ _ _))).trans (List.perm_append_comm_assoc _ _ _))).trans (List.perm_append_comm_assoc _ _ _))).trans (List.perm_append_comm_assoc _ _ _))).trans ((List.Perm.append_left _ ((List.Perm.append_left _ ((List.Perm.append_left _ ((List.Perm.append_left _ (List.perm_append_comm_assoc _ _ _)).trans (List.perm_append_comm_assoc _ _ _))).trans (List.perm_append_comm_assoc _ _ _))).trans (List.perm_append_comm_assoc _ _ _))).trans (List.perm_append_comm_assoc _ _ _))).trans ((List.Perm.append_left _ ((List.Perm.append_left _ ((List.Perm.append_left _ ((List.Perm.append_left _ (List.perm_append_comm_assoc _ _ _)).trans (List.perm_append_comm_assoc _ _ _))).trans (List.perm_append_comm_assoc _ _ _))).trans (List.perm_append_comm_assoc _ _ _))).trans (List.perm_append_comm_assoc _ _ _))).trans (List.Perm.of_eq (by simp only [List.append_assoc])))
theorem cj_10_6_2_7_9 (t0 t1 t2 t3 t4 t5 t6 t7 t8 t9 : va_W) : List.Perm (α := Nat × va_E) (t0 ++ (t1 ++ (t2 ++ (t3 ++ (t4 ++ (t5 ++ (t6 ++ (t7 ++ (t8 ++ (t9)))))))))) ((t6 ++ (t2 ++ (t7 ++ (t9)))) ++ (t0 ++ (t1 ++ (t3 ++ (t4 ++ (t5 ++ (t8))))))) := ((((((List.Perm.append_left _ ((List.Perm.append_left _ ((List.Perm.append_left _ ((List.Perm.append_left _ ((List.Perm.append_left _ ((List.Perm.append_left _ ((List.Perm.append_left _ ((List.Perm.append_left _ (List.perm_append_comm)).trans (List.perm_append_comm_assoc _ _ _))).trans (List.perm_append_comm_assoc _ _ _))).trans (List.perm_append_comm_assoc _ _ _))).trans (List.perm_append_comm_assoc _ _ _))).trans (List.perm_append_comm_assoc _ _ _))).trans (List.perm_append_comm_assoc _ _ _))).trans (List.perm_append_comm_assoc _ _ _))).trans (List.perm_append_comm_assoc _ _ _)).trans ((List.Perm.append_left _ ((List.Perm.append_left _ ((List.Perm.append_left _ ((List.Perm.append_left _ ((List.Perm.append_left _ ((List.Perm.append_left _ ((List.Perm.append_left _ (List.perm_append_comm_assoc _ _ _)).trans (List.perm_append_comm_assoc _ _ _))).trans (List.perm_append_comm_assoc _ _ _))).trans (List.perm_append_comm_assoc _ _ _))).trans (List.perm_append_comm_assoc _ _ _))).trans (List.perm_append_comm_assoc _ _ _))).trans (List.perm_append_comm_assoc _ _ _))).trans (List.perm_append_comm_assoc _ _ _))).trans ((List.Perm.append_left _ ((List.Perm.append_left _ ((List.Perm.append_left _ (List.perm_append_comm_assoc _ _ _)).trans (List.perm_append_comm_assoc _ _ _))).trans (List.perm_append_comm_assoc _ _ _))).trans (List.perm_append_comm_assoc _ _ _))).trans ((List.Perm.append_left _ ((List.Perm.append_left _ ((List.Perm.append_left _ ((List.Perm.append_left _ ((List.Perm.append_left _ ((List.Perm.append_left _ ((List.Perm.append_left _ (List.perm_append_comm_assoc _ _ _)).trans (List.perm_append_comm_assoc _ _ _))).trans (List.perm_append_comm_assoc _ _ _))).trans (List.perm_append_comm_assoc _ _ _))).trans (List.perm_append_comm_assoc _ _ _))).trans (List.perm_append_comm_assoc _ _ _))).trans (List.perm_append_comm_assoc _ _ _))).trans (List.perm_append_comm_assoc _ _ _))).trans (List.Perm.of_eq (by simp only [List.append_assoc])))
theorem cj_10_8_6_2_7_9 (t0 t1 t2 t3 t4 t5 t6 t7 t8 t9 : va_W) : List.Perm (α := Nat × va_E) (t0 ++ (t1 ++ (t2 ++ (t3 ++ (t4 ++ (t5 ++ (t6 ++ (t7 ++ (t8 ++ (t9)))))))))) ((t8 ++ (t6 ++ (t2 ++ (t7 ++ (t9))))) ++ (t0 ++ (t1 ++ (t3 ++ (t4 ++ (t5)))))) := (((((((List.Perm.append_left _ ((List.Perm.append_left _ ((List.Perm.append_left _ ((List.Perm.append_left _ ((List.Perm.append_left _ ((List.Perm.append_left _ ((List.Perm.append_left _ ((List.Perm.append_left _ (List.perm_append_comm)).trans (List.perm_append_comm_assoc _ _ _))).trans (List.perm_append_comm_assoc _ _ _))).trans (List.perm_append_comm_assoc _ _ _))).trans (List.perm_append_comm_assoc _ _ _))).trans (List.perm_append_comm_assoc _ _ _))).trans (List.perm_append_comm_assoc _ _ _))).trans (List.perm_append_comm_assoc _ _ _))).trans (List.perm_append_comm_assoc _ _ _)).trans ((List.Perm.append_left _ ((List.Perm.append_left _ ((List.Perm.append_left _ ((List.Perm.append_left _ ((List.Perm.append_left _ ((List.Perm.append_left _ ((List.Perm.append_left _ (List.perm_append_comm_assoc _ _ _)).trans (List.perm_append_comm_assoc _ _ _))).trans (List.perm_append_comm_assoc _ _ _))).trans (List.perm_append_comm_assoc _ _ _))).trans (List.perm_append_comm_assoc _ _ _))).trans (List.perm_append_comm_assoc _ _ _))).trans (List.perm_append_comm_assoc _ _ _))).trans (List.perm_append_comm_assoc _ _ _))).trans ((List.Perm.append_left _ ((List.Perm.append_left _ ((List.Perm.append_left _ (List.perm_append_comm_assoc _ _ _)).trans (List.perm_append_comm_assoc _ _ _))).trans (List.perm_append_comm_assoc _ _ _))).trans (List.perm_append_comm_assoc _ _ _))).trans ((List.Perm.append_left _ ((List.Perm.append_left _ ((List.Perm.append_left _ ((List.Perm.append_left _ ((List.Perm.append_left _ ((List.Perm.append_left _ ((List.Perm.append_left _ (List.perm_append_comm_assoc _ _ _)).trans (List.perm_append_comm_assoc _ _ _))).trans (List.perm_append_comm_assoc _ _ _))).trans (List.perm_append_comm_assoc _ _ _))).trans (List.perm_append_comm_assoc _ _ _))).trans (List.perm_append_comm_assoc _ _ _))).trans (List.perm_append_comm_assoc _ _ _))).trans (List.perm_append_comm_assoc _ _ _))).trans ((List.Perm.append_left _ ((List.Perm.append_left _ ((List.Perm.append_left _ ((List.Perm.append_left _ ((List.Perm.append_left _ ((List.Perm.append_left _ ((List.Perm.append_left _ ((List.Perm.append_left _ (List.perm_append_comm)).trans (List.perm_append_comm_assoc _ _ _))).trans (List.perm_append_comm_assoc _ _ _))).trans (List.perm_append_comm_assoc _ _ _))).trans (List.perm_append_comm_assoc _ _ _))).trans (List.perm_append_comm_assoc _ _ _))).trans (List.perm_append_comm_assoc _ _ _))).trans (List.perm_append_comm_assoc _ _ _))).trans (List.perm_append_comm_assoc _ _ _))).trans (List.Perm.of_eq (by simp only [List.append_assoc])))
theorem cj_2_0 (t0 t1 : va_W) : List.Perm (α := Nat × va_E) (t0 ++ (t1)) ((t0) ++ (t1)) := (List.Perm.refl _)
theorem cj_2_1 (t0 t1 : va_W) : List.Perm (α := Nat × va_E) (t0 ++ (t1)) ((t1) ++ (t0)) := (List.perm_append_comm)
theorem cj_3_0 (t0 t1 t2 : va_W) : List.Perm (α := Nat × va_E) (t0 ++ (t1 ++ (t2))) ((t0) ++ (t1 ++ (t2))) := (List.Perm.refl _)
theorem cj_3_0_1 (t0 t1 t2 : va_W) : List.Perm (α := Nat × va_E) (t0 ++ (t1 ++ (t2))) ((t0 ++ (t1)) ++ (t2)) := (((List.perm_append_comm_assoc _ _ _).trans (List.perm_append_comm_assoc _ _ _)).trans (List.Perm.of_eq (by simp only [List.append_assoc])))
theorem cj_3_0_2 (t0 t1 t2 : va_W) : List.Perm (α := Nat × va_E) (t0 ++ (t1 ++ (t2))) ((t0 ++ (t2)) ++ (t1)) := ((((List.Perm.append_left _ (List.perm_append_comm)).trans (List.perm_append_comm_assoc _ _ _)).trans (List.perm_append_comm_assoc _ _ _)).trans (List.Perm.of_eq (by simp only [List.append_assoc])))
theorem cj_3_1 (t0 t1 t2 : va_W) : List.Perm (α := Nat × va_E) (t0 ++ (t1 ++ (t2))) ((t1) ++ (t0 ++ (t2))) := (List.perm_append_comm_assoc _ _ _)
theorem cj_3_2 (t0 t1 t2 : va_W) : List.Perm (α := Nat × va_E) (t0 ++ (t1 ++ (t2))) ((t2) ++ (t0 ++ (t1))) := ((List.Perm.append_left _ (List.perm_append_comm)).trans (List.perm_append_comm_assoc _ _ _))
theorem cj_4_0 (t0 t1 t2 t3 : va_W) : List.Perm (α := Nat × va_E) (t0 ++ (t1 ++ (t2 ++ (t3)))) ((t0) ++ (t1 ++ (t2 ++ (t3)))) := (List.Perm.refl _)
theorem cj_4_0_1 (t0 t1 t2 t3 : va_W) : List.Perm (α := Nat × va_E) (t0 ++ (t1 ++ (t2 ++ (t3)))) ((t0 ++ (t1)) ++ (t2 ++ (t3))) := (((List.perm_append_comm_assoc _ _ _).trans (List.perm_append_comm_assoc _ _ _)).trans (List.Perm.of_eq (by simp only [List.append_assoc])))
theorem cj_4_0_1_2 (t0 t1 t2 t3 : va_W) : List.Perm (α := Nat × va_E) (t0 ++ (t1 ++ (t2 ++ (t3)))) ((t0 ++ (t1 ++ (t2))) ++ (t3)) := (((((List.Perm.append_left _ (List.perm_append_comm_assoc _ _ _)).trans (List.perm_append_comm_assoc _ _ _)).trans ((List.Perm.append_left _ (List.perm_append_comm_assoc _ _ _)).trans (List.perm_append_comm_assoc _ _ _))).trans ((List.Perm.append_left _ (List.perm_append_comm_assoc _ _ _)).trans (List.perm_append_comm_assoc _ _ _))).trans (List.Perm.of_eq (by simp only [List.append_assoc])))
theorem cj_4_0_1_3 (t0 t1 t2 t3 : va_W) : List.Perm (α := Nat × va_E) (t0 ++ (t1 ++ (t2 ++ (t3)))) ((t0 ++ (t1 ++ (t3))) ++ (t2)) := (((((List.Perm.append_left _ ((List.Perm.append_left _ (List.perm_append_comm)).trans (List.perm_append_comm_assoc _ _ _))).trans (List.perm_append_comm_assoc _ _ _)).trans ((List.Perm.append_left _ (List.perm_append_comm_assoc _ _ _)).trans (List.perm_append_comm_assoc _ _ _))).trans ((List.Perm.append_left _ (List.perm_append_comm_assoc _ _ _)).trans (List.perm_append_comm_assoc _ _ _))).trans (List.Perm.of_eq (by simp only [List.append_assoc])))
theorem cj_4_0_2 (t0 t1 t2 t3 : va_W) : List.Perm (α := Nat × va_E) (t0 ++ (t1 ++ (t2 ++ (t3)))) ((t0 ++ (t2)) ++ (t1 ++ (t3))) := ((((List.Perm.append_left _ (List.perm_append_comm_assoc _ _ _)).trans (List.perm_append_comm_assoc _ _ _)).trans (List.perm_append_comm_assoc _ _ _)).trans (List.Perm.of_eq (by simp only [List.append_assoc])))
theorem cj_4_0_2_3 (t0 t1 t2 t3 : va_W) : List.Perm (α := Nat × va_E) (t0 ++ (t1 ++ (t2 ++ (t3)))) ((t0 ++ (t2 ++ (t3))) ++ (t1)) := (((((List.Perm.append_left _ ((List.Perm.append_left _ (List.perm_append_comm)).trans (List.perm_append_comm_assoc _ _ _))).trans (List.perm_append_comm_assoc _ _ _)).trans ((List.Perm.append_left _ ((List.Perm.append_left _ (List.perm_append_comm)).trans (List.perm_append_comm_assoc _ _ _))).trans (List.perm_append_comm_assoc _ _ _))).trans ((List.Perm.append_left _ (List.perm_append_comm_assoc _ _ _)).trans (List.perm_append_comm_assoc _ _ _))).trans (List.Perm.of_eq (by simp only [List.append_assoc])))
theorem cj_4_0_3 (t0 t1 t2 t3 : va_W) : List.Perm (α := Nat × va_E) (t0 ++ (t1 ++ (t2 ++ (t3)))) ((t0 ++ (t3)) ++ (t1 ++ (t2))) := ((((List.Perm.append_left _ ((List.Perm.append_left _ (List.perm_append_comm)).trans (List.perm_append_comm_assoc _ _ _))).trans (List.perm_append_comm_assoc _ _ _)).trans (List.perm_append_comm_assoc _ _ _)).trans (List.Perm.of_eq (by simp only [List.append_assoc])))
theorem cj_4_1 (t0 t1 t2 t3 : va_W) : List.Perm (α := Nat × va_E) (t0 ++ (t1 ++ (t2 ++ (t3)))) ((t1) ++ (t0 ++ (t2 ++ (t3)))) := (List.perm_append_comm_assoc _ _ _)
theorem cj_4_2 (t0 t1 t2 t3 : va_W) : List.Perm (α := Nat × va_E) (t0 ++ (t1 ++ (t2 ++ (t3)))) ((t2) ++ (t0 ++ (t1 ++ (t3)))) := ((List.Perm.append_left _ (List.perm_append_comm_assoc _ _ _)).trans (List.perm_append_comm_assoc _ _ _))
theorem cj_4_2_3 (t0 t1 t2 t3 : va_W) : List.Perm (α := Nat × va_E) (t0 ++ (t1 ++ (t2 ++ (t3)))) ((t2 ++ (t3)) ++ (t0 ++ (t1))) := ((((List.Perm.append_left _ ((List.Perm.append_left _ (List.perm_append_comm)).trans (List.perm_append_comm_assoc _ _ _))).trans (List.perm_append_comm_assoc _ _ _)).trans ((List.Perm.append_left _ ((List.Perm.append_left _ (List.perm_append_comm)).trans (List.perm_append_comm_assoc _ _ _))).trans (List.perm_append_comm_assoc _ _ _))).trans (List.Perm.of_eq (by simp only [List.append_assoc])))
theorem cj_4_3 (t0 t1 t2 t3 : va_W) : List.Perm (α := Nat × va_E) (t0 ++ (t1 ++ (t2 ++ (t3)))) ((t3) ++ (t0 ++ (t1 ++ (t2)))) := ((List.Perm.append_left _ ((List.Perm.append_left _ (List.perm_append_comm)).trans (List.perm_append_comm_assoc _ _ _))).trans (List.perm_append_comm_assoc _ _ _))
theorem cj_5_0 (t0 t1 t2 t3 t4 : va_W) : List.Perm (α := Nat × va_E) (t0 ++ (t1 ++ (t2 ++ (t3 ++ (t4))))) ((t0) ++ (t1 ++ (t2 ++ (t3 ++ (t4))))) := (List.Perm.refl _)
theorem cj_5_0_1 (t0 t1 t2 t3 t4 : va_W) : List.Perm (α := Nat × va_E) (t0 ++ (t1 ++ (t2 ++ (t3 ++ (t4))))) ((t0 ++ (t1)) ++ (t2 ++ (t3 ++ (t4)))) := (((List.perm_append_comm_assoc _ _ _).trans (List.perm_append_comm_assoc _ _ _)).trans (List.Perm.of_eq (by simp only [List.append_assoc])))
theorem cj_5_0_1_2_3 (t0 t1 t2 t3 t4 : va_W) : List.Perm (α := Nat × va_E) (t0 ++ (t1 ++ (t2 ++ (t3 ++ (t4))))) ((t0 ++ (t1 ++ (t2 ++ (t3)))) ++ (t4)) := ((((((List.Perm.append_left _ ((List.Perm.append_left _ (List.perm_append_comm_assoc _ _ _)).trans (List.perm_append_comm_assoc _ _ _))).trans (List.perm_append_comm_assoc _ _ _)).trans ((List.Perm.append_left _ ((List.Perm.append_left _ (List.perm_append_comm_assoc _ _ _)).trans (List.perm_append_comm_assoc _ _ _))).trans (List.perm_append_comm_assoc _ _ _))).trans ((List.Perm.append_left _ ((List.Perm.append_left _ (List.perm_append_comm_assoc _ _ _)).trans (List.perm_append_comm_assoc _ _ _))).trans (List.perm_append_comm_assoc _ _ _))).trans ((List.Perm.append_left _ ((List.Perm.append_left _ (List.perm_append_comm_assoc _ _ _)).trans (List.perm_append_comm_assoc _ _ _))).trans (List.perm_append_comm_assoc _ _ _))).trans (List.Perm.of_eq (by simp only [List.append_assoc])))
theorem cj_5_0_1_3 (t0 t1 t2 t3 t4 : va_W) : List.Perm (α := Nat × va_E) (t0 ++ (t1 ++ (t2 ++ (t3 ++ (t4))))) ((t0 ++ (t1 ++ (t3))) ++ (t2 ++ (t4))) := (((((List.Perm.append_left _ ((List.Perm.append_left _ (List.perm_append_comm_assoc _ _ _)).trans (List.perm_append_comm_assoc _ _ _))).trans (List.perm_append_comm_assoc _ _ _)).trans ((List.Perm.append_left _ (List.perm_append_comm_assoc _ _ _)).trans (List.perm_append_comm_assoc _ _ _))).trans ((List.Perm.append_left _ (List.perm_append_comm_assoc _ _ _)).trans (List.perm_append_comm_assoc _ _ _))).trans (List.Perm.of_eq (by simp only [List.append_assoc])))
theorem cj_5_0_1_3_4 (t0 t1 t2 t3 t4 : va_W) : List.Perm (α := Nat × va_E) (t0 ++ (t1 ++ (t2 ++ (t3 ++ (t4))))) ((t0 ++ (t1 ++ (t3 ++ (t4)))) ++ (t2)) := ((((((List.Perm.append_left _ ((List.Perm.append_left _ ((List.Perm.append_left _ (List.perm_append_comm)).trans (List.perm_append_comm_assoc _ _ _))).trans (List.perm_append_comm_assoc _ _ _))).trans (List.perm_append_comm_assoc _ _ _)).trans ((List.Perm.append_left _ ((List.Perm.append_left _ ((List.Perm.append_left _ (List.perm_append_comm)).trans (List.perm_append_comm_assoc _ _ _))).trans (List.perm_append_comm_assoc _ _ _))).trans (List.perm_append_comm_assoc _ _ _))).trans ((List.Perm.append_left _ ((List.Perm.append_left _ (List.perm_append_comm_assoc _ _ _)).trans (List.perm_append_comm_assoc _ _ _))).trans (List.perm_append_comm_assoc _ _ _))).trans ((List.Perm.append_left _ ((List.Perm.append_left _ (List.perm_append_comm_assoc _ _ _)).trans (List.perm_append_comm_assoc _ _ _))).trans (List.perm_append_comm_assoc _ _ _))).trans (List.Perm.of_eq (by simp only [List.append_assoc])))
theorem cj_5_0_2 (t0 t1 t2 t3 t4 : va_W) : List.Perm (α := Nat × va_E) (t0 ++ (t1 ++ (t2 ++ (t3 ++ (t4))))) ((t0 ++ (t2)) ++ (t1 ++ (t3 ++ (t4)))) := ((((List.Perm.append_left _ (List.perm_append_comm_assoc _ _ _)).trans (List.perm_append_comm_assoc _ _ _)).trans (List.perm_append_comm_assoc _ _ _)).trans (List.Perm.of_eq (by simp only [List.append_assoc])))
theorem cj_5_0_2_3 (t0 t1 t2 t3 t4 : va_W) : List.Perm (α := Nat × va_E) (t0 ++ (t1 ++ (t2 ++ (t3 ++ (t4))))) ((t0 ++ (t2 ++ (t3))) ++ (t1 ++ (t4))) := (((((List.Perm.append_left _ ((List.Perm.append_left _ (List.perm_append_comm_assoc _ _ _)).trans (List.perm_append_comm_assoc _ _ _))).trans (List.perm_append_comm_assoc _ _ _)).trans ((List.Perm.append_left _ ((List.Perm.append_left _ (List.perm_append_comm_assoc _ _ _)).trans (List.perm_append_comm_assoc _ _ _))).trans (List.perm_append_comm_assoc _ _ _))).trans ((List.Perm.append_left _ (List.perm_append_comm_assoc _ _ _)).trans (List.perm_append_comm_assoc _ _ _))).trans (List.Perm.of_eq (by simp only [List.append_assoc])))
theorem cj_5_0_4 (t0 t1 t2 t3 t4 : va_W) : List.Perm (α := Nat × va_E) (t0 ++ (t1 ++ (t2 ++ (t3 ++ (t4))))) ((t0 ++ (t4)) ++ (t1 ++ (t2 ++ (t3)))) := ((((List.Perm.append_left _ ((List.Perm.append_left _ ((List.Perm.append_left _ (List.perm_append_comm)).trans (List.perm_append_comm_assoc _ _ _))).trans (List.perm_append_comm_assoc _ _ _))).trans (List.perm_append_comm_assoc _ _ _)).trans (List.perm_append_comm_assoc _ _ _)).trans (List.Perm.of_eq (by simp only [List.append_assoc])))
theorem cj_5_1 (t0 t1 t2 t3 t4 : va_W) : List.Perm (α := Nat × va_E) (t0 ++ (t1 ++ (t2 ++ (t3 ++ (t4))))) ((t1) ++ (t0 ++ (t2 ++ (t3 ++ (t4))))) := (List.perm_append_comm_assoc _ _ _)
theorem cj_5_1_2_3_4 (t0 t1 t2 t3 t4 : va_W) : List.Perm (α := Nat × va_E) (t0 ++ (t1 ++ (t2 ++ (t3 ++ (t4))))) ((t1 ++ (t2 ++ (t3 ++ (t4)))) ++ (t0)) := ((((((List.Perm.append_left _ ((List.Perm.append_left _ ((List.Perm.append_left _ (List.perm_append_comm)).trans (List.perm_append_comm_assoc _ _ _))).trans (List.perm_append_comm_assoc _ _ _))).trans (List.perm_append_comm_assoc _ _ _)).trans ((List.Perm.append_left _ ((List.Perm.append_left _ ((List.Perm.append_left _ (List.perm_append_comm)).trans (List.perm_append_comm_assoc _ _ _))).trans (List.perm_append_comm_assoc _ _ _))).trans (List.perm_append_comm_assoc _ _ _))).trans ((List.Perm.append_left _ ((List.Perm.append_left _ ((List.Perm.append_left _ (List.perm_append_comm)).trans (List.perm_append_comm_assoc _ _ _))).trans (List.perm_append_comm_assoc _ _ _))).trans (List.perm_append_comm_assoc _ _ _))).trans ((List.Perm.append_left _ ((List.Perm.append_left _ ((List.Perm.append_left _ (List.perm_append_comm)).trans (List.perm_append_comm_assoc _ _ _))).trans (List.perm_append_comm_assoc _ _ _))).trans (List.perm_append_comm_assoc _ _ _))).trans (List.Perm.of_eq (by simp only [List.append_assoc])))
theorem cj_5_2 (t0 t1 t2 t3 t4 : va_W) : List.Perm (α := Nat × va_E) (t0 ++ (t1 ++ (t2 ++ (t3 ++ (t4))))) ((t2) ++ (t0 ++ (t1 ++ (t3 ++ (t4))))) := ((List.Perm.append_left _ (List.perm_append_comm_assoc _ _ _)).trans (List.perm_append_comm_assoc _ _ _))
theorem cj_5_2_1_3_4 (t0 t1 t2 t3 t4 : va_W) : List.Perm (α := Nat × va_E) (t0 ++ (t1 ++ (t2 ++ (t3 ++ (t4))))) ((t2 ++ (t1 ++ (t3 ++ (t4)))) ++ (t0)) := ((((((List.Perm.append_left _ ((List.Perm.append_left _ ((List.Perm.append_left _ (List.perm_append_comm)).trans (List.perm_append_comm_assoc _ _ _))).trans (List.perm_append_comm_assoc _ _ _))).trans (List.perm_append_comm_assoc _ _ _)).trans ((List.Perm.append_left _ ((List.Perm.append_left _ ((List.Perm.append_left _ (List.perm_append_comm)).trans (List.perm_append_comm_assoc _ _ _))).trans (List.perm_append_comm_assoc _ _ _))).trans (List.perm_append_comm_assoc _ _ _))).trans ((List.Perm.append_left _ ((List.Perm.append_left _ (List.perm_append_comm_assoc _ _ _)).trans (List.perm_append_comm_assoc _ _ _))).trans (List.perm_append_comm_assoc _ _ _))).trans ((List.Perm.append_left _ ((List.Perm.append_left _ ((List.Perm.append_left _ (List.perm_append_comm)).trans (List.perm_append_comm_assoc _ _ _))).trans (List.perm_append_comm_assoc _ _ _))).trans (List.perm_append_comm_assoc _ _ _))).trans (List.Perm.of_eq (by simp only [List.append_assoc])))
theorem cj_5_3 (t0 t1 t2 t3 t4 : va_W) : List.Perm (α := Nat × va_E) (t0 ++ (t1 ++ (t2 ++ (t3 ++ (t4))))) ((t3) ++ (t0 ++ (t1 ++ (t2 ++ (t4))))) := ((List.Perm.append_left _ ((List.Perm.append_left _ (List.perm_append_comm_assoc _ _ _)).trans (List.perm_append_comm_assoc _ _ _))).trans (List.perm_append_comm_assoc _ _ _))
theorem cj_5_3_4 (t0 t1 t2 t3 t4 : va_W) : List.Perm (α := Nat × va_E) (t0 ++ (t1 ++ (t2 ++ (t3 ++ (t4))))) ((t3 ++ (t4)) ++ (t0 ++ (t1 ++ (t2)))) := ((((List.Perm.append_left _ ((List.Perm.append_left _ ((List.Perm.append_left _ (List.perm_append_comm)).trans (List.perm_append_comm_assoc _ _ _))).trans (List.perm_append_comm_assoc _ _ _))).trans (List.perm_append_comm_assoc _ _ _)).trans ((List.Perm.append_left _ ((List.Perm.append_left _ ((List.Perm.append_left _ (List.perm_append_comm)).trans (List.perm_append_comm_assoc _ _ _))).trans (List.perm_append_comm_assoc _ _ _))).trans (List.perm_append_comm_assoc _ _ _))).trans (List.Perm.of_eq (by simp only [List.append_assoc])))
theorem cj_5_4 (t0 t1 t2 t3 t4 : va_W) : List.Perm (α := Nat × va_E) (t0 ++ (t1 ++ (t2 ++ (t3 ++ (t4))))) ((t4) ++ (t0 ++ (t1 ++ (t2 ++ (t3))))) := ((List.Perm.append_left _ ((List.Perm.append_left _ ((List.Perm.append_left _ (List.perm_append_comm)).trans (List.perm_append_comm_assoc _ _ _))).trans (List.perm_append_comm_assoc _ _ _))).trans (List.perm_append_comm_assoc _ _ _))
theorem cj_6_0_2 (t0 t1 t2 t3 t4 t5 : va_W) : List.Perm (α := Nat × va_E) (t0 ++ (t1 ++ (t2 ++ (t3 ++ (t4 ++ (t5)))))) ((t0 ++ (t2)) ++ (t1 ++ (t3 ++ (t4 ++ (t5))))) := ((((List.Perm.append_left _ (List.perm_append_comm_assoc _ _ _)).trans (List.perm_append_comm_assoc _ _ _)).trans (List.perm_append_comm_assoc _ _ _)).trans (List.Perm.of_eq (by simp only [List.append_assoc])))
theorem cj_6_0_2_3_4_5 (t0 t1 t2 t3 t4 t5 : va_W) : List.Perm (α := Nat × va_E) (t0 ++ (t1 ++ (t2 ++ (t3 ++ (t4 ++ (t5)))))) ((t0 ++ (t2 ++ (t3 ++ (t4 ++ (t5))))) ++ (t1)) := (((((((List.Perm.append_left _ ((List.Perm.append_left _ ((List.Perm.append_left _ ((List.Perm.append_left _ (List.perm_append_comm)).trans (List.perm_append_comm_assoc _ _ _))).trans (List.perm_append_comm_assoc _ _ _))).trans (List.perm_append_comm_assoc _ _ _))).trans (List.perm_append_comm_assoc _ _ _)).trans ((List.Perm.append_left _ ((List.Perm.append_left _ ((List.Perm.append_left _ ((List.Perm.append_left _ (List.perm_append_comm)).trans (List.perm_append_comm_assoc _ _ _))).trans (List.perm_append_comm_assoc _ _ _))).trans (List.perm_append_comm_assoc _ _ _))).trans (List.perm_append_comm_assoc _ _ _))).trans ((List.Perm.append_left _ ((List.Perm.append_left _ ((List.Perm.append_left _ ((List.Perm.append_left _ (List.perm_append_comm)).trans (List.perm_append_comm_assoc _ _ _))).trans (List.perm_append_comm_assoc _ _ _))).trans (List.perm_append_comm_assoc _ _ _))).trans (List.perm_append_comm_assoc _ _ _))).trans ((List.Perm.append_left _ ((List.Perm.append_left _ ((List.Perm.append_left _ ((List.Perm.append_left _ (List.perm_append_comm)).trans (List.perm_append_comm_assoc _ _ _))).trans (List.perm_append_comm_assoc _ _ _))).trans (List.perm_append_comm_assoc _ _ _))).trans (List.perm_append_comm_assoc _ _ _))).trans ((List.Perm.append_left _ ((List.Perm.append_left _ ((List.Perm.append_left _ (List.perm_append_comm_assoc _ _ _)).trans (List.perm_append_comm_assoc _ _ _))).trans (List.perm_append_comm_assoc _ _ _))).trans (List.perm_append_comm_assoc _ _ _))).trans (List.Perm.of_eq (by simp only [List.append_assoc])))
theorem cj_6_0_3 (t0 t1 t2 t3 t4 t5 : va_W) : List.Perm (α := Nat × va_E) (t0 ++ (t1 ++ (t2 ++ (t3 ++ (t4 ++ (t5)))))) ((t0 ++ (t3)) ++ (t1 ++ (t2 ++ (t4 ++ (t5))))) := ((((List.Perm.append_left _ ((List.Perm.append_left _ (List.perm_append_comm_assoc _ _ _)).trans (List.perm_append_comm_assoc _ _ _))).trans (List.perm_append_comm_assoc _ _ _)).trans (List.perm_append_comm_assoc _ _ _)).trans (List.Perm.of_eq (by simp only [List.append_assoc])))
theorem cj_6_1_2_3_4_5 (t0 t1 t2 t3 t4 t5 : va_W) : List.Perm (α := Nat × va_E) (t0 ++ (t1 ++ (t2 ++ (t3 ++ (t4 ++ (t5)))))) ((t1 ++ (t2 ++ (t3 ++ (t4 ++ (t5))))) ++ (t0)) := (((((((List.Perm.append_left _ ((List.Perm.append_left _ ((List.Perm.append_left _ ((List.Perm.append_left _ (List.perm_append_comm)).trans (List.perm_append_comm_assoc _ _ _))).trans (List.perm_append_comm_assoc _ _ _))).trans (List.perm_append_comm_assoc _ _ _))).trans (List.perm_append_comm_assoc _ _ _)).trans ((List.Perm.append_left _ ((List.Perm.append_left _ ((List.Perm.append_left _ ((List.Perm.append_left _ (List.perm_append_comm)).trans (List.perm_append_comm_assoc _ _ _))).trans (List.perm_append_comm_assoc _ _ _))).trans (List.perm_append_comm_assoc _ _ _))).trans (List.perm_append_comm_assoc _ _ _))).trans ((List.Perm.append_left _ ((List.Perm.append_left _ ((List.Perm.append_left _ ((List.Perm.append_left _ (List.perm_append_comm)).trans (List.perm_append_comm_assoc _ _ _))).trans (List.perm_append_comm_assoc _ _ _))).trans (List.perm_append_comm_assoc _ _ _))).trans (List.perm_append_comm_assoc _ _ _))).trans ((List.Perm.append_left _ ((List.Perm.append_left _ ((List.Perm.append_left _ ((List.Perm.append_left _ (List.perm_append_comm)).trans (List.perm_append_comm_assoc _ _ _))).trans (List.perm_append_comm_assoc _ _ _))).trans (List.perm_append_comm_assoc _ _ _))).trans (List.perm_append_comm_assoc _ _ _))).trans ((List.Perm.append_left _ ((List.Perm.append_left _ ((List.Perm.append_left _ ((List.Perm.append_left _ (List.perm_append_comm)).trans (List.perm_append_comm_assoc _ _ _))).trans (List.perm_append_comm_assoc _ _ _))).trans (List.perm_append_comm_assoc _ _ _))).trans (List.perm_append_comm_assoc _ _ _))).trans (List.Perm.of_eq (by simp only [List.append_assoc])))
theorem cj_6_2 (t0 t1 t2 t3 t4 t5 : va_W) : List.Perm (α := Nat × va_E) (t0 ++ (t1 ++ (t2 ++ (t3 ++ (t4 ++ (t5)))))) ((t2) ++ (t0 ++ (t1 ++ (t3 ++ (t4 ++ (t5)))))) := ((List.Perm.append_left _ (List.perm_append_comm_assoc _ _ _)).trans (List.perm_append_comm_assoc _ _ _))
theorem cj_6_3 (t0 t1 t2 t3 t4 t5 : va_W) : List.Perm (α := Nat × va_E) (t0 ++ (t1 ++ (t2 ++ (t3 ++ (t4 ++ (t5)))))) ((t3) ++ (t0 ++ (t1 ++ (t2 ++ (t4 ++ (t5)))))) := ((List.Perm.append_left _ ((List.Perm.append_left _ (List.perm_append_comm_assoc _ _ _)).trans (List.perm_append_comm_assoc _ _ _))).trans (List.perm_append_comm_assoc _ _ _))
theorem cj_6_3_2_4_5 (t0 t1 t2 t3 t4 t5 : va_W) : List.Perm (α := Nat × va_E) (t0 ++ (t1 ++ (t2 ++ (t3 ++ (t4 ++ (t5)))))) ((t3 ++ (t2 ++ (t4 ++ (t5)))) ++ (t0 ++ (t1))) := ((((((List.Perm.append_left _ ((List.Perm.append_left _ ((List.Perm.append_left _ ((List.Perm.append_left _ (List.perm_append_comm)).trans (List.perm_append_comm_assoc _ _ _))).trans (List.perm_append_comm_assoc _ _ _))).trans (List.perm_append_comm_assoc _ _ _))).trans (List.perm_append_comm_assoc _ _ _)).trans ((List.Perm.append_left _ ((List.Perm.append_left _ ((List.Perm.append_left _ ((List.Perm.append_left _ (List.perm_append_comm)).trans (List.perm_append_comm_assoc _ _ _))).trans (List.perm_append_comm_assoc _ _ _))).trans (List.perm_append_comm_assoc _ _ _))).trans (List.perm_append_comm_assoc _ _ _))).trans ((List.Perm.append_left _ ((List.Perm.append_left _ ((List.Perm.append_left _ (List.perm_append_comm_assoc _ _ _)).trans (List.perm_append_comm_assoc _ _ _))).trans (List.perm_append_comm_assoc _ _ _))).trans (List.perm_append_comm_assoc _ _ _))).trans ((List.Perm.append_left _ ((List.Perm.append_left _ ((List.Perm.append_left _ ((List.Perm.append_left _ (List.perm_append_comm)).trans (List.perm_append_comm_assoc _ _ _))).trans (List.perm_append_comm_assoc _ _ _))).trans (List.perm_append_comm_assoc _ _ _))).trans (List.perm_append_comm_assoc _ _ _))).trans (List.Perm.of_eq (by simp only [List.append_assoc])))
theorem cj_6_3_4_5_1_2 (t0 t1 t2 t3 t4 t5 : va_W) : List.Perm (α := Nat × va_E) (t0 ++ (t1 ++ (t2 ++ (t3 ++ (t4 ++ (t5)))))) ((t3 ++ (t4 ++ (t5 ++ (t1 ++ (t2))))) ++ (t0)) := (((((((List.Perm.append_left _ (List.perm_append_comm_assoc _ _ _)).trans (List.perm_append_comm_assoc _ _ _)).trans ((List.Perm.append_left _ (List.perm_append_comm_assoc _ _ _)).trans (List.perm_append_comm_assoc _ _ _))).trans ((List.Perm.append_left _ ((List.Perm.append_left _ ((List.Perm.append_left _ ((List.Perm.append_left _ (List.perm_append_comm)).trans (List.perm_append_comm_assoc _ _ _))).trans (List.perm_append_comm_assoc _ _ _))).trans (List.perm_append_comm_assoc _ _ _))).trans (List.perm_append_comm_assoc _ _ _))).trans ((List.Perm.append_left _ ((List.Perm.append_left _ ((List.Perm.append_left _ ((List.Perm.append_left _ (List.perm_append_comm)).trans (List.perm_append_comm_assoc _ _ _))).trans (List.perm_append_comm_assoc _ _ _))).trans (List.perm_append_comm_assoc _ _ _))).trans (List.perm_append_comm_assoc _ _ _))).trans ((List.Perm.append_left _ ((List.Perm.append_left _ ((List.Perm.append_left _ ((List.Perm.append_left _ (List.perm_append_comm)).trans (List.perm_append_comm_assoc _ _ _))).trans (List.perm_append_comm_assoc _ _ _))).trans (List.perm_append_comm_assoc _ _ _))).trans (List.perm_append_comm_assoc _ _ _))).trans (List.Perm.of_eq (by simp only [List.append_assoc])))
theorem cj_6_4_2_1_3_5 (t0 t1 t2 t3 t4 t5 : va_W) : List.Perm (α := Nat × va_E) (t0 ++ (t1 ++ (t2 ++ (t3 ++ (t4 ++ (t5)))))) ((t4 ++ (t2 ++ (t1 ++ (t3 ++ (t5))))) ++ (t0)) := (((((((List.Perm.append_left _ ((List.Perm.append_left _ ((List.Perm.append_left _ ((List.Perm.append_left _ (List.perm_append_comm)).trans (List.perm_append_comm_assoc _ _ _))).trans (List.perm_append_comm_assoc _ _ _))).trans (List.perm_append_comm_assoc _ _ _))).trans (List.perm_append_comm_assoc _ _ _)).trans ((List.Perm.append_left _ ((List.Perm.append_left _ ((List.Perm.append_left _ (List.perm_append_comm_assoc _ _ _)).trans (List.perm_append_comm_assoc _ _ _))).trans (List.perm_append_comm_assoc _ _ _))).trans (List.perm_append_comm_assoc _ _ _))).trans ((List.Perm.append_left _ ((List.Perm.append_left _ (List.perm_append_comm_assoc _ _ _)).trans (List.perm_append_comm_assoc _ _ _))).trans (List.perm_append_comm_assoc _ _ _))).trans ((List.Perm.append_left _ ((List.Perm.append_left _ ((List.Perm.append_left _ (List.perm_append_comm_assoc _ _ _)).trans (List.perm_append_comm_assoc _ _ _))).trans (List.perm_append_comm_assoc _ _ _))).trans (List.perm_append_comm_assoc _ _ _))).trans ((List.Perm.append_left _ ((List.Perm.append_left _ ((List.Perm.append_left _ ((List.Perm.append_left _ (List.perm_append_comm)).trans (List.perm_append_comm_assoc _ _ _))).trans (List.perm_append_comm_assoc _ _ _))).trans (List.perm_append_comm_assoc _ _ _))).trans (List.perm_append_comm_assoc _ _ _))).trans (List.Perm.of_eq (by simp only [List.append_assoc])))
theorem cj_7_2 (t0 t1 t2 t3 t4 t5 t6 : va_W) : List.Perm (α := Nat × va_E) (t0 ++ (t1 ++ (t2 ++ (t3 ++ (t4 ++ (t5 ++ (t6))))))) ((t2) ++ (t0 ++ (t1 ++ (t3 ++ (t4 ++ (t5 ++ (t6))))))) := ((List.Perm.append_left _ (List.perm_append_comm_assoc _ _ _)).trans (List.perm_append_comm_assoc _ _ _))
theorem cj_7_3_2_4_6 (t0 t1 t2 t3 t4 t5 t6 : va_W) : List.Perm (α := Nat × va_E) (t0 ++ (t1 ++ (t2 ++ (t3 ++ (t4 ++ (t5 ++ (t6))))))) ((t3 ++ (t2 ++ (t4 ++ (t6)))) ++ (t0 ++ (t1 ++ (t5)))) := ((((((List.Perm.append_left _ ((List.Perm.append_left _ ((List.Perm.append_left _ ((List.Perm.append_left _ ((List.Perm.append_left _ (List.perm_append_comm)).trans (List.perm_append_comm_assoc _ _ _))).trans (List.perm_append_comm_assoc _ _ _))).trans (List.perm_append_comm_assoc _ _ _))).trans (List.perm_append_comm_assoc _ _ _))).trans (List.perm_append_comm_assoc _ _ _)).trans ((List.Perm.append_left _ ((List.Perm.append_left _ ((List.Perm.append_left _ ((List.Perm.append_left _ (List.perm_append_comm_assoc _ _ _)).trans (List.perm_append_comm_assoc _ _ _))).trans (List.perm_append_comm_assoc _ _ _))).trans (List.perm_append_comm_assoc _ _ _))).trans (List.perm_append_comm_assoc _ _ _))).trans ((List.Perm.append_left _ ((List.Perm.append_left _ ((List.Perm.append_left _ (List.perm_append_comm_assoc _ _ _)).trans (List.perm_append_comm_assoc _ _ _))).trans (List.perm_append_comm_assoc _ _ _))).trans (List.perm_append_comm_assoc _ _ _))).trans ((List.Perm.append_left _ ((List.Perm.append_left _ ((List.Perm.append_left _ ((List.Perm.append_left _ (List.perm_append_comm_assoc _ _ _)).trans (List.perm_append_comm_assoc _ _ _))).trans (List.perm_append_comm_assoc _ _ _))).trans (List.perm_append_comm_assoc _ _ _))).trans (List.perm_append_comm_assoc _ _ _))).trans (List.Perm.of_eq (by simp only [List.append_assoc])))
theorem cj_7_5_3_2_4_6 (t0 t1 t2 t3 t4 t5 t6 : va_W) : List.Perm (α := Nat × va_E) (t0 ++ (t1 ++ (t2 ++ (t3 ++ (t4 ++ (t5 ++ (t6))))))) ((t5 ++ (t3 ++ (t2 ++ (t4 ++ (t6))))) ++ (t0 ++ (t1))) := (((((((List.Perm.append_left _ ((List.Perm.append_left _ ((List.Perm.append_left _ ((List.Perm.append_left _ ((List.Perm.append_left _ (List.perm_append_comm)).trans (List.perm_append_comm_assoc _ _ _))).trans (List.perm_append_comm_assoc _ _ _))).trans (List.perm_append_comm_assoc _ _ _))).trans (List.perm_append_comm_assoc _ _ _))).trans (List.perm_append_comm_assoc _ _ _)).trans ((List.Perm.append_left _ ((List.Perm.append_left _ ((List.Perm.append_left _ ((List.Perm.append_left _ (List.perm_append_comm_assoc _ _ _)).trans (List.perm_append_comm_assoc _ _ _))).trans (List.perm_append_comm_assoc _ _ _))).trans (List.perm_append_comm_assoc _ _ _))).trans (List.perm_append_comm_assoc _ _ _))).trans ((List.Perm.append_left _ ((List.Perm.append_left _ ((List.Perm.append_left _ (List.perm_append_comm_assoc _ _ _)).trans (List.perm_append_comm_assoc _ _ _))).trans (List.perm_append_comm_assoc _ _ _))).trans (List.perm_append_comm_assoc _ _ _))).trans ((List.Perm.append_left _ ((List.Perm.append_left _ ((List.Perm.append_left _ ((List.Perm.append_left _ (List.perm_append_comm_assoc _ _ _)).trans (List.perm_append_comm_assoc _ _ _))).trans (List.perm_append_comm_assoc _ _ _))).trans (List.perm_append_comm_assoc _ _ _))).trans (List.perm_append_comm_assoc _ _ _))).trans ((List.Perm.append_left _ ((List.Perm.append_left _ ((List.Perm.append_left _ ((List.Perm.append_left _ ((List.Perm.append_left _ (List.perm_append_comm)).trans (List.perm_append_comm_assoc _ _ _))).trans (List.perm_append_comm_assoc _ _ _))).trans (List.perm_append_comm_assoc _ _ _))).trans (List.perm_append_comm_assoc _ _ _))).trans (List.perm_append_comm_assoc _ _ _))).trans (List.Perm.of_eq (by simp only [List.append_assoc])))
theorem cj_9_2 (t0 t1 t2 t3 t4 t5 t6 t7 t8 : va_W) : List.Perm (α := Nat × va_E) (t0 ++ (t1 ++ (t2 ++ (t3 ++ (t4 ++ (t5 ++ (t6 ++ (t7 ++ (t8))))))))) ((t2) ++ (t0 ++ (t1 ++ (t3 ++ (t4 ++ (t5 ++ (t6 ++ (t7 ++ (t8))))))))) := ((List.Perm.append_left _ (List.perm_append_comm_assoc _ _ _)).trans (List.perm_append_comm_assoc _ _ _))
theorem cj_9_3_4_5_1_2 (t0 t1 t2 t3 t4 t5 t6 t7 t8 : va_W) : List.Perm (α := Nat × va_E) (t0 ++ (t1 ++ (t2 ++ (t3 ++ (t4 ++ (t5 ++ (t6 ++ (t7 ++ (t8))))))))) ((t3 ++ (t4 ++ (t5 ++ (t1 ++ (t2))))) ++ (t0 ++ (t6 ++ (t7 ++ (t8))))) := (((((((List.Perm.append_left _ (List.perm_append_comm_assoc _ _ _)).trans (List.perm_append_comm_assoc _ _ _)).trans ((List.Perm.append_left _ (List.perm_append_comm_assoc _ _ _)).trans (List.perm_append_comm_assoc _ _ _))).trans ((List.Perm.append_left _ ((List.Perm.append_left _ ((List.Perm.append_left _ ((List.Perm.append_left _ (List.perm_append_comm_assoc _ _ _)).trans (List.perm_append_comm_assoc _ _ _))).trans (List.perm_append_comm_assoc _ _ _))).trans (List.perm_append_comm_assoc _ _ _))).trans (List.perm_append_comm_assoc _ _ _))).trans ((List.Perm.append_left _ ((List.Perm.append_left _ ((List.Perm.append_left _ ((List.Perm.append_left _ (List.perm_append_comm_assoc _ _ _)).trans (List.perm_append_comm_assoc _ _ _))).trans (List.perm_append_comm_assoc _ _ _))).trans (List.perm_append_comm_assoc _ _ _))).trans (List.perm_append_comm_assoc _ _ _))).trans ((List.Perm.append_left _ ((List.Perm.append_left _ ((List.Perm.append_left _ ((List.Perm.append_left _ (List.perm_append_comm_assoc _ _ _)).trans (List.perm_append_comm_assoc _ _ _))).trans (List.perm_append_comm_assoc _ _ _))).trans (List.perm_append_comm_assoc _ _ _))).trans (List.perm_append_comm_assoc _ _ _))).trans (List.Perm.of_eq (by simp only [List.append_assoc])))
theorem cj_9_6_2_7_8 (t0 t1 t2 t3 t4 t5 t6 t7 t8 : va_W) : List.Perm (α := Nat × va_E) (t0 ++ (t1 ++ (t2 ++ (t3 ++ (t4 ++ (t5 ++ (t6 ++ (t7 ++ (t8))))))))) ((t6 ++ (t2 ++ (t7 ++ (t8)))) ++ (t0 ++ (t1 ++ (t3 ++ (t4 ++ (t5)))))) := ((((((List.Perm.append_left _ ((List.Perm.append_left _ ((List.Perm.append_left _ ((List.Perm.append_left _ ((List.Perm.append_left _ ((List.Perm.append_left _ ((List.Perm.append_left _ (List.perm_append_comm)).trans (List.perm_append_comm_assoc _ _ _))).trans (List.perm_append_comm_assoc _ _ _))).trans (List.perm_append_comm_assoc _ _ _))).trans (List.perm_append_comm_assoc _ _ _))).trans (List.perm_append_comm_assoc _ _ _))).trans (List.perm_append_comm_assoc _ _ _))).trans (List.perm_append_comm_assoc _ _ _)).trans ((List.Perm.append_left _ ((List.Perm.append_left _ ((List.Perm.append_left _ ((List.Perm.append_left _ ((List.Perm.append_left _ ((List.Perm.append_left _ ((List.Perm.append_left _ (List.perm_append_comm)).trans (List.perm_append_comm_assoc _ _ _))).trans (List.perm_append_comm_assoc _ _ _))).trans (List.perm_append_comm_assoc _ _ _))).trans (List.perm_append_comm_assoc _ _ _))).trans (List.perm_append_comm_assoc _ _ _))).trans (List.perm_append_comm_assoc _ _ _))).trans (List.perm_append_comm_assoc _ _ _))).trans ((List.Perm.append_left _ ((List.Perm.append_left _ ((List.Perm.append_left _ (List.perm_append_comm_assoc _ _ _)).trans (List.perm_append_comm_assoc _ _ _))).trans (List.perm_append_comm_assoc _ _ _))).trans (List.perm_append_comm_assoc _ _ _))).trans ((List.Perm.append_left _ ((List.Perm.append_left _ ((List.Perm.append_left _ ((List.Perm.append_left _ ((List.Perm.append_left _ ((List.Perm.append_left _ ((List.Perm.append_left _ (List.perm_append_comm)).trans (List.perm_append_comm_assoc _ _ _))).trans (List.perm_append_comm_assoc _ _ _))).trans (List.perm_append_comm_assoc _ _ _))).trans (List.perm_append_comm_assoc _ _ _))).trans (List.perm_append_comm_assoc _ _ _))).trans (List.perm_append_comm_assoc _ _ _))).trans (List.perm_append_comm_assoc _ _ _))).trans (List.Perm.of_eq (by simp only [List.append_assoc])))
end
section
/-! how many cells and slots were made: the heap shows it -/
def nS (n : Nat) (H : Heap) : Nat := ((H.toList.drop n).map (·.slots.size)).sum
theorem W.known {p : Program} {l : Launch} {e : Env} {R : Room} {s : State} {m : MethodId} {args : Array Value} {below : List Frame} {meth : Method} {c : Code} {H : Heap} {locs : List Loc} {cells slots : Nat} {Q : State → Prop} {g : JFrame}
    (k : H.size ≤ s.heap.size + cells → nS s.heap.size H ≤ slots → W p l e R s m args below meth c H locs cells slots Q g) : W p l e R s m args below meth c H locs cells slots Q g := fun T hT X => by
  have h := X.same
  have e1 : (T.setVm s.vm).heap = H := hT
  exact k (by rw [← e1]; exact h.2.2.1) (by unfold nS; rw [← e1]; exact h.2.2.2.2.1) T hT X
theorem W.tight {p : Program} {l : Launch} {e : Env} {R : Room} {s : State} {m : MethodId} {args : Array Value} {below : List Frame} {meth : Method} {c : Code} {H : Heap} {locs : List Loc} {cells slots cells2 slots2 : Nat} {Q : State → Prop} {g : JFrame}
    (h1 : H.size ≤ s.heap.size + cells2) (h2 : nS s.heap.size H ≤ slots2) (k : W p l e R s m args below meth c H locs cells2 slots2 Q g) : W p l e R s m args below meth c H locs cells slots Q g := fun T hT X => by
  have e1 : (T.setVm s.vm).heap = H := hT
  have h := X.same
  exact k T hT { X with same := ⟨h.1, h.2.1, by rw [e1]; exact h1, h.2.2.2.1, by rw [e1]; exact h2, h.2.2.2.2.2⟩ }
end
section
/-- cells keep their sizes over a call -/
def SzK (H0 H1 : Heap) : Prop := H0.size ≤ H1.size ∧ ∀ (a : Nat) (c : Cell), H0[a]? = some c → ∃ c', H1[a]? = some c' ∧ c'.slots.size = c.slots.size
theorem SzK.of {s t : State} {o : Outcome} {L : List Loc} {k n : Nat} (h : FrameEnd s o t L k n) : SzK s.heap t.heap := by
  obtain ⟨_, _, h1, h2, h3, h4, h5, h6⟩ := h
  exact ⟨h2, fun a c hc => by obtain ⟨c', e1, e2, e3, _⟩ := h6 a c hc; exact ⟨c', e1, e3⟩⟩
theorem Met.szV {l : Launch} {y : MethodName} {ws : List Cond} {rm : Room} {av : List Value} {P0 : State → Prop} {mc ms : Nat} {fr : Addr → Prop} {S : Type} {φ : S → Prop} {B : S → State → Prop} {A : Nat → Prop} {H0 : Heap} (h : Met l y ws rm (va_Pc av P0) (va_Qv φ B A) mc ms fr) (hH : ∀ U, P0 U → U.heap = H0) : Met l y ws rm (va_Pc av P0) (va_Qv φ (fun u t => B u t ∧ SzK H0 t.heap) A) mc ms fr := by
  intro p e h1 h2 h3 s m args below hf ha hP hK
  obtain ⟨n, o, q1, q2, q3, ⟨⟨u, q4, q5, q6⟩, q7⟩, q8⟩ := h p e h1 h2 h3 s m args below hf ha hP hK
  obtain ⟨L, q9, _⟩ := id q8
  exact ⟨n, o, q1, q2, q3, ⟨⟨u, q4, q5, q6, by rw [← hH s hP.2]; exact SzK.of q9⟩, q7⟩, q8⟩
theorem nS_split {n k : Nat} {H H1 : Heap} (h : SzK H H1) (hn : n ≤ H.size) : nS n H1 = nS n H + nS H.size H1 := by
  have key : ∀ d, d + n = H.size → nS n H1 = nS n H + nS H.size H1 := by
    intro d hd
    have e1 : H1.toList.drop n = (H1.toList.take H.size).drop n ++ H1.toList.drop H.size := by
      have h9 : H1.toList = H1.toList.take H.size ++ H1.toList.drop H.size := (List.take_append_drop _ _).symm
      conv => lhs; rw [h9]
      rw [List.drop_append_of_le_length (by rw [List.length_take]; have := h.1; simp; omega)]
    unfold nS
    rw [e1, List.map_append, List.sum_append]
    congr 2
    apply List.ext_getElem?
    intro i
    rw [List.getElem?_map, List.getElem?_map, List.getElem?_drop, List.getElem?_drop, List.getElem?_take]
    by_cases hi : n + i < H.size
    · rw [if_pos hi]
      have h8 : H[n + i]? = some H[n + i] := Array.getElem?_eq_getElem hi
      obtain ⟨c', c1, c2⟩ := h.2 (n + i) _ h8
      rw [Array.getElem?_toList, Array.getElem?_toList, c1, h8]
      simp [c2]
    · rw [if_neg hi, Array.getElem?_toList, Array.getElem?_eq_none (by omega)]
  exact key (H.size - n) (by omega)
theorem nS_0 {n : Nat} {H : Heap} {k : Nat} (h : H.size ≤ n + 0) : nS n H ≤ k := by
  unfold nS
  rw [List.drop_eq_nil_of_le (by simpa using h)]
  exact Nat.zero_le _
theorem lk_ne {x k : Int32} {a : Int} (h : ¬ x = k) (hk : k.toInt = a) : ¬ a = x.toInt := fun q => lv_neT h hk q.symm
/-- a fact that is only handed on (omega does not look into it) -/
def HidP (p : Prop) : Prop := p
theorem hidP {p : Prop} (h : p) : HidP p := h
end
section
/-! Integer.bitCount -/
def tbcU (x y : Int32) : Int32 := ((x).toUInt32 >>> ((y).toUInt32 &&& Int32.toUInt32 31)).toInt32
def tbc1 (x : Int32) : Int32 := x - (tbcU x 1 &&& (1431655765 : Int32))
def tbc2 (x : Int32) : Int32 := (tbc1 x &&& (858993459 : Int32)) + (tbcU (tbc1 x) 2 &&& (858993459 : Int32))
def tbc3 (x : Int32) : Int32 := (tbc2 x + tbcU (tbc2 x) 4) &&& (252645135 : Int32)
def tbc4 (x : Int32) : Int32 := tbc3 x + tbcU (tbc3 x) 8
def tbc5 (x : Int32) : Int32 := tbc4 x + tbcU (tbc4 x) 16
def tbcF (x : Int32) : Int32 := tbc5 x &&& (63 : Int32)
theorem tbc_all : ((List.range 4096).all (fun x => decide (tbcF (nI x) = nI (cnt x 12)))) = true := by decide +kernel
theorem tbc_t {x : Int32} (h0 : 0 ≤ x.toInt) (h1 : x.toInt ≤ 4095) : (tbcF x).toInt = (cntB (bI x) 12 : Int) := by
  obtain ⟨n, hn, e⟩ := of_toInt (x := x) (k := 4096) h0 (by omega)
  have h2 : tbcF (nI n) = nI (cnt n 12) := of_decide_eq_true (List.all_eq_true.mp tbc_all n (List.mem_range.mpr hn))
  have h3 := cnt_le n 12
  rw [e, h2, nI_toInt (by omega), cnt_B (Nat.le_refl _)]
end
section
def WY (hY : Nat → Nat) (aY : Nat → Nat) (kY : Nat → ClassId) (nY : Nat) (fY : Nat → Int32) : va_W := [(aY 0, .inl (kY 0, nY, .inl fY))]
def tY (kY : Nat → ClassId) : List (ClassId × FieldType) := [(kY 0, .int)]
def WZ (hZ : Nat → Nat) (aZ : Nat → Nat) (kZ : Nat → ClassId) (nZ : Nat) (gZ : Nat → Int64) : va_W := [(aZ 0, .inl (kZ 0, nZ, .inr (.inl gZ)))]
def tZ (kZ : Nat → ClassId) : List (ClassId × FieldType) := [(kZ 0, .long)]
theorem gdwsX00 : wsX00.all goodWord = true := by decide +kernel
theorem gdwsX10 : wsX10.all goodWord = true := by decide +kernel
theorem gdwsX20 : wsX20.all goodWord = true := by decide +kernel
theorem gdwsX30 : wsX30.all goodWord = true := by decide +kernel
theorem gdwsX40 : wsX40.all goodWord = true := by decide +kernel
theorem gdwsX50 : wsX50.all goodWord = true := by decide +kernel
theorem gdwsX60 : wsX60.all goodWord = true := by decide +kernel
theorem gdwsX70 : wsX70.all goodWord = true := by decide +kernel
theorem gdwsX80 : wsX80.all goodWord = true := by decide +kernel
theorem gdwsX90 : wsX90.all goodWord = true := by decide +kernel
theorem gdwsX100 : wsX100.all goodWord = true := by decide +kernel
theorem gdwsX110 : wsX110.all goodWord = true := by decide +kernel
theorem dJ7_fill_53178_0 : decode cJ7_fill_53178 0 = .ok (.iconst 0, 1) := dk_3 (by decide +kernel)
theorem dJ7_fill_53178_1 : decode cJ7_fill_53178 1 = .ok (.istore_n 2, 1) := dk_61 (by decide +kernel)
theorem dJ7_fill_53178_2 : decode cJ7_fill_53178 2 = .ok (.aload_n 0, 1) := dk_42 (by decide +kernel)
theorem dJ7_fill_53178_3 : decode cJ7_fill_53178 3 = .ok (.arraylength, 1) := dk_190 (by decide +kernel)
theorem dJ7_fill_53178_4 : decode cJ7_fill_53178 4 = .ok (.istore_n 3, 1) := dk_62 (by decide +kernel)
theorem dJ7_fill_53178_5 : decode cJ7_fill_53178 5 = .ok (.iload_n 2, 1) := dk_28 (by decide +kernel)
theorem dJ7_fill_53178_6 : decode cJ7_fill_53178 6 = .ok (.iload_n 3, 1) := dk_29 (by decide +kernel)
theorem dJ7_fill_53178_7 : decode cJ7_fill_53178 7 = .ok (.if_icmp .ge 13, 3) := dk_162 (by decide +kernel)
theorem dJ7_fill_53178_10 : decode cJ7_fill_53178 10 = .ok (.aload_n 0, 1) := dk_42 (by decide +kernel)
theorem dJ7_fill_53178_11 : decode cJ7_fill_53178 11 = .ok (.iload_n 2, 1) := dk_28 (by decide +kernel)
theorem dJ7_fill_53178_12 : decode cJ7_fill_53178 12 = .ok (.iload_n 1, 1) := dk_27 (by decide +kernel)
theorem dJ7_fill_53178_13 : decode cJ7_fill_53178 13 = .ok (.iastore, 1) := dk_79 (by decide +kernel)
theorem dJ7_fill_53178_14 : decode cJ7_fill_53178 14 = .ok (.iinc 2 1, 3) := dk_132 (by decide +kernel)
theorem dJ7_fill_53178_17 : decode cJ7_fill_53178 17 = .ok (.goto (-12), 3) := dk_167 (by decide +kernel)
theorem dJ7_fill_53178_20 : decode cJ7_fill_53178 20 = .ok (.return_, 1) := dk_177 (by decide +kernel)
def wsMJ7_fill_53178 : List Cond := .code yJ7_fill_53178 cJ7_fill_53178 4 none :: ([])
theorem gdwsMJ7_fill_53178 : wsMJ7_fill_53178.all goodWord = true := gdC rfl (by decide +kernel : ([] : List Cond).all goodWord = true)
set_option maxHeartbeats 4000000 in
set_option maxRecDepth 100000 in
/-- Arrays.fill of ints -/
theorem m_J7_fill_53178 (l : Launch) (dC : Nat → ClassId) (dI : Nat → Nat → Nat) (hY : Nat → Nat) (aY : Nat → Nat) (kY : Nat → ClassId) (nY : Nat) (fY : Nat → Int32) (xv : Int32) (b_nY : 0 ≤ nY ∧ nY ≤ 1000000) (sz : Nat) : Met l yJ7_fill_53178 wsMJ7_fill_53178 ({ frames := 0, cells := 0, slots := 0, locals := 0 }) (va_Pc [.ref (aY 0), .int xv] (fun U => U.heap.size = sz ∧ va_P (dC, dI) vwCl (WY hY aY kY nY fY) U.heap ∧ va_K (dC, dI) vwCl (tY kY) U ∧ va_D (fun _ => True) (WY hY aY kY nY fY))) (va_Qv (fun (u : Nat → Int32) => (∀ q : Nat, q < nY → u q = xv)) (fun (u : Nat → Int32) t => va_P (dC, dI) vwCl (WY hY aY kY nY u) t.heap ∧ va_D (va_A (WY hY aY kY nY fY) sz) (WY hY aY kY nY u)) (va_A (WY hY aY kY nY fY) sz)) 0 0 (va_A (WY hY aY kY nY fY) sz) := by
  refine Met.ofW (cc := cJ7_fill_53178) (maxL := 4) (ret := none) (by decide) rfl ?_
  intro p e s m args below meth c s₁ B hml hv
  obtain ⟨rfl, hsz, hP, hK, hD0⟩ := hv
  have hx := B.exec
  have hb := B.bytes
  have hr := B.returns
  have hts := atoms_spec (ws := wsMJ7_fill_53178) B.pre
  have hown : s.vm.findClass RJ7 = some m.cls := findClass_of_methodNamed B.named
  have hlocks := B.notSynchronized
  subst hsz
  have hD := hD0.self (sz := s.heap.size)
  generalize hAe : va_A (WY hY aY kY nY fY) s.heap.size = A at hD ⊢
  have hA : ∀ q : Nat, s.heap.size ≤ q → A q := fun q h => by rw [← hAe]; exact Or.inr h
  have hS : va_S A s.heap s.heap [] := va_S.rf
  have hl := lv_entry ([.ref (aY 0), .int xv]) (n := 4) (Nat.le_of_ble_eq_true rfl)
  rw [lg_entry_eq]
  generalize (lg_sl ([.ref (aY 0), .int xv]) ++ List.replicate (4 - (lg_sl ([.ref (aY 0), .int xv])).length) Slot.unset).toArray = ls at hl ⊢
  have hl : lv_has ls 4 [(0, .ref (aY 0)), (1, .int xv)] := hl
  refine lv_iconst (v := 0) hx hb dJ7_fill_53178_0 (by decide) ?_
  refine lv_istore_n hx hb dJ7_fill_53178_1 rfl hl (by decide) rfl (fun ls (hl : lv_has ls _ ([(2, .int 0), (0, .ref (aY 0)), (1, .int xv)])) => ?_)
  refine lv_aload_n hx hb dJ7_fill_53178_2 rfl (lv_at hl 1 rfl) ?_
  refine va_alen hx hb hK hP 0 0 rfl rfl (v := (iI ((nY : Nat) : Int))) (iI_nat _) dJ7_fill_53178_3 ?_
  refine lv_istore_n hx hb dJ7_fill_53178_4 rfl hl (by decide) rfl (fun ls (hl : lv_has ls _ ([(3, .int (iI ((nY : Nat) : Int))), (2, .int 0), (0, .ref (aY 0)), (1, .int xv)])) => ?_)
  have hl : lv_has _ _ ([(3, .int (iI ((nY : Nat) : Int))), (2, .int 0), (0, .ref (aY 0)), (1, .int xv)]) := lv_sub hl [0, 1, 2, 3] rfl
  refine (fun (loop : ∀ (n9 : Nat) (fY_x5 : Nat → Int32) (l2_x5 : Int32) (H : Heap) (locs : List Loc) (ls : Array Slot), (0 ≤ l2_x5.toInt ∧ l2_x5.toInt ≤ 1000000) → (∀ q : Nat, (q : Int) < l2_x5.toInt → fY_x5 q = xv) → (1000000 - l2_x5.toInt < ((n9 : Nat) : Int)) → va_P (dC, dI) vwCl (WY hY aY kY nY fY_x5) H → va_D A (WY hY aY kY nY fY_x5) → va_S A s.heap H locs → lv_has ls 4 [(3, .int (iI ((nY : Nat) : Int))), (2, .int l2_x5), (0, .ref (aY 0)), (1, .int xv)] → W p l e _ s m _ below meth c H locs 0 0 _ (F0 m 5 ls [])) => loop (1000001) fY 0 _ _ _ (show 0 ≤ (0 : Int32).toInt ∧ (0 : Int32).toInt ≤ 1000000 from by decide) (show ∀ q : Nat, (q : Int) < (0 : Int32).toInt → fY q = xv from fun q hq => absurd hq (by have h7 : (0 : Int32).toInt = 0 := (by decide); omega)) ((by have e9 : (0 : Int32).toInt = 0 := (by decide : (0 : Int32).toInt = 0); omega)) hP hD hS hl) ?_
  intro n9
  induction n9 with
  | zero => intro fY_x5 l2_x5 H locs ls b_l2_x5 hFl hf9; exact False.elim (by omega)
  | succ n9 ihx5 =>
    intro fY_x5 l2_x5 H locs ls b_l2_x5 hFl hfx5 hP hD hS hl
    refine lv_iload_n hx hb dJ7_fill_53178_5 rfl (lv_at hl 1 rfl) ?_
    refine lv_iload_n hx hb dJ7_fill_53178_6 rfl (lv_at hl 0 rfl) ?_
    refine lv_icmp_ge (tgt := 20) hx hb dJ7_fill_53178_7 (by decide) (fun c_7 => ?_) (fun c_7 => ?_)
    · first | (have t_7 : l2_x5.toInt ≥ ((nY : Nat) : Int) := toI_ge c_7 rfl (iI_t (by omega) (by omega))) | skip
      refine W.widen (k := 0) (n := 0) (by decide +kernel) (by decide +kernel) ?_
      exact W.vret hx hb hr (fun t9_ ht hW => ⟨⟨fY_x5, rfl, (by (try dsimp only); exact (fun q hq => hFl q (by omega))), by rw [ht]; exact hP, hD⟩, hS.F ht⟩) hS.2.2 dJ7_fill_53178_20
    · first | (have t_7 : ¬ l2_x5.toInt ≥ ((nY : Nat) : Int) := toI_nge c_7 rfl (iI_t (by omega) (by omega))) | skip
      refine lv_aload_n hx hb dJ7_fill_53178_10 rfl (lv_at hl 2 rfl) ?_
      refine lv_iload_n hx hb dJ7_fill_53178_11 rfl (lv_at hl 1 rfl) ?_
      refine lv_iload_n hx hb dJ7_fill_53178_12 rfl (lv_at hl 3 rfl) ?_
      refine va_iast (cA := kY 0) (n := nY) (f := fY_x5) hx hb hK hP hD hS 0 0 rfl rfl (vp_in_iff.mpr ⟨b_l2_x5.1, (by omega)⟩) dJ7_fill_53178_13 (fun H locs hP hD hS => ?_)
      obtain ⟨u6, hu6⟩ : ∃ f9, f9 = upd fY_x5 (l2_x5).toNatClampNeg xv := ⟨_, rfl⟩
      have hP : va_P (dC, dI) vwCl (WY hY aY kY nY u6) H := by rw [hu6]; exact hP
      have hD : va_D A (WY hY aY kY nY u6) := by rw [hu6]; exact hD
      have b_u6 : u6 = upd fY_x5 (l2_x5).toNatClampNeg xv := hu6
      clear hu6
      refine lv_iinc (v := (iI (l2_x5.toInt + 1))) hx hb dJ7_fill_53178_14 hl (k := 1) rfl (iI_add2 (iI_of _) (by decide : (1 : Int32) = iI 1)) (by decide) rfl (fun ls (hl : lv_has ls _ ([(2, .int (iI (l2_x5.toInt + 1))), (3, .int (iI ((nY : Nat) : Int))), (0, .ref (aY 0)), (1, .int xv)])) => ?_)
      refine lv_goto (tgt := 5) hx hb dJ7_fill_53178_17 (by decide) ?_
      have hl : lv_has _ _ ([(3, .int (iI ((nY : Nat) : Int))), (2, .int (iI (l2_x5.toInt + 1))), (0, .ref (aY 0)), (1, .int xv)]) := lv_sub hl [1, 0, 2, 3] rfl
      exact ihx5 u6 (iI (l2_x5.toInt + 1)) _ _ _ (iI_rng (Int.le_trans (by decide) (Int.add_le_add (b_l2_x5.1) (Int.le_refl _))) (by omega) (by decide) (by decide)) (show ∀ q : Nat, (q : Int) < (iI (l2_x5.toInt + 1)).toInt → u6 q = xv from by rw [iI_t (by omega) (by omega)]; exact fill_step hFl (by omega) b_u6) (by have e9 : ((iI (l2_x5.toInt + 1))).toInt = (l2_x5.toInt + 1) := (iI_t (Int.le_trans (by decide) (Int.add_le_add (b_l2_x5.1) (Int.le_refl _))) (Int.le_trans (Int.add_le_add (b_l2_x5.2) (Int.le_refl _)) (by decide))); omega) hP hD hS hl
theorem dJ7_fill_d0a16_0 : decode cJ7_fill_d0a16 0 = .ok (.iconst 0, 1) := dk_3 (by decide +kernel)
theorem dJ7_fill_d0a16_1 : decode cJ7_fill_d0a16 1 = .ok (.istore_n 3, 1) := dk_62 (by decide +kernel)
theorem dJ7_fill_d0a16_2 : decode cJ7_fill_d0a16 2 = .ok (.aload_n 0, 1) := dk_42 (by decide +kernel)
theorem dJ7_fill_d0a16_3 : decode cJ7_fill_d0a16 3 = .ok (.arraylength, 1) := dk_190 (by decide +kernel)
theorem dJ7_fill_d0a16_4 : decode cJ7_fill_d0a16 4 = .ok (.istore 4, 2) := dk_54 (by decide +kernel)
theorem dJ7_fill_d0a16_6 : decode cJ7_fill_d0a16 6 = .ok (.iload_n 3, 1) := dk_29 (by decide +kernel)
theorem dJ7_fill_d0a16_7 : decode cJ7_fill_d0a16 7 = .ok (.iload 4, 2) := dk_21 (by decide +kernel)
theorem dJ7_fill_d0a16_9 : decode cJ7_fill_d0a16 9 = .ok (.if_icmp .ge 13, 3) := dk_162 (by decide +kernel)
theorem dJ7_fill_d0a16_12 : decode cJ7_fill_d0a16 12 = .ok (.aload_n 0, 1) := dk_42 (by decide +kernel)
theorem dJ7_fill_d0a16_13 : decode cJ7_fill_d0a16 13 = .ok (.iload_n 3, 1) := dk_29 (by decide +kernel)
theorem dJ7_fill_d0a16_14 : decode cJ7_fill_d0a16 14 = .ok (.lload_n 1, 1) := dk_31 (by decide +kernel)
theorem dJ7_fill_d0a16_15 : decode cJ7_fill_d0a16 15 = .ok (.lastore, 1) := dk_80 (by decide +kernel)
theorem dJ7_fill_d0a16_16 : decode cJ7_fill_d0a16 16 = .ok (.iinc 3 1, 3) := dk_132 (by decide +kernel)
theorem dJ7_fill_d0a16_19 : decode cJ7_fill_d0a16 19 = .ok (.goto (-13), 3) := dk_167 (by decide +kernel)
theorem dJ7_fill_d0a16_22 : decode cJ7_fill_d0a16 22 = .ok (.return_, 1) := dk_177 (by decide +kernel)
def wsMJ7_fill_d0a16 : List Cond := .code yJ7_fill_d0a16 cJ7_fill_d0a16 5 none :: ([])
theorem gdwsMJ7_fill_d0a16 : wsMJ7_fill_d0a16.all goodWord = true := gdC rfl (by decide +kernel : ([] : List Cond).all goodWord = true)
set_option maxHeartbeats 4000000 in
set_option maxRecDepth 100000 in
/-- Arrays.fill of longs -/
theorem m_J7_fill_d0a16 (l : Launch) (dC : Nat → ClassId) (dI : Nat → Nat → Nat) (hZ : Nat → Nat) (aZ : Nat → Nat) (kZ : Nat → ClassId) (nZ : Nat) (gZ : Nat → Int64) (xv : Int64) (b_nZ : 0 ≤ nZ ∧ nZ ≤ 1000000) (sz : Nat) : Met l yJ7_fill_d0a16 wsMJ7_fill_d0a16 ({ frames := 0, cells := 0, slots := 0, locals := 0 }) (va_Pc [.ref (aZ 0), .long xv] (fun U => U.heap.size = sz ∧ va_P (dC, dI) vwCl (WZ hZ aZ kZ nZ gZ) U.heap ∧ va_K (dC, dI) vwCl (tZ kZ) U ∧ va_D (fun _ => True) (WZ hZ aZ kZ nZ gZ))) (va_Qv (fun (u : Nat → Int64) => True) (fun (u : Nat → Int64) t => va_P (dC, dI) vwCl (WZ hZ aZ kZ nZ u) t.heap ∧ va_D (va_A (WZ hZ aZ kZ nZ gZ) sz) (WZ hZ aZ kZ nZ u)) (va_A (WZ hZ aZ kZ nZ gZ) sz)) 0 0 (va_A (WZ hZ aZ kZ nZ gZ) sz) := by
  refine Met.ofW (cc := cJ7_fill_d0a16) (maxL := 5) (ret := none) (by decide) rfl ?_
  intro p e s m args below meth c s₁ B hml hv
  obtain ⟨rfl, hsz, hP, hK, hD0⟩ := hv
  have hx := B.exec
  have hb := B.bytes
  have hr := B.returns
  have hts := atoms_spec (ws := wsMJ7_fill_d0a16) B.pre
  have hown : s.vm.findClass RJ7 = some m.cls := findClass_of_methodNamed B.named
  have hlocks := B.notSynchronized
  subst hsz
  have hD := hD0.self (sz := s.heap.size)
  generalize hAe : va_A (WZ hZ aZ kZ nZ gZ) s.heap.size = A at hD ⊢
  have hA : ∀ q : Nat, s.heap.size ≤ q → A q := fun q h => by rw [← hAe]; exact Or.inr h
  have hS : va_S A s.heap s.heap [] := va_S.rf
  have hl := lv_entry ([.ref (aZ 0), .long xv]) (n := 5) (Nat.le_of_ble_eq_true rfl)
  rw [lg_entry_eq]
  generalize (lg_sl ([.ref (aZ 0), .long xv]) ++ List.replicate (5 - (lg_sl ([.ref (aZ 0), .long xv])).length) Slot.unset).toArray = ls at hl ⊢
  have hl : lv_has ls 5 [(0, .ref (aZ 0)), (1, .long xv)] := hl
  refine lv_iconst (v := 0) hx hb dJ7_fill_d0a16_0 (by decide) ?_
  refine lv_istore_n hx hb dJ7_fill_d0a16_1 rfl hl (by decide) rfl (fun ls (hl : lv_has ls _ ([(3, .int 0), (0, .ref (aZ 0)), (1, .long xv)])) => ?_)
  refine lv_aload_n hx hb dJ7_fill_d0a16_2 rfl (lv_at hl 1 rfl) ?_
  refine va_alen hx hb hK hP 0 0 rfl rfl (v := (iI ((nZ : Nat) : Int))) (iI_nat _) dJ7_fill_d0a16_3 ?_
  refine lv_istore hx hb dJ7_fill_d0a16_4 hl (by decide) rfl (fun ls (hl : lv_has ls _ ([(4, .int (iI ((nZ : Nat) : Int))), (3, .int 0), (0, .ref (aZ 0)), (1, .long xv)])) => ?_)
  have hl : lv_has _ _ ([(4, .int (iI ((nZ : Nat) : Int))), (3, .int 0), (0, .ref (aZ 0)), (1, .long xv)]) := lv_sub hl [0, 1, 2, 3] rfl
  refine (fun (loop : ∀ (n9 : Nat) (gZ_x6 : Nat → Int64) (l3_x6 : Int32) (H : Heap) (locs : List Loc) (ls : Array Slot), (0 ≤ l3_x6.toInt ∧ l3_x6.toInt ≤ 1000000) → (1000000 - l3_x6.toInt < ((n9 : Nat) : Int)) → va_P (dC, dI) vwCl (WZ hZ aZ kZ nZ gZ_x6) H → va_D A (WZ hZ aZ kZ nZ gZ_x6) → va_S A s.heap H locs → lv_has ls 5 [(4, .int (iI ((nZ : Nat) : Int))), (3, .int l3_x6), (0, .ref (aZ 0)), (1, .long xv)] → W p l e _ s m _ below meth c H locs 0 0 _ (F0 m 6 ls [])) => loop (1000001) gZ 0 _ _ _ (show 0 ≤ (0 : Int32).toInt ∧ (0 : Int32).toInt ≤ 1000000 from by decide) ((by have e9 : (0 : Int32).toInt = 0 := (by decide : (0 : Int32).toInt = 0); omega)) hP hD hS hl) ?_
  intro n9
  induction n9 with
  | zero => intro gZ_x6 l3_x6 H locs ls b_l3_x6 hf9; exact False.elim (by omega)
  | succ n9 ihx6 =>
    intro gZ_x6 l3_x6 H locs ls b_l3_x6 hfx6 hP hD hS hl
    refine lv_iload_n hx hb dJ7_fill_d0a16_6 rfl (lv_at hl 1 rfl) ?_
    refine lv_iload hx hb dJ7_fill_d0a16_7 (lv_at hl 0 rfl) ?_
    refine lv_icmp_ge (tgt := 22) hx hb dJ7_fill_d0a16_9 (by decide) (fun c_9 => ?_) (fun c_9 => ?_)
    · first | (have t_9 : l3_x6.toInt ≥ ((nZ : Nat) : Int) := toI_ge c_9 rfl (iI_t (by omega) (by omega))) | skip
      refine W.widen (k := 0) (n := 0) (by decide +kernel) (by decide +kernel) ?_
      exact W.vret hx hb hr (fun t9_ ht hW => ⟨⟨gZ_x6, rfl, trivial, by rw [ht]; exact hP, hD⟩, hS.F ht⟩) hS.2.2 dJ7_fill_d0a16_22
    · first | (have t_9 : ¬ l3_x6.toInt ≥ ((nZ : Nat) : Int) := toI_nge c_9 rfl (iI_t (by omega) (by omega))) | skip
      refine lv_aload_n hx hb dJ7_fill_d0a16_12 rfl (lv_at hl 2 rfl) ?_
      refine lv_iload_n hx hb dJ7_fill_d0a16_13 rfl (lv_at hl 1 rfl) ?_
      refine lv_lload_n hx hb dJ7_fill_d0a16_14 rfl (lv_at hl 3 rfl) ?_
      refine va_last (cA := kZ 0) (n := nZ) (f := gZ_x6) hx hb hK hP hD hS 0 0 rfl rfl (vp_in_iff.mpr ⟨b_l3_x6.1, (by omega)⟩) dJ7_fill_d0a16_15 (fun H locs hP hD hS => ?_)
      obtain ⟨u6, hu6⟩ : ∃ f9, f9 = vp_updL gZ_x6 (l3_x6).toNatClampNeg xv := ⟨_, rfl⟩
      have hP : va_P (dC, dI) vwCl (WZ hZ aZ kZ nZ u6) H := by rw [hu6]; exact hP
      have hD : va_D A (WZ hZ aZ kZ nZ u6) := by rw [hu6]; exact hD
      clear hu6
      refine lv_iinc (v := (iI (l3_x6.toInt + 1))) hx hb dJ7_fill_d0a16_16 hl (k := 1) rfl (iI_add2 (iI_of _) (by decide : (1 : Int32) = iI 1)) (by decide) rfl (fun ls (hl : lv_has ls _ ([(3, .int (iI (l3_x6.toInt + 1))), (4, .int (iI ((nZ : Nat) : Int))), (0, .ref (aZ 0)), (1, .long xv)])) => ?_)
      refine lv_goto (tgt := 6) hx hb dJ7_fill_d0a16_19 (by decide) ?_
      have hl : lv_has _ _ ([(4, .int (iI ((nZ : Nat) : Int))), (3, .int (iI (l3_x6.toInt + 1))), (0, .ref (aZ 0)), (1, .long xv)]) := lv_sub hl [1, 0, 2, 3] rfl
      exact ihx6 u6 (iI (l3_x6.toInt + 1)) _ _ _ (iI_rng (Int.le_trans (by decide) (Int.add_le_add (b_l3_x6.1) (Int.le_refl _))) (by omega) (by decide) (by decide)) (by have e9 : ((iI (l3_x6.toInt + 1))).toInt = (l3_x6.toInt + 1) := (iI_t (Int.le_trans (by decide) (Int.add_le_add (b_l3_x6.1) (Int.le_refl _))) (Int.le_trans (Int.add_le_add (b_l3_x6.2) (Int.le_refl _)) (by decide))); omega) hP hD hS hl
theorem dJ6_bitCount_0f7a4_0 : decode cJ6_bitCount_0f7a4 0 = .ok (.iload_n 0, 1) := dk_26 (by decide +kernel)
theorem dJ6_bitCount_0f7a4_1 : decode cJ6_bitCount_0f7a4 1 = .ok (.iload_n 0, 1) := dk_26 (by decide +kernel)
theorem dJ6_bitCount_0f7a4_2 : decode cJ6_bitCount_0f7a4 2 = .ok (.iconst 1, 1) := dk_4 (by decide +kernel)
theorem dJ6_bitCount_0f7a4_3 : decode cJ6_bitCount_0f7a4 3 = .ok (.iushr, 1) := dk_124 (by decide +kernel)
theorem dJ6_bitCount_0f7a4_4 : decode cJ6_bitCount_0f7a4 4 = .ok (.ldc_w 265, 3) := dk_19 (by decide +kernel)
theorem dJ6_bitCount_0f7a4_7 : decode cJ6_bitCount_0f7a4 7 = .ok (.iand, 1) := dk_126 (by decide +kernel)
theorem dJ6_bitCount_0f7a4_8 : decode cJ6_bitCount_0f7a4 8 = .ok (.isub, 1) := dk_100 (by decide +kernel)
theorem dJ6_bitCount_0f7a4_9 : decode cJ6_bitCount_0f7a4 9 = .ok (.istore_n 0, 1) := dk_59 (by decide +kernel)
theorem dJ6_bitCount_0f7a4_10 : decode cJ6_bitCount_0f7a4 10 = .ok (.iload_n 0, 1) := dk_26 (by decide +kernel)
theorem dJ6_bitCount_0f7a4_11 : decode cJ6_bitCount_0f7a4 11 = .ok (.ldc_w 266, 3) := dk_19 (by decide +kernel)
theorem dJ6_bitCount_0f7a4_14 : decode cJ6_bitCount_0f7a4 14 = .ok (.iand, 1) := dk_126 (by decide +kernel)
theorem dJ6_bitCount_0f7a4_15 : decode cJ6_bitCount_0f7a4 15 = .ok (.iload_n 0, 1) := dk_26 (by decide +kernel)
theorem dJ6_bitCount_0f7a4_16 : decode cJ6_bitCount_0f7a4 16 = .ok (.iconst 2, 1) := dk_5 (by decide +kernel)
theorem dJ6_bitCount_0f7a4_17 : decode cJ6_bitCount_0f7a4 17 = .ok (.iushr, 1) := dk_124 (by decide +kernel)
theorem dJ6_bitCount_0f7a4_18 : decode cJ6_bitCount_0f7a4 18 = .ok (.ldc_w 266, 3) := dk_19 (by decide +kernel)
theorem dJ6_bitCount_0f7a4_21 : decode cJ6_bitCount_0f7a4 21 = .ok (.iand, 1) := dk_126 (by decide +kernel)
theorem dJ6_bitCount_0f7a4_22 : decode cJ6_bitCount_0f7a4 22 = .ok (.iadd, 1) := dk_96 (by decide +kernel)
theorem dJ6_bitCount_0f7a4_23 : decode cJ6_bitCount_0f7a4 23 = .ok (.istore_n 0, 1) := dk_59 (by decide +kernel)
theorem dJ6_bitCount_0f7a4_24 : decode cJ6_bitCount_0f7a4 24 = .ok (.iload_n 0, 1) := dk_26 (by decide +kernel)
theorem dJ6_bitCount_0f7a4_25 : decode cJ6_bitCount_0f7a4 25 = .ok (.iload_n 0, 1) := dk_26 (by decide +kernel)
theorem dJ6_bitCount_0f7a4_26 : decode cJ6_bitCount_0f7a4 26 = .ok (.iconst 4, 1) := dk_7 (by decide +kernel)
theorem dJ6_bitCount_0f7a4_27 : decode cJ6_bitCount_0f7a4 27 = .ok (.iushr, 1) := dk_124 (by decide +kernel)
theorem dJ6_bitCount_0f7a4_28 : decode cJ6_bitCount_0f7a4 28 = .ok (.iadd, 1) := dk_96 (by decide +kernel)
theorem dJ6_bitCount_0f7a4_29 : decode cJ6_bitCount_0f7a4 29 = .ok (.ldc_w 267, 3) := dk_19 (by decide +kernel)
theorem dJ6_bitCount_0f7a4_32 : decode cJ6_bitCount_0f7a4 32 = .ok (.iand, 1) := dk_126 (by decide +kernel)
theorem dJ6_bitCount_0f7a4_33 : decode cJ6_bitCount_0f7a4 33 = .ok (.istore_n 0, 1) := dk_59 (by decide +kernel)
theorem dJ6_bitCount_0f7a4_34 : decode cJ6_bitCount_0f7a4 34 = .ok (.iload_n 0, 1) := dk_26 (by decide +kernel)
theorem dJ6_bitCount_0f7a4_35 : decode cJ6_bitCount_0f7a4 35 = .ok (.iload_n 0, 1) := dk_26 (by decide +kernel)
theorem dJ6_bitCount_0f7a4_36 : decode cJ6_bitCount_0f7a4 36 = .ok (.bipush 8, 2) := dk_16 (by decide +kernel)
theorem dJ6_bitCount_0f7a4_38 : decode cJ6_bitCount_0f7a4 38 = .ok (.iushr, 1) := dk_124 (by decide +kernel)
theorem dJ6_bitCount_0f7a4_39 : decode cJ6_bitCount_0f7a4 39 = .ok (.iadd, 1) := dk_96 (by decide +kernel)
theorem dJ6_bitCount_0f7a4_40 : decode cJ6_bitCount_0f7a4 40 = .ok (.istore_n 0, 1) := dk_59 (by decide +kernel)
theorem dJ6_bitCount_0f7a4_41 : decode cJ6_bitCount_0f7a4 41 = .ok (.iload_n 0, 1) := dk_26 (by decide +kernel)
theorem dJ6_bitCount_0f7a4_42 : decode cJ6_bitCount_0f7a4 42 = .ok (.iload_n 0, 1) := dk_26 (by decide +kernel)
theorem dJ6_bitCount_0f7a4_43 : decode cJ6_bitCount_0f7a4 43 = .ok (.bipush 16, 2) := dk_16 (by decide +kernel)
theorem dJ6_bitCount_0f7a4_45 : decode cJ6_bitCount_0f7a4 45 = .ok (.iushr, 1) := dk_124 (by decide +kernel)
theorem dJ6_bitCount_0f7a4_46 : decode cJ6_bitCount_0f7a4 46 = .ok (.iadd, 1) := dk_96 (by decide +kernel)
theorem dJ6_bitCount_0f7a4_47 : decode cJ6_bitCount_0f7a4 47 = .ok (.istore_n 0, 1) := dk_59 (by decide +kernel)
theorem dJ6_bitCount_0f7a4_48 : decode cJ6_bitCount_0f7a4 48 = .ok (.iload_n 0, 1) := dk_26 (by decide +kernel)
theorem dJ6_bitCount_0f7a4_49 : decode cJ6_bitCount_0f7a4 49 = .ok (.bipush 63, 2) := dk_16 (by decide +kernel)
theorem dJ6_bitCount_0f7a4_51 : decode cJ6_bitCount_0f7a4 51 = .ok (.iand, 1) := dk_126 (by decide +kernel)
theorem dJ6_bitCount_0f7a4_52 : decode cJ6_bitCount_0f7a4 52 = .ok (.ireturn, 1) := dk_172 (by decide +kernel)
def wsMJ6_bitCount_0f7a4 : List Cond := .code yJ6_bitCount_0f7a4 cJ6_bitCount_0f7a4 1 (some .int) :: ([.constant RJ6 265 1431655765, .constant RJ6 266 858993459, .constant RJ6 267 252645135])
theorem gdwsMJ6_bitCount_0f7a4 : wsMJ6_bitCount_0f7a4.all goodWord = true := gdC rfl (by decide +kernel : ([.constant RJ6 265 1431655765, .constant RJ6 266 858993459, .constant RJ6 267 252645135] : List Cond).all goodWord = true)
theorem hm_m_J6_bitCount_0f7a4_0 : (.constant RJ6 266 858993459 : Cond) ∈ wsMJ6_bitCount_0f7a4 := by decide +kernel
set_option maxHeartbeats 4000000 in
set_option maxRecDepth 100000 in
/-- Integer.bitCount -/
theorem m_J6_bitCount_0f7a4 (l : Launch) (dC : Nat → ClassId) (dI : Nat → Nat → Nat) (xv : Int32) (sz : Nat) : Met l yJ6_bitCount_0f7a4 wsMJ6_bitCount_0f7a4 ({ frames := 0, cells := 0, slots := 0, locals := 0 }) (va_Pc [.int xv] (fun U => U.heap.size = sz ∧ va_P (dC, dI) vwCl [] U.heap ∧ va_K (dC, dI) vwCl [] U ∧ va_D (fun _ => True) [])) (va_Qi (fun (r : Int32) (u : Unit) => (0 ≤ r.toInt ∧ r.toInt ≤ 63) ∧ (0 ≤ xv.toInt → xv.toInt ≤ 4095 → r.toInt = (cntB (bI xv) 12 : Int))) (fun (u : Unit) t => True) (va_A [] sz)) 0 0 (va_A [] sz) := by
  refine Met.ofW (cc := cJ6_bitCount_0f7a4) (maxL := 1) (ret := (some .int)) (by decide) rfl ?_
  intro p e s m args below meth c s₁ B hml hv
  obtain ⟨rfl, hsz, hP, hK, hD0⟩ := hv
  have hx := B.exec
  have hb := B.bytes
  have hr := B.returns
  have hts := atoms_spec (ws := wsMJ6_bitCount_0f7a4) B.pre
  have hown : s.vm.findClass RJ6 = some m.cls := findClass_of_methodNamed B.named
  have hlocks := B.notSynchronized
  subst hsz
  have hD := hD0.self (sz := s.heap.size)
  generalize hAe : va_A [] s.heap.size = A at hD ⊢
  have hA : ∀ q : Nat, s.heap.size ≤ q → A q := fun q h => by rw [← hAe]; exact Or.inr h
  have hS : va_S A s.heap s.heap [] := va_S.rf
  have hl := lv_entry ([.int xv]) (n := 1) (Nat.le_of_ble_eq_true rfl)
  rw [lg_entry_eq]
  generalize (lg_sl ([.int xv]) ++ List.replicate (1 - (lg_sl ([.int xv])).length) Slot.unset).toArray = ls at hl ⊢
  have hl : lv_has ls 1 [(0, .int xv)] := hl
  refine lv_iload_n hx hb dJ6_bitCount_0f7a4_0 rfl (lv_at hl 0 rfl) ?_
  refine lv_iload_n hx hb dJ6_bitCount_0f7a4_1 rfl (lv_at hl 0 rfl) ?_
  refine lv_iconst (v := 1) hx hb dJ6_bitCount_0f7a4_2 (by decide) ?_
  refine lv_iushr hx hb dJ6_bitCount_0f7a4_3 rfl ?_
  refine lv_topi (fun v1 hv1 => ?_)
  have b_v1 : v1 = tbcU xv (1 : Int32) := hv1
  clear hv1
  refine lv_ldcw (v := 1431655765) hx hb hown (hts (.constant RJ6 265 1431655765) (by decide +kernel)) dJ6_bitCount_0f7a4_4 ?_
  refine lv_iand hx hb dJ6_bitCount_0f7a4_7 ?_
  refine lv_topi (fun v2 hv2 => ?_)
  have b_v2 : v2 = v1 &&& (1431655765 : Int32) := hv2
  clear hv2
  refine lv_isub hx hb dJ6_bitCount_0f7a4_8 ?_
  refine lv_topi (fun v3 hv3 => ?_)
  have b_v3 : v3 = xv - v2 := hv3
  clear hv3
  refine lv_istore_n hx hb dJ6_bitCount_0f7a4_9 rfl hl (by decide) rfl (fun ls (hl : lv_has ls _ ([(0, .int v3)])) => ?_)
  refine lv_iload_n hx hb dJ6_bitCount_0f7a4_10 rfl (lv_at hl 0 rfl) ?_
  refine lv_ldcw (v := 858993459) hx hb hown (hts _ hm_m_J6_bitCount_0f7a4_0) dJ6_bitCount_0f7a4_11 ?_
  refine lv_iand hx hb dJ6_bitCount_0f7a4_14 ?_
  refine lv_topi (fun v4 hv4 => ?_)
  have b_v4 : v4 = v3 &&& (858993459 : Int32) := hv4
  clear hv4
  refine lv_iload_n hx hb dJ6_bitCount_0f7a4_15 rfl (lv_at hl 0 rfl) ?_
  refine lv_iconst (v := 2) hx hb dJ6_bitCount_0f7a4_16 (by decide) ?_
  refine lv_iushr hx hb dJ6_bitCount_0f7a4_17 rfl ?_
  refine lv_topi (fun v5 hv5 => ?_)
  have b_v5 : v5 = tbcU v3 (2 : Int32) := hv5
  clear hv5
  refine lv_ldcw (v := 858993459) hx hb hown (hts _ hm_m_J6_bitCount_0f7a4_0) dJ6_bitCount_0f7a4_18 ?_
  refine lv_iand hx hb dJ6_bitCount_0f7a4_21 ?_
  refine lv_topi (fun v6 hv6 => ?_)
  have b_v6 : v6 = v5 &&& (858993459 : Int32) := hv6
  clear hv6
  refine lv_iadd hx hb dJ6_bitCount_0f7a4_22 ?_
  refine lv_topi (fun v7 hv7 => ?_)
  have b_v7 : v7 = v4 + v6 := hv7
  clear hv7
  refine lv_istore_n hx hb dJ6_bitCount_0f7a4_23 rfl hl (by decide) rfl (fun ls (hl : lv_has ls _ ([(0, .int v7)])) => ?_)
  refine lv_iload_n hx hb dJ6_bitCount_0f7a4_24 rfl (lv_at hl 0 rfl) ?_
  refine lv_iload_n hx hb dJ6_bitCount_0f7a4_25 rfl (lv_at hl 0 rfl) ?_
  refine lv_iconst (v := 4) hx hb dJ6_bitCount_0f7a4_26 (by decide) ?_
  refine lv_iushr hx hb dJ6_bitCount_0f7a4_27 rfl ?_
  refine lv_topi (fun v8 hv8 => ?_)
  have b_v8 : v8 = tbcU v7 (4 : Int32) := hv8
  clear hv8
  refine lv_iadd hx hb dJ6_bitCount_0f7a4_28 ?_
  refine lv_topi (fun v9 hv9 => ?_)
  have b_v9 : v9 = v7 + v8 := hv9
  clear hv9
  refine lv_ldcw (v := 252645135) hx hb hown (hts (.constant RJ6 267 252645135) (by decide +kernel)) dJ6_bitCount_0f7a4_29 ?_
  refine lv_iand hx hb dJ6_bitCount_0f7a4_32 ?_
  refine lv_topi (fun v10 hv10 => ?_)
  have b_v10 : v10 = v9 &&& (252645135 : Int32) := hv10
  clear hv10
  refine lv_istore_n hx hb dJ6_bitCount_0f7a4_33 rfl hl (by decide) rfl (fun ls (hl : lv_has ls _ ([(0, .int v10)])) => ?_)
  refine lv_iload_n hx hb dJ6_bitCount_0f7a4_34 rfl (lv_at hl 0 rfl) ?_
  refine lv_iload_n hx hb dJ6_bitCount_0f7a4_35 rfl (lv_at hl 0 rfl) ?_
  refine lv_bipush (v := 8) hx hb dJ6_bitCount_0f7a4_36 (by decide) ?_
  refine lv_iushr hx hb dJ6_bitCount_0f7a4_38 rfl ?_
  refine lv_topi (fun v11 hv11 => ?_)
  have b_v11 : v11 = tbcU v10 (8 : Int32) := hv11
  clear hv11
  refine lv_iadd hx hb dJ6_bitCount_0f7a4_39 ?_
  refine lv_topi (fun v12 hv12 => ?_)
  have b_v12 : v12 = v10 + v11 := hv12
  clear hv12
  refine lv_istore_n hx hb dJ6_bitCount_0f7a4_40 rfl hl (by decide) rfl (fun ls (hl : lv_has ls _ ([(0, .int v12)])) => ?_)
  refine lv_iload_n hx hb dJ6_bitCount_0f7a4_41 rfl (lv_at hl 0 rfl) ?_
  refine lv_iload_n hx hb dJ6_bitCount_0f7a4_42 rfl (lv_at hl 0 rfl) ?_
  refine lv_bipush (v := 16) hx hb dJ6_bitCount_0f7a4_43 (by decide) ?_
  refine lv_iushr hx hb dJ6_bitCount_0f7a4_45 rfl ?_
  refine lv_topi (fun v13 hv13 => ?_)
  have b_v13 : v13 = tbcU v12 (16 : Int32) := hv13
  clear hv13
  refine lv_iadd hx hb dJ6_bitCount_0f7a4_46 ?_
  refine lv_topi (fun v14 hv14 => ?_)
  have b_v14 : v14 = v12 + v13 := hv14
  clear hv14
  refine lv_istore_n hx hb dJ6_bitCount_0f7a4_47 rfl hl (by decide) rfl (fun ls (hl : lv_has ls _ ([(0, .int v14)])) => ?_)
  refine lv_iload_n hx hb dJ6_bitCount_0f7a4_48 rfl (lv_at hl 0 rfl) ?_
  refine lv_bipush (v := 63) hx hb dJ6_bitCount_0f7a4_49 (by decide) ?_
  refine lv_iand hx hb dJ6_bitCount_0f7a4_51 ?_
  refine lv_topi (fun v15 hv15 => ?_)
  have b_v15 : 0 ≤ v15.toInt ∧ v15.toInt ≤ 63 := by rw [hv15]; exact and_rng _ (by decide) (by decide)
  have b1_v15 : v15 = v14 &&& (63 : Int32) := hv15
  clear hv15
  refine W.widen (k := 0) (n := 0) (by decide +kernel) (by decide +kernel) ?_
  exact W.iret (v := v15) hx hb hr (fun t9_ ht hW => ⟨⟨v15, (), rfl, ⟨(b_v15), (by (try dsimp only); exact (fun h0 h1 => by have e1 : v3 = tbc1 xv := (by rw [b_v3, b_v2, b_v1]; rfl); have e2 : v7 = tbc2 xv := (by rw [b_v7, b_v4, b_v6, b_v5, e1]; rfl); have e3 : v10 = tbc3 xv := (by rw [b_v10, b_v9, b_v8, e2]; rfl); have e4 : v12 = tbc4 xv := (by rw [b_v12, b_v11, e3]; rfl); have e5 : v14 = tbc5 xv := (by rw [b_v14, b_v13, e4]; rfl); rw [b1_v15, e5]; exact tbc_t h0 h1))⟩, trivial⟩, hS.F ht⟩) hS.2.2 dJ6_bitCount_0f7a4_52
theorem dJ13_compare_74951_0 : decode cJ13_compare_74951 0 = .ok (.lload_n 0, 1) := dk_30 (by decide +kernel)
theorem dJ13_compare_74951_1 : decode cJ13_compare_74951 1 = .ok (.lload_n 2, 1) := dk_32 (by decide +kernel)
theorem dJ13_compare_74951_2 : decode cJ13_compare_74951 2 = .ok (.lcmp, 1) := dk_148 (by decide +kernel)
theorem dJ13_compare_74951_3 : decode cJ13_compare_74951 3 = .ok (.ifCond .ge 7, 3) := dk_156 (by decide +kernel)
theorem dJ13_compare_74951_6 : decode cJ13_compare_74951 6 = .ok (.iconst (-1), 1) := dk_2 (by decide +kernel)
theorem dJ13_compare_74951_7 : decode cJ13_compare_74951 7 = .ok (.goto 14, 3) := dk_167 (by decide +kernel)
theorem dJ13_compare_74951_10 : decode cJ13_compare_74951 10 = .ok (.lload_n 0, 1) := dk_30 (by decide +kernel)
theorem dJ13_compare_74951_11 : decode cJ13_compare_74951 11 = .ok (.lload_n 2, 1) := dk_32 (by decide +kernel)
theorem dJ13_compare_74951_12 : decode cJ13_compare_74951 12 = .ok (.lcmp, 1) := dk_148 (by decide +kernel)
theorem dJ13_compare_74951_13 : decode cJ13_compare_74951 13 = .ok (.ifCond .ne 7, 3) := dk_154 (by decide +kernel)
theorem dJ13_compare_74951_16 : decode cJ13_compare_74951 16 = .ok (.iconst 0, 1) := dk_3 (by decide +kernel)
theorem dJ13_compare_74951_17 : decode cJ13_compare_74951 17 = .ok (.goto 4, 3) := dk_167 (by decide +kernel)
theorem dJ13_compare_74951_20 : decode cJ13_compare_74951 20 = .ok (.iconst 1, 1) := dk_4 (by decide +kernel)
theorem dJ13_compare_74951_21 : decode cJ13_compare_74951 21 = .ok (.ireturn, 1) := dk_172 (by decide +kernel)
def wsMJ13_compare_74951 : List Cond := .code yJ13_compare_74951 cJ13_compare_74951 4 (some .int) :: ([])
theorem gdwsMJ13_compare_74951 : wsMJ13_compare_74951.all goodWord = true := gdC rfl (by decide +kernel : ([] : List Cond).all goodWord = true)
set_option maxHeartbeats 4000000 in
set_option maxRecDepth 100000 in
/-- Long.compare -/
theorem m_J13_compare_74951 (l : Launch) (dC : Nat → ClassId) (dI : Nat → Nat → Nat) (xv : Int64) (yv : Int64) (sz : Nat) : Met l yJ13_compare_74951 wsMJ13_compare_74951 ({ frames := 0, cells := 0, slots := 0, locals := 0 }) (va_Pc [.long xv, .long yv] (fun U => U.heap.size = sz ∧ va_P (dC, dI) vwCl [] U.heap ∧ va_K (dC, dI) vwCl [] U ∧ va_D (fun _ => True) [])) (va_Qi (fun (r : Int32) (u : Unit) => True) (fun (u : Unit) t => True) (va_A [] sz)) 0 0 (va_A [] sz) := by
  refine Met.ofW (cc := cJ13_compare_74951) (maxL := 4) (ret := (some .int)) (by decide) rfl ?_
  intro p e s m args below meth c s₁ B hml hv
  obtain ⟨rfl, hsz, hP, hK, hD0⟩ := hv
  have hx := B.exec
  have hb := B.bytes
  have hr := B.returns
  have hts := atoms_spec (ws := wsMJ13_compare_74951) B.pre
  have hown : s.vm.findClass RJ13 = some m.cls := findClass_of_methodNamed B.named
  have hlocks := B.notSynchronized
  subst hsz
  have hD := hD0.self (sz := s.heap.size)
  generalize hAe : va_A [] s.heap.size = A at hD ⊢
  have hA : ∀ q : Nat, s.heap.size ≤ q → A q := fun q h => by rw [← hAe]; exact Or.inr h
  have hS : va_S A s.heap s.heap [] := va_S.rf
  have hl := lv_entry ([.long xv, .long yv]) (n := 4) (Nat.le_of_ble_eq_true rfl)
  rw [lg_entry_eq]
  generalize (lg_sl ([.long xv, .long yv]) ++ List.replicate (4 - (lg_sl ([.long xv, .long yv])).length) Slot.unset).toArray = ls at hl ⊢
  have hl : lv_has ls 4 [(0, .long xv), (2, .long yv)] := hl
  refine lv_lload_n hx hb dJ13_compare_74951_0 rfl (lv_at hl 0 rfl) ?_
  refine lv_lload_n hx hb dJ13_compare_74951_1 rfl (lv_at hl 1 rfl) ?_
  refine W.lcmp hx hb dJ13_compare_74951_2 ?_
  refine W.cut (pc := 21) (fun H locs ls stk => ∃ (k0_j2 : Int32), ((-1) ≤ k0_j2.toInt ∧ k0_j2.toInt ≤ 1) ∧  stk = [.int k0_j2] ∧ va_P (dC, dI) vwCl ([]) H ∧ va_D A ([]) ∧ va_S A s.heap H locs ∧ lv_has ls 4 [(0, .long xv), (2, .long yv)]) (fun join2 => ?_) ?_
  · refine lv_if_ge (tgt := 10) hx hb dJ13_compare_74951_3 (by decide) (fun c_3 => ?_) (fun c_3 => ?_)
    · have t_3 : xv.toInt ≥ yv.toInt := toL_ge c_3 rfl rfl
      refine lv_lload_n hx hb dJ13_compare_74951_10 rfl (lv_at hl 0 rfl) ?_
      refine lv_lload_n hx hb dJ13_compare_74951_11 rfl (lv_at hl 1 rfl) ?_
      refine W.lcmp hx hb dJ13_compare_74951_12 ?_
      refine lv_if_ne (tgt := 20) hx hb dJ13_compare_74951_13 (by decide) (fun c_13 => ?_) (fun c_13 => ?_)
      · have t_13 : xv.toInt ≠ yv.toInt := toL_ne c_13 rfl rfl
        refine lv_iconst (v := 1) hx hb dJ13_compare_74951_20 (by decide) ?_
        have hl : lv_has _ _ ([(0, .long xv), (2, .long yv)]) := lv_sub hl [0, 1] rfl
        exact join2 _ _ _ _ ⟨1, (show (-1) ≤ (1 : Int32).toInt ∧ (1 : Int32).toInt ≤ 1 from by decide), rfl, hP, hD, hS, hl⟩
      · have t_13 : xv.toInt = yv.toInt := toL_nne c_13 rfl rfl
        refine lv_iconst (v := 0) hx hb dJ13_compare_74951_16 (by decide) ?_
        refine lv_goto (tgt := 21) hx hb dJ13_compare_74951_17 (by decide) ?_
        have hl : lv_has _ _ ([(0, .long xv), (2, .long yv)]) := lv_sub hl [0, 1] rfl
        exact join2 _ _ _ _ ⟨0, (show (-1) ≤ (0 : Int32).toInt ∧ (0 : Int32).toInt ≤ 1 from by decide), rfl, hP, hD, hS, hl⟩
    · have t_3 : ¬ xv.toInt ≥ yv.toInt := toL_nge c_3 rfl rfl
      refine lv_iconst (v := (-1)) hx hb dJ13_compare_74951_6 (by decide) ?_
      refine lv_goto (tgt := 21) hx hb dJ13_compare_74951_7 (by decide) ?_
      have hl : lv_has _ _ ([(0, .long xv), (2, .long yv)]) := lv_sub hl [0, 1] rfl
      exact join2 _ _ _ _ ⟨(-1), (show (-1) ≤ ((-1) : Int32).toInt ∧ ((-1) : Int32).toInt ≤ 1 from by decide), rfl, hP, hD, hS, hl⟩
  · rintro H locs ls stk ⟨k0_j2, b_k0_j2, rfl, hP, hD, hS, hl⟩
    refine W.widen (k := 0) (n := 0) (by decide +kernel) (by decide +kernel) ?_
    exact W.iret (v := k0_j2) hx hb hr (fun t9_ ht hW => ⟨⟨k0_j2, (), rfl, trivial, trivial⟩, hS.F ht⟩) hS.2.2 dJ13_compare_74951_21
end
section
/-! bits, for the nets -/
theorem bt_or (x y : Int32) (j : Nat) : bt (x ||| y) j = (bt x j || bt y j) := by
  unfold bt; rw [Int32.toBitVec_or, BitVec.getLsbD_or]
theorem bt_0 (j : Nat) : bt 0 j = false := by
  unfold bt; show (0#32).getLsbD j = false; exact BitVec.getLsbD_zero
theorem bt_1all : ((List.range 12).all (fun i => (List.range 12).all (fun j => decide (bt ((1 : Int32) <<< (iI (i : Int) &&& 31)) j = decide (j = i))))) = true := by decide +kernel
theorem bt_1 {k : Int32} {j : Nat} (h0 : 0 ≤ k.toInt) (h1 : k.toInt ≤ 11) (hj : j < 12) : bt ((1 : Int32) <<< (k &&& 31)) j = decide (j = k.toInt.toNat) := by
  have e : k = iI ((k.toInt.toNat : Nat) : Int) := by rw [show ((k.toInt.toNat : Nat) : Int) = k.toInt by omega]; exact iI_of k
  have h := of_decide_eq_true (List.all_eq_true.mp (List.all_eq_true.mp bt_1all k.toInt.toNat (List.mem_range.mpr (by omega))) j (List.mem_range.mpr hj))
  rw [← e] at h; exact h
theorem bt_and1 (y : Int32) : (bt y 0 = true ∧ (y &&& 1).toInt = 1) ∨ (bt y 0 = false ∧ (y &&& 1).toInt = 0) := by
  have h := pk_and y (m := 1) 1 (by decide)
  have hb : bt y 0 = decide (y.toBitVec.toNat % 2 = 1) := by
    unfold bt; rw [BitVec.getLsbD, Nat.testBit_zero]
  have h2 := Nat.mod_lt y.toBitVec.toNat (show 0 < 2 by decide)
  rw [h, hb]
  rw [show (2 : Nat) ^ 1 = 2 from rfl, nI_toInt (by omega)]
  by_cases e : y.toBitVec.toNat % 2 = 1
  · left; simp [e]
  · right; simp [e]; omega
theorem bt_shr {x k : Int32} {X : Int} (hk : k.toInt = X) (h0 : 0 ≤ X) (h1 : X < 32) : bt (x >>> (k &&& 31)) 0 = bt x X.toNat := by
  unfold bt
  rw [Int32.toBitVec_shiftRight, BitVec.sshiftRight', sa_t hk h0 h1, BitVec.getLsbD_sshiftRight]
  have : X.toNat < 32 := by omega
  simp [this]
theorem sh_and1 {x k y : Int32} {X : Int} (hy : y = x >>> (k &&& 31)) (hk : k.toInt = X) (h0 : 0 ≤ X) (h1 : X < 32) : (bt x X.toNat = true ∧ (y &&& 1).toInt = 1) ∨ (bt x X.toNat = false ∧ (y &&& 1).toInt = 0) := by
  rw [← bt_shr (x := x) hk h0 h1, ← hy]; exact bt_and1 y
theorem tk_0 {S : Prop} {x : Int32} {n n' v : Int} (h : S ∨ ∀ j : Nat, (j : Int) < n → bt x j = false) (hn : 0 ≤ n) (hn' : n' = n + 1) (hv : v = 0) (hb : (bt x n.toNat = true ∧ v = 1) ∨ (bt x n.toNat = false ∧ v = 0)) : S ∨ ∀ j : Nat, (j : Int) < n' → bt x j = false := by
  rcases h with h | h
  · exact Or.inl h
  · refine Or.inr (fun j hj => ?_)
    by_cases e : (j : Int) < n
    · exact h j e
    · have e2 : j = n.toNat := by omega
      rcases hb with ⟨_, h9⟩ | ⟨h9, _⟩
      · omega
      · rw [e2]; exact h9
theorem tk_end {x : Int32} {n s : Int} (h : 1 ≤ s ∨ ∀ j : Nat, (j : Int) < n → bt x j = false) (hn : 12 ≤ n ∨ 1 ≤ s) (h0 : 0 < x.toInt) (h1 : x.toInt < 4096) : 1 ≤ s := by
  rcases h with h | h
  · exact h
  · rcases hn with hn | hn
    · exfalso
      obtain ⟨j, hj, e⟩ := nI_of (x := x) (nn_i rfl (by omega))
      have hx : x.toInt = j := by rw [e, nI_toInt hj]
      have hb : ∀ i, j.testBit i = false := fun i => by
        by_cases hi : i < 12
        · have := h i (by omega)
          rw [e] at this
          have h9 : bt (nI j) i = j.testBit i := by
            show (BitVec.ofNat 32 j).getLsbD i = _
            rw [BitVec.getLsbD_ofNat]; simp; omega
          rw [← h9]; exact this
        · exact Nat.testBit_lt_two_pow (Nat.lt_of_lt_of_le (show j < 2 ^ 12 by omega) (Nat.pow_le_pow_right (by decide) (by omega)))
      have : j = 0 := Nat.eq_of_testBit_eq (fun i => by rw [hb i]; simp)
      omega
    · exact hn
/-- each node reached but the first has one before it that is reached -/
def RB (s : Int) (R : Int32) (f : Nat → Int32) : Prop := ∀ j : Nat, j < 12 → bt R j = true → (j : Int) = s ∨ (0 ≤ (f j).toInt ∧ (f j).toInt ≤ 11 ∧ bt R (f j).toInt.toNat = true)
def SubB (E R : Int32) : Prop := ∀ j : Nat, j < 12 → bt E j = true → bt R j = true
theorem RB.first {k : Int32} {s : Int} {f : Nat → Int32} (hs : k.toInt = s) (h0 : 0 ≤ s) (h1 : s ≤ 11) {R : Int32} (hR : R = (1 : Int32) <<< (k &&& 31)) : RB s R f := fun j hj h => by
  rw [hR, bt_1 (by omega) (by omega) hj] at h
  have := of_decide_eq_true h
  exact Or.inl (by omega)
theorem RB.more {s : Int} {R E : Int32} {f : Nat → Int32} {i j : Int32} (h : RB s R f) (hE : SubB E R) {f' : Nat → Int32} (hf : f' = upd f j.toNatClampNeg i) {R' : Int32} (hR : R' = R ||| (1 : Int32) <<< (j &&& 31)) (hi : bt E i.toInt.toNat = true) (hj : bt R j.toInt.toNat = false) (hi0 : 0 ≤ i.toInt) (hi1 : i.toInt ≤ 11) (hj0 : 0 ≤ j.toInt) (hj1 : j.toInt ≤ 11) : RB s R' f' := fun q hq hb => by
  have hc : j.toNatClampNeg = j.toInt.toNat := rfl
  rw [hR, bt_or, bt_1 hj0 hj1 hq] at hb
  have mono : ∀ q, bt R q = true → bt R' q = true := fun q h9 => by rw [hR, bt_or, h9]; rfl
  rw [hf, hc]
  by_cases e : q = j.toInt.toNat
  · rw [e, pk_us]
    exact Or.inr ⟨hi0, hi1, mono _ (hE _ (by omega) hi)⟩
  · rw [pk_un e]
    have hb2 : bt R q = true := by
      rcases h9 : bt R q with _ | _
      · rw [h9, Bool.false_or] at hb; exact absurd (of_decide_eq_true hb) e
      · rfl
    rcases h q hq hb2 with h9 | ⟨h1, h2, h3⟩
    · exact Or.inl h9
    · exact Or.inr ⟨h1, h2, mono _ h3⟩
theorem SubB.refl (R : Int32) : SubB R R := fun _ _ h => h
theorem SubB.zero (R : Int32) : SubB 0 R := fun j _ h => by rw [bt_0] at h; cases h
theorem SubB.grow {E R R' x : Int32} (h : SubB E R) (hR : R' = R ||| x) : SubB E R' := fun q hq h9 => by rw [hR, bt_or, h q hq h9]; rfl
theorem SubB.both {E E' R R' x : Int32} (h : SubB E R) (hE : E' = E ||| x) (hR : R' = R ||| x) : SubB E' R' := fun q hq h9 => by
  rw [hE, bt_or] at h9
  rw [hR, bt_or]
  rcases h8 : bt E q with _ | _
  · rw [h8] at h9; simp at h9; rw [h9]; simp
  · rw [h q hq h8]; rfl
theorem RB.at {s : Int} {R : Int32} {f : Nat → Int32} {n : Int32} (h : RB s R f) (h0 : 0 ≤ n.toInt) (h1 : n.toInt ≤ 11) (hb : bt R n.toInt.toNat = true) (hn : n.toInt ≠ s) : 0 ≤ (f n.toNatClampNeg).toInt ∧ (f n.toNatClampNeg).toInt ≤ 11 ∧ bt R (f n.toNatClampNeg).toInt.toNat = true := by
  have hc : n.toNatClampNeg = n.toInt.toNat := rfl
  rw [hc]
  rcases h n.toInt.toNat (by omega) hb with h9 | h9
  · omega
  · exact h9
theorem bt_yes {b : Bool} {v : Int} (h : (b = true ∧ v = 1) ∨ (b = false ∧ v = 0)) (hv : ¬ v = 0) : b = true := by
  rcases h with ⟨h9, _⟩ | ⟨_, h9⟩
  · exact h9
  · exact absurd h9 hv
theorem bt_no {b : Bool} {v : Int} (h : (b = true ∧ v = 1) ∨ (b = false ∧ v = 0)) (hv : v = 0) : b = false := by
  rcases h with ⟨_, h9⟩ | ⟨h9, _⟩
  · omega
  · exact h9
end
section
/-! the cheapest flow: the class's measure -/
def enB (x : Int32) : Int32 := if x.toInt < 40 then iI (x.toInt + 1) else iI (39 - x.toInt)
theorem enB_f {x : Int32} {a : Nat} (h : x.toInt = (a : Int)) (ha : a < 40) : (enB x).toInt = (a : Int) + 1 := by
  unfold enB
  rw [if_pos (by omega), iI_t (by omega) (by omega), h]
theorem enB_b {x : Int32} {a : Nat} (h : x.toInt = (a : Int) + 40) (ha : a < 40) : (enB x).toInt = -((a : Int) + 1) := by
  unfold enB
  rw [if_neg (by omega), iI_t (by omega) (by omega), h]
  omega
def MsT (f95 f96 f97 f98 f99 : Nat → Int32) (ar sN : Nat) (pr bY : Nat → Int32) (P : Nat → Nat) : Prop := ∀ w, w < 12 → pr w ≠ 536870912 → w ≠ sN → ∀ u a c, u < 12 → Lk f95 f96 f97 f98 f99 ar (bY w) w u a c → P w ≤ P u + 1
def MsE (f95 f96 f97 f98 f99 : Nat → Int32) (ar : Nat) (pr : Nat → Int32) (P bf bb : Nat → Nat) : Prop := ∀ a x y, a < ar → x < 12 → y < 12 → f95 a = nI x → f96 a = nI y → ((f99 a).toInt < (f97 a).toInt → pr x ≠ 536870912 → P x < bf a → (pr y).toInt ≤ (pr x).toInt + (f98 a).toInt) ∧ (0 < (f99 a).toInt → pr y ≠ 536870912 → P y < bb a → (pr x).toInt ≤ (pr y).toInt - (f98 a).toInt)
/-- up to the arc i a turn has looked -/
def upB (k i : Nat) : Nat → Nat := fun a => if a < i then k + 1 else k
/-- at the head of a turn (k turns are done), or within one -/
def MsG (f95 f96 f97 f98 f99 : Nat → Int32) (ar sN : Nat) (R : Nat → Prop) (p : Nat → Int) (pr bY : Nat → Int32) (k : Nat) (ch : Int) (bf bb : Nat → Nat) : Prop := ∃ T tm P, BfI f95 f96 f97 f98 f99 ar sN R p pr bY T tm ∧ (∀ v, P v ≤ k) ∧ P sN = 0 ∧ (ch = 0 → ∀ v, P v < k) ∧ MsT f95 f96 f97 f98 f99 ar sN pr bY P ∧ MsE f95 f96 f97 f98 f99 ar pr P bf bb
def PoX (f95 f96 f97 f98 f99 : Nat → Int32) (ar sN : Nat) (R : Nat → Prop) (p : Nat → Int) : Prop := PoO f95 f96 f97 f98 f99 ar R p ∧ (∀ v, R v → 0 ≤ p v) ∧ p sN = 0 ∧ R sN
theorem MsG.start {f95 f96 f97 f98 f99 pr bY : Nat → Int32} {ar sN : Nat} {R : Nat → Prop} {p : Nat → Int} {k : Nat} {ch : Int} (hX : PoX f95 f96 f97 f98 f99 ar sN R p) (hs : sN < 12) (h : ∀ n, n < 12 → pr n = if n = sN then 0 else 536870912) (hk : k = 0) (hc : ch = 1) : MsG f95 f96 f97 f98 f99 ar sN R p pr bY k ch (fun _ => k) (fun _ => k) := by
  subst hk hc
  refine ⟨fun _ => 0, 0, fun _ => 0, BfI.init hs hX.2.2.2 hX.2.2.1 h, fun _ => Nat.le_refl _, rfl, fun h9 => absurd h9 (by decide), fun w _ _ _ u a c _ _ => Nat.zero_le _, fun a x y _ _ _ _ _ => ⟨fun _ _ h9 => absurd h9 (Nat.not_lt_zero _), fun _ _ h9 => absurd h9 (Nat.not_lt_zero _)⟩⟩
theorem MsG.go {f95 f96 f97 f98 f99 pr bY : Nat → Int32} {ar sN : Nat} {R : Nat → Prop} {p : Nat → Int} {k i : Nat} {ch c2 : Int} (h : MsG f95 f96 f97 f98 f99 ar sN R p pr bY k ch (fun _ => k) (fun _ => k)) (hi : i = 0) : MsG f95 f96 f97 f98 f99 ar sN R p pr bY (k + 1) c2 (upB k i) (upB k i) := by
  subst hi
  obtain ⟨T, tm, P, h1, h2, h3, h4, h5, h6⟩ := h
  have e : ∀ a, upB k 0 a = k := fun a => if_neg (Nat.not_lt_zero a)
  refine ⟨T, tm, P, h1, fun v => by have := h2 v; omega, h3, fun _ v => by have := h2 v; omega, h5, fun a x y k1 k2 k3 k4 k5 => ?_⟩
  rw [e]
  exact h6 a x y k1 k2 k3 k4 k5
theorem MsG.out {f95 f96 f97 f98 f99 pr bY : Nat → Int32} {ar sN : Nat} {R : Nat → Prop} {p : Nat → Int} {k i k2 : Nat} {ch : Int} (h : MsG f95 f96 f97 f98 f99 ar sN R p pr bY (k + 1) ch (upB k i) (upB k i)) (hi : ar ≤ i) (hk : k2 = k + 1) : MsG f95 f96 f97 f98 f99 ar sN R p pr bY k2 ch (fun _ => k2) (fun _ => k2) := by
  subst hk
  obtain ⟨T, tm, P, h1, h2, h3, h4, h5, h6⟩ := h
  refine ⟨T, tm, P, h1, h2, h3, h4, h5, fun a x y k1 k2 k3 k4 k5 => ?_⟩
  have h9 := h6 a x y k1 k2 k3 k4 k5
  have e : upB k i a = k + 1 := if_pos (by omega)
  rw [e] at h9
  exact h9
/-- an arc that asks for nothing, ahead and back -/
theorem MsG.skipF {f95 f96 f97 f98 f99 pr bY : Nat → Int32} {ar sN : Nat} {R : Nat → Prop} {p : Nat → Int} {k i x y : Nat} {ch : Int} (h : MsG f95 f96 f97 f98 f99 ar sN R p pr bY (k + 1) ch (upB k i) (upB k i)) (hx : x < 12) (hy : y < 12) (ex : f95 i = nI x) (ey : f96 i = nI y) (hn : (f99 i).toInt < (f97 i).toInt → pr x ≠ 536870912 → (pr y).toInt ≤ (pr x).toInt + (f98 i).toInt) : MsG f95 f96 f97 f98 f99 ar sN R p pr bY (k + 1) ch (upB k (i + 1)) (upB k i) := by
  obtain ⟨T, tm, P, h1, h2, h3, h4, h5, h6⟩ := h
  refine ⟨T, tm, P, h1, h2, h3, h4, h5, fun a x' y' k1 k2 k3 k4 k5 => ?_⟩
  have h9 := h6 a x' y' k1 k2 k3 k4 k5
  refine ⟨fun q1 q2 q3 => ?_, h9.2⟩
  by_cases e : a = i
  · subst e
    have e1 : x' = x := (nI_eq (by omega) (by omega)).mp (k4.symm.trans ex)
    have e2 : y' = y := (nI_eq (by omega) (by omega)).mp (k5.symm.trans ey)
    subst e1 e2
    exact hn q1 q2
  · refine h9.1 q1 q2 ?_
    have e2 : upB k (i + 1) a = upB k i a := by
      unfold upB
      by_cases e3 : a < i
      · rw [if_pos e3, if_pos (by omega)]
      · rw [if_neg e3, if_neg (by omega)]
    rw [← e2]
    exact q3
theorem MsG.skipB {f95 f96 f97 f98 f99 pr bY : Nat → Int32} {ar sN : Nat} {R : Nat → Prop} {p : Nat → Int} {k i x y : Nat} {ch : Int} (h : MsG f95 f96 f97 f98 f99 ar sN R p pr bY (k + 1) ch (upB k (i + 1)) (upB k i)) (hx : x < 12) (hy : y < 12) (ex : f95 i = nI x) (ey : f96 i = nI y) (hn : 0 < (f99 i).toInt → pr y ≠ 536870912 → (pr x).toInt ≤ (pr y).toInt - (f98 i).toInt) : MsG f95 f96 f97 f98 f99 ar sN R p pr bY (k + 1) ch (upB k (i + 1)) (upB k (i + 1)) := by
  obtain ⟨T, tm, P, h1, h2, h3, h4, h5, h6⟩ := h
  refine ⟨T, tm, P, h1, h2, h3, h4, h5, fun a x' y' k1 k2 k3 k4 k5 => ?_⟩
  have h9 := h6 a x' y' k1 k2 k3 k4 k5
  refine ⟨h9.1, fun q1 q2 q3 => ?_⟩
  by_cases e : a = i
  · subst e
    have e1 : x' = x := (nI_eq (by omega) (by omega)).mp (k4.symm.trans ex)
    have e2 : y' = y := (nI_eq (by omega) (by omega)).mp (k5.symm.trans ey)
    subst e1 e2
    exact hn q1 q2
  · refine h9.2 q1 q2 ?_
    have e2 : upB k (i + 1) a = upB k i a := by
      unfold upB
      by_cases e3 : a < i
      · rw [if_pos e3, if_pos (by omega)]
      · rw [if_neg e3, if_neg (by omega)]
    rw [← e2]
    exact q3
/-- a length is mended: v from u over the arc i -/
theorem MsG.mend {f95 f96 f97 f98 f99 pr bY pr2 bY2 : Nat → Int32} {ar sN : Nat} {R : Nat → Prop} {p : Nat → Int} {k : Nat} {ch : Int} {bf bb bf2 bb2 : Nat → Nat} {u v a : Nat} {c : Int} {b : Int32} (h : MsG f95 f96 f97 f98 f99 ar sN R p pr bY (k + 1) ch bf bb) (hX : PoX f95 f96 f97 f98 f99 ar sN R p) (hu : u < 12) (hv : v < 12) (huv : u ≠ v) (hc : -1000 ≤ c ∧ c ≤ 1000) (hL : Lk f95 f96 f97 f98 f99 ar b v u a c) (hpo : R u → R v ∧ p v ≤ p u + c) (hfu : pr u ≠ 536870912) (hl : (pr u).toInt + c < (pr v).toInt) (e1 : (pr2 v).toInt = (pr u).toInt + c) (e2 : ∀ w, w ≠ v → pr2 w = pr w) (e3 : bY2 v = b) (e4 : ∀ w, w ≠ v → bY2 w = bY w)
    (hP : ∀ P : Nat → Nat, MsE f95 f96 f97 f98 f99 ar pr P bf bb → k ≤ P u)
    (hE : ∀ P P2 : Nat → Nat, (∀ w, w ≠ v → P2 w = P w) → P2 v = k + 1 → MsE f95 f96 f97 f98 f99 ar pr P bf bb → MsE f95 f96 f97 f98 f99 ar pr2 P2 bf2 bb2) : MsG f95 f96 f97 f98 f99 ar sN R p pr2 bY2 (k + 1) 1 bf2 bb2 := by
  obtain ⟨T, tm, P, h1, h2, h3, h4, h5, h6⟩ := h
  have hB := BfI.relax h1 hX.2.1 hX.2.2.1 hu hv huv hc hL hpo hfu hl e1 e2 e3 e4
  have hvs : v ≠ sN := fun e9 => by
    have q1 := hB.1.1.1
    have q2 := h1.1.1
    rw [← e9] at q1 q2
    omega
  have hPu := hP P h6
  refine ⟨_, _, fun w => if w = v then k + 1 else P w, hB.1, fun w => ?_, ?_, fun h9 => absurd h9 (by decide), ?_, hE P _ (fun w hw => if_neg hw) (if_pos rfl) h6⟩
  · show (if w = v then k + 1 else P w) ≤ k + 1
    by_cases e : w = v
    · rw [if_pos e]; exact Nat.le_refl _
    · rw [if_neg e]; exact h2 w
  · show (if sN = v then k + 1 else P sN) = 0
    rw [if_neg (Ne.symm hvs)]
    exact h3
  · intro w hw hwl hws u9 a9 c9 hu9 hk9
    show (if w = v then k + 1 else P w) ≤ (if u9 = v then k + 1 else P u9) + 1
    by_cases e : w = v
    · rw [if_pos e]
      have hk : Lk f95 f96 f97 f98 f99 ar b v u9 a9 c9 := by rw [e, e3] at hk9; exact hk9
      have eu : u9 = u := by
        obtain ⟨g1, g2⟩ := hk
        obtain ⟨l1, l2⟩ := hL
        rcases g2 with ⟨j1, j2, j3, _⟩ | ⟨j1, j2, j3, _⟩
        · rcases l2 with ⟨m1, m2, m3, _⟩ | ⟨m1, m2, m3, _⟩
          · have ea : a9 = a := by omega
            subst ea
            exact (nI_eq (by omega) (by omega)).mp (j2.symm.trans m2)
          · omega
        · rcases l2 with ⟨m1, m2, m3, _⟩ | ⟨m1, m2, m3, _⟩
          · omega
          · have ea : a9 = a := by omega
            subst ea
            exact (nI_eq (by omega) (by omega)).mp (j2.symm.trans m2)
      rw [eu, if_neg huv]
      omega
    · rw [if_neg e]
      rw [e2 w e] at hwl
      rw [e4 w e] at hk9
      have h9 := h5 w hw hwl hws u9 a9 c9 hu9 hk9
      by_cases e9 : u9 = v
      · rw [if_pos e9]
        have := h2 w
        omega
      · rw [if_neg e9]; exact h9
theorem MsG.mendF {f95 f96 f97 f98 f99 pr bY pr2 bY2 : Nat → Int32} {ar sN : Nat} {R : Nat → Prop} {p : Nat → Int} {k i x y : Nat} {ch : Int} (h : MsG f95 f96 f97 f98 f99 ar sN R p pr bY (k + 1) ch (upB k i) (upB k i)) (hX : PoX f95 f96 f97 f98 f99 ar sN R p) (hi : i < ar) (h40 : ar ≤ 40) (hx : x < 12) (hy : y < 12) (hxy : x ≠ y) (ex : f95 i = nI x) (ey : f96 i = nI y) (hc : 0 ≤ (f98 i).toInt ∧ (f98 i).toInt ≤ 1000) (hr : (f99 i).toInt < (f97 i).toInt) (hfx : pr x ≠ 536870912) (hl : (pr x).toInt + (f98 i).toInt < (pr y).toInt) (e1 : (pr2 y).toInt = (pr x).toInt + (f98 i).toInt) (e2 : ∀ w, w ≠ y → pr2 w = pr w) (e3 : (bY2 y).toInt = (i : Int) + 1) (e4 : ∀ w, w ≠ y → bY2 w = bY w) : MsG f95 f96 f97 f98 f99 ar sN R p pr2 bY2 (k + 1) 1 (upB k (i + 1)) (upB k i) := by
  have e0 : upB k i i = k := if_neg (Nat.lt_irrefl i)
  refine MsG.mend (a := i) h hX hx hy hxy (by omega) ⟨hi, Or.inl ⟨e3, ex, ey, hr, rfl⟩⟩ (fun hR => (hX.1 i x y hi hx hy ex ey).1 hr hR) hfx hl e1 e2 rfl e4 (fun P hE => ?_) (fun P P2 q1 q2 hE => ?_)
  · have h9 := (hE i x y hi hx hy ex ey).1 hr hfx
    rw [e0] at h9
    exact Nat.le_of_not_lt (fun h8 => by have := h9 h8; omega)
  · intro a x' y' k1 k2 k3 k4 k5
    have h9 := hE a x' y' k1 k2 k3 k4 k5
    have hd : (pr2 y').toInt ≤ (pr y').toInt := by
      by_cases e : y' = y
      · rw [e, e1]; omega
      · rw [e2 y' e]; exact Int.le_refl _
    have hd2 : (pr2 x').toInt ≤ (pr x').toInt := by
      by_cases e : x' = y
      · rw [e, e1]; omega
      · rw [e2 x' e]; exact Int.le_refl _
    have ub : ∀ b : Nat, upB k b a ≤ k + 1 := fun b => by
      unfold upB
      by_cases e : a < b
      · rw [if_pos e]; exact Nat.le_refl _
      · rw [if_neg e]; omega
    refine ⟨fun r1 r2 r3 => ?_, fun r1 r2 r3 => ?_⟩
    · by_cases ev : x' = y
      · rw [ev, q2] at r3
        have := ub (i + 1)
        omega
      · rw [e2 x' ev] at r2 ⊢
        rw [q1 x' ev] at r3
        by_cases ea : a = i
        · subst ea
          have g1 : x' = x := (nI_eq (by omega) (by omega)).mp (k4.symm.trans ex)
          have g2 : y' = y := (nI_eq (by omega) (by omega)).mp (k5.symm.trans ey)
          rw [g2, e1, g1]
          exact Int.le_refl _
        · have e5 : upB k (i + 1) a = upB k i a := by
            unfold upB
            by_cases e3 : a < i
            · rw [if_pos e3, if_pos (by omega)]
            · rw [if_neg e3, if_neg (by omega)]
          rw [e5] at r3
          have := h9.1 r1 r2 r3
          omega
    · by_cases ev : y' = y
      · rw [ev, q2] at r3
        have := ub i
        omega
      · rw [e2 y' ev] at r2 ⊢
        rw [q1 y' ev] at r3
        have := h9.2 r1 r2 r3
        omega
theorem MsG.mendB {f95 f96 f97 f98 f99 pr bY pr2 bY2 : Nat → Int32} {ar sN : Nat} {R : Nat → Prop} {p : Nat → Int} {k i x y : Nat} {ch : Int} (h : MsG f95 f96 f97 f98 f99 ar sN R p pr bY (k + 1) ch (upB k (i + 1)) (upB k i)) (hX : PoX f95 f96 f97 f98 f99 ar sN R p) (hi : i < ar) (h40 : ar ≤ 40) (hx : x < 12) (hy : y < 12) (hxy : x ≠ y) (ex : f95 i = nI x) (ey : f96 i = nI y) (hc : 0 ≤ (f98 i).toInt ∧ (f98 i).toInt ≤ 1000) (hr : 0 < (f99 i).toInt) (hfy : pr y ≠ 536870912) (hl : (pr y).toInt - (f98 i).toInt < (pr x).toInt) (e1 : (pr2 x).toInt = (pr y).toInt - (f98 i).toInt) (e2 : ∀ w, w ≠ x → pr2 w = pr w) (e3 : (bY2 x).toInt = -((i : Int) + 1)) (e4 : ∀ w, w ≠ x → bY2 w = bY w) : MsG f95 f96 f97 f98 f99 ar sN R p pr2 bY2 (k + 1) 1 (upB k (i + 1)) (upB k (i + 1)) := by
  have e0 : upB k i i = k := if_neg (Nat.lt_irrefl i)
  refine MsG.mend (u := y) (v := x) (a := i) (c := -(f98 i).toInt) h hX hy hx (Ne.symm hxy) (by omega) ⟨hi, Or.inr ⟨e3, ey, ex, hr, rfl⟩⟩ (fun hR => by have h9 := (hX.1 i x y hi hx hy ex ey).2 hr hR; exact ⟨h9.1, by omega⟩) hfy (by omega) (by omega) e2 rfl e4 (fun P hE => ?_) (fun P P2 q1 q2 hE => ?_)
  · have h9 := (hE i x y hi hx hy ex ey).2 hr hfy
    rw [e0] at h9
    exact Nat.le_of_not_lt (fun h8 => by have := h9 h8; omega)
  · intro a x' y' k1 k2 k3 k4 k5
    have h9 := hE a x' y' k1 k2 k3 k4 k5
    have hd : (pr2 y').toInt ≤ (pr y').toInt := by
      by_cases e : y' = x
      · rw [e, e1]; omega
      · rw [e2 y' e]; exact Int.le_refl _
    have hd2 : (pr2 x').toInt ≤ (pr x').toInt := by
      by_cases e : x' = x
      · rw [e, e1]; omega
      · rw [e2 x' e]; exact Int.le_refl _
    have ub : ∀ b : Nat, upB k b a ≤ k + 1 := fun b => by
      unfold upB
      by_cases e : a < b
      · rw [if_pos e]; exact Nat.le_refl _
      · rw [if_neg e]; omega
    refine ⟨fun r1 r2 r3 => ?_, fun r1 r2 r3 => ?_⟩
    · by_cases ev : x' = x
      · rw [ev, q2] at r3
        have := ub (i + 1)
        omega
      · rw [e2 x' ev] at r2 ⊢
        rw [q1 x' ev] at r3
        have := h9.1 r1 r2 r3
        omega
    · by_cases ev : y' = x
      · rw [ev, q2] at r3
        have := ub (i + 1)
        omega
      · rw [e2 y' ev] at r2 ⊢
        rw [q1 y' ev] at r3
        by_cases ea : a = i
        · subst ea
          have g1 : x' = x := (nI_eq (by omega) (by omega)).mp (k4.symm.trans ex)
          have g2 : y' = y := (nI_eq (by omega) (by omega)).mp (k5.symm.trans ey)
          rw [g1, e1, g2]
          exact Int.le_refl _
        · have e5 : upB k (i + 1) a = upB k i a := by
            unfold upB
            by_cases e3 : a < i
            · rw [if_pos e3, if_pos (by omega)]
            · rw [if_neg e3, if_neg (by omega)]
          rw [e5] at r3
          have := h9.2 r1 r2 r3
          omega
/-- at the end no arc with room undercuts the lengths -/
theorem MsG.done {f95 f96 f97 f98 f99 pr bY : Nat → Int32} {ar sN : Nat} {R : Nat → Prop} {p : Nat → Int} {k : Nat} {ch : Int} (h : MsG f95 f96 f97 f98 f99 ar sN R p pr bY k ch (fun _ => k) (fun _ => k)) (hX : PoX f95 f96 f97 f98 f99 ar sN R p) (hk : 12 ≤ k ∨ ch = 0) : PrC f95 f96 f97 f98 f99 ar pr ∧ (∃ rk, TrK f95 f96 f97 f98 f99 ar sN pr bY rk) ∧ (pr sN).toInt = 0 ∧ ∀ v, v < 12 → 0 ≤ (pr v).toInt ∧ (pr v).toInt ≤ 536870912 ∧ (pr v ≠ 536870912 → (pr v).toInt ≤ 11000) := by
  obtain ⟨T, tm, P, h1, h2, h3, h4, h5, h6⟩ := h
  obtain ⟨rk, hT⟩ := BfI.rank h1 hX.2.1
  have hlow : ∀ m v, rk v < m → v < 12 → pr v ≠ 536870912 → P v ≤ cntB (fun q => decide (rk q < rk v)) 12 := by
    intro m
    induction m with
    | zero => intro v h9; exact absurd h9 (Nat.not_lt_zero _)
    | succ m ih =>
      intro v hv1 hv2 hv3
      by_cases e : v = sN
      · rw [e, h3]; exact Nat.zero_le _
      · obtain ⟨u, a, c, g1, g2, g3, g4, g5, g6⟩ := hT v hv2 hv3 e
        have q1 := h5 v hv2 hv3 e u a c g1 g3
        have q2 := ih u (by omega) g1 g4
        have q3 := cntB_lt (p := fun q => decide (rk q < rk u)) (q := fun q => decide (rk q < rk v)) (n := 12) (i := u) (fun q _ h9 => decide_eq_true (by have := of_decide_eq_true h9; omega)) g1 (decide_eq_false (Nat.lt_irrefl _)) (decide_eq_true g6)
        omega
  have h11 : ∀ v, v < 12 → pr v ≠ 536870912 → P v < k := by
    intro v hv hl
    rcases hk with hk | hk
    · have q1 := hlow (rk v + 1) v (by omega) hv hl
      have q2 := cntB_miss (p := fun q => decide (rk q < rk v)) (n := 12) (i := v) hv (decide_eq_false (Nat.lt_irrefl _))
      omega
    · exact h4 hk v
  refine ⟨fun a x y k1 k2 k3 k4 k5 => ?_, ⟨rk, hT⟩, h1.1.1, fun v hv => ?_⟩
  · have h9 := h6 a x y k1 k2 k3 k4 k5
    exact ⟨fun r1 r2 => h9.1 r1 r2 (h11 x k2 r2), fun r1 r2 => h9.2 r1 r2 (h11 y k3 r2)⟩
  · have h9 := h1.1.bd hX.2.1 hv
    exact ⟨h9.1, h9.2.1, fun h8 => (h9.2.2 h8).1⟩
theorem MsG.bd {f95 f96 f97 f98 f99 pr bY : Nat → Int32} {ar sN : Nat} {R : Nat → Prop} {p : Nat → Int} {k : Nat} {ch : Int} {bf bb : Nat → Nat} (h : MsG f95 f96 f97 f98 f99 ar sN R p pr bY k ch bf bb) (hX : PoX f95 f96 f97 f98 f99 ar sN R p) : ∀ v, v < 12 → 0 ≤ (pr v).toInt ∧ (pr v).toInt ≤ 536870912 ∧ (pr v ≠ 536870912 → (pr v).toInt ≤ 11000) := by
  obtain ⟨T, tm, P, h1, _⟩ := h
  intro v hv
  have h9 := h1.1.bd hX.2.1 hv
  exact ⟨h9.1, h9.2.1, fun h8 => (h9.2.2 h8).1⟩
theorem msIni {L0 L1 : Nat → Int32} {p : Int32} (h : ∀ q, q < 12 → L0 q = 536870912) (e : L1 = upd L0 p.toNatClampNeg 0) : ∀ n, n < 12 → L1 n = if n = p.toInt.toNat then 0 else 536870912 := by
  intro n hn
  rw [e]
  show (if n = p.toInt.toNat then (0 : Int32) else L0 n) = _
  by_cases e9 : n = p.toInt.toNat
  · rw [if_pos e9, if_pos e9]
  · rw [if_neg e9, if_neg e9]
    exact h n hn
/-- a row's entry by the node's number -/
theorem rowAt {L f : Nat → Int32} {v i : Int32} {x I : Nat} (hv : v = L i.toNatClampNeg) (hi : i = f I) (hx : x < 12) (e : f I = nI x) : L x = v := by
  rw [hv, hi, e]
  show L x = L (nI x).toInt.toNat
  rw [nI_toInt (by omega)]
  rfl
theorem ixAt {f : Nat → Int32} {i : Int32} {x I : Nat} (hi : i = f I) (hx : x < 12) (e : f I = nI x) : i.toNatClampNeg = x := by
  rw [hi, e]
  show (nI x).toInt.toNat = x
  rw [nI_toInt (by omega)]
  rfl
theorem updAt {L L2 : Nat → Int32} {i y : Int32} {x : Nat} (h : L2 = upd L i.toNatClampNeg y) (hi : i.toNatClampNeg = x) : L2 x = y ∧ ∀ w, w ≠ x → L2 w = L w := by
  rw [h, hi]
  exact ⟨if_pos rfl, fun w hw => if_neg hw⟩
end
section
/-! the cheapest flow: the class's push -/
/-- the arc over which a node was come to, the node before it, and what is left on the arc -/
def qA (bef : Nat → Int32) (n : Nat) : Nat := if (bef n).toInt < 40 then (bef n).toInt.toNat else ((bef n).toInt - 40).toNat
def qU (f95 f96 bef : Nat → Int32) (n : Nat) : Nat := if (bef n).toInt < 40 then (f95 (qA bef n)).toInt.toNat else (f96 (qA bef n)).toInt.toNat
def qR (f97 f99 bef : Nat → Int32) (n : Nat) : Int := if (bef n).toInt < 40 then (f97 (qA bef n)).toInt - (f99 (qA bef n)).toInt else (f99 (qA bef n)).toInt
def qS (bef : Nat → Int32) (n : Nat) (k : Int) : Int := if (bef n).toInt < 40 then k else -k
def qIt (f95 f96 bef : Nat → Int32) (t : Nat) : Nat → Nat
  | 0 => t
  | k + 1 => qU f95 f96 bef (qIt f95 f96 bef t k)
theorem TrK.cls {f95 f96 f97 f98 f99 pr bef : Nat → Int32} {ar sN : Nat} {rk : Nat → Nat} (hT : TrK f95 f96 f97 f98 f99 ar sN pr (fun w => enB (bef w)) rk) (hb : ∀ q : Nat, 0 ≤ (bef q).toInt ∧ (bef q).toInt ≤ 79) {n : Nat} (hn : n < 12) (hl : pr n ≠ 536870912) (hs : n ≠ sN) : ∃ c, Lk f95 f96 f97 f98 f99 ar (enB (bef n)) n (qU f95 f96 bef n) (qA bef n) c ∧ qU f95 f96 bef n < 12 ∧ pr (qU f95 f96 bef n) ≠ 536870912 ∧ (pr (qU f95 f96 bef n)).toInt + c ≤ (pr n).toInt ∧ rk (qU f95 f96 bef n) < rk n ∧ 1 ≤ qR f97 f99 bef n ∧ c = qS bef n (f98 (qA bef n)).toInt := by
  obtain ⟨u, a, c, g1, g2, ⟨g3, g4⟩, g5, g6, g7⟩ := hT n hn hl hs
  have hx := hb n
  rcases g4 with ⟨j1, j2, j3, j4, j5⟩ | ⟨j1, j2, j3, j4, j5⟩
  · have h40 : (bef n).toInt < 40 := Classical.byContradiction (fun h9 => by
      have e : (enB (bef n)).toInt = -((((bef n).toInt - 40).toNat : Int) + 1) ∨ ¬ (bef n).toInt < 80 := by
        by_cases h8 : (bef n).toInt < 80
        · exact Or.inl (enB_b (by omega) (by omega))
        · exact Or.inr h8
      have j1' : (enB (bef n)).toInt = (a : Int) + 1 := j1
      omega)
    have ea : qA bef n = a := by
      unfold qA
      rw [if_pos h40]
      have e := enB_f (x := bef n) (a := (bef n).toInt.toNat) (by omega) (by omega)
      have j1' : (enB (bef n)).toInt = (a : Int) + 1 := j1
      omega
    have eu : qU f95 f96 bef n = u := by
      unfold qU
      rw [if_pos h40, ea, j2, nI_toInt (by omega)]
      omega
    refine ⟨c, ?_, by rw [eu]; exact g1, by rw [eu]; exact g5, by rw [eu]; exact g6, by rw [eu]; exact g7, ?_, ?_⟩
    · rw [ea, eu]
      exact ⟨g3, Or.inl ⟨j1, j2, j3, j4, j5⟩⟩
    · unfold qR
      rw [if_pos h40, ea]
      omega
    · unfold qS
      rw [if_pos h40, ea]
      exact j5
  · have h40 : ¬ (bef n).toInt < 40 := fun h9 => by
      have e := enB_f (x := bef n) (a := (bef n).toInt.toNat) (by omega) (by omega)
      have j1' : (enB (bef n)).toInt = -((a : Int) + 1) := j1
      omega
    have ea : qA bef n = a := by
      unfold qA
      rw [if_neg h40]
      have e := enB_b (x := bef n) (a := ((bef n).toInt - 40).toNat) (by omega) (by omega)
      have j1' : (enB (bef n)).toInt = -((a : Int) + 1) := j1
      omega
    have eu : qU f95 f96 bef n = u := by
      unfold qU
      rw [if_neg h40, ea, j2, nI_toInt (by omega)]
      omega
    refine ⟨c, ?_, by rw [eu]; exact g1, by rw [eu]; exact g5, by rw [eu]; exact g6, by rw [eu]; exact g7, ?_, ?_⟩
    · rw [ea, eu]
      exact ⟨g3, Or.inr ⟨j1, j2, j3, j4, j5⟩⟩
    · unfold qR
      rw [if_neg h40, ea]
      omega
    · unfold qS
      rw [if_neg h40, ea]
      exact j5
def qV (rk : Nat → Nat) (n : Nat) : Nat := cntB (fun q => decide (rk q < rk n)) 12
theorem qV_lt {rk : Nat → Nat} {u n : Nat} (hu : u < 12) (h : rk u < rk n) : qV rk u < qV rk n := by
  have q3 := cntB_lt (p := fun q => decide (rk q < rk u)) (q := fun q => decide (rk q < rk n)) (n := 12) (i := u) (fun q _ h9 => decide_eq_true (by have := of_decide_eq_true h9; omega)) hu (decide_eq_false (Nat.lt_irrefl _)) (decide_eq_true h)
  exact q3
theorem qV_le {rk : Nat → Nat} {n : Nat} (hn : n < 12) : qV rk n ≤ 11 := by
  have q2 := cntB_miss (p := fun q => decide (rk q < rk n)) (n := 12) (i := n) hn (decide_eq_false (Nat.lt_irrefl _))
  have e : qV rk n = cntB (fun q => decide (rk q < rk n)) 12 := rfl
  omega
/-- the way back is measured -/
def Qk1 (f95 f96 f97 f99 pr bef : Nat → Int32) (rk : Nat → Nat) (t : Nat) (mo : Int) (i n : Nat) (w : Int) : Prop := n = qIt f95 f96 bef t i ∧ n < 12 ∧ pr n ≠ 536870912 ∧ qV rk n + i ≤ 11 ∧ 1 ≤ w ∧ w ≤ mo ∧ ∀ k, k < i → w ≤ qR f97 f99 bef (qIt f95 f96 bef t k)
theorem Qk1.start {f95 f96 f97 f99 pr bef : Nat → Int32} {rk : Nat → Nat} {t i n : Nat} {mo w : Int} (ht : t < 12) (hl : pr t ≠ 536870912) (hi : i = 0) (hn : n = t) (hw : w = mo) (hm : 1 ≤ mo) : Qk1 f95 f96 f97 f99 pr bef rk t mo i n w := by
  subst hi hn hw
  have := qV_le (rk := rk) ht
  exact ⟨rfl, ht, hl, by omega, hm, Int.le_refl _, fun k hk => absurd hk (Nat.not_lt_zero k)⟩
theorem Qk1.step {f95 f96 f97 f98 f99 pr bef : Nat → Int32} {rk : Nat → Nat} {ar sN t i i2 n n2 : Nat} {mo w w2 : Int} (h : Qk1 f95 f96 f97 f99 pr bef rk t mo i n w) (hT : TrK f95 f96 f97 f98 f99 ar sN pr (fun w => enB (bef w)) rk) (hb : ∀ q : Nat, 0 ≤ (bef q).toInt ∧ (bef q).toInt ≤ 79) (hs : n ≠ sN) (hn : n2 = qU f95 f96 bef n) (hi : i2 = i + 1) (h1 : w2 ≤ w) (h2 : w2 ≤ qR f97 f99 bef n) (h3 : w2 = w ∨ w2 = qR f97 f99 bef n) : Qk1 f95 f96 f97 f99 pr bef rk t mo i2 n2 w2 := by
  obtain ⟨b1, b2, b3, b4, b5, b6, b7⟩ := h
  obtain ⟨c, g1, g2, g3, g4, g5, g6, g7⟩ := hT.cls hb b2 b3 hs
  have h4 := qV_lt g2 g5
  subst hi hn
  refine ⟨?_, g2, g3, by omega, by omega, by omega, fun k hk => ?_⟩
  · show qU f95 f96 bef n = qU f95 f96 bef (qIt f95 f96 bef t i)
    rw [← b1]
  · by_cases e : k = i
    · rw [e, ← b1]; exact h2
    · have := b7 k (by omega)
      omega
/-- the way back is used -/
def Qk2 (d : NtD) (f95 f96 f97 f98 f99 g99 pr bef : Nat → Int32) (rk : Nat → Nat) (ar sN t : Nat) (w : Int) (I0 i n : Nat) : Prop := n = qIt f95 f96 bef t i ∧ n < 12 ∧ pr n ≠ 536870912 ∧ qV rk n + i ≤ 11 ∧ i ≤ I0 ∧ FlO f97 g99 ar ∧ (∀ S, rsA d (fI g99) S ar = rsA d (fI f99) S ar - (sW S n w - sW S t w)) ∧ (∀ a, a < ar → g99 a = f99 a ∨ ∃ m, m < 12 ∧ pr m ≠ 536870912 ∧ m ≠ sN ∧ ((enB (bef m)).toInt = (a : Int) + 1 ∨ (enB (bef m)).toInt = -((a : Int) + 1))) ∧ (∀ m, m < 12 → pr m ≠ 536870912 → m ≠ sN → rk m ≤ rk n → g99 (qA bef m) = f99 (qA bef m)) ∧ csA d (fI g99) ar = csA d (fI f99) ar + w * ((pr t).toInt - (pr n).toInt)
theorem Qk2.start {d : NtD} {f95 f96 f97 f98 f99 pr bef : Nat → Int32} {rk : Nat → Nat} {ar sN t I0 i n : Nat} {w : Int} (hF : FlO f97 f99 ar) (ht : t < 12) (hl : pr t ≠ 536870912) (hi : i = 0) (hn : n = t) : Qk2 d f95 f96 f97 f98 f99 f99 pr bef rk ar sN t w I0 i n := by
  subst hi hn
  have := qV_le (rk := rk) ht
  refine ⟨rfl, ht, hl, by omega, Nat.zero_le _, hF, fun S => by omega, fun a _ => Or.inl rfl, fun _ _ _ _ _ => rfl, ?_⟩
  rw [show (pr n).toInt - (pr n).toInt = 0 from by omega, Int.mul_zero]
  omega
theorem csA_same {d : NtD} {fl gl : Nat → Int} : ∀ {m : Nat}, (∀ a, a < m → gl a = fl a) → csA d gl m = csA d fl m := by
  intro m
  induction m with
  | zero => intro _; rfl
  | succ m ih =>
    intro h
    show csA d gl m + gl m * tCo d m = csA d fl m + fl m * tCo d m
    rw [ih (fun a ha => h a (by omega)), h m (by omega)]
theorem csA_put {d : NtD} {fl gl : Nat → Int} {a : Nat} {k : Int} : ∀ {m : Nat}, a < m → gl a = fl a + k → (∀ b, b ≠ a → gl b = fl b) → csA d gl m = csA d fl m + k * tCo d a := by
  intro m
  induction m with
  | zero => intro h; exact absurd h (Nat.not_lt_zero a)
  | succ m ih =>
    intro ha h1 h2
    show csA d gl m + gl m * tCo d m = csA d fl m + fl m * tCo d m + k * tCo d a
    by_cases e : a = m
    · subst e
      rw [csA_same (fun b hb => h2 b (by omega)), h1, Int.add_mul]
      omega
    · rw [ih (by omega) h1 h2, h2 m (Ne.symm e)]
      omega
theorem Qk2.step {f95 f96 f97 f98 f99 g99 k99 pr bef : Nat → Int32} {rk : Nat → Nat} {ar sN t I0 i i2 n n2 m : Nat} {mo w : Int} {y : Int32} (h : Qk2 (((ar : Nat) : Int), f95, f96, f97, f98) f95 f96 f97 f98 f99 g99 pr bef rk ar sN t w I0 i n) (hA : ArO f95 f96 f97 f98 ar) (hT : TrK f95 f96 f97 f98 f99 ar sN pr (fun w => enB (bef w)) rk) (hC : PrC f95 f96 f97 f98 f99 ar pr) (hF : FlO f97 f99 ar) (hb : ∀ q : Nat, 0 ≤ (bef q).toInt ∧ (bef q).toInt ≤ 79) (h1 : Qk1 f95 f96 f97 f99 pr bef rk t mo I0 m w) (hm : m = sN) (hs : n ≠ sN) (hn : n2 = qU f95 f96 bef n) (hi : i2 = i + 1) (hk : k99 = upd g99 (qA bef n) y) (hy : y.toInt = (g99 (qA bef n)).toInt + qS bef n w) : Qk2 (((ar : Nat) : Int), f95, f96, f97, f98) f95 f96 f97 f98 f99 k99 pr bef rk ar sN t w I0 i2 n2 := by
  obtain ⟨b1, b2, b3, b4, b5, b6, b7, b8, b9, b10⟩ := h
  obtain ⟨c, g1, g2, g3, g4, g5, g6, g7⟩ := hT.cls hb b2 b3 hs
  have hq := qV_lt g2 g5
  have hi9 : i ≠ I0 := fun e9 => hs (by rw [b1, e9, ← h1.1, hm])
  have hw := h1.2.2.2.2.2.2 i (by omega)
  rw [← b1] at hw
  have hw1 := h1.2.2.2.2.1
  have hun := b9 n b2 b3 hs (Nat.le_refl _)
  have ha := g1.1
  have hfa := hF (qA bef n) ha
  have hk1 : k99 (qA bef n) = y := by rw [hk]; exact if_pos rfl
  have hk2 : ∀ a, a ≠ qA bef n → k99 a = g99 a := fun a h9 => by rw [hk]; exact if_neg h9
  subst hi hn
  have tight : (pr n).toInt = (pr (qU f95 f96 bef n)).toInt + c := by
    obtain ⟨_, l2⟩ := g1
    rcases l2 with ⟨j1, j2, j3, j4, j5⟩ | ⟨j1, j2, j3, j4, j5⟩
    · have h9 := (hC (qA bef n) (qU f95 f96 bef n) n ha g2 b2 j2 j3).1 j4 g3
      omega
    · have h9 := (hC (qA bef n) n (qU f95 f96 bef n) ha b2 g2 j3 j2).2 j4 g3
      omega
  refine ⟨?_, g2, g3, by omega, by omega, ?_, ?_, ?_, ?_, ?_⟩
  · show qU f95 f96 bef n = qU f95 f96 bef (qIt f95 f96 bef t i)
    rw [← b1]
  · intro a h9
    by_cases e : a = qA bef n
    · rw [e, hk1, hy, hun]
      by_cases q : (bef n).toInt < 40
      · have e1 : qS bef n w = w := if_pos q
        have e2 : qR f97 f99 bef n = (f97 (qA bef n)).toInt - (f99 (qA bef n)).toInt := if_pos q
        omega
      · have e1 : qS bef n w = -w := if_neg q
        have e2 : qR f97 f99 bef n = (f99 (qA bef n)).toInt := if_neg q
        omega
    · rw [hk2 a e]; exact b6 a h9
  · intro S
    rw [rsA_put (fl := fI g99) (gl := fI k99) (a := qA bef n) (k := qS bef n w) ha (by show (k99 (qA bef n)).toInt = (g99 (qA bef n)).toInt + qS bef n w; rw [hk1, hy]) (fun b h9 => by show (k99 b).toInt = (g99 b).toInt; rw [hk2 b h9]), b7 S]
    obtain ⟨_, l2⟩ := g1
    by_cases q : (bef n).toInt < 40
    · have e1 : qS bef n w = w := if_pos q
      rcases l2 with ⟨j1, j2, j3, j4, j5⟩ | ⟨j1, j2, j3, j4, j5⟩
      · rw [tFr_nI (d := (((ar : Nat) : Int), f95, f96, f97, f98)) g2 j2, tTo_nI (d := (((ar : Nat) : Int), f95, f96, f97, f98)) b2 j3, e1]
        omega
      · have e := enB_f (x := bef n) (a := (bef n).toInt.toNat) (by have := hb n; omega) (by omega)
        omega
    · have e1 : qS bef n w = -w := if_neg q
      rcases l2 with ⟨j1, j2, j3, j4, j5⟩ | ⟨j1, j2, j3, j4, j5⟩
      · have e := enB_b (x := bef n) (a := ((bef n).toInt - 40).toNat) (by omega) (by have := hb n; omega)
        omega
      · rw [tFr_nI (d := (((ar : Nat) : Int), f95, f96, f97, f98)) b2 j3, tTo_nI (d := (((ar : Nat) : Int), f95, f96, f97, f98)) g2 j2, e1, sW_neg, sW_neg]
        omega
  · intro a h9
    by_cases e : a = qA bef n
    · refine Or.inr ⟨n, b2, b3, hs, ?_⟩
      obtain ⟨_, l2⟩ := g1
      rcases l2 with ⟨j1, _⟩ | ⟨j1, _⟩
      · rw [e]; exact Or.inl j1
      · rw [e]; exact Or.inr j1
    · rw [hk2 a e]; exact b8 a h9
  · intro q hq1 hq2 hq3 hq4
    rw [hk2 _ (fun e => by
      obtain ⟨c9, k1, k2, k3, k4, k5, _⟩ := hT.cls hb hq1 hq2 hq3
      rw [e] at k1
      have ew := hT.apart hq1 b2 k2 g2 k1 g1 k5 g5
      rw [ew] at hq4
      omega)]
    exact b9 q hq1 hq2 hq3 (by omega)
  · rw [csA_put (fl := fI g99) (gl := fI k99) (a := qA bef n) (k := qS bef n w) ha (by show (k99 (qA bef n)).toInt = (g99 (qA bef n)).toInt + qS bef n w; rw [hk1, hy]) (fun b h9 => by show (k99 b).toInt = (g99 b).toInt; rw [hk2 b h9]), b10]
    have e5 : qS bef n w * tCo (((ar : Nat) : Int), f95, f96, f97, f98) (qA bef n) = w * c := by
      show qS bef n w * (f98 (qA bef n)).toInt = w * c
      rw [g7]
      by_cases q : (bef n).toInt < 40
      · rw [show qS bef n w = w from if_pos q, show qS bef n (f98 (qA bef n)).toInt = (f98 (qA bef n)).toInt from if_pos q]
      · rw [show qS bef n w = -w from if_neg q, show qS bef n (f98 (qA bef n)).toInt = -(f98 (qA bef n)).toInt from if_neg q, Int.neg_mul, Int.mul_neg]
    rw [e5, show (pr t).toInt - (pr (qU f95 f96 bef n)).toInt = ((pr t).toInt - (pr n).toInt) + c from by omega, Int.mul_add]
    omega
theorem Qk2.wid {d : NtD} {f95 f96 f97 f98 f99 g99 pr bef : Nat → Int32} {rk : Nat → Nat} {ar sN t I0 i n m : Nat} {mo w : Int} (h : Qk2 d f95 f96 f97 f98 f99 g99 pr bef rk ar sN t w I0 i n) (h1 : Qk1 f95 f96 f97 f99 pr bef rk t mo I0 m w) (hm : m = sN) (hs : n ≠ sN) : w ≤ qR f97 f99 bef n := by
  obtain ⟨b1, b2, b3, b4, b5, _⟩ := h
  have hi9 : i ≠ I0 := fun e9 => hs (by rw [b1, e9, ← h1.1, hm])
  have hw := h1.2.2.2.2.2.2 i (by omega)
  rw [← b1] at hw
  exact hw
theorem csA_bd {f95 f96 f97 f98 f99 : Nat → Int32} {ar : Nat} (hA : ArO f95 f96 f97 f98 ar) (hF : FlO f97 f99 ar) : ∀ m, m ≤ ar → 0 ≤ csA (((ar : Nat) : Int), f95, f96, f97, f98) (fI f99) m ∧ csA (((ar : Nat) : Int), f95, f96, f97, f98) (fI f99) m ≤ 1000000 * (m : Int) := by
  intro m
  induction m with
  | zero => intro _; exact ⟨Int.le_refl _, Int.le_refl _⟩
  | succ m ih =>
    intro h
    have h1 := ih (by omega)
    obtain ⟨x, y, hx, hy, hxy, ex, ey, hr, hc⟩ := hA m (by omega)
    have hf := hF m (by omega)
    have e : csA (((ar : Nat) : Int), f95, f96, f97, f98) (fI f99) (m + 1) = csA (((ar : Nat) : Int), f95, f96, f97, f98) (fI f99) m + (f99 m).toInt * (f98 m).toInt := rfl
    have h2 : 0 ≤ (f99 m).toInt * (f98 m).toInt := Int.mul_nonneg hf.1 hc.1
    have h3 : (f99 m).toInt * (f98 m).toInt ≤ 1000 * 1000 := Int.mul_le_mul (by omega) hc.2 hc.1 (by decide)
    rw [e]
    omega
/-- what leastCost keeps -/
def LcI (f95 f96 f97 f98 f99 : Nat → Int32) (ar sN t : Nat) (v s : Int) : Prop := FlO f97 f99 ar ∧ rsI (((ar : Nat) : Int), f95, f96, f97, f98) sN t (fI f99) v ar ∧ (∃ R p, PoX f95 f96 f97 f98 f99 ar sN R p) ∧ (∃ p, PoO f95 f96 f97 f98 f99 ar (fun _ => True) p) ∧ s = csA (((ar : Nat) : Int), f95, f96, f97, f98) (fI f99) ar
theorem LcI.start {f95 f96 f97 f98 f99 : Nat → Int32} {ar sN t : Nat} {v s : Int} (hA : ArO f95 f96 f97 f98 ar) (h : ∀ a, a < ar → f99 a = 0) (hv : v = 0) (hs : s = 0) : LcI f95 f96 f97 f98 f99 ar sN t v s := by
  subst hv hs
  refine ⟨FlO.init (f95 := f95) (f96 := f96) (f98 := f98) hA h, rsI.start (fun a ha => by unfold fI; (try dsimp only); rw [h a ha]; decide), ⟨fun _ => True, fun _ => 0, PoO.init hA h, fun _ _ => Int.le_refl _, rfl, trivial⟩, ⟨_, PoO.init hA h⟩, ?_⟩
  have key : ∀ m, m ≤ ar → csA (((ar : Nat) : Int), f95, f96, f97, f98) (fI f99) m = 0 := by
    intro m
    induction m with
    | zero => intro _; rfl
    | succ m ih =>
      intro h9
      show csA (((ar : Nat) : Int), f95, f96, f97, f98) (fI f99) m + (f99 m).toInt * (f98 m).toInt = 0
      rw [ih (by omega), h m (by omega), show (0 : Int32).toInt = 0 from by decide, Int.zero_mul]
      rfl
  exact (key ar (Nat.le_refl _)).symm
theorem LcI.more {f95 f96 f97 f98 f99 g99 pr bef : Nat → Int32} {ar sN t : Nat} {v s v2 s2 r : Int} {rk : Nat → Nat} (h : LcI f95 f96 f97 f98 f99 ar sN t v s) (hA : ArO f95 f96 f97 f98 ar) (hs : sN < 12) (hC : PrC f95 f96 f97 f98 f99 ar pr) (hT : TrK f95 f96 f97 f98 f99 ar sN pr (fun w => enB (bef w)) rk) (h0 : (pr sN).toInt = 0) (hb : ∀ v, v < 12 → 0 ≤ (pr v).toInt ∧ (pr v).toInt ≤ 536870912 ∧ (pr v ≠ 536870912 → (pr v).toInt ≤ 11000)) (g1 : FlO f97 g99 ar) (g2 : ∀ S, rsA (((ar : Nat) : Int), f95, f96, f97, f98) (fI g99) S ar = rsA (((ar : Nat) : Int), f95, f96, f97, f98) (fI f99) S ar - (sW S sN r - sW S t r)) (g3 : ∀ a, a < ar → g99 a = f99 a ∨ ∃ m, m < 12 ∧ pr m ≠ 536870912 ∧ m ≠ sN ∧ ((enB (bef m)).toInt = (a : Int) + 1 ∨ (enB (bef m)).toInt = -((a : Int) + 1))) (g4 : csA (((ar : Nat) : Int), f95, f96, f97, f98) (fI g99) ar = csA (((ar : Nat) : Int), f95, f96, f97, f98) (fI f99) ar + r * ((pr t).toInt - (pr sN).toInt)) (hv : v2 = v + r) (hs2 : s2 = s + r * (pr t).toInt) : LcI f95 f96 f97 f98 g99 ar sN t v2 s2 := by
  obtain ⟨k1, k2, k3, k4, k5⟩ := h
  have hbb : ∀ v, v < 12 → (pr v).toInt ≤ 536870912 ∧ (pr v ≠ 536870912 → (pr v).toInt ≤ 11000) := fun v hv => ⟨(hb v hv).2.1, (hb v hv).2.2⟩
  refine ⟨g1, k2.more g2 hv, ⟨fun v => v < 12 ∧ pr v ≠ 536870912, fun v => (pr v).toInt, PoO.after hA hT hC hbb g3, fun v hv => (hb v hv.1).1, h0, hs, fun e9 => ?_⟩, PoO.all hA hT hC hbb g3 k4, ?_⟩
  · rw [e9] at h0
    exact absurd h0 (by decide)
  · rw [hs2, k5, g4, h0, show (pr t).toInt - 0 = (pr t).toInt from by omega]
theorem LcI.none {f95 f96 f97 f98 f99 pr : Nat → Int32} {ar sN t : Nat} {v s am r : Int} (h : LcI f95 f96 f97 f98 f99 ar sN t v s) (hA : ArO f95 f96 f97 f98 ar) (hC : PrC f95 f96 f97 f98 f99 ar pr) (h0 : (pr sN).toInt = 0) (hb : ∀ v, v < 12 → 0 ≤ (pr v).toInt ∧ (pr v).toInt ≤ 536870912 ∧ (pr v ≠ 536870912 → (pr v).toInt ≤ 11000)) (ht : t < 12) (hf : (pr t).toInt ≥ 536870912) (ha : 0 ≤ am) (hl : v < am) (hr : r = -1) : mnC (((ar : Nat) : Int), f95, f96, f97, f98) sN t am r :=
  mnC.none h.1 h.2.1 (fun _ => flC_end hA h.1 hC (fun v hv => ⟨(hb v hv).2.1, (hb v hv).2.2⟩) h0 ht hf) ha hl hr
theorem LcI.some {f95 f96 f97 f98 f99 : Nat → Int32} {ar sN t : Nat} {v s am : Int} (h : LcI f95 f96 f97 f98 f99 ar sN t v s) (hA : ArO f95 f96 f97 f98 ar) (ha : 0 ≤ am) (hv : v = am) : mnC (((ar : Nat) : Int), f95, f96, f97, f98) sN t am s :=
  mnC.some hA h.1 h.2.1 h.2.2.2.1 ha hv h.2.2.2.2
theorem LcI.lim {f95 f96 f97 f98 f99 : Nat → Int32} {ar sN t : Nat} {v s : Int} (h : LcI f95 f96 f97 f98 f99 ar sN t v s) (hA : ArO f95 f96 f97 f98 ar) (h40 : ar ≤ 40) (hts : t ≠ sN) : v ≤ 40000 ∧ 0 ≤ s ∧ s ≤ 40000000 := by
  have h1 := rsI.lim hA h40 h.1 hts h.2.1
  have h2 := csA_bd hA h.1 ar (Nat.le_refl _)
  have h3 := h.2.2.2.2
  omega
theorem ArO.z0 : ArO (fun _ => 0) (fun _ => 0) (fun _ => 0) (fun _ => 0) (0 : Int32).toInt.toNat := fun a ha => by
  rw [show (0 : Int32).toInt.toNat = 0 from by decide] at ha
  exact absurd ha (Nat.not_lt_zero a)
end
section
def WN (hN : Nat → Nat) (aN : Nat → Nat) (kN : Nat → ClassId) (iN_arcs : Int32) (fN_from : Nat → Int32) (fN_to : Nat → Int32) (fN_room : Nat → Int32) (fN_cost : Nat → Int32) (iN_reached : Int32) (fN_free : Nat → Int32) (fN_before : Nat → Int32) (fN_flow : Nat → Int32) (fN_length : Nat → Int32) (fN_stop : Nat → Int32) (iN_stops : Int32) (fN_price : Nat → Int32) (fN_rest : Nat → Int32) : va_W := [(hN 0, .inr (2, [.int iN_arcs, .ref (aN 0), .ref (aN 1), .ref (aN 2), .ref (aN 3), .int iN_reached, .ref (aN 4), .ref (aN 5), .ref (aN 6), .ref (aN 7), .ref (aN 8), .int iN_stops, .ref (aN 9), .ref (aN 10)])), (aN 0, .inl (kN 0, 40, .inl fN_from)), (aN 1, .inl (kN 1, 40, .inl fN_to)), (aN 2, .inl (kN 2, 40, .inl fN_room)), (aN 3, .inl (kN 3, 40, .inl fN_cost)), (aN 4, .inl (kN 4, 144, .inl fN_free)), (aN 5, .inl (kN 5, 12, .inl fN_before)), (aN 6, .inl (kN 6, 40, .inl fN_flow)), (aN 7, .inl (kN 7, 12, .inl fN_length)), (aN 8, .inl (kN 8, 8, .inl fN_stop)), (aN 9, .inl (kN 9, 64, .inl fN_price)), (aN 10, .inl (kN 10, 1024, .inl fN_rest))]
def tN (kN : Nat → ClassId) : List (ClassId × FieldType) := [(kN 0, .int), (kN 1, .int), (kN 2, .int), (kN 3, .int), (kN 4, .int), (kN 5, .int), (kN 6, .int), (kN 7, .int), (kN 8, .int), (kN 9, .int), (kN 10, .int)]
theorem dX2_addArc_0 : decode cX2_addArc 0 = .ok (.aload_n 0, 1) := dk_42 (by decide +kernel)
theorem dX2_addArc_1 : decode cX2_addArc 1 = .ok (.getfield 11, 3) := dk_180 (by decide +kernel)
theorem dX2_addArc_4 : decode cX2_addArc 4 = .ok (.aload_n 0, 1) := dk_42 (by decide +kernel)
theorem dX2_addArc_5 : decode cX2_addArc 5 = .ok (.getfield 45, 3) := dk_180 (by decide +kernel)
theorem dX2_addArc_8 : decode cX2_addArc 8 = .ok (.iload_n 1, 1) := dk_27 (by decide +kernel)
theorem dX2_addArc_9 : decode cX2_addArc 9 = .ok (.iastore, 1) := dk_79 (by decide +kernel)
theorem dX2_addArc_10 : decode cX2_addArc 10 = .ok (.aload_n 0, 1) := dk_42 (by decide +kernel)
theorem dX2_addArc_11 : decode cX2_addArc 11 = .ok (.getfield 15, 3) := dk_180 (by decide +kernel)
theorem dX2_addArc_14 : decode cX2_addArc 14 = .ok (.aload_n 0, 1) := dk_42 (by decide +kernel)
theorem dX2_addArc_15 : decode cX2_addArc 15 = .ok (.getfield 45, 3) := dk_180 (by decide +kernel)
theorem dX2_addArc_18 : decode cX2_addArc 18 = .ok (.iload_n 2, 1) := dk_28 (by decide +kernel)
theorem dX2_addArc_19 : decode cX2_addArc 19 = .ok (.iastore, 1) := dk_79 (by decide +kernel)
theorem dX2_addArc_20 : decode cX2_addArc 20 = .ok (.aload_n 0, 1) := dk_42 (by decide +kernel)
theorem dX2_addArc_21 : decode cX2_addArc 21 = .ok (.getfield 18, 3) := dk_180 (by decide +kernel)
theorem dX2_addArc_24 : decode cX2_addArc 24 = .ok (.aload_n 0, 1) := dk_42 (by decide +kernel)
theorem dX2_addArc_25 : decode cX2_addArc 25 = .ok (.getfield 45, 3) := dk_180 (by decide +kernel)
theorem dX2_addArc_28 : decode cX2_addArc 28 = .ok (.iload_n 3, 1) := dk_29 (by decide +kernel)
theorem dX2_addArc_29 : decode cX2_addArc 29 = .ok (.iastore, 1) := dk_79 (by decide +kernel)
theorem dX2_addArc_30 : decode cX2_addArc 30 = .ok (.aload_n 0, 1) := dk_42 (by decide +kernel)
theorem dX2_addArc_31 : decode cX2_addArc 31 = .ok (.getfield 21, 3) := dk_180 (by decide +kernel)
theorem dX2_addArc_34 : decode cX2_addArc 34 = .ok (.aload_n 0, 1) := dk_42 (by decide +kernel)
theorem dX2_addArc_35 : decode cX2_addArc 35 = .ok (.getfield 45, 3) := dk_180 (by decide +kernel)
theorem dX2_addArc_38 : decode cX2_addArc 38 = .ok (.iload 4, 2) := dk_21 (by decide +kernel)
theorem dX2_addArc_40 : decode cX2_addArc 40 = .ok (.iastore, 1) := dk_79 (by decide +kernel)
theorem dX2_addArc_41 : decode cX2_addArc 41 = .ok (.aload_n 0, 1) := dk_42 (by decide +kernel)
theorem dX2_addArc_42 : decode cX2_addArc 42 = .ok (.dup, 1) := dk_89 (by decide +kernel)
theorem dX2_addArc_43 : decode cX2_addArc 43 = .ok (.getfield 45, 3) := dk_180 (by decide +kernel)
theorem dX2_addArc_46 : decode cX2_addArc 46 = .ok (.iconst 1, 1) := dk_4 (by decide +kernel)
theorem dX2_addArc_47 : decode cX2_addArc 47 = .ok (.iadd, 1) := dk_96 (by decide +kernel)
theorem dX2_addArc_48 : decode cX2_addArc 48 = .ok (.putfield 45, 3) := dk_181 (by decide +kernel)
theorem dX2_addArc_51 : decode cX2_addArc 51 = .ok (.aload_n 0, 1) := dk_42 (by decide +kernel)
theorem dX2_addArc_52 : decode cX2_addArc 52 = .ok (.getfield 45, 3) := dk_180 (by decide +kernel)
theorem dX2_addArc_55 : decode cX2_addArc 55 = .ok (.iconst 1, 1) := dk_4 (by decide +kernel)
theorem dX2_addArc_56 : decode cX2_addArc 56 = .ok (.isub, 1) := dk_100 (by decide +kernel)
theorem dX2_addArc_57 : decode cX2_addArc 57 = .ok (.ireturn, 1) := dk_172 (by decide +kernel)
def wsMX2_addArc : List Cond := .code yX2_addArc cX2_addArc 5 (some .int) :: ([.fieldLink RX2 11 "OptimaWorks$NetDesk" "from" "[I", .fieldLink RX2 45 "OptimaWorks$NetDesk" "arcs" "I", .fieldLink RX2 15 "OptimaWorks$NetDesk" "to" "[I", .fieldLink RX2 18 "OptimaWorks$NetDesk" "room" "[I", .fieldLink RX2 21 "OptimaWorks$NetDesk" "cost" "[I"] ++ wsX20)
theorem iwsMX2_addArc_in2 : ∀ w ∈ wsX20, w ∈ wsMX2_addArc := fun _ h => List.mem_cons_of_mem _ (List.mem_append_right _ h)
theorem gdwsMX2_addArc : wsMX2_addArc.all goodWord = true := gdC rfl (gdA (by decide +kernel : ([.fieldLink RX2 11 "OptimaWorks$NetDesk" "from" "[I", .fieldLink RX2 45 "OptimaWorks$NetDesk" "arcs" "I", .fieldLink RX2 15 "OptimaWorks$NetDesk" "to" "[I", .fieldLink RX2 18 "OptimaWorks$NetDesk" "room" "[I", .fieldLink RX2 21 "OptimaWorks$NetDesk" "cost" "[I"] : List Cond).all goodWord = true) gdwsX20)
theorem hm_m_X2_addArc_0 : (.fieldLink RX2 45 "OptimaWorks$NetDesk" "arcs" "I" : Cond) ∈ wsMX2_addArc := by decide +kernel
set_option maxHeartbeats 4000000 in
set_option maxRecDepth 100000 in
/-- an arc more -/
theorem m_X2_addArc (l : Launch) (dC : Nat → ClassId) (dI : Nat → Nat → Nat) (hN : Nat → Nat) (aN : Nat → Nat) (kN : Nat → ClassId) (iN_arcs : Int32) (fN_from : Nat → Int32) (fN_to : Nat → Int32) (fN_room : Nat → Int32) (fN_cost : Nat → Int32) (iN_reached : Int32) (fN_free : Nat → Int32) (fN_before : Nat → Int32) (fN_flow : Nat → Int32) (fN_length : Nat → Int32) (fN_stop : Nat → Int32) (iN_stops : Int32) (fN_price : Nat → Int32) (fN_rest : Nat → Int32) (p1 : Int32) (p2 : Int32) (p3 : Int32) (p4 : Int32) (b_iN_arcs : 0 ≤ iN_arcs.toInt ∧ iN_arcs.toInt ≤ 40) (b_fN_from : ∀ q : Nat, 0 ≤ (fN_from q).toInt ∧ (fN_from q).toInt ≤ 11) (b_fN_to : ∀ q : Nat, 0 ≤ (fN_to q).toInt ∧ (fN_to q).toInt ≤ 11) (b_fN_before : ∀ q : Nat, 0 ≤ (fN_before q).toInt ∧ (fN_before q).toInt ≤ 79) (b_fN_stop : ∀ q : Nat, 0 ≤ (fN_stop q).toInt ∧ (fN_stop q).toInt ≤ 11) (b_iN_stops : 0 ≤ iN_stops.toInt ∧ iN_stops.toInt ≤ 8) (b_p1 : 0 ≤ p1.toInt ∧ p1.toInt ≤ 11) (b_p2 : 0 ≤ p2.toInt ∧ p2.toInt ≤ 11) (hlt : iN_arcs.toInt < 40) (sz : Nat) : Met l yX2_addArc wsMX2_addArc ({ frames := 0, cells := 0, slots := 0, locals := 0 }) (va_Pc [.ref (hN 0), .int p1, .int p2, .int p3, .int p4] (fun U => U.heap.size = sz ∧ va_P (dC, dI) vwCl (WN hN aN kN iN_arcs fN_from fN_to fN_room fN_cost iN_reached fN_free fN_before fN_flow fN_length fN_stop iN_stops fN_price fN_rest) U.heap ∧ va_K (dC, dI) vwCl (tN kN) U ∧ va_D (fun _ => True) (WN hN aN kN iN_arcs fN_from fN_to fN_room fN_cost iN_reached fN_free fN_before fN_flow fN_length fN_stop iN_stops fN_price fN_rest))) (va_Qi (fun (r : Int32) (u : (Int32) × (Nat → Int32) × (Nat → Int32) × (Nat → Int32) × (Nat → Int32)) => (0 ≤ (u.1).toInt ∧ (u.1).toInt ≤ 40) ∧ (∀ q : Nat, 0 ≤ ((u.2.1) q).toInt ∧ ((u.2.1) q).toInt ≤ 11) ∧ (∀ q : Nat, 0 ≤ ((u.2.2.1) q).toInt ∧ ((u.2.2.1) q).toInt ≤ 11) ∧ ((u.1).toInt = iN_arcs.toInt + 1) ∧ (r.toInt = iN_arcs.toInt) ∧ ((u.2.1) = upd fN_from iN_arcs.toInt.toNat p1) ∧ ((u.2.2.1) = upd fN_to iN_arcs.toInt.toNat p2) ∧ ((u.2.2.2.1) = upd fN_room iN_arcs.toInt.toNat p3) ∧ ((u.2.2.2.2) = upd fN_cost iN_arcs.toInt.toNat p4)) (fun (u : (Int32) × (Nat → Int32) × (Nat → Int32) × (Nat → Int32) × (Nat → Int32)) t => va_P (dC, dI) vwCl (WN hN aN kN (u.1) (u.2.1) (u.2.2.1) (u.2.2.2.1) (u.2.2.2.2) iN_reached fN_free fN_before fN_flow fN_length fN_stop iN_stops fN_price fN_rest) t.heap ∧ va_D (va_A (WN hN aN kN iN_arcs fN_from fN_to fN_room fN_cost iN_reached fN_free fN_before fN_flow fN_length fN_stop iN_stops fN_price fN_rest) sz) (WN hN aN kN (u.1) (u.2.1) (u.2.2.1) (u.2.2.2.1) (u.2.2.2.2) iN_reached fN_free fN_before fN_flow fN_length fN_stop iN_stops fN_price fN_rest)) (va_A (WN hN aN kN iN_arcs fN_from fN_to fN_room fN_cost iN_reached fN_free fN_before fN_flow fN_length fN_stop iN_stops fN_price fN_rest) sz)) 0 0 (va_A (WN hN aN kN iN_arcs fN_from fN_to fN_room fN_cost iN_reached fN_free fN_before fN_flow fN_length fN_stop iN_stops fN_price fN_rest) sz) := by
  refine Met.ofW (cc := cX2_addArc) (maxL := 5) (ret := (some .int)) (by decide) rfl ?_
  intro p e s m args below meth c s₁ B hml hv
  obtain ⟨rfl, hsz, hP, hK, hD0⟩ := hv
  have hx := B.exec
  have hb := B.bytes
  have hr := B.returns
  have hts := atoms_spec (ws := wsMX2_addArc) B.pre
  have hown : s.vm.findClass RX2 = some m.cls := findClass_of_methodNamed B.named
  have hlocks := B.notSynchronized
  subst hsz
  have hD := hD0.self (sz := s.heap.size)
  generalize hAe : va_A (WN hN aN kN iN_arcs fN_from fN_to fN_room fN_cost iN_reached fN_free fN_before fN_flow fN_length fN_stop iN_stops fN_price fN_rest) s.heap.size = A at hD ⊢
  have hA : ∀ q : Nat, s.heap.size ≤ q → A q := fun q h => by rw [← hAe]; exact Or.inr h
  have hS : va_S A s.heap s.heap [] := va_S.rf
  have hl := lv_entry ([.ref (hN 0), .int p1, .int p2, .int p3, .int p4]) (n := 5) (Nat.le_of_ble_eq_true rfl)
  rw [lg_entry_eq]
  generalize (lg_sl ([.ref (hN 0), .int p1, .int p2, .int p3, .int p4]) ++ List.replicate (5 - (lg_sl ([.ref (hN 0), .int p1, .int p2, .int p3, .int p4])).length) Slot.unset).toArray = ls at hl ⊢
  have hl : lv_has ls 5 [(0, .ref (hN 0)), (1, .int p1), (2, .int p2), (3, .int p3), (4, .int p4)] := hl
  refine lv_aload_n hx hb dX2_addArc_0 rfl (lv_at hl 0 rfl) ?_
  refine va_get (D := (dC, dI)) (ci := 2) (v := .ref (aN 0)) (C := RX2) (T := TX2) (N := 14) hx hb hts iwsMX2_addArc_in2 hown hK hP 0 rfl rfl 1 (by decide) (hts (.fieldLink RX2 11 "OptimaWorks$NetDesk" "from" "[I") (by decide +kernel)) (fun _ h9 => h9) rfl dX2_addArc_1 ?_
  refine lv_aload_n hx hb dX2_addArc_4 rfl (lv_at hl 0 rfl) ?_
  refine va_get (D := (dC, dI)) (ci := 2) (v := .int iN_arcs) (C := RX2) (T := TX2) (N := 14) hx hb hts iwsMX2_addArc_in2 hown hK hP 0 rfl rfl 0 (by decide) (hts _ hm_m_X2_addArc_0) (fun _ h9 => h9) rfl dX2_addArc_5 ?_
  refine lv_iload_n hx hb dX2_addArc_8 rfl (lv_at hl 1 rfl) ?_
  refine va_iast (cA := kN 0) (n := 40) (f := fN_from) hx hb hK hP hD hS 1 0 rfl rfl (vp_in_iff.mpr ⟨b_iN_arcs.1, (by omega)⟩) dX2_addArc_9 (fun H locs hP hD hS => ?_)
  obtain ⟨u1, hu1⟩ : ∃ f9, f9 = upd fN_from (iN_arcs).toNatClampNeg p1 := ⟨_, rfl⟩
  have hP : va_P (dC, dI) vwCl (WN hN aN kN iN_arcs u1 fN_to fN_room fN_cost iN_reached fN_free fN_before fN_flow fN_length fN_stop iN_stops fN_price fN_rest) H := by rw [hu1]; exact hP
  have hD : va_D A (WN hN aN kN iN_arcs u1 fN_to fN_room fN_cost iN_reached fN_free fN_before fN_flow fN_length fN_stop iN_stops fN_price fN_rest) := by rw [hu1]; exact hD
  have b_u1 : ∀ q : Nat, 0 ≤ (u1 q).toInt ∧ (u1 q).toInt ≤ 11 := by rw [hu1]; exact upd_r b_fN_from (b_p1)
  have b1_u1 : u1 = upd fN_from (iN_arcs).toNatClampNeg p1 := hu1
  clear hu1
  refine lv_aload_n hx hb dX2_addArc_10 rfl (lv_at hl 0 rfl) ?_
  refine va_get (D := (dC, dI)) (ci := 2) (v := .ref (aN 1)) (C := RX2) (T := TX2) (N := 14) hx hb hts iwsMX2_addArc_in2 hown hK hP 0 rfl rfl 2 (by decide) (hts (.fieldLink RX2 15 "OptimaWorks$NetDesk" "to" "[I") (by decide +kernel)) (fun _ h9 => h9) rfl dX2_addArc_11 ?_
  refine lv_aload_n hx hb dX2_addArc_14 rfl (lv_at hl 0 rfl) ?_
  refine va_get (D := (dC, dI)) (ci := 2) (v := .int iN_arcs) (C := RX2) (T := TX2) (N := 14) hx hb hts iwsMX2_addArc_in2 hown hK hP 0 rfl rfl 0 (by decide) (hts _ hm_m_X2_addArc_0) (fun _ h9 => h9) rfl dX2_addArc_15 ?_
  refine lv_iload_n hx hb dX2_addArc_18 rfl (lv_at hl 2 rfl) ?_
  refine va_iast (cA := kN 1) (n := 40) (f := fN_to) hx hb hK hP hD hS 2 1 rfl rfl (vp_in_iff.mpr ⟨b_iN_arcs.1, (by omega)⟩) dX2_addArc_19 (fun H locs hP hD hS => ?_)
  obtain ⟨u2, hu2⟩ : ∃ f9, f9 = upd fN_to (iN_arcs).toNatClampNeg p2 := ⟨_, rfl⟩
  have hP : va_P (dC, dI) vwCl (WN hN aN kN iN_arcs u1 u2 fN_room fN_cost iN_reached fN_free fN_before fN_flow fN_length fN_stop iN_stops fN_price fN_rest) H := by rw [hu2]; exact hP
  have hD : va_D A (WN hN aN kN iN_arcs u1 u2 fN_room fN_cost iN_reached fN_free fN_before fN_flow fN_length fN_stop iN_stops fN_price fN_rest) := by rw [hu2]; exact hD
  have b_u2 : ∀ q : Nat, 0 ≤ (u2 q).toInt ∧ (u2 q).toInt ≤ 11 := by rw [hu2]; exact upd_r b_fN_to (b_p2)
  have b1_u2 : u2 = upd fN_to (iN_arcs).toNatClampNeg p2 := hu2
  clear hu2
  refine lv_aload_n hx hb dX2_addArc_20 rfl (lv_at hl 0 rfl) ?_
  refine va_get (D := (dC, dI)) (ci := 2) (v := .ref (aN 2)) (C := RX2) (T := TX2) (N := 14) hx hb hts iwsMX2_addArc_in2 hown hK hP 0 rfl rfl 3 (by decide) (hts (.fieldLink RX2 18 "OptimaWorks$NetDesk" "room" "[I") (by decide +kernel)) (fun _ h9 => h9) rfl dX2_addArc_21 ?_
  refine lv_aload_n hx hb dX2_addArc_24 rfl (lv_at hl 0 rfl) ?_
  refine va_get (D := (dC, dI)) (ci := 2) (v := .int iN_arcs) (C := RX2) (T := TX2) (N := 14) hx hb hts iwsMX2_addArc_in2 hown hK hP 0 rfl rfl 0 (by decide) (hts _ hm_m_X2_addArc_0) (fun _ h9 => h9) rfl dX2_addArc_25 ?_
  refine lv_iload_n hx hb dX2_addArc_28 rfl (lv_at hl 3 rfl) ?_
  refine va_iast (cA := kN 2) (n := 40) (f := fN_room) hx hb hK hP hD hS 3 2 rfl rfl (vp_in_iff.mpr ⟨b_iN_arcs.1, (by omega)⟩) dX2_addArc_29 (fun H locs hP hD hS => ?_)
  obtain ⟨u3, hu3⟩ : ∃ f9, f9 = upd fN_room (iN_arcs).toNatClampNeg p3 := ⟨_, rfl⟩
  have hP : va_P (dC, dI) vwCl (WN hN aN kN iN_arcs u1 u2 u3 fN_cost iN_reached fN_free fN_before fN_flow fN_length fN_stop iN_stops fN_price fN_rest) H := by rw [hu3]; exact hP
  have hD : va_D A (WN hN aN kN iN_arcs u1 u2 u3 fN_cost iN_reached fN_free fN_before fN_flow fN_length fN_stop iN_stops fN_price fN_rest) := by rw [hu3]; exact hD
  have b_u3 : u3 = upd fN_room (iN_arcs).toNatClampNeg p3 := hu3
  clear hu3
  refine lv_aload_n hx hb dX2_addArc_30 rfl (lv_at hl 0 rfl) ?_
  refine va_get (D := (dC, dI)) (ci := 2) (v := .ref (aN 3)) (C := RX2) (T := TX2) (N := 14) hx hb hts iwsMX2_addArc_in2 hown hK hP 0 rfl rfl 4 (by decide) (hts (.fieldLink RX2 21 "OptimaWorks$NetDesk" "cost" "[I") (by decide +kernel)) (fun _ h9 => h9) rfl dX2_addArc_31 ?_
  refine lv_aload_n hx hb dX2_addArc_34 rfl (lv_at hl 0 rfl) ?_
  refine va_get (D := (dC, dI)) (ci := 2) (v := .int iN_arcs) (C := RX2) (T := TX2) (N := 14) hx hb hts iwsMX2_addArc_in2 hown hK hP 0 rfl rfl 0 (by decide) (hts _ hm_m_X2_addArc_0) (fun _ h9 => h9) rfl dX2_addArc_35 ?_
  refine lv_iload hx hb dX2_addArc_38 (lv_at hl 4 rfl) ?_
  refine va_iast (cA := kN 3) (n := 40) (f := fN_cost) hx hb hK hP hD hS 4 3 rfl rfl (vp_in_iff.mpr ⟨b_iN_arcs.1, (by omega)⟩) dX2_addArc_40 (fun H locs hP hD hS => ?_)
  obtain ⟨u4, hu4⟩ : ∃ f9, f9 = upd fN_cost (iN_arcs).toNatClampNeg p4 := ⟨_, rfl⟩
  have hP : va_P (dC, dI) vwCl (WN hN aN kN iN_arcs u1 u2 u3 u4 iN_reached fN_free fN_before fN_flow fN_length fN_stop iN_stops fN_price fN_rest) H := by rw [hu4]; exact hP
  have hD : va_D A (WN hN aN kN iN_arcs u1 u2 u3 u4 iN_reached fN_free fN_before fN_flow fN_length fN_stop iN_stops fN_price fN_rest) := by rw [hu4]; exact hD
  have b_u4 : u4 = upd fN_cost (iN_arcs).toNatClampNeg p4 := hu4
  clear hu4
  refine lv_aload_n hx hb dX2_addArc_41 rfl (lv_at hl 0 rfl) ?_
  refine lv_dup hx hb dX2_addArc_42 rfl ?_
  refine va_get (D := (dC, dI)) (ci := 2) (v := .int iN_arcs) (C := RX2) (T := TX2) (N := 14) hx hb hts iwsMX2_addArc_in2 hown hK hP 0 rfl rfl 0 (by decide) (hts _ hm_m_X2_addArc_0) (fun _ h9 => h9) rfl dX2_addArc_43 ?_
  refine lv_iconst (v := 1) hx hb dX2_addArc_46 (by decide) ?_
  refine lv_iadd hx hb dX2_addArc_47 ?_
  refine lv_topi (fun y5 hy5 => ?_)
  obtain rfl : (iI (iN_arcs.toInt + 1)) = y5 := (hy5.trans (iI_add2 (iI_of _) (by decide : (1 : Int32) = iI 1))).symm
  refine va_put (D := (dC, dI)) (ci := 2) (v := .int (iI (iN_arcs.toInt + 1))) (ty := .int) (C := RX2) (T := TX2) (N := 14) hx hb hts iwsMX2_addArc_in2 tyX2 tyX2_ok nmX2 hown hK hP hD hS 0 rfl rfl 0 (by decide) (hts _ hm_m_X2_addArc_0) (fun _ h9 => h9) rfl (by decide +kernel) rfl rfl (Nat.le_of_ble_eq_true rfl) dX2_addArc_48 (fun H locs hP hD hS => ?_)
  have hP : va_P (dC, dI) vwCl (WN hN aN kN (iI (iN_arcs.toInt + 1)) u1 u2 u3 u4 iN_reached fN_free fN_before fN_flow fN_length fN_stop iN_stops fN_price fN_rest) H := hP
  have hD := fz_sd hP (hD) rfl
  refine lv_aload_n hx hb dX2_addArc_51 rfl (lv_at hl 0 rfl) ?_
  refine va_get (D := (dC, dI)) (ci := 2) (v := .int (iI (iN_arcs.toInt + 1))) (C := RX2) (T := TX2) (N := 14) hx hb hts iwsMX2_addArc_in2 hown hK hP 0 rfl rfl 0 (by decide) (hts _ hm_m_X2_addArc_0) (fun _ h9 => h9) rfl dX2_addArc_52 ?_
  refine lv_iconst (v := 1) hx hb dX2_addArc_55 (by decide) ?_
  refine lv_isub hx hb dX2_addArc_56 ?_
  refine lv_topi (fun y6 hy6 => ?_)
  obtain rfl : (iI ((iN_arcs.toInt + 1) - 1)) = y6 := (hy6.trans (iI_sub2 rfl (by decide : (1 : Int32) = iI 1))).symm
  refine W.widen (k := 0) (n := 0) (by decide +kernel) (by decide +kernel) ?_
  exact W.iret (v := (iI ((iN_arcs.toInt + 1) - 1))) hx hb hr (fun t9_ ht hW => ⟨⟨(iI ((iN_arcs.toInt + 1) - 1)), ((iI (iN_arcs.toInt + 1)), u1, u2, u3, u4), rfl, ⟨(by (try dsimp only); exact (iI_rng (Int.le_trans (by decide) (Int.add_le_add (b_iN_arcs.1) (Int.le_refl _))) (by omega) (by decide) (by decide))), b_u1, b_u2, (by (try dsimp only); first | (rw [iI_t (by omega) (by omega)] <;> omega) | omega), (by (try dsimp only); first | (rw [iI_t (by omega) (by omega)] <;> omega) | omega), (by (try dsimp only); exact (b1_u1)), (by (try dsimp only); exact (b1_u2)), b_u3, b_u4⟩, by rw [ht]; exact hP, hD⟩, hS.F ht⟩) hS.2.2 dX2_addArc_57
theorem dX2_dropArc_0 : decode cX2_dropArc 0 = .ok (.aload_n 0, 1) := dk_42 (by decide +kernel)
theorem dX2_dropArc_1 : decode cX2_dropArc 1 = .ok (.getfield 45, 3) := dk_180 (by decide +kernel)
theorem dX2_dropArc_4 : decode cX2_dropArc 4 = .ok (.ifCond .ne 5, 3) := dk_154 (by decide +kernel)
theorem dX2_dropArc_7 : decode cX2_dropArc 7 = .ok (.iconst 0, 1) := dk_3 (by decide +kernel)
theorem dX2_dropArc_8 : decode cX2_dropArc 8 = .ok (.ireturn, 1) := dk_172 (by decide +kernel)
theorem dX2_dropArc_9 : decode cX2_dropArc 9 = .ok (.aload_n 0, 1) := dk_42 (by decide +kernel)
theorem dX2_dropArc_10 : decode cX2_dropArc 10 = .ok (.dup, 1) := dk_89 (by decide +kernel)
theorem dX2_dropArc_11 : decode cX2_dropArc 11 = .ok (.getfield 45, 3) := dk_180 (by decide +kernel)
theorem dX2_dropArc_14 : decode cX2_dropArc 14 = .ok (.iconst 1, 1) := dk_4 (by decide +kernel)
theorem dX2_dropArc_15 : decode cX2_dropArc 15 = .ok (.isub, 1) := dk_100 (by decide +kernel)
theorem dX2_dropArc_16 : decode cX2_dropArc 16 = .ok (.putfield 45, 3) := dk_181 (by decide +kernel)
theorem dX2_dropArc_19 : decode cX2_dropArc 19 = .ok (.iconst 1, 1) := dk_4 (by decide +kernel)
theorem dX2_dropArc_20 : decode cX2_dropArc 20 = .ok (.ireturn, 1) := dk_172 (by decide +kernel)
def wsMX2_dropArc : List Cond := .code yX2_dropArc cX2_dropArc 1 (some .boolean) :: ([.fieldLink RX2 45 "OptimaWorks$NetDesk" "arcs" "I"] ++ wsX20)
theorem iwsMX2_dropArc_in2 : ∀ w ∈ wsX20, w ∈ wsMX2_dropArc := fun _ h => List.mem_cons_of_mem _ (List.mem_append_right _ h)
theorem gdwsMX2_dropArc : wsMX2_dropArc.all goodWord = true := gdC rfl (gdA (by decide +kernel : ([.fieldLink RX2 45 "OptimaWorks$NetDesk" "arcs" "I"] : List Cond).all goodWord = true) gdwsX20)
theorem hm_m_X2_dropArc_0 : (.fieldLink RX2 45 "OptimaWorks$NetDesk" "arcs" "I" : Cond) ∈ wsMX2_dropArc := by decide +kernel
set_option maxHeartbeats 4000000 in
set_option maxRecDepth 100000 in
/-- an arc less -/
theorem m_X2_dropArc (l : Launch) (dC : Nat → ClassId) (dI : Nat → Nat → Nat) (hN : Nat → Nat) (aN : Nat → Nat) (kN : Nat → ClassId) (iN_arcs : Int32) (fN_from : Nat → Int32) (fN_to : Nat → Int32) (fN_room : Nat → Int32) (fN_cost : Nat → Int32) (iN_reached : Int32) (fN_free : Nat → Int32) (fN_before : Nat → Int32) (fN_flow : Nat → Int32) (fN_length : Nat → Int32) (fN_stop : Nat → Int32) (iN_stops : Int32) (fN_price : Nat → Int32) (fN_rest : Nat → Int32) (b_iN_arcs : 0 ≤ iN_arcs.toInt ∧ iN_arcs.toInt ≤ 40) (b_fN_from : ∀ q : Nat, 0 ≤ (fN_from q).toInt ∧ (fN_from q).toInt ≤ 11) (b_fN_to : ∀ q : Nat, 0 ≤ (fN_to q).toInt ∧ (fN_to q).toInt ≤ 11) (b_fN_before : ∀ q : Nat, 0 ≤ (fN_before q).toInt ∧ (fN_before q).toInt ≤ 79) (b_fN_stop : ∀ q : Nat, 0 ≤ (fN_stop q).toInt ∧ (fN_stop q).toInt ≤ 11) (b_iN_stops : 0 ≤ iN_stops.toInt ∧ iN_stops.toInt ≤ 8) (sz : Nat) : Met l yX2_dropArc wsMX2_dropArc ({ frames := 0, cells := 0, slots := 0, locals := 0 }) (va_Pc [.ref (hN 0)] (fun U => U.heap.size = sz ∧ va_P (dC, dI) vwCl (WN hN aN kN iN_arcs fN_from fN_to fN_room fN_cost iN_reached fN_free fN_before fN_flow fN_length fN_stop iN_stops fN_price fN_rest) U.heap ∧ va_K (dC, dI) vwCl (tN kN) U ∧ va_D (fun _ => True) (WN hN aN kN iN_arcs fN_from fN_to fN_room fN_cost iN_reached fN_free fN_before fN_flow fN_length fN_stop iN_stops fN_price fN_rest))) (va_Qi (fun (r : Int32) (u : Int32) => (0 ≤ u.toInt ∧ u.toInt ≤ 40) ∧ (0 ≤ r.toInt ∧ r.toInt ≤ 1) ∧ ((iN_arcs.toInt = 0 ∧ r.toInt = 0 ∧ u.toInt = 0) ∨ (0 < iN_arcs.toInt ∧ r.toInt = 1 ∧ u.toInt = iN_arcs.toInt - 1))) (fun (u : Int32) t => va_P (dC, dI) vwCl (WN hN aN kN u fN_from fN_to fN_room fN_cost iN_reached fN_free fN_before fN_flow fN_length fN_stop iN_stops fN_price fN_rest) t.heap ∧ va_D (va_A (WN hN aN kN iN_arcs fN_from fN_to fN_room fN_cost iN_reached fN_free fN_before fN_flow fN_length fN_stop iN_stops fN_price fN_rest) sz) (WN hN aN kN u fN_from fN_to fN_room fN_cost iN_reached fN_free fN_before fN_flow fN_length fN_stop iN_stops fN_price fN_rest)) (va_A (WN hN aN kN iN_arcs fN_from fN_to fN_room fN_cost iN_reached fN_free fN_before fN_flow fN_length fN_stop iN_stops fN_price fN_rest) sz)) 0 0 (va_A (WN hN aN kN iN_arcs fN_from fN_to fN_room fN_cost iN_reached fN_free fN_before fN_flow fN_length fN_stop iN_stops fN_price fN_rest) sz) := by
  refine Met.ofW (cc := cX2_dropArc) (maxL := 1) (ret := (some .boolean)) (by decide) rfl ?_
  intro p e s m args below meth c s₁ B hml hv
  obtain ⟨rfl, hsz, hP, hK, hD0⟩ := hv
  have hx := B.exec
  have hb := B.bytes
  have hr := B.returns
  have hts := atoms_spec (ws := wsMX2_dropArc) B.pre
  have hown : s.vm.findClass RX2 = some m.cls := findClass_of_methodNamed B.named
  have hlocks := B.notSynchronized
  subst hsz
  have hD := hD0.self (sz := s.heap.size)
  generalize hAe : va_A (WN hN aN kN iN_arcs fN_from fN_to fN_room fN_cost iN_reached fN_free fN_before fN_flow fN_length fN_stop iN_stops fN_price fN_rest) s.heap.size = A at hD ⊢
  have hA : ∀ q : Nat, s.heap.size ≤ q → A q := fun q h => by rw [← hAe]; exact Or.inr h
  have hS : va_S A s.heap s.heap [] := va_S.rf
  have hl := lv_entry ([.ref (hN 0)]) (n := 1) (Nat.le_of_ble_eq_true rfl)
  rw [lg_entry_eq]
  generalize (lg_sl ([.ref (hN 0)]) ++ List.replicate (1 - (lg_sl ([.ref (hN 0)])).length) Slot.unset).toArray = ls at hl ⊢
  have hl : lv_has ls 1 [(0, .ref (hN 0))] := hl
  refine lv_aload_n hx hb dX2_dropArc_0 rfl (lv_at hl 0 rfl) ?_
  refine va_get (D := (dC, dI)) (ci := 2) (v := .int iN_arcs) (C := RX2) (T := TX2) (N := 14) hx hb hts iwsMX2_dropArc_in2 hown hK hP 0 rfl rfl 0 (by decide) (hts _ hm_m_X2_dropArc_0) (fun _ h9 => h9) rfl dX2_dropArc_1 ?_
  refine lv_if_ne (tgt := 9) hx hb dX2_dropArc_4 (by decide) (fun c_4 => ?_) (fun c_4 => ?_)
  · have t_4 : iN_arcs.toInt ≠ 0 := toI_ne c_4 rfl (by decide : (0 : Int32).toInt = 0)
    refine lv_aload_n hx hb dX2_dropArc_9 rfl (lv_at hl 0 rfl) ?_
    refine lv_dup hx hb dX2_dropArc_10 rfl ?_
    refine va_get (D := (dC, dI)) (ci := 2) (v := .int iN_arcs) (C := RX2) (T := TX2) (N := 14) hx hb hts iwsMX2_dropArc_in2 hown hK hP 0 rfl rfl 0 (by decide) (hts _ hm_m_X2_dropArc_0) (fun _ h9 => h9) rfl dX2_dropArc_11 ?_
    refine lv_iconst (v := 1) hx hb dX2_dropArc_14 (by decide) ?_
    refine lv_isub hx hb dX2_dropArc_15 ?_
    refine lv_topi (fun y1 hy1 => ?_)
    obtain rfl : (iI (iN_arcs.toInt - 1)) = y1 := (hy1.trans (iI_sub2 (iI_of _) (by decide : (1 : Int32) = iI 1))).symm
    refine va_put (D := (dC, dI)) (ci := 2) (v := .int (iI (iN_arcs.toInt - 1))) (ty := .int) (C := RX2) (T := TX2) (N := 14) hx hb hts iwsMX2_dropArc_in2 tyX2 tyX2_ok nmX2 hown hK hP hD hS 0 rfl rfl 0 (by decide) (hts _ hm_m_X2_dropArc_0) (fun _ h9 => h9) rfl (by decide +kernel) rfl rfl (Nat.le_of_ble_eq_true rfl) dX2_dropArc_16 (fun H locs hP hD hS => ?_)
    have hP : va_P (dC, dI) vwCl (WN hN aN kN (iI (iN_arcs.toInt - 1)) fN_from fN_to fN_room fN_cost iN_reached fN_free fN_before fN_flow fN_length fN_stop iN_stops fN_price fN_rest) H := hP
    have hD := fz_sd hP (hD) rfl
    refine lv_iconst (v := 1) hx hb dX2_dropArc_19 (by decide) ?_
    refine W.widen (k := 0) (n := 0) (by decide +kernel) (by decide +kernel) ?_
    exact W.zret (v := 1) hx hb hr rfl (fun t9_ ht hW => ⟨⟨(1 : Int32), (iI (iN_arcs.toInt - 1)), rfl, ⟨(by (try dsimp only); exact (iI_rng (by omega) (Int.le_trans (Int.sub_le_sub (b_iN_arcs.2) (Int.le_refl _)) (by decide)) (by decide) (by decide))), (show 0 ≤ (1 : Int32).toInt ∧ (1 : Int32).toInt ≤ 1 from by decide), (by (try dsimp only); first | exact Or.inl ⟨by omega, by decide, by omega⟩ | exact Or.inr ⟨by omega, by decide, by first | (rw [iI_t (by omega) (by omega)] <;> omega) | omega⟩)⟩, by rw [ht]; exact hP, hD⟩, hS.F ht⟩) hS.2.2 dX2_dropArc_20
  · have t_4 : iN_arcs.toInt = 0 := toI_nne c_4 rfl (by decide : (0 : Int32).toInt = 0)
    refine lv_iconst (v := 0) hx hb dX2_dropArc_7 (by decide) ?_
    refine W.widen (k := 0) (n := 0) (by decide +kernel) (by decide +kernel) ?_
    exact W.zret (v := 0) hx hb hr rfl (fun t9_ ht hW => ⟨⟨(0 : Int32), iN_arcs, rfl, ⟨b_iN_arcs, (show 0 ≤ (0 : Int32).toInt ∧ (0 : Int32).toInt ≤ 1 from by decide), (by (try dsimp only); first | exact Or.inl ⟨by omega, by decide, by omega⟩ | exact Or.inr ⟨by omega, by decide, by first | (rw [iI_t (by omega) (by omega)] <;> omega) | omega⟩)⟩, by rw [ht]; exact hP, hD⟩, hS.F ht⟩) hS.2.2 dX2_dropArc_8
end

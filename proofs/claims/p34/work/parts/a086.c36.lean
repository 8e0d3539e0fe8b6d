theorem hd_yX12_sign_RX12 : yX12_sign.cls = RX12 ∧ yX12_sign.cls ≠ "java/lang/invoke/MethodHandle" ∧ yX12_sign.cls ≠ "java/lang/invoke/VarHandle" ∧ (parseMethodDescriptor yX12_sign.desc).map (fun d => d.parameters.length) = some 1 := by decide +kernel
theorem hd_yX12_divide_RX12 : yX12_divide.cls = RX12 ∧ yX12_divide.cls ≠ "java/lang/invoke/MethodHandle" ∧ yX12_divide.cls ≠ "java/lang/invoke/VarHandle" ∧ (parseMethodDescriptor yX12_divide.desc).map (fun d => d.parameters.length) = some 4 := by decide +kernel
theorem hd_yX12_small_RX12 : yX12_small.cls = RX12 ∧ yX12_small.cls ≠ "java/lang/invoke/MethodHandle" ∧ yX12_small.cls ≠ "java/lang/invoke/VarHandle" ∧ (parseMethodDescriptor yX12_small.desc).map (fun d => d.parameters.length) = some 1 := by decide +kernel
theorem dX12_sayBig_0 : decode cX12_sayBig 0 = .ok (.aload_n 0, 1) := dk_42 (by decide +kernel)
theorem dX12_sayBig_1 : decode cX12_sayBig 1 = .ok (.bipush 10, 2) := dk_16 (by decide +kernel)
theorem dX12_sayBig_3 : decode cX12_sayBig 3 = .ok (.iload_n 1, 1) := dk_27 (by decide +kernel)
theorem dX12_sayBig_4 : decode cX12_sayBig 4 = .ok (.invokevirtual 365, 3) := dk_182 (by decide +kernel)
theorem dX12_sayBig_7 : decode cX12_sayBig 7 = .ok (.aload_n 0, 1) := dk_42 (by decide +kernel)
theorem dX12_sayBig_8 : decode cX12_sayBig 8 = .ok (.bipush 10, 2) := dk_16 (by decide +kernel)
theorem dX12_sayBig_10 : decode cX12_sayBig 10 = .ok (.invokevirtual 353, 3) := dk_182 (by decide +kernel)
theorem dX12_sayBig_13 : decode cX12_sayBig 13 = .ok (.ifCond .ge 9, 3) := dk_156 (by decide +kernel)
theorem dX12_sayBig_16 : decode cX12_sayBig 16 = .ok (.aload_n 0, 1) := dk_42 (by decide +kernel)
theorem dX12_sayBig_17 : decode cX12_sayBig 17 = .ok (.bipush 10, 2) := dk_16 (by decide +kernel)
theorem dX12_sayBig_19 : decode cX12_sayBig 19 = .ok (.invokevirtual 379, 3) := dk_182 (by decide +kernel)
theorem dX12_sayBig_22 : decode cX12_sayBig 22 = .ok (.iconst 0, 1) := dk_3 (by decide +kernel)
theorem dX12_sayBig_23 : decode cX12_sayBig 23 = .ok (.istore_n 2, 1) := dk_61 (by decide +kernel)
theorem dX12_sayBig_24 : decode cX12_sayBig 24 = .ok (.aload_n 0, 1) := dk_42 (by decide +kernel)
theorem dX12_sayBig_25 : decode cX12_sayBig 25 = .ok (.bipush 12, 2) := dk_16 (by decide +kernel)
theorem dX12_sayBig_27 : decode cX12_sayBig 27 = .ok (.ldc2_w 939, 3) := dk_20 (by decide +kernel)
theorem dX12_sayBig_30 : decode cX12_sayBig 30 = .ok (.invokevirtual 369, 3) := dk_182 (by decide +kernel)
theorem dX12_sayBig_33 : decode cX12_sayBig 33 = .ok (.aload_n 0, 1) := dk_42 (by decide +kernel)
theorem dX12_sayBig_34 : decode cX12_sayBig 34 = .ok (.bipush 10, 2) := dk_16 (by decide +kernel)
theorem dX12_sayBig_36 : decode cX12_sayBig 36 = .ok (.invokevirtual 353, 3) := dk_182 (by decide +kernel)
theorem dX12_sayBig_39 : decode cX12_sayBig 39 = .ok (.ifCond .gt 7, 3) := dk_157 (by decide +kernel)
theorem dX12_sayBig_42 : decode cX12_sayBig 42 = .ok (.iload_n 2, 1) := dk_28 (by decide +kernel)
theorem dX12_sayBig_43 : decode cX12_sayBig 43 = .ok (.ifCond .ne 41, 3) := dk_154 (by decide +kernel)
theorem dX12_sayBig_46 : decode cX12_sayBig 46 = .ok (.aload_n 0, 1) := dk_42 (by decide +kernel)
theorem dX12_sayBig_47 : decode cX12_sayBig 47 = .ok (.bipush 11, 2) := dk_16 (by decide +kernel)
theorem dX12_sayBig_49 : decode cX12_sayBig 49 = .ok (.bipush 13, 2) := dk_16 (by decide +kernel)
theorem dX12_sayBig_51 : decode cX12_sayBig 51 = .ok (.bipush 10, 2) := dk_16 (by decide +kernel)
theorem dX12_sayBig_53 : decode cX12_sayBig 53 = .ok (.bipush 12, 2) := dk_16 (by decide +kernel)
theorem dX12_sayBig_55 : decode cX12_sayBig 55 = .ok (.invokevirtual 383, 3) := dk_182 (by decide +kernel)
theorem dX12_sayBig_58 : decode cX12_sayBig 58 = .ok (.aload_n 0, 1) := dk_42 (by decide +kernel)
theorem dX12_sayBig_59 : decode cX12_sayBig 59 = .ok (.getfield 251, 3) := dk_180 (by decide +kernel)
theorem dX12_sayBig_62 : decode cX12_sayBig 62 = .ok (.iload_n 2, 1) := dk_28 (by decide +kernel)
theorem dX12_sayBig_63 : decode cX12_sayBig 63 = .ok (.aload_n 0, 1) := dk_42 (by decide +kernel)
theorem dX12_sayBig_64 : decode cX12_sayBig 64 = .ok (.bipush 13, 2) := dk_16 (by decide +kernel)
theorem dX12_sayBig_66 : decode cX12_sayBig 66 = .ok (.invokevirtual 799, 3) := dk_182 (by decide +kernel)
theorem dX12_sayBig_69 : decode cX12_sayBig 69 = .ok (.iastore, 1) := dk_79 (by decide +kernel)
theorem dX12_sayBig_70 : decode cX12_sayBig 70 = .ok (.iinc 2 1, 3) := dk_132 (by decide +kernel)
theorem dX12_sayBig_73 : decode cX12_sayBig 73 = .ok (.aload_n 0, 1) := dk_42 (by decide +kernel)
theorem dX12_sayBig_74 : decode cX12_sayBig 74 = .ok (.bipush 10, 2) := dk_16 (by decide +kernel)
theorem dX12_sayBig_76 : decode cX12_sayBig 76 = .ok (.bipush 11, 2) := dk_16 (by decide +kernel)
theorem dX12_sayBig_78 : decode cX12_sayBig 78 = .ok (.invokevirtual 365, 3) := dk_182 (by decide +kernel)
theorem dX12_sayBig_81 : decode cX12_sayBig 81 = .ok (.goto (-48), 3) := dk_167 (by decide +kernel)
theorem dX12_sayBig_84 : decode cX12_sayBig 84 = .ok (.iload_n 2, 1) := dk_28 (by decide +kernel)
theorem dX12_sayBig_85 : decode cX12_sayBig 85 = .ok (.iconst 1, 1) := dk_4 (by decide +kernel)
theorem dX12_sayBig_86 : decode cX12_sayBig 86 = .ok (.isub, 1) := dk_100 (by decide +kernel)
theorem dX12_sayBig_87 : decode cX12_sayBig 87 = .ok (.istore_n 3, 1) := dk_62 (by decide +kernel)
theorem dX12_sayBig_88 : decode cX12_sayBig 88 = .ok (.iload_n 3, 1) := dk_29 (by decide +kernel)
theorem dX12_sayBig_89 : decode cX12_sayBig 89 = .ok (.ifCond .lt 22, 3) := dk_155 (by decide +kernel)
theorem dX12_sayBig_92 : decode cX12_sayBig 92 = .ok (.aload_n 0, 1) := dk_42 (by decide +kernel)
theorem dX12_sayBig_93 : decode cX12_sayBig 93 = .ok (.bipush 48, 2) := dk_16 (by decide +kernel)
theorem dX12_sayBig_95 : decode cX12_sayBig 95 = .ok (.aload_n 0, 1) := dk_42 (by decide +kernel)
theorem dX12_sayBig_96 : decode cX12_sayBig 96 = .ok (.getfield 251, 3) := dk_180 (by decide +kernel)
theorem dX12_sayBig_99 : decode cX12_sayBig 99 = .ok (.iload_n 3, 1) := dk_29 (by decide +kernel)
theorem dX12_sayBig_100 : decode cX12_sayBig 100 = .ok (.iaload, 1) := dk_46 (by decide +kernel)
theorem dX12_sayBig_101 : decode cX12_sayBig 101 = .ok (.iadd, 1) := dk_96 (by decide +kernel)
theorem dX12_sayBig_102 : decode cX12_sayBig 102 = .ok (.invokevirtual 936, 3) := dk_182 (by decide +kernel)
theorem dX12_sayBig_105 : decode cX12_sayBig 105 = .ok (.iinc 3 (-1), 3) := dk_132 (by decide +kernel)
theorem dX12_sayBig_108 : decode cX12_sayBig 108 = .ok (.goto (-20), 3) := dk_167 (by decide +kernel)
theorem dX12_sayBig_111 : decode cX12_sayBig 111 = .ok (.return_, 1) := dk_177 (by decide +kernel)
def wsRX12_sayBig : List Cond := .code yX12_sayBig cX12_sayBig 4 none :: ([.constantLong RX12 939 10, .fieldLink RX12 251 "OptimaWorksModel" "digits" "[I"] ++ wsX120 ++ (wsV RX12 365 RX12 yX12_copy wsRX12_copy) ++ (wsV RX12 353 RX12 yX12_sign wsRX12_sign) ++ (wsV RX12 379 RX12 yX12_turn wsRX12_turn) ++ (wsV RX12 369 RX12 yX12_put wsRX12_put) ++ (wsV RX12 383 RX12 yX12_divide wsRX12_divide) ++ (wsV RX12 799 RX12 yX12_small wsRX12_small) ++ (wsV RX12 936 RX12 yX12_say wsRX12_say))
theorem iwsRX12_sayBig_in12 : ∀ w ∈ wsX120, w ∈ wsRX12_sayBig := fun _ h => List.mem_cons_of_mem _ (List.mem_append_left _ (List.mem_append_left _ (List.mem_append_left _ (List.mem_append_left _ (List.mem_append_left _ (List.mem_append_left _ (List.mem_append_left _ (List.mem_append_right _ h))))))))
theorem gwsRX12_sayBig_0 : GoodIn wsRX12_sayBig (wsV RX12 365 RX12 yX12_copy wsRX12_copy) := goodIn_sub (fun _ h => List.mem_cons_of_mem _ (List.mem_append_left _ (List.mem_append_left _ (List.mem_append_left _ (List.mem_append_left _ (List.mem_append_left _ (List.mem_append_left _ (List.mem_append_right _ h)))))))) (gdV (by decide +kernel) gdwsRX12_copy)
theorem gwsRX12_sayBig_1 : GoodIn wsRX12_sayBig (wsV RX12 353 RX12 yX12_sign wsRX12_sign) := goodIn_sub (fun _ h => List.mem_cons_of_mem _ (List.mem_append_left _ (List.mem_append_left _ (List.mem_append_left _ (List.mem_append_left _ (List.mem_append_left _ (List.mem_append_right _ h))))))) (gdV (by decide +kernel) gdwsRX12_sign)
theorem gwsRX12_sayBig_2 : GoodIn wsRX12_sayBig (wsV RX12 379 RX12 yX12_turn wsRX12_turn) := goodIn_sub (fun _ h => List.mem_cons_of_mem _ (List.mem_append_left _ (List.mem_append_left _ (List.mem_append_left _ (List.mem_append_left _ (List.mem_append_right _ h)))))) (gdV (by decide +kernel) gdwsRX12_turn)
theorem gwsRX12_sayBig_3 : GoodIn wsRX12_sayBig (wsV RX12 369 RX12 yX12_put wsRX12_put) := goodIn_sub (fun _ h => List.mem_cons_of_mem _ (List.mem_append_left _ (List.mem_append_left _ (List.mem_append_left _ (List.mem_append_right _ h))))) (gdV (by decide +kernel) gdwsRX12_put)
theorem gwsRX12_sayBig_4 : GoodIn wsRX12_sayBig (wsV RX12 383 RX12 yX12_divide wsRX12_divide) := goodIn_sub (fun _ h => List.mem_cons_of_mem _ (List.mem_append_left _ (List.mem_append_left _ (List.mem_append_right _ h)))) (gdV (by decide +kernel) gdwsRX12_divide)
theorem gwsRX12_sayBig_5 : GoodIn wsRX12_sayBig (wsV RX12 799 RX12 yX12_small wsRX12_small) := goodIn_sub (fun _ h => List.mem_cons_of_mem _ (List.mem_append_left _ (List.mem_append_right _ h))) (gdV (by decide +kernel) gdwsRX12_small)
theorem gwsRX12_sayBig_6 : GoodIn wsRX12_sayBig (wsV RX12 936 RX12 yX12_say wsRX12_say) := goodIn_sub (fun _ h => List.mem_cons_of_mem _ (List.mem_append_right _ h)) (gdV (by decide +kernel) gdwsRX12_say)
theorem gdwsRX12_sayBig : wsRX12_sayBig.all goodWord = true := gdC rfl (gdA (gdA (gdA (gdA (gdA (gdA (gdA (gdA (by decide +kernel : ([.constantLong RX12 939 10, .fieldLink RX12 251 "OptimaWorksModel" "digits" "[I"] : List Cond).all goodWord = true) gdwsX120) (gdV (by decide +kernel) gdwsRX12_copy)) (gdV (by decide +kernel) gdwsRX12_sign)) (gdV (by decide +kernel) gdwsRX12_turn)) (gdV (by decide +kernel) gdwsRX12_put)) (gdV (by decide +kernel) gdwsRX12_divide)) (gdV (by decide +kernel) gdwsRX12_small)) (gdV (by decide +kernel) gdwsRX12_say))
set_option maxHeartbeats 4000000 in
set_option maxRecDepth 100000 in
/-- sayBig(s) -/
theorem r_X12_sayBig (l : Launch) (dC : Nat → ClassId) (dI : Nat → Nat → Nat) (a : Nat → Nat) (k : Nat → ClassId) (h0 : Nat) (vi : Nat → Int32) (vj : Nat → Int64) (vF : Nat → Nat → Int32) (vG : Nat → Nat → Int64) (sn : Nat) (pn : Nat) (mg : Nat → Int) (hBg : Bg (vF 0) mg) (hpn : vi 125 = nI pn) (hpn2 : pn ≤ 30000) (hsn : sn < 1100) (hs10 : sn < 10 ∨ 13 < sn) (sz : Nat) : Met l yX12_sayBig wsRX12_sayBig ({ frames := 2, cells := 0, slots := 0, locals := 62 }) (va_Pc [.ref h0, .int (nI sn)] (fun U => U.heap.size = sz ∧ va_P (dC, dI) vwCl (WR a k h0 vi vj vF vG) U.heap ∧ va_K (dC, dI) vwCl (tX12 k) U ∧ va_D (fun _ => True) (WR a k h0 vi vj vF vG))) (va_Qv (fun (u : (Nat → Int32) × (Nat → Int32) × (Nat → Int32) × (Nat → Int64) × (Nat → Int32) × (Nat) × (Nat → Int32) × (Nat → Int)) => (Bg (u.1) (u.2.2.2.2.2.2.2)) ∧ ((u.2.2.2.2.2.1) ≤ 30000) ∧ (∀ q, (q < 10 ∨ 13 < q) → (u.2.2.2.2.2.2.2) q = mg q)) (fun (u : (Nat → Int32) × (Nat → Int32) × (Nat → Int32) × (Nat → Int64) × (Nat → Int32) × (Nat) × (Nat → Int32) × (Nat → Int)) t => va_P (dC, dI) vwCl (WR a k h0 (fT vi 125 (nI (u.2.2.2.2.2.1))) vj (fT (fT (fT (fT (fT vF 0 (u.1)) 2 (u.2.1)) 3 (u.2.2.1)) 76 (u.2.2.2.2.1)) 75 (u.2.2.2.2.2.2.1)) (fT vG 1 (u.2.2.2.1))) t.heap ∧ va_D (va_A (WR a k h0 vi vj vF vG) sz) (WR a k h0 (fT vi 125 (nI (u.2.2.2.2.2.1))) vj (fT (fT (fT (fT (fT vF 0 (u.1)) 2 (u.2.1)) 3 (u.2.2.1)) 76 (u.2.2.2.2.1)) 75 (u.2.2.2.2.2.2.1)) (fT vG 1 (u.2.2.2.1)))) (va_A (WR a k h0 vi vj vF vG) sz)) 0 0 (va_A (WR a k h0 vi vj vF vG) sz) := by
  refine Met.ofW (cc := cX12_sayBig) (maxL := 4) (ret := none) (by decide) rfl ?_
  intro p e s m args below meth c s₁ B hml hv
  obtain ⟨rfl, hsz, hP, hK, hD0⟩ := hv
  have hx := B.exec
  have hb := B.bytes
  have hr := B.returns
  have hts := atoms_spec (ws := wsRX12_sayBig) B.pre
  have hown : s.vm.findClass RX12 = some m.cls := findClass_of_methodNamed B.named
  have hlocks := B.notSynchronized
  subst hsz
  have hD := hD0.self (sz := s.heap.size)
  generalize hAe : va_A (WR a k h0 vi vj vF vG) s.heap.size = A at hD ⊢
  have hA : ∀ q : Nat, s.heap.size ≤ q → A q := fun q h => by rw [← hAe]; exact Or.inr h
  have hS : va_S A s.heap s.heap [] := va_S.rf
  have hl := lv_entry ([.ref h0, .int (nI sn)]) (n := 4) (Nat.le_of_ble_eq_true rfl)
  rw [lg_entry_eq]
  generalize (lg_sl ([.ref h0, .int (nI sn)]) ++ List.replicate (4 - (lg_sl ([.ref h0, .int (nI sn)])).length) Slot.unset).toArray = ls at hl ⊢
  have hl : lv_has ls 4 [(0, .ref h0), (1, .int (nI sn))] := hl
  refine lv_aload_n hx hb dX12_sayBig_0 rfl (lv_at hl 0 rfl) ?_
  refine lv_bipush (v := 10) hx hb dX12_sayBig_1 (by decide) ?_
  refine lv_iload_n hx hb dX12_sayBig_3 rfl (lv_at hl 1 rfl) ?_
  have hFc := allFree hD hS hA
  refine va_callv (va_runV (As := [.int 10, .int (nI sn)]) (rest := []) ⟨hx, hb, hml, hown, hts⟩ (b_X12_copy l dC dI a k h0 vi vj vF vG 10 sn mg hBg (mg sn) rfl (by first | assumption | decide | omega | rfl) (by first | assumption | decide | omega | rfl) (by first | assumption | decide | omega | rfl) s.heap.size) (cwV 2 hts gwsRX12_sayBig_0 rfl rfl rfl hd_yX12_copy_RX12 (by decide +kernel)) (fz_pre (va_recv hK hP (ci := 12) (q0 := 0) rfl rfl) hP hK hD) rfl rfl hl.1 rfl (lv_room (Nat.le_of_ble_eq_true rfl)) dX12_sayBig_4 (by decide +kernel)) hS (fun q _ h => hFc q h) hFc (fun u t9_ H locs ht hvm hw9 hB9 hz1 hk1 hS => ?_)
  obtain ⟨g4, hwit4⟩ : ∃ w9, w9 = u := ⟨u, rfl⟩
  subst hwit4
  have hP : va_P (dC, dI) vwCl (WR a k h0 vi vj (fT vF 0 g4) vG) H := fz_P ht hB9.1
  have hD : va_D A (WR a k h0 vi vj (fT vF 0 g4) vG) := hB9.2.weaken (fun _ q _ h => hFc q.1 h)
  have f4_0 := hw9
  try dsimp only at f4_0
  refine lv_aload_n hx hb dX12_sayBig_7 rfl (lv_at hl 0 rfl) ?_
  refine lv_bipush (v := 10) hx hb dX12_sayBig_8 (by decide) ?_
  have hFc := allFree hD hS hA
  refine va_calli (va_runV (As := [.int 10]) (rest := []) ⟨hx, hb, hml, hown, hts⟩ (b_X12_sign l dC dI a k h0 vi vj (fT vF 0 g4) vG 10 (fT mg 10 (mg sn)) f4_0 (mg sn) (by rw [fT_eq]) (by first | assumption | decide | omega | rfl) H.size) (cwV 1 hts gwsRX12_sayBig_1 rfl rfl rfl hd_yX12_sign_RX12 (by decide +kernel)) (fz_pre (va_recv hK hP (ci := 12) (q0 := 0) rfl rfl) hP hK hD) rfl rfl hl.1 rfl (lv_room (Nat.le_of_ble_eq_true rfl)) dX12_sayBig_10 (by decide +kernel)) hS (fun q _ h => hFc q h) hFc (fun r10 u t9_ H locs ht hvm hw9 hB9 hz1 hk1 hS => ?_)
  have hP : va_P (dC, dI) vwCl (WR a k h0 vi vj (fT vF 0 g4) vG) H := fz_P ht hB9.1
  have hD : va_D A (WR a k h0 vi vj (fT vF 0 g4) vG) := hB9.2.weaken (fun _ q _ h => hFc q.1 h)
  have f10_0 := hw9
  try dsimp only at f10_0
  refine W.cut (pc := 22) (fun H locs ls stk => ∃ (j1_F0 : Nat → Int32) (j1_m : Nat → Int) (x10 : Int), (Bg j1_F0 j1_m) ∧ (j1_m 10 = x10) ∧ (0 ≤ x10) ∧ (x10.natAbs < 2 ^ 616) ∧ (∀ q, q ≠ 10 → j1_m q = mg q) ∧  stk = [] ∧ va_P (dC, dI) vwCl (WR a k h0 vi vj (fT vF 0 j1_F0) vG) H ∧ va_D A (WR a k h0 vi vj (fT vF 0 j1_F0) vG) ∧ va_S A s.heap H locs ∧ lv_has ls 4 [(0, .ref h0), (1, .int (nI sn))]) (fun join1 => ?_) ?_
  · refine lv_if_ge (tgt := 22) hx hb dX12_sayBig_13 (by decide) (fun c_13 => ?_) (fun c_13 => ?_)
    · have t_13 : (r10).toInt ≥ 0 := toI_ge c_13 rfl (by decide)
      have hl : lv_has _ _ ([(0, .ref h0), (1, .int (nI sn))]) := lv_sub hl [0, 1] rfl
      exact join1 _ _ _ _ ⟨g4, (fT mg 10 (mg sn)), (mg sn), f4_0, (by rw [fT_eq]), by omega, hBg.lt hsn, fun q hq => by (rw [fT_ne _ _ (by omega)]), rfl, hP, hD, hS, hl⟩
    · have t_13 : ¬ (r10).toInt ≥ 0 := toI_nge c_13 rfl (by decide)
      refine lv_aload_n hx hb dX12_sayBig_16 rfl (lv_at hl 0 rfl) ?_
      refine lv_bipush (v := 10) hx hb dX12_sayBig_17 (by decide) ?_
      have hFc := allFree hD hS hA
      refine va_callv (va_runV (As := [.int 10]) (rest := []) ⟨hx, hb, hml, hown, hts⟩ (b_X12_turn l dC dI a k h0 vi vj (fT vF 0 g4) vG 10 (fT mg 10 (mg sn)) f4_0 (mg sn) (by rw [fT_eq]) (by first | assumption | decide | omega | rfl) H.size) (cwV 1 hts gwsRX12_sayBig_2 rfl rfl rfl hd_yX12_turn_RX12 (by decide +kernel)) (fz_pre (va_recv hK hP (ci := 12) (q0 := 0) rfl rfl) hP hK hD) rfl rfl hl.1 rfl (lv_room (Nat.le_of_ble_eq_true rfl)) dX12_sayBig_19 (by decide +kernel)) hS (fun q _ h => hFc q h) hFc (fun u t9_ H locs ht hvm hw9 hB9 hz1 hk1 hS => ?_)
      have hP : va_P (dC, dI) vwCl (WR a k h0 vi vj (fT (fT vF 0 g4) 0 (upd g4 (nI (24 * 10)).toNatClampNeg (-(g4 (24 * 10))))) vG) H := fz_P ht hB9.1
      have hD : va_D A (WR a k h0 vi vj (fT (fT vF 0 g4) 0 (upd g4 (nI (24 * 10)).toNatClampNeg (-(g4 (24 * 10))))) vG) := hB9.2.weaken (fun _ q _ h => hFc q.1 h)
      have e9 : fT vF 0 (upd g4 (nI (24 * 10)).toNatClampNeg (-(g4 (24 * 10)))) = fT (fT vF 0 g4) 0 (upd g4 (nI (24 * 10)).toNatClampNeg (-(g4 (24 * 10)))) := (fT_sm _ _ _ _).symm
      rw [← e9] at hP hD
      clear e9
      have hP : va_P (dC, dI) vwCl (WR a k h0 vi vj (fT vF 0 (upd g4 (nI (24 * 10)).toNatClampNeg (-(g4 (24 * 10))))) vG) H := hP
      have hD : va_D A (WR a k h0 vi vj (fT vF 0 (upd g4 (nI (24 * 10)).toNatClampNeg (-(g4 (24 * 10))))) vG) := hD
      have f19_0 := hw9
      try dsimp only at f19_0
      have f19_0 : Bg (upd g4 (nI (24 * 10)).toNatClampNeg (-(g4 (24 * 10)))) (fT (fT mg 10 (mg sn)) 10 (-(mg sn))) := f19_0
      have hl : lv_has _ _ ([(0, .ref h0), (1, .int (nI sn))]) := lv_sub hl [0, 1] rfl
      exact join1 _ _ _ _ ⟨(upd g4 (nI (24 * 10)).toNatClampNeg (-(g4 (24 * 10)))), (fT (fT mg 10 (mg sn)) 10 (-(mg sn))), (-(mg sn)), f19_0, (by rw [fT_eq]), by omega, by rw [Int.natAbs_neg]; exact hBg.lt hsn, fun q hq => by (rw [fT_ne _ _ (by omega), fT_ne _ _ (by omega)]), rfl, hP, hD, hS, hl⟩
  · rintro H locs ls stk ⟨j1_F0, j1_m, x10, hBj1, v_x10, hx0, hxb, ho, rfl, hP, hD, hS, hl⟩
    refine lv_iconst (v := 0) hx hb dX12_sayBig_22 (by decide) ?_
    refine lv_istore_n hx hb dX12_sayBig_23 rfl hl (by decide) rfl (fun ls (hl : lv_has ls _ ([(2, .int 0), (0, .ref h0), (1, .int (nI sn))])) => ?_)
    refine lv_aload_n hx hb dX12_sayBig_24 rfl (lv_at hl 1 rfl) ?_
    refine lv_bipush (v := 12) hx hb dX12_sayBig_25 (by decide) ?_
    refine lv_ldc2 (v := 10) hx hb hown (hts (.constantLong RX12 939 10) (by decide +kernel)) dX12_sayBig_27 ?_
    have hFc := allFree hD hS hA
    refine va_callv (va_runV (As := [.int 12, .long 10]) (rest := []) ⟨hx, hb, hml, hown, hts⟩ (b_X12_put l dC dI a k h0 vi vj (fT vF 0 j1_F0) vG 12 10 10 j1_m hBj1 (by first | assumption | decide | omega | rfl) (by decide) (by first | assumption | decide | omega | rfl) H.size) (cwV 2 hts gwsRX12_sayBig_3 rfl rfl rfl hd_yX12_put_RX12 (by decide +kernel)) (fz_pre (va_recv hK hP (ci := 12) (q0 := 0) rfl rfl) hP hK hD) rfl rfl hl.1 rfl (lv_room (Nat.le_of_ble_eq_true rfl)) dX12_sayBig_30 (by decide +kernel)) hS (fun q _ h => hFc q h) hFc (fun u t9_ H locs ht hvm hw9 hB9 hz1 hk1 hS => ?_)
    obtain ⟨g30, hwit30⟩ : ∃ w9, w9 = u := ⟨u, rfl⟩
    subst hwit30
    have hP : va_P (dC, dI) vwCl (WR a k h0 vi vj (fT (fT vF 0 j1_F0) 0 g30) vG) H := fz_P ht hB9.1
    have hD : va_D A (WR a k h0 vi vj (fT (fT vF 0 j1_F0) 0 g30) vG) := hB9.2.weaken (fun _ q _ h => hFc q.1 h)
    have e9 : fT vF 0 g30 = fT (fT vF 0 j1_F0) 0 g30 := (fT_sm _ _ _ _).symm
    rw [← e9] at hP hD
    clear e9
    have hP : va_P (dC, dI) vwCl (WR a k h0 vi vj (fT vF 0 g30) vG) H := hP
    have hD : va_D A (WR a k h0 vi vj (fT vF 0 g30) vG) := hD
    have f30_0 := hw9
    try dsimp only at f30_0
    have e9 : fT (fT (fT (fT vF 0 g30) 2 (vF 2)) 3 (vF 3)) 76 (vF 76) = fT vF 0 g30 := by funext q9; by_cases h9_0 : q9 = 0; (subst h9_0; exact ((fT_ne _ _ (Nat.ne_of_beq_eq_false rfl)).trans ((fT_ne _ _ (Nat.ne_of_beq_eq_false rfl)).trans ((fT_ne _ _ (Nat.ne_of_beq_eq_false rfl)).trans (fT_eq _ _ _)))).trans (Eq.trans (by first | rfl | assumption | (symm; assumption) | (subst_vars; rfl)) (fT_eq _ _ _).symm)); by_cases h9_2 : q9 = 2; (subst h9_2; exact ((fT_ne _ _ (Nat.ne_of_beq_eq_false rfl)).trans ((fT_ne _ _ (Nat.ne_of_beq_eq_false rfl)).trans (fT_eq _ _ _))).trans (Eq.trans (by first | rfl | assumption | (symm; assumption) | (subst_vars; rfl)) (fT_ne _ _ (Nat.ne_of_beq_eq_false rfl)).symm)); by_cases h9_3 : q9 = 3; (subst h9_3; exact ((fT_ne _ _ (Nat.ne_of_beq_eq_false rfl)).trans (fT_eq _ _ _)).trans (Eq.trans (by first | rfl | assumption | (symm; assumption) | (subst_vars; rfl)) (fT_ne _ _ (Nat.ne_of_beq_eq_false rfl)).symm)); by_cases h9_76 : q9 = 76; (subst h9_76; exact (fT_eq _ _ _).trans (Eq.trans (by first | rfl | assumption | (symm; assumption) | (subst_vars; rfl)) (fT_ne _ _ (Nat.ne_of_beq_eq_false rfl)).symm)); exact ((fT_ne _ _ h9_76).trans ((fT_ne _ _ h9_3).trans ((fT_ne _ _ h9_2).trans (fT_ne _ _ h9_0)))).trans (fT_ne _ _ h9_0).symm
    have hP : va_P (dC, dI) vwCl (WR a k h0 vi vj (fT (fT (fT (fT vF 0 g30) 2 (vF 2)) 3 (vF 3)) 76 (vF 76)) vG) H := by rw [e9]; exact hP
    have hD : va_D A (WR a k h0 vi vj (fT (fT (fT (fT vF 0 g30) 2 (vF 2)) 3 (vF 3)) 76 (vF 76)) vG) := by rw [e9]; exact hD
    clear e9
    have e9 : fT vG 1 (vG 1) = vG := by funext q9; by_cases h9_1 : q9 = 1; (subst h9_1; exact (fT_eq _ _ _).trans (Eq.trans (by first | rfl | assumption | (symm; assumption) | (subst_vars; rfl)) (Eq.refl _).symm)); exact (fT_ne _ _ h9_1).trans (Eq.refl _).symm
    have hP : va_P (dC, dI) vwCl (WR a k h0 vi vj (fT (fT (fT (fT vF 0 g30) 2 (vF 2)) 3 (vF 3)) 76 (vF 76)) (fT vG 1 (vG 1))) H := by rw [e9]; exact hP
    have hD : va_D A (WR a k h0 vi vj (fT (fT (fT (fT vF 0 g30) 2 (vF 2)) 3 (vF 3)) 76 (vF 76)) (fT vG 1 (vG 1))) := by rw [e9]; exact hD
    clear e9
    have hl : lv_has _ _ ([(0, .ref h0), (2, .int (nI 0))]) := lv_sub hl [1, 0] rfl
    refine (fun (loop : ∀ (n9 : Nat) (n5 : Nat) (x3_F0 : Nat → Int32) (x3_F2 : Nat → Int32) (x3_F3 : Nat → Int32) (x3_F76 : Nat → Int32) (x3_G1 : Nat → Int64) (m4 : Nat → Int) (x10a : Int) (H : Heap) (locs : List Loc) (ls : Array Slot), (Bg x3_F0 m4) → (m4 12 = 10) → (m4 10 = x10a) → (n5 ≤ 206) → (0 ≤ x10a) → (x10a.natAbs * 8 ^ n5 < 2 ^ 616) → (∀ q, (q < 10 ∨ 13 < q) → m4 q = mg q) →  (206 < n5 + n9) → va_P (dC, dI) vwCl (WR a k h0 vi vj (fT (fT (fT (fT vF 0 x3_F0) 2 x3_F2) 3 x3_F3) 76 x3_F76) (fT vG 1 x3_G1)) H → va_D A (WR a k h0 vi vj (fT (fT (fT (fT vF 0 x3_F0) 2 x3_F2) 3 x3_F3) 76 x3_F76) (fT vG 1 x3_G1)) → va_S A s.heap H locs → lv_has ls 4 [(0, .ref h0), (2, .int (nI n5))] → W p l e _ s m _ below meth c H locs 0 0 _ (F0 m 33 ls [])) => loop (207) 0 g30 (vF 2) (vF 3) (vF 76) (vG 1) (fT j1_m 12 10) x10 _ _ _ (f30_0) ((by rw [fT_eq])) ((by rw [fT_ne _ _ (by omega), v_x10])) (by omega) (hx0) (by rw [Nat.pow_zero, Nat.mul_one]; exact hxb) (fun q hq => by (rw [fT_ne _ _ (by omega)]); exact ho q (by omega)) (by omega) hP hD hS hl) ?_
    intro n9
    induction n9 with
    | zero => intro n5 x3_F0 x3_F2 x3_F3 x3_F76 x3_G1 m4 x10a H locs ls hB4 h12 v_x10a hn5 hx1 hbd ho4 hf9; exact False.elim (by omega)
    | succ n9 ih33 =>
      intro n5 x3_F0 x3_F2 x3_F3 x3_F76 x3_G1 m4 x10a H locs ls hB4 h12 v_x10a hn5 hx1 hbd ho4 hf33 hP hD hS hl
      refine lv_aload_n hx hb dX12_sayBig_33 rfl (lv_at hl 0 rfl) ?_
      refine lv_bipush (v := 10) hx hb dX12_sayBig_34 (by decide) ?_
      have hFc := allFree hD hS hA
      refine va_calli (va_runV (As := [.int 10]) (rest := []) ⟨hx, hb, hml, hown, hts⟩ (b_X12_sign l dC dI a k h0 vi vj (fT (fT (fT (fT vF 0 x3_F0) 2 x3_F2) 3 x3_F3) 76 x3_F76) (fT vG 1 x3_G1) 10 m4 hB4 x10a (by rw [v_x10a]) (by first | assumption | decide | omega | rfl) H.size) (cwV 1 hts gwsRX12_sayBig_1 rfl rfl rfl hd_yX12_sign_RX12 (by decide +kernel)) (fz_pre (va_recv hK hP (ci := 12) (q0 := 0) rfl rfl) hP hK hD) rfl rfl hl.1 rfl (lv_room (Nat.le_of_ble_eq_true rfl)) dX12_sayBig_36 (by decide +kernel)) hS (fun q _ h => hFc q h) hFc (fun r36 u t9_ H locs ht hvm hw9 hB9 hz1 hk1 hS => ?_)
      have hP : va_P (dC, dI) vwCl (WR a k h0 vi vj (fT (fT (fT (fT vF 0 x3_F0) 2 x3_F2) 3 x3_F3) 76 x3_F76) (fT vG 1 x3_G1)) H := fz_P ht hB9.1
      have hD : va_D A (WR a k h0 vi vj (fT (fT (fT (fT vF 0 x3_F0) 2 x3_F2) 3 x3_F3) 76 x3_F76) (fT vG 1 x3_G1)) := hB9.2.weaken (fun _ q _ h => hFc q.1 h)
      have f36_0 := hw9
      try dsimp only at f36_0
      refine lv_if_gt (tgt := 46) hx hb dX12_sayBig_39 (by decide) (fun c_39 => ?_) (fun c_39 => ?_)
      · have t_39 : (r36).toInt > 0 := toI_gt c_39 rfl (by decide)
        have hn6 : n5 < 206 := by exact dig_le (show 1 ≤ x10a.natAbs by omega) hbd
        refine lv_aload_n hx hb dX12_sayBig_46 rfl (lv_at hl 0 rfl) ?_
        refine lv_bipush (v := 11) hx hb dX12_sayBig_47 (by decide) ?_
        refine lv_bipush (v := 13) hx hb dX12_sayBig_49 (by decide) ?_
        refine lv_bipush (v := 10) hx hb dX12_sayBig_51 (by decide) ?_
        refine lv_bipush (v := 12) hx hb dX12_sayBig_53 (by decide) ?_
        have hFc := allFree hD hS hA
        refine va_callv (va_runV (As := [.int 11, .int 13, .int 10, .int 12]) (rest := []) ⟨hx, hb, hml, hown, hts⟩ (b_X12_divide l dC dI a k h0 vi vj (fT (fT (fT (fT vF 0 x3_F0) 2 x3_F2) 3 x3_F3) 76 x3_F76) (fT vG 1 x3_G1) 11 13 10 12 m4 hB4 x10a 10 (by rw [v_x10a]) (by rw [h12]) (by first | assumption | decide | omega | rfl) (by first | assumption | decide | omega | rfl) (by first | assumption | decide | omega | rfl) (by first | assumption | decide | omega | rfl) (by first | assumption | decide | omega | rfl) (by first | assumption | decide | omega | rfl) (by decide) H.size) (cwV 4 hts gwsRX12_sayBig_4 rfl rfl rfl hd_yX12_divide_RX12 (by decide +kernel)) (fz_pre (va_recv hK hP (ci := 12) (q0 := 0) rfl rfl) hP hK hD) rfl rfl hl.1 rfl (lv_room (Nat.le_of_ble_eq_true rfl)) dX12_sayBig_55 (by decide +kernel)) hS (fun q _ h => hFc q h) hFc (fun u t9_ H locs ht hvm hw9 hB9 hz1 hk1 hS => ?_)
        obtain ⟨g55, f2w55, f3w55, gs55⟩ := u
        try dsimp only at hw9 hB9
        have hP : va_P (dC, dI) vwCl (WR a k h0 vi vj (fT (fT (fT (fT (fT (fT (fT vF 0 x3_F0) 2 x3_F2) 3 x3_F3) 76 x3_F76) 2 f2w55) 3 f3w55) 0 g55) (fT (fT vG 1 x3_G1) 1 gs55)) H := fz_P ht hB9.1
        have hD : va_D A (WR a k h0 vi vj (fT (fT (fT (fT (fT (fT (fT vF 0 x3_F0) 2 x3_F2) 3 x3_F3) 76 x3_F76) 2 f2w55) 3 f3w55) 0 g55) (fT (fT vG 1 x3_G1) 1 gs55)) := hB9.2.weaken (fun _ q _ h => hFc q.1 h)
        have e9 : fT (fT (fT (fT vF 0 g55) 2 f2w55) 3 f3w55) 76 x3_F76 = fT (fT (fT (fT (fT (fT (fT vF 0 x3_F0) 2 x3_F2) 3 x3_F3) 76 x3_F76) 2 f2w55) 3 f3w55) 0 g55 := ((congrArg (fun g9 => fT (fT g9 3 f3w55) 0 g55) ((fT_sw _ _ _ (Nat.ne_of_beq_eq_false rfl)).trans (congrArg (fun g9 => fT g9 76 x3_F76) ((fT_sw _ _ _ (Nat.ne_of_beq_eq_false rfl)).trans (congrArg (fun g9 => fT g9 3 x3_F3) (fT_sm _ _ _ _)))))).trans ((congrArg (fun g9 => fT g9 0 g55) ((fT_sw _ _ _ (Nat.ne_of_beq_eq_false rfl)).trans (congrArg (fun g9 => fT g9 76 x3_F76) (fT_sm _ _ _ _)))).trans ((fT_sw _ _ _ (Nat.ne_of_beq_eq_false rfl)).trans (congrArg (fun g9 => fT g9 76 x3_F76) ((fT_sw _ _ _ (Nat.ne_of_beq_eq_false rfl)).trans (congrArg (fun g9 => fT g9 3 f3w55) ((fT_sw _ _ _ (Nat.ne_of_beq_eq_false rfl)).trans (congrArg (fun g9 => fT g9 2 f2w55) (fT_sm _ _ _ _))))))))).symm
        rw [← e9] at hP hD
        clear e9
        have e9 : fT vG 1 gs55 = fT (fT vG 1 x3_G1) 1 gs55 := (fT_sm _ _ _ _).symm
        rw [← e9] at hP hD
        clear e9
        have hP : va_P (dC, dI) vwCl (WR a k h0 vi vj (fT (fT (fT (fT vF 0 g55) 2 f2w55) 3 f3w55) 76 x3_F76) (fT vG 1 gs55)) H := hP
        have hD : va_D A (WR a k h0 vi vj (fT (fT (fT (fT vF 0 g55) 2 f2w55) 3 f3w55) 76 x3_F76) (fT vG 1 gs55)) := hD
        have f55_0 := hw9
        try dsimp only at f55_0
        refine lv_aload_n hx hb dX12_sayBig_58 rfl (lv_at hl 0 rfl) ?_
        refine va_get (D := (dC, dI)) (ci := 12) (v := .ref (a 76)) (C := RX12) (T := TX12) (N := 163) (fs := fM (vS a vi vj)) hx hb hts iwsRX12_sayBig_in12 hown hK hP 0 rfl rfl 126 (by decide) (hts (.fieldLink RX12 251 "OptimaWorksModel" "digits" "[I") (by decide +kernel)) (fun _ h9 => h9) rfl dX12_sayBig_59 ?_
        refine lv_iload_n hx hb dX12_sayBig_62 rfl (lv_at hl 1 rfl) ?_
        refine lv_aload_n hx hb dX12_sayBig_63 rfl (lv_at hl 0 rfl) ?_
        refine lv_bipush (v := 13) hx hb dX12_sayBig_64 (by decide) ?_
        have hFc := allFree hD hS hA
        refine va_calli (va_runV (As := [.int 13]) (rest := [.int (nI n5), .ref (a 76)]) ⟨hx, hb, hml, hown, hts⟩ (r_X12_small l dC dI a k h0 vi vj (fT (fT (fT (fT vF 0 g55) 2 f2w55) 3 f3w55) 76 x3_F76) (fT vG 1 gs55) 13 (fT (fT m4 11 ((x10a).tdiv 10)) 13 ((x10a).tmod 10)) f55_0 ((x10a).tmod 10) (by rw [fT_eq]) (by first | assumption | decide | omega | rfl) H.size) (cwV 1 hts gwsRX12_sayBig_5 rfl rfl rfl hd_yX12_small_RX12 (by decide +kernel)) (fz_pre (va_recv hK hP (ci := 12) (q0 := 0) rfl rfl) hP hK hD) rfl rfl hl.1 rfl (lv_room (Nat.le_of_ble_eq_true rfl)) dX12_sayBig_66 (by decide +kernel)) hS (fun q _ h => hFc q h) hFc (fun r66 u t9_ H locs ht hvm hw9 hB9 hz1 hk1 hS => ?_)
        have hP : va_P (dC, dI) vwCl (WR a k h0 vi vj (fT (fT (fT (fT vF 0 g55) 2 f2w55) 3 f3w55) 76 x3_F76) (fT vG 1 gs55)) H := fz_P ht hB9.1
        have hD : va_D A (WR a k h0 vi vj (fT (fT (fT (fT vF 0 g55) 2 f2w55) 3 f3w55) 76 x3_F76) (fT vG 1 gs55)) := hB9.2.weaken (fun _ q _ h => hFc q.1 h)
        obtain ⟨f66_0, f66_1⟩ := hw9
        refine va_iast (cA := k 76) (n := 250) (f := x3_F76) hx hb hK hP hD hS 77 76 (WR_get 76 (by decide)) (TR_get 76 (by decide)) (vp_in_nI (show n5 < 250 by omega) (by omega)) dX12_sayBig_69 (fun H locs hP hD hS => ?_)
        have e9 : fT (fT (fT (fT vF 0 g55) 2 f2w55) 3 f3w55) 76 (upd x3_F76 ((nI n5)).toNatClampNeg r66) = fT (fT (fT (fT (fT vF 0 g55) 2 f2w55) 3 f3w55) 76 x3_F76) 76 (upd x3_F76 ((nI n5)).toNatClampNeg r66) := (fT_sm _ _ _ _).symm
        have hP : va_P (dC, dI) vwCl (WR a k h0 vi vj (fT (fT (fT (fT vF 0 g55) 2 f2w55) 3 f3w55) 76 (upd x3_F76 ((nI n5)).toNatClampNeg r66)) (fT vG 1 gs55)) H := by rw [e9, ← WR_F 76 (by decide) _ rfl]; exact hP
        have hD : va_D A (WR a k h0 vi vj (fT (fT (fT (fT vF 0 g55) 2 f2w55) 3 f3w55) 76 (upd x3_F76 ((nI n5)).toNatClampNeg r66)) (fT vG 1 gs55)) := by rw [e9, ← WR_F 76 (by decide) _ rfl]; exact hD
        clear e9
        refine lv_iinc (v := (nI (n5 + 1))) hx hb dX12_sayBig_70 hl (k := 1) rfl (nI_add n5 1) (by decide) rfl (fun ls (hl : lv_has ls _ ([(2, .int (nI (n5 + 1))), (0, .ref h0)])) => ?_)
        refine lv_aload_n hx hb dX12_sayBig_73 rfl (lv_at hl 1 rfl) ?_
        refine lv_bipush (v := 10) hx hb dX12_sayBig_74 (by decide) ?_
        refine lv_bipush (v := 11) hx hb dX12_sayBig_76 (by decide) ?_
        have hFc := allFree hD hS hA
        refine va_callv (va_runV (As := [.int 10, .int 11]) (rest := []) ⟨hx, hb, hml, hown, hts⟩ (b_X12_copy l dC dI a k h0 vi vj (fT (fT (fT (fT vF 0 g55) 2 f2w55) 3 f3w55) 76 (upd x3_F76 ((nI n5)).toNatClampNeg r66)) (fT vG 1 gs55) 10 11 (fT (fT m4 11 ((x10a).tdiv 10)) 13 ((x10a).tmod 10)) f55_0 ((x10a).tdiv 10) (by rw [fT_ne _ _ (by omega), fT_eq]) (by first | assumption | decide | omega | rfl) (by first | assumption | decide | omega | rfl) (by first | assumption | decide | omega | rfl) H.size) (cwV 2 hts gwsRX12_sayBig_0 rfl rfl rfl hd_yX12_copy_RX12 (by decide +kernel)) (fz_pre (va_recv hK hP (ci := 12) (q0 := 0) rfl rfl) hP hK hD) rfl rfl hl.1 rfl (lv_room (Nat.le_of_ble_eq_true rfl)) dX12_sayBig_78 (by decide +kernel)) hS (fun q _ h => hFc q h) hFc (fun u t9_ H locs ht hvm hw9 hB9 hz1 hk1 hS => ?_)
        obtain ⟨g78, hwit78⟩ : ∃ w9, w9 = u := ⟨u, rfl⟩
        subst hwit78
        have hP : va_P (dC, dI) vwCl (WR a k h0 vi vj (fT (fT (fT (fT (fT vF 0 g55) 2 f2w55) 3 f3w55) 76 (upd x3_F76 ((nI n5)).toNatClampNeg r66)) 0 g78) (fT vG 1 gs55)) H := fz_P ht hB9.1
        have hD : va_D A (WR a k h0 vi vj (fT (fT (fT (fT (fT vF 0 g55) 2 f2w55) 3 f3w55) 76 (upd x3_F76 ((nI n5)).toNatClampNeg r66)) 0 g78) (fT vG 1 gs55)) := hB9.2.weaken (fun _ q _ h => hFc q.1 h)
        have e9 : fT (fT (fT (fT vF 0 g78) 2 f2w55) 3 f3w55) 76 (upd x3_F76 ((nI n5)).toNatClampNeg r66) = fT (fT (fT (fT (fT vF 0 g55) 2 f2w55) 3 f3w55) 76 (upd x3_F76 ((nI n5)).toNatClampNeg r66)) 0 g78 := ((fT_sw _ _ _ (Nat.ne_of_beq_eq_false rfl)).trans (congrArg (fun g9 => fT g9 76 (upd x3_F76 ((nI n5)).toNatClampNeg r66)) ((fT_sw _ _ _ (Nat.ne_of_beq_eq_false rfl)).trans (congrArg (fun g9 => fT g9 3 f3w55) ((fT_sw _ _ _ (Nat.ne_of_beq_eq_false rfl)).trans (congrArg (fun g9 => fT g9 2 f2w55) (fT_sm _ _ _ _))))))).symm
        rw [← e9] at hP hD
        clear e9
        have hP : va_P (dC, dI) vwCl (WR a k h0 vi vj (fT (fT (fT (fT vF 0 g78) 2 f2w55) 3 f3w55) 76 (upd x3_F76 ((nI n5)).toNatClampNeg r66)) (fT vG 1 gs55)) H := hP
        have hD : va_D A (WR a k h0 vi vj (fT (fT (fT (fT vF 0 g78) 2 f2w55) 3 f3w55) 76 (upd x3_F76 ((nI n5)).toNatClampNeg r66)) (fT vG 1 gs55)) := hD
        have f78_0 := hw9
        try dsimp only at f78_0
        refine lv_goto (tgt := 33) hx hb dX12_sayBig_81 (by decide) ?_
        have hl : lv_has _ _ ([(0, .ref h0), (2, .int (nI (n5 + 1)))]) := lv_sub hl [1, 0] rfl
        exact ih33 (n5 + 1) g78 f2w55 f3w55 (upd x3_F76 ((nI n5)).toNatClampNeg r66) gs55 (fT (fT (fT m4 11 ((x10a).tdiv 10)) 13 ((x10a).tmod 10)) 10 ((x10a).tdiv 10)) ((x10a).tdiv 10) _ _ _ (f78_0) ((by rw [fT_ne _ _ (by omega), fT_ne _ _ (by omega), fT_ne _ _ (by omega), h12])) ((by rw [fT_eq])) (by omega) (Int.tdiv_nonneg hx1 (by decide)) (dig_step hbd) (fun q hq => by (rw [fT_ne _ _ (by omega), fT_ne _ _ (by omega), fT_ne _ _ (by omega)]); exact ho4 q hq) (by omega) hP hD hS hl
      · have t_39 : ¬ (r36).toInt > 0 := toI_ngt c_39 rfl (by decide)
        refine lv_iload_n hx hb dX12_sayBig_42 rfl (lv_at hl 1 rfl) ?_
        refine lv_if_ne (tgt := 84) hx hb dX12_sayBig_43 (by decide) (fun c_43 => ?_) (fun c_43 => ?_)
        · have t_43 : ((n5 : Nat) : Int) ≠ 0 := toI_ne c_43 (nI_toInt (by omega)) (by decide)
          refine lv_iload_n hx hb dX12_sayBig_84 rfl (lv_at hl 1 rfl) ?_
          refine lv_iconst (v := 1) hx hb dX12_sayBig_85 (by decide) ?_
          refine lv_isub hx hb dX12_sayBig_86 ?_
          refine lv_istore_n hx hb dX12_sayBig_87 rfl hl (by decide) rfl (fun ls (hl : lv_has ls _ ([(3, .int ((nI n5) - 1)), (0, .ref h0), (2, .int (nI n5))])) => ?_)
          have e9 : fT vi 125 (nI pn) = vi := by funext q9; by_cases h9_125 : q9 = 125; (subst h9_125; exact (fT_eq _ _ _).trans (Eq.trans (by first | rfl | assumption | (symm; assumption) | (subst_vars; rfl)) (Eq.refl _).symm)); exact (fT_ne _ _ h9_125).trans (Eq.refl _).symm
          have hP : va_P (dC, dI) vwCl (WR a k h0 (fT vi 125 (nI pn)) vj (fT (fT (fT (fT vF 0 x3_F0) 2 x3_F2) 3 x3_F3) 76 x3_F76) (fT vG 1 x3_G1)) H := by rw [e9]; exact hP
          have hD : va_D A (WR a k h0 (fT vi 125 (nI pn)) vj (fT (fT (fT (fT vF 0 x3_F0) 2 x3_F2) 3 x3_F3) 76 x3_F76) (fT vG 1 x3_G1)) := by rw [e9]; exact hD
          clear e9
          have e9 : fT (fT (fT (fT (fT vF 0 x3_F0) 2 x3_F2) 3 x3_F3) 76 x3_F76) 75 (vF 75) = fT (fT (fT (fT vF 0 x3_F0) 2 x3_F2) 3 x3_F3) 76 x3_F76 := by funext q9; by_cases h9_0 : q9 = 0; (subst h9_0; exact ((fT_ne _ _ (Nat.ne_of_beq_eq_false rfl)).trans ((fT_ne _ _ (Nat.ne_of_beq_eq_false rfl)).trans ((fT_ne _ _ (Nat.ne_of_beq_eq_false rfl)).trans ((fT_ne _ _ (Nat.ne_of_beq_eq_false rfl)).trans (fT_eq _ _ _))))).trans (Eq.trans (by first | rfl | assumption | (symm; assumption) | (subst_vars; rfl)) ((fT_ne _ _ (Nat.ne_of_beq_eq_false rfl)).trans ((fT_ne _ _ (Nat.ne_of_beq_eq_false rfl)).trans ((fT_ne _ _ (Nat.ne_of_beq_eq_false rfl)).trans (fT_eq _ _ _)))).symm)); by_cases h9_2 : q9 = 2; (subst h9_2; exact ((fT_ne _ _ (Nat.ne_of_beq_eq_false rfl)).trans ((fT_ne _ _ (Nat.ne_of_beq_eq_false rfl)).trans ((fT_ne _ _ (Nat.ne_of_beq_eq_false rfl)).trans (fT_eq _ _ _)))).trans (Eq.trans (by first | rfl | assumption | (symm; assumption) | (subst_vars; rfl)) ((fT_ne _ _ (Nat.ne_of_beq_eq_false rfl)).trans ((fT_ne _ _ (Nat.ne_of_beq_eq_false rfl)).trans (fT_eq _ _ _))).symm)); by_cases h9_3 : q9 = 3; (subst h9_3; exact ((fT_ne _ _ (Nat.ne_of_beq_eq_false rfl)).trans ((fT_ne _ _ (Nat.ne_of_beq_eq_false rfl)).trans (fT_eq _ _ _))).trans (Eq.trans (by first | rfl | assumption | (symm; assumption) | (subst_vars; rfl)) ((fT_ne _ _ (Nat.ne_of_beq_eq_false rfl)).trans (fT_eq _ _ _)).symm)); by_cases h9_76 : q9 = 76; (subst h9_76; exact ((fT_ne _ _ (Nat.ne_of_beq_eq_false rfl)).trans (fT_eq _ _ _)).trans (Eq.trans (by first | rfl | assumption | (symm; assumption) | (subst_vars; rfl)) (fT_eq _ _ _).symm)); by_cases h9_75 : q9 = 75; (subst h9_75; exact (fT_eq _ _ _).trans (Eq.trans (by first | rfl | assumption | (symm; assumption) | (subst_vars; rfl)) ((fT_ne _ _ (Nat.ne_of_beq_eq_false rfl)).trans ((fT_ne _ _ (Nat.ne_of_beq_eq_false rfl)).trans ((fT_ne _ _ (Nat.ne_of_beq_eq_false rfl)).trans (fT_ne _ _ (Nat.ne_of_beq_eq_false rfl))))).symm)); exact ((fT_ne _ _ h9_75).trans ((fT_ne _ _ h9_76).trans ((fT_ne _ _ h9_3).trans ((fT_ne _ _ h9_2).trans (fT_ne _ _ h9_0))))).trans ((fT_ne _ _ h9_76).trans ((fT_ne _ _ h9_3).trans ((fT_ne _ _ h9_2).trans (fT_ne _ _ h9_0)))).symm
          have hP : va_P (dC, dI) vwCl (WR a k h0 (fT vi 125 (nI pn)) vj (fT (fT (fT (fT (fT vF 0 x3_F0) 2 x3_F2) 3 x3_F3) 76 x3_F76) 75 (vF 75)) (fT vG 1 x3_G1)) H := by rw [e9]; exact hP
          have hD : va_D A (WR a k h0 (fT vi 125 (nI pn)) vj (fT (fT (fT (fT (fT vF 0 x3_F0) 2 x3_F2) 3 x3_F3) 76 x3_F76) 75 (vF 75)) (fT vG 1 x3_G1)) := by rw [e9]; exact hD
          clear e9
          have hl : lv_has _ _ ([(0, .ref h0), (3, .int ((nI n5) - 1))]) := lv_sub hl [1, 0] rfl
          refine (fun (loop : ∀ (n9 : Nat) (kq : Int32) (kk1 : Nat) (x4_i125 : Nat) (x4_F75 : Nat → Int32) (H : Heap) (locs : List Loc) (ls : Array Slot), ((kq).toInt = (kk1 : Int) - 1) → (kk1 ≤ n5) → (x4_i125 ≤ 30000) →  (kk1 < n9) → va_P (dC, dI) vwCl (WR a k h0 (fT vi 125 (nI x4_i125)) vj (fT (fT (fT (fT (fT vF 0 x3_F0) 2 x3_F2) 3 x3_F3) 76 x3_F76) 75 x4_F75) (fT vG 1 x3_G1)) H → va_D A (WR a k h0 (fT vi 125 (nI x4_i125)) vj (fT (fT (fT (fT (fT vF 0 x3_F0) 2 x3_F2) 3 x3_F3) 76 x3_F76) 75 x4_F75) (fT vG 1 x3_G1)) → va_S A s.heap H locs → lv_has ls 4 [(0, .ref h0), (3, .int kq)] → W p l e _ s m _ below meth c H locs 0 0 _ (F0 m 88 ls [])) => loop (n5 + 1) ((nI n5) - 1) n5 pn (vF 75) _ _ _ (by exact pk_sub_toInt (a := n5) (b := 1) (by omega) (by omega)) (by omega) (by first | assumption | omega) (by omega) hP hD hS hl) ?_
          intro n9
          induction n9 with
          | zero => intro kq kk1 x4_i125 x4_F75 H locs ls hkq hkn hx4_i125 hf9; exact False.elim (by omega)
          | succ n9 ih88_1 =>
            intro kq kk1 x4_i125 x4_F75 H locs ls hkq hkn hx4_i125 hf88_1 hP hD hS hl
            refine lv_iload_n hx hb dX12_sayBig_88 rfl (lv_at hl 1 rfl) ?_
            refine lv_if_lt (tgt := 111) hx hb dX12_sayBig_89 (by decide) (fun c_89 => ?_) (fun c_89 => ?_)
            · have t_89 : (kq).toInt < 0 := toI_lt c_89 rfl (by decide)
              refine W.widen (k := 0) (n := 0) (by decide +kernel) (by decide +kernel) ?_
              exact W.vret hx hb hr (fun t9_ ht hW => ⟨⟨(x3_F0, x3_F2, x3_F3, x3_G1, x3_F76, x4_i125, x4_F75, m4), rfl, by (try dsimp only); exact ⟨hB4, by first | assumption | omega, ho4⟩, by rw [ht]; exact hP, hD⟩, hS.F ht⟩) hS.2.2 dX12_sayBig_111
            · have t_89 : ¬ (kq).toInt < 0 := toI_nlt c_89 rfl (by decide)
              obtain ⟨kk, h_kk, rfl⟩ := of_toInt (x := kq) (k := 250) (by omega) (by omega)
              have e_kk : (nI kk).toInt = (kk : Int) := nI_toInt (by omega)
              refine lv_aload_n hx hb dX12_sayBig_92 rfl (lv_at hl 0 rfl) ?_
              refine lv_bipush (v := 48) hx hb dX12_sayBig_93 (by decide) ?_
              refine lv_aload_n hx hb dX12_sayBig_95 rfl (lv_at hl 0 rfl) ?_
              refine va_get (D := (dC, dI)) (ci := 12) (v := .ref (a 76)) (C := RX12) (T := TX12) (N := 163) (fs := fM (vS a (fT vi 125 (nI x4_i125)) vj)) hx hb hts iwsRX12_sayBig_in12 hown hK hP 0 rfl rfl 126 (by decide) (hts (.fieldLink RX12 251 "OptimaWorksModel" "digits" "[I") (by decide +kernel)) (fun _ h9 => h9) rfl dX12_sayBig_96 ?_
              refine lv_iload_n hx hb dX12_sayBig_99 rfl (lv_at hl 1 rfl) ?_
              refine va_iald (cA := k 76) (n := 250) (f := x3_F76) hx hb hK hP 77 76 (WR_get 76 (by decide)) (TR_get 76 (by decide)) (vp_in_nI (show kk < 250 by omega) (by omega)) dX12_sayBig_100 ?_
              refine lv_topi (fun y1 hy1 => ?_)
              obtain rfl : (x3_F76 kk) = y1 := (hy1.trans (by rw [nI_clamp (by omega)])).symm
              refine lv_iadd hx hb dX12_sayBig_101 ?_
              have hFc := allFree hD hS hA
              refine va_callv (va_runV (As := [.int (48 + (x3_F76 kk))]) (rest := []) ⟨hx, hb, hml, hown, hts⟩ (r_X12_say l dC dI a k h0 (fT vi 125 (nI x4_i125)) vj (fT (fT (fT (fT (fT vF 0 x3_F0) 2 x3_F2) 3 x3_F3) 76 x3_F76) 75 x4_F75) (fT vG 1 x3_G1) (48 + (x3_F76 kk)) x4_i125 rfl (by first | assumption | decide | omega | rfl) H.size) (cwV 1 hts gwsRX12_sayBig_6 rfl rfl rfl hd_yX12_say_RX12 (by decide +kernel)) (fz_pre (va_recv hK hP (ci := 12) (q0 := 0) rfl rfl) hP hK hD) rfl rfl hl.1 rfl (lv_room (Nat.le_of_ble_eq_true rfl)) dX12_sayBig_102 (by decide +kernel)) hS (fun q _ h => hFc q h) hFc (fun u t9_ H locs ht hvm hw9 hB9 hz1 hk1 hS => ?_)
              obtain ⟨p2102, f75102⟩ := u
              try dsimp only at hw9 hB9
              have hP : va_P (dC, dI) vwCl (WR a k h0 (fT (fT vi 125 (nI x4_i125)) 125 (nI p2102)) vj (fT (fT (fT (fT (fT (fT vF 0 x3_F0) 2 x3_F2) 3 x3_F3) 76 x3_F76) 75 x4_F75) 75 f75102) (fT vG 1 x3_G1)) H := fz_P ht hB9.1
              have hD : va_D A (WR a k h0 (fT (fT vi 125 (nI x4_i125)) 125 (nI p2102)) vj (fT (fT (fT (fT (fT (fT vF 0 x3_F0) 2 x3_F2) 3 x3_F3) 76 x3_F76) 75 x4_F75) 75 f75102) (fT vG 1 x3_G1)) := hB9.2.weaken (fun _ q _ h => hFc q.1 h)
              have e9 : fT vi 125 (nI p2102) = fT (fT vi 125 (nI x4_i125)) 125 (nI p2102) := (fT_sm _ _ _ _).symm
              rw [← e9] at hP hD
              clear e9
              have e9 : fT (fT (fT (fT (fT vF 0 x3_F0) 2 x3_F2) 3 x3_F3) 76 x3_F76) 75 f75102 = fT (fT (fT (fT (fT (fT vF 0 x3_F0) 2 x3_F2) 3 x3_F3) 76 x3_F76) 75 x4_F75) 75 f75102 := (fT_sm _ _ _ _).symm
              rw [← e9] at hP hD
              clear e9
              have hP : va_P (dC, dI) vwCl (WR a k h0 (fT vi 125 (nI p2102)) vj (fT (fT (fT (fT (fT vF 0 x3_F0) 2 x3_F2) 3 x3_F3) 76 x3_F76) 75 f75102) (fT vG 1 x3_G1)) H := hP
              have hD : va_D A (WR a k h0 (fT vi 125 (nI p2102)) vj (fT (fT (fT (fT (fT vF 0 x3_F0) 2 x3_F2) 3 x3_F3) 76 x3_F76) 75 f75102) (fT vG 1 x3_G1)) := hD
              obtain ⟨f102_0, f102_1, f102_2⟩ := hw9
              refine lv_iinc (v := ((nI kk) + (-1))) hx hb dX12_sayBig_105 hl (k := 1) rfl rfl (by decide) rfl (fun ls (hl : lv_has ls _ ([(3, .int ((nI kk) + (-1))), (0, .ref h0)])) => ?_)
              refine lv_goto (tgt := 88) hx hb dX12_sayBig_108 (by decide) ?_
              have hl : lv_has _ _ ([(0, .ref h0), (3, .int ((nI kk) + (-1)))]) := lv_sub hl [1, 0] rfl
              exact ih88_1 ((nI kk) + (-1)) (kk1 - 1) p2102 f75102 _ _ _ (by rw [m1T (by omega)]; omega) (by omega) (by first | assumption | omega) (by omega) hP hD hS hl
        · have t_43 : ((n5 : Nat) : Int) = 0 := toI_nne c_43 (nI_toInt (by omega)) (by decide)
          have hn6 : n5 < 206 := by omega
          refine lv_aload_n hx hb dX12_sayBig_46 rfl (lv_at hl 0 rfl) ?_
          refine lv_bipush (v := 11) hx hb dX12_sayBig_47 (by decide) ?_
          refine lv_bipush (v := 13) hx hb dX12_sayBig_49 (by decide) ?_
          refine lv_bipush (v := 10) hx hb dX12_sayBig_51 (by decide) ?_
          refine lv_bipush (v := 12) hx hb dX12_sayBig_53 (by decide) ?_
          have hFc := allFree hD hS hA
          refine va_callv (va_runV (As := [.int 11, .int 13, .int 10, .int 12]) (rest := []) ⟨hx, hb, hml, hown, hts⟩ (b_X12_divide l dC dI a k h0 vi vj (fT (fT (fT (fT vF 0 x3_F0) 2 x3_F2) 3 x3_F3) 76 x3_F76) (fT vG 1 x3_G1) 11 13 10 12 m4 hB4 x10a 10 (by rw [v_x10a]) (by rw [h12]) (by first | assumption | decide | omega | rfl) (by first | assumption | decide | omega | rfl) (by first | assumption | decide | omega | rfl) (by first | assumption | decide | omega | rfl) (by first | assumption | decide | omega | rfl) (by first | assumption | decide | omega | rfl) (by decide) H.size) (cwV 4 hts gwsRX12_sayBig_4 rfl rfl rfl hd_yX12_divide_RX12 (by decide +kernel)) (fz_pre (va_recv hK hP (ci := 12) (q0 := 0) rfl rfl) hP hK hD) rfl rfl hl.1 rfl (lv_room (Nat.le_of_ble_eq_true rfl)) dX12_sayBig_55 (by decide +kernel)) hS (fun q _ h => hFc q h) hFc (fun u t9_ H locs ht hvm hw9 hB9 hz1 hk1 hS => ?_)
          obtain ⟨g55_1, f2w55_1, f3w55_1, gs55_1⟩ := u
          try dsimp only at hw9 hB9
          have hP : va_P (dC, dI) vwCl (WR a k h0 vi vj (fT (fT (fT (fT (fT (fT (fT vF 0 x3_F0) 2 x3_F2) 3 x3_F3) 76 x3_F76) 2 f2w55_1) 3 f3w55_1) 0 g55_1) (fT (fT vG 1 x3_G1) 1 gs55_1)) H := fz_P ht hB9.1
          have hD : va_D A (WR a k h0 vi vj (fT (fT (fT (fT (fT (fT (fT vF 0 x3_F0) 2 x3_F2) 3 x3_F3) 76 x3_F76) 2 f2w55_1) 3 f3w55_1) 0 g55_1) (fT (fT vG 1 x3_G1) 1 gs55_1)) := hB9.2.weaken (fun _ q _ h => hFc q.1 h)
          have e9 : fT (fT (fT (fT vF 0 g55_1) 2 f2w55_1) 3 f3w55_1) 76 x3_F76 = fT (fT (fT (fT (fT (fT (fT vF 0 x3_F0) 2 x3_F2) 3 x3_F3) 76 x3_F76) 2 f2w55_1) 3 f3w55_1) 0 g55_1 := ((congrArg (fun g9 => fT (fT g9 3 f3w55_1) 0 g55_1) ((fT_sw _ _ _ (Nat.ne_of_beq_eq_false rfl)).trans (congrArg (fun g9 => fT g9 76 x3_F76) ((fT_sw _ _ _ (Nat.ne_of_beq_eq_false rfl)).trans (congrArg (fun g9 => fT g9 3 x3_F3) (fT_sm _ _ _ _)))))).trans ((congrArg (fun g9 => fT g9 0 g55_1) ((fT_sw _ _ _ (Nat.ne_of_beq_eq_false rfl)).trans (congrArg (fun g9 => fT g9 76 x3_F76) (fT_sm _ _ _ _)))).trans ((fT_sw _ _ _ (Nat.ne_of_beq_eq_false rfl)).trans (congrArg (fun g9 => fT g9 76 x3_F76) ((fT_sw _ _ _ (Nat.ne_of_beq_eq_false rfl)).trans (congrArg (fun g9 => fT g9 3 f3w55_1) ((fT_sw _ _ _ (Nat.ne_of_beq_eq_false rfl)).trans (congrArg (fun g9 => fT g9 2 f2w55_1) (fT_sm _ _ _ _))))))))).symm
          rw [← e9] at hP hD
          clear e9
          have e9 : fT vG 1 gs55_1 = fT (fT vG 1 x3_G1) 1 gs55_1 := (fT_sm _ _ _ _).symm
          rw [← e9] at hP hD
          clear e9
          have hP : va_P (dC, dI) vwCl (WR a k h0 vi vj (fT (fT (fT (fT vF 0 g55_1) 2 f2w55_1) 3 f3w55_1) 76 x3_F76) (fT vG 1 gs55_1)) H := hP
          have hD : va_D A (WR a k h0 vi vj (fT (fT (fT (fT vF 0 g55_1) 2 f2w55_1) 3 f3w55_1) 76 x3_F76) (fT vG 1 gs55_1)) := hD
          have f55_1_0 := hw9
          try dsimp only at f55_1_0
          refine lv_aload_n hx hb dX12_sayBig_58 rfl (lv_at hl 0 rfl) ?_
          refine va_get (D := (dC, dI)) (ci := 12) (v := .ref (a 76)) (C := RX12) (T := TX12) (N := 163) (fs := fM (vS a vi vj)) hx hb hts iwsRX12_sayBig_in12 hown hK hP 0 rfl rfl 126 (by decide) (hts (.fieldLink RX12 251 "OptimaWorksModel" "digits" "[I") (by decide +kernel)) (fun _ h9 => h9) rfl dX12_sayBig_59 ?_
          refine lv_iload_n hx hb dX12_sayBig_62 rfl (lv_at hl 1 rfl) ?_
          refine lv_aload_n hx hb dX12_sayBig_63 rfl (lv_at hl 0 rfl) ?_
          refine lv_bipush (v := 13) hx hb dX12_sayBig_64 (by decide) ?_
          have hFc := allFree hD hS hA
          refine va_calli (va_runV (As := [.int 13]) (rest := [.int (nI n5), .ref (a 76)]) ⟨hx, hb, hml, hown, hts⟩ (r_X12_small l dC dI a k h0 vi vj (fT (fT (fT (fT vF 0 g55_1) 2 f2w55_1) 3 f3w55_1) 76 x3_F76) (fT vG 1 gs55_1) 13 (fT (fT m4 11 ((x10a).tdiv 10)) 13 ((x10a).tmod 10)) f55_1_0 ((x10a).tmod 10) (by rw [fT_eq]) (by first | assumption | decide | omega | rfl) H.size) (cwV 1 hts gwsRX12_sayBig_5 rfl rfl rfl hd_yX12_small_RX12 (by decide +kernel)) (fz_pre (va_recv hK hP (ci := 12) (q0 := 0) rfl rfl) hP hK hD) rfl rfl hl.1 rfl (lv_room (Nat.le_of_ble_eq_true rfl)) dX12_sayBig_66 (by decide +kernel)) hS (fun q _ h => hFc q h) hFc (fun r66_1 u t9_ H locs ht hvm hw9 hB9 hz1 hk1 hS => ?_)
          have hP : va_P (dC, dI) vwCl (WR a k h0 vi vj (fT (fT (fT (fT vF 0 g55_1) 2 f2w55_1) 3 f3w55_1) 76 x3_F76) (fT vG 1 gs55_1)) H := fz_P ht hB9.1
          have hD : va_D A (WR a k h0 vi vj (fT (fT (fT (fT vF 0 g55_1) 2 f2w55_1) 3 f3w55_1) 76 x3_F76) (fT vG 1 gs55_1)) := hB9.2.weaken (fun _ q _ h => hFc q.1 h)
          obtain ⟨f66_1_0, f66_1_1⟩ := hw9
          refine va_iast (cA := k 76) (n := 250) (f := x3_F76) hx hb hK hP hD hS 77 76 (WR_get 76 (by decide)) (TR_get 76 (by decide)) (vp_in_nI (show n5 < 250 by omega) (by omega)) dX12_sayBig_69 (fun H locs hP hD hS => ?_)
          have e9 : fT (fT (fT (fT vF 0 g55_1) 2 f2w55_1) 3 f3w55_1) 76 (upd x3_F76 ((nI n5)).toNatClampNeg r66_1) = fT (fT (fT (fT (fT vF 0 g55_1) 2 f2w55_1) 3 f3w55_1) 76 x3_F76) 76 (upd x3_F76 ((nI n5)).toNatClampNeg r66_1) := (fT_sm _ _ _ _).symm
          have hP : va_P (dC, dI) vwCl (WR a k h0 vi vj (fT (fT (fT (fT vF 0 g55_1) 2 f2w55_1) 3 f3w55_1) 76 (upd x3_F76 ((nI n5)).toNatClampNeg r66_1)) (fT vG 1 gs55_1)) H := by rw [e9, ← WR_F 76 (by decide) _ rfl]; exact hP
          have hD : va_D A (WR a k h0 vi vj (fT (fT (fT (fT vF 0 g55_1) 2 f2w55_1) 3 f3w55_1) 76 (upd x3_F76 ((nI n5)).toNatClampNeg r66_1)) (fT vG 1 gs55_1)) := by rw [e9, ← WR_F 76 (by decide) _ rfl]; exact hD
          clear e9
          refine lv_iinc (v := (nI (n5 + 1))) hx hb dX12_sayBig_70 hl (k := 1) rfl (nI_add n5 1) (by decide) rfl (fun ls (hl : lv_has ls _ ([(2, .int (nI (n5 + 1))), (0, .ref h0)])) => ?_)
          refine lv_aload_n hx hb dX12_sayBig_73 rfl (lv_at hl 1 rfl) ?_
          refine lv_bipush (v := 10) hx hb dX12_sayBig_74 (by decide) ?_
          refine lv_bipush (v := 11) hx hb dX12_sayBig_76 (by decide) ?_
          have hFc := allFree hD hS hA
          refine va_callv (va_runV (As := [.int 10, .int 11]) (rest := []) ⟨hx, hb, hml, hown, hts⟩ (b_X12_copy l dC dI a k h0 vi vj (fT (fT (fT (fT vF 0 g55_1) 2 f2w55_1) 3 f3w55_1) 76 (upd x3_F76 ((nI n5)).toNatClampNeg r66_1)) (fT vG 1 gs55_1) 10 11 (fT (fT m4 11 ((x10a).tdiv 10)) 13 ((x10a).tmod 10)) f55_1_0 ((x10a).tdiv 10) (by rw [fT_ne _ _ (by omega), fT_eq]) (by first | assumption | decide | omega | rfl) (by first | assumption | decide | omega | rfl) (by first | assumption | decide | omega | rfl) H.size) (cwV 2 hts gwsRX12_sayBig_0 rfl rfl rfl hd_yX12_copy_RX12 (by decide +kernel)) (fz_pre (va_recv hK hP (ci := 12) (q0 := 0) rfl rfl) hP hK hD) rfl rfl hl.1 rfl (lv_room (Nat.le_of_ble_eq_true rfl)) dX12_sayBig_78 (by decide +kernel)) hS (fun q _ h => hFc q h) hFc (fun u t9_ H locs ht hvm hw9 hB9 hz1 hk1 hS => ?_)
          obtain ⟨g78_1, hwit78_1⟩ : ∃ w9, w9 = u := ⟨u, rfl⟩
          subst hwit78_1
          have hP : va_P (dC, dI) vwCl (WR a k h0 vi vj (fT (fT (fT (fT (fT vF 0 g55_1) 2 f2w55_1) 3 f3w55_1) 76 (upd x3_F76 ((nI n5)).toNatClampNeg r66_1)) 0 g78_1) (fT vG 1 gs55_1)) H := fz_P ht hB9.1
          have hD : va_D A (WR a k h0 vi vj (fT (fT (fT (fT (fT vF 0 g55_1) 2 f2w55_1) 3 f3w55_1) 76 (upd x3_F76 ((nI n5)).toNatClampNeg r66_1)) 0 g78_1) (fT vG 1 gs55_1)) := hB9.2.weaken (fun _ q _ h => hFc q.1 h)
          have e9 : fT (fT (fT (fT vF 0 g78_1) 2 f2w55_1) 3 f3w55_1) 76 (upd x3_F76 ((nI n5)).toNatClampNeg r66_1) = fT (fT (fT (fT (fT vF 0 g55_1) 2 f2w55_1) 3 f3w55_1) 76 (upd x3_F76 ((nI n5)).toNatClampNeg r66_1)) 0 g78_1 := ((fT_sw _ _ _ (Nat.ne_of_beq_eq_false rfl)).trans (congrArg (fun g9 => fT g9 76 (upd x3_F76 ((nI n5)).toNatClampNeg r66_1)) ((fT_sw _ _ _ (Nat.ne_of_beq_eq_false rfl)).trans (congrArg (fun g9 => fT g9 3 f3w55_1) ((fT_sw _ _ _ (Nat.ne_of_beq_eq_false rfl)).trans (congrArg (fun g9 => fT g9 2 f2w55_1) (fT_sm _ _ _ _))))))).symm
          rw [← e9] at hP hD
          clear e9
          have hP : va_P (dC, dI) vwCl (WR a k h0 vi vj (fT (fT (fT (fT vF 0 g78_1) 2 f2w55_1) 3 f3w55_1) 76 (upd x3_F76 ((nI n5)).toNatClampNeg r66_1)) (fT vG 1 gs55_1)) H := hP
          have hD : va_D A (WR a k h0 vi vj (fT (fT (fT (fT vF 0 g78_1) 2 f2w55_1) 3 f3w55_1) 76 (upd x3_F76 ((nI n5)).toNatClampNeg r66_1)) (fT vG 1 gs55_1)) := hD
          have f78_1_0 := hw9
          try dsimp only at f78_1_0
          refine lv_goto (tgt := 33) hx hb dX12_sayBig_81 (by decide) ?_
          have hl : lv_has _ _ ([(0, .ref h0), (2, .int (nI (n5 + 1)))]) := lv_sub hl [1, 0] rfl
          exact ih33 (n5 + 1) g78_1 f2w55_1 f3w55_1 (upd x3_F76 ((nI n5)).toNatClampNeg r66_1) gs55_1 (fT (fT (fT m4 11 ((x10a).tdiv 10)) 13 ((x10a).tmod 10)) 10 ((x10a).tdiv 10)) ((x10a).tdiv 10) _ _ _ (f78_1_0) ((by rw [fT_ne _ _ (by omega), fT_ne _ _ (by omega), fT_ne _ _ (by omega), h12])) ((by rw [fT_eq])) (by omega) (Int.tdiv_nonneg hx1 (by decide)) (dig_step hbd) (fun q hq => by (rw [fT_ne _ _ (by omega), fT_ne _ _ (by omega), fT_ne _ _ (by omega)]); exact ho4 q hq) (by omega) hP hD hS hl

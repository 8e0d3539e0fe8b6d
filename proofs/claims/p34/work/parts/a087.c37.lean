theorem hd_yX12_sayBig_RX12 : yX12_sayBig.cls = RX12 ∧ yX12_sayBig.cls ≠ "java/lang/invoke/MethodHandle" ∧ yX12_sayBig.cls ≠ "java/lang/invoke/VarHandle" ∧ (parseMethodDescriptor yX12_sayBig.desc).map (fun d => d.parameters.length) = some 1 := by decide +kernel
theorem hd_yX12_compare_RX12 : yX12_compare.cls = RX12 ∧ yX12_compare.cls ≠ "java/lang/invoke/MethodHandle" ∧ yX12_compare.cls ≠ "java/lang/invoke/VarHandle" ∧ (parseMethodDescriptor yX12_compare.desc).map (fun d => d.parameters.length) = some 2 := by decide +kernel
theorem hd_yX12_canTell_RX12 : yX12_canTell.cls = RX12 ∧ yX12_canTell.cls ≠ "java/lang/invoke/MethodHandle" ∧ yX12_canTell.cls ≠ "java/lang/invoke/VarHandle" ∧ (parseMethodDescriptor yX12_canTell.desc).map (fun d => d.parameters.length) = some 2 := by decide +kernel
theorem hd_yX12_sayFraction_RX12 : yX12_sayFraction.cls = RX12 ∧ yX12_sayFraction.cls ≠ "java/lang/invoke/MethodHandle" ∧ yX12_sayFraction.cls ≠ "java/lang/invoke/VarHandle" ∧ (parseMethodDescriptor yX12_sayFraction.desc).map (fun d => d.parameters.length) = some 2 := by decide +kernel
theorem dX12_sayFraction_0 : decode cX12_sayFraction 0 = .ok (.aload_n 0, 1) := dk_42 (by decide +kernel)
theorem dX12_sayFraction_1 : decode cX12_sayFraction 1 = .ok (.bipush 15, 2) := dk_16 (by decide +kernel)
theorem dX12_sayFraction_3 : decode cX12_sayFraction 3 = .ok (.iload_n 1, 1) := dk_27 (by decide +kernel)
theorem dX12_sayFraction_4 : decode cX12_sayFraction 4 = .ok (.invokevirtual 365, 3) := dk_182 (by decide +kernel)
theorem dX12_sayFraction_7 : decode cX12_sayFraction 7 = .ok (.aload_n 0, 1) := dk_42 (by decide +kernel)
theorem dX12_sayFraction_8 : decode cX12_sayFraction 8 = .ok (.bipush 16, 2) := dk_16 (by decide +kernel)
theorem dX12_sayFraction_10 : decode cX12_sayFraction 10 = .ok (.iload_n 2, 1) := dk_28 (by decide +kernel)
theorem dX12_sayFraction_11 : decode cX12_sayFraction 11 = .ok (.invokevirtual 365, 3) := dk_182 (by decide +kernel)
theorem dX12_sayFraction_14 : decode cX12_sayFraction 14 = .ok (.aload_n 0, 1) := dk_42 (by decide +kernel)
theorem dX12_sayFraction_15 : decode cX12_sayFraction 15 = .ok (.bipush 15, 2) := dk_16 (by decide +kernel)
theorem dX12_sayFraction_17 : decode cX12_sayFraction 17 = .ok (.bipush 16, 2) := dk_16 (by decide +kernel)
theorem dX12_sayFraction_19 : decode cX12_sayFraction 19 = .ok (.invokevirtual 930, 3) := dk_182 (by decide +kernel)
theorem dX12_sayFraction_22 : decode cX12_sayFraction 22 = .ok (.aload_n 0, 1) := dk_42 (by decide +kernel)
theorem dX12_sayFraction_23 : decode cX12_sayFraction 23 = .ok (.bipush 15, 2) := dk_16 (by decide +kernel)
theorem dX12_sayFraction_25 : decode cX12_sayFraction 25 = .ok (.invokevirtual 353, 3) := dk_182 (by decide +kernel)
theorem dX12_sayFraction_28 : decode cX12_sayFraction 28 = .ok (.ifCond .ge 9, 3) := dk_156 (by decide +kernel)
theorem dX12_sayFraction_31 : decode cX12_sayFraction 31 = .ok (.aload_n 0, 1) := dk_42 (by decide +kernel)
theorem dX12_sayFraction_32 : decode cX12_sayFraction 32 = .ok (.bipush 45, 2) := dk_16 (by decide +kernel)
theorem dX12_sayFraction_34 : decode cX12_sayFraction 34 = .ok (.invokevirtual 936, 3) := dk_182 (by decide +kernel)
theorem dX12_sayFraction_37 : decode cX12_sayFraction 37 = .ok (.aload_n 0, 1) := dk_42 (by decide +kernel)
theorem dX12_sayFraction_38 : decode cX12_sayFraction 38 = .ok (.bipush 15, 2) := dk_16 (by decide +kernel)
theorem dX12_sayFraction_40 : decode cX12_sayFraction 40 = .ok (.invokevirtual 941, 3) := dk_182 (by decide +kernel)
theorem dX12_sayFraction_43 : decode cX12_sayFraction 43 = .ok (.aload_n 0, 1) := dk_42 (by decide +kernel)
theorem dX12_sayFraction_44 : decode cX12_sayFraction 44 = .ok (.bipush 17, 2) := dk_16 (by decide +kernel)
theorem dX12_sayFraction_46 : decode cX12_sayFraction 46 = .ok (.lconst 1, 1) := dk_10 (by decide +kernel)
theorem dX12_sayFraction_47 : decode cX12_sayFraction 47 = .ok (.invokevirtual 369, 3) := dk_182 (by decide +kernel)
theorem dX12_sayFraction_50 : decode cX12_sayFraction 50 = .ok (.aload_n 0, 1) := dk_42 (by decide +kernel)
theorem dX12_sayFraction_51 : decode cX12_sayFraction 51 = .ok (.bipush 16, 2) := dk_16 (by decide +kernel)
theorem dX12_sayFraction_53 : decode cX12_sayFraction 53 = .ok (.bipush 17, 2) := dk_16 (by decide +kernel)
theorem dX12_sayFraction_55 : decode cX12_sayFraction 55 = .ok (.invokevirtual 393, 3) := dk_182 (by decide +kernel)
theorem dX12_sayFraction_58 : decode cX12_sayFraction 58 = .ok (.ifCond .ne 4, 3) := dk_154 (by decide +kernel)
theorem dX12_sayFraction_61 : decode cX12_sayFraction 61 = .ok (.return_, 1) := dk_177 (by decide +kernel)
theorem dX12_sayFraction_62 : decode cX12_sayFraction 62 = .ok (.aload_n 0, 1) := dk_42 (by decide +kernel)
theorem dX12_sayFraction_63 : decode cX12_sayFraction 63 = .ok (.bipush 47, 2) := dk_16 (by decide +kernel)
theorem dX12_sayFraction_65 : decode cX12_sayFraction 65 = .ok (.invokevirtual 936, 3) := dk_182 (by decide +kernel)
theorem dX12_sayFraction_68 : decode cX12_sayFraction 68 = .ok (.aload_n 0, 1) := dk_42 (by decide +kernel)
theorem dX12_sayFraction_69 : decode cX12_sayFraction 69 = .ok (.bipush 16, 2) := dk_16 (by decide +kernel)
theorem dX12_sayFraction_71 : decode cX12_sayFraction 71 = .ok (.invokevirtual 941, 3) := dk_182 (by decide +kernel)
theorem dX12_sayFraction_74 : decode cX12_sayFraction 74 = .ok (.return_, 1) := dk_177 (by decide +kernel)
def wsRX12_sayFraction : List Cond := .code yX12_sayFraction cX12_sayFraction 3 none :: ([] ++ wsX120 ++ (wsV RX12 365 RX12 yX12_copy wsRX12_copy) ++ (wsV RX12 930 RX12 yX12_shorten wsRX12_shorten) ++ (wsV RX12 353 RX12 yX12_sign wsRX12_sign) ++ (wsV RX12 936 RX12 yX12_say wsRX12_say) ++ (wsV RX12 941 RX12 yX12_sayBig wsRX12_sayBig) ++ (wsV RX12 369 RX12 yX12_put wsRX12_put) ++ (wsV RX12 393 RX12 yX12_compare wsRX12_compare))
theorem iwsRX12_sayFraction_in12 : ∀ w ∈ wsX120, w ∈ wsRX12_sayFraction := fun _ h => List.mem_cons_of_mem _ (List.mem_append_left _ (List.mem_append_left _ (List.mem_append_left _ (List.mem_append_left _ (List.mem_append_left _ (List.mem_append_left _ (List.mem_append_left _ (List.mem_append_right _ h))))))))
theorem gwsRX12_sayFraction_0 : GoodIn wsRX12_sayFraction (wsV RX12 365 RX12 yX12_copy wsRX12_copy) := goodIn_sub (fun _ h => List.mem_cons_of_mem _ (List.mem_append_left _ (List.mem_append_left _ (List.mem_append_left _ (List.mem_append_left _ (List.mem_append_left _ (List.mem_append_left _ (List.mem_append_right _ h)))))))) (gdV (by decide +kernel) gdwsRX12_copy)
theorem gwsRX12_sayFraction_1 : GoodIn wsRX12_sayFraction (wsV RX12 930 RX12 yX12_shorten wsRX12_shorten) := goodIn_sub (fun _ h => List.mem_cons_of_mem _ (List.mem_append_left _ (List.mem_append_left _ (List.mem_append_left _ (List.mem_append_left _ (List.mem_append_left _ (List.mem_append_right _ h))))))) (gdV (by decide +kernel) gdwsRX12_shorten)
theorem gwsRX12_sayFraction_2 : GoodIn wsRX12_sayFraction (wsV RX12 353 RX12 yX12_sign wsRX12_sign) := goodIn_sub (fun _ h => List.mem_cons_of_mem _ (List.mem_append_left _ (List.mem_append_left _ (List.mem_append_left _ (List.mem_append_left _ (List.mem_append_right _ h)))))) (gdV (by decide +kernel) gdwsRX12_sign)
theorem gwsRX12_sayFraction_3 : GoodIn wsRX12_sayFraction (wsV RX12 936 RX12 yX12_say wsRX12_say) := goodIn_sub (fun _ h => List.mem_cons_of_mem _ (List.mem_append_left _ (List.mem_append_left _ (List.mem_append_left _ (List.mem_append_right _ h))))) (gdV (by decide +kernel) gdwsRX12_say)
theorem gwsRX12_sayFraction_4 : GoodIn wsRX12_sayFraction (wsV RX12 941 RX12 yX12_sayBig wsRX12_sayBig) := goodIn_sub (fun _ h => List.mem_cons_of_mem _ (List.mem_append_left _ (List.mem_append_left _ (List.mem_append_right _ h)))) (gdV (by decide +kernel) gdwsRX12_sayBig)
theorem gwsRX12_sayFraction_5 : GoodIn wsRX12_sayFraction (wsV RX12 369 RX12 yX12_put wsRX12_put) := goodIn_sub (fun _ h => List.mem_cons_of_mem _ (List.mem_append_left _ (List.mem_append_right _ h))) (gdV (by decide +kernel) gdwsRX12_put)
theorem gwsRX12_sayFraction_6 : GoodIn wsRX12_sayFraction (wsV RX12 393 RX12 yX12_compare wsRX12_compare) := goodIn_sub (fun _ h => List.mem_cons_of_mem _ (List.mem_append_right _ h)) (gdV (by decide +kernel) gdwsRX12_compare)
theorem gdwsRX12_sayFraction : wsRX12_sayFraction.all goodWord = true := gdC rfl (gdA (gdA (gdA (gdA (gdA (gdA (gdA (gdA (by decide +kernel : ([] : List Cond).all goodWord = true) gdwsX120) (gdV (by decide +kernel) gdwsRX12_copy)) (gdV (by decide +kernel) gdwsRX12_shorten)) (gdV (by decide +kernel) gdwsRX12_sign)) (gdV (by decide +kernel) gdwsRX12_say)) (gdV (by decide +kernel) gdwsRX12_sayBig)) (gdV (by decide +kernel) gdwsRX12_put)) (gdV (by decide +kernel) gdwsRX12_compare))
set_option maxHeartbeats 4000000 in
set_option maxRecDepth 100000 in
/-- sayFraction(n, d) -/
theorem r_X12_sayFraction (l : Launch) (dC : Nat → ClassId) (dI : Nat → Nat → Nat) (a : Nat → Nat) (k : Nat → ClassId) (h0 : Nat) (vi : Nat → Int32) (vj : Nat → Int64) (vF : Nat → Nat → Int32) (vG : Nat → Nat → Int64) (nn : Nat) (dn : Nat) (pn : Nat) (mg : Nat → Int) (hBg : Bg (vF 0) mg) (hpn : vi 125 = nI pn) (hpn2 : pn ≤ 30000) (hnn : 1000 ≤ nn ∧ nn < 1100) (hdn : 1000 ≤ dn ∧ dn < 1100) (hd0 : mg dn ≠ 0) (sz : Nat) : Met l yX12_sayFraction wsRX12_sayFraction ({ frames := 4, cells := 0, slots := 0, locals := 107 }) (va_Pc [.ref h0, .int (nI nn), .int (nI dn)] (fun U => U.heap.size = sz ∧ va_P (dC, dI) vwCl (WR a k h0 vi vj vF vG) U.heap ∧ va_K (dC, dI) vwCl (tX12 k) U ∧ va_D (fun _ => True) (WR a k h0 vi vj vF vG))) (va_Qv (fun (u : (Nat → Int32) × (Nat → Int32) × (Nat → Int32) × (Nat → Int64) × (Nat → Int32) × (Nat) × (Nat → Int32) × (Nat → Int)) => (Bg (u.1) (u.2.2.2.2.2.2.2)) ∧ ((u.2.2.2.2.2.1) ≤ 30000) ∧ (∀ q, 1000 ≤ q → (u.2.2.2.2.2.2.2) q = mg q)) (fun (u : (Nat → Int32) × (Nat → Int32) × (Nat → Int32) × (Nat → Int64) × (Nat → Int32) × (Nat) × (Nat → Int32) × (Nat → Int)) t => va_P (dC, dI) vwCl (WR a k h0 (fT vi 125 (nI (u.2.2.2.2.2.1))) vj (fT (fT (fT (fT (fT vF 0 (u.1)) 2 (u.2.1)) 3 (u.2.2.1)) 75 (u.2.2.2.2.2.2.1)) 76 (u.2.2.2.2.1)) (fT vG 1 (u.2.2.2.1))) t.heap ∧ va_D (va_A (WR a k h0 vi vj vF vG) sz) (WR a k h0 (fT vi 125 (nI (u.2.2.2.2.2.1))) vj (fT (fT (fT (fT (fT vF 0 (u.1)) 2 (u.2.1)) 3 (u.2.2.1)) 75 (u.2.2.2.2.2.2.1)) 76 (u.2.2.2.2.1)) (fT vG 1 (u.2.2.2.1)))) (va_A (WR a k h0 vi vj vF vG) sz)) 0 0 (va_A (WR a k h0 vi vj vF vG) sz) := by
  refine Met.ofW (cc := cX12_sayFraction) (maxL := 3) (ret := none) (by decide) rfl ?_
  intro p e s m args below meth c s₁ B hml hv
  obtain ⟨rfl, hsz, hP, hK, hD0⟩ := hv
  have hx := B.exec
  have hb := B.bytes
  have hr := B.returns
  have hts := atoms_spec (ws := wsRX12_sayFraction) B.pre
  have hown : s.vm.findClass RX12 = some m.cls := findClass_of_methodNamed B.named
  have hlocks := B.notSynchronized
  subst hsz
  have hD := hD0.self (sz := s.heap.size)
  generalize hAe : va_A (WR a k h0 vi vj vF vG) s.heap.size = A at hD ⊢
  have hA : ∀ q : Nat, s.heap.size ≤ q → A q := fun q h => by rw [← hAe]; exact Or.inr h
  have hS : va_S A s.heap s.heap [] := va_S.rf
  have hl := lv_entry ([.ref h0, .int (nI nn), .int (nI dn)]) (n := 3) (Nat.le_of_ble_eq_true rfl)
  rw [lg_entry_eq]
  generalize (lg_sl ([.ref h0, .int (nI nn), .int (nI dn)]) ++ List.replicate (3 - (lg_sl ([.ref h0, .int (nI nn), .int (nI dn)])).length) Slot.unset).toArray = ls at hl ⊢
  have hl : lv_has ls 3 [(0, .ref h0), (1, .int (nI nn)), (2, .int (nI dn))] := hl
  refine lv_aload_n hx hb dX12_sayFraction_0 rfl (lv_at hl 0 rfl) ?_
  refine lv_bipush (v := 15) hx hb dX12_sayFraction_1 (by decide) ?_
  refine lv_iload_n hx hb dX12_sayFraction_3 rfl (lv_at hl 1 rfl) ?_
  have hFc := allFree hD hS hA
  refine va_callv (va_runV (As := [.int 15, .int (nI nn)]) (rest := []) ⟨hx, hb, hml, hown, hts⟩ (b_X12_copy l dC dI a k h0 vi vj vF vG 15 nn mg hBg (mg nn) rfl (by first | assumption | decide | omega | rfl) (by first | assumption | decide | omega | rfl) (by first | assumption | decide | omega | rfl) s.heap.size) (cwV 2 hts gwsRX12_sayFraction_0 rfl rfl rfl hd_yX12_copy_RX12 (by decide +kernel)) (fz_pre (va_recv hK hP (ci := 12) (q0 := 0) rfl rfl) hP hK hD) rfl rfl hl.1 rfl (lv_room (Nat.le_of_ble_eq_true rfl)) dX12_sayFraction_4 (by decide +kernel)) hS (fun q _ h => hFc q h) hFc (fun u t9_ H locs ht hvm hw9 hB9 hz1 hk1 hS => ?_)
  obtain ⟨g4, hwit4⟩ : ∃ w9, w9 = u := ⟨u, rfl⟩
  subst hwit4
  have hP : va_P (dC, dI) vwCl (WR a k h0 vi vj (fT vF 0 g4) vG) H := fz_P ht hB9.1
  have hD : va_D A (WR a k h0 vi vj (fT vF 0 g4) vG) := hB9.2.weaken (fun _ q _ h => hFc q.1 h)
  have f4_0 := hw9
  try dsimp only at f4_0
  refine lv_aload_n hx hb dX12_sayFraction_7 rfl (lv_at hl 0 rfl) ?_
  refine lv_bipush (v := 16) hx hb dX12_sayFraction_8 (by decide) ?_
  refine lv_iload_n hx hb dX12_sayFraction_10 rfl (lv_at hl 2 rfl) ?_
  have hFc := allFree hD hS hA
  refine va_callv (va_runV (As := [.int 16, .int (nI dn)]) (rest := []) ⟨hx, hb, hml, hown, hts⟩ (b_X12_copy l dC dI a k h0 vi vj (fT vF 0 g4) vG 16 dn (fT mg 15 (mg nn)) f4_0 (mg dn) (by rw [fT_ne _ _ (by omega)]) (by first | assumption | decide | omega | rfl) (by first | assumption | decide | omega | rfl) (by first | assumption | decide | omega | rfl) H.size) (cwV 2 hts gwsRX12_sayFraction_0 rfl rfl rfl hd_yX12_copy_RX12 (by decide +kernel)) (fz_pre (va_recv hK hP (ci := 12) (q0 := 0) rfl rfl) hP hK hD) rfl rfl hl.1 rfl (lv_room (Nat.le_of_ble_eq_true rfl)) dX12_sayFraction_11 (by decide +kernel)) hS (fun q _ h => hFc q h) hFc (fun u t9_ H locs ht hvm hw9 hB9 hz1 hk1 hS => ?_)
  obtain ⟨g11, hwit11⟩ : ∃ w9, w9 = u := ⟨u, rfl⟩
  subst hwit11
  have hP : va_P (dC, dI) vwCl (WR a k h0 vi vj (fT (fT vF 0 g4) 0 g11) vG) H := fz_P ht hB9.1
  have hD : va_D A (WR a k h0 vi vj (fT (fT vF 0 g4) 0 g11) vG) := hB9.2.weaken (fun _ q _ h => hFc q.1 h)
  have e9 : fT vF 0 g11 = fT (fT vF 0 g4) 0 g11 := (fT_sm _ _ _ _).symm
  rw [← e9] at hP hD
  clear e9
  have hP : va_P (dC, dI) vwCl (WR a k h0 vi vj (fT vF 0 g11) vG) H := hP
  have hD : va_D A (WR a k h0 vi vj (fT vF 0 g11) vG) := hD
  have f11_0 := hw9
  try dsimp only at f11_0
  refine lv_aload_n hx hb dX12_sayFraction_14 rfl (lv_at hl 0 rfl) ?_
  refine lv_bipush (v := 15) hx hb dX12_sayFraction_15 (by decide) ?_
  refine lv_bipush (v := 16) hx hb dX12_sayFraction_17 (by decide) ?_
  have hFc := allFree hD hS hA
  refine va_callv (va_runV (As := [.int 15, .int 16]) (rest := []) ⟨hx, hb, hml, hown, hts⟩ (r_X12_shorten l dC dI a k h0 vi vj (fT vF 0 g11) vG 15 16 (fT (fT mg 15 (mg nn)) 16 (mg dn)) f11_0 (mg nn) (mg dn) (by rw [fT_ne _ _ (by omega), fT_eq]) (by rw [fT_eq]) (by first | assumption | decide | omega | rfl) (by first | assumption | decide | omega | rfl) (by first | assumption | decide | omega | rfl) (by first | assumption | decide | omega | rfl) (by first | assumption | decide | omega | rfl) (hd0) H.size) (cwV 2 hts gwsRX12_sayFraction_1 rfl rfl rfl hd_yX12_shorten_RX12 (by decide +kernel)) (fz_pre (va_recv hK hP (ci := 12) (q0 := 0) rfl rfl) hP hK hD) rfl rfl hl.1 rfl (lv_room (Nat.le_of_ble_eq_true rfl)) dX12_sayFraction_19 (by decide +kernel)) hS (fun q _ h => hFc q h) hFc (fun u t9_ H locs ht hvm hw9 hB9 hz1 hk1 hS => ?_)
  obtain ⟨g19, f2w19, f3w19, gs19, m219⟩ := u
  try dsimp only at hw9 hB9
  have hP : va_P (dC, dI) vwCl (WR a k h0 vi vj (fT (fT (fT (fT vF 0 g11) 0 g19) 2 f2w19) 3 f3w19) (fT vG 1 gs19)) H := fz_P ht hB9.1
  have hD : va_D A (WR a k h0 vi vj (fT (fT (fT (fT vF 0 g11) 0 g19) 2 f2w19) 3 f3w19) (fT vG 1 gs19)) := hB9.2.weaken (fun _ q _ h => hFc q.1 h)
  have e9 : fT (fT (fT vF 0 g19) 2 f2w19) 3 f3w19 = fT (fT (fT (fT vF 0 g11) 0 g19) 2 f2w19) 3 f3w19 := (congrArg (fun g9 => fT (fT g9 2 f2w19) 3 f3w19) (fT_sm _ _ _ _)).symm
  rw [← e9] at hP hD
  clear e9
  have hP : va_P (dC, dI) vwCl (WR a k h0 vi vj (fT (fT (fT vF 0 g19) 2 f2w19) 3 f3w19) (fT vG 1 gs19)) H := hP
  have hD : va_D A (WR a k h0 vi vj (fT (fT (fT vF 0 g19) 2 f2w19) 3 f3w19) (fT vG 1 gs19)) := hD
  obtain ⟨f19_0, f19_1, f19_2, f19_3, f19_4⟩ := hw9
  refine lv_aload_n hx hb dX12_sayFraction_22 rfl (lv_at hl 0 rfl) ?_
  refine lv_bipush (v := 15) hx hb dX12_sayFraction_23 (by decide) ?_
  have hFc := allFree hD hS hA
  refine va_calli (va_runV (As := [.int 15]) (rest := []) ⟨hx, hb, hml, hown, hts⟩ (b_X12_sign l dC dI a k h0 vi vj (fT (fT (fT vF 0 g19) 2 f2w19) 3 f3w19) (fT vG 1 gs19) 15 m219 f19_0 (m219 15) rfl (by first | assumption | decide | omega | rfl) H.size) (cwV 1 hts gwsRX12_sayFraction_2 rfl rfl rfl hd_yX12_sign_RX12 (by decide +kernel)) (fz_pre (va_recv hK hP (ci := 12) (q0 := 0) rfl rfl) hP hK hD) rfl rfl hl.1 rfl (lv_room (Nat.le_of_ble_eq_true rfl)) dX12_sayFraction_25 (by decide +kernel)) hS (fun q _ h => hFc q h) hFc (fun r25 u t9_ H locs ht hvm hw9 hB9 hz1 hk1 hS => ?_)
  have hP : va_P (dC, dI) vwCl (WR a k h0 vi vj (fT (fT (fT vF 0 g19) 2 f2w19) 3 f3w19) (fT vG 1 gs19)) H := fz_P ht hB9.1
  have hD : va_D A (WR a k h0 vi vj (fT (fT (fT vF 0 g19) 2 f2w19) 3 f3w19) (fT vG 1 gs19)) := hB9.2.weaken (fun _ q _ h => hFc q.1 h)
  have f25_0 := hw9
  try dsimp only at f25_0
  refine W.cut (pc := 37) (fun H locs ls stk => ∃ (j1_i125 : Nat) (j1_F75 : Nat → Int32), (j1_i125 ≤ 30000) ∧  stk = [] ∧ va_P (dC, dI) vwCl (WR a k h0 (fT vi 125 (nI j1_i125)) vj (fT (fT (fT (fT vF 0 g19) 2 f2w19) 3 f3w19) 75 j1_F75) (fT vG 1 gs19)) H ∧ va_D A (WR a k h0 (fT vi 125 (nI j1_i125)) vj (fT (fT (fT (fT vF 0 g19) 2 f2w19) 3 f3w19) 75 j1_F75) (fT vG 1 gs19)) ∧ va_S A s.heap H locs ∧ lv_has ls 3 [(0, .ref h0), (1, .int (nI nn)), (2, .int (nI dn))]) (fun join1 => ?_) ?_
  · refine lv_if_ge (tgt := 37) hx hb dX12_sayFraction_28 (by decide) (fun c_28 => ?_) (fun c_28 => ?_)
    · have t_28 : (r25).toInt ≥ 0 := toI_ge c_28 rfl (by decide)
      have e9 : fT vi 125 (nI pn) = vi := by funext q9; by_cases h9_125 : q9 = 125; (subst h9_125; exact (fT_eq _ _ _).trans (Eq.trans (by first | rfl | assumption | (symm; assumption) | (subst_vars; rfl)) (Eq.refl _).symm)); exact (fT_ne _ _ h9_125).trans (Eq.refl _).symm
      have hP : va_P (dC, dI) vwCl (WR a k h0 (fT vi 125 (nI pn)) vj (fT (fT (fT vF 0 g19) 2 f2w19) 3 f3w19) (fT vG 1 gs19)) H := by rw [e9]; exact hP
      have hD : va_D A (WR a k h0 (fT vi 125 (nI pn)) vj (fT (fT (fT vF 0 g19) 2 f2w19) 3 f3w19) (fT vG 1 gs19)) := by rw [e9]; exact hD
      clear e9
      have e9 : fT (fT (fT (fT vF 0 g19) 2 f2w19) 3 f3w19) 75 (vF 75) = fT (fT (fT vF 0 g19) 2 f2w19) 3 f3w19 := by funext q9; by_cases h9_0 : q9 = 0; (subst h9_0; exact ((fT_ne _ _ (Nat.ne_of_beq_eq_false rfl)).trans ((fT_ne _ _ (Nat.ne_of_beq_eq_false rfl)).trans ((fT_ne _ _ (Nat.ne_of_beq_eq_false rfl)).trans (fT_eq _ _ _)))).trans (Eq.trans (by first | rfl | assumption | (symm; assumption) | (subst_vars; rfl)) ((fT_ne _ _ (Nat.ne_of_beq_eq_false rfl)).trans ((fT_ne _ _ (Nat.ne_of_beq_eq_false rfl)).trans (fT_eq _ _ _))).symm)); by_cases h9_2 : q9 = 2; (subst h9_2; exact ((fT_ne _ _ (Nat.ne_of_beq_eq_false rfl)).trans ((fT_ne _ _ (Nat.ne_of_beq_eq_false rfl)).trans (fT_eq _ _ _))).trans (Eq.trans (by first | rfl | assumption | (symm; assumption) | (subst_vars; rfl)) ((fT_ne _ _ (Nat.ne_of_beq_eq_false rfl)).trans (fT_eq _ _ _)).symm)); by_cases h9_3 : q9 = 3; (subst h9_3; exact ((fT_ne _ _ (Nat.ne_of_beq_eq_false rfl)).trans (fT_eq _ _ _)).trans (Eq.trans (by first | rfl | assumption | (symm; assumption) | (subst_vars; rfl)) (fT_eq _ _ _).symm)); by_cases h9_75 : q9 = 75; (subst h9_75; exact (fT_eq _ _ _).trans (Eq.trans (by first | rfl | assumption | (symm; assumption) | (subst_vars; rfl)) ((fT_ne _ _ (Nat.ne_of_beq_eq_false rfl)).trans ((fT_ne _ _ (Nat.ne_of_beq_eq_false rfl)).trans (fT_ne _ _ (Nat.ne_of_beq_eq_false rfl)))).symm)); exact ((fT_ne _ _ h9_75).trans ((fT_ne _ _ h9_3).trans ((fT_ne _ _ h9_2).trans (fT_ne _ _ h9_0)))).trans ((fT_ne _ _ h9_3).trans ((fT_ne _ _ h9_2).trans (fT_ne _ _ h9_0))).symm
      have hP : va_P (dC, dI) vwCl (WR a k h0 (fT vi 125 (nI pn)) vj (fT (fT (fT (fT vF 0 g19) 2 f2w19) 3 f3w19) 75 (vF 75)) (fT vG 1 gs19)) H := by rw [e9]; exact hP
      have hD : va_D A (WR a k h0 (fT vi 125 (nI pn)) vj (fT (fT (fT (fT vF 0 g19) 2 f2w19) 3 f3w19) 75 (vF 75)) (fT vG 1 gs19)) := by rw [e9]; exact hD
      clear e9
      have hl : lv_has _ _ ([(0, .ref h0), (1, .int (nI nn)), (2, .int (nI dn))]) := lv_sub hl [0, 1, 2] rfl
      exact join1 _ _ _ _ ⟨pn, (vF 75), by first | assumption | omega, rfl, hP, hD, hS, hl⟩
    · have t_28 : ¬ (r25).toInt ≥ 0 := toI_nge c_28 rfl (by decide)
      refine lv_aload_n hx hb dX12_sayFraction_31 rfl (lv_at hl 0 rfl) ?_
      refine lv_bipush (v := 45) hx hb dX12_sayFraction_32 (by decide) ?_
      have hFc := allFree hD hS hA
      refine va_callv (va_runV (As := [.int 45]) (rest := []) ⟨hx, hb, hml, hown, hts⟩ (r_X12_say l dC dI a k h0 vi vj (fT (fT (fT vF 0 g19) 2 f2w19) 3 f3w19) (fT vG 1 gs19) 45 pn hpn (by first | assumption | decide | omega | rfl) H.size) (cwV 1 hts gwsRX12_sayFraction_3 rfl rfl rfl hd_yX12_say_RX12 (by decide +kernel)) (fz_pre (va_recv hK hP (ci := 12) (q0 := 0) rfl rfl) hP hK hD) rfl rfl hl.1 rfl (lv_room (Nat.le_of_ble_eq_true rfl)) dX12_sayFraction_34 (by decide +kernel)) hS (fun q _ h => hFc q h) hFc (fun u t9_ H locs ht hvm hw9 hB9 hz1 hk1 hS => ?_)
      obtain ⟨p234, f7534⟩ := u
      try dsimp only at hw9 hB9
      have hP : va_P (dC, dI) vwCl (WR a k h0 (fT vi 125 (nI p234)) vj (fT (fT (fT (fT vF 0 g19) 2 f2w19) 3 f3w19) 75 f7534) (fT vG 1 gs19)) H := fz_P ht hB9.1
      have hD : va_D A (WR a k h0 (fT vi 125 (nI p234)) vj (fT (fT (fT (fT vF 0 g19) 2 f2w19) 3 f3w19) 75 f7534) (fT vG 1 gs19)) := hB9.2.weaken (fun _ q _ h => hFc q.1 h)
      obtain ⟨f34_0, f34_1, f34_2⟩ := hw9
      have hl : lv_has _ _ ([(0, .ref h0), (1, .int (nI nn)), (2, .int (nI dn))]) := lv_sub hl [0, 1, 2] rfl
      exact join1 _ _ _ _ ⟨p234, f7534, by first | assumption | omega, rfl, hP, hD, hS, hl⟩
  · rintro H locs ls stk ⟨j1_i125, j1_F75, hj1_i125, rfl, hP, hD, hS, hl⟩
    refine lv_aload_n hx hb dX12_sayFraction_37 rfl (lv_at hl 0 rfl) ?_
    refine lv_bipush (v := 15) hx hb dX12_sayFraction_38 (by decide) ?_
    have hFc := allFree hD hS hA
    refine va_callv (va_runV (As := [.int 15]) (rest := []) ⟨hx, hb, hml, hown, hts⟩ (r_X12_sayBig l dC dI a k h0 (fT vi 125 (nI j1_i125)) vj (fT (fT (fT (fT vF 0 g19) 2 f2w19) 3 f3w19) 75 j1_F75) (fT vG 1 gs19) 15 j1_i125 m219 f19_0 rfl (by first | assumption | decide | omega | rfl) (by first | assumption | decide | omega | rfl) (by first | assumption | decide | omega | rfl) H.size) (cwV 1 hts gwsRX12_sayFraction_4 rfl rfl rfl hd_yX12_sayBig_RX12 (by decide +kernel)) (fz_pre (va_recv hK hP (ci := 12) (q0 := 0) rfl rfl) hP hK hD) rfl rfl hl.1 rfl (lv_room (Nat.le_of_ble_eq_true rfl)) dX12_sayFraction_40 (by decide +kernel)) hS (fun q _ h => hFc q h) hFc (fun u t9_ H locs ht hvm hw9 hB9 hz1 hk1 hS => ?_)
    obtain ⟨g40, f2w40, f3w40, gs40, f7640, p240, f7540, m240⟩ := u
    try dsimp only at hw9 hB9
    have hP : va_P (dC, dI) vwCl (WR a k h0 (fT (fT vi 125 (nI j1_i125)) 125 (nI p240)) vj (fT (fT (fT (fT (fT (fT (fT (fT (fT vF 0 g19) 2 f2w19) 3 f3w19) 75 j1_F75) 0 g40) 2 f2w40) 3 f3w40) 76 f7640) 75 f7540) (fT (fT vG 1 gs19) 1 gs40)) H := fz_P ht hB9.1
    have hD : va_D A (WR a k h0 (fT (fT vi 125 (nI j1_i125)) 125 (nI p240)) vj (fT (fT (fT (fT (fT (fT (fT (fT (fT vF 0 g19) 2 f2w19) 3 f3w19) 75 j1_F75) 0 g40) 2 f2w40) 3 f3w40) 76 f7640) 75 f7540) (fT (fT vG 1 gs19) 1 gs40)) := hB9.2.weaken (fun _ q _ h => hFc q.1 h)
    have e9 : fT vi 125 (nI p240) = fT (fT vi 125 (nI j1_i125)) 125 (nI p240) := (fT_sm _ _ _ _).symm
    rw [← e9] at hP hD
    clear e9
    have e9 : fT (fT (fT (fT (fT vF 0 g40) 2 f2w40) 3 f3w40) 75 f7540) 76 f7640 = fT (fT (fT (fT (fT (fT (fT (fT (fT vF 0 g19) 2 f2w19) 3 f3w19) 75 j1_F75) 0 g40) 2 f2w40) 3 f3w40) 76 f7640) 75 f7540 := ((congrArg (fun g9 => fT (fT (fT (fT g9 2 f2w40) 3 f3w40) 76 f7640) 75 f7540) ((fT_sw _ _ _ (Nat.ne_of_beq_eq_false rfl)).trans (congrArg (fun g9 => fT g9 75 j1_F75) ((fT_sw _ _ _ (Nat.ne_of_beq_eq_false rfl)).trans (congrArg (fun g9 => fT g9 3 f3w19) ((fT_sw _ _ _ (Nat.ne_of_beq_eq_false rfl)).trans (congrArg (fun g9 => fT g9 2 f2w19) (fT_sm _ _ _ _)))))))).trans ((congrArg (fun g9 => fT (fT (fT g9 3 f3w40) 76 f7640) 75 f7540) ((fT_sw _ _ _ (Nat.ne_of_beq_eq_false rfl)).trans (congrArg (fun g9 => fT g9 75 j1_F75) ((fT_sw _ _ _ (Nat.ne_of_beq_eq_false rfl)).trans (congrArg (fun g9 => fT g9 3 f3w19) (fT_sm _ _ _ _)))))).trans ((congrArg (fun g9 => fT (fT g9 76 f7640) 75 f7540) ((fT_sw _ _ _ (Nat.ne_of_beq_eq_false rfl)).trans (congrArg (fun g9 => fT g9 75 j1_F75) (fT_sm _ _ _ _)))).trans ((fT_sw _ _ _ (Nat.ne_of_beq_eq_false rfl)).trans (congrArg (fun g9 => fT g9 76 f7640) (fT_sm _ _ _ _)))))).symm
    rw [← e9] at hP hD
    clear e9
    have e9 : fT vG 1 gs40 = fT (fT vG 1 gs19) 1 gs40 := (fT_sm _ _ _ _).symm
    rw [← e9] at hP hD
    clear e9
    have hP : va_P (dC, dI) vwCl (WR a k h0 (fT vi 125 (nI p240)) vj (fT (fT (fT (fT (fT vF 0 g40) 2 f2w40) 3 f3w40) 75 f7540) 76 f7640) (fT vG 1 gs40)) H := hP
    have hD : va_D A (WR a k h0 (fT vi 125 (nI p240)) vj (fT (fT (fT (fT (fT vF 0 g40) 2 f2w40) 3 f3w40) 75 f7540) 76 f7640) (fT vG 1 gs40)) := hD
    obtain ⟨f40_0, f40_1, f40_2⟩ := hw9
    refine lv_aload_n hx hb dX12_sayFraction_43 rfl (lv_at hl 0 rfl) ?_
    refine lv_bipush (v := 17) hx hb dX12_sayFraction_44 (by decide) ?_
    refine lv_lconst (v := 1) hx hb dX12_sayFraction_46 (by decide) ?_
    have hFc := allFree hD hS hA
    refine va_callv (va_runV (As := [.int 17, .long 1]) (rest := []) ⟨hx, hb, hml, hown, hts⟩ (b_X12_put l dC dI a k h0 (fT vi 125 (nI p240)) vj (fT (fT (fT (fT (fT vF 0 g40) 2 f2w40) 3 f3w40) 75 f7540) 76 f7640) (fT vG 1 gs40) 17 1 1 m240 f40_0 (by first | assumption | decide | omega | rfl) (by decide) (by first | assumption | decide | omega | rfl) H.size) (cwV 2 hts gwsRX12_sayFraction_5 rfl rfl rfl hd_yX12_put_RX12 (by decide +kernel)) (fz_pre (va_recv hK hP (ci := 12) (q0 := 0) rfl rfl) hP hK hD) rfl rfl hl.1 rfl (lv_room (Nat.le_of_ble_eq_true rfl)) dX12_sayFraction_47 (by decide +kernel)) hS (fun q _ h => hFc q h) hFc (fun u t9_ H locs ht hvm hw9 hB9 hz1 hk1 hS => ?_)
    obtain ⟨g47, hwit47⟩ : ∃ w9, w9 = u := ⟨u, rfl⟩
    subst hwit47
    have hP : va_P (dC, dI) vwCl (WR a k h0 (fT vi 125 (nI p240)) vj (fT (fT (fT (fT (fT (fT vF 0 g40) 2 f2w40) 3 f3w40) 75 f7540) 76 f7640) 0 g47) (fT vG 1 gs40)) H := fz_P ht hB9.1
    have hD : va_D A (WR a k h0 (fT vi 125 (nI p240)) vj (fT (fT (fT (fT (fT (fT vF 0 g40) 2 f2w40) 3 f3w40) 75 f7540) 76 f7640) 0 g47) (fT vG 1 gs40)) := hB9.2.weaken (fun _ q _ h => hFc q.1 h)
    have e9 : fT (fT (fT (fT (fT vF 0 g47) 2 f2w40) 3 f3w40) 75 f7540) 76 f7640 = fT (fT (fT (fT (fT (fT vF 0 g40) 2 f2w40) 3 f3w40) 75 f7540) 76 f7640) 0 g47 := ((fT_sw _ _ _ (Nat.ne_of_beq_eq_false rfl)).trans (congrArg (fun g9 => fT g9 76 f7640) ((fT_sw _ _ _ (Nat.ne_of_beq_eq_false rfl)).trans (congrArg (fun g9 => fT g9 75 f7540) ((fT_sw _ _ _ (Nat.ne_of_beq_eq_false rfl)).trans (congrArg (fun g9 => fT g9 3 f3w40) ((fT_sw _ _ _ (Nat.ne_of_beq_eq_false rfl)).trans (congrArg (fun g9 => fT g9 2 f2w40) (fT_sm _ _ _ _))))))))).symm
    rw [← e9] at hP hD
    clear e9
    have hP : va_P (dC, dI) vwCl (WR a k h0 (fT vi 125 (nI p240)) vj (fT (fT (fT (fT (fT vF 0 g47) 2 f2w40) 3 f3w40) 75 f7540) 76 f7640) (fT vG 1 gs40)) H := hP
    have hD : va_D A (WR a k h0 (fT vi 125 (nI p240)) vj (fT (fT (fT (fT (fT vF 0 g47) 2 f2w40) 3 f3w40) 75 f7540) 76 f7640) (fT vG 1 gs40)) := hD
    have f47_0 := hw9
    try dsimp only at f47_0
    refine lv_aload_n hx hb dX12_sayFraction_50 rfl (lv_at hl 0 rfl) ?_
    refine lv_bipush (v := 16) hx hb dX12_sayFraction_51 (by decide) ?_
    refine lv_bipush (v := 17) hx hb dX12_sayFraction_53 (by decide) ?_
    have hFc := allFree hD hS hA
    refine va_calli (va_runV (As := [.int 16, .int 17]) (rest := []) ⟨hx, hb, hml, hown, hts⟩ (b_X12_compare l dC dI a k h0 (fT vi 125 (nI p240)) vj (fT (fT (fT (fT (fT vF 0 g47) 2 f2w40) 3 f3w40) 75 f7540) 76 f7640) (fT vG 1 gs40) 16 17 (fT m240 17 1) f47_0 (m219 16) 1 (by rw [fT_ne _ _ (by omega), f40_2 _ (by omega)]) (by rw [fT_eq]) (by first | assumption | decide | omega | rfl) (by first | assumption | decide | omega | rfl) H.size) (cwV 2 hts gwsRX12_sayFraction_6 rfl rfl rfl hd_yX12_compare_RX12 (by decide +kernel)) (fz_pre (va_recv hK hP (ci := 12) (q0 := 0) rfl rfl) hP hK hD) rfl rfl hl.1 rfl (lv_room (Nat.le_of_ble_eq_true rfl)) dX12_sayFraction_55 (by decide +kernel)) hS (fun q _ h => hFc q h) hFc (fun r55 u t9_ H locs ht hvm hw9 hB9 hz1 hk1 hS => ?_)
    have hP : va_P (dC, dI) vwCl (WR a k h0 (fT vi 125 (nI p240)) vj (fT (fT (fT (fT (fT vF 0 g47) 2 f2w40) 3 f3w40) 75 f7540) 76 f7640) (fT vG 1 gs40)) H := fz_P ht hB9.1
    have hD : va_D A (WR a k h0 (fT vi 125 (nI p240)) vj (fT (fT (fT (fT (fT vF 0 g47) 2 f2w40) 3 f3w40) 75 f7540) 76 f7640) (fT vG 1 gs40)) := hB9.2.weaken (fun _ q _ h => hFc q.1 h)
    have f55_0 := hw9
    try dsimp only at f55_0
    refine lv_if_ne (tgt := 62) hx hb dX12_sayFraction_58 (by decide) (fun c_58 => ?_) (fun c_58 => ?_)
    · have t_58 : (r55).toInt ≠ 0 := toI_ne c_58 rfl (by decide)
      refine lv_aload_n hx hb dX12_sayFraction_62 rfl (lv_at hl 0 rfl) ?_
      refine lv_bipush (v := 47) hx hb dX12_sayFraction_63 (by decide) ?_
      have hFc := allFree hD hS hA
      refine va_callv (va_runV (As := [.int 47]) (rest := []) ⟨hx, hb, hml, hown, hts⟩ (r_X12_say l dC dI a k h0 (fT vi 125 (nI p240)) vj (fT (fT (fT (fT (fT vF 0 g47) 2 f2w40) 3 f3w40) 75 f7540) 76 f7640) (fT vG 1 gs40) 47 p240 rfl (by first | assumption | decide | omega | rfl) H.size) (cwV 1 hts gwsRX12_sayFraction_3 rfl rfl rfl hd_yX12_say_RX12 (by decide +kernel)) (fz_pre (va_recv hK hP (ci := 12) (q0 := 0) rfl rfl) hP hK hD) rfl rfl hl.1 rfl (lv_room (Nat.le_of_ble_eq_true rfl)) dX12_sayFraction_65 (by decide +kernel)) hS (fun q _ h => hFc q h) hFc (fun u t9_ H locs ht hvm hw9 hB9 hz1 hk1 hS => ?_)
      obtain ⟨p265, f7565⟩ := u
      try dsimp only at hw9 hB9
      have hP : va_P (dC, dI) vwCl (WR a k h0 (fT (fT vi 125 (nI p240)) 125 (nI p265)) vj (fT (fT (fT (fT (fT (fT vF 0 g47) 2 f2w40) 3 f3w40) 75 f7540) 76 f7640) 75 f7565) (fT vG 1 gs40)) H := fz_P ht hB9.1
      have hD : va_D A (WR a k h0 (fT (fT vi 125 (nI p240)) 125 (nI p265)) vj (fT (fT (fT (fT (fT (fT vF 0 g47) 2 f2w40) 3 f3w40) 75 f7540) 76 f7640) 75 f7565) (fT vG 1 gs40)) := hB9.2.weaken (fun _ q _ h => hFc q.1 h)
      have e9 : fT vi 125 (nI p265) = fT (fT vi 125 (nI p240)) 125 (nI p265) := (fT_sm _ _ _ _).symm
      rw [← e9] at hP hD
      clear e9
      have e9 : fT (fT (fT (fT (fT vF 0 g47) 2 f2w40) 3 f3w40) 75 f7565) 76 f7640 = fT (fT (fT (fT (fT (fT vF 0 g47) 2 f2w40) 3 f3w40) 75 f7540) 76 f7640) 75 f7565 := ((fT_sw _ _ _ (Nat.ne_of_beq_eq_false rfl)).trans (congrArg (fun g9 => fT g9 76 f7640) (fT_sm _ _ _ _))).symm
      rw [← e9] at hP hD
      clear e9
      have hP : va_P (dC, dI) vwCl (WR a k h0 (fT vi 125 (nI p265)) vj (fT (fT (fT (fT (fT vF 0 g47) 2 f2w40) 3 f3w40) 75 f7565) 76 f7640) (fT vG 1 gs40)) H := hP
      have hD : va_D A (WR a k h0 (fT vi 125 (nI p265)) vj (fT (fT (fT (fT (fT vF 0 g47) 2 f2w40) 3 f3w40) 75 f7565) 76 f7640) (fT vG 1 gs40)) := hD
      obtain ⟨f65_0, f65_1, f65_2⟩ := hw9
      refine lv_aload_n hx hb dX12_sayFraction_68 rfl (lv_at hl 0 rfl) ?_
      refine lv_bipush (v := 16) hx hb dX12_sayFraction_69 (by decide) ?_
      have hFc := allFree hD hS hA
      refine va_callv (va_runV (As := [.int 16]) (rest := []) ⟨hx, hb, hml, hown, hts⟩ (r_X12_sayBig l dC dI a k h0 (fT vi 125 (nI p265)) vj (fT (fT (fT (fT (fT vF 0 g47) 2 f2w40) 3 f3w40) 75 f7565) 76 f7640) (fT vG 1 gs40) 16 p265 (fT m240 17 1) f47_0 rfl (by first | assumption | decide | omega | rfl) (by first | assumption | decide | omega | rfl) (by first | assumption | decide | omega | rfl) H.size) (cwV 1 hts gwsRX12_sayFraction_4 rfl rfl rfl hd_yX12_sayBig_RX12 (by decide +kernel)) (fz_pre (va_recv hK hP (ci := 12) (q0 := 0) rfl rfl) hP hK hD) rfl rfl hl.1 rfl (lv_room (Nat.le_of_ble_eq_true rfl)) dX12_sayFraction_71 (by decide +kernel)) hS (fun q _ h => hFc q h) hFc (fun u t9_ H locs ht hvm hw9 hB9 hz1 hk1 hS => ?_)
      obtain ⟨g71, f2w71, f3w71, gs71, f7671, p271, f7571, m271⟩ := u
      try dsimp only at hw9 hB9
      have hP : va_P (dC, dI) vwCl (WR a k h0 (fT (fT vi 125 (nI p265)) 125 (nI p271)) vj (fT (fT (fT (fT (fT (fT (fT (fT (fT (fT vF 0 g47) 2 f2w40) 3 f3w40) 75 f7565) 76 f7640) 0 g71) 2 f2w71) 3 f3w71) 76 f7671) 75 f7571) (fT (fT vG 1 gs40) 1 gs71)) H := fz_P ht hB9.1
      have hD : va_D A (WR a k h0 (fT (fT vi 125 (nI p265)) 125 (nI p271)) vj (fT (fT (fT (fT (fT (fT (fT (fT (fT (fT vF 0 g47) 2 f2w40) 3 f3w40) 75 f7565) 76 f7640) 0 g71) 2 f2w71) 3 f3w71) 76 f7671) 75 f7571) (fT (fT vG 1 gs40) 1 gs71)) := hB9.2.weaken (fun _ q _ h => hFc q.1 h)
      have e9 : fT vi 125 (nI p271) = fT (fT vi 125 (nI p265)) 125 (nI p271) := (fT_sm _ _ _ _).symm
      rw [← e9] at hP hD
      clear e9
      have e9 : fT (fT (fT (fT (fT vF 0 g71) 2 f2w71) 3 f3w71) 75 f7571) 76 f7671 = fT (fT (fT (fT (fT (fT (fT (fT (fT (fT vF 0 g47) 2 f2w40) 3 f3w40) 75 f7565) 76 f7640) 0 g71) 2 f2w71) 3 f3w71) 76 f7671) 75 f7571 := ((congrArg (fun g9 => fT (fT (fT (fT g9 2 f2w71) 3 f3w71) 76 f7671) 75 f7571) ((fT_sw _ _ _ (Nat.ne_of_beq_eq_false rfl)).trans (congrArg (fun g9 => fT g9 76 f7640) ((fT_sw _ _ _ (Nat.ne_of_beq_eq_false rfl)).trans (congrArg (fun g9 => fT g9 75 f7565) ((fT_sw _ _ _ (Nat.ne_of_beq_eq_false rfl)).trans (congrArg (fun g9 => fT g9 3 f3w40) ((fT_sw _ _ _ (Nat.ne_of_beq_eq_false rfl)).trans (congrArg (fun g9 => fT g9 2 f2w40) (fT_sm _ _ _ _)))))))))).trans ((congrArg (fun g9 => fT (fT (fT g9 3 f3w71) 76 f7671) 75 f7571) ((fT_sw _ _ _ (Nat.ne_of_beq_eq_false rfl)).trans (congrArg (fun g9 => fT g9 76 f7640) ((fT_sw _ _ _ (Nat.ne_of_beq_eq_false rfl)).trans (congrArg (fun g9 => fT g9 75 f7565) ((fT_sw _ _ _ (Nat.ne_of_beq_eq_false rfl)).trans (congrArg (fun g9 => fT g9 3 f3w40) (fT_sm _ _ _ _)))))))).trans ((congrArg (fun g9 => fT (fT g9 76 f7671) 75 f7571) ((fT_sw _ _ _ (Nat.ne_of_beq_eq_false rfl)).trans (congrArg (fun g9 => fT g9 76 f7640) ((fT_sw _ _ _ (Nat.ne_of_beq_eq_false rfl)).trans (congrArg (fun g9 => fT g9 75 f7565) (fT_sm _ _ _ _)))))).trans ((congrArg (fun g9 => fT g9 75 f7571) (fT_sm _ _ _ _)).trans ((fT_sw _ _ _ (Nat.ne_of_beq_eq_false rfl)).trans (congrArg (fun g9 => fT g9 76 f7671) (fT_sm _ _ _ _))))))).symm
      rw [← e9] at hP hD
      clear e9
      have e9 : fT vG 1 gs71 = fT (fT vG 1 gs40) 1 gs71 := (fT_sm _ _ _ _).symm
      rw [← e9] at hP hD
      clear e9
      have hP : va_P (dC, dI) vwCl (WR a k h0 (fT vi 125 (nI p271)) vj (fT (fT (fT (fT (fT vF 0 g71) 2 f2w71) 3 f3w71) 75 f7571) 76 f7671) (fT vG 1 gs71)) H := hP
      have hD : va_D A (WR a k h0 (fT vi 125 (nI p271)) vj (fT (fT (fT (fT (fT vF 0 g71) 2 f2w71) 3 f3w71) 75 f7571) 76 f7671) (fT vG 1 gs71)) := hD
      obtain ⟨f71_0, f71_1, f71_2⟩ := hw9
      refine W.widen (k := 0) (n := 0) (by decide +kernel) (by decide +kernel) ?_
      exact W.vret hx hb hr (fun t9_ ht hW => ⟨⟨(g71, f2w71, f3w71, gs71, f7671, p271, f7571, m271), rfl, by (try dsimp only); exact ⟨f71_0, by first | assumption | omega, fun q hq => by (rw [f71_2 _ (by omega), fT_ne _ _ (by omega), f40_2 _ (by omega), f19_3 _ (by omega) (by omega) (by omega), fT_ne _ _ (by omega), fT_ne _ _ (by omega)])⟩, by rw [ht]; exact hP, hD⟩, hS.F ht⟩) hS.2.2 dX12_sayFraction_74
    · have t_58 : (r55).toInt = 0 := toI_nne c_58 rfl (by decide)
      refine W.widen (k := 0) (n := 0) (by decide +kernel) (by decide +kernel) ?_
      exact W.vret hx hb hr (fun t9_ ht hW => ⟨⟨(g47, f2w40, f3w40, gs40, f7640, p240, f7540, (fT m240 17 1)), rfl, by (try dsimp only); exact ⟨f47_0, by first | assumption | omega, fun q hq => by (rw [fT_ne _ _ (by omega), f40_2 _ (by omega), f19_3 _ (by omega) (by omega) (by omega), fT_ne _ _ (by omega), fT_ne _ _ (by omega)])⟩, by rw [ht]; exact hP, hD⟩, hS.F ht⟩) hS.2.2 dX12_sayFraction_61
theorem dX12_canTell_0 : decode cX12_canTell 0 = .ok (.aload_n 0, 1) := dk_42 (by decide +kernel)
theorem dX12_canTell_1 : decode cX12_canTell 1 = .ok (.aload_n 0, 1) := dk_42 (by decide +kernel)
theorem dX12_canTell_2 : decode cX12_canTell 2 = .ok (.getfield 808, 3) := dk_180 (by decide +kernel)
theorem dX12_canTell_5 : decode cX12_canTell 5 = .ok (.ifCond .eq 10, 3) := dk_153 (by decide +kernel)
theorem dX12_canTell_8 : decode cX12_canTell 8 = .ok (.aload_n 0, 1) := dk_42 (by decide +kernel)
theorem dX12_canTell_9 : decode cX12_canTell 9 = .ok (.getfield 811, 3) := dk_180 (by decide +kernel)
theorem dX12_canTell_12 : decode cX12_canTell 12 = .ok (.ifCond .ne 7, 3) := dk_154 (by decide +kernel)
theorem dX12_canTell_15 : decode cX12_canTell 15 = .ok (.iconst 1, 1) := dk_4 (by decide +kernel)
theorem dX12_canTell_16 : decode cX12_canTell 16 = .ok (.goto 17, 3) := dk_167 (by decide +kernel)
theorem dX12_canTell_19 : decode cX12_canTell 19 = .ok (.iload_n 1, 1) := dk_27 (by decide +kernel)
theorem dX12_canTell_20 : decode cX12_canTell 20 = .ok (.ifCond .lt 8, 3) := dk_155 (by decide +kernel)
theorem dX12_canTell_23 : decode cX12_canTell 23 = .ok (.iload_n 1, 1) := dk_27 (by decide +kernel)
theorem dX12_canTell_24 : decode cX12_canTell 24 = .ok (.iload_n 2, 1) := dk_28 (by decide +kernel)
theorem dX12_canTell_25 : decode cX12_canTell 25 = .ok (.if_icmp .lt 7, 3) := dk_161 (by decide +kernel)
theorem dX12_canTell_28 : decode cX12_canTell 28 = .ok (.iconst 2, 1) := dk_5 (by decide +kernel)
theorem dX12_canTell_29 : decode cX12_canTell 29 = .ok (.goto 4, 3) := dk_167 (by decide +kernel)
theorem dX12_canTell_32 : decode cX12_canTell 32 = .ok (.iconst 0, 1) := dk_3 (by decide +kernel)
theorem dX12_canTell_33 : decode cX12_canTell 33 = .ok (.putfield 348, 3) := dk_181 (by decide +kernel)
theorem dX12_canTell_36 : decode cX12_canTell 36 = .ok (.aload_n 0, 1) := dk_42 (by decide +kernel)
theorem dX12_canTell_37 : decode cX12_canTell 37 = .ok (.getfield 348, 3) := dk_180 (by decide +kernel)
theorem dX12_canTell_40 : decode cX12_canTell 40 = .ok (.ifCond .ne 7, 3) := dk_154 (by decide +kernel)
theorem dX12_canTell_43 : decode cX12_canTell 43 = .ok (.iconst 1, 1) := dk_4 (by decide +kernel)
theorem dX12_canTell_44 : decode cX12_canTell 44 = .ok (.goto 4, 3) := dk_167 (by decide +kernel)
theorem dX12_canTell_47 : decode cX12_canTell 47 = .ok (.iconst 0, 1) := dk_3 (by decide +kernel)
theorem dX12_canTell_48 : decode cX12_canTell 48 = .ok (.ireturn, 1) := dk_172 (by decide +kernel)
def wsRX12_canTell : List Cond := .code yX12_canTell cX12_canTell 3 (some .boolean) :: ([.fieldLink RX12 808 "OptimaWorksModel" "isModel" "Z", .fieldLink RX12 348 "OptimaWorksModel" "thrown" "I", .fieldLink RX12 811 "OptimaWorksModel" "hasAnswer" "Z"] ++ wsX120)
theorem iwsRX12_canTell_in12 : ∀ w ∈ wsX120, w ∈ wsRX12_canTell := fun _ h => List.mem_cons_of_mem _ (List.mem_append_right _ h)
theorem gdwsRX12_canTell : wsRX12_canTell.all goodWord = true := gdC rfl (gdA (by decide +kernel : ([.fieldLink RX12 808 "OptimaWorksModel" "isModel" "Z", .fieldLink RX12 348 "OptimaWorksModel" "thrown" "I", .fieldLink RX12 811 "OptimaWorksModel" "hasAnswer" "Z"] : List Cond).all goodWord = true) gdwsX120)
set_option maxHeartbeats 4000000 in
set_option maxRecDepth 100000 in
/-- canTell(k, most) -/
theorem r_X12_canTell (l : Launch) (dC : Nat → ClassId) (dI : Nat → Nat → Nat) (a : Nat → Nat) (k : Nat → ClassId) (h0 : Nat) (vi : Nat → Int32) (vj : Nat → Int64) (vF : Nat → Nat → Int32) (vG : Nat → Nat → Int64) (kI : Int32) (mI : Int32) (sz : Nat) : Met l yX12_canTell wsRX12_canTell ({ frames := 0, cells := 0, slots := 0, locals := 0 }) (va_Pc [.ref h0, .int kI, .int mI] (fun U => U.heap.size = sz ∧ va_P (dC, dI) vwCl (WR a k h0 vi vj vF vG) U.heap ∧ va_K (dC, dI) vwCl (tX12 k) U ∧ va_D (fun _ => True) (WR a k h0 vi vj vF vG))) (va_Qi (fun (r : Int32) (u : Int32) => (r = 1 ∧ (vi 95 ≠ 0) ∧ (vi 113 ≠ 0) ∧ (0 ≤ (kI).toInt ∧ (kI).toInt < (mI).toInt) ∧ u = 0) ∨ (r = 0 ∧ (¬ u = 0))) (fun (u : Int32) t => va_P (dC, dI) vwCl (WR a k h0 (fT vi 0 u) vj vF vG) t.heap ∧ va_D (va_A (WR a k h0 vi vj vF vG) sz) (WR a k h0 (fT vi 0 u) vj vF vG)) (va_A (WR a k h0 vi vj vF vG) sz)) 0 0 (va_A (WR a k h0 vi vj vF vG) sz) := by
  refine Met.ofW (cc := cX12_canTell) (maxL := 3) (ret := (some .boolean)) (by decide) rfl ?_
  intro p e s m args below meth c s₁ B hml hv
  obtain ⟨rfl, hsz, hP, hK, hD0⟩ := hv
  have hx := B.exec
  have hb := B.bytes
  have hr := B.returns
  have hts := atoms_spec (ws := wsRX12_canTell) B.pre
  have hown : s.vm.findClass RX12 = some m.cls := findClass_of_methodNamed B.named
  have hlocks := B.notSynchronized
  subst hsz
  have hD := hD0.self (sz := s.heap.size)
  generalize hAe : va_A (WR a k h0 vi vj vF vG) s.heap.size = A at hD ⊢
  have hA : ∀ q : Nat, s.heap.size ≤ q → A q := fun q h => by rw [← hAe]; exact Or.inr h
  have hS : va_S A s.heap s.heap [] := va_S.rf
  have hl := lv_entry ([.ref h0, .int kI, .int mI]) (n := 3) (Nat.le_of_ble_eq_true rfl)
  rw [lg_entry_eq]
  generalize (lg_sl ([.ref h0, .int kI, .int mI]) ++ List.replicate (3 - (lg_sl ([.ref h0, .int kI, .int mI])).length) Slot.unset).toArray = ls at hl ⊢
  have hl : lv_has ls 3 [(0, .ref h0), (1, .int kI), (2, .int mI)] := hl
  refine lv_aload_n hx hb dX12_canTell_0 rfl (lv_at hl 0 rfl) ?_
  refine lv_aload_n hx hb dX12_canTell_1 rfl (lv_at hl 0 rfl) ?_
  refine va_get (D := (dC, dI)) (ci := 12) (v := .int (vi 95)) (C := RX12) (T := TX12) (N := 163) (fs := fM (vS a vi vj)) hx hb hts iwsRX12_canTell_in12 hown hK hP 0 rfl rfl 95 (by decide) (hts (.fieldLink RX12 808 "OptimaWorksModel" "isModel" "Z") (by decide +kernel)) (fun _ h9 => h9) rfl dX12_canTell_2 ?_
  refine lv_if_eq (tgt := 15) hx hb dX12_canTell_5 (by decide) (fun c_5 => ?_) (fun c_5 => ?_)
  · have t_5 : ((vi 95)).toInt = 0 := toI_eq c_5 rfl (by decide)
    refine lv_iconst (v := 1) hx hb dX12_canTell_15 (by decide) ?_
    refine lv_goto (tgt := 33) hx hb dX12_canTell_16 (by decide) ?_
    refine va_put (D := (dC, dI)) (ci := 12) (v := .int 1) (ty := .int) (C := RX12) (T := TX12) (N := 163) (fs := fM (vS a vi vj)) hx hb hts iwsRX12_canTell_in12 tyX12 tyX12_ok nmX12 hown hK hP hD hS 0 rfl rfl 0 (by decide) (hts (.fieldLink RX12 348 "OptimaWorksModel" "thrown" "I") (by decide +kernel)) (fun _ h9 => h9) rfl (by decide +kernel) rfl rfl (Nat.le_of_ble_eq_true rfl) dX12_canTell_33 (fun H locs hP hD hS => ?_)
    have hP : va_P (dC, dI) vwCl (WR a k h0 (fT vi 0 1) vj vF vG) H := by rw [← WR_i 0 _ rfl]; exact hP
    have hD : va_D A (WR a k h0 (fT vi 0 1) vj vF vG) := by rw [← WR_i 0 _ rfl]; exact hD
    refine lv_aload_n hx hb dX12_canTell_36 rfl (lv_at hl 0 rfl) ?_
    refine va_get (D := (dC, dI)) (ci := 12) (v := .int 1) (C := RX12) (T := TX12) (N := 163) (fs := fM (vS a (fT vi 0 1) vj)) hx hb hts iwsRX12_canTell_in12 hown hK hP 0 rfl rfl 0 (by decide) (hts (.fieldLink RX12 348 "OptimaWorksModel" "thrown" "I") (by decide +kernel)) (fun _ h9 => h9) rfl dX12_canTell_37 ?_
    refine lv_if_ne (tgt := 47) hx hb dX12_canTell_40 (by decide) (fun _ => ?_) (fun c9 => absurd c9 (by decide))
    refine lv_iconst (v := 0) hx hb dX12_canTell_47 (by decide) ?_
    refine W.widen (k := 0) (n := 0) (by decide +kernel) (by decide +kernel) ?_
    exact W.zret (v := 0) hx hb hr rfl (fun t9_ ht hW => ⟨⟨0, 1, rfl, by (try dsimp only); exact Or.inr ⟨rfl, by decide⟩, by rw [ht]; exact hP, hD⟩, hS.F ht⟩) hS.2.2 dX12_canTell_48
  · have t_5 : ¬ ((vi 95)).toInt = 0 := toI_neq c_5 rfl (by decide)
    refine lv_aload_n hx hb dX12_canTell_8 rfl (lv_at hl 0 rfl) ?_
    refine va_get (D := (dC, dI)) (ci := 12) (v := .int (vi 113)) (C := RX12) (T := TX12) (N := 163) (fs := fM (vS a vi vj)) hx hb hts iwsRX12_canTell_in12 hown hK hP 0 rfl rfl 113 (by decide) (hts (.fieldLink RX12 811 "OptimaWorksModel" "hasAnswer" "Z") (by decide +kernel)) (fun _ h9 => h9) rfl dX12_canTell_9 ?_
    refine lv_if_ne (tgt := 19) hx hb dX12_canTell_12 (by decide) (fun c_12 => ?_) (fun c_12 => ?_)
    · have t_12 : ((vi 113)).toInt ≠ 0 := toI_ne c_12 rfl (by decide)
      refine lv_iload_n hx hb dX12_canTell_19 rfl (lv_at hl 1 rfl) ?_
      refine lv_if_lt (tgt := 28) hx hb dX12_canTell_20 (by decide) (fun c_20 => ?_) (fun c_20 => ?_)
      · have t_20 : (kI).toInt < 0 := toI_lt c_20 rfl (by decide)
        refine lv_iconst (v := 2) hx hb dX12_canTell_28 (by decide) ?_
        refine lv_goto (tgt := 33) hx hb dX12_canTell_29 (by decide) ?_
        refine va_put (D := (dC, dI)) (ci := 12) (v := .int 2) (ty := .int) (C := RX12) (T := TX12) (N := 163) (fs := fM (vS a vi vj)) hx hb hts iwsRX12_canTell_in12 tyX12 tyX12_ok nmX12 hown hK hP hD hS 0 rfl rfl 0 (by decide) (hts (.fieldLink RX12 348 "OptimaWorksModel" "thrown" "I") (by decide +kernel)) (fun _ h9 => h9) rfl (by decide +kernel) rfl rfl (Nat.le_of_ble_eq_true rfl) dX12_canTell_33 (fun H locs hP hD hS => ?_)
        have hP : va_P (dC, dI) vwCl (WR a k h0 (fT vi 0 2) vj vF vG) H := by rw [← WR_i 0 _ rfl]; exact hP
        have hD : va_D A (WR a k h0 (fT vi 0 2) vj vF vG) := by rw [← WR_i 0 _ rfl]; exact hD
        refine lv_aload_n hx hb dX12_canTell_36 rfl (lv_at hl 0 rfl) ?_
        refine va_get (D := (dC, dI)) (ci := 12) (v := .int 2) (C := RX12) (T := TX12) (N := 163) (fs := fM (vS a (fT vi 0 2) vj)) hx hb hts iwsRX12_canTell_in12 hown hK hP 0 rfl rfl 0 (by decide) (hts (.fieldLink RX12 348 "OptimaWorksModel" "thrown" "I") (by decide +kernel)) (fun _ h9 => h9) rfl dX12_canTell_37 ?_
        refine lv_if_ne (tgt := 47) hx hb dX12_canTell_40 (by decide) (fun _ => ?_) (fun c9 => absurd c9 (by decide))
        refine lv_iconst (v := 0) hx hb dX12_canTell_47 (by decide) ?_
        refine W.widen (k := 0) (n := 0) (by decide +kernel) (by decide +kernel) ?_
        exact W.zret (v := 0) hx hb hr rfl (fun t9_ ht hW => ⟨⟨0, 2, rfl, by (try dsimp only); exact Or.inr ⟨rfl, by decide⟩, by rw [ht]; exact hP, hD⟩, hS.F ht⟩) hS.2.2 dX12_canTell_48
      · have t_20 : ¬ (kI).toInt < 0 := toI_nlt c_20 rfl (by decide)
        refine lv_iload_n hx hb dX12_canTell_23 rfl (lv_at hl 1 rfl) ?_
        refine lv_iload_n hx hb dX12_canTell_24 rfl (lv_at hl 2 rfl) ?_
        refine lv_icmp_lt (tgt := 32) hx hb dX12_canTell_25 (by decide) (fun c_25 => ?_) (fun c_25 => ?_)
        · have t_25 : (kI).toInt < (mI).toInt := toI_lt c_25 rfl rfl
          refine lv_iconst (v := 0) hx hb dX12_canTell_32 (by decide) ?_
          refine va_put (D := (dC, dI)) (ci := 12) (v := .int 0) (ty := .int) (C := RX12) (T := TX12) (N := 163) (fs := fM (vS a vi vj)) hx hb hts iwsRX12_canTell_in12 tyX12 tyX12_ok nmX12 hown hK hP hD hS 0 rfl rfl 0 (by decide) (hts (.fieldLink RX12 348 "OptimaWorksModel" "thrown" "I") (by decide +kernel)) (fun _ h9 => h9) rfl (by decide +kernel) rfl rfl (Nat.le_of_ble_eq_true rfl) dX12_canTell_33 (fun H locs hP hD hS => ?_)
          have hP : va_P (dC, dI) vwCl (WR a k h0 (fT vi 0 0) vj vF vG) H := by rw [← WR_i 0 _ rfl]; exact hP
          have hD : va_D A (WR a k h0 (fT vi 0 0) vj vF vG) := by rw [← WR_i 0 _ rfl]; exact hD
          refine lv_aload_n hx hb dX12_canTell_36 rfl (lv_at hl 0 rfl) ?_
          refine va_get (D := (dC, dI)) (ci := 12) (v := .int 0) (C := RX12) (T := TX12) (N := 163) (fs := fM (vS a (fT vi 0 0) vj)) hx hb hts iwsRX12_canTell_in12 hown hK hP 0 rfl rfl 0 (by decide) (hts (.fieldLink RX12 348 "OptimaWorksModel" "thrown" "I") (by decide +kernel)) (fun _ h9 => h9) rfl dX12_canTell_37 ?_
          refine lv_if_ne (tgt := 47) hx hb dX12_canTell_40 (by decide) (fun c9 => absurd c9 (by decide)) (fun _ => ?_)
          refine lv_iconst (v := 1) hx hb dX12_canTell_43 (by decide) ?_
          refine lv_goto (tgt := 48) hx hb dX12_canTell_44 (by decide) ?_
          refine W.widen (k := 0) (n := 0) (by decide +kernel) (by decide +kernel) ?_
          exact W.zret (v := 1) hx hb hr rfl (fun t9_ ht hW => ⟨⟨1, 0, rfl, by (try dsimp only); exact Or.inl ⟨rfl, c_5, c_12, by omega, rfl⟩, by rw [ht]; exact hP, hD⟩, hS.F ht⟩) hS.2.2 dX12_canTell_48
        · have t_25 : ¬ (kI).toInt < (mI).toInt := toI_nlt c_25 rfl rfl
          refine lv_iconst (v := 2) hx hb dX12_canTell_28 (by decide) ?_
          refine lv_goto (tgt := 33) hx hb dX12_canTell_29 (by decide) ?_
          refine va_put (D := (dC, dI)) (ci := 12) (v := .int 2) (ty := .int) (C := RX12) (T := TX12) (N := 163) (fs := fM (vS a vi vj)) hx hb hts iwsRX12_canTell_in12 tyX12 tyX12_ok nmX12 hown hK hP hD hS 0 rfl rfl 0 (by decide) (hts (.fieldLink RX12 348 "OptimaWorksModel" "thrown" "I") (by decide +kernel)) (fun _ h9 => h9) rfl (by decide +kernel) rfl rfl (Nat.le_of_ble_eq_true rfl) dX12_canTell_33 (fun H locs hP hD hS => ?_)
          have hP : va_P (dC, dI) vwCl (WR a k h0 (fT vi 0 2) vj vF vG) H := by rw [← WR_i 0 _ rfl]; exact hP
          have hD : va_D A (WR a k h0 (fT vi 0 2) vj vF vG) := by rw [← WR_i 0 _ rfl]; exact hD
          refine lv_aload_n hx hb dX12_canTell_36 rfl (lv_at hl 0 rfl) ?_
          refine va_get (D := (dC, dI)) (ci := 12) (v := .int 2) (C := RX12) (T := TX12) (N := 163) (fs := fM (vS a (fT vi 0 2) vj)) hx hb hts iwsRX12_canTell_in12 hown hK hP 0 rfl rfl 0 (by decide) (hts (.fieldLink RX12 348 "OptimaWorksModel" "thrown" "I") (by decide +kernel)) (fun _ h9 => h9) rfl dX12_canTell_37 ?_
          refine lv_if_ne (tgt := 47) hx hb dX12_canTell_40 (by decide) (fun _ => ?_) (fun c9 => absurd c9 (by decide))
          refine lv_iconst (v := 0) hx hb dX12_canTell_47 (by decide) ?_
          refine W.widen (k := 0) (n := 0) (by decide +kernel) (by decide +kernel) ?_
          exact W.zret (v := 0) hx hb hr rfl (fun t9_ ht hW => ⟨⟨0, 2, rfl, by (try dsimp only); exact Or.inr ⟨rfl, by decide⟩, by rw [ht]; exact hP, hD⟩, hS.F ht⟩) hS.2.2 dX12_canTell_48
    · have t_12 : ((vi 113)).toInt = 0 := toI_nne c_12 rfl (by decide)
      refine lv_iconst (v := 1) hx hb dX12_canTell_15 (by decide) ?_
      refine lv_goto (tgt := 33) hx hb dX12_canTell_16 (by decide) ?_
      refine va_put (D := (dC, dI)) (ci := 12) (v := .int 1) (ty := .int) (C := RX12) (T := TX12) (N := 163) (fs := fM (vS a vi vj)) hx hb hts iwsRX12_canTell_in12 tyX12 tyX12_ok nmX12 hown hK hP hD hS 0 rfl rfl 0 (by decide) (hts (.fieldLink RX12 348 "OptimaWorksModel" "thrown" "I") (by decide +kernel)) (fun _ h9 => h9) rfl (by decide +kernel) rfl rfl (Nat.le_of_ble_eq_true rfl) dX12_canTell_33 (fun H locs hP hD hS => ?_)
      have hP : va_P (dC, dI) vwCl (WR a k h0 (fT vi 0 1) vj vF vG) H := by rw [← WR_i 0 _ rfl]; exact hP
      have hD : va_D A (WR a k h0 (fT vi 0 1) vj vF vG) := by rw [← WR_i 0 _ rfl]; exact hD
      refine lv_aload_n hx hb dX12_canTell_36 rfl (lv_at hl 0 rfl) ?_
      refine va_get (D := (dC, dI)) (ci := 12) (v := .int 1) (C := RX12) (T := TX12) (N := 163) (fs := fM (vS a (fT vi 0 1) vj)) hx hb hts iwsRX12_canTell_in12 hown hK hP 0 rfl rfl 0 (by decide) (hts (.fieldLink RX12 348 "OptimaWorksModel" "thrown" "I") (by decide +kernel)) (fun _ h9 => h9) rfl dX12_canTell_37 ?_
      refine lv_if_ne (tgt := 47) hx hb dX12_canTell_40 (by decide) (fun _ => ?_) (fun c9 => absurd c9 (by decide))
      refine lv_iconst (v := 0) hx hb dX12_canTell_47 (by decide) ?_
      refine W.widen (k := 0) (n := 0) (by decide +kernel) (by decide +kernel) ?_
      exact W.zret (v := 0) hx hb hr rfl (fun t9_ ht hW => ⟨⟨0, 1, rfl, by (try dsimp only); exact Or.inr ⟨rfl, by decide⟩, by rw [ht]; exact hP, hD⟩, hS.F ht⟩) hS.2.2 dX12_canTell_48
theorem dX12_value_0 : decode cX12_value 0 = .ok (.aload_n 0, 1) := dk_42 (by decide +kernel)
theorem dX12_value_1 : decode cX12_value 1 = .ok (.iload_n 1, 1) := dk_27 (by decide +kernel)
theorem dX12_value_2 : decode cX12_value 2 = .ok (.aload_n 0, 1) := dk_42 (by decide +kernel)
theorem dX12_value_3 : decode cX12_value 3 = .ok (.getfield 774, 3) := dk_180 (by decide +kernel)
theorem dX12_value_6 : decode cX12_value 6 = .ok (.invokevirtual 944, 3) := dk_182 (by decide +kernel)
theorem dX12_value_9 : decode cX12_value 9 = .ok (.ifCond .ne 5, 3) := dk_154 (by decide +kernel)
theorem dX12_value_12 : decode cX12_value 12 = .ok (.iconst 0, 1) := dk_3 (by decide +kernel)
theorem dX12_value_13 : decode cX12_value 13 = .ok (.ireturn, 1) := dk_172 (by decide +kernel)
theorem dX12_value_14 : decode cX12_value 14 = .ok (.aload_n 0, 1) := dk_42 (by decide +kernel)
theorem dX12_value_15 : decode cX12_value 15 = .ok (.iconst 0, 1) := dk_3 (by decide +kernel)
theorem dX12_value_16 : decode cX12_value 16 = .ok (.putfield 933, 3) := dk_181 (by decide +kernel)
theorem dX12_value_19 : decode cX12_value 19 = .ok (.aload_n 0, 1) := dk_42 (by decide +kernel)
theorem dX12_value_20 : decode cX12_value 20 = .ok (.sipush 1000, 3) := dk_17 (by decide +kernel)
theorem dX12_value_23 : decode cX12_value 23 = .ok (.iload_n 1, 1) := dk_27 (by decide +kernel)
theorem dX12_value_24 : decode cX12_value 24 = .ok (.iadd, 1) := dk_96 (by decide +kernel)
theorem dX12_value_25 : decode cX12_value 25 = .ok (.sipush 1008, 3) := dk_17 (by decide +kernel)
theorem dX12_value_28 : decode cX12_value 28 = .ok (.invokevirtual 947, 3) := dk_182 (by decide +kernel)
theorem dX12_value_31 : decode cX12_value 31 = .ok (.aload_n 0, 1) := dk_42 (by decide +kernel)
theorem dX12_value_32 : decode cX12_value 32 = .ok (.getfield 933, 3) := dk_180 (by decide +kernel)
theorem dX12_value_35 : decode cX12_value 35 = .ok (.ireturn, 1) := dk_172 (by decide +kernel)
def wsRX12_value : List Cond := .code yX12_value cX12_value 2 (some .int) :: ([.fieldLink RX12 774 "OptimaWorksModel" "variables" "I", .fieldLink RX12 933 "OptimaWorksModel" "printed" "I"] ++ wsX120 ++ (wsV RX12 944 RX12 yX12_canTell wsRX12_canTell) ++ (wsV RX12 947 RX12 yX12_sayFraction wsRX12_sayFraction))
theorem iwsRX12_value_in12 : ∀ w ∈ wsX120, w ∈ wsRX12_value := fun _ h => List.mem_cons_of_mem _ (List.mem_append_left _ (List.mem_append_left _ (List.mem_append_right _ h)))
theorem gwsRX12_value_0 : GoodIn wsRX12_value (wsV RX12 944 RX12 yX12_canTell wsRX12_canTell) := goodIn_sub (fun _ h => List.mem_cons_of_mem _ (List.mem_append_left _ (List.mem_append_right _ h))) (gdV (by decide +kernel) gdwsRX12_canTell)
theorem gwsRX12_value_1 : GoodIn wsRX12_value (wsV RX12 947 RX12 yX12_sayFraction wsRX12_sayFraction) := goodIn_sub (fun _ h => List.mem_cons_of_mem _ (List.mem_append_right _ h)) (gdV (by decide +kernel) gdwsRX12_sayFraction)
theorem gdwsRX12_value : wsRX12_value.all goodWord = true := gdC rfl (gdA (gdA (gdA (by decide +kernel : ([.fieldLink RX12 774 "OptimaWorksModel" "variables" "I", .fieldLink RX12 933 "OptimaWorksModel" "printed" "I"] : List Cond).all goodWord = true) gdwsX120) (gdV (by decide +kernel) gdwsRX12_canTell)) (gdV (by decide +kernel) gdwsRX12_sayFraction))
set_option maxHeartbeats 4000000 in
set_option maxRecDepth 100000 in
/-- value(k) -/
theorem r_X12_value (l : Launch) (dC : Nat → ClassId) (dI : Nat → Nat → Nat) (a : Nat → Nat) (k : Nat → ClassId) (h0 : Nat) (vi : Nat → Int32) (vj : Nat → Int64) (vF : Nat → Nat → Int32) (vG : Nat → Nat → Int64) (kI : Int32) (vn : Nat) (gq : Nat) (pn : Nat) (mg : Nat → Int) (hBg : Bg (vF 0) mg) (hpn : vi 125 = nI pn) (hpn2 : pn ≤ 30000) (hvn : vi 90 = nI vn) (hvn8 : vn ≤ 8) (hPp : vi 113 ≠ 0 → AnsP mg 1000 gq) (sz : Nat) : Met l yX12_value wsRX12_value ({ frames := 5, cells := 0, slots := 0, locals := 129 }) (va_Pc [.ref h0, .int kI] (fun U => U.heap.size = sz ∧ va_P (dC, dI) vwCl (WR a k h0 vi vj vF vG) U.heap ∧ va_K (dC, dI) vwCl (tX12 k) U ∧ va_D (fun _ => True) (WR a k h0 vi vj vF vG))) (va_Qi (fun (r : Int32) (u : (Int32) × (Nat → Int32) × (Nat → Int32) × (Nat → Int32) × (Nat → Int64) × (Nat → Int32) × (Nat) × (Nat → Int32) × (Nat → Int)) => (Bg (u.2.1) (u.2.2.2.2.2.2.2.2)) ∧ ((u.2.2.2.2.2.2.1) ≤ 30000) ∧ (∀ q, 1000 ≤ q → (u.2.2.2.2.2.2.2.2) q = mg q)) (fun (u : (Int32) × (Nat → Int32) × (Nat → Int32) × (Nat → Int32) × (Nat → Int64) × (Nat → Int32) × (Nat) × (Nat → Int32) × (Nat → Int)) t => va_P (dC, dI) vwCl (WR a k h0 (fT (fT vi 0 (u.1)) 125 (nI (u.2.2.2.2.2.2.1))) vj (fT (fT (fT (fT (fT vF 0 (u.2.1)) 2 (u.2.2.1)) 3 (u.2.2.2.1)) 75 (u.2.2.2.2.2.2.2.1)) 76 (u.2.2.2.2.2.1)) (fT vG 1 (u.2.2.2.2.1))) t.heap ∧ va_D (va_A (WR a k h0 vi vj vF vG) sz) (WR a k h0 (fT (fT vi 0 (u.1)) 125 (nI (u.2.2.2.2.2.2.1))) vj (fT (fT (fT (fT (fT vF 0 (u.2.1)) 2 (u.2.2.1)) 3 (u.2.2.2.1)) 75 (u.2.2.2.2.2.2.2.1)) 76 (u.2.2.2.2.2.1)) (fT vG 1 (u.2.2.2.2.1)))) (va_A (WR a k h0 vi vj vF vG) sz)) 0 0 (va_A (WR a k h0 vi vj vF vG) sz) := by
  refine Met.ofW (cc := cX12_value) (maxL := 2) (ret := (some .int)) (by decide) rfl ?_
  intro p e s m args below meth c s₁ B hml hv
  obtain ⟨rfl, hsz, hP, hK, hD0⟩ := hv
  have hx := B.exec
  have hb := B.bytes
  have hr := B.returns
  have hts := atoms_spec (ws := wsRX12_value) B.pre
  have hown : s.vm.findClass RX12 = some m.cls := findClass_of_methodNamed B.named
  have hlocks := B.notSynchronized
  subst hsz
  have hD := hD0.self (sz := s.heap.size)
  generalize hAe : va_A (WR a k h0 vi vj vF vG) s.heap.size = A at hD ⊢
  have hA : ∀ q : Nat, s.heap.size ≤ q → A q := fun q h => by rw [← hAe]; exact Or.inr h
  have hS : va_S A s.heap s.heap [] := va_S.rf
  have hl := lv_entry ([.ref h0, .int kI]) (n := 2) (Nat.le_of_ble_eq_true rfl)
  rw [lg_entry_eq]
  generalize (lg_sl ([.ref h0, .int kI]) ++ List.replicate (2 - (lg_sl ([.ref h0, .int kI])).length) Slot.unset).toArray = ls at hl ⊢
  have hl : lv_has ls 2 [(0, .ref h0), (1, .int kI)] := hl
  refine lv_aload_n hx hb dX12_value_0 rfl (lv_at hl 0 rfl) ?_
  refine lv_iload_n hx hb dX12_value_1 rfl (lv_at hl 1 rfl) ?_
  refine lv_aload_n hx hb dX12_value_2 rfl (lv_at hl 0 rfl) ?_
  refine va_get (D := (dC, dI)) (ci := 12) (v := .int (vi 90)) (C := RX12) (T := TX12) (N := 163) (fs := fM (vS a vi vj)) hx hb hts iwsRX12_value_in12 hown hK hP 0 rfl rfl 90 (by decide) (hts (.fieldLink RX12 774 "OptimaWorksModel" "variables" "I") (by decide +kernel)) (fun _ h9 => h9) rfl dX12_value_3 ?_
  refine lv_topi (fun y1 hy1 => ?_)
  obtain rfl : (nI vn) = y1 := (hy1.trans (hvn)).symm
  have hFc := allFree hD hS hA
  refine va_calli (va_runV (As := [.int kI, .int (nI vn)]) (rest := []) ⟨hx, hb, hml, hown, hts⟩ (r_X12_canTell l dC dI a k h0 vi vj vF vG kI (nI vn) s.heap.size) (cwV 2 hts gwsRX12_value_0 rfl rfl rfl hd_yX12_canTell_RX12 (by decide +kernel)) (fz_pre (va_recv hK hP (ci := 12) (q0 := 0) rfl rfl) hP hK hD) rfl rfl hl.1 rfl (lv_room (Nat.le_of_ble_eq_true rfl)) dX12_value_6 (by decide +kernel)) hS (fun q _ h => hFc q h) hFc (fun r6 u t9_ H locs ht hvm hw9 hB9 hz1 hk1 hS => ?_)
  obtain ⟨th6, hwit6⟩ : ∃ w9, w9 = u := ⟨u, rfl⟩
  subst hwit6
  have hP : va_P (dC, dI) vwCl (WR a k h0 (fT vi 0 th6) vj vF vG) H := fz_P ht hB9.1
  have hD : va_D A (WR a k h0 (fT vi 0 th6) vj vF vG) := hB9.2.weaken (fun _ q _ h => hFc q.1 h)
  rcases hw9 with ⟨rfl, f6_0, f6_1, f6_2, rfl⟩ | ⟨rfl, f6_0⟩
  · have f6_0 : (vi 95) ≠ 0 := f6_0
    have f6_1 : (vi 113) ≠ 0 := f6_1
    refine lv_if_ne (tgt := 14) hx hb dX12_value_9 (by decide) (fun _ => ?_) (fun c9 => absurd c9 (by decide))
    have evn : (nI vn).toInt = (vn : Int) := nI_toInt (by omega)
    obtain ⟨kn, h_kn, rfl⟩ := of_toInt (x := kI) (k := 8) (by omega) (by omega)
    have e_kn : (nI kn).toInt = (kn : Int) := nI_toInt (by omega)
    refine lv_aload_n hx hb dX12_value_14 rfl (lv_at hl 0 rfl) ?_
    refine lv_iconst (v := 0) hx hb dX12_value_15 (by decide) ?_
    refine va_put (D := (dC, dI)) (ci := 12) (v := .int 0) (ty := .int) (C := RX12) (T := TX12) (N := 163) (fs := fM (vS a (fT vi 0 0) vj)) hx hb hts iwsRX12_value_in12 tyX12 tyX12_ok nmX12 hown hK hP hD hS 0 rfl rfl 125 (by decide) (hts (.fieldLink RX12 933 "OptimaWorksModel" "printed" "I") (by decide +kernel)) (fun _ h9 => h9) rfl (by decide +kernel) rfl rfl (Nat.le_of_ble_eq_true rfl) dX12_value_16 (fun H locs hP hD hS => ?_)
    have hP : va_P (dC, dI) vwCl (WR a k h0 (fT (fT vi 0 0) 125 0) vj vF vG) H := by rw [← WR_i 125 _ rfl]; exact hP
    have hD : va_D A (WR a k h0 (fT (fT vi 0 0) 125 0) vj vF vG) := by rw [← WR_i 125 _ rfl]; exact hD
    refine lv_aload_n hx hb dX12_value_19 rfl (lv_at hl 0 rfl) ?_
    refine lv_sipush (v := 1000) hx hb dX12_value_20 (by decide) ?_
    refine lv_iload_n hx hb dX12_value_23 rfl (lv_at hl 1 rfl) ?_
    refine lv_iadd hx hb dX12_value_24 ?_
    refine lv_topi (fun y2 hy2 => ?_)
    obtain rfl : (nI (1000 + kn)) = y2 := (hy2.trans (nI_add 1000 kn)).symm
    refine lv_sipush (v := 1008) hx hb dX12_value_25 (by decide) ?_
    have hFc := allFree hD hS hA
    refine va_callv (va_runV (As := [.int (nI (1000 + kn)), .int 1008]) (rest := []) ⟨hx, hb, hml, hown, hts⟩ (r_X12_sayFraction l dC dI a k h0 (fT (fT vi 0 0) 125 0) vj vF vG (1000 + kn) 1008 0 mg hBg (show (0 : Int32) = nI 0 from by decide) (by first | assumption | decide | omega | rfl) (by first | assumption | decide | omega | rfl) (by first | assumption | decide | omega | rfl) (by (have h9 := (hPp f6_1).1); show mg 1008 ≠ 0; (have h8 : 0 < mg 1008 := h9); omega) H.size) (cwV 2 hts gwsRX12_value_1 rfl rfl rfl hd_yX12_sayFraction_RX12 (by decide +kernel)) (fz_pre (va_recv hK hP (ci := 12) (q0 := 0) rfl rfl) hP hK hD) rfl rfl hl.1 rfl (lv_room (Nat.le_of_ble_eq_true rfl)) dX12_value_28 (by decide +kernel)) hS (fun q _ h => hFc q h) hFc (fun u t9_ H locs ht hvm hw9 hB9 hz1 hk1 hS => ?_)
    obtain ⟨g28, f2w28, f3w28, gs28, f7628, p228, f7528, m228⟩ := u
    try dsimp only at hw9 hB9
    have hP : va_P (dC, dI) vwCl (WR a k h0 (fT (fT (fT vi 0 0) 125 0) 125 (nI p228)) vj (fT (fT (fT (fT (fT vF 0 g28) 2 f2w28) 3 f3w28) 75 f7528) 76 f7628) (fT vG 1 gs28)) H := fz_P ht hB9.1
    have hD : va_D A (WR a k h0 (fT (fT (fT vi 0 0) 125 0) 125 (nI p228)) vj (fT (fT (fT (fT (fT vF 0 g28) 2 f2w28) 3 f3w28) 75 f7528) 76 f7628) (fT vG 1 gs28)) := hB9.2.weaken (fun _ q _ h => hFc q.1 h)
    have e9 : fT (fT vi 0 0) 125 (nI p228) = fT (fT (fT vi 0 0) 125 0) 125 (nI p228) := (fT_sm _ _ _ _).symm
    rw [← e9] at hP hD
    clear e9
    have hP : va_P (dC, dI) vwCl (WR a k h0 (fT (fT vi 0 0) 125 (nI p228)) vj (fT (fT (fT (fT (fT vF 0 g28) 2 f2w28) 3 f3w28) 75 f7528) 76 f7628) (fT vG 1 gs28)) H := hP
    have hD : va_D A (WR a k h0 (fT (fT vi 0 0) 125 (nI p228)) vj (fT (fT (fT (fT (fT vF 0 g28) 2 f2w28) 3 f3w28) 75 f7528) 76 f7628) (fT vG 1 gs28)) := hD
    obtain ⟨f28_0, f28_1, f28_2⟩ := hw9
    refine lv_aload_n hx hb dX12_value_31 rfl (lv_at hl 0 rfl) ?_
    refine va_get (D := (dC, dI)) (ci := 12) (v := .int (nI p228)) (C := RX12) (T := TX12) (N := 163) (fs := fM (vS a (fT (fT vi 0 0) 125 (nI p228)) vj)) hx hb hts iwsRX12_value_in12 hown hK hP 0 rfl rfl 125 (by decide) (hts (.fieldLink RX12 933 "OptimaWorksModel" "printed" "I") (by decide +kernel)) (fun _ h9 => h9) rfl dX12_value_32 ?_
    refine W.widen (k := 0) (n := 0) (by decide +kernel) (by decide +kernel) ?_
    exact W.iret (v := (nI p228)) hx hb hr (fun t9_ ht hW => ⟨⟨(nI p228), (0, g28, f2w28, f3w28, gs28, f7628, p228, f7528, m228), rfl, by (try dsimp only); exact ⟨f28_0, by first | assumption | omega, fun q hq => by (rw [f28_2 _ (by omega)])⟩, by rw [ht]; exact hP, hD⟩, hS.F ht⟩) hS.2.2 dX12_value_35
  · refine lv_if_ne (tgt := 14) hx hb dX12_value_9 (by decide) (fun c9 => absurd c9 (by decide)) (fun _ => ?_)
    refine lv_iconst (v := 0) hx hb dX12_value_12 (by decide) ?_
    refine W.widen (k := 0) (n := 0) (by decide +kernel) (by decide +kernel) ?_
    have e9 : fT (fT vi 0 th6) 125 (nI pn) = fT vi 0 th6 := by funext q9; by_cases h9_0 : q9 = 0; (subst h9_0; exact ((fT_ne _ _ (Nat.ne_of_beq_eq_false rfl)).trans (fT_eq _ _ _)).trans (Eq.trans (by first | rfl | assumption | (symm; assumption) | (subst_vars; rfl)) (fT_eq _ _ _).symm)); by_cases h9_125 : q9 = 125; (subst h9_125; exact (fT_eq _ _ _).trans (Eq.trans (by first | rfl | assumption | (symm; assumption) | (subst_vars; rfl)) (fT_ne _ _ (Nat.ne_of_beq_eq_false rfl)).symm)); exact ((fT_ne _ _ h9_125).trans (fT_ne _ _ h9_0)).trans (fT_ne _ _ h9_0).symm
    have hP : va_P (dC, dI) vwCl (WR a k h0 (fT (fT vi 0 th6) 125 (nI pn)) vj vF vG) H := by rw [e9]; exact hP
    have hD : va_D A (WR a k h0 (fT (fT vi 0 th6) 125 (nI pn)) vj vF vG) := by rw [e9]; exact hD
    clear e9
    have e9 : fT (fT (fT (fT (fT vF 0 (vF 0)) 2 (vF 2)) 3 (vF 3)) 75 (vF 75)) 76 (vF 76) = vF := (fT_id _ _ ((fT_ne _ _ (Nat.ne_of_beq_eq_false rfl)).trans ((fT_ne _ _ (Nat.ne_of_beq_eq_false rfl)).trans ((fT_ne _ _ (Nat.ne_of_beq_eq_false rfl)).trans (fT_ne _ _ (Nat.ne_of_beq_eq_false rfl)))))).trans ((fT_id _ _ ((fT_ne _ _ (Nat.ne_of_beq_eq_false rfl)).trans ((fT_ne _ _ (Nat.ne_of_beq_eq_false rfl)).trans (fT_ne _ _ (Nat.ne_of_beq_eq_false rfl))))).trans ((fT_id _ _ ((fT_ne _ _ (Nat.ne_of_beq_eq_false rfl)).trans (fT_ne _ _ (Nat.ne_of_beq_eq_false rfl)))).trans ((fT_id _ _ (fT_ne _ _ (Nat.ne_of_beq_eq_false rfl))).trans (fT_id _ _ (rfl)))))
    have hP : va_P (dC, dI) vwCl (WR a k h0 (fT (fT vi 0 th6) 125 (nI pn)) vj (fT (fT (fT (fT (fT vF 0 (vF 0)) 2 (vF 2)) 3 (vF 3)) 75 (vF 75)) 76 (vF 76)) vG) H := by rw [e9]; exact hP
    have hD : va_D A (WR a k h0 (fT (fT vi 0 th6) 125 (nI pn)) vj (fT (fT (fT (fT (fT vF 0 (vF 0)) 2 (vF 2)) 3 (vF 3)) 75 (vF 75)) 76 (vF 76)) vG) := by rw [e9]; exact hD
    clear e9
    have e9 : fT vG 1 (vG 1) = vG := fT_id _ _ (rfl)
    have hP : va_P (dC, dI) vwCl (WR a k h0 (fT (fT vi 0 th6) 125 (nI pn)) vj (fT (fT (fT (fT (fT vF 0 (vF 0)) 2 (vF 2)) 3 (vF 3)) 75 (vF 75)) 76 (vF 76)) (fT vG 1 (vG 1))) H := by rw [e9]; exact hP
    have hD : va_D A (WR a k h0 (fT (fT vi 0 th6) 125 (nI pn)) vj (fT (fT (fT (fT (fT vF 0 (vF 0)) 2 (vF 2)) 3 (vF 3)) 75 (vF 75)) 76 (vF 76)) (fT vG 1 (vG 1))) := by rw [e9]; exact hD
    clear e9
    exact W.iret (v := 0) hx hb hr (fun t9_ ht hW => ⟨⟨0, (th6, (vF 0), (vF 2), (vF 3), (vG 1), (vF 76), pn, (vF 75), mg), rfl, by (try dsimp only); exact ⟨hBg, by first | assumption | omega, fun q _ => rfl⟩, by rw [ht]; exact hP, hD⟩, hS.F ht⟩) hS.2.2 dX12_value_13
theorem dX12_best_0 : decode cX12_best 0 = .ok (.aload_n 0, 1) := dk_42 (by decide +kernel)
theorem dX12_best_1 : decode cX12_best 1 = .ok (.iload_n 1, 1) := dk_27 (by decide +kernel)
theorem dX12_best_2 : decode cX12_best 2 = .ok (.aload_n 0, 1) := dk_42 (by decide +kernel)
theorem dX12_best_3 : decode cX12_best 3 = .ok (.getfield 805, 3) := dk_180 (by decide +kernel)
theorem dX12_best_6 : decode cX12_best 6 = .ok (.invokevirtual 944, 3) := dk_182 (by decide +kernel)
theorem dX12_best_9 : decode cX12_best 9 = .ok (.ifCond .ne 5, 3) := dk_154 (by decide +kernel)
theorem dX12_best_12 : decode cX12_best 12 = .ok (.iconst 0, 1) := dk_3 (by decide +kernel)
theorem dX12_best_13 : decode cX12_best 13 = .ok (.ireturn, 1) := dk_172 (by decide +kernel)
theorem dX12_best_14 : decode cX12_best 14 = .ok (.aload_n 0, 1) := dk_42 (by decide +kernel)
theorem dX12_best_15 : decode cX12_best 15 = .ok (.iconst 0, 1) := dk_3 (by decide +kernel)
theorem dX12_best_16 : decode cX12_best 16 = .ok (.putfield 933, 3) := dk_181 (by decide +kernel)
theorem dX12_best_19 : decode cX12_best 19 = .ok (.aload_n 0, 1) := dk_42 (by decide +kernel)
theorem dX12_best_20 : decode cX12_best 20 = .ok (.sipush 1010, 3) := dk_17 (by decide +kernel)
theorem dX12_best_23 : decode cX12_best 23 = .ok (.iload_n 1, 1) := dk_27 (by decide +kernel)
theorem dX12_best_24 : decode cX12_best 24 = .ok (.iadd, 1) := dk_96 (by decide +kernel)
theorem dX12_best_25 : decode cX12_best 25 = .ok (.sipush 1013, 3) := dk_17 (by decide +kernel)
theorem dX12_best_28 : decode cX12_best 28 = .ok (.iload_n 1, 1) := dk_27 (by decide +kernel)
theorem dX12_best_29 : decode cX12_best 29 = .ok (.iadd, 1) := dk_96 (by decide +kernel)
theorem dX12_best_30 : decode cX12_best 30 = .ok (.invokevirtual 947, 3) := dk_182 (by decide +kernel)
theorem dX12_best_33 : decode cX12_best 33 = .ok (.aload_n 0, 1) := dk_42 (by decide +kernel)
theorem dX12_best_34 : decode cX12_best 34 = .ok (.getfield 933, 3) := dk_180 (by decide +kernel)
theorem dX12_best_37 : decode cX12_best 37 = .ok (.ireturn, 1) := dk_172 (by decide +kernel)
def wsRX12_best : List Cond := .code yX12_best cX12_best 2 (some .int) :: ([.fieldLink RX12 805 "OptimaWorksModel" "modelGoals" "I", .fieldLink RX12 933 "OptimaWorksModel" "printed" "I"] ++ wsX120 ++ (wsV RX12 944 RX12 yX12_canTell wsRX12_canTell) ++ (wsV RX12 947 RX12 yX12_sayFraction wsRX12_sayFraction))
theorem iwsRX12_best_in12 : ∀ w ∈ wsX120, w ∈ wsRX12_best := fun _ h => List.mem_cons_of_mem _ (List.mem_append_left _ (List.mem_append_left _ (List.mem_append_right _ h)))
theorem gwsRX12_best_0 : GoodIn wsRX12_best (wsV RX12 944 RX12 yX12_canTell wsRX12_canTell) := goodIn_sub (fun _ h => List.mem_cons_of_mem _ (List.mem_append_left _ (List.mem_append_right _ h))) (gdV (by decide +kernel) gdwsRX12_canTell)
theorem gwsRX12_best_1 : GoodIn wsRX12_best (wsV RX12 947 RX12 yX12_sayFraction wsRX12_sayFraction) := goodIn_sub (fun _ h => List.mem_cons_of_mem _ (List.mem_append_right _ h)) (gdV (by decide +kernel) gdwsRX12_sayFraction)
theorem gdwsRX12_best : wsRX12_best.all goodWord = true := gdC rfl (gdA (gdA (gdA (by decide +kernel : ([.fieldLink RX12 805 "OptimaWorksModel" "modelGoals" "I", .fieldLink RX12 933 "OptimaWorksModel" "printed" "I"] : List Cond).all goodWord = true) gdwsX120) (gdV (by decide +kernel) gdwsRX12_canTell)) (gdV (by decide +kernel) gdwsRX12_sayFraction))
set_option maxHeartbeats 4000000 in
set_option maxRecDepth 100000 in
/-- best(g) -/
theorem r_X12_best (l : Launch) (dC : Nat → ClassId) (dI : Nat → Nat → Nat) (a : Nat → Nat) (k : Nat → ClassId) (h0 : Nat) (vi : Nat → Int32) (vj : Nat → Int64) (vF : Nat → Nat → Int32) (vG : Nat → Nat → Int64) (kI : Int32) (gq : Nat) (pn : Nat) (mg : Nat → Int) (hBg : Bg (vF 0) mg) (hpn : vi 125 = nI pn) (hpn2 : pn ≤ 30000) (hmg : vi 93 = nI gq) (hgq : gq ≤ 3) (hPp : vi 113 ≠ 0 → AnsP mg 1000 gq) (sz : Nat) : Met l yX12_best wsRX12_best ({ frames := 5, cells := 0, slots := 0, locals := 129 }) (va_Pc [.ref h0, .int kI] (fun U => U.heap.size = sz ∧ va_P (dC, dI) vwCl (WR a k h0 vi vj vF vG) U.heap ∧ va_K (dC, dI) vwCl (tX12 k) U ∧ va_D (fun _ => True) (WR a k h0 vi vj vF vG))) (va_Qi (fun (r : Int32) (u : (Int32) × (Nat → Int32) × (Nat → Int32) × (Nat → Int32) × (Nat → Int64) × (Nat → Int32) × (Nat) × (Nat → Int32) × (Nat → Int)) => (Bg (u.2.1) (u.2.2.2.2.2.2.2.2)) ∧ ((u.2.2.2.2.2.2.1) ≤ 30000) ∧ (∀ q, 1000 ≤ q → (u.2.2.2.2.2.2.2.2) q = mg q)) (fun (u : (Int32) × (Nat → Int32) × (Nat → Int32) × (Nat → Int32) × (Nat → Int64) × (Nat → Int32) × (Nat) × (Nat → Int32) × (Nat → Int)) t => va_P (dC, dI) vwCl (WR a k h0 (fT (fT vi 0 (u.1)) 125 (nI (u.2.2.2.2.2.2.1))) vj (fT (fT (fT (fT (fT vF 0 (u.2.1)) 2 (u.2.2.1)) 3 (u.2.2.2.1)) 75 (u.2.2.2.2.2.2.2.1)) 76 (u.2.2.2.2.2.1)) (fT vG 1 (u.2.2.2.2.1))) t.heap ∧ va_D (va_A (WR a k h0 vi vj vF vG) sz) (WR a k h0 (fT (fT vi 0 (u.1)) 125 (nI (u.2.2.2.2.2.2.1))) vj (fT (fT (fT (fT (fT vF 0 (u.2.1)) 2 (u.2.2.1)) 3 (u.2.2.2.1)) 75 (u.2.2.2.2.2.2.2.1)) 76 (u.2.2.2.2.2.1)) (fT vG 1 (u.2.2.2.2.1)))) (va_A (WR a k h0 vi vj vF vG) sz)) 0 0 (va_A (WR a k h0 vi vj vF vG) sz) := by
  refine Met.ofW (cc := cX12_best) (maxL := 2) (ret := (some .int)) (by decide) rfl ?_
  intro p e s m args below meth c s₁ B hml hv
  obtain ⟨rfl, hsz, hP, hK, hD0⟩ := hv
  have hx := B.exec
  have hb := B.bytes
  have hr := B.returns
  have hts := atoms_spec (ws := wsRX12_best) B.pre
  have hown : s.vm.findClass RX12 = some m.cls := findClass_of_methodNamed B.named
  have hlocks := B.notSynchronized
  subst hsz
  have hD := hD0.self (sz := s.heap.size)
  generalize hAe : va_A (WR a k h0 vi vj vF vG) s.heap.size = A at hD ⊢
  have hA : ∀ q : Nat, s.heap.size ≤ q → A q := fun q h => by rw [← hAe]; exact Or.inr h
  have hS : va_S A s.heap s.heap [] := va_S.rf
  have hl := lv_entry ([.ref h0, .int kI]) (n := 2) (Nat.le_of_ble_eq_true rfl)
  rw [lg_entry_eq]
  generalize (lg_sl ([.ref h0, .int kI]) ++ List.replicate (2 - (lg_sl ([.ref h0, .int kI])).length) Slot.unset).toArray = ls at hl ⊢
  have hl : lv_has ls 2 [(0, .ref h0), (1, .int kI)] := hl
  refine lv_aload_n hx hb dX12_best_0 rfl (lv_at hl 0 rfl) ?_
  refine lv_iload_n hx hb dX12_best_1 rfl (lv_at hl 1 rfl) ?_
  refine lv_aload_n hx hb dX12_best_2 rfl (lv_at hl 0 rfl) ?_
  refine va_get (D := (dC, dI)) (ci := 12) (v := .int (vi 93)) (C := RX12) (T := TX12) (N := 163) (fs := fM (vS a vi vj)) hx hb hts iwsRX12_best_in12 hown hK hP 0 rfl rfl 93 (by decide) (hts (.fieldLink RX12 805 "OptimaWorksModel" "modelGoals" "I") (by decide +kernel)) (fun _ h9 => h9) rfl dX12_best_3 ?_
  refine lv_topi (fun y1 hy1 => ?_)
  obtain rfl : (nI gq) = y1 := (hy1.trans (hmg)).symm
  have hFc := allFree hD hS hA
  refine va_calli (va_runV (As := [.int kI, .int (nI gq)]) (rest := []) ⟨hx, hb, hml, hown, hts⟩ (r_X12_canTell l dC dI a k h0 vi vj vF vG kI (nI gq) s.heap.size) (cwV 2 hts gwsRX12_best_0 rfl rfl rfl hd_yX12_canTell_RX12 (by decide +kernel)) (fz_pre (va_recv hK hP (ci := 12) (q0 := 0) rfl rfl) hP hK hD) rfl rfl hl.1 rfl (lv_room (Nat.le_of_ble_eq_true rfl)) dX12_best_6 (by decide +kernel)) hS (fun q _ h => hFc q h) hFc (fun r6 u t9_ H locs ht hvm hw9 hB9 hz1 hk1 hS => ?_)
  obtain ⟨th6, hwit6⟩ : ∃ w9, w9 = u := ⟨u, rfl⟩
  subst hwit6
  have hP : va_P (dC, dI) vwCl (WR a k h0 (fT vi 0 th6) vj vF vG) H := fz_P ht hB9.1
  have hD : va_D A (WR a k h0 (fT vi 0 th6) vj vF vG) := hB9.2.weaken (fun _ q _ h => hFc q.1 h)
  rcases hw9 with ⟨rfl, f6_0, f6_1, f6_2, rfl⟩ | ⟨rfl, f6_0⟩
  · have f6_0 : (vi 95) ≠ 0 := f6_0
    have f6_1 : (vi 113) ≠ 0 := f6_1
    refine lv_if_ne (tgt := 14) hx hb dX12_best_9 (by decide) (fun _ => ?_) (fun c9 => absurd c9 (by decide))
    have evn : (nI gq).toInt = (gq : Int) := nI_toInt (by omega)
    obtain ⟨kn, h_kn, rfl⟩ := of_toInt (x := kI) (k := 3) (by omega) (by omega)
    have e_kn : (nI kn).toInt = (kn : Int) := nI_toInt (by omega)
    refine lv_aload_n hx hb dX12_best_14 rfl (lv_at hl 0 rfl) ?_
    refine lv_iconst (v := 0) hx hb dX12_best_15 (by decide) ?_
    refine va_put (D := (dC, dI)) (ci := 12) (v := .int 0) (ty := .int) (C := RX12) (T := TX12) (N := 163) (fs := fM (vS a (fT vi 0 0) vj)) hx hb hts iwsRX12_best_in12 tyX12 tyX12_ok nmX12 hown hK hP hD hS 0 rfl rfl 125 (by decide) (hts (.fieldLink RX12 933 "OptimaWorksModel" "printed" "I") (by decide +kernel)) (fun _ h9 => h9) rfl (by decide +kernel) rfl rfl (Nat.le_of_ble_eq_true rfl) dX12_best_16 (fun H locs hP hD hS => ?_)
    have hP : va_P (dC, dI) vwCl (WR a k h0 (fT (fT vi 0 0) 125 0) vj vF vG) H := by rw [← WR_i 125 _ rfl]; exact hP
    have hD : va_D A (WR a k h0 (fT (fT vi 0 0) 125 0) vj vF vG) := by rw [← WR_i 125 _ rfl]; exact hD
    refine lv_aload_n hx hb dX12_best_19 rfl (lv_at hl 0 rfl) ?_
    refine lv_sipush (v := 1010) hx hb dX12_best_20 (by decide) ?_
    refine lv_iload_n hx hb dX12_best_23 rfl (lv_at hl 1 rfl) ?_
    refine lv_iadd hx hb dX12_best_24 ?_
    refine lv_topi (fun y2 hy2 => ?_)
    obtain rfl : (nI (1010 + kn)) = y2 := (hy2.trans (nI_add 1010 kn)).symm
    refine lv_sipush (v := 1013) hx hb dX12_best_25 (by decide) ?_
    refine lv_iload_n hx hb dX12_best_28 rfl (lv_at hl 1 rfl) ?_
    refine lv_iadd hx hb dX12_best_29 ?_
    refine lv_topi (fun y3 hy3 => ?_)
    obtain rfl : (nI (1013 + kn)) = y3 := (hy3.trans (nI_add 1013 kn)).symm
    have hFc := allFree hD hS hA
    refine va_callv (va_runV (As := [.int (nI (1010 + kn)), .int (nI (1013 + kn))]) (rest := []) ⟨hx, hb, hml, hown, hts⟩ (r_X12_sayFraction l dC dI a k h0 (fT (fT vi 0 0) 125 0) vj vF vG (1010 + kn) (1013 + kn) 0 mg hBg (show (0 : Int32) = nI 0 from by decide) (by first | assumption | decide | omega | rfl) (by first | assumption | decide | omega | rfl) (by first | assumption | decide | omega | rfl) (by (have h9 := (hPp f6_1).2 kn (by omega)); (have h8 : 0 < mg (1013 + kn) := h9); omega) H.size) (cwV 2 hts gwsRX12_best_1 rfl rfl rfl hd_yX12_sayFraction_RX12 (by decide +kernel)) (fz_pre (va_recv hK hP (ci := 12) (q0 := 0) rfl rfl) hP hK hD) rfl rfl hl.1 rfl (lv_room (Nat.le_of_ble_eq_true rfl)) dX12_best_30 (by decide +kernel)) hS (fun q _ h => hFc q h) hFc (fun u t9_ H locs ht hvm hw9 hB9 hz1 hk1 hS => ?_)
    obtain ⟨g30, f2w30, f3w30, gs30, f7630, p230, f7530, m230⟩ := u
    try dsimp only at hw9 hB9
    have hP : va_P (dC, dI) vwCl (WR a k h0 (fT (fT (fT vi 0 0) 125 0) 125 (nI p230)) vj (fT (fT (fT (fT (fT vF 0 g30) 2 f2w30) 3 f3w30) 75 f7530) 76 f7630) (fT vG 1 gs30)) H := fz_P ht hB9.1
    have hD : va_D A (WR a k h0 (fT (fT (fT vi 0 0) 125 0) 125 (nI p230)) vj (fT (fT (fT (fT (fT vF 0 g30) 2 f2w30) 3 f3w30) 75 f7530) 76 f7630) (fT vG 1 gs30)) := hB9.2.weaken (fun _ q _ h => hFc q.1 h)
    have e9 : fT (fT vi 0 0) 125 (nI p230) = fT (fT (fT vi 0 0) 125 0) 125 (nI p230) := (fT_sm _ _ _ _).symm
    rw [← e9] at hP hD
    clear e9
    have hP : va_P (dC, dI) vwCl (WR a k h0 (fT (fT vi 0 0) 125 (nI p230)) vj (fT (fT (fT (fT (fT vF 0 g30) 2 f2w30) 3 f3w30) 75 f7530) 76 f7630) (fT vG 1 gs30)) H := hP
    have hD : va_D A (WR a k h0 (fT (fT vi 0 0) 125 (nI p230)) vj (fT (fT (fT (fT (fT vF 0 g30) 2 f2w30) 3 f3w30) 75 f7530) 76 f7630) (fT vG 1 gs30)) := hD
    obtain ⟨f30_0, f30_1, f30_2⟩ := hw9
    refine lv_aload_n hx hb dX12_best_33 rfl (lv_at hl 0 rfl) ?_
    refine va_get (D := (dC, dI)) (ci := 12) (v := .int (nI p230)) (C := RX12) (T := TX12) (N := 163) (fs := fM (vS a (fT (fT vi 0 0) 125 (nI p230)) vj)) hx hb hts iwsRX12_best_in12 hown hK hP 0 rfl rfl 125 (by decide) (hts (.fieldLink RX12 933 "OptimaWorksModel" "printed" "I") (by decide +kernel)) (fun _ h9 => h9) rfl dX12_best_34 ?_
    refine W.widen (k := 0) (n := 0) (by decide +kernel) (by decide +kernel) ?_
    exact W.iret (v := (nI p230)) hx hb hr (fun t9_ ht hW => ⟨⟨(nI p230), (0, g30, f2w30, f3w30, gs30, f7630, p230, f7530, m230), rfl, by (try dsimp only); exact ⟨f30_0, by first | assumption | omega, fun q hq => by (rw [f30_2 _ (by omega)])⟩, by rw [ht]; exact hP, hD⟩, hS.F ht⟩) hS.2.2 dX12_best_37
  · refine lv_if_ne (tgt := 14) hx hb dX12_best_9 (by decide) (fun c9 => absurd c9 (by decide)) (fun _ => ?_)
    refine lv_iconst (v := 0) hx hb dX12_best_12 (by decide) ?_
    refine W.widen (k := 0) (n := 0) (by decide +kernel) (by decide +kernel) ?_
    have e9 : fT (fT vi 0 th6) 125 (nI pn) = fT vi 0 th6 := by funext q9; by_cases h9_0 : q9 = 0; (subst h9_0; exact ((fT_ne _ _ (Nat.ne_of_beq_eq_false rfl)).trans (fT_eq _ _ _)).trans (Eq.trans (by first | rfl | assumption | (symm; assumption) | (subst_vars; rfl)) (fT_eq _ _ _).symm)); by_cases h9_125 : q9 = 125; (subst h9_125; exact (fT_eq _ _ _).trans (Eq.trans (by first | rfl | assumption | (symm; assumption) | (subst_vars; rfl)) (fT_ne _ _ (Nat.ne_of_beq_eq_false rfl)).symm)); exact ((fT_ne _ _ h9_125).trans (fT_ne _ _ h9_0)).trans (fT_ne _ _ h9_0).symm
    have hP : va_P (dC, dI) vwCl (WR a k h0 (fT (fT vi 0 th6) 125 (nI pn)) vj vF vG) H := by rw [e9]; exact hP
    have hD : va_D A (WR a k h0 (fT (fT vi 0 th6) 125 (nI pn)) vj vF vG) := by rw [e9]; exact hD
    clear e9
    have e9 : fT (fT (fT (fT (fT vF 0 (vF 0)) 2 (vF 2)) 3 (vF 3)) 75 (vF 75)) 76 (vF 76) = vF := (fT_id _ _ ((fT_ne _ _ (Nat.ne_of_beq_eq_false rfl)).trans ((fT_ne _ _ (Nat.ne_of_beq_eq_false rfl)).trans ((fT_ne _ _ (Nat.ne_of_beq_eq_false rfl)).trans (fT_ne _ _ (Nat.ne_of_beq_eq_false rfl)))))).trans ((fT_id _ _ ((fT_ne _ _ (Nat.ne_of_beq_eq_false rfl)).trans ((fT_ne _ _ (Nat.ne_of_beq_eq_false rfl)).trans (fT_ne _ _ (Nat.ne_of_beq_eq_false rfl))))).trans ((fT_id _ _ ((fT_ne _ _ (Nat.ne_of_beq_eq_false rfl)).trans (fT_ne _ _ (Nat.ne_of_beq_eq_false rfl)))).trans ((fT_id _ _ (fT_ne _ _ (Nat.ne_of_beq_eq_false rfl))).trans (fT_id _ _ (rfl)))))
    have hP : va_P (dC, dI) vwCl (WR a k h0 (fT (fT vi 0 th6) 125 (nI pn)) vj (fT (fT (fT (fT (fT vF 0 (vF 0)) 2 (vF 2)) 3 (vF 3)) 75 (vF 75)) 76 (vF 76)) vG) H := by rw [e9]; exact hP
    have hD : va_D A (WR a k h0 (fT (fT vi 0 th6) 125 (nI pn)) vj (fT (fT (fT (fT (fT vF 0 (vF 0)) 2 (vF 2)) 3 (vF 3)) 75 (vF 75)) 76 (vF 76)) vG) := by rw [e9]; exact hD
    clear e9
    have e9 : fT vG 1 (vG 1) = vG := fT_id _ _ (rfl)
    have hP : va_P (dC, dI) vwCl (WR a k h0 (fT (fT vi 0 th6) 125 (nI pn)) vj (fT (fT (fT (fT (fT vF 0 (vF 0)) 2 (vF 2)) 3 (vF 3)) 75 (vF 75)) 76 (vF 76)) (fT vG 1 (vG 1))) H := by rw [e9]; exact hP
    have hD : va_D A (WR a k h0 (fT (fT vi 0 th6) 125 (nI pn)) vj (fT (fT (fT (fT (fT vF 0 (vF 0)) 2 (vF 2)) 3 (vF 3)) 75 (vF 75)) 76 (vF 76)) (fT vG 1 (vG 1))) := by rw [e9]; exact hD
    clear e9
    exact W.iret (v := 0) hx hb hr (fun t9_ ht hW => ⟨⟨0, (th6, (vF 0), (vF 2), (vF 3), (vG 1), (vF 76), pn, (vF 75), mg), rfl, by (try dsimp only); exact ⟨hBg, by first | assumption | omega, fun q _ => rfl⟩, by rw [ht]; exact hP, hD⟩, hS.F ht⟩) hS.2.2 dX12_best_13
theorem dX12_multiplier_0 : decode cX12_multiplier 0 = .ok (.aload_n 0, 1) := dk_42 (by decide +kernel)
theorem dX12_multiplier_1 : decode cX12_multiplier 1 = .ok (.aload_n 0, 1) := dk_42 (by decide +kernel)
theorem dX12_multiplier_2 : decode cX12_multiplier 2 = .ok (.getfield 814, 3) := dk_180 (by decide +kernel)
theorem dX12_multiplier_5 : decode cX12_multiplier 5 = .ok (.ifCond .ne 7, 3) := dk_154 (by decide +kernel)
theorem dX12_multiplier_8 : decode cX12_multiplier 8 = .ok (.iconst 1, 1) := dk_4 (by decide +kernel)
theorem dX12_multiplier_9 : decode cX12_multiplier 9 = .ok (.goto 25, 3) := dk_167 (by decide +kernel)
theorem dX12_multiplier_12 : decode cX12_multiplier 12 = .ok (.iload_n 1, 1) := dk_27 (by decide +kernel)
theorem dX12_multiplier_13 : decode cX12_multiplier 13 = .ok (.iconst (-1), 1) := dk_2 (by decide +kernel)
theorem dX12_multiplier_14 : decode cX12_multiplier 14 = .ok (.if_icmp .eq 19, 3) := dk_159 (by decide +kernel)
theorem dX12_multiplier_17 : decode cX12_multiplier 17 = .ok (.iload_n 1, 1) := dk_27 (by decide +kernel)
theorem dX12_multiplier_18 : decode cX12_multiplier 18 = .ok (.ifCond .lt 11, 3) := dk_155 (by decide +kernel)
theorem dX12_multiplier_21 : decode cX12_multiplier 21 = .ok (.iload_n 1, 1) := dk_27 (by decide +kernel)
theorem dX12_multiplier_22 : decode cX12_multiplier 22 = .ok (.aload_n 0, 1) := dk_42 (by decide +kernel)
theorem dX12_multiplier_23 : decode cX12_multiplier 23 = .ok (.getfield 894, 3) := dk_180 (by decide +kernel)
theorem dX12_multiplier_26 : decode cX12_multiplier 26 = .ok (.if_icmp .lt 7, 3) := dk_161 (by decide +kernel)
theorem dX12_multiplier_29 : decode cX12_multiplier 29 = .ok (.iconst 2, 1) := dk_5 (by decide +kernel)
theorem dX12_multiplier_30 : decode cX12_multiplier 30 = .ok (.goto 4, 3) := dk_167 (by decide +kernel)
theorem dX12_multiplier_33 : decode cX12_multiplier 33 = .ok (.iconst 0, 1) := dk_3 (by decide +kernel)
theorem dX12_multiplier_34 : decode cX12_multiplier 34 = .ok (.putfield 348, 3) := dk_181 (by decide +kernel)
theorem dX12_multiplier_37 : decode cX12_multiplier 37 = .ok (.aload_n 0, 1) := dk_42 (by decide +kernel)
theorem dX12_multiplier_38 : decode cX12_multiplier 38 = .ok (.getfield 348, 3) := dk_180 (by decide +kernel)
theorem dX12_multiplier_41 : decode cX12_multiplier 41 = .ok (.ifCond .le 5, 3) := dk_158 (by decide +kernel)
theorem dX12_multiplier_44 : decode cX12_multiplier 44 = .ok (.iconst 0, 1) := dk_3 (by decide +kernel)
theorem dX12_multiplier_45 : decode cX12_multiplier 45 = .ok (.ireturn, 1) := dk_172 (by decide +kernel)
theorem dX12_multiplier_46 : decode cX12_multiplier 46 = .ok (.aload_n 0, 1) := dk_42 (by decide +kernel)
theorem dX12_multiplier_47 : decode cX12_multiplier 47 = .ok (.iconst 0, 1) := dk_3 (by decide +kernel)
theorem dX12_multiplier_48 : decode cX12_multiplier 48 = .ok (.putfield 933, 3) := dk_181 (by decide +kernel)
theorem dX12_multiplier_51 : decode cX12_multiplier 51 = .ok (.iload_n 1, 1) := dk_27 (by decide +kernel)
theorem dX12_multiplier_52 : decode cX12_multiplier 52 = .ok (.iconst (-1), 1) := dk_2 (by decide +kernel)
theorem dX12_multiplier_53 : decode cX12_multiplier 53 = .ok (.if_icmp .ne 16, 3) := dk_160 (by decide +kernel)
theorem dX12_multiplier_56 : decode cX12_multiplier 56 = .ok (.aload_n 0, 1) := dk_42 (by decide +kernel)
theorem dX12_multiplier_57 : decode cX12_multiplier 57 = .ok (.sipush 1050, 3) := dk_17 (by decide +kernel)
theorem dX12_multiplier_60 : decode cX12_multiplier 60 = .ok (.sipush 1051, 3) := dk_17 (by decide +kernel)
theorem dX12_multiplier_63 : decode cX12_multiplier 63 = .ok (.invokevirtual 947, 3) := dk_182 (by decide +kernel)
theorem dX12_multiplier_66 : decode cX12_multiplier 66 = .ok (.goto 15, 3) := dk_167 (by decide +kernel)
theorem dX12_multiplier_69 : decode cX12_multiplier 69 = .ok (.aload_n 0, 1) := dk_42 (by decide +kernel)
theorem dX12_multiplier_70 : decode cX12_multiplier 70 = .ok (.sipush 1060, 3) := dk_17 (by decide +kernel)
theorem dX12_multiplier_73 : decode cX12_multiplier 73 = .ok (.iload_n 1, 1) := dk_27 (by decide +kernel)
theorem dX12_multiplier_74 : decode cX12_multiplier 74 = .ok (.iadd, 1) := dk_96 (by decide +kernel)
theorem dX12_multiplier_75 : decode cX12_multiplier 75 = .ok (.sipush 1052, 3) := dk_17 (by decide +kernel)
theorem dX12_multiplier_78 : decode cX12_multiplier 78 = .ok (.invokevirtual 947, 3) := dk_182 (by decide +kernel)
theorem dX12_multiplier_81 : decode cX12_multiplier 81 = .ok (.aload_n 0, 1) := dk_42 (by decide +kernel)
theorem dX12_multiplier_82 : decode cX12_multiplier 82 = .ok (.getfield 933, 3) := dk_180 (by decide +kernel)
theorem dX12_multiplier_85 : decode cX12_multiplier 85 = .ok (.ireturn, 1) := dk_172 (by decide +kernel)
def wsRX12_multiplier : List Cond := .code yX12_multiplier cX12_multiplier 2 (some .int) :: ([.fieldLink RX12 814 "OptimaWorksModel" "hasProof" "Z", .fieldLink RX12 348 "OptimaWorksModel" "thrown" "I", .fieldLink RX12 933 "OptimaWorksModel" "printed" "I", .fieldLink RX12 894 "OptimaWorksModel" "needs" "I"] ++ wsX120 ++ (wsV RX12 947 RX12 yX12_sayFraction wsRX12_sayFraction))
theorem iwsRX12_multiplier_in12 : ∀ w ∈ wsX120, w ∈ wsRX12_multiplier := fun _ h => List.mem_cons_of_mem _ (List.mem_append_left _ (List.mem_append_right _ h))
theorem gwsRX12_multiplier_0 : GoodIn wsRX12_multiplier (wsV RX12 947 RX12 yX12_sayFraction wsRX12_sayFraction) := goodIn_sub (fun _ h => List.mem_cons_of_mem _ (List.mem_append_right _ h)) (gdV (by decide +kernel) gdwsRX12_sayFraction)
theorem gdwsRX12_multiplier : wsRX12_multiplier.all goodWord = true := gdC rfl (gdA (gdA (by decide +kernel : ([.fieldLink RX12 814 "OptimaWorksModel" "hasProof" "Z", .fieldLink RX12 348 "OptimaWorksModel" "thrown" "I", .fieldLink RX12 933 "OptimaWorksModel" "printed" "I", .fieldLink RX12 894 "OptimaWorksModel" "needs" "I"] : List Cond).all goodWord = true) gdwsX120) (gdV (by decide +kernel) gdwsRX12_sayFraction))
set_option maxHeartbeats 4000000 in
set_option maxRecDepth 100000 in
/-- multiplier(i) -/
theorem r_X12_multiplier (l : Launch) (dC : Nat → ClassId) (dI : Nat → Nat → Nat) (a : Nat → Nat) (k : Nat → ClassId) (h0 : Nat) (vi : Nat → Int32) (vj : Nat → Int64) (vF : Nat → Nat → Int32) (vG : Nat → Nat → Int64) (iI : Int32) (nd : Nat) (pn : Nat) (mg : Nat → Int) (hBg : Bg (vF 0) mg) (hpn : vi 125 = nI pn) (hpn2 : pn ≤ 30000) (hnd : vi 119 = nI nd) (hnd28 : nd ≤ 28) (hpv : vi 117 ≠ 0 → 0 < mg 1051 ∧ 0 < mg 1052) (sz : Nat) : Met l yX12_multiplier wsRX12_multiplier ({ frames := 5, cells := 0, slots := 0, locals := 129 }) (va_Pc [.ref h0, .int iI] (fun U => U.heap.size = sz ∧ va_P (dC, dI) vwCl (WR a k h0 vi vj vF vG) U.heap ∧ va_K (dC, dI) vwCl (tX12 k) U ∧ va_D (fun _ => True) (WR a k h0 vi vj vF vG))) (va_Qi (fun (r : Int32) (u : (Int32) × (Nat → Int32) × (Nat → Int32) × (Nat → Int32) × (Nat → Int64) × (Nat → Int32) × (Nat) × (Nat → Int32) × (Nat → Int)) => (Bg (u.2.1) (u.2.2.2.2.2.2.2.2)) ∧ ((u.2.2.2.2.2.2.1) ≤ 30000) ∧ (∀ q, 1000 ≤ q → (u.2.2.2.2.2.2.2.2) q = mg q)) (fun (u : (Int32) × (Nat → Int32) × (Nat → Int32) × (Nat → Int32) × (Nat → Int64) × (Nat → Int32) × (Nat) × (Nat → Int32) × (Nat → Int)) t => va_P (dC, dI) vwCl (WR a k h0 (fT (fT vi 0 (u.1)) 125 (nI (u.2.2.2.2.2.2.1))) vj (fT (fT (fT (fT (fT vF 0 (u.2.1)) 2 (u.2.2.1)) 3 (u.2.2.2.1)) 75 (u.2.2.2.2.2.2.2.1)) 76 (u.2.2.2.2.2.1)) (fT vG 1 (u.2.2.2.2.1))) t.heap ∧ va_D (va_A (WR a k h0 vi vj vF vG) sz) (WR a k h0 (fT (fT vi 0 (u.1)) 125 (nI (u.2.2.2.2.2.2.1))) vj (fT (fT (fT (fT (fT vF 0 (u.2.1)) 2 (u.2.2.1)) 3 (u.2.2.2.1)) 75 (u.2.2.2.2.2.2.2.1)) 76 (u.2.2.2.2.2.1)) (fT vG 1 (u.2.2.2.2.1)))) (va_A (WR a k h0 vi vj vF vG) sz)) 0 0 (va_A (WR a k h0 vi vj vF vG) sz) := by
  refine Met.ofW (cc := cX12_multiplier) (maxL := 2) (ret := (some .int)) (by decide) rfl ?_
  intro p e s m args below meth c s₁ B hml hv
  obtain ⟨rfl, hsz, hP, hK, hD0⟩ := hv
  have hx := B.exec
  have hb := B.bytes
  have hr := B.returns
  have hts := atoms_spec (ws := wsRX12_multiplier) B.pre
  have hown : s.vm.findClass RX12 = some m.cls := findClass_of_methodNamed B.named
  have hlocks := B.notSynchronized
  subst hsz
  have hD := hD0.self (sz := s.heap.size)
  generalize hAe : va_A (WR a k h0 vi vj vF vG) s.heap.size = A at hD ⊢
  have hA : ∀ q : Nat, s.heap.size ≤ q → A q := fun q h => by rw [← hAe]; exact Or.inr h
  have hS : va_S A s.heap s.heap [] := va_S.rf
  have hl := lv_entry ([.ref h0, .int iI]) (n := 2) (Nat.le_of_ble_eq_true rfl)
  rw [lg_entry_eq]
  generalize (lg_sl ([.ref h0, .int iI]) ++ List.replicate (2 - (lg_sl ([.ref h0, .int iI])).length) Slot.unset).toArray = ls at hl ⊢
  have hl : lv_has ls 2 [(0, .ref h0), (1, .int iI)] := hl
  refine lv_aload_n hx hb dX12_multiplier_0 rfl (lv_at hl 0 rfl) ?_
  refine lv_aload_n hx hb dX12_multiplier_1 rfl (lv_at hl 0 rfl) ?_
  refine va_get (D := (dC, dI)) (ci := 12) (v := .int (vi 117)) (C := RX12) (T := TX12) (N := 163) (fs := fM (vS a vi vj)) hx hb hts iwsRX12_multiplier_in12 hown hK hP 0 rfl rfl 117 (by decide) (hts (.fieldLink RX12 814 "OptimaWorksModel" "hasProof" "Z") (by decide +kernel)) (fun _ h9 => h9) rfl dX12_multiplier_2 ?_
  refine lv_if_ne (tgt := 12) hx hb dX12_multiplier_5 (by decide) (fun c_5 => ?_) (fun c_5 => ?_)
  · have t_5 : ((vi 117)).toInt ≠ 0 := toI_ne c_5 rfl (by decide)
    refine lv_iload_n hx hb dX12_multiplier_12 rfl (lv_at hl 1 rfl) ?_
    refine lv_iconst (v := (-1)) hx hb dX12_multiplier_13 (by decide) ?_
    refine lv_icmp_eq (tgt := 33) hx hb dX12_multiplier_14 (by decide) (fun c_14 => ?_) (fun c_14 => ?_)
    · have t_14 : (iI).toInt = -1 := toI_eq c_14 rfl (by decide)
      refine lv_iconst (v := 0) hx hb dX12_multiplier_33 (by decide) ?_
      refine va_put (D := (dC, dI)) (ci := 12) (v := .int 0) (ty := .int) (C := RX12) (T := TX12) (N := 163) (fs := fM (vS a vi vj)) hx hb hts iwsRX12_multiplier_in12 tyX12 tyX12_ok nmX12 hown hK hP hD hS 0 rfl rfl 0 (by decide) (hts (.fieldLink RX12 348 "OptimaWorksModel" "thrown" "I") (by decide +kernel)) (fun _ h9 => h9) rfl (by decide +kernel) rfl rfl (Nat.le_of_ble_eq_true rfl) dX12_multiplier_34 (fun H locs hP hD hS => ?_)
      have hP : va_P (dC, dI) vwCl (WR a k h0 (fT vi 0 0) vj vF vG) H := by rw [← WR_i 0 _ rfl]; exact hP
      have hD : va_D A (WR a k h0 (fT vi 0 0) vj vF vG) := by rw [← WR_i 0 _ rfl]; exact hD
      refine lv_aload_n hx hb dX12_multiplier_37 rfl (lv_at hl 0 rfl) ?_
      refine va_get (D := (dC, dI)) (ci := 12) (v := .int 0) (C := RX12) (T := TX12) (N := 163) (fs := fM (vS a (fT vi 0 0) vj)) hx hb hts iwsRX12_multiplier_in12 hown hK hP 0 rfl rfl 0 (by decide) (hts (.fieldLink RX12 348 "OptimaWorksModel" "thrown" "I") (by decide +kernel)) (fun _ h9 => h9) rfl dX12_multiplier_38 ?_
      refine lv_if_le (tgt := 46) hx hb dX12_multiplier_41 (by decide) (fun _ => ?_) (fun c9 => absurd (by decide) c9)
      refine lv_aload_n hx hb dX12_multiplier_46 rfl (lv_at hl 0 rfl) ?_
      refine lv_iconst (v := 0) hx hb dX12_multiplier_47 (by decide) ?_
      refine va_put (D := (dC, dI)) (ci := 12) (v := .int 0) (ty := .int) (C := RX12) (T := TX12) (N := 163) (fs := fM (vS a (fT vi 0 0) vj)) hx hb hts iwsRX12_multiplier_in12 tyX12 tyX12_ok nmX12 hown hK hP hD hS 0 rfl rfl 125 (by decide) (hts (.fieldLink RX12 933 "OptimaWorksModel" "printed" "I") (by decide +kernel)) (fun _ h9 => h9) rfl (by decide +kernel) rfl rfl (Nat.le_of_ble_eq_true rfl) dX12_multiplier_48 (fun H locs hP hD hS => ?_)
      have hP : va_P (dC, dI) vwCl (WR a k h0 (fT (fT vi 0 0) 125 0) vj vF vG) H := by rw [← WR_i 125 _ rfl]; exact hP
      have hD : va_D A (WR a k h0 (fT (fT vi 0 0) 125 0) vj vF vG) := by rw [← WR_i 125 _ rfl]; exact hD
      refine lv_iload_n hx hb dX12_multiplier_51 rfl (lv_at hl 1 rfl) ?_
      refine lv_iconst (v := (-1)) hx hb dX12_multiplier_52 (by decide) ?_
      refine lv_icmp_ne (tgt := 69) hx hb dX12_multiplier_53 (by decide) (fun c9 => False.elim (c9 c_14)) (fun c_53 => ?_)
      have t_53 : (iI).toInt = -1 := toI_nne c_53 rfl (by decide)
      refine lv_aload_n hx hb dX12_multiplier_56 rfl (lv_at hl 0 rfl) ?_
      refine lv_sipush (v := 1050) hx hb dX12_multiplier_57 (by decide) ?_
      refine lv_sipush (v := 1051) hx hb dX12_multiplier_60 (by decide) ?_
      have hFc := allFree hD hS hA
      refine va_callv (va_runV (As := [.int 1050, .int 1051]) (rest := []) ⟨hx, hb, hml, hown, hts⟩ (r_X12_sayFraction l dC dI a k h0 (fT (fT vi 0 0) 125 0) vj vF vG 1050 1051 0 mg hBg (show (0 : Int32) = nI 0 from by decide) (by first | assumption | decide | omega | rfl) (by first | assumption | decide | omega | rfl) (by first | assumption | decide | omega | rfl) (by (have h9 := (hpv c_5).1); omega) H.size) (cwV 2 hts gwsRX12_multiplier_0 rfl rfl rfl hd_yX12_sayFraction_RX12 (by decide +kernel)) (fz_pre (va_recv hK hP (ci := 12) (q0 := 0) rfl rfl) hP hK hD) rfl rfl hl.1 rfl (lv_room (Nat.le_of_ble_eq_true rfl)) dX12_multiplier_63 (by decide +kernel)) hS (fun q _ h => hFc q h) hFc (fun u t9_ H locs ht hvm hw9 hB9 hz1 hk1 hS => ?_)
      obtain ⟨g63, f2w63, f3w63, gs63, f7663, p263, f7563, m263⟩ := u
      try dsimp only at hw9 hB9
      have hP : va_P (dC, dI) vwCl (WR a k h0 (fT (fT (fT vi 0 0) 125 0) 125 (nI p263)) vj (fT (fT (fT (fT (fT vF 0 g63) 2 f2w63) 3 f3w63) 75 f7563) 76 f7663) (fT vG 1 gs63)) H := fz_P ht hB9.1
      have hD : va_D A (WR a k h0 (fT (fT (fT vi 0 0) 125 0) 125 (nI p263)) vj (fT (fT (fT (fT (fT vF 0 g63) 2 f2w63) 3 f3w63) 75 f7563) 76 f7663) (fT vG 1 gs63)) := hB9.2.weaken (fun _ q _ h => hFc q.1 h)
      have e9 : fT (fT vi 0 0) 125 (nI p263) = fT (fT (fT vi 0 0) 125 0) 125 (nI p263) := (fT_sm _ _ _ _).symm
      rw [← e9] at hP hD
      clear e9
      have hP : va_P (dC, dI) vwCl (WR a k h0 (fT (fT vi 0 0) 125 (nI p263)) vj (fT (fT (fT (fT (fT vF 0 g63) 2 f2w63) 3 f3w63) 75 f7563) 76 f7663) (fT vG 1 gs63)) H := hP
      have hD : va_D A (WR a k h0 (fT (fT vi 0 0) 125 (nI p263)) vj (fT (fT (fT (fT (fT vF 0 g63) 2 f2w63) 3 f3w63) 75 f7563) 76 f7663) (fT vG 1 gs63)) := hD
      obtain ⟨f63_0, f63_1, f63_2⟩ := hw9
      refine lv_goto (tgt := 81) hx hb dX12_multiplier_66 (by decide) ?_
      refine lv_aload_n hx hb dX12_multiplier_81 rfl (lv_at hl 0 rfl) ?_
      refine va_get (D := (dC, dI)) (ci := 12) (v := .int (nI p263)) (C := RX12) (T := TX12) (N := 163) (fs := fM (vS a (fT (fT vi 0 0) 125 (nI p263)) vj)) hx hb hts iwsRX12_multiplier_in12 hown hK hP 0 rfl rfl 125 (by decide) (hts (.fieldLink RX12 933 "OptimaWorksModel" "printed" "I") (by decide +kernel)) (fun _ h9 => h9) rfl dX12_multiplier_82 ?_
      refine W.widen (k := 0) (n := 0) (by decide +kernel) (by decide +kernel) ?_
      exact W.iret (v := (nI p263)) hx hb hr (fun t9_ ht hW => ⟨⟨(nI p263), (0, g63, f2w63, f3w63, gs63, f7663, p263, f7563, m263), rfl, by (try dsimp only); exact ⟨f63_0, by first | assumption | omega, fun q hq => by (rw [f63_2 _ (by omega)])⟩, by rw [ht]; exact hP, hD⟩, hS.F ht⟩) hS.2.2 dX12_multiplier_85
    · have t_14 : ¬ (iI).toInt = -1 := toI_neq c_14 rfl (by decide)
      refine lv_iload_n hx hb dX12_multiplier_17 rfl (lv_at hl 1 rfl) ?_
      refine lv_if_lt (tgt := 29) hx hb dX12_multiplier_18 (by decide) (fun c_18 => ?_) (fun c_18 => ?_)
      · have t_18 : (iI).toInt < 0 := toI_lt c_18 rfl (by decide)
        refine lv_iconst (v := 2) hx hb dX12_multiplier_29 (by decide) ?_
        refine lv_goto (tgt := 34) hx hb dX12_multiplier_30 (by decide) ?_
        refine va_put (D := (dC, dI)) (ci := 12) (v := .int 2) (ty := .int) (C := RX12) (T := TX12) (N := 163) (fs := fM (vS a vi vj)) hx hb hts iwsRX12_multiplier_in12 tyX12 tyX12_ok nmX12 hown hK hP hD hS 0 rfl rfl 0 (by decide) (hts (.fieldLink RX12 348 "OptimaWorksModel" "thrown" "I") (by decide +kernel)) (fun _ h9 => h9) rfl (by decide +kernel) rfl rfl (Nat.le_of_ble_eq_true rfl) dX12_multiplier_34 (fun H locs hP hD hS => ?_)
        have hP : va_P (dC, dI) vwCl (WR a k h0 (fT vi 0 2) vj vF vG) H := by rw [← WR_i 0 _ rfl]; exact hP
        have hD : va_D A (WR a k h0 (fT vi 0 2) vj vF vG) := by rw [← WR_i 0 _ rfl]; exact hD
        refine lv_aload_n hx hb dX12_multiplier_37 rfl (lv_at hl 0 rfl) ?_
        refine va_get (D := (dC, dI)) (ci := 12) (v := .int 2) (C := RX12) (T := TX12) (N := 163) (fs := fM (vS a (fT vi 0 2) vj)) hx hb hts iwsRX12_multiplier_in12 hown hK hP 0 rfl rfl 0 (by decide) (hts (.fieldLink RX12 348 "OptimaWorksModel" "thrown" "I") (by decide +kernel)) (fun _ h9 => h9) rfl dX12_multiplier_38 ?_
        refine lv_if_le (tgt := 46) hx hb dX12_multiplier_41 (by decide) (fun c9 => absurd c9 (by decide)) (fun _ => ?_)
        refine lv_iconst (v := 0) hx hb dX12_multiplier_44 (by decide) ?_
        refine W.widen (k := 0) (n := 0) (by decide +kernel) (by decide +kernel) ?_
        have e9 : fT (fT vi 0 2) 125 (nI pn) = fT vi 0 2 := by funext q9; by_cases h9_0 : q9 = 0; (subst h9_0; exact ((fT_ne _ _ (Nat.ne_of_beq_eq_false rfl)).trans (fT_eq _ _ _)).trans (Eq.trans (by first | rfl | assumption | (symm; assumption) | (subst_vars; rfl)) (fT_eq _ _ _).symm)); by_cases h9_125 : q9 = 125; (subst h9_125; exact (fT_eq _ _ _).trans (Eq.trans (by first | rfl | assumption | (symm; assumption) | (subst_vars; rfl)) (fT_ne _ _ (Nat.ne_of_beq_eq_false rfl)).symm)); exact ((fT_ne _ _ h9_125).trans (fT_ne _ _ h9_0)).trans (fT_ne _ _ h9_0).symm
        have hP : va_P (dC, dI) vwCl (WR a k h0 (fT (fT vi 0 2) 125 (nI pn)) vj vF vG) H := by rw [e9]; exact hP
        have hD : va_D A (WR a k h0 (fT (fT vi 0 2) 125 (nI pn)) vj vF vG) := by rw [e9]; exact hD
        clear e9
        have e9 : fT (fT (fT (fT (fT vF 0 (vF 0)) 2 (vF 2)) 3 (vF 3)) 75 (vF 75)) 76 (vF 76) = vF := (fT_id _ _ ((fT_ne _ _ (Nat.ne_of_beq_eq_false rfl)).trans ((fT_ne _ _ (Nat.ne_of_beq_eq_false rfl)).trans ((fT_ne _ _ (Nat.ne_of_beq_eq_false rfl)).trans (fT_ne _ _ (Nat.ne_of_beq_eq_false rfl)))))).trans ((fT_id _ _ ((fT_ne _ _ (Nat.ne_of_beq_eq_false rfl)).trans ((fT_ne _ _ (Nat.ne_of_beq_eq_false rfl)).trans (fT_ne _ _ (Nat.ne_of_beq_eq_false rfl))))).trans ((fT_id _ _ ((fT_ne _ _ (Nat.ne_of_beq_eq_false rfl)).trans (fT_ne _ _ (Nat.ne_of_beq_eq_false rfl)))).trans ((fT_id _ _ (fT_ne _ _ (Nat.ne_of_beq_eq_false rfl))).trans (fT_id _ _ (rfl)))))
        have hP : va_P (dC, dI) vwCl (WR a k h0 (fT (fT vi 0 2) 125 (nI pn)) vj (fT (fT (fT (fT (fT vF 0 (vF 0)) 2 (vF 2)) 3 (vF 3)) 75 (vF 75)) 76 (vF 76)) vG) H := by rw [e9]; exact hP
        have hD : va_D A (WR a k h0 (fT (fT vi 0 2) 125 (nI pn)) vj (fT (fT (fT (fT (fT vF 0 (vF 0)) 2 (vF 2)) 3 (vF 3)) 75 (vF 75)) 76 (vF 76)) vG) := by rw [e9]; exact hD
        clear e9
        have e9 : fT vG 1 (vG 1) = vG := fT_id _ _ (rfl)
        have hP : va_P (dC, dI) vwCl (WR a k h0 (fT (fT vi 0 2) 125 (nI pn)) vj (fT (fT (fT (fT (fT vF 0 (vF 0)) 2 (vF 2)) 3 (vF 3)) 75 (vF 75)) 76 (vF 76)) (fT vG 1 (vG 1))) H := by rw [e9]; exact hP
        have hD : va_D A (WR a k h0 (fT (fT vi 0 2) 125 (nI pn)) vj (fT (fT (fT (fT (fT vF 0 (vF 0)) 2 (vF 2)) 3 (vF 3)) 75 (vF 75)) 76 (vF 76)) (fT vG 1 (vG 1))) := by rw [e9]; exact hD
        clear e9
        exact W.iret (v := 0) hx hb hr (fun t9_ ht hW => ⟨⟨0, (2, (vF 0), (vF 2), (vF 3), (vG 1), (vF 76), pn, (vF 75), mg), rfl, by (try dsimp only); exact ⟨hBg, by first | assumption | omega, fun q _ => rfl⟩, by rw [ht]; exact hP, hD⟩, hS.F ht⟩) hS.2.2 dX12_multiplier_45
      · have t_18 : ¬ (iI).toInt < 0 := toI_nlt c_18 rfl (by decide)
        refine lv_iload_n hx hb dX12_multiplier_21 rfl (lv_at hl 1 rfl) ?_
        refine lv_aload_n hx hb dX12_multiplier_22 rfl (lv_at hl 0 rfl) ?_
        refine va_get (D := (dC, dI)) (ci := 12) (v := .int (vi 119)) (C := RX12) (T := TX12) (N := 163) (fs := fM (vS a vi vj)) hx hb hts iwsRX12_multiplier_in12 hown hK hP 0 rfl rfl 119 (by decide) (hts (.fieldLink RX12 894 "OptimaWorksModel" "needs" "I") (by decide +kernel)) (fun _ h9 => h9) rfl dX12_multiplier_23 ?_
        refine lv_topi (fun y1 hy1 => ?_)
        obtain rfl : (nI nd) = y1 := (hy1.trans (hnd)).symm
        refine lv_icmp_lt (tgt := 33) hx hb dX12_multiplier_26 (by decide) (fun c_26 => ?_) (fun c_26 => ?_)
        · have t_26 : (iI).toInt < ((nd : Nat) : Int) := toI_lt c_26 rfl (nI_toInt (by omega))
          refine lv_iconst (v := 0) hx hb dX12_multiplier_33 (by decide) ?_
          refine va_put (D := (dC, dI)) (ci := 12) (v := .int 0) (ty := .int) (C := RX12) (T := TX12) (N := 163) (fs := fM (vS a vi vj)) hx hb hts iwsRX12_multiplier_in12 tyX12 tyX12_ok nmX12 hown hK hP hD hS 0 rfl rfl 0 (by decide) (hts (.fieldLink RX12 348 "OptimaWorksModel" "thrown" "I") (by decide +kernel)) (fun _ h9 => h9) rfl (by decide +kernel) rfl rfl (Nat.le_of_ble_eq_true rfl) dX12_multiplier_34 (fun H locs hP hD hS => ?_)
          have hP : va_P (dC, dI) vwCl (WR a k h0 (fT vi 0 0) vj vF vG) H := by rw [← WR_i 0 _ rfl]; exact hP
          have hD : va_D A (WR a k h0 (fT vi 0 0) vj vF vG) := by rw [← WR_i 0 _ rfl]; exact hD
          refine lv_aload_n hx hb dX12_multiplier_37 rfl (lv_at hl 0 rfl) ?_
          refine va_get (D := (dC, dI)) (ci := 12) (v := .int 0) (C := RX12) (T := TX12) (N := 163) (fs := fM (vS a (fT vi 0 0) vj)) hx hb hts iwsRX12_multiplier_in12 hown hK hP 0 rfl rfl 0 (by decide) (hts (.fieldLink RX12 348 "OptimaWorksModel" "thrown" "I") (by decide +kernel)) (fun _ h9 => h9) rfl dX12_multiplier_38 ?_
          refine lv_if_le (tgt := 46) hx hb dX12_multiplier_41 (by decide) (fun _ => ?_) (fun c9 => absurd (by decide) c9)
          refine lv_aload_n hx hb dX12_multiplier_46 rfl (lv_at hl 0 rfl) ?_
          refine lv_iconst (v := 0) hx hb dX12_multiplier_47 (by decide) ?_
          refine va_put (D := (dC, dI)) (ci := 12) (v := .int 0) (ty := .int) (C := RX12) (T := TX12) (N := 163) (fs := fM (vS a (fT vi 0 0) vj)) hx hb hts iwsRX12_multiplier_in12 tyX12 tyX12_ok nmX12 hown hK hP hD hS 0 rfl rfl 125 (by decide) (hts (.fieldLink RX12 933 "OptimaWorksModel" "printed" "I") (by decide +kernel)) (fun _ h9 => h9) rfl (by decide +kernel) rfl rfl (Nat.le_of_ble_eq_true rfl) dX12_multiplier_48 (fun H locs hP hD hS => ?_)
          have hP : va_P (dC, dI) vwCl (WR a k h0 (fT (fT vi 0 0) 125 0) vj vF vG) H := by rw [← WR_i 125 _ rfl]; exact hP
          have hD : va_D A (WR a k h0 (fT (fT vi 0 0) 125 0) vj vF vG) := by rw [← WR_i 125 _ rfl]; exact hD
          refine lv_iload_n hx hb dX12_multiplier_51 rfl (lv_at hl 1 rfl) ?_
          refine lv_iconst (v := (-1)) hx hb dX12_multiplier_52 (by decide) ?_
          refine lv_icmp_ne (tgt := 69) hx hb dX12_multiplier_53 (by decide) (fun c_53 => ?_) (fun c9 => False.elim (c_14 c9))
          have t_53 : (iI).toInt ≠ -1 := toI_ne c_53 rfl (by decide)
          have evn : (nI nd).toInt = (nd : Int) := nI_toInt (by omega)
          obtain ⟨kn, h_kn, rfl⟩ := of_toInt (x := iI) (k := 28) (by omega) (by omega)
          have e_kn : (nI kn).toInt = (kn : Int) := nI_toInt (by omega)
          refine lv_aload_n hx hb dX12_multiplier_69 rfl (lv_at hl 0 rfl) ?_
          refine lv_sipush (v := 1060) hx hb dX12_multiplier_70 (by decide) ?_
          refine lv_iload_n hx hb dX12_multiplier_73 rfl (lv_at hl 1 rfl) ?_
          refine lv_iadd hx hb dX12_multiplier_74 ?_
          refine lv_topi (fun y2 hy2 => ?_)
          obtain rfl : (nI (1060 + kn)) = y2 := (hy2.trans (nI_add 1060 kn)).symm
          refine lv_sipush (v := 1052) hx hb dX12_multiplier_75 (by decide) ?_
          have hFc := allFree hD hS hA
          refine va_callv (va_runV (As := [.int (nI (1060 + kn)), .int 1052]) (rest := []) ⟨hx, hb, hml, hown, hts⟩ (r_X12_sayFraction l dC dI a k h0 (fT (fT vi 0 0) 125 0) vj vF vG (1060 + kn) 1052 0 mg hBg (show (0 : Int32) = nI 0 from by decide) (by first | assumption | decide | omega | rfl) (by first | assumption | decide | omega | rfl) (by first | assumption | decide | omega | rfl) (by (have h9 := (hpv c_5).2); omega) H.size) (cwV 2 hts gwsRX12_multiplier_0 rfl rfl rfl hd_yX12_sayFraction_RX12 (by decide +kernel)) (fz_pre (va_recv hK hP (ci := 12) (q0 := 0) rfl rfl) hP hK hD) rfl rfl hl.1 rfl (lv_room (Nat.le_of_ble_eq_true rfl)) dX12_multiplier_78 (by decide +kernel)) hS (fun q _ h => hFc q h) hFc (fun u t9_ H locs ht hvm hw9 hB9 hz1 hk1 hS => ?_)
          obtain ⟨g78, f2w78, f3w78, gs78, f7678, p278, f7578, m278⟩ := u
          try dsimp only at hw9 hB9
          have hP : va_P (dC, dI) vwCl (WR a k h0 (fT (fT (fT vi 0 0) 125 0) 125 (nI p278)) vj (fT (fT (fT (fT (fT vF 0 g78) 2 f2w78) 3 f3w78) 75 f7578) 76 f7678) (fT vG 1 gs78)) H := fz_P ht hB9.1
          have hD : va_D A (WR a k h0 (fT (fT (fT vi 0 0) 125 0) 125 (nI p278)) vj (fT (fT (fT (fT (fT vF 0 g78) 2 f2w78) 3 f3w78) 75 f7578) 76 f7678) (fT vG 1 gs78)) := hB9.2.weaken (fun _ q _ h => hFc q.1 h)
          have e9 : fT (fT vi 0 0) 125 (nI p278) = fT (fT (fT vi 0 0) 125 0) 125 (nI p278) := (fT_sm _ _ _ _).symm
          rw [← e9] at hP hD
          clear e9
          have hP : va_P (dC, dI) vwCl (WR a k h0 (fT (fT vi 0 0) 125 (nI p278)) vj (fT (fT (fT (fT (fT vF 0 g78) 2 f2w78) 3 f3w78) 75 f7578) 76 f7678) (fT vG 1 gs78)) H := hP
          have hD : va_D A (WR a k h0 (fT (fT vi 0 0) 125 (nI p278)) vj (fT (fT (fT (fT (fT vF 0 g78) 2 f2w78) 3 f3w78) 75 f7578) 76 f7678) (fT vG 1 gs78)) := hD
          obtain ⟨f78_0, f78_1, f78_2⟩ := hw9
          refine lv_aload_n hx hb dX12_multiplier_81 rfl (lv_at hl 0 rfl) ?_
          refine va_get (D := (dC, dI)) (ci := 12) (v := .int (nI p278)) (C := RX12) (T := TX12) (N := 163) (fs := fM (vS a (fT (fT vi 0 0) 125 (nI p278)) vj)) hx hb hts iwsRX12_multiplier_in12 hown hK hP 0 rfl rfl 125 (by decide) (hts (.fieldLink RX12 933 "OptimaWorksModel" "printed" "I") (by decide +kernel)) (fun _ h9 => h9) rfl dX12_multiplier_82 ?_
          refine W.widen (k := 0) (n := 0) (by decide +kernel) (by decide +kernel) ?_
          exact W.iret (v := (nI p278)) hx hb hr (fun t9_ ht hW => ⟨⟨(nI p278), (0, g78, f2w78, f3w78, gs78, f7678, p278, f7578, m278), rfl, by (try dsimp only); exact ⟨f78_0, by first | assumption | omega, fun q hq => by (rw [f78_2 _ (by omega)])⟩, by rw [ht]; exact hP, hD⟩, hS.F ht⟩) hS.2.2 dX12_multiplier_85
        · have t_26 : ¬ (iI).toInt < ((nd : Nat) : Int) := toI_nlt c_26 rfl (nI_toInt (by omega))
          refine lv_iconst (v := 2) hx hb dX12_multiplier_29 (by decide) ?_
          refine lv_goto (tgt := 34) hx hb dX12_multiplier_30 (by decide) ?_
          refine va_put (D := (dC, dI)) (ci := 12) (v := .int 2) (ty := .int) (C := RX12) (T := TX12) (N := 163) (fs := fM (vS a vi vj)) hx hb hts iwsRX12_multiplier_in12 tyX12 tyX12_ok nmX12 hown hK hP hD hS 0 rfl rfl 0 (by decide) (hts (.fieldLink RX12 348 "OptimaWorksModel" "thrown" "I") (by decide +kernel)) (fun _ h9 => h9) rfl (by decide +kernel) rfl rfl (Nat.le_of_ble_eq_true rfl) dX12_multiplier_34 (fun H locs hP hD hS => ?_)
          have hP : va_P (dC, dI) vwCl (WR a k h0 (fT vi 0 2) vj vF vG) H := by rw [← WR_i 0 _ rfl]; exact hP
          have hD : va_D A (WR a k h0 (fT vi 0 2) vj vF vG) := by rw [← WR_i 0 _ rfl]; exact hD
          refine lv_aload_n hx hb dX12_multiplier_37 rfl (lv_at hl 0 rfl) ?_
          refine va_get (D := (dC, dI)) (ci := 12) (v := .int 2) (C := RX12) (T := TX12) (N := 163) (fs := fM (vS a (fT vi 0 2) vj)) hx hb hts iwsRX12_multiplier_in12 hown hK hP 0 rfl rfl 0 (by decide) (hts (.fieldLink RX12 348 "OptimaWorksModel" "thrown" "I") (by decide +kernel)) (fun _ h9 => h9) rfl dX12_multiplier_38 ?_
          refine lv_if_le (tgt := 46) hx hb dX12_multiplier_41 (by decide) (fun c9 => absurd c9 (by decide)) (fun _ => ?_)
          refine lv_iconst (v := 0) hx hb dX12_multiplier_44 (by decide) ?_
          refine W.widen (k := 0) (n := 0) (by decide +kernel) (by decide +kernel) ?_
          have e9 : fT (fT vi 0 2) 125 (nI pn) = fT vi 0 2 := by funext q9; by_cases h9_0 : q9 = 0; (subst h9_0; exact ((fT_ne _ _ (Nat.ne_of_beq_eq_false rfl)).trans (fT_eq _ _ _)).trans (Eq.trans (by first | rfl | assumption | (symm; assumption) | (subst_vars; rfl)) (fT_eq _ _ _).symm)); by_cases h9_125 : q9 = 125; (subst h9_125; exact (fT_eq _ _ _).trans (Eq.trans (by first | rfl | assumption | (symm; assumption) | (subst_vars; rfl)) (fT_ne _ _ (Nat.ne_of_beq_eq_false rfl)).symm)); exact ((fT_ne _ _ h9_125).trans (fT_ne _ _ h9_0)).trans (fT_ne _ _ h9_0).symm
          have hP : va_P (dC, dI) vwCl (WR a k h0 (fT (fT vi 0 2) 125 (nI pn)) vj vF vG) H := by rw [e9]; exact hP
          have hD : va_D A (WR a k h0 (fT (fT vi 0 2) 125 (nI pn)) vj vF vG) := by rw [e9]; exact hD
          clear e9
          have e9 : fT (fT (fT (fT (fT vF 0 (vF 0)) 2 (vF 2)) 3 (vF 3)) 75 (vF 75)) 76 (vF 76) = vF := (fT_id _ _ ((fT_ne _ _ (Nat.ne_of_beq_eq_false rfl)).trans ((fT_ne _ _ (Nat.ne_of_beq_eq_false rfl)).trans ((fT_ne _ _ (Nat.ne_of_beq_eq_false rfl)).trans (fT_ne _ _ (Nat.ne_of_beq_eq_false rfl)))))).trans ((fT_id _ _ ((fT_ne _ _ (Nat.ne_of_beq_eq_false rfl)).trans ((fT_ne _ _ (Nat.ne_of_beq_eq_false rfl)).trans (fT_ne _ _ (Nat.ne_of_beq_eq_false rfl))))).trans ((fT_id _ _ ((fT_ne _ _ (Nat.ne_of_beq_eq_false rfl)).trans (fT_ne _ _ (Nat.ne_of_beq_eq_false rfl)))).trans ((fT_id _ _ (fT_ne _ _ (Nat.ne_of_beq_eq_false rfl))).trans (fT_id _ _ (rfl)))))
          have hP : va_P (dC, dI) vwCl (WR a k h0 (fT (fT vi 0 2) 125 (nI pn)) vj (fT (fT (fT (fT (fT vF 0 (vF 0)) 2 (vF 2)) 3 (vF 3)) 75 (vF 75)) 76 (vF 76)) vG) H := by rw [e9]; exact hP
          have hD : va_D A (WR a k h0 (fT (fT vi 0 2) 125 (nI pn)) vj (fT (fT (fT (fT (fT vF 0 (vF 0)) 2 (vF 2)) 3 (vF 3)) 75 (vF 75)) 76 (vF 76)) vG) := by rw [e9]; exact hD
          clear e9
          have e9 : fT vG 1 (vG 1) = vG := fT_id _ _ (rfl)
          have hP : va_P (dC, dI) vwCl (WR a k h0 (fT (fT vi 0 2) 125 (nI pn)) vj (fT (fT (fT (fT (fT vF 0 (vF 0)) 2 (vF 2)) 3 (vF 3)) 75 (vF 75)) 76 (vF 76)) (fT vG 1 (vG 1))) H := by rw [e9]; exact hP
          have hD : va_D A (WR a k h0 (fT (fT vi 0 2) 125 (nI pn)) vj (fT (fT (fT (fT (fT vF 0 (vF 0)) 2 (vF 2)) 3 (vF 3)) 75 (vF 75)) 76 (vF 76)) (fT vG 1 (vG 1))) := by rw [e9]; exact hD
          clear e9
          exact W.iret (v := 0) hx hb hr (fun t9_ ht hW => ⟨⟨0, (2, (vF 0), (vF 2), (vF 3), (vG 1), (vF 76), pn, (vF 75), mg), rfl, by (try dsimp only); exact ⟨hBg, by first | assumption | omega, fun q _ => rfl⟩, by rw [ht]; exact hP, hD⟩, hS.F ht⟩) hS.2.2 dX12_multiplier_45
  · have t_5 : ((vi 117)).toInt = 0 := toI_nne c_5 rfl (by decide)
    refine lv_iconst (v := 1) hx hb dX12_multiplier_8 (by decide) ?_
    refine lv_goto (tgt := 34) hx hb dX12_multiplier_9 (by decide) ?_
    refine va_put (D := (dC, dI)) (ci := 12) (v := .int 1) (ty := .int) (C := RX12) (T := TX12) (N := 163) (fs := fM (vS a vi vj)) hx hb hts iwsRX12_multiplier_in12 tyX12 tyX12_ok nmX12 hown hK hP hD hS 0 rfl rfl 0 (by decide) (hts (.fieldLink RX12 348 "OptimaWorksModel" "thrown" "I") (by decide +kernel)) (fun _ h9 => h9) rfl (by decide +kernel) rfl rfl (Nat.le_of_ble_eq_true rfl) dX12_multiplier_34 (fun H locs hP hD hS => ?_)
    have hP : va_P (dC, dI) vwCl (WR a k h0 (fT vi 0 1) vj vF vG) H := by rw [← WR_i 0 _ rfl]; exact hP
    have hD : va_D A (WR a k h0 (fT vi 0 1) vj vF vG) := by rw [← WR_i 0 _ rfl]; exact hD
    refine lv_aload_n hx hb dX12_multiplier_37 rfl (lv_at hl 0 rfl) ?_
    refine va_get (D := (dC, dI)) (ci := 12) (v := .int 1) (C := RX12) (T := TX12) (N := 163) (fs := fM (vS a (fT vi 0 1) vj)) hx hb hts iwsRX12_multiplier_in12 hown hK hP 0 rfl rfl 0 (by decide) (hts (.fieldLink RX12 348 "OptimaWorksModel" "thrown" "I") (by decide +kernel)) (fun _ h9 => h9) rfl dX12_multiplier_38 ?_
    refine lv_if_le (tgt := 46) hx hb dX12_multiplier_41 (by decide) (fun c9 => absurd c9 (by decide)) (fun _ => ?_)
    refine lv_iconst (v := 0) hx hb dX12_multiplier_44 (by decide) ?_
    refine W.widen (k := 0) (n := 0) (by decide +kernel) (by decide +kernel) ?_
    have e9 : fT (fT vi 0 1) 125 (nI pn) = fT vi 0 1 := by funext q9; by_cases h9_0 : q9 = 0; (subst h9_0; exact ((fT_ne _ _ (Nat.ne_of_beq_eq_false rfl)).trans (fT_eq _ _ _)).trans (Eq.trans (by first | rfl | assumption | (symm; assumption) | (subst_vars; rfl)) (fT_eq _ _ _).symm)); by_cases h9_125 : q9 = 125; (subst h9_125; exact (fT_eq _ _ _).trans (Eq.trans (by first | rfl | assumption | (symm; assumption) | (subst_vars; rfl)) (fT_ne _ _ (Nat.ne_of_beq_eq_false rfl)).symm)); exact ((fT_ne _ _ h9_125).trans (fT_ne _ _ h9_0)).trans (fT_ne _ _ h9_0).symm
    have hP : va_P (dC, dI) vwCl (WR a k h0 (fT (fT vi 0 1) 125 (nI pn)) vj vF vG) H := by rw [e9]; exact hP
    have hD : va_D A (WR a k h0 (fT (fT vi 0 1) 125 (nI pn)) vj vF vG) := by rw [e9]; exact hD
    clear e9
    have e9 : fT (fT (fT (fT (fT vF 0 (vF 0)) 2 (vF 2)) 3 (vF 3)) 75 (vF 75)) 76 (vF 76) = vF := (fT_id _ _ ((fT_ne _ _ (Nat.ne_of_beq_eq_false rfl)).trans ((fT_ne _ _ (Nat.ne_of_beq_eq_false rfl)).trans ((fT_ne _ _ (Nat.ne_of_beq_eq_false rfl)).trans (fT_ne _ _ (Nat.ne_of_beq_eq_false rfl)))))).trans ((fT_id _ _ ((fT_ne _ _ (Nat.ne_of_beq_eq_false rfl)).trans ((fT_ne _ _ (Nat.ne_of_beq_eq_false rfl)).trans (fT_ne _ _ (Nat.ne_of_beq_eq_false rfl))))).trans ((fT_id _ _ ((fT_ne _ _ (Nat.ne_of_beq_eq_false rfl)).trans (fT_ne _ _ (Nat.ne_of_beq_eq_false rfl)))).trans ((fT_id _ _ (fT_ne _ _ (Nat.ne_of_beq_eq_false rfl))).trans (fT_id _ _ (rfl)))))
    have hP : va_P (dC, dI) vwCl (WR a k h0 (fT (fT vi 0 1) 125 (nI pn)) vj (fT (fT (fT (fT (fT vF 0 (vF 0)) 2 (vF 2)) 3 (vF 3)) 75 (vF 75)) 76 (vF 76)) vG) H := by rw [e9]; exact hP
    have hD : va_D A (WR a k h0 (fT (fT vi 0 1) 125 (nI pn)) vj (fT (fT (fT (fT (fT vF 0 (vF 0)) 2 (vF 2)) 3 (vF 3)) 75 (vF 75)) 76 (vF 76)) vG) := by rw [e9]; exact hD
    clear e9
    have e9 : fT vG 1 (vG 1) = vG := fT_id _ _ (rfl)
    have hP : va_P (dC, dI) vwCl (WR a k h0 (fT (fT vi 0 1) 125 (nI pn)) vj (fT (fT (fT (fT (fT vF 0 (vF 0)) 2 (vF 2)) 3 (vF 3)) 75 (vF 75)) 76 (vF 76)) (fT vG 1 (vG 1))) H := by rw [e9]; exact hP
    have hD : va_D A (WR a k h0 (fT (fT vi 0 1) 125 (nI pn)) vj (fT (fT (fT (fT (fT vF 0 (vF 0)) 2 (vF 2)) 3 (vF 3)) 75 (vF 75)) 76 (vF 76)) (fT vG 1 (vG 1))) := by rw [e9]; exact hD
    clear e9
    exact W.iret (v := 0) hx hb hr (fun t9_ ht hW => ⟨⟨0, (1, (vF 0), (vF 2), (vF 3), (vG 1), (vF 76), pn, (vF 75), mg), rfl, by (try dsimp only); exact ⟨hBg, by first | assumption | omega, fun q _ => rfl⟩, by rw [ht]; exact hP, hD⟩, hS.F ht⟩) hS.2.2 dX12_multiplier_45
theorem dX12_way_0 : decode cX12_way 0 = .ok (.aload_n 0, 1) := dk_42 (by decide +kernel)
theorem dX12_way_1 : decode cX12_way 1 = .ok (.iload_n 1, 1) := dk_27 (by decide +kernel)
theorem dX12_way_2 : decode cX12_way 2 = .ok (.aload_n 0, 1) := dk_42 (by decide +kernel)
theorem dX12_way_3 : decode cX12_way 3 = .ok (.getfield 786, 3) := dk_180 (by decide +kernel)
theorem dX12_way_6 : decode cX12_way 6 = .ok (.invokevirtual 944, 3) := dk_182 (by decide +kernel)
theorem dX12_way_9 : decode cX12_way 9 = .ok (.ifCond .ne 5, 3) := dk_154 (by decide +kernel)
theorem dX12_way_12 : decode cX12_way 12 = .ok (.iconst 0, 1) := dk_3 (by decide +kernel)
theorem dX12_way_13 : decode cX12_way 13 = .ok (.ireturn, 1) := dk_172 (by decide +kernel)
theorem dX12_way_14 : decode cX12_way 14 = .ok (.iconst 0, 1) := dk_3 (by decide +kernel)
theorem dX12_way_15 : decode cX12_way 15 = .ok (.istore_n 2, 1) := dk_61 (by decide +kernel)
theorem dX12_way_16 : decode cX12_way 16 = .ok (.iload_n 2, 1) := dk_28 (by decide +kernel)
theorem dX12_way_17 : decode cX12_way 17 = .ok (.aload_n 0, 1) := dk_42 (by decide +kernel)
theorem dX12_way_18 : decode cX12_way 18 = .ok (.getfield 200, 3) := dk_180 (by decide +kernel)
theorem dX12_way_21 : decode cX12_way 21 = .ok (.iload_n 1, 1) := dk_27 (by decide +kernel)
theorem dX12_way_22 : decode cX12_way 22 = .ok (.iaload, 1) := dk_46 (by decide +kernel)
theorem dX12_way_23 : decode cX12_way 23 = .ok (.if_icmp .ge 170, 3) := dk_162 (by decide +kernel)
theorem dX12_way_26 : decode cX12_way 26 = .ok (.bipush 9, 2) := dk_16 (by decide +kernel)
theorem dX12_way_28 : decode cX12_way 28 = .ok (.iconst 3, 1) := dk_6 (by decide +kernel)
theorem dX12_way_29 : decode cX12_way 29 = .ok (.iload_n 1, 1) := dk_27 (by decide +kernel)
theorem dX12_way_30 : decode cX12_way 30 = .ok (.imul, 1) := dk_104 (by decide +kernel)
theorem dX12_way_31 : decode cX12_way 31 = .ok (.iload_n 2, 1) := dk_28 (by decide +kernel)
theorem dX12_way_32 : decode cX12_way 32 = .ok (.iadd, 1) := dk_96 (by decide +kernel)
theorem dX12_way_33 : decode cX12_way 33 = .ok (.imul, 1) := dk_104 (by decide +kernel)
theorem dX12_way_34 : decode cX12_way 34 = .ok (.istore_n 3, 1) := dk_62 (by decide +kernel)
theorem dX12_way_35 : decode cX12_way 35 = .ok (.aload_n 0, 1) := dk_42 (by decide +kernel)
theorem dX12_way_36 : decode cX12_way 36 = .ok (.bipush 22, 2) := dk_16 (by decide +kernel)
theorem dX12_way_38 : decode cX12_way 38 = .ok (.aload_n 0, 1) := dk_42 (by decide +kernel)
theorem dX12_way_39 : decode cX12_way 39 = .ok (.getfield 203, 3) := dk_180 (by decide +kernel)
theorem dX12_way_42 : decode cX12_way 42 = .ok (.iload_n 3, 1) := dk_29 (by decide +kernel)
theorem dX12_way_43 : decode cX12_way 43 = .ok (.iaload, 1) := dk_46 (by decide +kernel)
theorem dX12_way_44 : decode cX12_way 44 = .ok (.ineg, 1) := dk_116 (by decide +kernel)
theorem dX12_way_45 : decode cX12_way 45 = .ok (.i2l, 1) := dk_133 (by decide +kernel)
theorem dX12_way_46 : decode cX12_way 46 = .ok (.invokevirtual 369, 3) := dk_182 (by decide +kernel)
theorem dX12_way_49 : decode cX12_way 49 = .ok (.aload_n 0, 1) := dk_42 (by decide +kernel)
theorem dX12_way_50 : decode cX12_way 50 = .ok (.bipush 24, 2) := dk_16 (by decide +kernel)
theorem dX12_way_52 : decode cX12_way 52 = .ok (.bipush 22, 2) := dk_16 (by decide +kernel)
theorem dX12_way_54 : decode cX12_way 54 = .ok (.sipush 1008, 3) := dk_17 (by decide +kernel)
theorem dX12_way_57 : decode cX12_way 57 = .ok (.invokevirtual 390, 3) := dk_182 (by decide +kernel)
theorem dX12_way_60 : decode cX12_way 60 = .ok (.iconst 0, 1) := dk_3 (by decide +kernel)
theorem dX12_way_61 : decode cX12_way 61 = .ok (.istore 4, 2) := dk_54 (by decide +kernel)
theorem dX12_way_63 : decode cX12_way 63 = .ok (.iload 4, 2) := dk_21 (by decide +kernel)
theorem dX12_way_65 : decode cX12_way 65 = .ok (.aload_n 0, 1) := dk_42 (by decide +kernel)
theorem dX12_way_66 : decode cX12_way 66 = .ok (.getfield 774, 3) := dk_180 (by decide +kernel)
theorem dX12_way_69 : decode cX12_way 69 = .ok (.if_icmp .ge 60, 3) := dk_162 (by decide +kernel)
theorem dX12_way_72 : decode cX12_way 72 = .ok (.aload_n 0, 1) := dk_42 (by decide +kernel)
theorem dX12_way_73 : decode cX12_way 73 = .ok (.bipush 22, 2) := dk_16 (by decide +kernel)
theorem dX12_way_75 : decode cX12_way 75 = .ok (.aload_n 0, 1) := dk_42 (by decide +kernel)
theorem dX12_way_76 : decode cX12_way 76 = .ok (.getfield 203, 3) := dk_180 (by decide +kernel)
theorem dX12_way_79 : decode cX12_way 79 = .ok (.iload_n 3, 1) := dk_29 (by decide +kernel)
theorem dX12_way_80 : decode cX12_way 80 = .ok (.iconst 1, 1) := dk_4 (by decide +kernel)
theorem dX12_way_81 : decode cX12_way 81 = .ok (.iadd, 1) := dk_96 (by decide +kernel)
theorem dX12_way_82 : decode cX12_way 82 = .ok (.iload 4, 2) := dk_21 (by decide +kernel)
theorem dX12_way_84 : decode cX12_way 84 = .ok (.iadd, 1) := dk_96 (by decide +kernel)
theorem dX12_way_85 : decode cX12_way 85 = .ok (.iaload, 1) := dk_46 (by decide +kernel)
theorem dX12_way_86 : decode cX12_way 86 = .ok (.i2l, 1) := dk_133 (by decide +kernel)
theorem dX12_way_87 : decode cX12_way 87 = .ok (.invokevirtual 369, 3) := dk_182 (by decide +kernel)
theorem dX12_way_90 : decode cX12_way 90 = .ok (.aload_n 0, 1) := dk_42 (by decide +kernel)
theorem dX12_way_91 : decode cX12_way 91 = .ok (.bipush 23, 2) := dk_16 (by decide +kernel)
theorem dX12_way_93 : decode cX12_way 93 = .ok (.bipush 22, 2) := dk_16 (by decide +kernel)
theorem dX12_way_95 : decode cX12_way 95 = .ok (.sipush 1000, 3) := dk_17 (by decide +kernel)
theorem dX12_way_98 : decode cX12_way 98 = .ok (.iload 4, 2) := dk_21 (by decide +kernel)
theorem dX12_way_100 : decode cX12_way 100 = .ok (.iadd, 1) := dk_96 (by decide +kernel)
theorem dX12_way_101 : decode cX12_way 101 = .ok (.invokevirtual 390, 3) := dk_182 (by decide +kernel)
theorem dX12_way_104 : decode cX12_way 104 = .ok (.aload_n 0, 1) := dk_42 (by decide +kernel)
theorem dX12_way_105 : decode cX12_way 105 = .ok (.bipush 25, 2) := dk_16 (by decide +kernel)
theorem dX12_way_107 : decode cX12_way 107 = .ok (.bipush 24, 2) := dk_16 (by decide +kernel)
theorem dX12_way_109 : decode cX12_way 109 = .ok (.bipush 23, 2) := dk_16 (by decide +kernel)
theorem dX12_way_111 : decode cX12_way 111 = .ok (.iconst 1, 1) := dk_4 (by decide +kernel)
theorem dX12_way_112 : decode cX12_way 112 = .ok (.invokevirtual 443, 3) := dk_182 (by decide +kernel)
theorem dX12_way_115 : decode cX12_way 115 = .ok (.aload_n 0, 1) := dk_42 (by decide +kernel)
theorem dX12_way_116 : decode cX12_way 116 = .ok (.bipush 24, 2) := dk_16 (by decide +kernel)
theorem dX12_way_118 : decode cX12_way 118 = .ok (.bipush 25, 2) := dk_16 (by decide +kernel)
theorem dX12_way_120 : decode cX12_way 120 = .ok (.invokevirtual 365, 3) := dk_182 (by decide +kernel)
theorem dX12_way_123 : decode cX12_way 123 = .ok (.iinc 4 1, 3) := dk_132 (by decide +kernel)
theorem dX12_way_126 : decode cX12_way 126 = .ok (.goto (-63), 3) := dk_167 (by decide +kernel)
theorem dX12_way_129 : decode cX12_way 129 = .ok (.aload_n 0, 1) := dk_42 (by decide +kernel)
theorem dX12_way_130 : decode cX12_way 130 = .ok (.getfield 206, 3) := dk_180 (by decide +kernel)
theorem dX12_way_133 : decode cX12_way 133 = .ok (.iconst 3, 1) := dk_6 (by decide +kernel)
theorem dX12_way_134 : decode cX12_way 134 = .ok (.iload_n 1, 1) := dk_27 (by decide +kernel)
theorem dX12_way_135 : decode cX12_way 135 = .ok (.imul, 1) := dk_104 (by decide +kernel)
theorem dX12_way_136 : decode cX12_way 136 = .ok (.iload_n 2, 1) := dk_28 (by decide +kernel)
theorem dX12_way_137 : decode cX12_way 137 = .ok (.iadd, 1) := dk_96 (by decide +kernel)
theorem dX12_way_138 : decode cX12_way 138 = .ok (.iaload, 1) := dk_46 (by decide +kernel)
theorem dX12_way_139 : decode cX12_way 139 = .ok (.istore 4, 2) := dk_54 (by decide +kernel)
theorem dX12_way_141 : decode cX12_way 141 = .ok (.iload 4, 2) := dk_21 (by decide +kernel)
theorem dX12_way_143 : decode cX12_way 143 = .ok (.ifCond .ne 15, 3) := dk_154 (by decide +kernel)
theorem dX12_way_146 : decode cX12_way 146 = .ok (.aload_n 0, 1) := dk_42 (by decide +kernel)
theorem dX12_way_147 : decode cX12_way 147 = .ok (.bipush 24, 2) := dk_16 (by decide +kernel)
theorem dX12_way_149 : decode cX12_way 149 = .ok (.invokevirtual 353, 3) := dk_182 (by decide +kernel)
theorem dX12_way_152 : decode cX12_way 152 = .ok (.ifCond .gt 35, 3) := dk_157 (by decide +kernel)
theorem dX12_way_155 : decode cX12_way 155 = .ok (.goto 30, 3) := dk_167 (by decide +kernel)
theorem dX12_way_158 : decode cX12_way 158 = .ok (.iload 4, 2) := dk_21 (by decide +kernel)
theorem dX12_way_160 : decode cX12_way 160 = .ok (.iconst 1, 1) := dk_4 (by decide +kernel)
theorem dX12_way_161 : decode cX12_way 161 = .ok (.if_icmp .ne 15, 3) := dk_160 (by decide +kernel)
theorem dX12_way_164 : decode cX12_way 164 = .ok (.aload_n 0, 1) := dk_42 (by decide +kernel)
theorem dX12_way_165 : decode cX12_way 165 = .ok (.bipush 24, 2) := dk_16 (by decide +kernel)
theorem dX12_way_167 : decode cX12_way 167 = .ok (.invokevirtual 353, 3) := dk_182 (by decide +kernel)
theorem dX12_way_170 : decode cX12_way 170 = .ok (.ifCond .lt 17, 3) := dk_155 (by decide +kernel)
theorem dX12_way_173 : decode cX12_way 173 = .ok (.goto 12, 3) := dk_167 (by decide +kernel)
theorem dX12_way_176 : decode cX12_way 176 = .ok (.aload_n 0, 1) := dk_42 (by decide +kernel)
theorem dX12_way_177 : decode cX12_way 177 = .ok (.bipush 24, 2) := dk_16 (by decide +kernel)
theorem dX12_way_179 : decode cX12_way 179 = .ok (.invokevirtual 353, 3) := dk_182 (by decide +kernel)
theorem dX12_way_182 : decode cX12_way 182 = .ok (.ifCond .ne 5, 3) := dk_154 (by decide +kernel)
theorem dX12_way_185 : decode cX12_way 185 = .ok (.iload_n 2, 1) := dk_28 (by decide +kernel)
theorem dX12_way_186 : decode cX12_way 186 = .ok (.ireturn, 1) := dk_172 (by decide +kernel)
theorem dX12_way_187 : decode cX12_way 187 = .ok (.iinc 2 1, 3) := dk_132 (by decide +kernel)
theorem dX12_way_190 : decode cX12_way 190 = .ok (.goto (-174), 3) := dk_167 (by decide +kernel)
theorem dX12_way_193 : decode cX12_way 193 = .ok (.iconst (-1), 1) := dk_2 (by decide +kernel)
theorem dX12_way_194 : decode cX12_way 194 = .ok (.ireturn, 1) := dk_172 (by decide +kernel)
def wsRX12_way : List Cond := .code yX12_way cX12_way 5 (some .int) :: ([.fieldLink RX12 786 "OptimaWorksModel" "modelRows" "I", .fieldLink RX12 200 "OptimaWorksModel" "wayMany" "[I", .fieldLink RX12 203 "OptimaWorksModel" "wayNumber" "[I", .fieldLink RX12 774 "OptimaWorksModel" "variables" "I", .fieldLink RX12 206 "OptimaWorksModel" "waySign" "[I"] ++ wsX120 ++ (wsV RX12 944 RX12 yX12_canTell wsRX12_canTell) ++ (wsV RX12 369 RX12 yX12_put wsRX12_put) ++ (wsV RX12 390 RX12 yX12_times wsRX12_times) ++ (wsV RX12 353 RX12 yX12_sign wsRX12_sign) ++ (wsV RX12 443 RX12 yX12_add wsRX12_add) ++ (wsV RX12 365 RX12 yX12_copy wsRX12_copy))
theorem iwsRX12_way_in12 : ∀ w ∈ wsX120, w ∈ wsRX12_way := fun _ h => List.mem_cons_of_mem _ (List.mem_append_left _ (List.mem_append_left _ (List.mem_append_left _ (List.mem_append_left _ (List.mem_append_left _ (List.mem_append_left _ (List.mem_append_right _ h)))))))
theorem gwsRX12_way_0 : GoodIn wsRX12_way (wsV RX12 944 RX12 yX12_canTell wsRX12_canTell) := goodIn_sub (fun _ h => List.mem_cons_of_mem _ (List.mem_append_left _ (List.mem_append_left _ (List.mem_append_left _ (List.mem_append_left _ (List.mem_append_left _ (List.mem_append_right _ h))))))) (gdV (by decide +kernel) gdwsRX12_canTell)
theorem gwsRX12_way_1 : GoodIn wsRX12_way (wsV RX12 369 RX12 yX12_put wsRX12_put) := goodIn_sub (fun _ h => List.mem_cons_of_mem _ (List.mem_append_left _ (List.mem_append_left _ (List.mem_append_left _ (List.mem_append_left _ (List.mem_append_right _ h)))))) (gdV (by decide +kernel) gdwsRX12_put)
theorem gwsRX12_way_2 : GoodIn wsRX12_way (wsV RX12 390 RX12 yX12_times wsRX12_times) := goodIn_sub (fun _ h => List.mem_cons_of_mem _ (List.mem_append_left _ (List.mem_append_left _ (List.mem_append_left _ (List.mem_append_right _ h))))) (gdV (by decide +kernel) gdwsRX12_times)
theorem gwsRX12_way_3 : GoodIn wsRX12_way (wsV RX12 353 RX12 yX12_sign wsRX12_sign) := goodIn_sub (fun _ h => List.mem_cons_of_mem _ (List.mem_append_left _ (List.mem_append_left _ (List.mem_append_right _ h)))) (gdV (by decide +kernel) gdwsRX12_sign)
theorem gwsRX12_way_4 : GoodIn wsRX12_way (wsV RX12 443 RX12 yX12_add wsRX12_add) := goodIn_sub (fun _ h => List.mem_cons_of_mem _ (List.mem_append_left _ (List.mem_append_right _ h))) (gdV (by decide +kernel) gdwsRX12_add)
theorem gwsRX12_way_5 : GoodIn wsRX12_way (wsV RX12 365 RX12 yX12_copy wsRX12_copy) := goodIn_sub (fun _ h => List.mem_cons_of_mem _ (List.mem_append_right _ h)) (gdV (by decide +kernel) gdwsRX12_copy)
theorem gdwsRX12_way : wsRX12_way.all goodWord = true := gdC rfl (gdA (gdA (gdA (gdA (gdA (gdA (gdA (by decide +kernel : ([.fieldLink RX12 786 "OptimaWorksModel" "modelRows" "I", .fieldLink RX12 200 "OptimaWorksModel" "wayMany" "[I", .fieldLink RX12 203 "OptimaWorksModel" "wayNumber" "[I", .fieldLink RX12 774 "OptimaWorksModel" "variables" "I", .fieldLink RX12 206 "OptimaWorksModel" "waySign" "[I"] : List Cond).all goodWord = true) gdwsX120) (gdV (by decide +kernel) gdwsRX12_canTell)) (gdV (by decide +kernel) gdwsRX12_put)) (gdV (by decide +kernel) gdwsRX12_times)) (gdV (by decide +kernel) gdwsRX12_sign)) (gdV (by decide +kernel) gdwsRX12_add)) (gdV (by decide +kernel) gdwsRX12_copy))
set_option maxHeartbeats 4000000 in
set_option maxRecDepth 100000 in
/-- way(r) -/
theorem r_X12_way (l : Launch) (dC : Nat → ClassId) (dI : Nat → Nat → Nat) (a : Nat → Nat) (k : Nat → ClassId) (h0 : Nat) (vi : Nat → Int32) (vj : Nat → Int64) (vF : Nat → Nat → Int32) (vG : Nat → Nat → Int64) (rI : Int32) (vn : Nat) (mr : Nat) (gq : Nat) (mg : Nat → Int) (hBg : Bg (vF 0) mg) (hvn : vi 90 = nI vn) (hvn8 : vn ≤ 8) (hmr : vi 91 = nI mr) (hmr12 : mr ≤ 12) (hM : MdlB vF gq) (hwm : WmO (vF 59) mr) (hA0 : AnsB mg 1000) (sz : Nat) : Met l yX12_way wsRX12_way ({ frames := 2, cells := 0, slots := 0, locals := 63 }) (va_Pc [.ref h0, .int rI] (fun U => U.heap.size = sz ∧ va_P (dC, dI) vwCl (WR a k h0 vi vj vF vG) U.heap ∧ va_K (dC, dI) vwCl (tX12 k) U ∧ va_D (fun _ => True) (WR a k h0 vi vj vF vG))) (va_Qi (fun (r : Int32) (u : (Int32) × (Nat → Int32) × (Nat → Int64) × (Nat → Int)) => (Bg (u.2.1) (u.2.2.2)) ∧ (∀ q, (q < 22 ∨ 25 < q) → (u.2.2.2) q = mg q)) (fun (u : (Int32) × (Nat → Int32) × (Nat → Int64) × (Nat → Int)) t => va_P (dC, dI) vwCl (WR a k h0 (fT vi 0 (u.1)) vj (fT vF 0 (u.2.1)) (fT vG 1 (u.2.2.1))) t.heap ∧ va_D (va_A (WR a k h0 vi vj vF vG) sz) (WR a k h0 (fT vi 0 (u.1)) vj (fT vF 0 (u.2.1)) (fT vG 1 (u.2.2.1)))) (va_A (WR a k h0 vi vj vF vG) sz)) 0 0 (va_A (WR a k h0 vi vj vF vG) sz) := by
  refine Met.ofW (cc := cX12_way) (maxL := 5) (ret := (some .int)) (by decide) rfl ?_
  intro p e s m args below meth c s₁ B hml hv
  obtain ⟨rfl, hsz, hP, hK, hD0⟩ := hv
  have hx := B.exec
  have hb := B.bytes
  have hr := B.returns
  have hts := atoms_spec (ws := wsRX12_way) B.pre
  have hown : s.vm.findClass RX12 = some m.cls := findClass_of_methodNamed B.named
  have hlocks := B.notSynchronized
  subst hsz
  have hD := hD0.self (sz := s.heap.size)
  generalize hAe : va_A (WR a k h0 vi vj vF vG) s.heap.size = A at hD ⊢
  have hA : ∀ q : Nat, s.heap.size ≤ q → A q := fun q h => by rw [← hAe]; exact Or.inr h
  have hS : va_S A s.heap s.heap [] := va_S.rf
  have hl := lv_entry ([.ref h0, .int rI]) (n := 5) (Nat.le_of_ble_eq_true rfl)
  rw [lg_entry_eq]
  generalize (lg_sl ([.ref h0, .int rI]) ++ List.replicate (5 - (lg_sl ([.ref h0, .int rI])).length) Slot.unset).toArray = ls at hl ⊢
  have hl : lv_has ls 5 [(0, .ref h0), (1, .int rI)] := hl
  refine lv_aload_n hx hb dX12_way_0 rfl (lv_at hl 0 rfl) ?_
  refine lv_iload_n hx hb dX12_way_1 rfl (lv_at hl 1 rfl) ?_
  refine lv_aload_n hx hb dX12_way_2 rfl (lv_at hl 0 rfl) ?_
  refine va_get (D := (dC, dI)) (ci := 12) (v := .int (vi 91)) (C := RX12) (T := TX12) (N := 163) (fs := fM (vS a vi vj)) hx hb hts iwsRX12_way_in12 hown hK hP 0 rfl rfl 91 (by decide) (hts (.fieldLink RX12 786 "OptimaWorksModel" "modelRows" "I") (by decide +kernel)) (fun _ h9 => h9) rfl dX12_way_3 ?_
  refine lv_topi (fun y1 hy1 => ?_)
  obtain rfl : (nI mr) = y1 := (hy1.trans (hmr)).symm
  have hFc := allFree hD hS hA
  refine va_calli (va_runV (As := [.int rI, .int (nI mr)]) (rest := []) ⟨hx, hb, hml, hown, hts⟩ (r_X12_canTell l dC dI a k h0 vi vj vF vG rI (nI mr) s.heap.size) (cwV 2 hts gwsRX12_way_0 rfl rfl rfl hd_yX12_canTell_RX12 (by decide +kernel)) (fz_pre (va_recv hK hP (ci := 12) (q0 := 0) rfl rfl) hP hK hD) rfl rfl hl.1 rfl (lv_room (Nat.le_of_ble_eq_true rfl)) dX12_way_6 (by decide +kernel)) hS (fun q _ h => hFc q h) hFc (fun r6 u t9_ H locs ht hvm hw9 hB9 hz1 hk1 hS => ?_)
  obtain ⟨th6, hwit6⟩ : ∃ w9, w9 = u := ⟨u, rfl⟩
  subst hwit6
  have hP : va_P (dC, dI) vwCl (WR a k h0 (fT vi 0 th6) vj vF vG) H := fz_P ht hB9.1
  have hD : va_D A (WR a k h0 (fT vi 0 th6) vj vF vG) := hB9.2.weaken (fun _ q _ h => hFc q.1 h)
  rcases hw9 with ⟨rfl, f6_0, f6_1, f6_2, rfl⟩ | ⟨rfl, f6_0⟩
  · have f6_0 : (vi 95) ≠ 0 := f6_0
    have f6_1 : (vi 113) ≠ 0 := f6_1
    refine lv_if_ne (tgt := 14) hx hb dX12_way_9 (by decide) (fun _ => ?_) (fun c9 => absurd c9 (by decide))
    have emr : (nI mr).toInt = (mr : Int) := nI_toInt (by omega)
    obtain ⟨rn, h_rn, rfl⟩ := of_toInt (x := rI) (k := 12) (by omega) (by omega)
    have e_rn : (nI rn).toInt = (rn : Int) := nI_toInt (by omega)
    obtain ⟨wk, ewk, hwk1, hwk3⟩ := hwm rn (by omega)
    refine lv_iconst (v := 0) hx hb dX12_way_14 (by decide) ?_
    refine lv_istore_n hx hb dX12_way_15 rfl hl (by decide) rfl (fun ls (hl : lv_has ls _ ([(2, .int 0), (0, .ref h0), (1, .int (nI rn))])) => ?_)
    have e9 : fT vF 0 (vF 0) = vF := by funext q9; by_cases h9_0 : q9 = 0; (subst h9_0; exact (fT_eq _ _ _).trans (Eq.trans (by first | rfl | assumption | (symm; assumption) | (subst_vars; rfl)) (Eq.refl _).symm)); exact (fT_ne _ _ h9_0).trans (Eq.refl _).symm
    have hP : va_P (dC, dI) vwCl (WR a k h0 (fT vi 0 0) vj (fT vF 0 (vF 0)) vG) H := by rw [e9]; exact hP
    have hD : va_D A (WR a k h0 (fT vi 0 0) vj (fT vF 0 (vF 0)) vG) := by rw [e9]; exact hD
    clear e9
    have e9 : fT vG 1 (vG 1) = vG := by funext q9; by_cases h9_1 : q9 = 1; (subst h9_1; exact (fT_eq _ _ _).trans (Eq.trans (by first | rfl | assumption | (symm; assumption) | (subst_vars; rfl)) (Eq.refl _).symm)); exact (fT_ne _ _ h9_1).trans (Eq.refl _).symm
    have hP : va_P (dC, dI) vwCl (WR a k h0 (fT vi 0 0) vj (fT vF 0 (vF 0)) (fT vG 1 (vG 1))) H := by rw [e9]; exact hP
    have hD : va_D A (WR a k h0 (fT vi 0 0) vj (fT vF 0 (vF 0)) (fT vG 1 (vG 1))) := by rw [e9]; exact hD
    clear e9
    have hl : lv_has _ _ ([(0, .ref h0), (1, .int (nI rn)), (2, .int (nI 0))]) := lv_sub hl [1, 2, 0] rfl
    refine (fun (loop : ∀ (n9 : Nat) (w5 : Nat) (x2_F0 : Nat → Int32) (x2_G1 : Nat → Int64) (m1 : Nat → Int) (H : Heap) (locs : List Loc) (ls : Array Slot), (Bg x2_F0 m1) → (w5 ≤ wk) → (∀ q, (q < 22 ∨ 25 < q) → m1 q = mg q) →  (wk < w5 + n9) → va_P (dC, dI) vwCl (WR a k h0 (fT vi 0 0) vj (fT vF 0 x2_F0) (fT vG 1 x2_G1)) H → va_D A (WR a k h0 (fT vi 0 0) vj (fT vF 0 x2_F0) (fT vG 1 x2_G1)) → va_S A s.heap H locs → lv_has ls 5 [(0, .ref h0), (1, .int (nI rn)), (2, .int (nI w5))] → W p l e _ s m _ below meth c H locs 0 0 _ (F0 m 16 ls [])) => loop (wk + 1) 0 (vF 0) (vG 1) mg _ _ _ (hBg) (by omega) (fun q _ => rfl) (by omega) hP hD hS hl) ?_
    intro n9
    induction n9 with
    | zero => intro w5 x2_F0 x2_G1 m1 H locs ls hB1 hw5 ho hf9; exact False.elim (by omega)
    | succ n9 ih16 =>
      intro w5 x2_F0 x2_G1 m1 H locs ls hB1 hw5 ho hf16 hP hD hS hl
      refine lv_iload_n hx hb dX12_way_16 rfl (lv_at hl 2 rfl) ?_
      refine lv_aload_n hx hb dX12_way_17 rfl (lv_at hl 0 rfl) ?_
      refine va_get (D := (dC, dI)) (ci := 12) (v := .ref (a 59)) (C := RX12) (T := TX12) (N := 163) (fs := fM (vS a (fT vi 0 0) vj)) hx hb hts iwsRX12_way_in12 hown hK hP 0 rfl rfl 99 (by decide) (hts (.fieldLink RX12 200 "OptimaWorksModel" "wayMany" "[I") (by decide +kernel)) (fun _ h9 => h9) rfl dX12_way_18 ?_
      refine lv_iload_n hx hb dX12_way_21 rfl (lv_at hl 1 rfl) ?_
      refine va_iald (cA := k 59) (n := 13) (f := (vF 59)) hx hb hK hP 60 59 (WR_get 59 (by decide)) (TR_get 59 (by decide)) (vp_in_nI (show rn < 13 by omega) (by omega)) dX12_way_22 ?_
      refine lv_topi (fun y2 hy2 => ?_)
      obtain rfl : ((vF 59) rn) = y2 := (hy2.trans (by rw [nI_clamp (by omega)])).symm
      refine lv_topi (fun y3 hy3 => ?_)
      obtain rfl : (nI wk) = y3 := (hy3.trans (ewk)).symm
      refine lv_icmp_ge (tgt := 193) hx hb dX12_way_23 (by decide) (fun c_23 => ?_) (fun c_23 => ?_)
      · have t_23 : ((w5 : Nat) : Int) ≥ ((wk : Nat) : Int) := toI_ge c_23 (nI_toInt (by omega)) (nI_toInt (by omega))
        refine lv_iconst (v := (-1)) hx hb dX12_way_193 (by decide) ?_
        refine W.widen (k := 0) (n := 0) (by decide +kernel) (by decide +kernel) ?_
        exact W.iret (v := (-1)) hx hb hr (fun t9_ ht hW => ⟨⟨(-1), (0, x2_F0, x2_G1, m1), rfl, by (try dsimp only); exact ⟨hB1, ho⟩, by rw [ht]; exact hP, hD⟩, hS.F ht⟩) hS.2.2 dX12_way_194
      · have t_23 : ¬ ((w5 : Nat) : Int) ≥ ((wk : Nat) : Int) := toI_nge c_23 (nI_toInt (by omega)) (nI_toInt (by omega))
        refine lv_bipush (v := 9) hx hb dX12_way_26 (by decide) ?_
        refine lv_iconst (v := 3) hx hb dX12_way_28 (by decide) ?_
        refine lv_iload_n hx hb dX12_way_29 rfl (lv_at hl 1 rfl) ?_
        refine lv_imul hx hb dX12_way_30 ?_
        refine lv_topi (fun y4 hy4 => ?_)
        obtain rfl : (nI (3 * rn)) = y4 := (hy4.trans (pk_mul 3 rn)).symm
        refine lv_iload_n hx hb dX12_way_31 rfl (lv_at hl 2 rfl) ?_
        refine lv_iadd hx hb dX12_way_32 ?_
        refine lv_topi (fun y5 hy5 => ?_)
        obtain rfl : (nI ((3 * rn) + w5)) = y5 := (hy5.trans (nI_add (3 * rn) w5)).symm
        refine lv_imul hx hb dX12_way_33 ?_
        refine lv_topi (fun y6 hy6 => ?_)
        obtain rfl : (nI (9 * ((3 * rn) + w5))) = y6 := (hy6.trans (pk_mul 9 ((3 * rn) + w5))).symm
        refine lv_istore_n hx hb dX12_way_34 rfl hl (by decide) rfl (fun ls (hl : lv_has ls _ ([(3, .int (nI (9 * ((3 * rn) + w5)))), (0, .ref h0), (1, .int (nI rn)), (2, .int (nI w5))])) => ?_)
        have b0 := hM.2.2.1 (3 * rn + w5) (by omega)
        have bn := neg32 (x := (vF 60 (9 * (3 * rn + w5)))) (b := 99999) (by omega) (by decide)
        have s22 : Sz 17 (-(vF 60 (9 * (3 * rn + w5)))).toInt := by show _ < 2 ^ 17; exact Nat.lt_of_le_of_lt bn.1 (by decide)
        have s8 : Sz 131 (mg 1008) := hA0.1 8 (by omega)
        have s24 : Sz 148 ((-(vF 60 (9 * (3 * rn + w5)))).toInt * mg 1008) := mulp s22 s8 (by decide)
        refine lv_aload_n hx hb dX12_way_35 rfl (lv_at hl 1 rfl) ?_
        refine lv_bipush (v := 22) hx hb dX12_way_36 (by decide) ?_
        refine lv_aload_n hx hb dX12_way_38 rfl (lv_at hl 1 rfl) ?_
        refine va_get (D := (dC, dI)) (ci := 12) (v := .ref (a 60)) (C := RX12) (T := TX12) (N := 163) (fs := fM (vS a (fT vi 0 0) vj)) hx hb hts iwsRX12_way_in12 hown hK hP 0 rfl rfl 100 (by decide) (hts (.fieldLink RX12 203 "OptimaWorksModel" "wayNumber" "[I") (by decide +kernel)) (fun _ h9 => h9) rfl dX12_way_39 ?_
        refine lv_iload_n hx hb dX12_way_42 rfl (lv_at hl 0 rfl) ?_
        refine va_iald (cA := k 60) (n := 351) (f := (vF 60)) hx hb hK hP 61 60 (WR_get 60 (by decide)) (TR_get 60 (by decide)) (vp_in_nI (show (9 * ((3 * rn) + w5)) < 351 by omega) (by omega)) dX12_way_43 ?_
        refine lv_topi (fun y7 hy7 => ?_)
        obtain rfl : ((vF 60) (9 * ((3 * rn) + w5))) = y7 := (hy7.trans (by rw [nI_clamp (by omega)])).symm
        refine lv_ineg hx hb dX12_way_44 ?_
        refine lv_i2l hx hb dX12_way_45 rfl ?_
        have hFc := allFree hD hS hA
        refine va_callv (va_runV (As := [.int 22, .long ((-((vF 60) (9 * ((3 * rn) + w5))))).toInt64]) (rest := []) ⟨hx, hb, hml, hown, hts⟩ (b_X12_put l dC dI a k h0 (fT vi 0 0) vj (fT vF 0 x2_F0) (fT vG 1 x2_G1) 22 (((-((vF 60) (9 * ((3 * rn) + w5))))).toInt64) ((-(vF 60 (9 * (3 * rn + w5)))).toInt) m1 hB1 (by first | assumption | decide | omega | rfl) (i64T _) (by omega) H.size) (cwV 2 hts gwsRX12_way_1 rfl rfl rfl hd_yX12_put_RX12 (by decide +kernel)) (fz_pre (va_recv hK hP (ci := 12) (q0 := 0) rfl rfl) hP hK hD) rfl rfl hl.1 rfl (lv_room (Nat.le_of_ble_eq_true rfl)) dX12_way_46 (by decide +kernel)) hS (fun q _ h => hFc q h) hFc (fun u t9_ H locs ht hvm hw9 hB9 hz1 hk1 hS => ?_)
        obtain ⟨g46, hwit46⟩ : ∃ w9, w9 = u := ⟨u, rfl⟩
        subst hwit46
        have hP : va_P (dC, dI) vwCl (WR a k h0 (fT vi 0 0) vj (fT (fT vF 0 x2_F0) 0 g46) (fT vG 1 x2_G1)) H := fz_P ht hB9.1
        have hD : va_D A (WR a k h0 (fT vi 0 0) vj (fT (fT vF 0 x2_F0) 0 g46) (fT vG 1 x2_G1)) := hB9.2.weaken (fun _ q _ h => hFc q.1 h)
        have e9 : fT vF 0 g46 = fT (fT vF 0 x2_F0) 0 g46 := (fT_sm _ _ _ _).symm
        rw [← e9] at hP hD
        clear e9
        have hP : va_P (dC, dI) vwCl (WR a k h0 (fT vi 0 0) vj (fT vF 0 g46) (fT vG 1 x2_G1)) H := hP
        have hD : va_D A (WR a k h0 (fT vi 0 0) vj (fT vF 0 g46) (fT vG 1 x2_G1)) := hD
        have f46_0 := hw9
        try dsimp only at f46_0
        refine lv_aload_n hx hb dX12_way_49 rfl (lv_at hl 1 rfl) ?_
        refine lv_bipush (v := 24) hx hb dX12_way_50 (by decide) ?_
        refine lv_bipush (v := 22) hx hb dX12_way_52 (by decide) ?_
        refine lv_sipush (v := 1008) hx hb dX12_way_54 (by decide) ?_
        have hFc := allFree hD hS hA
        refine va_callv (va_runV (As := [.int 24, .int 22, .int 1008]) (rest := []) ⟨hx, hb, hml, hown, hts⟩ (b_X12_times l dC dI a k h0 (fT vi 0 0) vj (fT vF 0 g46) (fT vG 1 x2_G1) 24 22 1008 (fT m1 22 ((-(vF 60 (9 * (3 * rn + w5)))).toInt)) f46_0 ((-(vF 60 (9 * (3 * rn + w5)))).toInt) (m1 1008) (by rw [fT_eq]) (by rw [fT_ne _ _ (by omega)]) (by first | assumption | decide | omega | rfl) (by first | assumption | decide | omega | rfl) (by first | assumption | decide | omega | rfl) (by rw [ho 1008 (by omega)]; exact mulpN (c := 588) s22 s8 (by decide)) H.size) (cwV 3 hts gwsRX12_way_2 rfl rfl rfl hd_yX12_times_RX12 (by decide +kernel)) (fz_pre (va_recv hK hP (ci := 12) (q0 := 0) rfl rfl) hP hK hD) rfl rfl hl.1 rfl (lv_room (Nat.le_of_ble_eq_true rfl)) dX12_way_57 (by decide +kernel)) hS (fun q _ h => hFc q h) hFc (fun u t9_ H locs ht hvm hw9 hB9 hz1 hk1 hS => ?_)
        obtain ⟨g57, gs57⟩ := u
        try dsimp only at hw9 hB9
        have hP : va_P (dC, dI) vwCl (WR a k h0 (fT vi 0 0) vj (fT (fT vF 0 g46) 0 g57) (fT (fT vG 1 x2_G1) 1 gs57)) H := fz_P ht hB9.1
        have hD : va_D A (WR a k h0 (fT vi 0 0) vj (fT (fT vF 0 g46) 0 g57) (fT (fT vG 1 x2_G1) 1 gs57)) := hB9.2.weaken (fun _ q _ h => hFc q.1 h)
        have e9 : fT vF 0 g57 = fT (fT vF 0 g46) 0 g57 := (fT_sm _ _ _ _).symm
        rw [← e9] at hP hD
        clear e9
        have e9 : fT vG 1 gs57 = fT (fT vG 1 x2_G1) 1 gs57 := (fT_sm _ _ _ _).symm
        rw [← e9] at hP hD
        clear e9
        have hP : va_P (dC, dI) vwCl (WR a k h0 (fT vi 0 0) vj (fT vF 0 g57) (fT vG 1 gs57)) H := hP
        have hD : va_D A (WR a k h0 (fT vi 0 0) vj (fT vF 0 g57) (fT vG 1 gs57)) := hD
        have f57_0 := hw9
        try dsimp only at f57_0
        refine lv_iconst (v := 0) hx hb dX12_way_60 (by decide) ?_
        refine lv_istore hx hb dX12_way_61 hl (by decide) rfl (fun ls (hl : lv_has ls _ ([(4, .int 0), (3, .int (nI (9 * ((3 * rn) + w5)))), (0, .ref h0), (1, .int (nI rn)), (2, .int (nI w5))])) => ?_)
        have hl : lv_has _ _ ([(0, .ref h0), (1, .int (nI rn)), (2, .int (nI w5)), (3, .int (nI (9 * ((3 * rn) + w5)))), (4, .int (nI 0))]) := lv_sub hl [2, 3, 4, 1, 0] rfl
        refine (fun (loop : ∀ (n9 : Nat) (k5 : Nat) (x3_F0 : Nat → Int32) (x3_G1 : Nat → Int64) (m3 : Nat → Int) (x24 : Int) (H : Heap) (locs : List Loc) (ls : Array Slot), (Bg x3_F0 m3) → (m3 24 = x24) → (k5 ≤ vn) → (x24.natAbs ≤ 2 ^ 148 + k5 * 2 ^ 138) → (∀ q, (q < 22 ∨ 25 < q) → m3 q = mg q) →  (vn < k5 + n9) → va_P (dC, dI) vwCl (WR a k h0 (fT vi 0 0) vj (fT vF 0 x3_F0) (fT vG 1 x3_G1)) H → va_D A (WR a k h0 (fT vi 0 0) vj (fT vF 0 x3_F0) (fT vG 1 x3_G1)) → va_S A s.heap H locs → lv_has ls 5 [(0, .ref h0), (1, .int (nI rn)), (2, .int (nI w5)), (3, .int (nI (9 * ((3 * rn) + w5)))), (4, .int (nI k5))] → W p l e _ s m _ below meth c H locs 0 0 _ (F0 m 63 ls [])) => loop (vn + 1) 0 g57 gs57 (fT (fT m1 22 ((-(vF 60 (9 * (3 * rn + w5)))).toInt)) 24 (((-(vF 60 (9 * (3 * rn + w5)))).toInt) * (m1 1008))) (((-(vF 60 (9 * (3 * rn + w5)))).toInt) * (m1 1008)) _ _ _ (f57_0) ((by rw [fT_eq])) (by omega) (by rw [ho 1008 (by omega)]; (have h9 : ((-(vF 60 (9 * (3 * rn + w5)))).toInt * mg 1008).natAbs < 2 ^ 148 := s24); omega) (fun q hq => by (rw [fT_ne _ _ (by omega), fT_ne _ _ (by omega)]); exact ho q hq) (by omega) hP hD hS hl) ?_
        intro n9
        induction n9 with
        | zero => intro k5 x3_F0 x3_G1 m3 x24 H locs ls hB3 v_x24 hk5 hx24 ho3 hf9; exact False.elim (by omega)
        | succ n9 ih63_1 =>
          intro k5 x3_F0 x3_G1 m3 x24 H locs ls hB3 v_x24 hk5 hx24 ho3 hf63_1 hP hD hS hl
          refine lv_iload hx hb dX12_way_63 (lv_at hl 4 rfl) ?_
          refine lv_aload_n hx hb dX12_way_65 rfl (lv_at hl 0 rfl) ?_
          refine va_get (D := (dC, dI)) (ci := 12) (v := .int (vi 90)) (C := RX12) (T := TX12) (N := 163) (fs := fM (vS a (fT vi 0 0) vj)) hx hb hts iwsRX12_way_in12 hown hK hP 0 rfl rfl 90 (by decide) (hts (.fieldLink RX12 774 "OptimaWorksModel" "variables" "I") (by decide +kernel)) (fun _ h9 => h9) rfl dX12_way_66 ?_
          refine lv_topi (fun y8 hy8 => ?_)
          obtain rfl : (nI vn) = y8 := (hy8.trans (hvn)).symm
          refine lv_icmp_ge (tgt := 129) hx hb dX12_way_69 (by decide) (fun c_69 => ?_) (fun c_69 => ?_)
          · have t_69 : ((k5 : Nat) : Int) ≥ ((vn : Nat) : Int) := toI_ge c_69 (nI_toInt (by omega)) (nI_toInt (by omega))
            refine lv_aload_n hx hb dX12_way_129 rfl (lv_at hl 0 rfl) ?_
            refine va_get (D := (dC, dI)) (ci := 12) (v := .ref (a 61)) (C := RX12) (T := TX12) (N := 163) (fs := fM (vS a (fT vi 0 0) vj)) hx hb hts iwsRX12_way_in12 hown hK hP 0 rfl rfl 101 (by decide) (hts (.fieldLink RX12 206 "OptimaWorksModel" "waySign" "[I") (by decide +kernel)) (fun _ h9 => h9) rfl dX12_way_130 ?_
            refine lv_iconst (v := 3) hx hb dX12_way_133 (by decide) ?_
            refine lv_iload_n hx hb dX12_way_134 rfl (lv_at hl 1 rfl) ?_
            refine lv_imul hx hb dX12_way_135 ?_
            refine lv_topi (fun y9 hy9 => ?_)
            obtain rfl : (nI (3 * rn)) = y9 := (hy9.trans (pk_mul 3 rn)).symm
            refine lv_iload_n hx hb dX12_way_136 rfl (lv_at hl 2 rfl) ?_
            refine lv_iadd hx hb dX12_way_137 ?_
            refine lv_topi (fun y10 hy10 => ?_)
            obtain rfl : (nI ((3 * rn) + w5)) = y10 := (hy10.trans (nI_add (3 * rn) w5)).symm
            refine va_iald (cA := k 61) (n := 39) (f := (vF 61)) hx hb hK hP 62 61 (WR_get 61 (by decide)) (TR_get 61 (by decide)) (vp_in_nI (show ((3 * rn) + w5) < 39 by omega) (by omega)) dX12_way_138 ?_
            refine lv_topi (fun y11 hy11 => ?_)
            obtain rfl : ((vF 61) ((3 * rn) + w5)) = y11 := (hy11.trans (by rw [nI_clamp (by omega)])).symm
            refine lv_istore hx hb dX12_way_139 hl (by decide) rfl (fun ls (hl : lv_has ls _ ([(4, .int ((vF 61) ((3 * rn) + w5))), (0, .ref h0), (1, .int (nI rn)), (2, .int (nI w5)), (3, .int (nI (9 * ((3 * rn) + w5))))])) => ?_)
            refine lv_iload hx hb dX12_way_141 (lv_at hl 0 rfl) ?_
            refine lv_if_ne (tgt := 158) hx hb dX12_way_143 (by decide) (fun c_143 => ?_) (fun c_143 => ?_)
            · have t_143 : (((vF 61) ((3 * rn) + w5))).toInt ≠ 0 := toI_ne c_143 rfl (by decide)
              refine lv_iload hx hb dX12_way_158 (lv_at hl 0 rfl) ?_
              refine lv_iconst (v := 1) hx hb dX12_way_160 (by decide) ?_
              refine lv_icmp_ne (tgt := 176) hx hb dX12_way_161 (by decide) (fun c_161 => ?_) (fun c_161 => ?_)
              · have t_161 : (((vF 61) ((3 * rn) + w5))).toInt ≠ 1 := toI_ne c_161 rfl (by decide)
                refine lv_aload_n hx hb dX12_way_176 rfl (lv_at hl 1 rfl) ?_
                refine lv_bipush (v := 24) hx hb dX12_way_177 (by decide) ?_
                have hFc := allFree hD hS hA
                refine va_calli (va_runV (As := [.int 24]) (rest := []) ⟨hx, hb, hml, hown, hts⟩ (b_X12_sign l dC dI a k h0 (fT vi 0 0) vj (fT vF 0 x3_F0) (fT vG 1 x3_G1) 24 m3 hB3 x24 (by rw [v_x24]) (by first | assumption | decide | omega | rfl) H.size) (cwV 1 hts gwsRX12_way_3 rfl rfl rfl hd_yX12_sign_RX12 (by decide +kernel)) (fz_pre (va_recv hK hP (ci := 12) (q0 := 0) rfl rfl) hP hK hD) rfl rfl hl.1 rfl (lv_room (Nat.le_of_ble_eq_true rfl)) dX12_way_179 (by decide +kernel)) hS (fun q _ h => hFc q h) hFc (fun r179 u t9_ H locs ht hvm hw9 hB9 hz1 hk1 hS => ?_)
                have hP : va_P (dC, dI) vwCl (WR a k h0 (fT vi 0 0) vj (fT vF 0 x3_F0) (fT vG 1 x3_G1)) H := fz_P ht hB9.1
                have hD : va_D A (WR a k h0 (fT vi 0 0) vj (fT vF 0 x3_F0) (fT vG 1 x3_G1)) := hB9.2.weaken (fun _ q _ h => hFc q.1 h)
                have f179_0 := hw9
                try dsimp only at f179_0
                refine lv_if_ne (tgt := 187) hx hb dX12_way_182 (by decide) (fun c_182 => ?_) (fun c_182 => ?_)
                · have t_182 : (r179).toInt ≠ 0 := toI_ne c_182 rfl (by decide)
                  refine lv_iinc (v := (nI (w5 + 1))) hx hb dX12_way_187 hl (k := 3) rfl (nI_add w5 1) (by decide) rfl (fun ls (hl : lv_has ls _ ([(2, .int (nI (w5 + 1))), (4, .int ((vF 61) ((3 * rn) + w5))), (0, .ref h0), (1, .int (nI rn)), (3, .int (nI (9 * ((3 * rn) + w5))))])) => ?_)
                  refine lv_goto (tgt := 16) hx hb dX12_way_190 (by decide) ?_
                  have hl : lv_has _ _ ([(0, .ref h0), (1, .int (nI rn)), (2, .int (nI (w5 + 1)))]) := lv_sub hl [2, 3, 0] rfl
                  exact ih16 (w5 + 1) x3_F0 x3_G1 m3 _ _ _ (hB3) (by omega) (ho3) (by omega) hP hD hS hl
                · have t_182 : (r179).toInt = 0 := toI_nne c_182 rfl (by decide)
                  refine lv_iload_n hx hb dX12_way_185 rfl (lv_at hl 3 rfl) ?_
                  refine W.widen (k := 0) (n := 0) (by decide +kernel) (by decide +kernel) ?_
                  exact W.iret (v := (nI w5)) hx hb hr (fun t9_ ht hW => ⟨⟨(nI w5), (0, x3_F0, x3_G1, m3), rfl, by (try dsimp only); exact ⟨hB3, ho3⟩, by rw [ht]; exact hP, hD⟩, hS.F ht⟩) hS.2.2 dX12_way_186
              · have t_161 : (((vF 61) ((3 * rn) + w5))).toInt = 1 := toI_nne c_161 rfl (by decide)
                refine lv_aload_n hx hb dX12_way_164 rfl (lv_at hl 1 rfl) ?_
                refine lv_bipush (v := 24) hx hb dX12_way_165 (by decide) ?_
                have hFc := allFree hD hS hA
                refine va_calli (va_runV (As := [.int 24]) (rest := []) ⟨hx, hb, hml, hown, hts⟩ (b_X12_sign l dC dI a k h0 (fT vi 0 0) vj (fT vF 0 x3_F0) (fT vG 1 x3_G1) 24 m3 hB3 x24 (by rw [v_x24]) (by first | assumption | decide | omega | rfl) H.size) (cwV 1 hts gwsRX12_way_3 rfl rfl rfl hd_yX12_sign_RX12 (by decide +kernel)) (fz_pre (va_recv hK hP (ci := 12) (q0 := 0) rfl rfl) hP hK hD) rfl rfl hl.1 rfl (lv_room (Nat.le_of_ble_eq_true rfl)) dX12_way_167 (by decide +kernel)) hS (fun q _ h => hFc q h) hFc (fun r167 u t9_ H locs ht hvm hw9 hB9 hz1 hk1 hS => ?_)
                have hP : va_P (dC, dI) vwCl (WR a k h0 (fT vi 0 0) vj (fT vF 0 x3_F0) (fT vG 1 x3_G1)) H := fz_P ht hB9.1
                have hD : va_D A (WR a k h0 (fT vi 0 0) vj (fT vF 0 x3_F0) (fT vG 1 x3_G1)) := hB9.2.weaken (fun _ q _ h => hFc q.1 h)
                have f167_0 := hw9
                try dsimp only at f167_0
                refine lv_if_lt (tgt := 187) hx hb dX12_way_170 (by decide) (fun c_170 => ?_) (fun c_170 => ?_)
                · have t_170 : (r167).toInt < 0 := toI_lt c_170 rfl (by decide)
                  refine lv_iinc (v := (nI (w5 + 1))) hx hb dX12_way_187 hl (k := 3) rfl (nI_add w5 1) (by decide) rfl (fun ls (hl : lv_has ls _ ([(2, .int (nI (w5 + 1))), (4, .int ((vF 61) ((3 * rn) + w5))), (0, .ref h0), (1, .int (nI rn)), (3, .int (nI (9 * ((3 * rn) + w5))))])) => ?_)
                  refine lv_goto (tgt := 16) hx hb dX12_way_190 (by decide) ?_
                  have hl : lv_has _ _ ([(0, .ref h0), (1, .int (nI rn)), (2, .int (nI (w5 + 1)))]) := lv_sub hl [2, 3, 0] rfl
                  exact ih16 (w5 + 1) x3_F0 x3_G1 m3 _ _ _ (hB3) (by omega) (ho3) (by omega) hP hD hS hl
                · have t_170 : ¬ (r167).toInt < 0 := toI_nlt c_170 rfl (by decide)
                  refine lv_goto (tgt := 185) hx hb dX12_way_173 (by decide) ?_
                  refine lv_iload_n hx hb dX12_way_185 rfl (lv_at hl 3 rfl) ?_
                  refine W.widen (k := 0) (n := 0) (by decide +kernel) (by decide +kernel) ?_
                  exact W.iret (v := (nI w5)) hx hb hr (fun t9_ ht hW => ⟨⟨(nI w5), (0, x3_F0, x3_G1, m3), rfl, by (try dsimp only); exact ⟨hB3, ho3⟩, by rw [ht]; exact hP, hD⟩, hS.F ht⟩) hS.2.2 dX12_way_186
            · have t_143 : (((vF 61) ((3 * rn) + w5))).toInt = 0 := toI_nne c_143 rfl (by decide)
              refine lv_aload_n hx hb dX12_way_146 rfl (lv_at hl 1 rfl) ?_
              refine lv_bipush (v := 24) hx hb dX12_way_147 (by decide) ?_
              have hFc := allFree hD hS hA
              refine va_calli (va_runV (As := [.int 24]) (rest := []) ⟨hx, hb, hml, hown, hts⟩ (b_X12_sign l dC dI a k h0 (fT vi 0 0) vj (fT vF 0 x3_F0) (fT vG 1 x3_G1) 24 m3 hB3 x24 (by rw [v_x24]) (by first | assumption | decide | omega | rfl) H.size) (cwV 1 hts gwsRX12_way_3 rfl rfl rfl hd_yX12_sign_RX12 (by decide +kernel)) (fz_pre (va_recv hK hP (ci := 12) (q0 := 0) rfl rfl) hP hK hD) rfl rfl hl.1 rfl (lv_room (Nat.le_of_ble_eq_true rfl)) dX12_way_149 (by decide +kernel)) hS (fun q _ h => hFc q h) hFc (fun r149 u t9_ H locs ht hvm hw9 hB9 hz1 hk1 hS => ?_)
              have hP : va_P (dC, dI) vwCl (WR a k h0 (fT vi 0 0) vj (fT vF 0 x3_F0) (fT vG 1 x3_G1)) H := fz_P ht hB9.1
              have hD : va_D A (WR a k h0 (fT vi 0 0) vj (fT vF 0 x3_F0) (fT vG 1 x3_G1)) := hB9.2.weaken (fun _ q _ h => hFc q.1 h)
              have f149_0 := hw9
              try dsimp only at f149_0
              refine lv_if_gt (tgt := 187) hx hb dX12_way_152 (by decide) (fun c_152 => ?_) (fun c_152 => ?_)
              · have t_152 : (r149).toInt > 0 := toI_gt c_152 rfl (by decide)
                refine lv_iinc (v := (nI (w5 + 1))) hx hb dX12_way_187 hl (k := 3) rfl (nI_add w5 1) (by decide) rfl (fun ls (hl : lv_has ls _ ([(2, .int (nI (w5 + 1))), (4, .int ((vF 61) ((3 * rn) + w5))), (0, .ref h0), (1, .int (nI rn)), (3, .int (nI (9 * ((3 * rn) + w5))))])) => ?_)
                refine lv_goto (tgt := 16) hx hb dX12_way_190 (by decide) ?_
                have hl : lv_has _ _ ([(0, .ref h0), (1, .int (nI rn)), (2, .int (nI (w5 + 1)))]) := lv_sub hl [2, 3, 0] rfl
                exact ih16 (w5 + 1) x3_F0 x3_G1 m3 _ _ _ (hB3) (by omega) (ho3) (by omega) hP hD hS hl
              · have t_152 : ¬ (r149).toInt > 0 := toI_ngt c_152 rfl (by decide)
                refine lv_goto (tgt := 185) hx hb dX12_way_155 (by decide) ?_
                refine lv_iload_n hx hb dX12_way_185 rfl (lv_at hl 3 rfl) ?_
                refine W.widen (k := 0) (n := 0) (by decide +kernel) (by decide +kernel) ?_
                exact W.iret (v := (nI w5)) hx hb hr (fun t9_ ht hW => ⟨⟨(nI w5), (0, x3_F0, x3_G1, m3), rfl, by (try dsimp only); exact ⟨hB3, ho3⟩, by rw [ht]; exact hP, hD⟩, hS.F ht⟩) hS.2.2 dX12_way_186
          · have t_69 : ¬ ((k5 : Nat) : Int) ≥ ((vn : Nat) : Int) := toI_nge c_69 (nI_toInt (by omega)) (nI_toInt (by omega))
            have b1 := hM.2.2.2.1 (3 * rn + w5) k5 (by omega) (by omega)
            have s1 : Sz 7 (vF 60 (9 * (3 * rn + w5) + 1 + k5)).toInt := by show _ < 2 ^ 7; exact Nat.lt_of_le_of_lt (show _ ≤ 99 by omega) (by decide)
            have sk : Sz 131 (mg (1000 + k5)) := hA0.1 k5 (by omega)
            have s23 : Sz 138 ((vF 60 (9 * (3 * rn + w5) + 1 + k5)).toInt * mg (1000 + k5)) := mulp s1 sk (by decide)
            have s25 : (x24 + 1 * ((vF 60 (9 * (3 * rn + w5) + 1 + k5)).toInt * mg (1000 + k5))).natAbs ≤ 2 ^ 148 + (k5 + 1) * 2 ^ 138 := by (have h9 : ((vF 60 (9 * (3 * rn + w5) + 1 + k5)).toInt * mg (1000 + k5)).natAbs < 2 ^ 138 := s23); omega
            refine lv_aload_n hx hb dX12_way_72 rfl (lv_at hl 0 rfl) ?_
            refine lv_bipush (v := 22) hx hb dX12_way_73 (by decide) ?_
            refine lv_aload_n hx hb dX12_way_75 rfl (lv_at hl 0 rfl) ?_
            refine va_get (D := (dC, dI)) (ci := 12) (v := .ref (a 60)) (C := RX12) (T := TX12) (N := 163) (fs := fM (vS a (fT vi 0 0) vj)) hx hb hts iwsRX12_way_in12 hown hK hP 0 rfl rfl 100 (by decide) (hts (.fieldLink RX12 203 "OptimaWorksModel" "wayNumber" "[I") (by decide +kernel)) (fun _ h9 => h9) rfl dX12_way_76 ?_
            refine lv_iload_n hx hb dX12_way_79 rfl (lv_at hl 3 rfl) ?_
            refine lv_iconst (v := 1) hx hb dX12_way_80 (by decide) ?_
            refine lv_iadd hx hb dX12_way_81 ?_
            refine lv_topi (fun y12 hy12 => ?_)
            obtain rfl : (nI ((9 * ((3 * rn) + w5)) + 1)) = y12 := (hy12.trans (nI_add (9 * ((3 * rn) + w5)) 1)).symm
            refine lv_iload hx hb dX12_way_82 (lv_at hl 4 rfl) ?_
            refine lv_iadd hx hb dX12_way_84 ?_
            refine lv_topi (fun y13 hy13 => ?_)
            obtain rfl : (nI (((9 * ((3 * rn) + w5)) + 1) + k5)) = y13 := (hy13.trans (nI_add ((9 * ((3 * rn) + w5)) + 1) k5)).symm
            refine va_iald (cA := k 60) (n := 351) (f := (vF 60)) hx hb hK hP 61 60 (WR_get 60 (by decide)) (TR_get 60 (by decide)) (vp_in_nI (show (((9 * ((3 * rn) + w5)) + 1) + k5) < 351 by omega) (by omega)) dX12_way_85 ?_
            refine lv_topi (fun y14 hy14 => ?_)
            obtain rfl : ((vF 60) (((9 * ((3 * rn) + w5)) + 1) + k5)) = y14 := (hy14.trans (by rw [nI_clamp (by omega)])).symm
            refine lv_i2l hx hb dX12_way_86 rfl ?_
            have hFc := allFree hD hS hA
            refine va_callv (va_runV (As := [.int 22, .long (((vF 60) (((9 * ((3 * rn) + w5)) + 1) + k5))).toInt64]) (rest := []) ⟨hx, hb, hml, hown, hts⟩ (b_X12_put l dC dI a k h0 (fT vi 0 0) vj (fT vF 0 x3_F0) (fT vG 1 x3_G1) 22 ((((vF 60) (((9 * ((3 * rn) + w5)) + 1) + k5))).toInt64) ((vF 60 (9 * (3 * rn + w5) + 1 + k5)).toInt) m3 hB3 (by first | assumption | decide | omega | rfl) (i64T _) (by omega) H.size) (cwV 2 hts gwsRX12_way_1 rfl rfl rfl hd_yX12_put_RX12 (by decide +kernel)) (fz_pre (va_recv hK hP (ci := 12) (q0 := 0) rfl rfl) hP hK hD) rfl rfl hl.1 rfl (lv_room (Nat.le_of_ble_eq_true rfl)) dX12_way_87 (by decide +kernel)) hS (fun q _ h => hFc q h) hFc (fun u t9_ H locs ht hvm hw9 hB9 hz1 hk1 hS => ?_)
            obtain ⟨g87, hwit87⟩ : ∃ w9, w9 = u := ⟨u, rfl⟩
            subst hwit87
            have hP : va_P (dC, dI) vwCl (WR a k h0 (fT vi 0 0) vj (fT (fT vF 0 x3_F0) 0 g87) (fT vG 1 x3_G1)) H := fz_P ht hB9.1
            have hD : va_D A (WR a k h0 (fT vi 0 0) vj (fT (fT vF 0 x3_F0) 0 g87) (fT vG 1 x3_G1)) := hB9.2.weaken (fun _ q _ h => hFc q.1 h)
            have e9 : fT vF 0 g87 = fT (fT vF 0 x3_F0) 0 g87 := (fT_sm _ _ _ _).symm
            rw [← e9] at hP hD
            clear e9
            have hP : va_P (dC, dI) vwCl (WR a k h0 (fT vi 0 0) vj (fT vF 0 g87) (fT vG 1 x3_G1)) H := hP
            have hD : va_D A (WR a k h0 (fT vi 0 0) vj (fT vF 0 g87) (fT vG 1 x3_G1)) := hD
            have f87_0 := hw9
            try dsimp only at f87_0
            refine lv_aload_n hx hb dX12_way_90 rfl (lv_at hl 0 rfl) ?_
            refine lv_bipush (v := 23) hx hb dX12_way_91 (by decide) ?_
            refine lv_bipush (v := 22) hx hb dX12_way_93 (by decide) ?_
            refine lv_sipush (v := 1000) hx hb dX12_way_95 (by decide) ?_
            refine lv_iload hx hb dX12_way_98 (lv_at hl 4 rfl) ?_
            refine lv_iadd hx hb dX12_way_100 ?_
            refine lv_topi (fun y15 hy15 => ?_)
            obtain rfl : (nI (1000 + k5)) = y15 := (hy15.trans (nI_add 1000 k5)).symm
            have hFc := allFree hD hS hA
            refine va_callv (va_runV (As := [.int 23, .int 22, .int (nI (1000 + k5))]) (rest := []) ⟨hx, hb, hml, hown, hts⟩ (b_X12_times l dC dI a k h0 (fT vi 0 0) vj (fT vF 0 g87) (fT vG 1 x3_G1) 23 22 (1000 + k5) (fT m3 22 ((vF 60 (9 * (3 * rn + w5) + 1 + k5)).toInt)) f87_0 ((vF 60 (9 * (3 * rn + w5) + 1 + k5)).toInt) (mg (1000 + k5)) (by rw [fT_eq]) (by rw [fT_ne _ _ (by omega), ho3 (1000 + k5) (by omega)]) (by first | assumption | decide | omega | rfl) (by first | assumption | decide | omega | rfl) (by first | assumption | decide | omega | rfl) (mulpN (c := 588) s1 sk (by decide)) H.size) (cwV 3 hts gwsRX12_way_2 rfl rfl rfl hd_yX12_times_RX12 (by decide +kernel)) (fz_pre (va_recv hK hP (ci := 12) (q0 := 0) rfl rfl) hP hK hD) rfl rfl hl.1 rfl (lv_room (Nat.le_of_ble_eq_true rfl)) dX12_way_101 (by decide +kernel)) hS (fun q _ h => hFc q h) hFc (fun u t9_ H locs ht hvm hw9 hB9 hz1 hk1 hS => ?_)
            obtain ⟨g101, gs101⟩ := u
            try dsimp only at hw9 hB9
            have hP : va_P (dC, dI) vwCl (WR a k h0 (fT vi 0 0) vj (fT (fT vF 0 g87) 0 g101) (fT (fT vG 1 x3_G1) 1 gs101)) H := fz_P ht hB9.1
            have hD : va_D A (WR a k h0 (fT vi 0 0) vj (fT (fT vF 0 g87) 0 g101) (fT (fT vG 1 x3_G1) 1 gs101)) := hB9.2.weaken (fun _ q _ h => hFc q.1 h)
            have e9 : fT vF 0 g101 = fT (fT vF 0 g87) 0 g101 := (fT_sm _ _ _ _).symm
            rw [← e9] at hP hD
            clear e9
            have e9 : fT vG 1 gs101 = fT (fT vG 1 x3_G1) 1 gs101 := (fT_sm _ _ _ _).symm
            rw [← e9] at hP hD
            clear e9
            have hP : va_P (dC, dI) vwCl (WR a k h0 (fT vi 0 0) vj (fT vF 0 g101) (fT vG 1 gs101)) H := hP
            have hD : va_D A (WR a k h0 (fT vi 0 0) vj (fT vF 0 g101) (fT vG 1 gs101)) := hD
            have f101_0 := hw9
            try dsimp only at f101_0
            refine lv_aload_n hx hb dX12_way_104 rfl (lv_at hl 0 rfl) ?_
            refine lv_bipush (v := 25) hx hb dX12_way_105 (by decide) ?_
            refine lv_bipush (v := 24) hx hb dX12_way_107 (by decide) ?_
            refine lv_bipush (v := 23) hx hb dX12_way_109 (by decide) ?_
            refine lv_iconst (v := 1) hx hb dX12_way_111 (by decide) ?_
            have hFc := allFree hD hS hA
            refine va_callv (va_runV (As := [.int 25, .int 24, .int 23, .int 1]) (rest := []) ⟨hx, hb, hml, hown, hts⟩ (b_X12_add l dC dI a k h0 (fT vi 0 0) vj (fT vF 0 g101) (fT vG 1 gs101) 25 1 1 24 23 (fT (fT m3 22 ((vF 60 (9 * (3 * rn + w5) + 1 + k5)).toInt)) 23 (((vF 60 (9 * (3 * rn + w5) + 1 + k5)).toInt) * (mg (1000 + k5)))) f101_0 x24 (((vF 60 (9 * (3 * rn + w5) + 1 + k5)).toInt) * (mg (1000 + k5))) (by rw [fT_ne _ _ (by omega), fT_ne _ _ (by omega), v_x24]) (by rw [fT_eq]) (by first | assumption | decide | omega | rfl) (by first | assumption | decide | omega | rfl) (by first | assumption | decide | omega | rfl) (Or.inl ⟨rfl, rfl⟩) (by omega) H.size) (cwV 4 hts gwsRX12_way_4 rfl rfl rfl hd_yX12_add_RX12 (by decide +kernel)) (fz_pre (va_recv hK hP (ci := 12) (q0 := 0) rfl rfl) hP hK hD) rfl rfl hl.1 rfl (lv_room (Nat.le_of_ble_eq_true rfl)) dX12_way_112 (by decide +kernel)) hS (fun q _ h => hFc q h) hFc (fun u t9_ H locs ht hvm hw9 hB9 hz1 hk1 hS => ?_)
            obtain ⟨g112, gs112⟩ := u
            try dsimp only at hw9 hB9
            have hP : va_P (dC, dI) vwCl (WR a k h0 (fT vi 0 0) vj (fT (fT vF 0 g101) 0 g112) (fT (fT vG 1 gs101) 1 gs112)) H := fz_P ht hB9.1
            have hD : va_D A (WR a k h0 (fT vi 0 0) vj (fT (fT vF 0 g101) 0 g112) (fT (fT vG 1 gs101) 1 gs112)) := hB9.2.weaken (fun _ q _ h => hFc q.1 h)
            have e9 : fT vF 0 g112 = fT (fT vF 0 g101) 0 g112 := (fT_sm _ _ _ _).symm
            rw [← e9] at hP hD
            clear e9
            have e9 : fT vG 1 gs112 = fT (fT vG 1 gs101) 1 gs112 := (fT_sm _ _ _ _).symm
            rw [← e9] at hP hD
            clear e9
            have hP : va_P (dC, dI) vwCl (WR a k h0 (fT vi 0 0) vj (fT vF 0 g112) (fT vG 1 gs112)) H := hP
            have hD : va_D A (WR a k h0 (fT vi 0 0) vj (fT vF 0 g112) (fT vG 1 gs112)) := hD
            have f112_0 := hw9
            try dsimp only at f112_0
            refine lv_aload_n hx hb dX12_way_115 rfl (lv_at hl 0 rfl) ?_
            refine lv_bipush (v := 24) hx hb dX12_way_116 (by decide) ?_
            refine lv_bipush (v := 25) hx hb dX12_way_118 (by decide) ?_
            have hFc := allFree hD hS hA
            refine va_callv (va_runV (As := [.int 24, .int 25]) (rest := []) ⟨hx, hb, hml, hown, hts⟩ (b_X12_copy l dC dI a k h0 (fT vi 0 0) vj (fT vF 0 g112) (fT vG 1 gs112) 24 25 (fT (fT (fT m3 22 ((vF 60 (9 * (3 * rn + w5) + 1 + k5)).toInt)) 23 (((vF 60 (9 * (3 * rn + w5) + 1 + k5)).toInt) * (mg (1000 + k5)))) 25 (x24 + 1 * (((vF 60 (9 * (3 * rn + w5) + 1 + k5)).toInt) * (mg (1000 + k5))))) f112_0 (x24 + 1 * (((vF 60 (9 * (3 * rn + w5) + 1 + k5)).toInt) * (mg (1000 + k5)))) (by rw [fT_eq]) (by first | assumption | decide | omega | rfl) (by first | assumption | decide | omega | rfl) (by first | assumption | decide | omega | rfl) H.size) (cwV 2 hts gwsRX12_way_5 rfl rfl rfl hd_yX12_copy_RX12 (by decide +kernel)) (fz_pre (va_recv hK hP (ci := 12) (q0 := 0) rfl rfl) hP hK hD) rfl rfl hl.1 rfl (lv_room (Nat.le_of_ble_eq_true rfl)) dX12_way_120 (by decide +kernel)) hS (fun q _ h => hFc q h) hFc (fun u t9_ H locs ht hvm hw9 hB9 hz1 hk1 hS => ?_)
            obtain ⟨g120, hwit120⟩ : ∃ w9, w9 = u := ⟨u, rfl⟩
            subst hwit120
            have hP : va_P (dC, dI) vwCl (WR a k h0 (fT vi 0 0) vj (fT (fT vF 0 g112) 0 g120) (fT vG 1 gs112)) H := fz_P ht hB9.1
            have hD : va_D A (WR a k h0 (fT vi 0 0) vj (fT (fT vF 0 g112) 0 g120) (fT vG 1 gs112)) := hB9.2.weaken (fun _ q _ h => hFc q.1 h)
            have e9 : fT vF 0 g120 = fT (fT vF 0 g112) 0 g120 := (fT_sm _ _ _ _).symm
            rw [← e9] at hP hD
            clear e9
            have hP : va_P (dC, dI) vwCl (WR a k h0 (fT vi 0 0) vj (fT vF 0 g120) (fT vG 1 gs112)) H := hP
            have hD : va_D A (WR a k h0 (fT vi 0 0) vj (fT vF 0 g120) (fT vG 1 gs112)) := hD
            have f120_0 := hw9
            try dsimp only at f120_0
            refine lv_iinc (v := (nI (k5 + 1))) hx hb dX12_way_123 hl (k := 4) rfl (nI_add k5 1) (by decide) rfl (fun ls (hl : lv_has ls _ ([(4, .int (nI (k5 + 1))), (0, .ref h0), (1, .int (nI rn)), (2, .int (nI w5)), (3, .int (nI (9 * ((3 * rn) + w5))))])) => ?_)
            refine lv_goto (tgt := 63) hx hb dX12_way_126 (by decide) ?_
            have hl : lv_has _ _ ([(0, .ref h0), (1, .int (nI rn)), (2, .int (nI w5)), (3, .int (nI (9 * ((3 * rn) + w5)))), (4, .int (nI (k5 + 1)))]) := lv_sub hl [1, 2, 3, 4, 0] rfl
            exact ih63_1 (k5 + 1) g120 gs112 (fT (fT (fT (fT m3 22 ((vF 60 (9 * (3 * rn + w5) + 1 + k5)).toInt)) 23 (((vF 60 (9 * (3 * rn + w5) + 1 + k5)).toInt) * (mg (1000 + k5)))) 25 (x24 + 1 * (((vF 60 (9 * (3 * rn + w5) + 1 + k5)).toInt) * (mg (1000 + k5))))) 24 (x24 + 1 * (((vF 60 (9 * (3 * rn + w5) + 1 + k5)).toInt) * (mg (1000 + k5))))) (x24 + 1 * (((vF 60 (9 * (3 * rn + w5) + 1 + k5)).toInt) * (mg (1000 + k5)))) _ _ _ (f120_0) ((by rw [fT_eq])) (by omega) (s25) (fun q hq => by (rw [fT_ne _ _ (by omega), fT_ne _ _ (by omega), fT_ne _ _ (by omega), fT_ne _ _ (by omega)]); exact ho3 q hq) (by omega) hP hD hS hl
  · refine lv_if_ne (tgt := 14) hx hb dX12_way_9 (by decide) (fun c9 => absurd c9 (by decide)) (fun _ => ?_)
    refine lv_iconst (v := 0) hx hb dX12_way_12 (by decide) ?_
    refine W.widen (k := 0) (n := 0) (by decide +kernel) (by decide +kernel) ?_
    have e9 : fT vF 0 (vF 0) = vF := fT_id _ _ (rfl)
    have hP : va_P (dC, dI) vwCl (WR a k h0 (fT vi 0 th6) vj (fT vF 0 (vF 0)) vG) H := by rw [e9]; exact hP
    have hD : va_D A (WR a k h0 (fT vi 0 th6) vj (fT vF 0 (vF 0)) vG) := by rw [e9]; exact hD
    clear e9
    have e9 : fT vG 1 (vG 1) = vG := fT_id _ _ (rfl)
    have hP : va_P (dC, dI) vwCl (WR a k h0 (fT vi 0 th6) vj (fT vF 0 (vF 0)) (fT vG 1 (vG 1))) H := by rw [e9]; exact hP
    have hD : va_D A (WR a k h0 (fT vi 0 th6) vj (fT vF 0 (vF 0)) (fT vG 1 (vG 1))) := by rw [e9]; exact hD
    clear e9
    exact W.iret (v := 0) hx hb hr (fun t9_ ht hW => ⟨⟨0, (th6, (vF 0), (vG 1), mg), rfl, by (try dsimp only); exact ⟨hBg, fun q _ => rfl⟩, by rw [ht]; exact hP, hD⟩, hS.F ht⟩) hS.2.2 dX12_way_13

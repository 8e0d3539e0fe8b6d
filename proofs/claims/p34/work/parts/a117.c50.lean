theorem hd_yX12_key_RX12 : yX12_key.cls = RX12 ∧ yX12_key.cls ≠ "java/lang/invoke/MethodHandle" ∧ yX12_key.cls ≠ "java/lang/invoke/VarHandle" ∧ (parseMethodDescriptor yX12_key.desc).map (fun d => d.parameters.length) = some 2 := by decide +kernel
theorem hd_yX12_takeName_RX12 : yX12_takeName.cls = RX12 ∧ yX12_takeName.cls ≠ "java/lang/invoke/MethodHandle" ∧ yX12_takeName.cls ≠ "java/lang/invoke/VarHandle" ∧ (parseMethodDescriptor yX12_takeName.desc).map (fun d => d.parameters.length) = some 0 := by decide +kernel
theorem hd_yX12_takeNumber_RX12 : yX12_takeNumber.cls = RX12 ∧ yX12_takeNumber.cls ≠ "java/lang/invoke/MethodHandle" ∧ yX12_takeNumber.cls ≠ "java/lang/invoke/VarHandle" ∧ (parseMethodDescriptor yX12_takeNumber.desc).map (fun d => d.parameters.length) = some 0 := by decide +kernel
theorem hd_yX12_takeSign_RX12 : yX12_takeSign.cls = RX12 ∧ yX12_takeSign.cls ≠ "java/lang/invoke/MethodHandle" ∧ yX12_takeSign.cls ≠ "java/lang/invoke/VarHandle" ∧ (parseMethodDescriptor yX12_takeSign.desc).map (fun d => d.parameters.length) = some 1 := by decide +kernel
theorem hd_yX12_isSign_RX12 : yX12_isSign.cls = RX12 ∧ yX12_isSign.cls ≠ "java/lang/invoke/MethodHandle" ∧ yX12_isSign.cls ≠ "java/lang/invoke/VarHandle" ∧ (parseMethodDescriptor yX12_isSign.desc).map (fun d => d.parameters.length) = some 1 := by decide +kernel
theorem hd_yX12_next_RX12 : yX12_next.cls = RX12 ∧ yX12_next.cls ≠ "java/lang/invoke/MethodHandle" ∧ yX12_next.cls ≠ "java/lang/invoke/VarHandle" ∧ (parseMethodDescriptor yX12_next.desc).map (fun d => d.parameters.length) = some 0 := by decide +kernel
theorem hd_yX12_wrong_RX12 : yX12_wrong.cls = RX12 ∧ yX12_wrong.cls ≠ "java/lang/invoke/MethodHandle" ∧ yX12_wrong.cls ≠ "java/lang/invoke/VarHandle" ∧ (parseMethodDescriptor yX12_wrong.desc).map (fun d => d.parameters.length) = some 0 := by decide +kernel
theorem hd_yX12_isKey_RX12 : yX12_isKey.cls = RX12 ∧ yX12_isKey.cls ≠ "java/lang/invoke/MethodHandle" ∧ yX12_isKey.cls ≠ "java/lang/invoke/VarHandle" ∧ (parseMethodDescriptor yX12_isKey.desc).map (fun d => d.parameters.length) = some 1 := by decide +kernel
theorem dX12_takeName_0 : decode cX12_takeName 0 = .ok (.aload_n 0, 1) := dk_42 (by decide +kernel)
theorem dX12_takeName_1 : decode cX12_takeName 1 = .ok (.aload_n 0, 1) := dk_42 (by decide +kernel)
theorem dX12_takeName_2 : decode cX12_takeName 2 = .ok (.getfield 485, 3) := dk_180 (by decide +kernel)
theorem dX12_takeName_5 : decode cX12_takeName 5 = .ok (.invokevirtual 482, 3) := dk_182 (by decide +kernel)
theorem dX12_takeName_8 : decode cX12_takeName 8 = .ok (.invokestatic 497, 3) := dk_184 (by decide +kernel)
theorem dX12_takeName_11 : decode cX12_takeName 11 = .ok (.ifCond .ne 17, 3) := dk_154 (by decide +kernel)
theorem dX12_takeName_14 : decode cX12_takeName 14 = .ok (.aload_n 0, 1) := dk_42 (by decide +kernel)
theorem dX12_takeName_15 : decode cX12_takeName 15 = .ok (.aload_n 0, 1) := dk_42 (by decide +kernel)
theorem dX12_takeName_16 : decode cX12_takeName 16 = .ok (.getfield 485, 3) := dk_180 (by decide +kernel)
theorem dX12_takeName_19 : decode cX12_takeName 19 = .ok (.invokevirtual 482, 3) := dk_182 (by decide +kernel)
theorem dX12_takeName_22 : decode cX12_takeName 22 = .ok (.invokestatic 503, 3) := dk_184 (by decide +kernel)
theorem dX12_takeName_25 : decode cX12_takeName 25 = .ok (.ifCond .eq 16, 3) := dk_153 (by decide +kernel)
theorem dX12_takeName_28 : decode cX12_takeName 28 = .ok (.aload_n 0, 1) := dk_42 (by decide +kernel)
theorem dX12_takeName_29 : decode cX12_takeName 29 = .ok (.dup, 1) := dk_89 (by decide +kernel)
theorem dX12_takeName_30 : decode cX12_takeName 30 = .ok (.getfield 485, 3) := dk_180 (by decide +kernel)
theorem dX12_takeName_33 : decode cX12_takeName 33 = .ok (.iconst 1, 1) := dk_4 (by decide +kernel)
theorem dX12_takeName_34 : decode cX12_takeName 34 = .ok (.iadd, 1) := dk_96 (by decide +kernel)
theorem dX12_takeName_35 : decode cX12_takeName 35 = .ok (.putfield 485, 3) := dk_181 (by decide +kernel)
theorem dX12_takeName_38 : decode cX12_takeName 38 = .ok (.goto (-38), 3) := dk_167 (by decide +kernel)
theorem dX12_takeName_41 : decode cX12_takeName 41 = .ok (.aload_n 0, 1) := dk_42 (by decide +kernel)
theorem dX12_takeName_42 : decode cX12_takeName 42 = .ok (.aload_n 0, 1) := dk_42 (by decide +kernel)
theorem dX12_takeName_43 : decode cX12_takeName 43 = .ok (.aload_n 0, 1) := dk_42 (by decide +kernel)
theorem dX12_takeName_44 : decode cX12_takeName 44 = .ok (.getfield 488, 3) := dk_180 (by decide +kernel)
theorem dX12_takeName_47 : decode cX12_takeName 47 = .ok (.aload_n 0, 1) := dk_42 (by decide +kernel)
theorem dX12_takeName_48 : decode cX12_takeName 48 = .ok (.getfield 485, 3) := dk_180 (by decide +kernel)
theorem dX12_takeName_51 : decode cX12_takeName 51 = .ok (.aload_n 0, 1) := dk_42 (by decide +kernel)
theorem dX12_takeName_52 : decode cX12_takeName 52 = .ok (.getfield 488, 3) := dk_180 (by decide +kernel)
theorem dX12_takeName_55 : decode cX12_takeName 55 = .ok (.isub, 1) := dk_100 (by decide +kernel)
theorem dX12_takeName_56 : decode cX12_takeName 56 = .ok (.invokevirtual 512, 3) := dk_182 (by decide +kernel)
theorem dX12_takeName_59 : decode cX12_takeName 59 = .ok (.putfield 491, 3) := dk_181 (by decide +kernel)
theorem dX12_takeName_62 : decode cX12_takeName 62 = .ok (.aload_n 0, 1) := dk_42 (by decide +kernel)
theorem dX12_takeName_63 : decode cX12_takeName 63 = .ok (.aload_n 0, 1) := dk_42 (by decide +kernel)
theorem dX12_takeName_64 : decode cX12_takeName 64 = .ok (.getfield 491, 3) := dk_180 (by decide +kernel)
theorem dX12_takeName_67 : decode cX12_takeName 67 = .ok (.iconst (-1), 1) := dk_2 (by decide +kernel)
theorem dX12_takeName_68 : decode cX12_takeName 68 = .ok (.if_icmp .eq 7, 3) := dk_159 (by decide +kernel)
theorem dX12_takeName_71 : decode cX12_takeName 71 = .ok (.iconst 2, 1) := dk_5 (by decide +kernel)
theorem dX12_takeName_72 : decode cX12_takeName 72 = .ok (.goto 22, 3) := dk_167 (by decide +kernel)
theorem dX12_takeName_75 : decode cX12_takeName 75 = .ok (.aload_n 0, 1) := dk_42 (by decide +kernel)
theorem dX12_takeName_76 : decode cX12_takeName 76 = .ok (.getfield 485, 3) := dk_180 (by decide +kernel)
theorem dX12_takeName_79 : decode cX12_takeName 79 = .ok (.aload_n 0, 1) := dk_42 (by decide +kernel)
theorem dX12_takeName_80 : decode cX12_takeName 80 = .ok (.getfield 488, 3) := dk_180 (by decide +kernel)
theorem dX12_takeName_83 : decode cX12_takeName 83 = .ok (.isub, 1) := dk_100 (by decide +kernel)
theorem dX12_takeName_84 : decode cX12_takeName 84 = .ok (.bipush 8, 2) := dk_16 (by decide +kernel)
theorem dX12_takeName_86 : decode cX12_takeName 86 = .ok (.if_icmp .le 7, 3) := dk_164 (by decide +kernel)
theorem dX12_takeName_89 : decode cX12_takeName 89 = .ok (.iconst 5, 1) := dk_8 (by decide +kernel)
theorem dX12_takeName_90 : decode cX12_takeName 90 = .ok (.goto 4, 3) := dk_167 (by decide +kernel)
theorem dX12_takeName_93 : decode cX12_takeName 93 = .ok (.iconst 1, 1) := dk_4 (by decide +kernel)
theorem dX12_takeName_94 : decode cX12_takeName 94 = .ok (.putfield 494, 3) := dk_181 (by decide +kernel)
theorem dX12_takeName_97 : decode cX12_takeName 97 = .ok (.return_, 1) := dk_177 (by decide +kernel)
def wsRX12_takeName : List Cond := .code yX12_takeName cX12_takeName 1 none :: ([.fieldLink RX12 485 "OptimaWorksModel" "at0" "I", .fieldLink RX12 488 "OptimaWorksModel" "from" "I", .fieldLink RX12 491 "OptimaWorksModel" "sign0" "I", .fieldLink RX12 494 "OptimaWorksModel" "word" "I"] ++ wsX120 ++ (wsV RX12 482 RX12 yX12_byteAt wsRX12_byteAt) ++ (va_wsS RX12 497 yX12_isLetter wsRX12_isLetter) ++ (va_wsS RX12 503 yX12_isDigit wsRX12_isDigit) ++ (wsV RX12 512 RX12 yX12_key wsRX12_key))
theorem iwsRX12_takeName_in12 : ∀ w ∈ wsX120, w ∈ wsRX12_takeName := fun _ h => List.mem_cons_of_mem _ (List.mem_append_left _ (List.mem_append_left _ (List.mem_append_left _ (List.mem_append_left _ (List.mem_append_right _ h)))))
theorem gwsRX12_takeName_0 : GoodIn wsRX12_takeName (wsV RX12 482 RX12 yX12_byteAt wsRX12_byteAt) := goodIn_sub (fun _ h => List.mem_cons_of_mem _ (List.mem_append_left _ (List.mem_append_left _ (List.mem_append_left _ (List.mem_append_right _ h))))) (gdV (by decide +kernel) gdwsRX12_byteAt)
theorem gwsRX12_takeName_1 : GoodIn wsRX12_takeName (va_wsS RX12 497 yX12_isLetter wsRX12_isLetter) := goodIn_sub (fun _ h => List.mem_cons_of_mem _ (List.mem_append_left _ (List.mem_append_left _ (List.mem_append_right _ h)))) (gdS (by decide +kernel) gdwsRX12_isLetter)
theorem gwsRX12_takeName_2 : GoodIn wsRX12_takeName (va_wsS RX12 503 yX12_isDigit wsRX12_isDigit) := goodIn_sub (fun _ h => List.mem_cons_of_mem _ (List.mem_append_left _ (List.mem_append_right _ h))) (gdS (by decide +kernel) gdwsRX12_isDigit)
theorem gwsRX12_takeName_3 : GoodIn wsRX12_takeName (wsV RX12 512 RX12 yX12_key wsRX12_key) := goodIn_sub (fun _ h => List.mem_cons_of_mem _ (List.mem_append_right _ h)) (gdV (by decide +kernel) gdwsRX12_key)
theorem gdwsRX12_takeName : wsRX12_takeName.all goodWord = true := gdC rfl (gdA (gdA (gdA (gdA (gdA (by decide +kernel : ([.fieldLink RX12 485 "OptimaWorksModel" "at0" "I", .fieldLink RX12 488 "OptimaWorksModel" "from" "I", .fieldLink RX12 491 "OptimaWorksModel" "sign0" "I", .fieldLink RX12 494 "OptimaWorksModel" "word" "I"] : List Cond).all goodWord = true) gdwsX120) (gdV (by decide +kernel) gdwsRX12_byteAt)) (gdS (by decide +kernel) gdwsRX12_isLetter)) (gdS (by decide +kernel) gdwsRX12_isDigit)) (gdV (by decide +kernel) gdwsRX12_key))
set_option maxHeartbeats 4000000 in
set_option maxRecDepth 100000 in
/-- takeName() -/
theorem r_X12_takeName (l : Launch) (dC : Nat → ClassId) (dI : Nat → Nat → Nat) (a : Nat → Nat) (k : Nat → ClassId) (h0 : Nat) (vi : Nat → Int32) (vj : Nat → Int64) (vF : Nat → Nat → Int32) (vG : Nat → Nat → Int64) (tp : Nat) (an : Nat) (fn : Nat) (hTp : vi 16 = nI tp) (htp : tp ≤ 4000) (ha0 : vi 17 = nI an) (hfr : vi 19 = nI fn) (hfa : fn ≤ an) (hant : an < tp) (hlt : (65 ≤ (bA tp (vF 9) an).toInt ∧ (bA tp (vF 9) an).toInt ≤ 90) ∨ (97 ≤ (bA tp (vF 9) an).toInt ∧ (bA tp (vF 9) an).toInt ≤ 122)) (sz : Nat) : Met l yX12_takeName wsRX12_takeName ({ frames := 6, cells := 0, slots := 0, locals := 131 }) (va_Pc [.ref h0] (fun U => U.heap.size = sz ∧ va_P (dC, dI) vwCl (WR a k h0 vi vj vF vG) U.heap ∧ va_K (dC, dI) vwCl (tX12 k) U ∧ va_D (fun _ => True) (WR a k h0 vi vj vF vG) ∧ StrA (va_A (WR a k h0 vi vj vF vG) sz) U U.heap)) (va_Qv (fun (u : (Nat) × (Int32) × (Int32)) => (an < (u.1) ∧ (u.1) ≤ tp) ∧ ((u.2.2) = 1 ∨ (u.2.2) = 2 ∨ (u.2.2) = 5)) (fun (u : (Nat) × (Int32) × (Int32)) t => va_P (dC, dI) vwCl (WR a k h0 (fT (fT (fT vi 17 (nI (u.1))) 20 (u.2.1)) 18 (u.2.2)) vj vF vG) t.heap ∧ va_D (va_A (WR a k h0 vi vj vF vG) sz) (WR a k h0 (fT (fT (fT vi 17 (nI (u.1))) 20 (u.2.1)) 18 (u.2.2)) vj vF vG)) (va_A (WR a k h0 vi vj vF vG) sz)) 0 0 (va_A (WR a k h0 vi vj vF vG) sz) := by
  refine Met.ofW (cc := cX12_takeName) (maxL := 1) (ret := none) (by decide) rfl ?_
  intro p e s m args below meth c s₁ B hml hv
  obtain ⟨rfl, hsz, hP, hK, hD0, hE⟩ := hv
  have hx := B.exec
  have hb := B.bytes
  have hr := B.returns
  have hts := atoms_spec (ws := wsRX12_takeName) B.pre
  have hown : s.vm.findClass RX12 = some m.cls := findClass_of_methodNamed B.named
  have hlocks := B.notSynchronized
  subst hsz
  have hD := hD0.self (sz := s.heap.size)
  generalize hAe : va_A (WR a k h0 vi vj vF vG) s.heap.size = A at hD hE ⊢
  have hA : ∀ q : Nat, s.heap.size ≤ q → A q := fun q h => by rw [← hAe]; exact Or.inr h
  have hS : va_S A s.heap s.heap [] := va_S.rf
  have hl := lv_entry ([.ref h0]) (n := 1) (Nat.le_of_ble_eq_true rfl)
  rw [lg_entry_eq]
  generalize (lg_sl ([.ref h0]) ++ List.replicate (1 - (lg_sl ([.ref h0])).length) Slot.unset).toArray = ls at hl ⊢
  have hl : lv_has ls 1 [(0, .ref h0)] := hl
  have e9 : fT vi 17 (nI an) = vi := by funext q9; by_cases h9_17 : q9 = 17; (subst h9_17; exact (fT_eq _ _ _).trans (Eq.trans (by first | rfl | assumption | (symm; assumption) | (subst_vars; rfl)) (Eq.refl _).symm)); exact (fT_ne _ _ h9_17).trans (Eq.refl _).symm
  have hP : va_P (dC, dI) vwCl (WR a k h0 (fT vi 17 (nI an)) vj vF vG) s.heap := by rw [e9]; exact hP
  have hD : va_D A (WR a k h0 (fT vi 17 (nI an)) vj vF vG) := by rw [e9]; exact hD
  clear e9
  have hl : lv_has _ _ ([(0, .ref h0)]) := lv_sub hl [0] rfl
  refine (fun (loop : ∀ (n9 : Nat) (a5 : Nat) (H : Heap) (locs : List Loc) (ls : Array Slot), (an ≤ a5 ∧ a5 ≤ tp) →  (tp < a5 + n9) → va_P (dC, dI) vwCl (WR a k h0 (fT vi 17 (nI a5)) vj vF vG) H → va_D A (WR a k h0 (fT vi 17 (nI a5)) vj vF vG) → va_S A s.heap H locs → lv_has ls 1 [(0, .ref h0)] → W p l e _ s m _ below meth c H locs 0 0 _ (F0 m 0 ls [])) => loop (tp + 1) an _ _ _ (by omega) (by omega) hP hD hS hl) ?_
  intro n9
  induction n9 with
  | zero => intro a5 H locs ls ha5 hf9; exact False.elim (by omega)
  | succ n9 ih0 =>
    intro a5 H locs ls ha5 hf0 hP hD hS hl
    refine lv_aload_n hx hb dX12_takeName_0 rfl (lv_at hl 0 rfl) ?_
    refine lv_aload_n hx hb dX12_takeName_1 rfl (lv_at hl 0 rfl) ?_
    refine va_get (D := (dC, dI)) (ci := 12) (v := .int (nI a5)) (C := RX12) (T := TX12) (N := 163) (fs := fM (vS a (fT vi 17 (nI a5)) vj)) hx hb hts iwsRX12_takeName_in12 hown hK hP 0 rfl rfl 17 (by decide) (hts (.fieldLink RX12 485 "OptimaWorksModel" "at0" "I") (by decide +kernel)) (fun _ h9 => h9) rfl dX12_takeName_2 ?_
    have hFc := allFree hD hS hA
    refine va_calli (va_runV (As := [.int (nI a5)]) (rest := []) ⟨hx, hb, hml, hown, hts⟩ (r_X12_byteAt l dC dI a k h0 (fT vi 17 (nI a5)) vj vF vG a5 tp hTp (by first | assumption | decide | omega | rfl) (by first | assumption | decide | omega | rfl) H.size) (cwV 1 hts gwsRX12_takeName_0 rfl rfl rfl hd_yX12_byteAt_RX12 (by decide +kernel)) (fz_pre (va_recv hK hP (ci := 12) (q0 := 0) rfl rfl) hP hK hD) rfl rfl hl.1 rfl (lv_room (Nat.le_of_ble_eq_true rfl)) dX12_takeName_5 (by decide +kernel)) hS (fun q _ h => hFc q h) hFc (fun r5 u t9_ H locs ht hvm hw9 hB9 hz1 hk1 hS => ?_)
    have hP : va_P (dC, dI) vwCl (WR a k h0 (fT vi 17 (nI a5)) vj vF vG) H := fz_P ht hB9.1
    have hD : va_D A (WR a k h0 (fT vi 17 (nI a5)) vj vF vG) := hB9.2.weaken (fun _ q _ h => hFc q.1 h)
    obtain rfl := hw9
    have hFc := noneFree hS hA
    refine va_calli (va_runS (As := [.int (bA tp (vF 9) a5)]) (rest := []) ⟨hx, hb, hml, hown, hts⟩ (r_X12_isLetter l dC dI (bA tp (vF 9) a5) H.size) (va_cwS 1 hts gwsRX12_takeName_1 rfl rfl rfl (by decide +kernel) ⟨by decide +kernel, by decide +kernel⟩) ⟨fun a U g mk q => by obtain ⟨q0, q1, qP, qK, qD⟩ := q; exact ⟨q0, q1, qP, va_K.moved (u := U) (U := U.calling g mk a) (Vm.Alike.refl U.vm) qK, qD⟩, fun U hU9 hW => ⟨rfl, by rw [hU9], by rw [hU9]; exact nilP, va_K.moved hW.alike (hK.sub (tys' := []) [] rfl), nilD⟩⟩ rfl rfl hl.1 rfl (lv_room (Nat.le_of_ble_eq_true rfl)) dX12_takeName_8 (by decide +kernel)) hS (fun q _ h => hFc q h) hFc (fun r8 u t9_ H1 locs ht hvm hw9 hB9 hz1 hk1 hS => ?_)
    have hP := keepAll hP hk1
    clear hB9
    generalize H1 = H at hP hS ⊢
    have hP : va_P (dC, dI) vwCl (WR a k h0 (fT vi 17 (nI a5)) vj vF vG) H := hP
    have hD : va_D A (WR a k h0 (fT vi 17 (nI a5)) vj vF vG) := hD
    rcases hw9 with ⟨rfl, f8_0⟩ | ⟨rfl, f8_0⟩
    · refine lv_if_ne (tgt := 28) hx hb dX12_takeName_11 (by decide) (fun _ => ?_) (fun c9 => absurd c9 (by decide))
      have bi := bA_in tp (vF 9) a5
      refine lv_aload_n hx hb dX12_takeName_28 rfl (lv_at hl 0 rfl) ?_
      refine lv_dup hx hb dX12_takeName_29 rfl ?_
      refine va_get (D := (dC, dI)) (ci := 12) (v := .int (nI a5)) (C := RX12) (T := TX12) (N := 163) (fs := fM (vS a (fT vi 17 (nI a5)) vj)) hx hb hts iwsRX12_takeName_in12 hown hK hP 0 rfl rfl 17 (by decide) (hts (.fieldLink RX12 485 "OptimaWorksModel" "at0" "I") (by decide +kernel)) (fun _ h9 => h9) rfl dX12_takeName_30 ?_
      refine lv_iconst (v := 1) hx hb dX12_takeName_33 (by decide) ?_
      refine lv_iadd hx hb dX12_takeName_34 ?_
      refine lv_topi (fun y1 hy1 => ?_)
      obtain rfl : (nI (a5 + 1)) = y1 := (hy1.trans (nI_add a5 1)).symm
      refine va_put (D := (dC, dI)) (ci := 12) (v := .int (nI (a5 + 1))) (ty := .int) (C := RX12) (T := TX12) (N := 163) (fs := fM (vS a (fT vi 17 (nI a5)) vj)) hx hb hts iwsRX12_takeName_in12 tyX12 tyX12_ok nmX12 hown hK hP hD hS 0 rfl rfl 17 (by decide) (hts (.fieldLink RX12 485 "OptimaWorksModel" "at0" "I") (by decide +kernel)) (fun _ h9 => h9) rfl (by decide +kernel) rfl rfl (Nat.le_of_ble_eq_true rfl) dX12_takeName_35 (fun H locs hP hD hS => ?_)
      have e9 : fT vi 17 (nI (a5 + 1)) = fT (fT vi 17 (nI a5)) 17 (nI (a5 + 1)) := (fT_sm _ _ _ _).symm
      have hP : va_P (dC, dI) vwCl (WR a k h0 (fT vi 17 (nI (a5 + 1))) vj vF vG) H := by rw [e9, ← WR_i 17 _ rfl]; exact hP
      have hD : va_D A (WR a k h0 (fT vi 17 (nI (a5 + 1))) vj vF vG) := by rw [e9, ← WR_i 17 _ rfl]; exact hD
      clear e9
      refine lv_goto (tgt := 0) hx hb dX12_takeName_38 (by decide) ?_
      have hl : lv_has _ _ ([(0, .ref h0)]) := lv_sub hl [0] rfl
      exact ih0 (a5 + 1) _ _ _ (by omega) (by omega) hP hD hS hl
    · refine lv_if_ne (tgt := 28) hx hb dX12_takeName_11 (by decide) (fun c9 => absurd c9 (by decide)) (fun _ => ?_)
      refine lv_aload_n hx hb dX12_takeName_14 rfl (lv_at hl 0 rfl) ?_
      refine lv_aload_n hx hb dX12_takeName_15 rfl (lv_at hl 0 rfl) ?_
      refine va_get (D := (dC, dI)) (ci := 12) (v := .int (nI a5)) (C := RX12) (T := TX12) (N := 163) (fs := fM (vS a (fT vi 17 (nI a5)) vj)) hx hb hts iwsRX12_takeName_in12 hown hK hP 0 rfl rfl 17 (by decide) (hts (.fieldLink RX12 485 "OptimaWorksModel" "at0" "I") (by decide +kernel)) (fun _ h9 => h9) rfl dX12_takeName_16 ?_
      have hFc := allFree hD hS hA
      refine va_calli (va_runV (As := [.int (nI a5)]) (rest := []) ⟨hx, hb, hml, hown, hts⟩ (r_X12_byteAt l dC dI a k h0 (fT vi 17 (nI a5)) vj vF vG a5 tp hTp (by first | assumption | decide | omega | rfl) (by first | assumption | decide | omega | rfl) H.size) (cwV 1 hts gwsRX12_takeName_0 rfl rfl rfl hd_yX12_byteAt_RX12 (by decide +kernel)) (fz_pre (va_recv hK hP (ci := 12) (q0 := 0) rfl rfl) hP hK hD) rfl rfl hl.1 rfl (lv_room (Nat.le_of_ble_eq_true rfl)) dX12_takeName_19 (by decide +kernel)) hS (fun q _ h => hFc q h) hFc (fun r19 u t9_ H locs ht hvm hw9 hB9 hz1 hk1 hS => ?_)
      have hP : va_P (dC, dI) vwCl (WR a k h0 (fT vi 17 (nI a5)) vj vF vG) H := fz_P ht hB9.1
      have hD : va_D A (WR a k h0 (fT vi 17 (nI a5)) vj vF vG) := hB9.2.weaken (fun _ q _ h => hFc q.1 h)
      obtain rfl := hw9
      have hFc := noneFree hS hA
      refine va_calli (va_runS (As := [.int (bA tp (vF 9) a5)]) (rest := []) ⟨hx, hb, hml, hown, hts⟩ (r_X12_isDigit l dC dI (bA tp (vF 9) a5) H.size) (va_cwS 1 hts gwsRX12_takeName_2 rfl rfl rfl (by decide +kernel) ⟨by decide +kernel, by decide +kernel⟩) ⟨fun a U g mk q => by obtain ⟨q0, q1, qP, qK, qD⟩ := q; exact ⟨q0, q1, qP, va_K.moved (u := U) (U := U.calling g mk a) (Vm.Alike.refl U.vm) qK, qD⟩, fun U hU9 hW => ⟨rfl, by rw [hU9], by rw [hU9]; exact nilP, va_K.moved hW.alike (hK.sub (tys' := []) [] rfl), nilD⟩⟩ rfl rfl hl.1 rfl (lv_room (Nat.le_of_ble_eq_true rfl)) dX12_takeName_22 (by decide +kernel)) hS (fun q _ h => hFc q h) hFc (fun r22 u t9_ H1 locs ht hvm hw9 hB9 hz1 hk1 hS => ?_)
      have hP := keepAll hP hk1
      clear hB9
      generalize H1 = H at hP hS ⊢
      have hP : va_P (dC, dI) vwCl (WR a k h0 (fT vi 17 (nI a5)) vj vF vG) H := hP
      have hD : va_D A (WR a k h0 (fT vi 17 (nI a5)) vj vF vG) := hD
      rcases hw9 with ⟨rfl, f22_0⟩ | ⟨rfl, f22_0⟩
      · refine lv_if_eq (tgt := 41) hx hb dX12_takeName_25 (by decide) (fun c9 => absurd c9 (by decide)) (fun _ => ?_)
        have bi := bA_in tp (vF 9) a5
        refine lv_aload_n hx hb dX12_takeName_28 rfl (lv_at hl 0 rfl) ?_
        refine lv_dup hx hb dX12_takeName_29 rfl ?_
        refine va_get (D := (dC, dI)) (ci := 12) (v := .int (nI a5)) (C := RX12) (T := TX12) (N := 163) (fs := fM (vS a (fT vi 17 (nI a5)) vj)) hx hb hts iwsRX12_takeName_in12 hown hK hP 0 rfl rfl 17 (by decide) (hts (.fieldLink RX12 485 "OptimaWorksModel" "at0" "I") (by decide +kernel)) (fun _ h9 => h9) rfl dX12_takeName_30 ?_
        refine lv_iconst (v := 1) hx hb dX12_takeName_33 (by decide) ?_
        refine lv_iadd hx hb dX12_takeName_34 ?_
        refine lv_topi (fun y2 hy2 => ?_)
        obtain rfl : (nI (a5 + 1)) = y2 := (hy2.trans (nI_add a5 1)).symm
        refine va_put (D := (dC, dI)) (ci := 12) (v := .int (nI (a5 + 1))) (ty := .int) (C := RX12) (T := TX12) (N := 163) (fs := fM (vS a (fT vi 17 (nI a5)) vj)) hx hb hts iwsRX12_takeName_in12 tyX12 tyX12_ok nmX12 hown hK hP hD hS 0 rfl rfl 17 (by decide) (hts (.fieldLink RX12 485 "OptimaWorksModel" "at0" "I") (by decide +kernel)) (fun _ h9 => h9) rfl (by decide +kernel) rfl rfl (Nat.le_of_ble_eq_true rfl) dX12_takeName_35 (fun H locs hP hD hS => ?_)
        have e9 : fT vi 17 (nI (a5 + 1)) = fT (fT vi 17 (nI a5)) 17 (nI (a5 + 1)) := (fT_sm _ _ _ _).symm
        have hP : va_P (dC, dI) vwCl (WR a k h0 (fT vi 17 (nI (a5 + 1))) vj vF vG) H := by rw [e9, ← WR_i 17 _ rfl]; exact hP
        have hD : va_D A (WR a k h0 (fT vi 17 (nI (a5 + 1))) vj vF vG) := by rw [e9, ← WR_i 17 _ rfl]; exact hD
        clear e9
        refine lv_goto (tgt := 0) hx hb dX12_takeName_38 (by decide) ?_
        have hl : lv_has _ _ ([(0, .ref h0)]) := lv_sub hl [0] rfl
        exact ih0 (a5 + 1) _ _ _ (by omega) (by omega) hP hD hS hl
      · refine lv_if_eq (tgt := 41) hx hb dX12_takeName_25 (by decide) (fun _ => ?_) (fun c9 => absurd (by decide) c9)
        have ha5 : an < a5 := by rcases Nat.lt_or_ge an a5 with h | h; (exact h); (exfalso; (have e9 : a5 = an := by omega); rw [e9] at f8_0; exact f8_0 hlt)
        refine lv_aload_n hx hb dX12_takeName_41 rfl (lv_at hl 0 rfl) ?_
        refine lv_aload_n hx hb dX12_takeName_42 rfl (lv_at hl 0 rfl) ?_
        refine lv_aload_n hx hb dX12_takeName_43 rfl (lv_at hl 0 rfl) ?_
        refine va_get (D := (dC, dI)) (ci := 12) (v := .int (vi 19)) (C := RX12) (T := TX12) (N := 163) (fs := fM (vS a (fT vi 17 (nI a5)) vj)) hx hb hts iwsRX12_takeName_in12 hown hK hP 0 rfl rfl 19 (by decide) (hts (.fieldLink RX12 488 "OptimaWorksModel" "from" "I") (by decide +kernel)) (fun _ h9 => h9) rfl dX12_takeName_44 ?_
        refine lv_topi (fun y3 hy3 => ?_)
        obtain rfl : (nI fn) = y3 := (hy3.trans (hfr)).symm
        refine lv_aload_n hx hb dX12_takeName_47 rfl (lv_at hl 0 rfl) ?_
        refine va_get (D := (dC, dI)) (ci := 12) (v := .int (nI a5)) (C := RX12) (T := TX12) (N := 163) (fs := fM (vS a (fT vi 17 (nI a5)) vj)) hx hb hts iwsRX12_takeName_in12 hown hK hP 0 rfl rfl 17 (by decide) (hts (.fieldLink RX12 485 "OptimaWorksModel" "at0" "I") (by decide +kernel)) (fun _ h9 => h9) rfl dX12_takeName_48 ?_
        refine lv_aload_n hx hb dX12_takeName_51 rfl (lv_at hl 0 rfl) ?_
        refine va_get (D := (dC, dI)) (ci := 12) (v := .int (vi 19)) (C := RX12) (T := TX12) (N := 163) (fs := fM (vS a (fT vi 17 (nI a5)) vj)) hx hb hts iwsRX12_takeName_in12 hown hK hP 0 rfl rfl 19 (by decide) (hts (.fieldLink RX12 488 "OptimaWorksModel" "from" "I") (by decide +kernel)) (fun _ h9 => h9) rfl dX12_takeName_52 ?_
        refine lv_topi (fun y4 hy4 => ?_)
        obtain rfl : (nI fn) = y4 := (hy4.trans (hfr)).symm
        refine lv_isub hx hb dX12_takeName_55 ?_
        refine lv_topi (fun y5 hy5 => ?_)
        obtain rfl : (nI (a5 - fn)) = y5 := (hy5.trans (pk_sub (a := a5) (b := fn) (by omega))).symm
        have hFc := allFree hD hS hA
        refine va_calli (va_runV (As := [.int (nI fn), .int (nI (a5 - fn))]) (rest := [.ref h0]) ⟨hx, hb, hml, hown, hts⟩ (r_X12_key l dC dI a k h0 (fT vi 17 (nI a5)) vj vF vG fn (a5 - fn) tp hTp (by first | assumption | decide | omega | rfl) (by first | assumption | decide | omega | rfl) (by first | assumption | decide | omega | rfl) H.size) (cwV 2 hts gwsRX12_takeName_3 rfl rfl rfl hd_yX12_key_RX12 (by decide +kernel)) (fz_preE (va_recv hK hP (ci := 12) (q0 := 0) rfl rfl) hP hK hD (fun a U g mk qE => qE.same rfl) (fun U hU9 hW => by rw [hU9]; exact (((hE : StrA A s s.heap).kept hS.2.1).narrow (fun q h => hFc q h)).warm hW)) rfl rfl hl.1 rfl (lv_room (Nat.le_of_ble_eq_true rfl)) dX12_takeName_56 (by decide +kernel)) hS (fun q _ h => hFc q h) hFc (fun r56 u t9_ H locs ht hvm hw9 hB9 hz1 hk1 hS => ?_)
        have hP : va_P (dC, dI) vwCl (WR a k h0 (fT vi 17 (nI a5)) vj vF vG) H := fz_P ht hB9.1
        have hD : va_D A (WR a k h0 (fT vi 17 (nI a5)) vj vF vG) := hB9.2.weaken (fun _ q _ h => hFc q.1 h)
        refine va_put (D := (dC, dI)) (ci := 12) (v := .int r56) (ty := .int) (C := RX12) (T := TX12) (N := 163) (fs := fM (vS a (fT vi 17 (nI a5)) vj)) hx hb hts iwsRX12_takeName_in12 tyX12 tyX12_ok nmX12 hown hK hP hD hS 0 rfl rfl 20 (by decide) (hts (.fieldLink RX12 491 "OptimaWorksModel" "sign0" "I") (by decide +kernel)) (fun _ h9 => h9) rfl (by decide +kernel) rfl rfl (Nat.le_of_ble_eq_true rfl) dX12_takeName_59 (fun H locs hP hD hS => ?_)
        have hP : va_P (dC, dI) vwCl (WR a k h0 (fT (fT vi 17 (nI a5)) 20 r56) vj vF vG) H := by rw [← WR_i 20 _ rfl]; exact hP
        have hD : va_D A (WR a k h0 (fT (fT vi 17 (nI a5)) 20 r56) vj vF vG) := by rw [← WR_i 20 _ rfl]; exact hD
        refine lv_aload_n hx hb dX12_takeName_62 rfl (lv_at hl 0 rfl) ?_
        refine lv_aload_n hx hb dX12_takeName_63 rfl (lv_at hl 0 rfl) ?_
        refine va_get (D := (dC, dI)) (ci := 12) (v := .int r56) (C := RX12) (T := TX12) (N := 163) (fs := fM (vS a (fT (fT vi 17 (nI a5)) 20 r56) vj)) hx hb hts iwsRX12_takeName_in12 hown hK hP 0 rfl rfl 20 (by decide) (hts (.fieldLink RX12 491 "OptimaWorksModel" "sign0" "I") (by decide +kernel)) (fun _ h9 => h9) rfl dX12_takeName_64 ?_
        refine lv_iconst (v := (-1)) hx hb dX12_takeName_67 (by decide) ?_
        refine lv_icmp_eq (tgt := 75) hx hb dX12_takeName_68 (by decide) (fun c_68 => ?_) (fun c_68 => ?_)
        · have t_68 : (r56).toInt = -1 := toI_eq c_68 rfl (by decide)
          refine lv_aload_n hx hb dX12_takeName_75 rfl (lv_at hl 0 rfl) ?_
          refine va_get (D := (dC, dI)) (ci := 12) (v := .int (nI a5)) (C := RX12) (T := TX12) (N := 163) (fs := fM (vS a (fT (fT vi 17 (nI a5)) 20 r56) vj)) hx hb hts iwsRX12_takeName_in12 hown hK hP 0 rfl rfl 17 (by decide) (hts (.fieldLink RX12 485 "OptimaWorksModel" "at0" "I") (by decide +kernel)) (fun _ h9 => h9) rfl dX12_takeName_76 ?_
          refine lv_aload_n hx hb dX12_takeName_79 rfl (lv_at hl 0 rfl) ?_
          refine va_get (D := (dC, dI)) (ci := 12) (v := .int (vi 19)) (C := RX12) (T := TX12) (N := 163) (fs := fM (vS a (fT (fT vi 17 (nI a5)) 20 r56) vj)) hx hb hts iwsRX12_takeName_in12 hown hK hP 0 rfl rfl 19 (by decide) (hts (.fieldLink RX12 488 "OptimaWorksModel" "from" "I") (by decide +kernel)) (fun _ h9 => h9) rfl dX12_takeName_80 ?_
          refine lv_topi (fun y6 hy6 => ?_)
          obtain rfl : (nI fn) = y6 := (hy6.trans (hfr)).symm
          refine lv_isub hx hb dX12_takeName_83 ?_
          refine lv_topi (fun y7 hy7 => ?_)
          obtain rfl : (nI (a5 - fn)) = y7 := (hy7.trans (pk_sub (a := a5) (b := fn) (by omega))).symm
          refine lv_bipush (v := 8) hx hb dX12_takeName_84 (by decide) ?_
          refine lv_icmp_le (tgt := 93) hx hb dX12_takeName_86 (by decide) (fun c_86 => ?_) (fun c_86 => ?_)
          · have t_86 : (((a5 - fn) : Nat) : Int) ≤ 8 := toI_le c_86 (nI_toInt (by omega)) (by decide)
            refine lv_iconst (v := 1) hx hb dX12_takeName_93 (by decide) ?_
            refine va_put (D := (dC, dI)) (ci := 12) (v := .int 1) (ty := .int) (C := RX12) (T := TX12) (N := 163) (fs := fM (vS a (fT (fT vi 17 (nI a5)) 20 r56) vj)) hx hb hts iwsRX12_takeName_in12 tyX12 tyX12_ok nmX12 hown hK hP hD hS 0 rfl rfl 18 (by decide) (hts (.fieldLink RX12 494 "OptimaWorksModel" "word" "I") (by decide +kernel)) (fun _ h9 => h9) rfl (by decide +kernel) rfl rfl (Nat.le_of_ble_eq_true rfl) dX12_takeName_94 (fun H locs hP hD hS => ?_)
            have hP : va_P (dC, dI) vwCl (WR a k h0 (fT (fT (fT vi 17 (nI a5)) 20 r56) 18 1) vj vF vG) H := by rw [← WR_i 18 _ rfl]; exact hP
            have hD : va_D A (WR a k h0 (fT (fT (fT vi 17 (nI a5)) 20 r56) 18 1) vj vF vG) := by rw [← WR_i 18 _ rfl]; exact hD
            refine W.widen (k := 0) (n := 0) (by decide +kernel) (by decide +kernel) ?_
            exact W.vret hx hb hr (fun t9_ ht hW => ⟨⟨(a5, r56, 1), rfl, by (try dsimp only); exact ⟨by omega, Or.inl rfl⟩, by rw [ht]; exact hP, hD⟩, hS.F ht⟩) hS.2.2 dX12_takeName_97
          · have t_86 : ¬ (((a5 - fn) : Nat) : Int) ≤ 8 := toI_nle c_86 (nI_toInt (by omega)) (by decide)
            refine lv_iconst (v := 5) hx hb dX12_takeName_89 (by decide) ?_
            refine lv_goto (tgt := 94) hx hb dX12_takeName_90 (by decide) ?_
            refine va_put (D := (dC, dI)) (ci := 12) (v := .int 5) (ty := .int) (C := RX12) (T := TX12) (N := 163) (fs := fM (vS a (fT (fT vi 17 (nI a5)) 20 r56) vj)) hx hb hts iwsRX12_takeName_in12 tyX12 tyX12_ok nmX12 hown hK hP hD hS 0 rfl rfl 18 (by decide) (hts (.fieldLink RX12 494 "OptimaWorksModel" "word" "I") (by decide +kernel)) (fun _ h9 => h9) rfl (by decide +kernel) rfl rfl (Nat.le_of_ble_eq_true rfl) dX12_takeName_94 (fun H locs hP hD hS => ?_)
            have hP : va_P (dC, dI) vwCl (WR a k h0 (fT (fT (fT vi 17 (nI a5)) 20 r56) 18 5) vj vF vG) H := by rw [← WR_i 18 _ rfl]; exact hP
            have hD : va_D A (WR a k h0 (fT (fT (fT vi 17 (nI a5)) 20 r56) 18 5) vj vF vG) := by rw [← WR_i 18 _ rfl]; exact hD
            refine W.widen (k := 0) (n := 0) (by decide +kernel) (by decide +kernel) ?_
            exact W.vret hx hb hr (fun t9_ ht hW => ⟨⟨(a5, r56, 5), rfl, by (try dsimp only); exact ⟨by omega, Or.inr (Or.inr rfl)⟩, by rw [ht]; exact hP, hD⟩, hS.F ht⟩) hS.2.2 dX12_takeName_97
        · have t_68 : ¬ (r56).toInt = -1 := toI_neq c_68 rfl (by decide)
          refine lv_iconst (v := 2) hx hb dX12_takeName_71 (by decide) ?_
          refine lv_goto (tgt := 94) hx hb dX12_takeName_72 (by decide) ?_
          refine va_put (D := (dC, dI)) (ci := 12) (v := .int 2) (ty := .int) (C := RX12) (T := TX12) (N := 163) (fs := fM (vS a (fT (fT vi 17 (nI a5)) 20 r56) vj)) hx hb hts iwsRX12_takeName_in12 tyX12 tyX12_ok nmX12 hown hK hP hD hS 0 rfl rfl 18 (by decide) (hts (.fieldLink RX12 494 "OptimaWorksModel" "word" "I") (by decide +kernel)) (fun _ h9 => h9) rfl (by decide +kernel) rfl rfl (Nat.le_of_ble_eq_true rfl) dX12_takeName_94 (fun H locs hP hD hS => ?_)
          have hP : va_P (dC, dI) vwCl (WR a k h0 (fT (fT (fT vi 17 (nI a5)) 20 r56) 18 2) vj vF vG) H := by rw [← WR_i 18 _ rfl]; exact hP
          have hD : va_D A (WR a k h0 (fT (fT (fT vi 17 (nI a5)) 20 r56) 18 2) vj vF vG) := by rw [← WR_i 18 _ rfl]; exact hD
          refine W.widen (k := 0) (n := 0) (by decide +kernel) (by decide +kernel) ?_
          exact W.vret hx hb hr (fun t9_ ht hW => ⟨⟨(a5, r56, 2), rfl, by (try dsimp only); exact ⟨by omega, Or.inr (Or.inl rfl)⟩, by rw [ht]; exact hP, hD⟩, hS.F ht⟩) hS.2.2 dX12_takeName_97
theorem dX12_next_0 : decode cX12_next 0 = .ok (.iconst 1, 1) := dk_4 (by decide +kernel)
theorem dX12_next_1 : decode cX12_next 1 = .ok (.istore_n 1, 1) := dk_60 (by decide +kernel)
theorem dX12_next_2 : decode cX12_next 2 = .ok (.iload_n 1, 1) := dk_27 (by decide +kernel)
theorem dX12_next_3 : decode cX12_next 3 = .ok (.ifCond .eq 97, 3) := dk_153 (by decide +kernel)
theorem dX12_next_6 : decode cX12_next 6 = .ok (.aload_n 0, 1) := dk_42 (by decide +kernel)
theorem dX12_next_7 : decode cX12_next 7 = .ok (.aload_n 0, 1) := dk_42 (by decide +kernel)
theorem dX12_next_8 : decode cX12_next 8 = .ok (.getfield 485, 3) := dk_180 (by decide +kernel)
theorem dX12_next_11 : decode cX12_next 11 = .ok (.invokevirtual 482, 3) := dk_182 (by decide +kernel)
theorem dX12_next_14 : decode cX12_next 14 = .ok (.istore_n 2, 1) := dk_61 (by decide +kernel)
theorem dX12_next_15 : decode cX12_next 15 = .ok (.iload_n 2, 1) := dk_28 (by decide +kernel)
theorem dX12_next_16 : decode cX12_next 16 = .ok (.bipush 35, 2) := dk_16 (by decide +kernel)
theorem dX12_next_18 : decode cX12_next 18 = .ok (.if_icmp .ne 40, 3) := dk_160 (by decide +kernel)
theorem dX12_next_21 : decode cX12_next 21 = .ok (.aload_n 0, 1) := dk_42 (by decide +kernel)
theorem dX12_next_22 : decode cX12_next 22 = .ok (.aload_n 0, 1) := dk_42 (by decide +kernel)
theorem dX12_next_23 : decode cX12_next 23 = .ok (.getfield 485, 3) := dk_180 (by decide +kernel)
theorem dX12_next_26 : decode cX12_next 26 = .ok (.invokevirtual 482, 3) := dk_182 (by decide +kernel)
theorem dX12_next_29 : decode cX12_next 29 = .ok (.ifCond .lt 68, 3) := dk_155 (by decide +kernel)
theorem dX12_next_32 : decode cX12_next 32 = .ok (.aload_n 0, 1) := dk_42 (by decide +kernel)
theorem dX12_next_33 : decode cX12_next 33 = .ok (.aload_n 0, 1) := dk_42 (by decide +kernel)
theorem dX12_next_34 : decode cX12_next 34 = .ok (.getfield 485, 3) := dk_180 (by decide +kernel)
theorem dX12_next_37 : decode cX12_next 37 = .ok (.invokevirtual 482, 3) := dk_182 (by decide +kernel)
theorem dX12_next_40 : decode cX12_next 40 = .ok (.bipush 10, 2) := dk_16 (by decide +kernel)
theorem dX12_next_42 : decode cX12_next 42 = .ok (.if_icmp .eq 55, 3) := dk_159 (by decide +kernel)
theorem dX12_next_45 : decode cX12_next 45 = .ok (.aload_n 0, 1) := dk_42 (by decide +kernel)
theorem dX12_next_46 : decode cX12_next 46 = .ok (.dup, 1) := dk_89 (by decide +kernel)
theorem dX12_next_47 : decode cX12_next 47 = .ok (.getfield 485, 3) := dk_180 (by decide +kernel)
theorem dX12_next_50 : decode cX12_next 50 = .ok (.iconst 1, 1) := dk_4 (by decide +kernel)
theorem dX12_next_51 : decode cX12_next 51 = .ok (.iadd, 1) := dk_96 (by decide +kernel)
theorem dX12_next_52 : decode cX12_next 52 = .ok (.putfield 485, 3) := dk_181 (by decide +kernel)
theorem dX12_next_55 : decode cX12_next 55 = .ok (.goto (-34), 3) := dk_167 (by decide +kernel)
theorem dX12_next_58 : decode cX12_next 58 = .ok (.iload_n 2, 1) := dk_28 (by decide +kernel)
theorem dX12_next_59 : decode cX12_next 59 = .ok (.bipush 9, 2) := dk_16 (by decide +kernel)
theorem dX12_next_61 : decode cX12_next 61 = .ok (.if_icmp .eq 21, 3) := dk_159 (by decide +kernel)
theorem dX12_next_64 : decode cX12_next 64 = .ok (.iload_n 2, 1) := dk_28 (by decide +kernel)
theorem dX12_next_65 : decode cX12_next 65 = .ok (.bipush 10, 2) := dk_16 (by decide +kernel)
theorem dX12_next_67 : decode cX12_next 67 = .ok (.if_icmp .eq 15, 3) := dk_159 (by decide +kernel)
theorem dX12_next_70 : decode cX12_next 70 = .ok (.iload_n 2, 1) := dk_28 (by decide +kernel)
theorem dX12_next_71 : decode cX12_next 71 = .ok (.bipush 13, 2) := dk_16 (by decide +kernel)
theorem dX12_next_73 : decode cX12_next 73 = .ok (.if_icmp .eq 9, 3) := dk_159 (by decide +kernel)
theorem dX12_next_76 : decode cX12_next 76 = .ok (.iload_n 2, 1) := dk_28 (by decide +kernel)
theorem dX12_next_77 : decode cX12_next 77 = .ok (.bipush 32, 2) := dk_16 (by decide +kernel)
theorem dX12_next_79 : decode cX12_next 79 = .ok (.if_icmp .ne 16, 3) := dk_160 (by decide +kernel)
theorem dX12_next_82 : decode cX12_next 82 = .ok (.aload_n 0, 1) := dk_42 (by decide +kernel)
theorem dX12_next_83 : decode cX12_next 83 = .ok (.dup, 1) := dk_89 (by decide +kernel)
theorem dX12_next_84 : decode cX12_next 84 = .ok (.getfield 485, 3) := dk_180 (by decide +kernel)
theorem dX12_next_87 : decode cX12_next 87 = .ok (.iconst 1, 1) := dk_4 (by decide +kernel)
theorem dX12_next_88 : decode cX12_next 88 = .ok (.iadd, 1) := dk_96 (by decide +kernel)
theorem dX12_next_89 : decode cX12_next 89 = .ok (.putfield 485, 3) := dk_181 (by decide +kernel)
theorem dX12_next_92 : decode cX12_next 92 = .ok (.goto 5, 3) := dk_167 (by decide +kernel)
theorem dX12_next_95 : decode cX12_next 95 = .ok (.iconst 0, 1) := dk_3 (by decide +kernel)
theorem dX12_next_96 : decode cX12_next 96 = .ok (.istore_n 1, 1) := dk_60 (by decide +kernel)
theorem dX12_next_97 : decode cX12_next 97 = .ok (.goto (-95), 3) := dk_167 (by decide +kernel)
theorem dX12_next_100 : decode cX12_next 100 = .ok (.aload_n 0, 1) := dk_42 (by decide +kernel)
theorem dX12_next_101 : decode cX12_next 101 = .ok (.aload_n 0, 1) := dk_42 (by decide +kernel)
theorem dX12_next_102 : decode cX12_next 102 = .ok (.getfield 485, 3) := dk_180 (by decide +kernel)
theorem dX12_next_105 : decode cX12_next 105 = .ok (.putfield 488, 3) := dk_181 (by decide +kernel)
theorem dX12_next_108 : decode cX12_next 108 = .ok (.aload_n 0, 1) := dk_42 (by decide +kernel)
theorem dX12_next_109 : decode cX12_next 109 = .ok (.aload_n 0, 1) := dk_42 (by decide +kernel)
theorem dX12_next_110 : decode cX12_next 110 = .ok (.getfield 485, 3) := dk_180 (by decide +kernel)
theorem dX12_next_113 : decode cX12_next 113 = .ok (.invokevirtual 482, 3) := dk_182 (by decide +kernel)
theorem dX12_next_116 : decode cX12_next 116 = .ok (.istore_n 2, 1) := dk_61 (by decide +kernel)
theorem dX12_next_117 : decode cX12_next 117 = .ok (.aload_n 0, 1) := dk_42 (by decide +kernel)
theorem dX12_next_118 : decode cX12_next 118 = .ok (.iload_n 2, 1) := dk_28 (by decide +kernel)
theorem dX12_next_119 : decode cX12_next 119 = .ok (.putfield 491, 3) := dk_181 (by decide +kernel)
theorem dX12_next_122 : decode cX12_next 122 = .ok (.iload_n 2, 1) := dk_28 (by decide +kernel)
theorem dX12_next_123 : decode cX12_next 123 = .ok (.ifCond .ge 11, 3) := dk_156 (by decide +kernel)
theorem dX12_next_126 : decode cX12_next 126 = .ok (.aload_n 0, 1) := dk_42 (by decide +kernel)
theorem dX12_next_127 : decode cX12_next 127 = .ok (.iconst 0, 1) := dk_3 (by decide +kernel)
theorem dX12_next_128 : decode cX12_next 128 = .ok (.putfield 494, 3) := dk_181 (by decide +kernel)
theorem dX12_next_131 : decode cX12_next 131 = .ok (.goto 36, 3) := dk_167 (by decide +kernel)
theorem dX12_next_134 : decode cX12_next 134 = .ok (.iload_n 2, 1) := dk_28 (by decide +kernel)
theorem dX12_next_135 : decode cX12_next 135 = .ok (.invokestatic 497, 3) := dk_184 (by decide +kernel)
theorem dX12_next_138 : decode cX12_next 138 = .ok (.ifCond .eq 10, 3) := dk_153 (by decide +kernel)
theorem dX12_next_141 : decode cX12_next 141 = .ok (.aload_n 0, 1) := dk_42 (by decide +kernel)
theorem dX12_next_142 : decode cX12_next 142 = .ok (.invokevirtual 500, 3) := dk_182 (by decide +kernel)
theorem dX12_next_145 : decode cX12_next 145 = .ok (.goto 22, 3) := dk_167 (by decide +kernel)
theorem dX12_next_148 : decode cX12_next 148 = .ok (.iload_n 2, 1) := dk_28 (by decide +kernel)
theorem dX12_next_149 : decode cX12_next 149 = .ok (.invokestatic 503, 3) := dk_184 (by decide +kernel)
theorem dX12_next_152 : decode cX12_next 152 = .ok (.ifCond .eq 10, 3) := dk_153 (by decide +kernel)
theorem dX12_next_155 : decode cX12_next 155 = .ok (.aload_n 0, 1) := dk_42 (by decide +kernel)
theorem dX12_next_156 : decode cX12_next 156 = .ok (.invokevirtual 506, 3) := dk_182 (by decide +kernel)
theorem dX12_next_159 : decode cX12_next 159 = .ok (.goto 8, 3) := dk_167 (by decide +kernel)
theorem dX12_next_162 : decode cX12_next 162 = .ok (.aload_n 0, 1) := dk_42 (by decide +kernel)
theorem dX12_next_163 : decode cX12_next 163 = .ok (.iload_n 2, 1) := dk_28 (by decide +kernel)
theorem dX12_next_164 : decode cX12_next 164 = .ok (.invokevirtual 509, 3) := dk_182 (by decide +kernel)
theorem dX12_next_167 : decode cX12_next 167 = .ok (.return_, 1) := dk_177 (by decide +kernel)
def wsRX12_next : List Cond := .code yX12_next cX12_next 3 none :: ([.fieldLink RX12 485 "OptimaWorksModel" "at0" "I", .fieldLink RX12 488 "OptimaWorksModel" "from" "I", .fieldLink RX12 491 "OptimaWorksModel" "sign0" "I", .fieldLink RX12 494 "OptimaWorksModel" "word" "I"] ++ wsX120 ++ (wsV RX12 482 RX12 yX12_byteAt wsRX12_byteAt) ++ (va_wsS RX12 497 yX12_isLetter wsRX12_isLetter) ++ (wsV RX12 500 RX12 yX12_takeName wsRX12_takeName) ++ (va_wsS RX12 503 yX12_isDigit wsRX12_isDigit) ++ (wsV RX12 506 RX12 yX12_takeNumber wsRX12_takeNumber) ++ (wsV RX12 509 RX12 yX12_takeSign wsRX12_takeSign))
theorem iwsRX12_next_in12 : ∀ w ∈ wsX120, w ∈ wsRX12_next := fun _ h => List.mem_cons_of_mem _ (List.mem_append_left _ (List.mem_append_left _ (List.mem_append_left _ (List.mem_append_left _ (List.mem_append_left _ (List.mem_append_left _ (List.mem_append_right _ h)))))))
theorem gwsRX12_next_0 : GoodIn wsRX12_next (wsV RX12 482 RX12 yX12_byteAt wsRX12_byteAt) := goodIn_sub (fun _ h => List.mem_cons_of_mem _ (List.mem_append_left _ (List.mem_append_left _ (List.mem_append_left _ (List.mem_append_left _ (List.mem_append_left _ (List.mem_append_right _ h))))))) (gdV (by decide +kernel) gdwsRX12_byteAt)
theorem gwsRX12_next_1 : GoodIn wsRX12_next (va_wsS RX12 497 yX12_isLetter wsRX12_isLetter) := goodIn_sub (fun _ h => List.mem_cons_of_mem _ (List.mem_append_left _ (List.mem_append_left _ (List.mem_append_left _ (List.mem_append_left _ (List.mem_append_right _ h)))))) (gdS (by decide +kernel) gdwsRX12_isLetter)
theorem gwsRX12_next_2 : GoodIn wsRX12_next (wsV RX12 500 RX12 yX12_takeName wsRX12_takeName) := goodIn_sub (fun _ h => List.mem_cons_of_mem _ (List.mem_append_left _ (List.mem_append_left _ (List.mem_append_left _ (List.mem_append_right _ h))))) (gdV (by decide +kernel) gdwsRX12_takeName)
theorem gwsRX12_next_3 : GoodIn wsRX12_next (va_wsS RX12 503 yX12_isDigit wsRX12_isDigit) := goodIn_sub (fun _ h => List.mem_cons_of_mem _ (List.mem_append_left _ (List.mem_append_left _ (List.mem_append_right _ h)))) (gdS (by decide +kernel) gdwsRX12_isDigit)
theorem gwsRX12_next_4 : GoodIn wsRX12_next (wsV RX12 506 RX12 yX12_takeNumber wsRX12_takeNumber) := goodIn_sub (fun _ h => List.mem_cons_of_mem _ (List.mem_append_left _ (List.mem_append_right _ h))) (gdV (by decide +kernel) gdwsRX12_takeNumber)
theorem gwsRX12_next_5 : GoodIn wsRX12_next (wsV RX12 509 RX12 yX12_takeSign wsRX12_takeSign) := goodIn_sub (fun _ h => List.mem_cons_of_mem _ (List.mem_append_right _ h)) (gdV (by decide +kernel) gdwsRX12_takeSign)
theorem gdwsRX12_next : wsRX12_next.all goodWord = true := gdC rfl (gdA (gdA (gdA (gdA (gdA (gdA (gdA (by decide +kernel : ([.fieldLink RX12 485 "OptimaWorksModel" "at0" "I", .fieldLink RX12 488 "OptimaWorksModel" "from" "I", .fieldLink RX12 491 "OptimaWorksModel" "sign0" "I", .fieldLink RX12 494 "OptimaWorksModel" "word" "I"] : List Cond).all goodWord = true) gdwsX120) (gdV (by decide +kernel) gdwsRX12_byteAt)) (gdS (by decide +kernel) gdwsRX12_isLetter)) (gdV (by decide +kernel) gdwsRX12_takeName)) (gdS (by decide +kernel) gdwsRX12_isDigit)) (gdV (by decide +kernel) gdwsRX12_takeNumber)) (gdV (by decide +kernel) gdwsRX12_takeSign))
set_option maxHeartbeats 4000000 in
set_option maxRecDepth 100000 in
/-- next() -/
theorem r_X12_next (l : Launch) (dC : Nat → ClassId) (dI : Nat → Nat → Nat) (a : Nat → Nat) (k : Nat → ClassId) (h0 : Nat) (vi : Nat → Int32) (vj : Nat → Int64) (vF : Nat → Nat → Int32) (vG : Nat → Nat → Int64) (tp : Nat) (an : Nat) (hTp : vi 16 = nI tp) (htp : tp ≤ 4000) (ha0 : vi 17 = nI an) (han : an ≤ tp) (sz : Nat) : Met l yX12_next wsRX12_next ({ frames := 7, cells := 0, slots := 0, locals := 151 }) (va_Pc [.ref h0] (fun U => U.heap.size = sz ∧ va_P (dC, dI) vwCl (WR a k h0 vi vj vF vG) U.heap ∧ va_K (dC, dI) vwCl (tX12 k) U ∧ va_D (fun _ => True) (WR a k h0 vi vj vF vG) ∧ StrA (va_A (WR a k h0 vi vj vF vG) sz) U U.heap)) (va_Qv (fun (u : (Nat) × (Nat) × (Int32) × (Int32)) => (LxO tp (u.2.1) (u.1) (u.2.2.2) (u.2.2.1)) ∧ (an ≤ (u.2.1))) (fun (u : (Nat) × (Nat) × (Int32) × (Int32)) t => va_P (dC, dI) vwCl (WR a k h0 (fT (fT (fT (fT vi 17 (nI (u.1))) 19 (nI (u.2.1))) 20 (u.2.2.1)) 18 (u.2.2.2)) vj vF vG) t.heap ∧ va_D (va_A (WR a k h0 vi vj vF vG) sz) (WR a k h0 (fT (fT (fT (fT vi 17 (nI (u.1))) 19 (nI (u.2.1))) 20 (u.2.2.1)) 18 (u.2.2.2)) vj vF vG)) (va_A (WR a k h0 vi vj vF vG) sz)) 0 0 (va_A (WR a k h0 vi vj vF vG) sz) := by
  refine Met.ofW (cc := cX12_next) (maxL := 3) (ret := none) (by decide) rfl ?_
  intro p e s m args below meth c s₁ B hml hv
  obtain ⟨rfl, hsz, hP, hK, hD0, hE⟩ := hv
  have hx := B.exec
  have hb := B.bytes
  have hr := B.returns
  have hts := atoms_spec (ws := wsRX12_next) B.pre
  have hown : s.vm.findClass RX12 = some m.cls := findClass_of_methodNamed B.named
  have hlocks := B.notSynchronized
  subst hsz
  have hD := hD0.self (sz := s.heap.size)
  generalize hAe : va_A (WR a k h0 vi vj vF vG) s.heap.size = A at hD hE ⊢
  have hA : ∀ q : Nat, s.heap.size ≤ q → A q := fun q h => by rw [← hAe]; exact Or.inr h
  have hS : va_S A s.heap s.heap [] := va_S.rf
  have hl := lv_entry ([.ref h0]) (n := 3) (Nat.le_of_ble_eq_true rfl)
  rw [lg_entry_eq]
  generalize (lg_sl ([.ref h0]) ++ List.replicate (3 - (lg_sl ([.ref h0])).length) Slot.unset).toArray = ls at hl ⊢
  have hl : lv_has ls 3 [(0, .ref h0)] := hl
  refine lv_iconst (v := 1) hx hb dX12_next_0 (by decide) ?_
  refine lv_istore_n hx hb dX12_next_1 rfl hl (by decide) rfl (fun ls (hl : lv_has ls _ ([(1, .int 1), (0, .ref h0)])) => ?_)
  have e9 : fT vi 17 (nI an) = vi := by funext q9; by_cases h9_17 : q9 = 17; (subst h9_17; exact (fT_eq _ _ _).trans (Eq.trans (by first | rfl | assumption | (symm; assumption) | (subst_vars; rfl)) (Eq.refl _).symm)); exact (fT_ne _ _ h9_17).trans (Eq.refl _).symm
  have hP : va_P (dC, dI) vwCl (WR a k h0 (fT vi 17 (nI an)) vj vF vG) s.heap := by rw [e9]; exact hP
  have hD : va_D A (WR a k h0 (fT vi 17 (nI an)) vj vF vG) := by rw [e9]; exact hD
  clear e9
  have hl : lv_has _ _ ([(0, .ref h0), (1, .int 1)]) := lv_sub hl [1, 0] rfl
  refine (fun (loop : ∀ (n9 : Nat) (mo : Int32) (a5 : Nat) (H : Heap) (locs : List Loc) (ls : Array Slot), (an ≤ a5 ∧ a5 ≤ tp) →  ((mo = 0 ∧ 0 < n9) ∨ tp + 1 < a5 + n9) → va_P (dC, dI) vwCl (WR a k h0 (fT vi 17 (nI a5)) vj vF vG) H → va_D A (WR a k h0 (fT vi 17 (nI a5)) vj vF vG) → va_S A s.heap H locs → lv_has ls 3 [(0, .ref h0), (1, .int mo)] → W p l e _ s m _ below meth c H locs 0 0 _ (F0 m 2 ls [])) => loop (tp + 2) 1 an _ _ _ (by omega) (Or.inr (by omega)) hP hD hS hl) ?_
  intro n9
  induction n9 with
  | zero => intro mo a5 H locs ls ha5 hf9; exact False.elim (by omega)
  | succ n9 ih2 =>
    intro mo a5 H locs ls ha5 hf2 hP hD hS hl
    have hfx := hf2
    refine lv_iload_n hx hb dX12_next_2 rfl (lv_at hl 1 rfl) ?_
    refine lv_if_eq (tgt := 100) hx hb dX12_next_3 (by decide) (fun c_3 => ?_) (fun c_3 => ?_)
    · have t_3 : (mo).toInt = 0 := toI_eq c_3 rfl (by decide)
      refine lv_aload_n hx hb dX12_next_100 rfl (lv_at hl 0 rfl) ?_
      refine lv_aload_n hx hb dX12_next_101 rfl (lv_at hl 0 rfl) ?_
      refine va_get (D := (dC, dI)) (ci := 12) (v := .int (nI a5)) (C := RX12) (T := TX12) (N := 163) (fs := fM (vS a (fT vi 17 (nI a5)) vj)) hx hb hts iwsRX12_next_in12 hown hK hP 0 rfl rfl 17 (by decide) (hts (.fieldLink RX12 485 "OptimaWorksModel" "at0" "I") (by decide +kernel)) (fun _ h9 => h9) rfl dX12_next_102 ?_
      refine va_put (D := (dC, dI)) (ci := 12) (v := .int (nI a5)) (ty := .int) (C := RX12) (T := TX12) (N := 163) (fs := fM (vS a (fT vi 17 (nI a5)) vj)) hx hb hts iwsRX12_next_in12 tyX12 tyX12_ok nmX12 hown hK hP hD hS 0 rfl rfl 19 (by decide) (hts (.fieldLink RX12 488 "OptimaWorksModel" "from" "I") (by decide +kernel)) (fun _ h9 => h9) rfl (by decide +kernel) rfl rfl (Nat.le_of_ble_eq_true rfl) dX12_next_105 (fun H locs hP hD hS => ?_)
      have hP : va_P (dC, dI) vwCl (WR a k h0 (fT (fT vi 17 (nI a5)) 19 (nI a5)) vj vF vG) H := by rw [← WR_i 19 _ rfl]; exact hP
      have hD : va_D A (WR a k h0 (fT (fT vi 17 (nI a5)) 19 (nI a5)) vj vF vG) := by rw [← WR_i 19 _ rfl]; exact hD
      refine lv_aload_n hx hb dX12_next_108 rfl (lv_at hl 0 rfl) ?_
      refine lv_aload_n hx hb dX12_next_109 rfl (lv_at hl 0 rfl) ?_
      refine va_get (D := (dC, dI)) (ci := 12) (v := .int (nI a5)) (C := RX12) (T := TX12) (N := 163) (fs := fM (vS a (fT (fT vi 17 (nI a5)) 19 (nI a5)) vj)) hx hb hts iwsRX12_next_in12 hown hK hP 0 rfl rfl 17 (by decide) (hts (.fieldLink RX12 485 "OptimaWorksModel" "at0" "I") (by decide +kernel)) (fun _ h9 => h9) rfl dX12_next_110 ?_
      have hFc := allFree hD hS hA
      refine va_calli (va_runV (As := [.int (nI a5)]) (rest := []) ⟨hx, hb, hml, hown, hts⟩ (r_X12_byteAt l dC dI a k h0 (fT (fT vi 17 (nI a5)) 19 (nI a5)) vj vF vG a5 tp hTp (by first | assumption | decide | omega | rfl) (by first | assumption | decide | omega | rfl) H.size) (cwV 1 hts gwsRX12_next_0 rfl rfl rfl hd_yX12_byteAt_RX12 (by decide +kernel)) (fz_pre (va_recv hK hP (ci := 12) (q0 := 0) rfl rfl) hP hK hD) rfl rfl hl.1 rfl (lv_room (Nat.le_of_ble_eq_true rfl)) dX12_next_113 (by decide +kernel)) hS (fun q _ h => hFc q h) hFc (fun r113 u t9_ H locs ht hvm hw9 hB9 hz1 hk1 hS => ?_)
      have hP : va_P (dC, dI) vwCl (WR a k h0 (fT (fT vi 17 (nI a5)) 19 (nI a5)) vj vF vG) H := fz_P ht hB9.1
      have hD : va_D A (WR a k h0 (fT (fT vi 17 (nI a5)) 19 (nI a5)) vj vF vG) := hB9.2.weaken (fun _ q _ h => hFc q.1 h)
      obtain rfl := hw9
      refine lv_istore_n hx hb dX12_next_116 rfl hl (by decide) rfl (fun ls (hl : lv_has ls _ ([(2, .int (bA tp (vF 9) a5)), (0, .ref h0), (1, .int mo)])) => ?_)
      have bi7 := bA_in tp (vF 9) a5
      refine lv_aload_n hx hb dX12_next_117 rfl (lv_at hl 1 rfl) ?_
      refine lv_iload_n hx hb dX12_next_118 rfl (lv_at hl 0 rfl) ?_
      refine va_put (D := (dC, dI)) (ci := 12) (v := .int (bA tp (vF 9) a5)) (ty := .int) (C := RX12) (T := TX12) (N := 163) (fs := fM (vS a (fT (fT vi 17 (nI a5)) 19 (nI a5)) vj)) hx hb hts iwsRX12_next_in12 tyX12 tyX12_ok nmX12 hown hK hP hD hS 0 rfl rfl 20 (by decide) (hts (.fieldLink RX12 491 "OptimaWorksModel" "sign0" "I") (by decide +kernel)) (fun _ h9 => h9) rfl (by decide +kernel) rfl rfl (Nat.le_of_ble_eq_true rfl) dX12_next_119 (fun H locs hP hD hS => ?_)
      have hP : va_P (dC, dI) vwCl (WR a k h0 (fT (fT (fT vi 17 (nI a5)) 19 (nI a5)) 20 (bA tp (vF 9) a5)) vj vF vG) H := by rw [← WR_i 20 _ rfl]; exact hP
      have hD : va_D A (WR a k h0 (fT (fT (fT vi 17 (nI a5)) 19 (nI a5)) 20 (bA tp (vF 9) a5)) vj vF vG) := by rw [← WR_i 20 _ rfl]; exact hD
      refine lv_iload_n hx hb dX12_next_122 rfl (lv_at hl 0 rfl) ?_
      refine lv_if_ge (tgt := 134) hx hb dX12_next_123 (by decide) (fun c_123 => ?_) (fun c_123 => ?_)
      · have t_123 : ((bA tp (vF 9) a5)).toInt ≥ 0 := toI_ge c_123 rfl (by decide)
        refine lv_iload_n hx hb dX12_next_134 rfl (lv_at hl 0 rfl) ?_
        have hFc := noneFree hS hA
        refine va_calli (va_runS (As := [.int (bA tp (vF 9) a5)]) (rest := []) ⟨hx, hb, hml, hown, hts⟩ (r_X12_isLetter l dC dI (bA tp (vF 9) a5) H.size) (va_cwS 1 hts gwsRX12_next_1 rfl rfl rfl (by decide +kernel) ⟨by decide +kernel, by decide +kernel⟩) ⟨fun a U g mk q => by obtain ⟨q0, q1, qP, qK, qD⟩ := q; exact ⟨q0, q1, qP, va_K.moved (u := U) (U := U.calling g mk a) (Vm.Alike.refl U.vm) qK, qD⟩, fun U hU9 hW => ⟨rfl, by rw [hU9], by rw [hU9]; exact nilP, va_K.moved hW.alike (hK.sub (tys' := []) [] rfl), nilD⟩⟩ rfl rfl hl.1 rfl (lv_room (Nat.le_of_ble_eq_true rfl)) dX12_next_135 (by decide +kernel)) hS (fun q _ h => hFc q h) hFc (fun r135 u t9_ H1 locs ht hvm hw9 hB9 hz1 hk1 hS => ?_)
        have hP := keepAll hP hk1
        clear hB9
        generalize H1 = H at hP hS ⊢
        have hP : va_P (dC, dI) vwCl (WR a k h0 (fT (fT (fT vi 17 (nI a5)) 19 (nI a5)) 20 (bA tp (vF 9) a5)) vj vF vG) H := hP
        have hD : va_D A (WR a k h0 (fT (fT (fT vi 17 (nI a5)) 19 (nI a5)) 20 (bA tp (vF 9) a5)) vj vF vG) := hD
        rcases hw9 with ⟨rfl, f135_0⟩ | ⟨rfl, f135_0⟩
        · refine lv_if_eq (tgt := 148) hx hb dX12_next_138 (by decide) (fun c9 => absurd c9 (by decide)) (fun _ => ?_)
          refine lv_aload_n hx hb dX12_next_141 rfl (lv_at hl 1 rfl) ?_
          have hFc := allFree hD hS hA
          refine va_callv (va_runV (As := []) (rest := []) ⟨hx, hb, hml, hown, hts⟩ (r_X12_takeName l dC dI a k h0 (fT (fT (fT vi 17 (nI a5)) 19 (nI a5)) 20 (bA tp (vF 9) a5)) vj vF vG tp a5 a5 hTp (by first | assumption | decide | omega | rfl) rfl rfl (by first | assumption | decide | omega | rfl) (by omega) (f135_0) H.size) (cwV 0 hts gwsRX12_next_2 rfl rfl rfl hd_yX12_takeName_RX12 (by decide +kernel)) (fz_preE (va_recv hK hP (ci := 12) (q0 := 0) rfl rfl) hP hK hD (fun a U g mk qE => qE.same rfl) (fun U hU9 hW => by rw [hU9]; exact (((hE : StrA A s s.heap).kept hS.2.1).narrow (fun q h => hFc q h)).warm hW)) rfl rfl hl.1 rfl (lv_room (Nat.le_of_ble_eq_true rfl)) dX12_next_142 (by decide +kernel)) hS (fun q _ h => hFc q h) hFc (fun u t9_ H locs ht hvm hw9 hB9 hz1 hk1 hS => ?_)
          obtain ⟨a2142, sg142, wd142⟩ := u
          try dsimp only at hw9 hB9
          have hP : va_P (dC, dI) vwCl (WR a k h0 (fT (fT (fT (fT (fT (fT vi 17 (nI a5)) 19 (nI a5)) 20 (bA tp (vF 9) a5)) 17 (nI a2142)) 20 sg142) 18 wd142) vj vF vG) H := fz_P ht hB9.1
          have hD : va_D A (WR a k h0 (fT (fT (fT (fT (fT (fT vi 17 (nI a5)) 19 (nI a5)) 20 (bA tp (vF 9) a5)) 17 (nI a2142)) 20 sg142) 18 wd142) vj vF vG) := hB9.2.weaken (fun _ q _ h => hFc q.1 h)
          have e9 : fT (fT (fT (fT vi 17 (nI a2142)) 19 (nI a5)) 20 sg142) 18 wd142 = fT (fT (fT (fT (fT (fT vi 17 (nI a5)) 19 (nI a5)) 20 (bA tp (vF 9) a5)) 17 (nI a2142)) 20 sg142) 18 wd142 := ((congrArg (fun g9 => fT (fT g9 20 sg142) 18 wd142) ((fT_sw _ _ _ (Nat.ne_of_beq_eq_false rfl)).trans (congrArg (fun g9 => fT g9 20 (bA tp (vF 9) a5)) ((fT_sw _ _ _ (Nat.ne_of_beq_eq_false rfl)).trans (congrArg (fun g9 => fT g9 19 (nI a5)) (fT_sm _ _ _ _)))))).trans (congrArg (fun g9 => fT g9 18 wd142) (fT_sm _ _ _ _))).symm
          rw [← e9] at hP hD
          clear e9
          have hP : va_P (dC, dI) vwCl (WR a k h0 (fT (fT (fT (fT vi 17 (nI a2142)) 19 (nI a5)) 20 sg142) 18 wd142) vj vF vG) H := hP
          have hD : va_D A (WR a k h0 (fT (fT (fT (fT vi 17 (nI a2142)) 19 (nI a5)) 20 sg142) 18 wd142) vj vF vG) := hD
          obtain ⟨f142_0, f142_1⟩ := hw9
          refine lv_goto (tgt := 167) hx hb dX12_next_145 (by decide) ?_
          refine W.widen (k := 0) (n := 0) (by decide +kernel) (by decide +kernel) ?_
          exact W.vret hx hb hr (fun t9_ ht hW => ⟨⟨(a2142, a5, sg142, wd142), rfl, by (try dsimp only); exact ⟨⟨by omega, by omega, Or.inr (by omega), fun h9 => by rcases f142_1 with h | h | h <;> (rw [h] at h9; exact absurd h9 (by decide))⟩, by omega⟩, by rw [ht]; exact hP, hD⟩, hS.F ht⟩) hS.2.2 dX12_next_167
        · refine lv_if_eq (tgt := 148) hx hb dX12_next_138 (by decide) (fun _ => ?_) (fun c9 => absurd (by decide) c9)
          refine lv_iload_n hx hb dX12_next_148 rfl (lv_at hl 0 rfl) ?_
          have hFc := noneFree hS hA
          refine va_calli (va_runS (As := [.int (bA tp (vF 9) a5)]) (rest := []) ⟨hx, hb, hml, hown, hts⟩ (r_X12_isDigit l dC dI (bA tp (vF 9) a5) H.size) (va_cwS 1 hts gwsRX12_next_3 rfl rfl rfl (by decide +kernel) ⟨by decide +kernel, by decide +kernel⟩) ⟨fun a U g mk q => by obtain ⟨q0, q1, qP, qK, qD⟩ := q; exact ⟨q0, q1, qP, va_K.moved (u := U) (U := U.calling g mk a) (Vm.Alike.refl U.vm) qK, qD⟩, fun U hU9 hW => ⟨rfl, by rw [hU9], by rw [hU9]; exact nilP, va_K.moved hW.alike (hK.sub (tys' := []) [] rfl), nilD⟩⟩ rfl rfl hl.1 rfl (lv_room (Nat.le_of_ble_eq_true rfl)) dX12_next_149 (by decide +kernel)) hS (fun q _ h => hFc q h) hFc (fun r149 u t9_ H1 locs ht hvm hw9 hB9 hz1 hk1 hS => ?_)
          have hP := keepAll hP hk1
          clear hB9
          generalize H1 = H at hP hS ⊢
          have hP : va_P (dC, dI) vwCl (WR a k h0 (fT (fT (fT vi 17 (nI a5)) 19 (nI a5)) 20 (bA tp (vF 9) a5)) vj vF vG) H := hP
          have hD : va_D A (WR a k h0 (fT (fT (fT vi 17 (nI a5)) 19 (nI a5)) 20 (bA tp (vF 9) a5)) vj vF vG) := hD
          rcases hw9 with ⟨rfl, f149_0⟩ | ⟨rfl, f149_0⟩
          · refine lv_if_eq (tgt := 162) hx hb dX12_next_152 (by decide) (fun c9 => absurd c9 (by decide)) (fun _ => ?_)
            refine lv_aload_n hx hb dX12_next_155 rfl (lv_at hl 1 rfl) ?_
            have hFc := allFree hD hS hA
            refine va_callv (va_runV (As := []) (rest := []) ⟨hx, hb, hml, hown, hts⟩ (r_X12_takeNumber l dC dI a k h0 (fT (fT (fT vi 17 (nI a5)) 19 (nI a5)) 20 (bA tp (vF 9) a5)) vj vF vG tp a5 a5 hTp (by first | assumption | decide | omega | rfl) rfl rfl (by first | assumption | decide | omega | rfl) (by omega) (f149_0) H.size) (cwV 0 hts gwsRX12_next_4 rfl rfl rfl hd_yX12_takeNumber_RX12 (by decide +kernel)) (fz_pre (va_recv hK hP (ci := 12) (q0 := 0) rfl rfl) hP hK hD) rfl rfl hl.1 rfl (lv_room (Nat.le_of_ble_eq_true rfl)) dX12_next_156 (by decide +kernel)) hS (fun q _ h => hFc q h) hFc (fun u t9_ H locs ht hvm hw9 hB9 hz1 hk1 hS => ?_)
            obtain ⟨a2156, sg156, wd156⟩ := u
            try dsimp only at hw9 hB9
            have hP : va_P (dC, dI) vwCl (WR a k h0 (fT (fT (fT (fT (fT (fT vi 17 (nI a5)) 19 (nI a5)) 20 (bA tp (vF 9) a5)) 17 (nI a2156)) 20 sg156) 18 wd156) vj vF vG) H := fz_P ht hB9.1
            have hD : va_D A (WR a k h0 (fT (fT (fT (fT (fT (fT vi 17 (nI a5)) 19 (nI a5)) 20 (bA tp (vF 9) a5)) 17 (nI a2156)) 20 sg156) 18 wd156) vj vF vG) := hB9.2.weaken (fun _ q _ h => hFc q.1 h)
            have e9 : fT (fT (fT (fT vi 17 (nI a2156)) 19 (nI a5)) 20 sg156) 18 wd156 = fT (fT (fT (fT (fT (fT vi 17 (nI a5)) 19 (nI a5)) 20 (bA tp (vF 9) a5)) 17 (nI a2156)) 20 sg156) 18 wd156 := ((congrArg (fun g9 => fT (fT g9 20 sg156) 18 wd156) ((fT_sw _ _ _ (Nat.ne_of_beq_eq_false rfl)).trans (congrArg (fun g9 => fT g9 20 (bA tp (vF 9) a5)) ((fT_sw _ _ _ (Nat.ne_of_beq_eq_false rfl)).trans (congrArg (fun g9 => fT g9 19 (nI a5)) (fT_sm _ _ _ _)))))).trans (congrArg (fun g9 => fT g9 18 wd156) (fT_sm _ _ _ _))).symm
            rw [← e9] at hP hD
            clear e9
            have hP : va_P (dC, dI) vwCl (WR a k h0 (fT (fT (fT (fT vi 17 (nI a2156)) 19 (nI a5)) 20 sg156) 18 wd156) vj vF vG) H := hP
            have hD : va_D A (WR a k h0 (fT (fT (fT (fT vi 17 (nI a2156)) 19 (nI a5)) 20 sg156) 18 wd156) vj vF vG) := hD
            obtain ⟨f156_0, f156_1, f156_2, f156_3⟩ := hw9
            refine lv_goto (tgt := 167) hx hb dX12_next_159 (by decide) ?_
            refine W.widen (k := 0) (n := 0) (by decide +kernel) (by decide +kernel) ?_
            exact W.vret hx hb hr (fun t9_ ht hW => ⟨⟨(a2156, a5, sg156, wd156), rfl, by (try dsimp only); exact ⟨⟨by omega, by omega, Or.inr (by omega), fun _ => f156_2⟩, by omega⟩, by rw [ht]; exact hP, hD⟩, hS.F ht⟩) hS.2.2 dX12_next_167
          · refine lv_if_eq (tgt := 162) hx hb dX12_next_152 (by decide) (fun _ => ?_) (fun c9 => absurd (by decide) c9)
            refine lv_aload_n hx hb dX12_next_162 rfl (lv_at hl 1 rfl) ?_
            refine lv_iload_n hx hb dX12_next_163 rfl (lv_at hl 0 rfl) ?_
            have hFc := allFree hD hS hA
            refine va_callv (va_runV (As := [.int (bA tp (vF 9) a5)]) (rest := []) ⟨hx, hb, hml, hown, hts⟩ (r_X12_takeSign l dC dI a k h0 (fT (fT (fT vi 17 (nI a5)) 19 (nI a5)) 20 (bA tp (vF 9) a5)) vj vF vG (bA tp (vF 9) a5) tp a5 hTp (by first | assumption | decide | omega | rfl) rfl (by omega) H.size) (cwV 1 hts gwsRX12_next_5 rfl rfl rfl hd_yX12_takeSign_RX12 (by decide +kernel)) (fz_pre (va_recv hK hP (ci := 12) (q0 := 0) rfl rfl) hP hK hD) rfl rfl hl.1 rfl (lv_room (Nat.le_of_ble_eq_true rfl)) dX12_next_164 (by decide +kernel)) hS (fun q _ h => hFc q h) hFc (fun u t9_ H locs ht hvm hw9 hB9 hz1 hk1 hS => ?_)
            obtain ⟨a2164, sg164, wd164⟩ := u
            try dsimp only at hw9 hB9
            have hP : va_P (dC, dI) vwCl (WR a k h0 (fT (fT (fT (fT (fT (fT vi 17 (nI a5)) 19 (nI a5)) 20 (bA tp (vF 9) a5)) 18 wd164) 20 sg164) 17 (nI a2164)) vj vF vG) H := fz_P ht hB9.1
            have hD : va_D A (WR a k h0 (fT (fT (fT (fT (fT (fT vi 17 (nI a5)) 19 (nI a5)) 20 (bA tp (vF 9) a5)) 18 wd164) 20 sg164) 17 (nI a2164)) vj vF vG) := hB9.2.weaken (fun _ q _ h => hFc q.1 h)
            have e9 : fT (fT (fT (fT vi 17 (nI a2164)) 19 (nI a5)) 20 sg164) 18 wd164 = fT (fT (fT (fT (fT (fT vi 17 (nI a5)) 19 (nI a5)) 20 (bA tp (vF 9) a5)) 18 wd164) 20 sg164) 17 (nI a2164) := ((congrArg (fun g9 => fT g9 17 (nI a2164)) ((fT_sw _ _ _ (Nat.ne_of_beq_eq_false rfl)).trans (congrArg (fun g9 => fT g9 18 wd164) (fT_sm _ _ _ _)))).trans ((fT_sw _ _ _ (Nat.ne_of_beq_eq_false rfl)).trans (congrArg (fun g9 => fT g9 18 wd164) ((fT_sw _ _ _ (Nat.ne_of_beq_eq_false rfl)).trans (congrArg (fun g9 => fT g9 20 sg164) ((fT_sw _ _ _ (Nat.ne_of_beq_eq_false rfl)).trans (congrArg (fun g9 => fT g9 19 (nI a5)) (fT_sm _ _ _ _)))))))).symm
            rw [← e9] at hP hD
            clear e9
            have hP : va_P (dC, dI) vwCl (WR a k h0 (fT (fT (fT (fT vi 17 (nI a2164)) 19 (nI a5)) 20 sg164) 18 wd164) vj vF vG) H := hP
            have hD : va_D A (WR a k h0 (fT (fT (fT (fT vi 17 (nI a2164)) 19 (nI a5)) 20 sg164) 18 wd164) vj vF vG) := hD
            obtain ⟨f164_0, f164_1, f164_2⟩ := hw9
            refine W.widen (k := 0) (n := 0) (by decide +kernel) (by decide +kernel) ?_
            exact W.vret hx hb hr (fun t9_ ht hW => ⟨⟨(a2164, a5, sg164, wd164), rfl, by (try dsimp only); exact ⟨⟨by omega, by omega, Or.inr (by omega), fun h9 => by rcases f164_2 with h | h <;> (rw [h] at h9; exact absurd h9 (by decide))⟩, by omega⟩, by rw [ht]; exact hP, hD⟩, hS.F ht⟩) hS.2.2 dX12_next_167
      · have t_123 : ¬ ((bA tp (vF 9) a5)).toInt ≥ 0 := toI_nge c_123 rfl (by decide)
        refine lv_aload_n hx hb dX12_next_126 rfl (lv_at hl 1 rfl) ?_
        refine lv_iconst (v := 0) hx hb dX12_next_127 (by decide) ?_
        refine va_put (D := (dC, dI)) (ci := 12) (v := .int 0) (ty := .int) (C := RX12) (T := TX12) (N := 163) (fs := fM (vS a (fT (fT (fT vi 17 (nI a5)) 19 (nI a5)) 20 (bA tp (vF 9) a5)) vj)) hx hb hts iwsRX12_next_in12 tyX12 tyX12_ok nmX12 hown hK hP hD hS 0 rfl rfl 18 (by decide) (hts (.fieldLink RX12 494 "OptimaWorksModel" "word" "I") (by decide +kernel)) (fun _ h9 => h9) rfl (by decide +kernel) rfl rfl (Nat.le_of_ble_eq_true rfl) dX12_next_128 (fun H locs hP hD hS => ?_)
        have hP : va_P (dC, dI) vwCl (WR a k h0 (fT (fT (fT (fT vi 17 (nI a5)) 19 (nI a5)) 20 (bA tp (vF 9) a5)) 18 0) vj vF vG) H := by rw [← WR_i 18 _ rfl]; exact hP
        have hD : va_D A (WR a k h0 (fT (fT (fT (fT vi 17 (nI a5)) 19 (nI a5)) 20 (bA tp (vF 9) a5)) 18 0) vj vF vG) := by rw [← WR_i 18 _ rfl]; exact hD
        refine lv_goto (tgt := 167) hx hb dX12_next_131 (by decide) ?_
        refine W.widen (k := 0) (n := 0) (by decide +kernel) (by decide +kernel) ?_
        exact W.vret hx hb hr (fun t9_ ht hW => ⟨⟨(a5, a5, (bA tp (vF 9) a5), 0), rfl, by (try dsimp only); exact ⟨⟨Nat.le_refl _, by omega, Or.inl rfl, fun h9 => absurd h9 (by decide)⟩, by omega⟩, by rw [ht]; exact hP, hD⟩, hS.F ht⟩) hS.2.2 dX12_next_167
    · have t_3 : ¬ (mo).toInt = 0 := toI_neq c_3 rfl (by decide)
      refine lv_aload_n hx hb dX12_next_6 rfl (lv_at hl 0 rfl) ?_
      refine lv_aload_n hx hb dX12_next_7 rfl (lv_at hl 0 rfl) ?_
      refine va_get (D := (dC, dI)) (ci := 12) (v := .int (nI a5)) (C := RX12) (T := TX12) (N := 163) (fs := fM (vS a (fT vi 17 (nI a5)) vj)) hx hb hts iwsRX12_next_in12 hown hK hP 0 rfl rfl 17 (by decide) (hts (.fieldLink RX12 485 "OptimaWorksModel" "at0" "I") (by decide +kernel)) (fun _ h9 => h9) rfl dX12_next_8 ?_
      have hFc := allFree hD hS hA
      refine va_calli (va_runV (As := [.int (nI a5)]) (rest := []) ⟨hx, hb, hml, hown, hts⟩ (r_X12_byteAt l dC dI a k h0 (fT vi 17 (nI a5)) vj vF vG a5 tp hTp (by first | assumption | decide | omega | rfl) (by first | assumption | decide | omega | rfl) H.size) (cwV 1 hts gwsRX12_next_0 rfl rfl rfl hd_yX12_byteAt_RX12 (by decide +kernel)) (fz_pre (va_recv hK hP (ci := 12) (q0 := 0) rfl rfl) hP hK hD) rfl rfl hl.1 rfl (lv_room (Nat.le_of_ble_eq_true rfl)) dX12_next_11 (by decide +kernel)) hS (fun q _ h => hFc q h) hFc (fun r11 u t9_ H locs ht hvm hw9 hB9 hz1 hk1 hS => ?_)
      have hP : va_P (dC, dI) vwCl (WR a k h0 (fT vi 17 (nI a5)) vj vF vG) H := fz_P ht hB9.1
      have hD : va_D A (WR a k h0 (fT vi 17 (nI a5)) vj vF vG) := hB9.2.weaken (fun _ q _ h => hFc q.1 h)
      obtain rfl := hw9
      refine lv_istore_n hx hb dX12_next_14 rfl hl (by decide) rfl (fun ls (hl : lv_has ls _ ([(2, .int (bA tp (vF 9) a5)), (0, .ref h0), (1, .int mo)])) => ?_)
      have bi := bA_in tp (vF 9) a5
      refine lv_iload_n hx hb dX12_next_15 rfl (lv_at hl 0 rfl) ?_
      refine lv_bipush (v := 35) hx hb dX12_next_16 (by decide) ?_
      refine lv_icmp_ne (tgt := 58) hx hb dX12_next_18 (by decide) (fun c_18 => ?_) (fun c_18 => ?_)
      · have t_18 : ((bA tp (vF 9) a5)).toInt ≠ 35 := toI_ne c_18 rfl (by decide)
        refine lv_iload_n hx hb dX12_next_58 rfl (lv_at hl 0 rfl) ?_
        refine lv_bipush (v := 9) hx hb dX12_next_59 (by decide) ?_
        refine lv_icmp_eq (tgt := 82) hx hb dX12_next_61 (by decide) (fun c_61 => ?_) (fun c_61 => ?_)
        · have t_61 : ((bA tp (vF 9) a5)).toInt = 9 := toI_eq c_61 rfl (by decide)
          refine lv_aload_n hx hb dX12_next_82 rfl (lv_at hl 1 rfl) ?_
          refine lv_dup hx hb dX12_next_83 rfl ?_
          refine va_get (D := (dC, dI)) (ci := 12) (v := .int (nI a5)) (C := RX12) (T := TX12) (N := 163) (fs := fM (vS a (fT vi 17 (nI a5)) vj)) hx hb hts iwsRX12_next_in12 hown hK hP 0 rfl rfl 17 (by decide) (hts (.fieldLink RX12 485 "OptimaWorksModel" "at0" "I") (by decide +kernel)) (fun _ h9 => h9) rfl dX12_next_84 ?_
          refine lv_iconst (v := 1) hx hb dX12_next_87 (by decide) ?_
          refine lv_iadd hx hb dX12_next_88 ?_
          refine lv_topi (fun y1 hy1 => ?_)
          obtain rfl : (nI (a5 + 1)) = y1 := (hy1.trans (nI_add a5 1)).symm
          refine va_put (D := (dC, dI)) (ci := 12) (v := .int (nI (a5 + 1))) (ty := .int) (C := RX12) (T := TX12) (N := 163) (fs := fM (vS a (fT vi 17 (nI a5)) vj)) hx hb hts iwsRX12_next_in12 tyX12 tyX12_ok nmX12 hown hK hP hD hS 0 rfl rfl 17 (by decide) (hts (.fieldLink RX12 485 "OptimaWorksModel" "at0" "I") (by decide +kernel)) (fun _ h9 => h9) rfl (by decide +kernel) rfl rfl (Nat.le_of_ble_eq_true rfl) dX12_next_89 (fun H locs hP hD hS => ?_)
          have e9 : fT vi 17 (nI (a5 + 1)) = fT (fT vi 17 (nI a5)) 17 (nI (a5 + 1)) := (fT_sm _ _ _ _).symm
          have hP : va_P (dC, dI) vwCl (WR a k h0 (fT vi 17 (nI (a5 + 1))) vj vF vG) H := by rw [e9, ← WR_i 17 _ rfl]; exact hP
          have hD : va_D A (WR a k h0 (fT vi 17 (nI (a5 + 1))) vj vF vG) := by rw [e9, ← WR_i 17 _ rfl]; exact hD
          clear e9
          refine lv_goto (tgt := 97) hx hb dX12_next_92 (by decide) ?_
          refine lv_goto (tgt := 2) hx hb dX12_next_97 (by decide) ?_
          have hl : lv_has _ _ ([(0, .ref h0), (1, .int mo)]) := lv_sub hl [1, 2] rfl
          exact ih2 mo (a5 + 1) _ _ _ (by omega) (by (have h8 := hfx.resolve_left (fun h => c_3 h.1)); exact Or.inr (by omega)) hP hD hS hl
        · have t_61 : ¬ ((bA tp (vF 9) a5)).toInt = 9 := toI_neq c_61 rfl (by decide)
          refine lv_iload_n hx hb dX12_next_64 rfl (lv_at hl 0 rfl) ?_
          refine lv_bipush (v := 10) hx hb dX12_next_65 (by decide) ?_
          refine lv_icmp_eq (tgt := 82) hx hb dX12_next_67 (by decide) (fun c_67 => ?_) (fun c_67 => ?_)
          · have t_67 : ((bA tp (vF 9) a5)).toInt = 10 := toI_eq c_67 rfl (by decide)
            refine lv_aload_n hx hb dX12_next_82 rfl (lv_at hl 1 rfl) ?_
            refine lv_dup hx hb dX12_next_83 rfl ?_
            refine va_get (D := (dC, dI)) (ci := 12) (v := .int (nI a5)) (C := RX12) (T := TX12) (N := 163) (fs := fM (vS a (fT vi 17 (nI a5)) vj)) hx hb hts iwsRX12_next_in12 hown hK hP 0 rfl rfl 17 (by decide) (hts (.fieldLink RX12 485 "OptimaWorksModel" "at0" "I") (by decide +kernel)) (fun _ h9 => h9) rfl dX12_next_84 ?_
            refine lv_iconst (v := 1) hx hb dX12_next_87 (by decide) ?_
            refine lv_iadd hx hb dX12_next_88 ?_
            refine lv_topi (fun y2 hy2 => ?_)
            obtain rfl : (nI (a5 + 1)) = y2 := (hy2.trans (nI_add a5 1)).symm
            refine va_put (D := (dC, dI)) (ci := 12) (v := .int (nI (a5 + 1))) (ty := .int) (C := RX12) (T := TX12) (N := 163) (fs := fM (vS a (fT vi 17 (nI a5)) vj)) hx hb hts iwsRX12_next_in12 tyX12 tyX12_ok nmX12 hown hK hP hD hS 0 rfl rfl 17 (by decide) (hts (.fieldLink RX12 485 "OptimaWorksModel" "at0" "I") (by decide +kernel)) (fun _ h9 => h9) rfl (by decide +kernel) rfl rfl (Nat.le_of_ble_eq_true rfl) dX12_next_89 (fun H locs hP hD hS => ?_)
            have e9 : fT vi 17 (nI (a5 + 1)) = fT (fT vi 17 (nI a5)) 17 (nI (a5 + 1)) := (fT_sm _ _ _ _).symm
            have hP : va_P (dC, dI) vwCl (WR a k h0 (fT vi 17 (nI (a5 + 1))) vj vF vG) H := by rw [e9, ← WR_i 17 _ rfl]; exact hP
            have hD : va_D A (WR a k h0 (fT vi 17 (nI (a5 + 1))) vj vF vG) := by rw [e9, ← WR_i 17 _ rfl]; exact hD
            clear e9
            refine lv_goto (tgt := 97) hx hb dX12_next_92 (by decide) ?_
            refine lv_goto (tgt := 2) hx hb dX12_next_97 (by decide) ?_
            have hl : lv_has _ _ ([(0, .ref h0), (1, .int mo)]) := lv_sub hl [1, 2] rfl
            exact ih2 mo (a5 + 1) _ _ _ (by omega) (by (have h8 := hfx.resolve_left (fun h => c_3 h.1)); exact Or.inr (by omega)) hP hD hS hl
          · have t_67 : ¬ ((bA tp (vF 9) a5)).toInt = 10 := toI_neq c_67 rfl (by decide)
            refine lv_iload_n hx hb dX12_next_70 rfl (lv_at hl 0 rfl) ?_
            refine lv_bipush (v := 13) hx hb dX12_next_71 (by decide) ?_
            refine lv_icmp_eq (tgt := 82) hx hb dX12_next_73 (by decide) (fun c_73 => ?_) (fun c_73 => ?_)
            · have t_73 : ((bA tp (vF 9) a5)).toInt = 13 := toI_eq c_73 rfl (by decide)
              refine lv_aload_n hx hb dX12_next_82 rfl (lv_at hl 1 rfl) ?_
              refine lv_dup hx hb dX12_next_83 rfl ?_
              refine va_get (D := (dC, dI)) (ci := 12) (v := .int (nI a5)) (C := RX12) (T := TX12) (N := 163) (fs := fM (vS a (fT vi 17 (nI a5)) vj)) hx hb hts iwsRX12_next_in12 hown hK hP 0 rfl rfl 17 (by decide) (hts (.fieldLink RX12 485 "OptimaWorksModel" "at0" "I") (by decide +kernel)) (fun _ h9 => h9) rfl dX12_next_84 ?_
              refine lv_iconst (v := 1) hx hb dX12_next_87 (by decide) ?_
              refine lv_iadd hx hb dX12_next_88 ?_
              refine lv_topi (fun y3 hy3 => ?_)
              obtain rfl : (nI (a5 + 1)) = y3 := (hy3.trans (nI_add a5 1)).symm
              refine va_put (D := (dC, dI)) (ci := 12) (v := .int (nI (a5 + 1))) (ty := .int) (C := RX12) (T := TX12) (N := 163) (fs := fM (vS a (fT vi 17 (nI a5)) vj)) hx hb hts iwsRX12_next_in12 tyX12 tyX12_ok nmX12 hown hK hP hD hS 0 rfl rfl 17 (by decide) (hts (.fieldLink RX12 485 "OptimaWorksModel" "at0" "I") (by decide +kernel)) (fun _ h9 => h9) rfl (by decide +kernel) rfl rfl (Nat.le_of_ble_eq_true rfl) dX12_next_89 (fun H locs hP hD hS => ?_)
              have e9 : fT vi 17 (nI (a5 + 1)) = fT (fT vi 17 (nI a5)) 17 (nI (a5 + 1)) := (fT_sm _ _ _ _).symm
              have hP : va_P (dC, dI) vwCl (WR a k h0 (fT vi 17 (nI (a5 + 1))) vj vF vG) H := by rw [e9, ← WR_i 17 _ rfl]; exact hP
              have hD : va_D A (WR a k h0 (fT vi 17 (nI (a5 + 1))) vj vF vG) := by rw [e9, ← WR_i 17 _ rfl]; exact hD
              clear e9
              refine lv_goto (tgt := 97) hx hb dX12_next_92 (by decide) ?_
              refine lv_goto (tgt := 2) hx hb dX12_next_97 (by decide) ?_
              have hl : lv_has _ _ ([(0, .ref h0), (1, .int mo)]) := lv_sub hl [1, 2] rfl
              exact ih2 mo (a5 + 1) _ _ _ (by omega) (by (have h8 := hfx.resolve_left (fun h => c_3 h.1)); exact Or.inr (by omega)) hP hD hS hl
            · have t_73 : ¬ ((bA tp (vF 9) a5)).toInt = 13 := toI_neq c_73 rfl (by decide)
              refine lv_iload_n hx hb dX12_next_76 rfl (lv_at hl 0 rfl) ?_
              refine lv_bipush (v := 32) hx hb dX12_next_77 (by decide) ?_
              refine lv_icmp_ne (tgt := 95) hx hb dX12_next_79 (by decide) (fun c_79 => ?_) (fun c_79 => ?_)
              · have t_79 : ((bA tp (vF 9) a5)).toInt ≠ 32 := toI_ne c_79 rfl (by decide)
                refine lv_iconst (v := 0) hx hb dX12_next_95 (by decide) ?_
                refine lv_istore_n hx hb dX12_next_96 rfl hl (by decide) rfl (fun ls (hl : lv_has ls _ ([(1, .int 0), (2, .int (bA tp (vF 9) a5)), (0, .ref h0)])) => ?_)
                refine lv_goto (tgt := 2) hx hb dX12_next_97 (by decide) ?_
                have hl : lv_has _ _ ([(0, .ref h0), (1, .int 0)]) := lv_sub hl [2, 0] rfl
                exact ih2 0 a5 _ _ _ (by omega) (by (have h8 := hfx.resolve_left (fun h => c_3 h.1)); exact Or.inl ⟨rfl, by omega⟩) hP hD hS hl
              · have t_79 : ((bA tp (vF 9) a5)).toInt = 32 := toI_nne c_79 rfl (by decide)
                refine lv_aload_n hx hb dX12_next_82 rfl (lv_at hl 1 rfl) ?_
                refine lv_dup hx hb dX12_next_83 rfl ?_
                refine va_get (D := (dC, dI)) (ci := 12) (v := .int (nI a5)) (C := RX12) (T := TX12) (N := 163) (fs := fM (vS a (fT vi 17 (nI a5)) vj)) hx hb hts iwsRX12_next_in12 hown hK hP 0 rfl rfl 17 (by decide) (hts (.fieldLink RX12 485 "OptimaWorksModel" "at0" "I") (by decide +kernel)) (fun _ h9 => h9) rfl dX12_next_84 ?_
                refine lv_iconst (v := 1) hx hb dX12_next_87 (by decide) ?_
                refine lv_iadd hx hb dX12_next_88 ?_
                refine lv_topi (fun y4 hy4 => ?_)
                obtain rfl : (nI (a5 + 1)) = y4 := (hy4.trans (nI_add a5 1)).symm
                refine va_put (D := (dC, dI)) (ci := 12) (v := .int (nI (a5 + 1))) (ty := .int) (C := RX12) (T := TX12) (N := 163) (fs := fM (vS a (fT vi 17 (nI a5)) vj)) hx hb hts iwsRX12_next_in12 tyX12 tyX12_ok nmX12 hown hK hP hD hS 0 rfl rfl 17 (by decide) (hts (.fieldLink RX12 485 "OptimaWorksModel" "at0" "I") (by decide +kernel)) (fun _ h9 => h9) rfl (by decide +kernel) rfl rfl (Nat.le_of_ble_eq_true rfl) dX12_next_89 (fun H locs hP hD hS => ?_)
                have e9 : fT vi 17 (nI (a5 + 1)) = fT (fT vi 17 (nI a5)) 17 (nI (a5 + 1)) := (fT_sm _ _ _ _).symm
                have hP : va_P (dC, dI) vwCl (WR a k h0 (fT vi 17 (nI (a5 + 1))) vj vF vG) H := by rw [e9, ← WR_i 17 _ rfl]; exact hP
                have hD : va_D A (WR a k h0 (fT vi 17 (nI (a5 + 1))) vj vF vG) := by rw [e9, ← WR_i 17 _ rfl]; exact hD
                clear e9
                refine lv_goto (tgt := 97) hx hb dX12_next_92 (by decide) ?_
                refine lv_goto (tgt := 2) hx hb dX12_next_97 (by decide) ?_
                have hl : lv_has _ _ ([(0, .ref h0), (1, .int mo)]) := lv_sub hl [1, 2] rfl
                exact ih2 mo (a5 + 1) _ _ _ (by omega) (by (have h8 := hfx.resolve_left (fun h => c_3 h.1)); exact Or.inr (by omega)) hP hD hS hl
      · have t_18 : ((bA tp (vF 9) a5)).toInt = 35 := toI_nne c_18 rfl (by decide)
        have hl : lv_has _ _ ([(0, .ref h0), (1, .int mo)]) := lv_sub hl [1, 2] rfl
        refine (fun (loop : ∀ (n9 : Nat) (a6 : Nat) (H : Heap) (locs : List Loc) (ls : Array Slot), (a5 ≤ a6 ∧ a6 ≤ tp) →  (tp < a6 + n9) → va_P (dC, dI) vwCl (WR a k h0 (fT vi 17 (nI a6)) vj vF vG) H → va_D A (WR a k h0 (fT vi 17 (nI a6)) vj vF vG) → va_S A s.heap H locs → lv_has ls 3 [(0, .ref h0), (1, .int mo)] → W p l e _ s m _ below meth c H locs 0 0 _ (F0 m 21 ls [])) => loop (tp + 1) a5 _ _ _ (by omega) (by omega) hP hD hS hl) ?_
        intro n9
        induction n9 with
        | zero => intro a6 H locs ls ha6 hf9; exact False.elim (by omega)
        | succ n9 ih21_1 =>
          intro a6 H locs ls ha6 hf21_1 hP hD hS hl
          refine lv_aload_n hx hb dX12_next_21 rfl (lv_at hl 0 rfl) ?_
          refine lv_aload_n hx hb dX12_next_22 rfl (lv_at hl 0 rfl) ?_
          refine va_get (D := (dC, dI)) (ci := 12) (v := .int (nI a6)) (C := RX12) (T := TX12) (N := 163) (fs := fM (vS a (fT vi 17 (nI a6)) vj)) hx hb hts iwsRX12_next_in12 hown hK hP 0 rfl rfl 17 (by decide) (hts (.fieldLink RX12 485 "OptimaWorksModel" "at0" "I") (by decide +kernel)) (fun _ h9 => h9) rfl dX12_next_23 ?_
          have hFc := allFree hD hS hA
          refine va_calli (va_runV (As := [.int (nI a6)]) (rest := []) ⟨hx, hb, hml, hown, hts⟩ (r_X12_byteAt l dC dI a k h0 (fT vi 17 (nI a6)) vj vF vG a6 tp hTp (by first | assumption | decide | omega | rfl) (by first | assumption | decide | omega | rfl) H.size) (cwV 1 hts gwsRX12_next_0 rfl rfl rfl hd_yX12_byteAt_RX12 (by decide +kernel)) (fz_pre (va_recv hK hP (ci := 12) (q0 := 0) rfl rfl) hP hK hD) rfl rfl hl.1 rfl (lv_room (Nat.le_of_ble_eq_true rfl)) dX12_next_26 (by decide +kernel)) hS (fun q _ h => hFc q h) hFc (fun r26 u t9_ H locs ht hvm hw9 hB9 hz1 hk1 hS => ?_)
          have hP : va_P (dC, dI) vwCl (WR a k h0 (fT vi 17 (nI a6)) vj vF vG) H := fz_P ht hB9.1
          have hD : va_D A (WR a k h0 (fT vi 17 (nI a6)) vj vF vG) := hB9.2.weaken (fun _ q _ h => hFc q.1 h)
          obtain rfl := hw9
          refine lv_if_lt (tgt := 97) hx hb dX12_next_29 (by decide) (fun c_29 => ?_) (fun c_29 => ?_)
          · have t_29 : ((bA tp (vF 9) a6)).toInt < 0 := toI_lt c_29 rfl (by decide)
            refine lv_goto (tgt := 2) hx hb dX12_next_97 (by decide) ?_
            have hl : lv_has _ _ ([(0, .ref h0), (1, .int mo)]) := lv_sub hl [0, 1] rfl
            exact ih2 mo a6 _ _ _ (by omega) (by (have h9 : a5 < a6 := by rcases Nat.lt_or_ge a5 a6 with h | h; (exact h); (exfalso; (have e9 : a6 = a5 := by omega); subst e9; omega)); (have h8 := hfx.resolve_left (fun h => c_3 h.1)); exact Or.inr (by omega)) hP hD hS hl
          · have t_29 : ¬ ((bA tp (vF 9) a6)).toInt < 0 := toI_nlt c_29 rfl (by decide)
            refine lv_aload_n hx hb dX12_next_32 rfl (lv_at hl 0 rfl) ?_
            refine lv_aload_n hx hb dX12_next_33 rfl (lv_at hl 0 rfl) ?_
            refine va_get (D := (dC, dI)) (ci := 12) (v := .int (nI a6)) (C := RX12) (T := TX12) (N := 163) (fs := fM (vS a (fT vi 17 (nI a6)) vj)) hx hb hts iwsRX12_next_in12 hown hK hP 0 rfl rfl 17 (by decide) (hts (.fieldLink RX12 485 "OptimaWorksModel" "at0" "I") (by decide +kernel)) (fun _ h9 => h9) rfl dX12_next_34 ?_
            have hFc := allFree hD hS hA
            refine va_calli (va_runV (As := [.int (nI a6)]) (rest := []) ⟨hx, hb, hml, hown, hts⟩ (r_X12_byteAt l dC dI a k h0 (fT vi 17 (nI a6)) vj vF vG a6 tp hTp (by first | assumption | decide | omega | rfl) (by first | assumption | decide | omega | rfl) H.size) (cwV 1 hts gwsRX12_next_0 rfl rfl rfl hd_yX12_byteAt_RX12 (by decide +kernel)) (fz_pre (va_recv hK hP (ci := 12) (q0 := 0) rfl rfl) hP hK hD) rfl rfl hl.1 rfl (lv_room (Nat.le_of_ble_eq_true rfl)) dX12_next_37 (by decide +kernel)) hS (fun q _ h => hFc q h) hFc (fun r37 u t9_ H locs ht hvm hw9 hB9 hz1 hk1 hS => ?_)
            have hP : va_P (dC, dI) vwCl (WR a k h0 (fT vi 17 (nI a6)) vj vF vG) H := fz_P ht hB9.1
            have hD : va_D A (WR a k h0 (fT vi 17 (nI a6)) vj vF vG) := hB9.2.weaken (fun _ q _ h => hFc q.1 h)
            obtain rfl := hw9
            refine lv_bipush (v := 10) hx hb dX12_next_40 (by decide) ?_
            refine lv_icmp_eq (tgt := 97) hx hb dX12_next_42 (by decide) (fun c_42 => ?_) (fun c_42 => ?_)
            · have t_42 : ((bA tp (vF 9) a6)).toInt = 10 := toI_eq c_42 rfl (by decide)
              refine lv_goto (tgt := 2) hx hb dX12_next_97 (by decide) ?_
              have hl : lv_has _ _ ([(0, .ref h0), (1, .int mo)]) := lv_sub hl [0, 1] rfl
              exact ih2 mo a6 _ _ _ (by omega) (by (have h9 : a5 < a6 := by rcases Nat.lt_or_ge a5 a6 with h | h; (exact h); (exfalso; (have e9 : a6 = a5 := by omega); subst e9; omega)); (have h8 := hfx.resolve_left (fun h => c_3 h.1)); exact Or.inr (by omega)) hP hD hS hl
            · have t_42 : ¬ ((bA tp (vF 9) a6)).toInt = 10 := toI_neq c_42 rfl (by decide)
              have bi6 := bA_in tp (vF 9) a6
              refine lv_aload_n hx hb dX12_next_45 rfl (lv_at hl 0 rfl) ?_
              refine lv_dup hx hb dX12_next_46 rfl ?_
              refine va_get (D := (dC, dI)) (ci := 12) (v := .int (nI a6)) (C := RX12) (T := TX12) (N := 163) (fs := fM (vS a (fT vi 17 (nI a6)) vj)) hx hb hts iwsRX12_next_in12 hown hK hP 0 rfl rfl 17 (by decide) (hts (.fieldLink RX12 485 "OptimaWorksModel" "at0" "I") (by decide +kernel)) (fun _ h9 => h9) rfl dX12_next_47 ?_
              refine lv_iconst (v := 1) hx hb dX12_next_50 (by decide) ?_
              refine lv_iadd hx hb dX12_next_51 ?_
              refine lv_topi (fun y5 hy5 => ?_)
              obtain rfl : (nI (a6 + 1)) = y5 := (hy5.trans (nI_add a6 1)).symm
              refine va_put (D := (dC, dI)) (ci := 12) (v := .int (nI (a6 + 1))) (ty := .int) (C := RX12) (T := TX12) (N := 163) (fs := fM (vS a (fT vi 17 (nI a6)) vj)) hx hb hts iwsRX12_next_in12 tyX12 tyX12_ok nmX12 hown hK hP hD hS 0 rfl rfl 17 (by decide) (hts (.fieldLink RX12 485 "OptimaWorksModel" "at0" "I") (by decide +kernel)) (fun _ h9 => h9) rfl (by decide +kernel) rfl rfl (Nat.le_of_ble_eq_true rfl) dX12_next_52 (fun H locs hP hD hS => ?_)
              have e9 : fT vi 17 (nI (a6 + 1)) = fT (fT vi 17 (nI a6)) 17 (nI (a6 + 1)) := (fT_sm _ _ _ _).symm
              have hP : va_P (dC, dI) vwCl (WR a k h0 (fT vi 17 (nI (a6 + 1))) vj vF vG) H := by rw [e9, ← WR_i 17 _ rfl]; exact hP
              have hD : va_D A (WR a k h0 (fT vi 17 (nI (a6 + 1))) vj vF vG) := by rw [e9, ← WR_i 17 _ rfl]; exact hD
              clear e9
              refine lv_goto (tgt := 21) hx hb dX12_next_55 (by decide) ?_
              have hl : lv_has _ _ ([(0, .ref h0), (1, .int mo)]) := lv_sub hl [0, 1] rfl
              exact ih21_1 (a6 + 1) _ _ _ (by omega) (by omega) hP hD hS hl
theorem dX12_needSign_0 : decode cX12_needSign 0 = .ok (.aload_n 0, 1) := dk_42 (by decide +kernel)
theorem dX12_needSign_1 : decode cX12_needSign 1 = .ok (.getfield 515, 3) := dk_180 (by decide +kernel)
theorem dX12_needSign_4 : decode cX12_needSign 4 = .ok (.ifCond .le 5, 3) := dk_158 (by decide +kernel)
theorem dX12_needSign_7 : decode cX12_needSign 7 = .ok (.iconst 0, 1) := dk_3 (by decide +kernel)
theorem dX12_needSign_8 : decode cX12_needSign 8 = .ok (.ireturn, 1) := dk_172 (by decide +kernel)
theorem dX12_needSign_9 : decode cX12_needSign 9 = .ok (.aload_n 0, 1) := dk_42 (by decide +kernel)
theorem dX12_needSign_10 : decode cX12_needSign 10 = .ok (.iload_n 1, 1) := dk_27 (by decide +kernel)
theorem dX12_needSign_11 : decode cX12_needSign 11 = .ok (.invokevirtual 521, 3) := dk_182 (by decide +kernel)
theorem dX12_needSign_14 : decode cX12_needSign 14 = .ok (.ifCond .eq 10, 3) := dk_153 (by decide +kernel)
theorem dX12_needSign_17 : decode cX12_needSign 17 = .ok (.aload_n 0, 1) := dk_42 (by decide +kernel)
theorem dX12_needSign_18 : decode cX12_needSign 18 = .ok (.invokevirtual 524, 3) := dk_182 (by decide +kernel)
theorem dX12_needSign_21 : decode cX12_needSign 21 = .ok (.goto 7, 3) := dk_167 (by decide +kernel)
theorem dX12_needSign_24 : decode cX12_needSign 24 = .ok (.aload_n 0, 1) := dk_42 (by decide +kernel)
theorem dX12_needSign_25 : decode cX12_needSign 25 = .ok (.invokevirtual 527, 3) := dk_182 (by decide +kernel)
theorem dX12_needSign_28 : decode cX12_needSign 28 = .ok (.aload_n 0, 1) := dk_42 (by decide +kernel)
theorem dX12_needSign_29 : decode cX12_needSign 29 = .ok (.getfield 515, 3) := dk_180 (by decide +kernel)
theorem dX12_needSign_32 : decode cX12_needSign 32 = .ok (.ifCond .ne 7, 3) := dk_154 (by decide +kernel)
theorem dX12_needSign_35 : decode cX12_needSign 35 = .ok (.iconst 1, 1) := dk_4 (by decide +kernel)
theorem dX12_needSign_36 : decode cX12_needSign 36 = .ok (.goto 4, 3) := dk_167 (by decide +kernel)
theorem dX12_needSign_39 : decode cX12_needSign 39 = .ok (.iconst 0, 1) := dk_3 (by decide +kernel)
theorem dX12_needSign_40 : decode cX12_needSign 40 = .ok (.ireturn, 1) := dk_172 (by decide +kernel)
def wsRX12_needSign : List Cond := .code yX12_needSign cX12_needSign 2 (some .boolean) :: ([.fieldLink RX12 515 "OptimaWorksModel" "stop" "I"] ++ wsX120 ++ (wsV RX12 521 RX12 yX12_isSign wsRX12_isSign) ++ (wsV RX12 524 RX12 yX12_next wsRX12_next) ++ (wsV RX12 527 RX12 yX12_wrong wsRX12_wrong))
theorem iwsRX12_needSign_in12 : ∀ w ∈ wsX120, w ∈ wsRX12_needSign := fun _ h => List.mem_cons_of_mem _ (List.mem_append_left _ (List.mem_append_left _ (List.mem_append_left _ (List.mem_append_right _ h))))
theorem gwsRX12_needSign_0 : GoodIn wsRX12_needSign (wsV RX12 521 RX12 yX12_isSign wsRX12_isSign) := goodIn_sub (fun _ h => List.mem_cons_of_mem _ (List.mem_append_left _ (List.mem_append_left _ (List.mem_append_right _ h)))) (gdV (by decide +kernel) gdwsRX12_isSign)
theorem gwsRX12_needSign_1 : GoodIn wsRX12_needSign (wsV RX12 524 RX12 yX12_next wsRX12_next) := goodIn_sub (fun _ h => List.mem_cons_of_mem _ (List.mem_append_left _ (List.mem_append_right _ h))) (gdV (by decide +kernel) gdwsRX12_next)
theorem gwsRX12_needSign_2 : GoodIn wsRX12_needSign (wsV RX12 527 RX12 yX12_wrong wsRX12_wrong) := goodIn_sub (fun _ h => List.mem_cons_of_mem _ (List.mem_append_right _ h)) (gdV (by decide +kernel) gdwsRX12_wrong)
theorem gdwsRX12_needSign : wsRX12_needSign.all goodWord = true := gdC rfl (gdA (gdA (gdA (gdA (by decide +kernel : ([.fieldLink RX12 515 "OptimaWorksModel" "stop" "I"] : List Cond).all goodWord = true) gdwsX120) (gdV (by decide +kernel) gdwsRX12_isSign)) (gdV (by decide +kernel) gdwsRX12_next)) (gdV (by decide +kernel) gdwsRX12_wrong))
set_option maxHeartbeats 4000000 in
set_option maxRecDepth 100000 in
/-- X12_needSign(c) -/
theorem r_X12_needSign (l : Launch) (dC : Nat → ClassId) (dI : Nat → Nat → Nat) (a : Nat → Nat) (k : Nat → ClassId) (h0 : Nat) (vi : Nat → Int32) (vj : Nat → Int64) (vF : Nat → Nat → Int32) (vG : Nat → Nat → Int64) (cv : Int32) (tp : Nat) (an : Nat) (fn : Nat) (hTp : vi 16 = nI tp) (htp : tp ≤ 4000) (ha0 : vi 17 = nI an) (hfr : vi 19 = nI fn) (hLx : LxO tp fn an (vi 18) (vi 20)) (hst0 : 0 ≤ (vi 21).toInt) (sz : Nat) : Met l yX12_needSign wsRX12_needSign ({ frames := 8, cells := 0, slots := 0, locals := 173 }) (va_Pc [.ref h0, .int cv] (fun U => U.heap.size = sz ∧ va_P (dC, dI) vwCl (WR a k h0 vi vj vF vG) U.heap ∧ va_K (dC, dI) vwCl (tX12 k) U ∧ va_D (fun _ => True) (WR a k h0 vi vj vF vG) ∧ StrA (va_A (WR a k h0 vi vj vF vG) sz) U U.heap)) (va_Qi (fun (r : Int32) (u : (Nat) × (Nat) × (Int32) × (Int32) × (Int32) × (Int32)) => (r = 1 ∧ ((u.2.2.2.2.1) = 0) ∧ (LxO tp (u.2.1) (u.1) (u.2.2.2.1) (u.2.2.1)) ∧ (an ≤ (u.2.1) ∧ fn < (u.2.1)) ∧ (vi 21 = 0)) ∨ (r = 0 ∧ (0 < ((u.2.2.2.2.1)).toInt) ∧ (LxO tp (u.2.1) (u.1) (u.2.2.2.1) (u.2.2.1)) ∧ (fn ≤ (u.2.1)))) (fun (u : (Nat) × (Nat) × (Int32) × (Int32) × (Int32) × (Int32)) t => va_P (dC, dI) vwCl (WR a k h0 (fT (fT (fT (fT (fT (fT vi 17 (nI (u.1))) 19 (nI (u.2.1))) 20 (u.2.2.1)) 18 (u.2.2.2.1)) 21 (u.2.2.2.2.1)) 22 (u.2.2.2.2.2)) vj vF vG) t.heap ∧ va_D (va_A (WR a k h0 vi vj vF vG) sz) (WR a k h0 (fT (fT (fT (fT (fT (fT vi 17 (nI (u.1))) 19 (nI (u.2.1))) 20 (u.2.2.1)) 18 (u.2.2.2.1)) 21 (u.2.2.2.2.1)) 22 (u.2.2.2.2.2)) vj vF vG)) (va_A (WR a k h0 vi vj vF vG) sz)) 0 0 (va_A (WR a k h0 vi vj vF vG) sz) := by
  refine Met.ofW (cc := cX12_needSign) (maxL := 2) (ret := (some .boolean)) (by decide) rfl ?_
  intro p e s m args below meth c s₁ B hml hv
  obtain ⟨rfl, hsz, hP, hK, hD0, hE⟩ := hv
  have hx := B.exec
  have hb := B.bytes
  have hr := B.returns
  have hts := atoms_spec (ws := wsRX12_needSign) B.pre
  have hown : s.vm.findClass RX12 = some m.cls := findClass_of_methodNamed B.named
  have hlocks := B.notSynchronized
  subst hsz
  have hD := hD0.self (sz := s.heap.size)
  generalize hAe : va_A (WR a k h0 vi vj vF vG) s.heap.size = A at hD hE ⊢
  have hA : ∀ q : Nat, s.heap.size ≤ q → A q := fun q h => by rw [← hAe]; exact Or.inr h
  have hS : va_S A s.heap s.heap [] := va_S.rf
  have hl := lv_entry ([.ref h0, .int cv]) (n := 2) (Nat.le_of_ble_eq_true rfl)
  rw [lg_entry_eq]
  generalize (lg_sl ([.ref h0, .int cv]) ++ List.replicate (2 - (lg_sl ([.ref h0, .int cv])).length) Slot.unset).toArray = ls at hl ⊢
  have hl : lv_has ls 2 [(0, .ref h0), (1, .int cv)] := hl
  have han := hLx.2.1
  refine lv_aload_n hx hb dX12_needSign_0 rfl (lv_at hl 0 rfl) ?_
  refine va_get (D := (dC, dI)) (ci := 12) (v := .int (vi 21)) (C := RX12) (T := TX12) (N := 163) (fs := fM (vS a vi vj)) hx hb hts iwsRX12_needSign_in12 hown hK hP 0 rfl rfl 21 (by decide) (hts (.fieldLink RX12 515 "OptimaWorksModel" "stop" "I") (by decide +kernel)) (fun _ h9 => h9) rfl dX12_needSign_1 ?_
  refine lv_if_le (tgt := 9) hx hb dX12_needSign_4 (by decide) (fun c_4 => ?_) (fun c_4 => ?_)
  · have t_4 : ((vi 21)).toInt ≤ 0 := toI_le c_4 rfl (by decide)
    refine lv_aload_n hx hb dX12_needSign_9 rfl (lv_at hl 0 rfl) ?_
    refine lv_iload_n hx hb dX12_needSign_10 rfl (lv_at hl 1 rfl) ?_
    have hFc := allFree hD hS hA
    refine va_calli (va_runV (As := [.int cv]) (rest := []) ⟨hx, hb, hml, hown, hts⟩ (r_X12_isSign l dC dI a k h0 vi vj vF vG cv s.heap.size) (cwV 1 hts gwsRX12_needSign_0 rfl rfl rfl hd_yX12_isSign_RX12 (by decide +kernel)) (fz_pre (va_recv hK hP (ci := 12) (q0 := 0) rfl rfl) hP hK hD) rfl rfl hl.1 rfl (lv_room (Nat.le_of_ble_eq_true rfl)) dX12_needSign_11 (by decide +kernel)) hS (fun q _ h => hFc q h) hFc (fun r11 u t9_ H locs ht hvm hw9 hB9 hz1 hk1 hS => ?_)
    have hP : va_P (dC, dI) vwCl (WR a k h0 vi vj vF vG) H := fz_P ht hB9.1
    have hD : va_D A (WR a k h0 vi vj vF vG) := hB9.2.weaken (fun _ q _ h => hFc q.1 h)
    rcases hw9 with ⟨rfl, f11_0, f11_1⟩ | ⟨rfl, f11_0⟩
    · have f11_0 : (vi 18).toInt = 4 := f11_0
      have f11_1 : (vi 20) = cv := f11_1
      refine lv_if_eq (tgt := 24) hx hb dX12_needSign_14 (by decide) (fun c9 => absurd c9 (by decide)) (fun _ => ?_)
      refine lv_aload_n hx hb dX12_needSign_17 rfl (lv_at hl 0 rfl) ?_
      have hFc := allFree hD hS hA
      refine va_callv (va_runV (As := []) (rest := []) ⟨hx, hb, hml, hown, hts⟩ (r_X12_next l dC dI a k h0 vi vj vF vG tp an hTp (by first | assumption | decide | omega | rfl) ha0 (by first | assumption | decide | omega | rfl) H.size) (cwV 0 hts gwsRX12_needSign_1 rfl rfl rfl hd_yX12_next_RX12 (by decide +kernel)) (fz_preE (va_recv hK hP (ci := 12) (q0 := 0) rfl rfl) hP hK hD (fun a U g mk qE => qE.same rfl) (fun U hU9 hW => by rw [hU9]; exact (((hE : StrA A s s.heap).kept hS.2.1).narrow (fun q h => hFc q h)).warm hW)) rfl rfl hl.1 rfl (lv_room (Nat.le_of_ble_eq_true rfl)) dX12_needSign_18 (by decide +kernel)) hS (fun q _ h => hFc q h) hFc (fun u t9_ H locs ht hvm hw9 hB9 hz1 hk1 hS => ?_)
      obtain ⟨a218, f218, sg18, wd18⟩ := u
      try dsimp only at hw9 hB9
      have hP : va_P (dC, dI) vwCl (WR a k h0 (fT (fT (fT (fT vi 17 (nI a218)) 19 (nI f218)) 20 sg18) 18 wd18) vj vF vG) H := fz_P ht hB9.1
      have hD : va_D A (WR a k h0 (fT (fT (fT (fT vi 17 (nI a218)) 19 (nI f218)) 20 sg18) 18 wd18) vj vF vG) := hB9.2.weaken (fun _ q _ h => hFc q.1 h)
      obtain ⟨f18_0, f18_1⟩ := hw9
      refine lv_goto (tgt := 28) hx hb dX12_needSign_21 (by decide) ?_
      refine lv_aload_n hx hb dX12_needSign_28 rfl (lv_at hl 0 rfl) ?_
      refine va_get (D := (dC, dI)) (ci := 12) (v := .int (vi 21)) (C := RX12) (T := TX12) (N := 163) (fs := fM (vS a (fT (fT (fT (fT vi 17 (nI a218)) 19 (nI f218)) 20 sg18) 18 wd18) vj)) hx hb hts iwsRX12_needSign_in12 hown hK hP 0 rfl rfl 21 (by decide) (hts (.fieldLink RX12 515 "OptimaWorksModel" "stop" "I") (by decide +kernel)) (fun _ h9 => h9) rfl dX12_needSign_29 ?_
      refine lv_if_ne (tgt := 39) hx hb dX12_needSign_32 (by decide) (fun c9 => False.elim (by have t9 : ((vi 21)).toInt ≠ 0 := toI_ne c9 rfl (by decide); omega)) (fun c_32 => ?_)
      have t_32 : ((vi 21)).toInt = 0 := toI_nne c_32 rfl (by decide)
      refine lv_iconst (v := 1) hx hb dX12_needSign_35 (by decide) ?_
      refine lv_goto (tgt := 40) hx hb dX12_needSign_36 (by decide) ?_
      refine W.widen (k := 0) (n := 0) (by decide +kernel) (by decide +kernel) ?_
      have e9 : fT (fT (fT (fT (fT (fT vi 17 (nI a218)) 19 (nI f218)) 20 sg18) 18 wd18) 21 (vi 21)) 22 (vi 22) = fT (fT (fT (fT vi 17 (nI a218)) 19 (nI f218)) 20 sg18) 18 wd18 := (fT_id _ _ ((fT_ne _ _ (Nat.ne_of_beq_eq_false rfl)).trans ((fT_ne _ _ (Nat.ne_of_beq_eq_false rfl)).trans ((fT_ne _ _ (Nat.ne_of_beq_eq_false rfl)).trans ((fT_ne _ _ (Nat.ne_of_beq_eq_false rfl)).trans (fT_ne _ _ (Nat.ne_of_beq_eq_false rfl))))))).trans (fT_id _ _ ((fT_ne _ _ (Nat.ne_of_beq_eq_false rfl)).trans ((fT_ne _ _ (Nat.ne_of_beq_eq_false rfl)).trans ((fT_ne _ _ (Nat.ne_of_beq_eq_false rfl)).trans (fT_ne _ _ (Nat.ne_of_beq_eq_false rfl))))))
      have hP : va_P (dC, dI) vwCl (WR a k h0 (fT (fT (fT (fT (fT (fT vi 17 (nI a218)) 19 (nI f218)) 20 sg18) 18 wd18) 21 (vi 21)) 22 (vi 22)) vj vF vG) H := by rw [e9]; exact hP
      have hD : va_D A (WR a k h0 (fT (fT (fT (fT (fT (fT vi 17 (nI a218)) 19 (nI f218)) 20 sg18) 18 wd18) 21 (vi 21)) 22 (vi 22)) vj vF vG) := by rw [e9]; exact hD
      clear e9
      exact W.zret (v := 1) hx hb hr rfl (fun t9_ ht hW => ⟨⟨1, (a218, f218, sg18, wd18, (vi 21), (vi 22)), rfl, by (try dsimp only); exact Or.inl ⟨rfl, i32z (by omega), f18_0, by (have h9 := hLx.2.2.1.resolve_left (fun h => by rw [h] at f11_0; exact absurd f11_0 (by decide))); omega, i32z (by omega)⟩, by rw [ht]; exact hP, hD⟩, hS.F ht⟩) hS.2.2 dX12_needSign_40
    · have f11_0 : ¬ ((vi 18).toInt = 4 ∧ (vi 20) = cv) := f11_0
      refine lv_if_eq (tgt := 24) hx hb dX12_needSign_14 (by decide) (fun _ => ?_) (fun c9 => absurd (by decide) c9)
      refine lv_aload_n hx hb dX12_needSign_24 rfl (lv_at hl 0 rfl) ?_
      have hFc := allFree hD hS hA
      refine va_callv (va_runV (As := []) (rest := []) ⟨hx, hb, hml, hown, hts⟩ (r_X12_wrong l dC dI a k h0 vi vj vF vG H.size) (cwV 0 hts gwsRX12_needSign_2 rfl rfl rfl hd_yX12_wrong_RX12 (by decide +kernel)) (fz_pre (va_recv hK hP (ci := 12) (q0 := 0) rfl rfl) hP hK hD) rfl rfl hl.1 rfl (lv_room (Nat.le_of_ble_eq_true rfl)) dX12_needSign_25 (by decide +kernel)) hS (fun q _ h => hFc q h) hFc (fun u t9_ H locs ht hvm hw9 hB9 hz1 hk1 hS => ?_)
      obtain ⟨s225, p225⟩ := u
      try dsimp only at hw9 hB9
      have hP : va_P (dC, dI) vwCl (WR a k h0 (fT (fT vi 21 s225) 22 p225) vj vF vG) H := fz_P ht hB9.1
      have hD : va_D A (WR a k h0 (fT (fT vi 21 s225) 22 p225) vj vF vG) := hB9.2.weaken (fun _ q _ h => hFc q.1 h)
      obtain ⟨f25_0, f25_1⟩ := hw9
      have f25_0 : (0 < (vi 21).toInt ∧ s225 = (vi 21) ∧ p225 = (vi 22)) ∨ (¬ 0 < (vi 21).toInt ∧ (s225 = 1 ∨ s225 = 2) ∧ p225 = (vi 19)) := f25_0
      have hs2 := f25_1
      refine lv_aload_n hx hb dX12_needSign_28 rfl (lv_at hl 0 rfl) ?_
      refine va_get (D := (dC, dI)) (ci := 12) (v := .int s225) (C := RX12) (T := TX12) (N := 163) (fs := fM (vS a (fT (fT vi 21 s225) 22 p225) vj)) hx hb hts iwsRX12_needSign_in12 hown hK hP 0 rfl rfl 21 (by decide) (hts (.fieldLink RX12 515 "OptimaWorksModel" "stop" "I") (by decide +kernel)) (fun _ h9 => h9) rfl dX12_needSign_29 ?_
      refine lv_if_ne (tgt := 39) hx hb dX12_needSign_32 (by decide) (fun c_32 => ?_) (fun c9 => False.elim (by have t9 : (s225).toInt = 0 := toI_nne c9 rfl (by decide); omega))
      have t_32 : (s225).toInt ≠ 0 := toI_ne c_32 rfl (by decide)
      refine lv_iconst (v := 0) hx hb dX12_needSign_39 (by decide) ?_
      refine W.widen (k := 0) (n := 0) (by decide +kernel) (by decide +kernel) ?_
      have e9 : fT (fT (fT (fT (fT (fT vi 17 (nI an)) 19 (nI fn)) 20 (vi 20)) 18 (vi 18)) 21 s225) 22 p225 = fT (fT vi 21 s225) 22 p225 := by funext q9; by_cases h9_17 : q9 = 17; (subst h9_17; exact ((fT_ne _ _ (Nat.ne_of_beq_eq_false rfl)).trans ((fT_ne _ _ (Nat.ne_of_beq_eq_false rfl)).trans ((fT_ne _ _ (Nat.ne_of_beq_eq_false rfl)).trans ((fT_ne _ _ (Nat.ne_of_beq_eq_false rfl)).trans ((fT_ne _ _ (Nat.ne_of_beq_eq_false rfl)).trans (fT_eq _ _ _)))))).trans (Eq.trans (by first | rfl | assumption | (symm; assumption) | (subst_vars; rfl)) ((fT_ne _ _ (Nat.ne_of_beq_eq_false rfl)).trans (fT_ne _ _ (Nat.ne_of_beq_eq_false rfl))).symm)); by_cases h9_19 : q9 = 19; (subst h9_19; exact ((fT_ne _ _ (Nat.ne_of_beq_eq_false rfl)).trans ((fT_ne _ _ (Nat.ne_of_beq_eq_false rfl)).trans ((fT_ne _ _ (Nat.ne_of_beq_eq_false rfl)).trans ((fT_ne _ _ (Nat.ne_of_beq_eq_false rfl)).trans (fT_eq _ _ _))))).trans (Eq.trans (by first | rfl | assumption | (symm; assumption) | (subst_vars; rfl)) ((fT_ne _ _ (Nat.ne_of_beq_eq_false rfl)).trans (fT_ne _ _ (Nat.ne_of_beq_eq_false rfl))).symm)); by_cases h9_20 : q9 = 20; (subst h9_20; exact ((fT_ne _ _ (Nat.ne_of_beq_eq_false rfl)).trans ((fT_ne _ _ (Nat.ne_of_beq_eq_false rfl)).trans ((fT_ne _ _ (Nat.ne_of_beq_eq_false rfl)).trans (fT_eq _ _ _)))).trans (Eq.trans (by first | rfl | assumption | (symm; assumption) | (subst_vars; rfl)) ((fT_ne _ _ (Nat.ne_of_beq_eq_false rfl)).trans (fT_ne _ _ (Nat.ne_of_beq_eq_false rfl))).symm)); by_cases h9_18 : q9 = 18; (subst h9_18; exact ((fT_ne _ _ (Nat.ne_of_beq_eq_false rfl)).trans ((fT_ne _ _ (Nat.ne_of_beq_eq_false rfl)).trans (fT_eq _ _ _))).trans (Eq.trans (by first | rfl | assumption | (symm; assumption) | (subst_vars; rfl)) ((fT_ne _ _ (Nat.ne_of_beq_eq_false rfl)).trans (fT_ne _ _ (Nat.ne_of_beq_eq_false rfl))).symm)); by_cases h9_21 : q9 = 21; (subst h9_21; exact ((fT_ne _ _ (Nat.ne_of_beq_eq_false rfl)).trans (fT_eq _ _ _)).trans (Eq.trans (by first | rfl | assumption | (symm; assumption) | (subst_vars; rfl)) ((fT_ne _ _ (Nat.ne_of_beq_eq_false rfl)).trans (fT_eq _ _ _)).symm)); by_cases h9_22 : q9 = 22; (subst h9_22; exact (fT_eq _ _ _).trans (Eq.trans (by first | rfl | assumption | (symm; assumption) | (subst_vars; rfl)) (fT_eq _ _ _).symm)); exact ((fT_ne _ _ h9_22).trans ((fT_ne _ _ h9_21).trans ((fT_ne _ _ h9_18).trans ((fT_ne _ _ h9_20).trans ((fT_ne _ _ h9_19).trans (fT_ne _ _ h9_17)))))).trans ((fT_ne _ _ h9_22).trans (fT_ne _ _ h9_21)).symm
      have hP : va_P (dC, dI) vwCl (WR a k h0 (fT (fT (fT (fT (fT (fT vi 17 (nI an)) 19 (nI fn)) 20 (vi 20)) 18 (vi 18)) 21 s225) 22 p225) vj vF vG) H := by rw [e9]; exact hP
      have hD : va_D A (WR a k h0 (fT (fT (fT (fT (fT (fT vi 17 (nI an)) 19 (nI fn)) 20 (vi 20)) 18 (vi 18)) 21 s225) 22 p225) vj vF vG) := by rw [e9]; exact hD
      clear e9
      exact W.zret (v := 0) hx hb hr rfl (fun t9_ ht hW => ⟨⟨0, (an, fn, (vi 20), (vi 18), s225, p225), rfl, by (try dsimp only); exact Or.inr ⟨rfl, hs2, hLx, Nat.le_refl _⟩, by rw [ht]; exact hP, hD⟩, hS.F ht⟩) hS.2.2 dX12_needSign_40
  · have t_4 : ¬ ((vi 21)).toInt ≤ 0 := toI_nle c_4 rfl (by decide)
    refine lv_iconst (v := 0) hx hb dX12_needSign_7 (by decide) ?_
    refine W.widen (k := 0) (n := 0) (by decide +kernel) (by decide +kernel) ?_
    have e9 : fT (fT (fT (fT (fT (fT vi 17 (nI an)) 19 (nI fn)) 20 (vi 20)) 18 (vi 18)) 21 (vi 21)) 22 (vi 22) = vi := by funext q9; by_cases h9_17 : q9 = 17; (subst h9_17; exact ((fT_ne _ _ (Nat.ne_of_beq_eq_false rfl)).trans ((fT_ne _ _ (Nat.ne_of_beq_eq_false rfl)).trans ((fT_ne _ _ (Nat.ne_of_beq_eq_false rfl)).trans ((fT_ne _ _ (Nat.ne_of_beq_eq_false rfl)).trans ((fT_ne _ _ (Nat.ne_of_beq_eq_false rfl)).trans (fT_eq _ _ _)))))).trans (Eq.trans (by first | rfl | assumption | (symm; assumption) | (subst_vars; rfl)) (Eq.refl _).symm)); by_cases h9_19 : q9 = 19; (subst h9_19; exact ((fT_ne _ _ (Nat.ne_of_beq_eq_false rfl)).trans ((fT_ne _ _ (Nat.ne_of_beq_eq_false rfl)).trans ((fT_ne _ _ (Nat.ne_of_beq_eq_false rfl)).trans ((fT_ne _ _ (Nat.ne_of_beq_eq_false rfl)).trans (fT_eq _ _ _))))).trans (Eq.trans (by first | rfl | assumption | (symm; assumption) | (subst_vars; rfl)) (Eq.refl _).symm)); by_cases h9_20 : q9 = 20; (subst h9_20; exact ((fT_ne _ _ (Nat.ne_of_beq_eq_false rfl)).trans ((fT_ne _ _ (Nat.ne_of_beq_eq_false rfl)).trans ((fT_ne _ _ (Nat.ne_of_beq_eq_false rfl)).trans (fT_eq _ _ _)))).trans (Eq.trans (by first | rfl | assumption | (symm; assumption) | (subst_vars; rfl)) (Eq.refl _).symm)); by_cases h9_18 : q9 = 18; (subst h9_18; exact ((fT_ne _ _ (Nat.ne_of_beq_eq_false rfl)).trans ((fT_ne _ _ (Nat.ne_of_beq_eq_false rfl)).trans (fT_eq _ _ _))).trans (Eq.trans (by first | rfl | assumption | (symm; assumption) | (subst_vars; rfl)) (Eq.refl _).symm)); by_cases h9_21 : q9 = 21; (subst h9_21; exact ((fT_ne _ _ (Nat.ne_of_beq_eq_false rfl)).trans (fT_eq _ _ _)).trans (Eq.trans (by first | rfl | assumption | (symm; assumption) | (subst_vars; rfl)) (Eq.refl _).symm)); by_cases h9_22 : q9 = 22; (subst h9_22; exact (fT_eq _ _ _).trans (Eq.trans (by first | rfl | assumption | (symm; assumption) | (subst_vars; rfl)) (Eq.refl _).symm)); exact ((fT_ne _ _ h9_22).trans ((fT_ne _ _ h9_21).trans ((fT_ne _ _ h9_18).trans ((fT_ne _ _ h9_20).trans ((fT_ne _ _ h9_19).trans (fT_ne _ _ h9_17)))))).trans (Eq.refl _).symm
    have hP : va_P (dC, dI) vwCl (WR a k h0 (fT (fT (fT (fT (fT (fT vi 17 (nI an)) 19 (nI fn)) 20 (vi 20)) 18 (vi 18)) 21 (vi 21)) 22 (vi 22)) vj vF vG) s.heap := by rw [e9]; exact hP
    have hD : va_D A (WR a k h0 (fT (fT (fT (fT (fT (fT vi 17 (nI an)) 19 (nI fn)) 20 (vi 20)) 18 (vi 18)) 21 (vi 21)) 22 (vi 22)) vj vF vG) := by rw [e9]; exact hD
    clear e9
    exact W.zret (v := 0) hx hb hr rfl (fun t9_ ht hW => ⟨⟨0, (an, fn, (vi 20), (vi 18), (vi 21), (vi 22)), rfl, by (try dsimp only); exact Or.inr ⟨rfl, by omega, hLx, Nat.le_refl _⟩, by rw [ht]; exact hP, hD⟩, hS.F ht⟩) hS.2.2 dX12_needSign_8
theorem dX12_needKey_0 : decode cX12_needKey 0 = .ok (.aload_n 0, 1) := dk_42 (by decide +kernel)
theorem dX12_needKey_1 : decode cX12_needKey 1 = .ok (.getfield 515, 3) := dk_180 (by decide +kernel)
theorem dX12_needKey_4 : decode cX12_needKey 4 = .ok (.ifCond .le 5, 3) := dk_158 (by decide +kernel)
theorem dX12_needKey_7 : decode cX12_needKey 7 = .ok (.iconst 0, 1) := dk_3 (by decide +kernel)
theorem dX12_needKey_8 : decode cX12_needKey 8 = .ok (.ireturn, 1) := dk_172 (by decide +kernel)
theorem dX12_needKey_9 : decode cX12_needKey 9 = .ok (.aload_n 0, 1) := dk_42 (by decide +kernel)
theorem dX12_needKey_10 : decode cX12_needKey 10 = .ok (.iload_n 1, 1) := dk_27 (by decide +kernel)
theorem dX12_needKey_11 : decode cX12_needKey 11 = .ok (.invokevirtual 530, 3) := dk_182 (by decide +kernel)
theorem dX12_needKey_14 : decode cX12_needKey 14 = .ok (.ifCond .eq 10, 3) := dk_153 (by decide +kernel)
theorem dX12_needKey_17 : decode cX12_needKey 17 = .ok (.aload_n 0, 1) := dk_42 (by decide +kernel)
theorem dX12_needKey_18 : decode cX12_needKey 18 = .ok (.invokevirtual 524, 3) := dk_182 (by decide +kernel)
theorem dX12_needKey_21 : decode cX12_needKey 21 = .ok (.goto 7, 3) := dk_167 (by decide +kernel)
theorem dX12_needKey_24 : decode cX12_needKey 24 = .ok (.aload_n 0, 1) := dk_42 (by decide +kernel)
theorem dX12_needKey_25 : decode cX12_needKey 25 = .ok (.invokevirtual 527, 3) := dk_182 (by decide +kernel)
theorem dX12_needKey_28 : decode cX12_needKey 28 = .ok (.aload_n 0, 1) := dk_42 (by decide +kernel)
theorem dX12_needKey_29 : decode cX12_needKey 29 = .ok (.getfield 515, 3) := dk_180 (by decide +kernel)
theorem dX12_needKey_32 : decode cX12_needKey 32 = .ok (.ifCond .ne 7, 3) := dk_154 (by decide +kernel)
theorem dX12_needKey_35 : decode cX12_needKey 35 = .ok (.iconst 1, 1) := dk_4 (by decide +kernel)
theorem dX12_needKey_36 : decode cX12_needKey 36 = .ok (.goto 4, 3) := dk_167 (by decide +kernel)
theorem dX12_needKey_39 : decode cX12_needKey 39 = .ok (.iconst 0, 1) := dk_3 (by decide +kernel)
theorem dX12_needKey_40 : decode cX12_needKey 40 = .ok (.ireturn, 1) := dk_172 (by decide +kernel)
def wsRX12_needKey : List Cond := .code yX12_needKey cX12_needKey 2 (some .boolean) :: ([.fieldLink RX12 515 "OptimaWorksModel" "stop" "I"] ++ wsX120 ++ (wsV RX12 530 RX12 yX12_isKey wsRX12_isKey) ++ (wsV RX12 524 RX12 yX12_next wsRX12_next) ++ (wsV RX12 527 RX12 yX12_wrong wsRX12_wrong))
theorem iwsRX12_needKey_in12 : ∀ w ∈ wsX120, w ∈ wsRX12_needKey := fun _ h => List.mem_cons_of_mem _ (List.mem_append_left _ (List.mem_append_left _ (List.mem_append_left _ (List.mem_append_right _ h))))
theorem gwsRX12_needKey_0 : GoodIn wsRX12_needKey (wsV RX12 530 RX12 yX12_isKey wsRX12_isKey) := goodIn_sub (fun _ h => List.mem_cons_of_mem _ (List.mem_append_left _ (List.mem_append_left _ (List.mem_append_right _ h)))) (gdV (by decide +kernel) gdwsRX12_isKey)
theorem gwsRX12_needKey_1 : GoodIn wsRX12_needKey (wsV RX12 524 RX12 yX12_next wsRX12_next) := goodIn_sub (fun _ h => List.mem_cons_of_mem _ (List.mem_append_left _ (List.mem_append_right _ h))) (gdV (by decide +kernel) gdwsRX12_next)
theorem gwsRX12_needKey_2 : GoodIn wsRX12_needKey (wsV RX12 527 RX12 yX12_wrong wsRX12_wrong) := goodIn_sub (fun _ h => List.mem_cons_of_mem _ (List.mem_append_right _ h)) (gdV (by decide +kernel) gdwsRX12_wrong)
theorem gdwsRX12_needKey : wsRX12_needKey.all goodWord = true := gdC rfl (gdA (gdA (gdA (gdA (by decide +kernel : ([.fieldLink RX12 515 "OptimaWorksModel" "stop" "I"] : List Cond).all goodWord = true) gdwsX120) (gdV (by decide +kernel) gdwsRX12_isKey)) (gdV (by decide +kernel) gdwsRX12_next)) (gdV (by decide +kernel) gdwsRX12_wrong))
set_option maxHeartbeats 4000000 in
set_option maxRecDepth 100000 in
/-- X12_needKey(c) -/
theorem r_X12_needKey (l : Launch) (dC : Nat → ClassId) (dI : Nat → Nat → Nat) (a : Nat → Nat) (k : Nat → ClassId) (h0 : Nat) (vi : Nat → Int32) (vj : Nat → Int64) (vF : Nat → Nat → Int32) (vG : Nat → Nat → Int64) (cv : Int32) (tp : Nat) (an : Nat) (fn : Nat) (hTp : vi 16 = nI tp) (htp : tp ≤ 4000) (ha0 : vi 17 = nI an) (hfr : vi 19 = nI fn) (hLx : LxO tp fn an (vi 18) (vi 20)) (hst0 : 0 ≤ (vi 21).toInt) (sz : Nat) : Met l yX12_needKey wsRX12_needKey ({ frames := 8, cells := 0, slots := 0, locals := 173 }) (va_Pc [.ref h0, .int cv] (fun U => U.heap.size = sz ∧ va_P (dC, dI) vwCl (WR a k h0 vi vj vF vG) U.heap ∧ va_K (dC, dI) vwCl (tX12 k) U ∧ va_D (fun _ => True) (WR a k h0 vi vj vF vG) ∧ StrA (va_A (WR a k h0 vi vj vF vG) sz) U U.heap)) (va_Qi (fun (r : Int32) (u : (Nat) × (Nat) × (Int32) × (Int32) × (Int32) × (Int32)) => (r = 1 ∧ ((u.2.2.2.2.1) = 0) ∧ (LxO tp (u.2.1) (u.1) (u.2.2.2.1) (u.2.2.1)) ∧ (an ≤ (u.2.1) ∧ fn < (u.2.1)) ∧ (vi 21 = 0)) ∨ (r = 0 ∧ (0 < ((u.2.2.2.2.1)).toInt) ∧ (LxO tp (u.2.1) (u.1) (u.2.2.2.1) (u.2.2.1)) ∧ (fn ≤ (u.2.1)))) (fun (u : (Nat) × (Nat) × (Int32) × (Int32) × (Int32) × (Int32)) t => va_P (dC, dI) vwCl (WR a k h0 (fT (fT (fT (fT (fT (fT vi 17 (nI (u.1))) 19 (nI (u.2.1))) 20 (u.2.2.1)) 18 (u.2.2.2.1)) 21 (u.2.2.2.2.1)) 22 (u.2.2.2.2.2)) vj vF vG) t.heap ∧ va_D (va_A (WR a k h0 vi vj vF vG) sz) (WR a k h0 (fT (fT (fT (fT (fT (fT vi 17 (nI (u.1))) 19 (nI (u.2.1))) 20 (u.2.2.1)) 18 (u.2.2.2.1)) 21 (u.2.2.2.2.1)) 22 (u.2.2.2.2.2)) vj vF vG)) (va_A (WR a k h0 vi vj vF vG) sz)) 0 0 (va_A (WR a k h0 vi vj vF vG) sz) := by
  refine Met.ofW (cc := cX12_needKey) (maxL := 2) (ret := (some .boolean)) (by decide) rfl ?_
  intro p e s m args below meth c s₁ B hml hv
  obtain ⟨rfl, hsz, hP, hK, hD0, hE⟩ := hv
  have hx := B.exec
  have hb := B.bytes
  have hr := B.returns
  have hts := atoms_spec (ws := wsRX12_needKey) B.pre
  have hown : s.vm.findClass RX12 = some m.cls := findClass_of_methodNamed B.named
  have hlocks := B.notSynchronized
  subst hsz
  have hD := hD0.self (sz := s.heap.size)
  generalize hAe : va_A (WR a k h0 vi vj vF vG) s.heap.size = A at hD hE ⊢
  have hA : ∀ q : Nat, s.heap.size ≤ q → A q := fun q h => by rw [← hAe]; exact Or.inr h
  have hS : va_S A s.heap s.heap [] := va_S.rf
  have hl := lv_entry ([.ref h0, .int cv]) (n := 2) (Nat.le_of_ble_eq_true rfl)
  rw [lg_entry_eq]
  generalize (lg_sl ([.ref h0, .int cv]) ++ List.replicate (2 - (lg_sl ([.ref h0, .int cv])).length) Slot.unset).toArray = ls at hl ⊢
  have hl : lv_has ls 2 [(0, .ref h0), (1, .int cv)] := hl
  have han := hLx.2.1
  refine lv_aload_n hx hb dX12_needKey_0 rfl (lv_at hl 0 rfl) ?_
  refine va_get (D := (dC, dI)) (ci := 12) (v := .int (vi 21)) (C := RX12) (T := TX12) (N := 163) (fs := fM (vS a vi vj)) hx hb hts iwsRX12_needKey_in12 hown hK hP 0 rfl rfl 21 (by decide) (hts (.fieldLink RX12 515 "OptimaWorksModel" "stop" "I") (by decide +kernel)) (fun _ h9 => h9) rfl dX12_needKey_1 ?_
  refine lv_if_le (tgt := 9) hx hb dX12_needKey_4 (by decide) (fun c_4 => ?_) (fun c_4 => ?_)
  · have t_4 : ((vi 21)).toInt ≤ 0 := toI_le c_4 rfl (by decide)
    refine lv_aload_n hx hb dX12_needKey_9 rfl (lv_at hl 0 rfl) ?_
    refine lv_iload_n hx hb dX12_needKey_10 rfl (lv_at hl 1 rfl) ?_
    have hFc := allFree hD hS hA
    refine va_calli (va_runV (As := [.int cv]) (rest := []) ⟨hx, hb, hml, hown, hts⟩ (r_X12_isKey l dC dI a k h0 vi vj vF vG cv s.heap.size) (cwV 1 hts gwsRX12_needKey_0 rfl rfl rfl hd_yX12_isKey_RX12 (by decide +kernel)) (fz_pre (va_recv hK hP (ci := 12) (q0 := 0) rfl rfl) hP hK hD) rfl rfl hl.1 rfl (lv_room (Nat.le_of_ble_eq_true rfl)) dX12_needKey_11 (by decide +kernel)) hS (fun q _ h => hFc q h) hFc (fun r11 u t9_ H locs ht hvm hw9 hB9 hz1 hk1 hS => ?_)
    have hP : va_P (dC, dI) vwCl (WR a k h0 vi vj vF vG) H := fz_P ht hB9.1
    have hD : va_D A (WR a k h0 vi vj vF vG) := hB9.2.weaken (fun _ q _ h => hFc q.1 h)
    rcases hw9 with ⟨rfl, f11_0, f11_1⟩ | ⟨rfl, f11_0⟩
    · have f11_0 : (vi 18).toInt = 2 := f11_0
      have f11_1 : (vi 20) = cv := f11_1
      refine lv_if_eq (tgt := 24) hx hb dX12_needKey_14 (by decide) (fun c9 => absurd c9 (by decide)) (fun _ => ?_)
      refine lv_aload_n hx hb dX12_needKey_17 rfl (lv_at hl 0 rfl) ?_
      have hFc := allFree hD hS hA
      refine va_callv (va_runV (As := []) (rest := []) ⟨hx, hb, hml, hown, hts⟩ (r_X12_next l dC dI a k h0 vi vj vF vG tp an hTp (by first | assumption | decide | omega | rfl) ha0 (by first | assumption | decide | omega | rfl) H.size) (cwV 0 hts gwsRX12_needKey_1 rfl rfl rfl hd_yX12_next_RX12 (by decide +kernel)) (fz_preE (va_recv hK hP (ci := 12) (q0 := 0) rfl rfl) hP hK hD (fun a U g mk qE => qE.same rfl) (fun U hU9 hW => by rw [hU9]; exact (((hE : StrA A s s.heap).kept hS.2.1).narrow (fun q h => hFc q h)).warm hW)) rfl rfl hl.1 rfl (lv_room (Nat.le_of_ble_eq_true rfl)) dX12_needKey_18 (by decide +kernel)) hS (fun q _ h => hFc q h) hFc (fun u t9_ H locs ht hvm hw9 hB9 hz1 hk1 hS => ?_)
      obtain ⟨a218, f218, sg18, wd18⟩ := u
      try dsimp only at hw9 hB9
      have hP : va_P (dC, dI) vwCl (WR a k h0 (fT (fT (fT (fT vi 17 (nI a218)) 19 (nI f218)) 20 sg18) 18 wd18) vj vF vG) H := fz_P ht hB9.1
      have hD : va_D A (WR a k h0 (fT (fT (fT (fT vi 17 (nI a218)) 19 (nI f218)) 20 sg18) 18 wd18) vj vF vG) := hB9.2.weaken (fun _ q _ h => hFc q.1 h)
      obtain ⟨f18_0, f18_1⟩ := hw9
      refine lv_goto (tgt := 28) hx hb dX12_needKey_21 (by decide) ?_
      refine lv_aload_n hx hb dX12_needKey_28 rfl (lv_at hl 0 rfl) ?_
      refine va_get (D := (dC, dI)) (ci := 12) (v := .int (vi 21)) (C := RX12) (T := TX12) (N := 163) (fs := fM (vS a (fT (fT (fT (fT vi 17 (nI a218)) 19 (nI f218)) 20 sg18) 18 wd18) vj)) hx hb hts iwsRX12_needKey_in12 hown hK hP 0 rfl rfl 21 (by decide) (hts (.fieldLink RX12 515 "OptimaWorksModel" "stop" "I") (by decide +kernel)) (fun _ h9 => h9) rfl dX12_needKey_29 ?_
      refine lv_if_ne (tgt := 39) hx hb dX12_needKey_32 (by decide) (fun c9 => False.elim (by have t9 : ((vi 21)).toInt ≠ 0 := toI_ne c9 rfl (by decide); omega)) (fun c_32 => ?_)
      have t_32 : ((vi 21)).toInt = 0 := toI_nne c_32 rfl (by decide)
      refine lv_iconst (v := 1) hx hb dX12_needKey_35 (by decide) ?_
      refine lv_goto (tgt := 40) hx hb dX12_needKey_36 (by decide) ?_
      refine W.widen (k := 0) (n := 0) (by decide +kernel) (by decide +kernel) ?_
      have e9 : fT (fT (fT (fT (fT (fT vi 17 (nI a218)) 19 (nI f218)) 20 sg18) 18 wd18) 21 (vi 21)) 22 (vi 22) = fT (fT (fT (fT vi 17 (nI a218)) 19 (nI f218)) 20 sg18) 18 wd18 := (fT_id _ _ ((fT_ne _ _ (Nat.ne_of_beq_eq_false rfl)).trans ((fT_ne _ _ (Nat.ne_of_beq_eq_false rfl)).trans ((fT_ne _ _ (Nat.ne_of_beq_eq_false rfl)).trans ((fT_ne _ _ (Nat.ne_of_beq_eq_false rfl)).trans (fT_ne _ _ (Nat.ne_of_beq_eq_false rfl))))))).trans (fT_id _ _ ((fT_ne _ _ (Nat.ne_of_beq_eq_false rfl)).trans ((fT_ne _ _ (Nat.ne_of_beq_eq_false rfl)).trans ((fT_ne _ _ (Nat.ne_of_beq_eq_false rfl)).trans (fT_ne _ _ (Nat.ne_of_beq_eq_false rfl))))))
      have hP : va_P (dC, dI) vwCl (WR a k h0 (fT (fT (fT (fT (fT (fT vi 17 (nI a218)) 19 (nI f218)) 20 sg18) 18 wd18) 21 (vi 21)) 22 (vi 22)) vj vF vG) H := by rw [e9]; exact hP
      have hD : va_D A (WR a k h0 (fT (fT (fT (fT (fT (fT vi 17 (nI a218)) 19 (nI f218)) 20 sg18) 18 wd18) 21 (vi 21)) 22 (vi 22)) vj vF vG) := by rw [e9]; exact hD
      clear e9
      exact W.zret (v := 1) hx hb hr rfl (fun t9_ ht hW => ⟨⟨1, (a218, f218, sg18, wd18, (vi 21), (vi 22)), rfl, by (try dsimp only); exact Or.inl ⟨rfl, i32z (by omega), f18_0, by (have h9 := hLx.2.2.1.resolve_left (fun h => by rw [h] at f11_0; exact absurd f11_0 (by decide))); omega, i32z (by omega)⟩, by rw [ht]; exact hP, hD⟩, hS.F ht⟩) hS.2.2 dX12_needKey_40
    · have f11_0 : ¬ ((vi 18).toInt = 2 ∧ (vi 20) = cv) := f11_0
      refine lv_if_eq (tgt := 24) hx hb dX12_needKey_14 (by decide) (fun _ => ?_) (fun c9 => absurd (by decide) c9)
      refine lv_aload_n hx hb dX12_needKey_24 rfl (lv_at hl 0 rfl) ?_
      have hFc := allFree hD hS hA
      refine va_callv (va_runV (As := []) (rest := []) ⟨hx, hb, hml, hown, hts⟩ (r_X12_wrong l dC dI a k h0 vi vj vF vG H.size) (cwV 0 hts gwsRX12_needKey_2 rfl rfl rfl hd_yX12_wrong_RX12 (by decide +kernel)) (fz_pre (va_recv hK hP (ci := 12) (q0 := 0) rfl rfl) hP hK hD) rfl rfl hl.1 rfl (lv_room (Nat.le_of_ble_eq_true rfl)) dX12_needKey_25 (by decide +kernel)) hS (fun q _ h => hFc q h) hFc (fun u t9_ H locs ht hvm hw9 hB9 hz1 hk1 hS => ?_)
      obtain ⟨s225, p225⟩ := u
      try dsimp only at hw9 hB9
      have hP : va_P (dC, dI) vwCl (WR a k h0 (fT (fT vi 21 s225) 22 p225) vj vF vG) H := fz_P ht hB9.1
      have hD : va_D A (WR a k h0 (fT (fT vi 21 s225) 22 p225) vj vF vG) := hB9.2.weaken (fun _ q _ h => hFc q.1 h)
      obtain ⟨f25_0, f25_1⟩ := hw9
      have f25_0 : (0 < (vi 21).toInt ∧ s225 = (vi 21) ∧ p225 = (vi 22)) ∨ (¬ 0 < (vi 21).toInt ∧ (s225 = 1 ∨ s225 = 2) ∧ p225 = (vi 19)) := f25_0
      have hs2 := f25_1
      refine lv_aload_n hx hb dX12_needKey_28 rfl (lv_at hl 0 rfl) ?_
      refine va_get (D := (dC, dI)) (ci := 12) (v := .int s225) (C := RX12) (T := TX12) (N := 163) (fs := fM (vS a (fT (fT vi 21 s225) 22 p225) vj)) hx hb hts iwsRX12_needKey_in12 hown hK hP 0 rfl rfl 21 (by decide) (hts (.fieldLink RX12 515 "OptimaWorksModel" "stop" "I") (by decide +kernel)) (fun _ h9 => h9) rfl dX12_needKey_29 ?_
      refine lv_if_ne (tgt := 39) hx hb dX12_needKey_32 (by decide) (fun c_32 => ?_) (fun c9 => False.elim (by have t9 : (s225).toInt = 0 := toI_nne c9 rfl (by decide); omega))
      have t_32 : (s225).toInt ≠ 0 := toI_ne c_32 rfl (by decide)
      refine lv_iconst (v := 0) hx hb dX12_needKey_39 (by decide) ?_
      refine W.widen (k := 0) (n := 0) (by decide +kernel) (by decide +kernel) ?_
      have e9 : fT (fT (fT (fT (fT (fT vi 17 (nI an)) 19 (nI fn)) 20 (vi 20)) 18 (vi 18)) 21 s225) 22 p225 = fT (fT vi 21 s225) 22 p225 := by funext q9; by_cases h9_17 : q9 = 17; (subst h9_17; exact ((fT_ne _ _ (Nat.ne_of_beq_eq_false rfl)).trans ((fT_ne _ _ (Nat.ne_of_beq_eq_false rfl)).trans ((fT_ne _ _ (Nat.ne_of_beq_eq_false rfl)).trans ((fT_ne _ _ (Nat.ne_of_beq_eq_false rfl)).trans ((fT_ne _ _ (Nat.ne_of_beq_eq_false rfl)).trans (fT_eq _ _ _)))))).trans (Eq.trans (by first | rfl | assumption | (symm; assumption) | (subst_vars; rfl)) ((fT_ne _ _ (Nat.ne_of_beq_eq_false rfl)).trans (fT_ne _ _ (Nat.ne_of_beq_eq_false rfl))).symm)); by_cases h9_19 : q9 = 19; (subst h9_19; exact ((fT_ne _ _ (Nat.ne_of_beq_eq_false rfl)).trans ((fT_ne _ _ (Nat.ne_of_beq_eq_false rfl)).trans ((fT_ne _ _ (Nat.ne_of_beq_eq_false rfl)).trans ((fT_ne _ _ (Nat.ne_of_beq_eq_false rfl)).trans (fT_eq _ _ _))))).trans (Eq.trans (by first | rfl | assumption | (symm; assumption) | (subst_vars; rfl)) ((fT_ne _ _ (Nat.ne_of_beq_eq_false rfl)).trans (fT_ne _ _ (Nat.ne_of_beq_eq_false rfl))).symm)); by_cases h9_20 : q9 = 20; (subst h9_20; exact ((fT_ne _ _ (Nat.ne_of_beq_eq_false rfl)).trans ((fT_ne _ _ (Nat.ne_of_beq_eq_false rfl)).trans ((fT_ne _ _ (Nat.ne_of_beq_eq_false rfl)).trans (fT_eq _ _ _)))).trans (Eq.trans (by first | rfl | assumption | (symm; assumption) | (subst_vars; rfl)) ((fT_ne _ _ (Nat.ne_of_beq_eq_false rfl)).trans (fT_ne _ _ (Nat.ne_of_beq_eq_false rfl))).symm)); by_cases h9_18 : q9 = 18; (subst h9_18; exact ((fT_ne _ _ (Nat.ne_of_beq_eq_false rfl)).trans ((fT_ne _ _ (Nat.ne_of_beq_eq_false rfl)).trans (fT_eq _ _ _))).trans (Eq.trans (by first | rfl | assumption | (symm; assumption) | (subst_vars; rfl)) ((fT_ne _ _ (Nat.ne_of_beq_eq_false rfl)).trans (fT_ne _ _ (Nat.ne_of_beq_eq_false rfl))).symm)); by_cases h9_21 : q9 = 21; (subst h9_21; exact ((fT_ne _ _ (Nat.ne_of_beq_eq_false rfl)).trans (fT_eq _ _ _)).trans (Eq.trans (by first | rfl | assumption | (symm; assumption) | (subst_vars; rfl)) ((fT_ne _ _ (Nat.ne_of_beq_eq_false rfl)).trans (fT_eq _ _ _)).symm)); by_cases h9_22 : q9 = 22; (subst h9_22; exact (fT_eq _ _ _).trans (Eq.trans (by first | rfl | assumption | (symm; assumption) | (subst_vars; rfl)) (fT_eq _ _ _).symm)); exact ((fT_ne _ _ h9_22).trans ((fT_ne _ _ h9_21).trans ((fT_ne _ _ h9_18).trans ((fT_ne _ _ h9_20).trans ((fT_ne _ _ h9_19).trans (fT_ne _ _ h9_17)))))).trans ((fT_ne _ _ h9_22).trans (fT_ne _ _ h9_21)).symm
      have hP : va_P (dC, dI) vwCl (WR a k h0 (fT (fT (fT (fT (fT (fT vi 17 (nI an)) 19 (nI fn)) 20 (vi 20)) 18 (vi 18)) 21 s225) 22 p225) vj vF vG) H := by rw [e9]; exact hP
      have hD : va_D A (WR a k h0 (fT (fT (fT (fT (fT (fT vi 17 (nI an)) 19 (nI fn)) 20 (vi 20)) 18 (vi 18)) 21 s225) 22 p225) vj vF vG) := by rw [e9]; exact hD
      clear e9
      exact W.zret (v := 0) hx hb hr rfl (fun t9_ ht hW => ⟨⟨0, (an, fn, (vi 20), (vi 18), s225, p225), rfl, by (try dsimp only); exact Or.inr ⟨rfl, hs2, hLx, Nat.le_refl _⟩, by rw [ht]; exact hP, hD⟩, hS.F ht⟩) hS.2.2 dX12_needKey_40
  · have t_4 : ¬ ((vi 21)).toInt ≤ 0 := toI_nle c_4 rfl (by decide)
    refine lv_iconst (v := 0) hx hb dX12_needKey_7 (by decide) ?_
    refine W.widen (k := 0) (n := 0) (by decide +kernel) (by decide +kernel) ?_
    have e9 : fT (fT (fT (fT (fT (fT vi 17 (nI an)) 19 (nI fn)) 20 (vi 20)) 18 (vi 18)) 21 (vi 21)) 22 (vi 22) = vi := by funext q9; by_cases h9_17 : q9 = 17; (subst h9_17; exact ((fT_ne _ _ (Nat.ne_of_beq_eq_false rfl)).trans ((fT_ne _ _ (Nat.ne_of_beq_eq_false rfl)).trans ((fT_ne _ _ (Nat.ne_of_beq_eq_false rfl)).trans ((fT_ne _ _ (Nat.ne_of_beq_eq_false rfl)).trans ((fT_ne _ _ (Nat.ne_of_beq_eq_false rfl)).trans (fT_eq _ _ _)))))).trans (Eq.trans (by first | rfl | assumption | (symm; assumption) | (subst_vars; rfl)) (Eq.refl _).symm)); by_cases h9_19 : q9 = 19; (subst h9_19; exact ((fT_ne _ _ (Nat.ne_of_beq_eq_false rfl)).trans ((fT_ne _ _ (Nat.ne_of_beq_eq_false rfl)).trans ((fT_ne _ _ (Nat.ne_of_beq_eq_false rfl)).trans ((fT_ne _ _ (Nat.ne_of_beq_eq_false rfl)).trans (fT_eq _ _ _))))).trans (Eq.trans (by first | rfl | assumption | (symm; assumption) | (subst_vars; rfl)) (Eq.refl _).symm)); by_cases h9_20 : q9 = 20; (subst h9_20; exact ((fT_ne _ _ (Nat.ne_of_beq_eq_false rfl)).trans ((fT_ne _ _ (Nat.ne_of_beq_eq_false rfl)).trans ((fT_ne _ _ (Nat.ne_of_beq_eq_false rfl)).trans (fT_eq _ _ _)))).trans (Eq.trans (by first | rfl | assumption | (symm; assumption) | (subst_vars; rfl)) (Eq.refl _).symm)); by_cases h9_18 : q9 = 18; (subst h9_18; exact ((fT_ne _ _ (Nat.ne_of_beq_eq_false rfl)).trans ((fT_ne _ _ (Nat.ne_of_beq_eq_false rfl)).trans (fT_eq _ _ _))).trans (Eq.trans (by first | rfl | assumption | (symm; assumption) | (subst_vars; rfl)) (Eq.refl _).symm)); by_cases h9_21 : q9 = 21; (subst h9_21; exact ((fT_ne _ _ (Nat.ne_of_beq_eq_false rfl)).trans (fT_eq _ _ _)).trans (Eq.trans (by first | rfl | assumption | (symm; assumption) | (subst_vars; rfl)) (Eq.refl _).symm)); by_cases h9_22 : q9 = 22; (subst h9_22; exact (fT_eq _ _ _).trans (Eq.trans (by first | rfl | assumption | (symm; assumption) | (subst_vars; rfl)) (Eq.refl _).symm)); exact ((fT_ne _ _ h9_22).trans ((fT_ne _ _ h9_21).trans ((fT_ne _ _ h9_18).trans ((fT_ne _ _ h9_20).trans ((fT_ne _ _ h9_19).trans (fT_ne _ _ h9_17)))))).trans (Eq.refl _).symm
    have hP : va_P (dC, dI) vwCl (WR a k h0 (fT (fT (fT (fT (fT (fT vi 17 (nI an)) 19 (nI fn)) 20 (vi 20)) 18 (vi 18)) 21 (vi 21)) 22 (vi 22)) vj vF vG) s.heap := by rw [e9]; exact hP
    have hD : va_D A (WR a k h0 (fT (fT (fT (fT (fT (fT vi 17 (nI an)) 19 (nI fn)) 20 (vi 20)) 18 (vi 18)) 21 (vi 21)) 22 (vi 22)) vj vF vG) := by rw [e9]; exact hD
    clear e9
    exact W.zret (v := 0) hx hb hr rfl (fun t9_ ht hW => ⟨⟨0, (an, fn, (vi 20), (vi 18), (vi 21), (vi 22)), rfl, by (try dsimp only); exact Or.inr ⟨rfl, by omega, hLx, Nat.le_refl _⟩, by rw [ht]; exact hP, hD⟩, hS.F ht⟩) hS.2.2 dX12_needKey_8

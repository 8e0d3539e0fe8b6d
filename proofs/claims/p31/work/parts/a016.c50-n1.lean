section
theorem hd_yX12_key_RX12 : yX12_key.cls = RX12 ∧ yX12_key.cls ≠ "java/lang/invoke/MethodHandle" ∧ yX12_key.cls ≠ "java/lang/invoke/VarHandle" ∧ (parseMethodDescriptor yX12_key.desc).map (fun d => d.parameters.length) = some 2 := by decide +kernel
theorem hd_yX12_takeName_RX12 : yX12_takeName.cls = RX12 ∧ yX12_takeName.cls ≠ "java/lang/invoke/MethodHandle" ∧ yX12_takeName.cls ≠ "java/lang/invoke/VarHandle" ∧ (parseMethodDescriptor yX12_takeName.desc).map (fun d => d.parameters.length) = some 0 := by decide +kernel
theorem hd_yX12_takeNumber_RX12 : yX12_takeNumber.cls = RX12 ∧ yX12_takeNumber.cls ≠ "java/lang/invoke/MethodHandle" ∧ yX12_takeNumber.cls ≠ "java/lang/invoke/VarHandle" ∧ (parseMethodDescriptor yX12_takeNumber.desc).map (fun d => d.parameters.length) = some 0 := by decide +kernel
theorem hd_yX12_takeSign_RX12 : yX12_takeSign.cls = RX12 ∧ yX12_takeSign.cls ≠ "java/lang/invoke/MethodHandle" ∧ yX12_takeSign.cls ≠ "java/lang/invoke/VarHandle" ∧ (parseMethodDescriptor yX12_takeSign.desc).map (fun d => d.parameters.length) = some 1 := by decide +kernel
theorem hd_yX12_isSign_RX12 : yX12_isSign.cls = RX12 ∧ yX12_isSign.cls ≠ "java/lang/invoke/MethodHandle" ∧ yX12_isSign.cls ≠ "java/lang/invoke/VarHandle" ∧ (parseMethodDescriptor yX12_isSign.desc).map (fun d => d.parameters.length) = some 1 := by decide +kernel
theorem hd_yX12_next_RX12 : yX12_next.cls = RX12 ∧ yX12_next.cls ≠ "java/lang/invoke/MethodHandle" ∧ yX12_next.cls ≠ "java/lang/invoke/VarHandle" ∧ (parseMethodDescriptor yX12_next.desc).map (fun d => d.parameters.length) = some 0 := by decide +kernel
theorem hd_yX12_wrong_RX12 : yX12_wrong.cls = RX12 ∧ yX12_wrong.cls ≠ "java/lang/invoke/MethodHandle" ∧ yX12_wrong.cls ≠ "java/lang/invoke/VarHandle" ∧ (parseMethodDescriptor yX12_wrong.desc).map (fun d => d.parameters.length) = some 0 := by decide +kernel
theorem hd_yX12_isKey_RX12 : yX12_isKey.cls = RX12 ∧ yX12_isKey.cls ≠ "java/lang/invoke/MethodHandle" ∧ yX12_isKey.cls ≠ "java/lang/invoke/VarHandle" ∧ (parseMethodDescriptor yX12_isKey.desc).map (fun d => d.parameters.length) = some 1 := by decide +kernel
theorem dX12_takeName_0 : decode cX12_takeName 0 = .ok (.aload_n 0, 1) := dk_42 (by decide +kernel)
theorem dX12_takeName_1 : decode cX12_takeName 1 = .ok (.aload_n 0, 1) := dk_42 (by decide +kernel)
theorem dX12_takeName_2 : decode cX12_takeName 2 = .ok (.getfield 485, 3) := dk_180 (by decide +kernel)
theorem dX12_takeName_5 : decode cX12_takeName 5 = .ok (.invokevirtual 482, 3) := dk_182 (by decide +kernel)
theorem dX12_takeName_8 : decode cX12_takeName 8 = .ok (.invokestatic 497, 3) := dk_184 (by decide +kernel)
theorem dX12_takeName_11 : decode cX12_takeName 11 = .ok (.ifCond .ne 17, 3) := dk_154 (by decide +kernel)
theorem dX12_takeName_14 : decode cX12_takeName 14 = .ok (.aload_n 0, 1) := dk_42 (by decide +kernel)
theorem dX12_takeName_15 : decode cX12_takeName 15 = .ok (.aload_n 0, 1) := dk_42 (by decide +kernel)
theorem dX12_takeName_16 : decode cX12_takeName 16 = .ok (.getfield 485, 3) := dk_180 (by decide +kernel)
theorem dX12_takeName_19 : decode cX12_takeName 19 = .ok (.invokevirtual 482, 3) := dk_182 (by decide +kernel)
theorem dX12_takeName_22 : decode cX12_takeName 22 = .ok (.invokestatic 503, 3) := dk_184 (by decide +kernel)
theorem dX12_takeName_25 : decode cX12_takeName 25 = .ok (.ifCond .eq 16, 3) := dk_153 (by decide +kernel)
theorem dX12_takeName_28 : decode cX12_takeName 28 = .ok (.aload_n 0, 1) := dk_42 (by decide +kernel)
theorem dX12_takeName_29 : decode cX12_takeName 29 = .ok (.dup, 1) := dk_89 (by decide +kernel)
theorem dX12_takeName_30 : decode cX12_takeName 30 = .ok (.getfield 485, 3) := dk_180 (by decide +kernel)
theorem dX12_takeName_33 : decode cX12_takeName 33 = .ok (.iconst 1, 1) := dk_4 (by decide +kernel)
theorem dX12_takeName_34 : decode cX12_takeName 34 = .ok (.iadd, 1) := dk_96 (by decide +kernel)
theorem dX12_takeName_35 : decode cX12_takeName 35 = .ok (.putfield 485, 3) := dk_181 (by decide +kernel)
theorem dX12_takeName_38 : decode cX12_takeName 38 = .ok (.goto (-38), 3) := dk_167 (by decide +kernel)
theorem dX12_takeName_41 : decode cX12_takeName 41 = .ok (.aload_n 0, 1) := dk_42 (by decide +kernel)
theorem dX12_takeName_42 : decode cX12_takeName 42 = .ok (.aload_n 0, 1) := dk_42 (by decide +kernel)
theorem dX12_takeName_43 : decode cX12_takeName 43 = .ok (.aload_n 0, 1) := dk_42 (by decide +kernel)
theorem dX12_takeName_44 : decode cX12_takeName 44 = .ok (.getfield 488, 3) := dk_180 (by decide +kernel)
theorem dX12_takeName_47 : decode cX12_takeName 47 = .ok (.aload_n 0, 1) := dk_42 (by decide +kernel)
theorem dX12_takeName_48 : decode cX12_takeName 48 = .ok (.getfield 485, 3) := dk_180 (by decide +kernel)
theorem dX12_takeName_51 : decode cX12_takeName 51 = .ok (.aload_n 0, 1) := dk_42 (by decide +kernel)
theorem dX12_takeName_52 : decode cX12_takeName 52 = .ok (.getfield 488, 3) := dk_180 (by decide +kernel)
theorem dX12_takeName_55 : decode cX12_takeName 55 = .ok (.isub, 1) := dk_100 (by decide +kernel)
theorem dX12_takeName_56 : decode cX12_takeName 56 = .ok (.invokevirtual 512, 3) := dk_182 (by decide +kernel)
theorem dX12_takeName_59 : decode cX12_takeName 59 = .ok (.putfield 491, 3) := dk_181 (by decide +kernel)
theorem dX12_takeName_62 : decode cX12_takeName 62 = .ok (.aload_n 0, 1) := dk_42 (by decide +kernel)
theorem dX12_takeName_63 : decode cX12_takeName 63 = .ok (.aload_n 0, 1) := dk_42 (by decide +kernel)
theorem dX12_takeName_64 : decode cX12_takeName 64 = .ok (.getfield 491, 3) := dk_180 (by decide +kernel)
theorem dX12_takeName_67 : decode cX12_takeName 67 = .ok (.iconst (-1), 1) := dk_2 (by decide +kernel)
theorem dX12_takeName_68 : decode cX12_takeName 68 = .ok (.if_icmp .eq 7, 3) := dk_159 (by decide +kernel)
theorem dX12_takeName_71 : decode cX12_takeName 71 = .ok (.iconst 2, 1) := dk_5 (by decide +kernel)
theorem dX12_takeName_72 : decode cX12_takeName 72 = .ok (.goto 22, 3) := dk_167 (by decide +kernel)
theorem dX12_takeName_75 : decode cX12_takeName 75 = .ok (.aload_n 0, 1) := dk_42 (by decide +kernel)
theorem dX12_takeName_76 : decode cX12_takeName 76 = .ok (.getfield 485, 3) := dk_180 (by decide +kernel)
theorem dX12_takeName_79 : decode cX12_takeName 79 = .ok (.aload_n 0, 1) := dk_42 (by decide +kernel)
theorem dX12_takeName_80 : decode cX12_takeName 80 = .ok (.getfield 488, 3) := dk_180 (by decide +kernel)
theorem dX12_takeName_83 : decode cX12_takeName 83 = .ok (.isub, 1) := dk_100 (by decide +kernel)
theorem dX12_takeName_84 : decode cX12_takeName 84 = .ok (.bipush 8, 2) := dk_16 (by decide +kernel)
theorem dX12_takeName_86 : decode cX12_takeName 86 = .ok (.if_icmp .le 7, 3) := dk_164 (by decide +kernel)
theorem dX12_takeName_89 : decode cX12_takeName 89 = .ok (.iconst 5, 1) := dk_8 (by decide +kernel)
theorem dX12_takeName_90 : decode cX12_takeName 90 = .ok (.goto 4, 3) := dk_167 (by decide +kernel)
theorem dX12_takeName_93 : decode cX12_takeName 93 = .ok (.iconst 1, 1) := dk_4 (by decide +kernel)
theorem dX12_takeName_94 : decode cX12_takeName 94 = .ok (.putfield 494, 3) := dk_181 (by decide +kernel)
theorem dX12_takeName_97 : decode cX12_takeName 97 = .ok (.return_, 1) := dk_177 (by decide +kernel)
def wsRX12_takeName : List Cond := .code yX12_takeName cX12_takeName 1 none :: ([.fieldLink RX12 485 "OptimaWorksModel" "at0" "I", .fieldLink RX12 488 "OptimaWorksModel" "from" "I", .fieldLink RX12 491 "OptimaWorksModel" "sign0" "I", .fieldLink RX12 494 "OptimaWorksModel" "word" "I"] ++ wsX120 ++ (wsV RX12 482 RX12 yX12_byteAt wsRX12_byteAt) ++ (va_wsS RX12 497 yX12_isLetter wsRX12_isLetter) ++ (va_wsS RX12 503 yX12_isDigit wsRX12_isDigit) ++ (wsV RX12 512 RX12 yX12_key wsRX12_key))
theorem iwsRX12_takeName_in12 : ∀ w ∈ wsX120, w ∈ wsRX12_takeName := fun _ h => List.mem_cons_of_mem _ (List.mem_append_left _ (List.mem_append_left _ (List.mem_append_left _ (List.mem_append_left _ (List.mem_append_right _ h)))))
theorem gwsRX12_takeName_0 : GoodIn wsRX12_takeName (wsV RX12 482 RX12 yX12_byteAt wsRX12_byteAt) := goodIn_sub (fun _ h => List.mem_cons_of_mem _ (List.mem_append_left _ (List.mem_append_left _ (List.mem_append_left _ (List.mem_append_right _ h))))) (gdV (by decide +kernel) gdwsRX12_byteAt)
theorem gwsRX12_takeName_1 : GoodIn wsRX12_takeName (va_wsS RX12 497 yX12_isLetter wsRX12_isLetter) := goodIn_sub (fun _ h => List.mem_cons_of_mem _ (List.mem_append_left _ (List.mem_append_left _ (List.mem_append_right _ h)))) (gdS (by decide +kernel) gdwsRX12_isLetter)
theorem gwsRX12_takeName_2 : GoodIn wsRX12_takeName (va_wsS RX12 503 yX12_isDigit wsRX12_isDigit) := goodIn_sub (fun _ h => List.mem_cons_of_mem _ (List.mem_append_left _ (List.mem_append_right _ h))) (gdS (by decide +kernel) gdwsRX12_isDigit)
theorem gwsRX12_takeName_3 : GoodIn wsRX12_takeName (wsV RX12 512 RX12 yX12_key wsRX12_key) := goodIn_sub (fun _ h => List.mem_cons_of_mem _ (List.mem_append_right _ h)) (gdV (by decide +kernel) gdwsRX12_key)
theorem gdwsRX12_takeName : wsRX12_takeName.all goodWord = true := gdC rfl (gdA (gdA (gdA (gdA (gdA (by decide +kernel : ([.fieldLink RX12 485 "OptimaWorksModel" "at0" "I", .fieldLink RX12 488 "OptimaWorksModel" "from" "I", .fieldLink RX12 491 "OptimaWorksModel" "sign0" "I", .fieldLink RX12 494 "OptimaWorksModel" "word" "I"] : List Cond).all goodWord = true) gdwsX120) (gdV (by decide +kernel) gdwsRX12_byteAt)) (gdS (by decide +kernel) gdwsRX12_isLetter)) (gdS (by decide +kernel) gdwsRX12_isDigit)) (gdV (by decide +kernel) gdwsRX12_key))
set_option maxHeartbeats 4000000 in
set_option maxRecDepth 100000 in
/-- takeName() -/
theorem r_X12_takeName (l : Launch) (dC : Nat → ClassId) (dI : Nat → Nat → Nat) (a : Nat → Nat) (k : Nat → ClassId) (h0 : Nat) (vi : Nat → Int32) (vj : Nat → Int64) (vF : Nat → Nat → Int32) (vG : Nat → Nat → Int64) (tp : Nat) (an : Nat) (fn : Nat) (hTp : vi 16 = nI tp) (htp : tp ≤ 4000) (ha0 : vi 17 = nI an) (hfr : vi 19 = nI fn) (hfa : fn ≤ an) (hant : an < tp) (hlt : (65 ≤ (bA tp (vF 9) an).toInt ∧ (bA tp (vF 9) an).toInt ≤ 90) ∨ (97 ≤ (bA tp (vF 9) an).toInt ∧ (bA tp (vF 9) an).toInt ≤ 122)) (sz : Nat) : Met l yX12_takeName wsRX12_takeName ({ frames := 6, cells := 0, slots := 0, locals := 131 }) (va_Pc [.ref h0] (fun U => U.heap.size = sz ∧ va_P (dC, dI) vwCl (WR a k h0 vi vj vF vG) U.heap ∧ va_K (dC, dI) vwCl (tX12 k) U ∧ va_D (fun _ => True) (WR a k h0 vi vj vF vG) ∧ StrA (va_A (WR a k h0 vi vj vF vG) sz) U U.heap)) (va_Qv (fun (u : (Nat) × (Int32) × (Int32)) => (an < (u.1) ∧ (u.1) ≤ tp) ∧ ((u.2.2) = 1 ∨ (u.2.2) = 2 ∨ (u.2.2) = 5)) (fun (u : (Nat) × (Int32) × (Int32)) t => va_P (dC, dI) vwCl (WR a k h0 (fT (fT (fT vi 17 (nI (u.1))) 20 (u.2.1)) 18 (u.2.2)) vj vF vG) t.heap ∧ va_D (va_A (WR a k h0 vi vj vF vG) sz) (WR a k h0 (fT (fT (fT vi 17 (nI (u.1))) 20 (u.2.1)) 18 (u.2.2)) vj vF vG)) (va_A (WR a k h0 vi vj vF vG) sz)) 0 0 (va_A (WR a k h0 vi vj vF vG) sz) := by
  refine Met.ofW (cc := cX12_takeName) (maxL := 1) (ret := none) (by decide) rfl ?_
  intro p e s m args below meth c s₁ B hml hv
  obtain ⟨rfl, hsz, hP, hK, hD0, hE⟩ := hv
  have hx := B.exec
  have hb := B.bytes
  have hr := B.returns
  have hts := atoms_spec (ws := wsRX12_takeName) B.pre
  have hown : s.vm.findClass RX12 = some m.cls := findClass_of_methodNamed B.named
  have hlocks := B.notSynchronized
  subst hsz
  have hD := hD0.self (sz := s.heap.size)
  generalize hAe : va_A (WR a k h0 vi vj vF vG) s.heap.size = A at hD hE ⊢
  have hA : ∀ q : Nat, s.heap.size ≤ q → A q := fun q h => by rw [← hAe]; exact Or.inr h
  have hS : va_S A s.heap s.heap [] := va_S.rf
  have hl := lv_entry ([.ref h0]) (n := 1) (Nat.le_of_ble_eq_true rfl)
  rw [lg_entry_eq]
  generalize (lg_sl ([.ref h0]) ++ List.replicate (1 - (lg_sl ([.ref h0])).length) Slot.unset).toArray = ls at hl ⊢
  have hl : lv_has ls 1 [(0, .ref h0)] := hl
  have e9 : fT vi 17 (nI an) = vi := by funext q9; by_cases h9_17 : q9 = 17; (subst h9_17; exact (fT_eq _ _ _).trans (Eq.trans (by first | with_reducible rfl | with_reducible assumption | (symm; with_reducible assumption) | rfl | assumption | (symm; assumption) | (subst_vars; rfl)) (Eq.refl _).symm)); exact (fT_ne _ _ h9_17).trans (Eq.refl _).symm
  have hP : va_P (dC, dI) vwCl (WR a k h0 (fT vi 17 (nI an)) vj vF vG) s.heap := by rw [e9]; exact hP
  have hD : va_D A (WR a k h0 (fT vi 17 (nI an)) vj vF vG) := by rw [e9]; exact hD
  clear e9
  have hl : lv_has _ _ ([(0, .ref h0)]) := lv_sub hl [0] rfl
  refine (fun (loop : ∀ (n9 : Nat) (a5 : Nat) (H : Heap) (locs : List Loc) (ls : Array Slot), (an ≤ a5 ∧ a5 ≤ tp) →  (tp < a5 + n9) → va_P (dC, dI) vwCl (WR a k h0 (fT vi 17 (nI a5)) vj vF vG) H → va_D A (WR a k h0 (fT vi 17 (nI a5)) vj vF vG) → va_S A s.heap H locs → lv_has ls 1 [(0, .ref h0)] → W p l e _ s m _ below meth c H locs 0 0 _ (F0 m 0 ls [])) => loop (tp + 1) an _ _ _ (by omega) (by omega) hP hD hS hl) ?_
  intro n9
  induction n9 with
  | zero => intro a5 H locs ls ha5 hf9; exact False.elim (by omega)
  | succ n9 ih0 =>
    intro a5 H locs ls ha5 hf0 hP hD hS hl
    refine lv_aload_n hx hb dX12_takeName_0 rfl (lv_at hl 0 rfl) ?_
    refine lv_aload_n hx hb dX12_takeName_1 rfl (lv_at hl 0 rfl) ?_
    refine va_get (D := (dC, dI)) (ci := 12) (v := .int (nI a5)) (C := RX12) (T := TX12) (N := 163) (fs := fM (vS a (fT vi 17 (nI a5)) vj)) hx hb hts iwsRX12_takeName_in12 hown hK hP 0 rfl rfl 17 (by decide) (hts (.fieldLink RX12 485 "OptimaWorksModel" "at0" "I") (by decide +kernel)) (fun _ h9 => h9) rfl dX12_takeName_2 ?_
    have hFc := allFree hD hS hA
    refine va_calli (va_runV (As := [.int (nI a5)]) (rest := []) ⟨hx, hb, hml, hown, hts⟩ (r_X12_byteAt l dC dI a k h0 (fT vi 17 (nI a5)) vj vF vG a5 tp hTp (by first | with_reducible assumption | decide | omega | rfl | assumption) (by first | with_reducible assumption | decide | omega | rfl | assumption) H.size) (cwV 1 hts gwsRX12_takeName_0 rfl rfl rfl hd_yX12_byteAt_RX12 (by decide +kernel)) (fz_pre (va_recv hK hP (ci := 12) (q0 := 0) rfl rfl) hP hK hD) rfl rfl hl.1 rfl (lv_room (Nat.le_of_ble_eq_true rfl)) dX12_takeName_5 (by decide +kernel)) hS (fun q _ h => hFc q h) hFc (fun r5 u t9_ H locs ht hvm hw9 hB9 hz1 hk1 hS => ?_)
    have hP : va_P (dC, dI) vwCl (WR a k h0 (fT vi 17 (nI a5)) vj vF vG) H := fz_P ht hB9.1
    have hD : va_D A (WR a k h0 (fT vi 17 (nI a5)) vj vF vG) := hB9.2.weaken (fun _ q _ h => hFc q.1 h)
    obtain rfl := hw9
    have hFc := noneFree hS hA
    refine va_calli (va_runS (As := [.int (bA tp (vF 9) a5)]) (rest := []) ⟨hx, hb, hml, hown, hts⟩ (r_X12_isLetter l dC dI (bA tp (vF 9) a5) H.size) (va_cwS 1 hts gwsRX12_takeName_1 rfl rfl rfl (by decide +kernel) ⟨by decide +kernel, by decide +kernel⟩) ⟨fun a U g mk q => by obtain ⟨q0, q1, qP, qK, qD⟩ := q; exact ⟨q0, q1, qP, va_K.moved (u := U) (U := U.calling g mk a) (Vm.Alike.refl U.vm) qK, qD⟩, fun U hU9 hW => ⟨rfl, by rw [hU9], by rw [hU9]; exact nilP, va_K.moved hW.alike (hK.sub (tys' := []) [] rfl), nilD⟩⟩ rfl rfl hl.1 rfl (lv_room (Nat.le_of_ble_eq_true rfl)) dX12_takeName_8 (by decide +kernel)) hS (fun q _ h => hFc q h) hFc (fun r8 u t9_ H1 locs ht hvm hw9 hB9 hz1 hk1 hS => ?_)
    have hP := keepAll hP hk1
    clear hB9
    generalize H1 = H at hP hS ⊢
    have hP : va_P (dC, dI) vwCl (WR a k h0 (fT vi 17 (nI a5)) vj vF vG) H := hP
    have hD : va_D A (WR a k h0 (fT vi 17 (nI a5)) vj vF vG) := hD
    rcases hw9 with ⟨rfl, f8_0⟩ | ⟨rfl, f8_0⟩
    · refine lv_if_ne (tgt := 28) hx hb dX12_takeName_11 (by decide) (fun _ => ?_) (fun c9 => absurd c9 (by decide))
      have bi := bA_in tp (vF 9) a5
      refine lv_aload_n hx hb dX12_takeName_28 rfl (lv_at hl 0 rfl) ?_
      refine lv_dup hx hb dX12_takeName_29 rfl ?_
      refine va_get (D := (dC, dI)) (ci := 12) (v := .int (nI a5)) (C := RX12) (T := TX12) (N := 163) (fs := fM (vS a (fT vi 17 (nI a5)) vj)) hx hb hts iwsRX12_takeName_in12 hown hK hP 0 rfl rfl 17 (by decide) (hts (.fieldLink RX12 485 "OptimaWorksModel" "at0" "I") (by decide +kernel)) (fun _ h9 => h9) rfl dX12_takeName_30 ?_
      refine lv_iconst (v := 1) hx hb dX12_takeName_33 (by decide) ?_
      refine lv_iadd hx hb dX12_takeName_34 ?_
      refine lv_topi (fun y1 hy1 => ?_)
      obtain rfl : (nI (a5 + 1)) = y1 := (hy1.trans (nI_add a5 1)).symm
      refine va_put (D := (dC, dI)) (ci := 12) (v := .int (nI (a5 + 1))) (ty := .int) (C := RX12) (T := TX12) (N := 163) (fs := fM (vS a (fT vi 17 (nI a5)) vj)) hx hb hts iwsRX12_takeName_in12 tyX12 tyX12_ok nmX12 hown hK hP hD hS 0 rfl rfl 17 (by decide) (hts (.fieldLink RX12 485 "OptimaWorksModel" "at0" "I") (by decide +kernel)) (fun _ h9 => h9) rfl (by decide +kernel) rfl rfl (Nat.le_of_ble_eq_true rfl) dX12_takeName_35 (fun H locs hP hD hS => ?_)
      have e9 : fT vi 17 (nI (a5 + 1)) = fT (fT vi 17 (nI a5)) 17 (nI (a5 + 1)) := (fT_sm _ _ _ _).symm
      have hP : va_P (dC, dI) vwCl (WR a k h0 (fT vi 17 (nI (a5 + 1))) vj vF vG) H := by rw [e9, ← WR_i 17 _ rfl]; exact hP
      have hD : va_D A (WR a k h0 (fT vi 17 (nI (a5 + 1))) vj vF vG) := by rw [e9, ← WR_i 17 _ rfl]; exact hD
      clear e9
      refine lv_goto (tgt := 0) hx hb dX12_takeName_38 (by decide) ?_
      have hl : lv_has _ _ ([(0, .ref h0)]) := lv_sub hl [0] rfl
      exact ih0 (a5 + 1) _ _ _ (by omega) (by omega) hP hD hS hl
    · refine lv_if_ne (tgt := 28) hx hb dX12_takeName_11 (by decide) (fun c9 => absurd c9 (by decide)) (fun _ => ?_)
      refine lv_aload_n hx hb dX12_takeName_14 rfl (lv_at hl 0 rfl) ?_
      refine lv_aload_n hx hb dX12_takeName_15 rfl (lv_at hl 0 rfl) ?_
      refine va_get (D := (dC, dI)) (ci := 12) (v := .int (nI a5)) (C := RX12) (T := TX12) (N := 163) (fs := fM (vS a (fT vi 17 (nI a5)) vj)) hx hb hts iwsRX12_takeName_in12 hown hK hP 0 rfl rfl 17 (by decide) (hts (.fieldLink RX12 485 "OptimaWorksModel" "at0" "I") (by decide +kernel)) (fun _ h9 => h9) rfl dX12_takeName_16 ?_
      have hFc := allFree hD hS hA
      refine va_calli (va_runV (As := [.int (nI a5)]) (rest := []) ⟨hx, hb, hml, hown, hts⟩ (r_X12_byteAt l dC dI a k h0 (fT vi 17 (nI a5)) vj vF vG a5 tp hTp (by first | with_reducible assumption | decide | omega | rfl | assumption) (by first | with_reducible assumption | decide | omega | rfl | assumption) H.size) (cwV 1 hts gwsRX12_takeName_0 rfl rfl rfl hd_yX12_byteAt_RX12 (by decide +kernel)) (fz_pre (va_recv hK hP (ci := 12) (q0 := 0) rfl rfl) hP hK hD) rfl rfl hl.1 rfl (lv_room (Nat.le_of_ble_eq_true rfl)) dX12_takeName_19 (by decide +kernel)) hS (fun q _ h => hFc q h) hFc (fun r19 u t9_ H locs ht hvm hw9 hB9 hz1 hk1 hS => ?_)
      have hP : va_P (dC, dI) vwCl (WR a k h0 (fT vi 17 (nI a5)) vj vF vG) H := fz_P ht hB9.1
      have hD : va_D A (WR a k h0 (fT vi 17 (nI a5)) vj vF vG) := hB9.2.weaken (fun _ q _ h => hFc q.1 h)
      obtain rfl := hw9
      have hFc := noneFree hS hA
      refine va_calli (va_runS (As := [.int (bA tp (vF 9) a5)]) (rest := []) ⟨hx, hb, hml, hown, hts⟩ (r_X12_isDigit l dC dI (bA tp (vF 9) a5) H.size) (va_cwS 1 hts gwsRX12_takeName_2 rfl rfl rfl (by decide +kernel) ⟨by decide +kernel, by decide +kernel⟩) ⟨fun a U g mk q => by obtain ⟨q0, q1, qP, qK, qD⟩ := q; exact ⟨q0, q1, qP, va_K.moved (u := U) (U := U.calling g mk a) (Vm.Alike.refl U.vm) qK, qD⟩, fun U hU9 hW => ⟨rfl, by rw [hU9], by rw [hU9]; exact nilP, va_K.moved hW.alike (hK.sub (tys' := []) [] rfl), nilD⟩⟩ rfl rfl hl.1 rfl (lv_room (Nat.le_of_ble_eq_true rfl)) dX12_takeName_22 (by decide +kernel)) hS (fun q _ h => hFc q h) hFc (fun r22 u t9_ H1 locs ht hvm hw9 hB9 hz1 hk1 hS => ?_)
      have hP := keepAll hP hk1
      clear hB9
      generalize H1 = H at hP hS ⊢
      have hP : va_P (dC, dI) vwCl (WR a k h0 (fT vi 17 (nI a5)) vj vF vG) H := hP
      have hD : va_D A (WR a k h0 (fT vi 17 (nI a5)) vj vF vG) := hD
      rcases hw9 with ⟨rfl, f22_0⟩ | ⟨rfl, f22_0⟩
      · refine lv_if_eq (tgt := 41) hx hb dX12_takeName_25 (by decide) (fun c9 => absurd c9 (by decide)) (fun _ => ?_)
        have bi := bA_in tp (vF 9) a5
        refine lv_aload_n hx hb dX12_takeName_28 rfl (lv_at hl 0 rfl) ?_
        refine lv_dup hx hb dX12_takeName_29 rfl ?_
        refine va_get (D := (dC, dI)) (ci := 12) (v := .int (nI a5)) (C := RX12) (T := TX12) (N := 163) (fs := fM (vS a (fT vi 17 (nI a5)) vj)) hx hb hts iwsRX12_takeName_in12 hown hK hP 0 rfl rfl 17 (by decide) (hts (.fieldLink RX12 485 "OptimaWorksModel" "at0" "I") (by decide +kernel)) (fun _ h9 => h9) rfl dX12_takeName_30 ?_
        refine lv_iconst (v := 1) hx hb dX12_takeName_33 (by decide) ?_
        refine lv_iadd hx hb dX12_takeName_34 ?_
        refine lv_topi (fun y2 hy2 => ?_)
        obtain rfl : (nI (a5 + 1)) = y2 := (hy2.trans (nI_add a5 1)).symm
        refine va_put (D := (dC, dI)) (ci := 12) (v := .int (nI (a5 + 1))) (ty := .int) (C := RX12) (T := TX12) (N := 163) (fs := fM (vS a (fT vi 17 (nI a5)) vj)) hx hb hts iwsRX12_takeName_in12 tyX12 tyX12_ok nmX12 hown hK hP hD hS 0 rfl rfl 17 (by decide) (hts (.fieldLink RX12 485 "OptimaWorksModel" "at0" "I") (by decide +kernel)) (fun _ h9 => h9) rfl (by decide +kernel) rfl rfl (Nat.le_of_ble_eq_true rfl) dX12_takeName_35 (fun H locs hP hD hS => ?_)
        have e9 : fT vi 17 (nI (a5 + 1)) = fT (fT vi 17 (nI a5)) 17 (nI (a5 + 1)) := (fT_sm _ _ _ _).symm
        have hP : va_P (dC, dI) vwCl (WR a k h0 (fT vi 17 (nI (a5 + 1))) vj vF vG) H := by rw [e9, ← WR_i 17 _ rfl]; exact hP
        have hD : va_D A (WR a k h0 (fT vi 17 (nI (a5 + 1))) vj vF vG) := by rw [e9, ← WR_i 17 _ rfl]; exact hD
        clear e9
        refine lv_goto (tgt := 0) hx hb dX12_takeName_38 (by decide) ?_
        have hl : lv_has _ _ ([(0, .ref h0)]) := lv_sub hl [0] rfl
        exact ih0 (a5 + 1) _ _ _ (by omega) (by omega) hP hD hS hl
      · refine lv_if_eq (tgt := 41) hx hb dX12_takeName_25 (by decide) (fun _ => ?_) (fun c9 => absurd (by decide) c9)
        have ha5 : an < a5 := by rcases Nat.lt_or_ge an a5 with h | h; (exact h); (exfalso; (have e9 : a5 = an := by omega); rw [e9] at f8_0; exact f8_0 hlt)
        refine lv_aload_n hx hb dX12_takeName_41 rfl (lv_at hl 0 rfl) ?_
        refine lv_aload_n hx hb dX12_takeName_42 rfl (lv_at hl 0 rfl) ?_
        refine lv_aload_n hx hb dX12_takeName_43 rfl (lv_at hl 0 rfl) ?_
        refine va_get (D := (dC, dI)) (ci := 12) (v := .int (vi 19)) (C := RX12) (T := TX12) (N := 163) (fs := fM (vS a (fT vi 17 (nI a5)) vj)) hx hb hts iwsRX12_takeName_in12 hown hK hP 0 rfl rfl 19 (by decide) (hts (.fieldLink RX12 488 "OptimaWorksModel" "from" "I") (by decide +kernel)) (fun _ h9 => h9) rfl dX12_takeName_44 ?_
        refine lv_topi (fun y3 hy3 => ?_)
        obtain rfl : (nI fn) = y3 := (hy3.trans (hfr)).symm
        refine lv_aload_n hx hb dX12_takeName_47 rfl (lv_at hl 0 rfl) ?_
        refine va_get (D := (dC, dI)) (ci := 12) (v := .int (nI a5)) (C := RX12) (T := TX12) (N := 163) (fs := fM (vS a (fT vi 17 (nI a5)) vj)) hx hb hts iwsRX12_takeName_in12 hown hK hP 0 rfl rfl 17 (by decide) (hts (.fieldLink RX12 485 "OptimaWorksModel" "at0" "I") (by decide +kernel)) (fun _ h9 => h9) rfl dX12_takeName_48 ?_
        refine lv_aload_n hx hb dX12_takeName_51 rfl (lv_at hl 0 rfl) ?_
        refine va_get (D := (dC, dI)) (ci := 12) (v := .int (vi 19)) (C := RX12) (T := TX12) (N := 163) (fs := fM (vS a (fT vi 17 (nI a5)) vj)) hx hb hts iwsRX12_takeName_in12 hown hK hP 0 rfl rfl 19 (by decide) (hts (.fieldLink RX12 488 "OptimaWorksModel" "from" "I") (by decide +kernel)) (fun _ h9 => h9) rfl dX12_takeName_52 ?_
        refine lv_topi (fun y4 hy4 => ?_)
        obtain rfl : (nI fn) = y4 := (hy4.trans (hfr)).symm
        refine lv_isub hx hb dX12_takeName_55 ?_
        refine lv_topi (fun y5 hy5 => ?_)
        obtain rfl : (nI (a5 - fn)) = y5 := (hy5.trans (pk_sub (a := a5) (b := fn) (by omega))).symm
        have hFc := allFree hD hS hA
        refine va_calli (va_runV (As := [.int (nI fn), .int (nI (a5 - fn))]) (rest := [.ref h0]) ⟨hx, hb, hml, hown, hts⟩ (r_X12_key l dC dI a k h0 (fT vi 17 (nI a5)) vj vF vG fn (a5 - fn) tp hTp (by first | with_reducible assumption | decide | omega | rfl | assumption) (by first | with_reducible assumption | decide | omega | rfl | assumption) (by first | with_reducible assumption | decide | omega | rfl | assumption) H.size) (cwV 2 hts gwsRX12_takeName_3 rfl rfl rfl hd_yX12_key_RX12 (by decide +kernel)) (fz_preE (va_recv hK hP (ci := 12) (q0 := 0) rfl rfl) hP hK hD (fun a U g mk qE => qE.same rfl) (fun U hU9 hW => by rw [hU9]; exact (((hE : StrA A s s.heap).kept hS.2.1).narrow (fun q h => hFc q h)).warm hW)) rfl rfl hl.1 rfl (lv_room (Nat.le_of_ble_eq_true rfl)) dX12_takeName_56 (by decide +kernel)) hS (fun q _ h => hFc q h) hFc (fun r56 u t9_ H locs ht hvm hw9 hB9 hz1 hk1 hS => ?_)
        have hP : va_P (dC, dI) vwCl (WR a k h0 (fT vi 17 (nI a5)) vj vF vG) H := fz_P ht hB9.1
        have hD : va_D A (WR a k h0 (fT vi 17 (nI a5)) vj vF vG) := hB9.2.weaken (fun _ q _ h => hFc q.1 h)
        refine va_put (D := (dC, dI)) (ci := 12) (v := .int r56) (ty := .int) (C := RX12) (T := TX12) (N := 163) (fs := fM (vS a (fT vi 17 (nI a5)) vj)) hx hb hts iwsRX12_takeName_in12 tyX12 tyX12_ok nmX12 hown hK hP hD hS 0 rfl rfl 20 (by decide) (hts (.fieldLink RX12 491 "OptimaWorksModel" "sign0" "I") (by decide +kernel)) (fun _ h9 => h9) rfl (by decide +kernel) rfl rfl (Nat.le_of_ble_eq_true rfl) dX12_takeName_59 (fun H locs hP hD hS => ?_)
        have hP : va_P (dC, dI) vwCl (WR a k h0 (fT (fT vi 17 (nI a5)) 20 r56) vj vF vG) H := by rw [← WR_i 20 _ rfl]; exact hP
        have hD : va_D A (WR a k h0 (fT (fT vi 17 (nI a5)) 20 r56) vj vF vG) := by rw [← WR_i 20 _ rfl]; exact hD
        refine lv_aload_n hx hb dX12_takeName_62 rfl (lv_at hl 0 rfl) ?_
        refine lv_aload_n hx hb dX12_takeName_63 rfl (lv_at hl 0 rfl) ?_
        refine va_get (D := (dC, dI)) (ci := 12) (v := .int r56) (C := RX12) (T := TX12) (N := 163) (fs := fM (vS a (fT (fT vi 17 (nI a5)) 20 r56) vj)) hx hb hts iwsRX12_takeName_in12 hown hK hP 0 rfl rfl 20 (by decide) (hts (.fieldLink RX12 491 "OptimaWorksModel" "sign0" "I") (by decide +kernel)) (fun _ h9 => h9) rfl dX12_takeName_64 ?_
        refine lv_iconst (v := (-1)) hx hb dX12_takeName_67 (by decide) ?_
        refine lv_icmp_eq (tgt := 75) hx hb dX12_takeName_68 (by decide) (fun c_68 => ?_) (fun c_68 => ?_)
        · have t_68 : (r56).toInt = -1 := toI_eq c_68 rfl (by decide)
          refine lv_aload_n hx hb dX12_takeName_75 rfl (lv_at hl 0 rfl) ?_
          refine va_get (D := (dC, dI)) (ci := 12) (v := .int (nI a5)) (C := RX12) (T := TX12) (N := 163) (fs := fM (vS a (fT (fT vi 17 (nI a5)) 20 r56) vj)) hx hb hts iwsRX12_takeName_in12 hown hK hP 0 rfl rfl 17 (by decide) (hts (.fieldLink RX12 485 "OptimaWorksModel" "at0" "I") (by decide +kernel)) (fun _ h9 => h9) rfl dX12_takeName_76 ?_
          refine lv_aload_n hx hb dX12_takeName_79 rfl (lv_at hl 0 rfl) ?_
          refine va_get (D := (dC, dI)) (ci := 12) (v := .int (vi 19)) (C := RX12) (T := TX12) (N := 163) (fs := fM (vS a (fT (fT vi 17 (nI a5)) 20 r56) vj)) hx hb hts iwsRX12_takeName_in12 hown hK hP 0 rfl rfl 19 (by decide) (hts (.fieldLink RX12 488 "OptimaWorksModel" "from" "I") (by decide +kernel)) (fun _ h9 => h9) rfl dX12_takeName_80 ?_
          refine lv_topi (fun y6 hy6 => ?_)
          obtain rfl : (nI fn) = y6 := (hy6.trans (hfr)).symm
          refine lv_isub hx hb dX12_takeName_83 ?_
          refine lv_topi (fun y7 hy7 => ?_)
          obtain rfl : (nI (a5 - fn)) = y7 := (hy7.trans (pk_sub (a := a5) (b := fn) (by omega))).symm
          refine lv_bipush (v := 8) hx hb dX12_takeName_84 (by decide) ?_
          refine lv_icmp_le (tgt := 93) hx hb dX12_takeName_86 (by decide) (fun c_86 => ?_) (fun c_86 => ?_)
          · have t_86 : (((a5 - fn) : Nat) : Int) ≤ 8 := toI_le c_86 (nI_toInt (by omega)) (by decide)
            refine lv_iconst (v := 1) hx hb dX12_takeName_93 (by decide) ?_
            refine va_put (D := (dC, dI)) (ci := 12) (v := .int 1) (ty := .int) (C := RX12) (T := TX12) (N := 163) (fs := fM (vS a (fT (fT vi 17 (nI a5)) 20 r56) vj)) hx hb hts iwsRX12_takeName_in12 tyX12 tyX12_ok nmX12 hown hK hP hD hS 0 rfl rfl 18 (by decide) (hts (.fieldLink RX12 494 "OptimaWorksModel" "word" "I") (by decide +kernel)) (fun _ h9 => h9) rfl (by decide +kernel) rfl rfl (Nat.le_of_ble_eq_true rfl) dX12_takeName_94 (fun H locs hP hD hS => ?_)
            have hP : va_P (dC, dI) vwCl (WR a k h0 (fT (fT (fT vi 17 (nI a5)) 20 r56) 18 1) vj vF vG) H := by rw [← WR_i 18 _ rfl]; exact hP
            have hD : va_D A (WR a k h0 (fT (fT (fT vi 17 (nI a5)) 20 r56) 18 1) vj vF vG) := by rw [← WR_i 18 _ rfl]; exact hD
            refine W.widen (k := 0) (n := 0) (by decide +kernel) (by decide +kernel) ?_
            exact W.vret hx hb hr (fun t9_ ht hW => ⟨⟨(a5, r56, 1), rfl, by (try dsimp only); exact ⟨by omega, Or.inl rfl⟩, by rw [ht]; exact hP, hD⟩, hS.F ht⟩) hS.2.2 dX12_takeName_97
          · have t_86 : ¬ (((a5 - fn) : Nat) : Int) ≤ 8 := toI_nle c_86 (nI_toInt (by omega)) (by decide)
            refine lv_iconst (v := 5) hx hb dX12_takeName_89 (by decide) ?_
            refine lv_goto (tgt := 94) hx hb dX12_takeName_90 (by decide) ?_
            refine va_put (D := (dC, dI)) (ci := 12) (v := .int 5) (ty := .int) (C := RX12) (T := TX12) (N := 163) (fs := fM (vS a (fT (fT vi 17 (nI a5)) 20 r56) vj)) hx hb hts iwsRX12_takeName_in12 tyX12 tyX12_ok nmX12 hown hK hP hD hS 0 rfl rfl 18 (by decide) (hts (.fieldLink RX12 494 "OptimaWorksModel" "word" "I") (by decide +kernel)) (fun _ h9 => h9) rfl (by decide +kernel) rfl rfl (Nat.le_of_ble_eq_true rfl) dX12_takeName_94 (fun H locs hP hD hS => ?_)
            have hP : va_P (dC, dI) vwCl (WR a k h0 (fT (fT (fT vi 17 (nI a5)) 20 r56) 18 5) vj vF vG) H := by rw [← WR_i 18 _ rfl]; exact hP
            have hD : va_D A (WR a k h0 (fT (fT (fT vi 17 (nI a5)) 20 r56) 18 5) vj vF vG) := by rw [← WR_i 18 _ rfl]; exact hD
            refine W.widen (k := 0) (n := 0) (by decide +kernel) (by decide +kernel) ?_
            exact W.vret hx hb hr (fun t9_ ht hW => ⟨⟨(a5, r56, 5), rfl, by (try dsimp only); exact ⟨by omega, Or.inr (Or.inr rfl)⟩, by rw [ht]; exact hP, hD⟩, hS.F ht⟩) hS.2.2 dX12_takeName_97
        · have t_68 : ¬ (r56).toInt = -1 := toI_neq c_68 rfl (by decide)
          refine lv_iconst (v := 2) hx hb dX12_takeName_71 (by decide) ?_
          refine lv_goto (tgt := 94) hx hb dX12_takeName_72 (by decide) ?_
          refine va_put (D := (dC, dI)) (ci := 12) (v := .int 2) (ty := .int) (C := RX12) (T := TX12) (N := 163) (fs := fM (vS a (fT (fT vi 17 (nI a5)) 20 r56) vj)) hx hb hts iwsRX12_takeName_in12 tyX12 tyX12_ok nmX12 hown hK hP hD hS 0 rfl rfl 18 (by decide) (hts (.fieldLink RX12 494 "OptimaWorksModel" "word" "I") (by decide +kernel)) (fun _ h9 => h9) rfl (by decide +kernel) rfl rfl (Nat.le_of_ble_eq_true rfl) dX12_takeName_94 (fun H locs hP hD hS => ?_)
          have hP : va_P (dC, dI) vwCl (WR a k h0 (fT (fT (fT vi 17 (nI a5)) 20 r56) 18 2) vj vF vG) H := by rw [← WR_i 18 _ rfl]; exact hP
          have hD : va_D A (WR a k h0 (fT (fT (fT vi 17 (nI a5)) 20 r56) 18 2) vj vF vG) := by rw [← WR_i 18 _ rfl]; exact hD
          refine W.widen (k := 0) (n := 0) (by decide +kernel) (by decide +kernel) ?_
          exact W.vret hx hb hr (fun t9_ ht hW => ⟨⟨(a5, r56, 2), rfl, by (try dsimp only); exact ⟨by omega, Or.inr (Or.inl rfl)⟩, by rw [ht]; exact hP, hD⟩, hS.F ht⟩) hS.2.2 dX12_takeName_97
theorem dX12_next_0 : decode cX12_next 0 = .ok (.iconst 1, 1) := dk_4 (by decide +kernel)
theorem dX12_next_1 : decode cX12_next 1 = .ok (.istore_n 1, 1) := dk_60 (by decide +kernel)
theorem dX12_next_2 : decode cX12_next 2 = .ok (.iload_n 1, 1) := dk_27 (by decide +kernel)
theorem dX12_next_3 : decode cX12_next 3 = .ok (.ifCond .eq 97, 3) := dk_153 (by decide +kernel)
theorem dX12_next_6 : decode cX12_next 6 = .ok (.aload_n 0, 1) := dk_42 (by decide +kernel)
theorem dX12_next_7 : decode cX12_next 7 = .ok (.aload_n 0, 1) := dk_42 (by decide +kernel)
theorem dX12_next_8 : decode cX12_next 8 = .ok (.getfield 485, 3) := dk_180 (by decide +kernel)
theorem dX12_next_11 : decode cX12_next 11 = .ok (.invokevirtual 482, 3) := dk_182 (by decide +kernel)
theorem dX12_next_14 : decode cX12_next 14 = .ok (.istore_n 2, 1) := dk_61 (by decide +kernel)
theorem dX12_next_15 : decode cX12_next 15 = .ok (.iload_n 2, 1) := dk_28 (by decide +kernel)
theorem dX12_next_16 : decode cX12_next 16 = .ok (.bipush 35, 2) := dk_16 (by decide +kernel)
theorem dX12_next_18 : decode cX12_next 18 = .ok (.if_icmp .ne 40, 3) := dk_160 (by decide +kernel)
theorem dX12_next_21 : decode cX12_next 21 = .ok (.aload_n 0, 1) := dk_42 (by decide +kernel)
theorem dX12_next_22 : decode cX12_next 22 = .ok (.aload_n 0, 1) := dk_42 (by decide +kernel)
theorem dX12_next_23 : decode cX12_next 23 = .ok (.getfield 485, 3) := dk_180 (by decide +kernel)
theorem dX12_next_26 : decode cX12_next 26 = .ok (.invokevirtual 482, 3) := dk_182 (by decide +kernel)
theorem dX12_next_29 : decode cX12_next 29 = .ok (.ifCond .lt 68, 3) := dk_155 (by decide +kernel)
theorem dX12_next_32 : decode cX12_next 32 = .ok (.aload_n 0, 1) := dk_42 (by decide +kernel)
theorem dX12_next_33 : decode cX12_next 33 = .ok (.aload_n 0, 1) := dk_42 (by decide +kernel)
theorem dX12_next_34 : decode cX12_next 34 = .ok (.getfield 485, 3) := dk_180 (by decide +kernel)
theorem dX12_next_37 : decode cX12_next 37 = .ok (.invokevirtual 482, 3) := dk_182 (by decide +kernel)
theorem dX12_next_40 : decode cX12_next 40 = .ok (.bipush 10, 2) := dk_16 (by decide +kernel)
theorem dX12_next_42 : decode cX12_next 42 = .ok (.if_icmp .eq 55, 3) := dk_159 (by decide +kernel)
theorem dX12_next_45 : decode cX12_next 45 = .ok (.aload_n 0, 1) := dk_42 (by decide +kernel)
theorem dX12_next_46 : decode cX12_next 46 = .ok (.dup, 1) := dk_89 (by decide +kernel)
theorem dX12_next_47 : decode cX12_next 47 = .ok (.getfield 485, 3) := dk_180 (by decide +kernel)
theorem dX12_next_50 : decode cX12_next 50 = .ok (.iconst 1, 1) := dk_4 (by decide +kernel)
theorem dX12_next_51 : decode cX12_next 51 = .ok (.iadd, 1) := dk_96 (by decide +kernel)
theorem dX12_next_52 : decode cX12_next 52 = .ok (.putfield 485, 3) := dk_181 (by decide +kernel)
theorem dX12_next_55 : decode cX12_next 55 = .ok (.goto (-34), 3) := dk_167 (by decide +kernel)
theorem dX12_next_58 : decode cX12_next 58 = .ok (.iload_n 2, 1) := dk_28 (by decide +kernel)
theorem dX12_next_59 : decode cX12_next 59 = .ok (.bipush 9, 2) := dk_16 (by decide +kernel)
theorem dX12_next_61 : decode cX12_next 61 = .ok (.if_icmp .eq 21, 3) := dk_159 (by decide +kernel)
theorem dX12_next_64 : decode cX12_next 64 = .ok (.iload_n 2, 1) := dk_28 (by decide +kernel)
theorem dX12_next_65 : decode cX12_next 65 = .ok (.bipush 10, 2) := dk_16 (by decide +kernel)
theorem dX12_next_67 : decode cX12_next 67 = .ok (.if_icmp .eq 15, 3) := dk_159 (by decide +kernel)
theorem dX12_next_70 : decode cX12_next 70 = .ok (.iload_n 2, 1) := dk_28 (by decide +kernel)
theorem dX12_next_71 : decode cX12_next 71 = .ok (.bipush 13, 2) := dk_16 (by decide +kernel)
theorem dX12_next_73 : decode cX12_next 73 = .ok (.if_icmp .eq 9, 3) := dk_159 (by decide +kernel)
theorem dX12_next_76 : decode cX12_next 76 = .ok (.iload_n 2, 1) := dk_28 (by decide +kernel)
theorem dX12_next_77 : decode cX12_next 77 = .ok (.bipush 32, 2) := dk_16 (by decide +kernel)
theorem dX12_next_79 : decode cX12_next 79 = .ok (.if_icmp .ne 16, 3) := dk_160 (by decide +kernel)
theorem dX12_next_82 : decode cX12_next 82 = .ok (.aload_n 0, 1) := dk_42 (by decide +kernel)
theorem dX12_next_83 : decode cX12_next 83 = .ok (.dup, 1) := dk_89 (by decide +kernel)
theorem dX12_next_84 : decode cX12_next 84 = .ok (.getfield 485, 3) := dk_180 (by decide +kernel)
theorem dX12_next_87 : decode cX12_next 87 = .ok (.iconst 1, 1) := dk_4 (by decide +kernel)
theorem dX12_next_88 : decode cX12_next 88 = .ok (.iadd, 1) := dk_96 (by decide +kernel)
theorem dX12_next_89 : decode cX12_next 89 = .ok (.putfield 485, 3) := dk_181 (by decide +kernel)
theorem dX12_next_92 : decode cX12_next 92 = .ok (.goto 5, 3) := dk_167 (by decide +kernel)
theorem dX12_next_95 : decode cX12_next 95 = .ok (.iconst 0, 1) := dk_3 (by decide +kernel)
theorem dX12_next_96 : decode cX12_next 96 = .ok (.istore_n 1, 1) := dk_60 (by decide +kernel)
theorem dX12_next_97 : decode cX12_next 97 = .ok (.goto (-95), 3) := dk_167 (by decide +kernel)
theorem dX12_next_100 : decode cX12_next 100 = .ok (.aload_n 0, 1) := dk_42 (by decide +kernel)
theorem dX12_next_101 : decode cX12_next 101 = .ok (.aload_n 0, 1) := dk_42 (by decide +kernel)
theorem dX12_next_102 : decode cX12_next 102 = .ok (.getfield 485, 3) := dk_180 (by decide +kernel)
theorem dX12_next_105 : decode cX12_next 105 = .ok (.putfield 488, 3) := dk_181 (by decide +kernel)
theorem dX12_next_108 : decode cX12_next 108 = .ok (.aload_n 0, 1) := dk_42 (by decide +kernel)
theorem dX12_next_109 : decode cX12_next 109 = .ok (.aload_n 0, 1) := dk_42 (by decide +kernel)
theorem dX12_next_110 : decode cX12_next 110 = .ok (.getfield 485, 3) := dk_180 (by decide +kernel)
theorem dX12_next_113 : decode cX12_next 113 = .ok (.invokevirtual 482, 3) := dk_182 (by decide +kernel)
theorem dX12_next_116 : decode cX12_next 116 = .ok (.istore_n 2, 1) := dk_61 (by decide +kernel)
theorem dX12_next_117 : decode cX12_next 117 = .ok (.aload_n 0, 1) := dk_42 (by decide +kernel)
theorem dX12_next_118 : decode cX12_next 118 = .ok (.iload_n 2, 1) := dk_28 (by decide +kernel)
theorem dX12_next_119 : decode cX12_next 119 = .ok (.putfield 491, 3) := dk_181 (by decide +kernel)
theorem dX12_next_122 : decode cX12_next 122 = .ok (.iload_n 2, 1) := dk_28 (by decide +kernel)
theorem dX12_next_123 : decode cX12_next 123 = .ok (.ifCond .ge 11, 3) := dk_156 (by decide +kernel)
theorem dX12_next_126 : decode cX12_next 126 = .ok (.aload_n 0, 1) := dk_42 (by decide +kernel)
theorem dX12_next_127 : decode cX12_next 127 = .ok (.iconst 0, 1) := dk_3 (by decide +kernel)
theorem dX12_next_128 : decode cX12_next 128 = .ok (.putfield 494, 3) := dk_181 (by decide +kernel)
theorem dX12_next_131 : decode cX12_next 131 = .ok (.goto 36, 3) := dk_167 (by decide +kernel)
theorem dX12_next_134 : decode cX12_next 134 = .ok (.iload_n 2, 1) := dk_28 (by decide +kernel)
theorem dX12_next_135 : decode cX12_next 135 = .ok (.invokestatic 497, 3) := dk_184 (by decide +kernel)
theorem dX12_next_138 : decode cX12_next 138 = .ok (.ifCond .eq 10, 3) := dk_153 (by decide +kernel)
theorem dX12_next_141 : decode cX12_next 141 = .ok (.aload_n 0, 1) := dk_42 (by decide +kernel)
theorem dX12_next_142 : decode cX12_next 142 = .ok (.invokevirtual 500, 3) := dk_182 (by decide +kernel)
theorem dX12_next_145 : decode cX12_next 145 = .ok (.goto 22, 3) := dk_167 (by decide +kernel)
theorem dX12_next_148 : decode cX12_next 148 = .ok (.iload_n 2, 1) := dk_28 (by decide +kernel)
theorem dX12_next_149 : decode cX12_next 149 = .ok (.invokestatic 503, 3) := dk_184 (by decide +kernel)
theorem dX12_next_152 : decode cX12_next 152 = .ok (.ifCond .eq 10, 3) := dk_153 (by decide +kernel)
theorem dX12_next_155 : decode cX12_next 155 = .ok (.aload_n 0, 1) := dk_42 (by decide +kernel)
theorem dX12_next_156 : decode cX12_next 156 = .ok (.invokevirtual 506, 3) := dk_182 (by decide +kernel)
theorem dX12_next_159 : decode cX12_next 159 = .ok (.goto 8, 3) := dk_167 (by decide +kernel)
theorem dX12_next_162 : decode cX12_next 162 = .ok (.aload_n 0, 1) := dk_42 (by decide +kernel)
theorem dX12_next_163 : decode cX12_next 163 = .ok (.iload_n 2, 1) := dk_28 (by decide +kernel)
theorem dX12_next_164 : decode cX12_next 164 = .ok (.invokevirtual 509, 3) := dk_182 (by decide +kernel)
theorem dX12_next_167 : decode cX12_next 167 = .ok (.return_, 1) := dk_177 (by decide +kernel)
def wsRX12_next : List Cond := .code yX12_next cX12_next 3 none :: ([.fieldLink RX12 485 "OptimaWorksModel" "at0" "I", .fieldLink RX12 488 "OptimaWorksModel" "from" "I", .fieldLink RX12 491 "OptimaWorksModel" "sign0" "I", .fieldLink RX12 494 "OptimaWorksModel" "word" "I"] ++ wsX120 ++ (wsV RX12 482 RX12 yX12_byteAt wsRX12_byteAt) ++ (va_wsS RX12 497 yX12_isLetter wsRX12_isLetter) ++ (wsV RX12 500 RX12 yX12_takeName wsRX12_takeName) ++ (va_wsS RX12 503 yX12_isDigit wsRX12_isDigit) ++ (wsV RX12 506 RX12 yX12_takeNumber wsRX12_takeNumber) ++ (wsV RX12 509 RX12 yX12_takeSign wsRX12_takeSign))
theorem iwsRX12_next_in12 : ∀ w ∈ wsX120, w ∈ wsRX12_next := fun _ h => List.mem_cons_of_mem _ (List.mem_append_left _ (List.mem_append_left _ (List.mem_append_left _ (List.mem_append_left _ (List.mem_append_left _ (List.mem_append_left _ (List.mem_append_right _ h)))))))
theorem gwsRX12_next_0 : GoodIn wsRX12_next (wsV RX12 482 RX12 yX12_byteAt wsRX12_byteAt) := goodIn_sub (fun _ h => List.mem_cons_of_mem _ (List.mem_append_left _ (List.mem_append_left _ (List.mem_append_left _ (List.mem_append_left _ (List.mem_append_left _ (List.mem_append_right _ h))))))) (gdV (by decide +kernel) gdwsRX12_byteAt)
theorem gwsRX12_next_1 : GoodIn wsRX12_next (va_wsS RX12 497 yX12_isLetter wsRX12_isLetter) := goodIn_sub (fun _ h => List.mem_cons_of_mem _ (List.mem_append_left _ (List.mem_append_left _ (List.mem_append_left _ (List.mem_append_left _ (List.mem_append_right _ h)))))) (gdS (by decide +kernel) gdwsRX12_isLetter)
theorem gwsRX12_next_2 : GoodIn wsRX12_next (wsV RX12 500 RX12 yX12_takeName wsRX12_takeName) := goodIn_sub (fun _ h => List.mem_cons_of_mem _ (List.mem_append_left _ (List.mem_append_left _ (List.mem_append_left _ (List.mem_append_right _ h))))) (gdV (by decide +kernel) gdwsRX12_takeName)
theorem gwsRX12_next_3 : GoodIn wsRX12_next (va_wsS RX12 503 yX12_isDigit wsRX12_isDigit) := goodIn_sub (fun _ h => List.mem_cons_of_mem _ (List.mem_append_left _ (List.mem_append_left _ (List.mem_append_right _ h)))) (gdS (by decide +kernel) gdwsRX12_isDigit)
theorem gwsRX12_next_4 : GoodIn wsRX12_next (wsV RX12 506 RX12 yX12_takeNumber wsRX12_takeNumber) := goodIn_sub (fun _ h => List.mem_cons_of_mem _ (List.mem_append_left _ (List.mem_append_right _ h))) (gdV (by decide +kernel) gdwsRX12_takeNumber)
theorem gwsRX12_next_5 : GoodIn wsRX12_next (wsV RX12 509 RX12 yX12_takeSign wsRX12_takeSign) := goodIn_sub (fun _ h => List.mem_cons_of_mem _ (List.mem_append_right _ h)) (gdV (by decide +kernel) gdwsRX12_takeSign)
theorem gdwsRX12_next : wsRX12_next.all goodWord = true := gdC rfl (gdA (gdA (gdA (gdA (gdA (gdA (gdA (by decide +kernel : ([.fieldLink RX12 485 "OptimaWorksModel" "at0" "I", .fieldLink RX12 488 "OptimaWorksModel" "from" "I", .fieldLink RX12 491 "OptimaWorksModel" "sign0" "I", .fieldLink RX12 494 "OptimaWorksModel" "word" "I"] : List Cond).all goodWord = true) gdwsX120) (gdV (by decide +kernel) gdwsRX12_byteAt)) (gdS (by decide +kernel) gdwsRX12_isLetter)) (gdV (by decide +kernel) gdwsRX12_takeName)) (gdS (by decide +kernel) gdwsRX12_isDigit)) (gdV (by decide +kernel) gdwsRX12_takeNumber)) (gdV (by decide +kernel) gdwsRX12_takeSign))
set_option maxHeartbeats 4000000 in
set_option maxRecDepth 100000 in
/-- next() -/
theorem r_X12_next (l : Launch) (dC : Nat → ClassId) (dI : Nat → Nat → Nat) (a : Nat → Nat) (k : Nat → ClassId) (h0 : Nat) (vi : Nat → Int32) (vj : Nat → Int64) (vF : Nat → Nat → Int32) (vG : Nat → Nat → Int64) (tp : Nat) (an : Nat) (hTp : vi 16 = nI tp) (htp : tp ≤ 4000) (ha0 : vi 17 = nI an) (han : an ≤ tp) (sz : Nat) : Met l yX12_next wsRX12_next ({ frames := 7, cells := 0, slots := 0, locals := 151 }) (va_Pc [.ref h0] (fun U => U.heap.size = sz ∧ va_P (dC, dI) vwCl (WR a k h0 vi vj vF vG) U.heap ∧ va_K (dC, dI) vwCl (tX12 k) U ∧ va_D (fun _ => True) (WR a k h0 vi vj vF vG) ∧ StrA (va_A (WR a k h0 vi vj vF vG) sz) U U.heap)) (va_Qv (fun (u : (Nat) × (Nat) × (Int32) × (Int32)) => (LxO tp (u.2.1) (u.1) (u.2.2.2) (u.2.2.1)) ∧ (an ≤ (u.2.1))) (fun (u : (Nat) × (Nat) × (Int32) × (Int32)) t => va_P (dC, dI) vwCl (WR a k h0 (fT (fT (fT (fT vi 17 (nI (u.1))) 19 (nI (u.2.1))) 20 (u.2.2.1)) 18 (u.2.2.2)) vj vF vG) t.heap ∧ va_D (va_A (WR a k h0 vi vj vF vG) sz) (WR a k h0 (fT (fT (fT (fT vi 17 (nI (u.1))) 19 (nI (u.2.1))) 20 (u.2.2.1)) 18 (u.2.2.2)) vj vF vG)) (va_A (WR a k h0 vi vj vF vG) sz)) 0 0 (va_A (WR a k h0 vi vj vF vG) sz) := by
  refine Met.ofW (cc := cX12_next) (maxL := 3) (ret := none) (by decide) rfl ?_
  intro p e s m args below meth c s₁ B hml hv
  obtain ⟨rfl, hsz, hP, hK, hD0, hE⟩ := hv
  have hx := B.exec
  have hb := B.bytes
  have hr := B.returns
  have hts := atoms_spec (ws := wsRX12_next) B.pre
  have hown : s.vm.findClass RX12 = some m.cls := findClass_of_methodNamed B.named
  have hlocks := B.notSynchronized
  subst hsz
  have hD := hD0.self (sz := s.heap.size)
  generalize hAe : va_A (WR a k h0 vi vj vF vG) s.heap.size = A at hD hE ⊢
  have hA : ∀ q : Nat, s.heap.size ≤ q → A q := fun q h => by rw [← hAe]; exact Or.inr h
  have hS : va_S A s.heap s.heap [] := va_S.rf
  have hl := lv_entry ([.ref h0]) (n := 3) (Nat.le_of_ble_eq_true rfl)
  rw [lg_entry_eq]
  generalize (lg_sl ([.ref h0]) ++ List.replicate (3 - (lg_sl ([.ref h0])).length) Slot.unset).toArray = ls at hl ⊢
  have hl : lv_has ls 3 [(0, .ref h0)] := hl
  refine lv_iconst (v := 1) hx hb dX12_next_0 (by decide) ?_
  refine lv_istore_n hx hb dX12_next_1 rfl hl (by decide) rfl (fun ls (hl : lv_has ls _ ([(1, .int 1), (0, .ref h0)])) => ?_)
  have e9 : fT vi 17 (nI an) = vi := by funext q9; by_cases h9_17 : q9 = 17; (subst h9_17; exact (fT_eq _ _ _).trans (Eq.trans (by first | with_reducible rfl | with_reducible assumption | (symm; with_reducible assumption) | rfl | assumption | (symm; assumption) | (subst_vars; rfl)) (Eq.refl _).symm)); exact (fT_ne _ _ h9_17).trans (Eq.refl _).symm
  have hP : va_P (dC, dI) vwCl (WR a k h0 (fT vi 17 (nI an)) vj vF vG) s.heap := by rw [e9]; exact hP
  have hD : va_D A (WR a k h0 (fT vi 17 (nI an)) vj vF vG) := by rw [e9]; exact hD
  clear e9
  have hl : lv_has _ _ ([(0, .ref h0), (1, .int 1)]) := lv_sub hl [1, 0] rfl
  refine (fun (loop : ∀ (n9 : Nat) (mo : Int32) (a5 : Nat) (H : Heap) (locs : List Loc) (ls : Array Slot), (an ≤ a5 ∧ a5 ≤ tp) →  ((mo = 0 ∧ 0 < n9) ∨ tp + 1 < a5 + n9) → va_P (dC, dI) vwCl (WR a k h0 (fT vi 17 (nI a5)) vj vF vG) H → va_D A (WR a k h0 (fT vi 17 (nI a5)) vj vF vG) → va_S A s.heap H locs → lv_has ls 3 [(0, .ref h0), (1, .int mo)] → W p l e _ s m _ below meth c H locs 0 0 _ (F0 m 2 ls [])) => loop (tp + 2) 1 an _ _ _ (by omega) (Or.inr (by omega)) hP hD hS hl) ?_
  intro n9
  induction n9 with
  | zero => intro mo a5 H locs ls ha5 hf9; exact False.elim (by omega)
  | succ n9 ih2 =>
    intro mo a5 H locs ls ha5 hf2 hP hD hS hl
    have hfx := hf2
    refine lv_iload_n hx hb dX12_next_2 rfl (lv_at hl 1 rfl) ?_
    refine lv_if_eq (tgt := 100) hx hb dX12_next_3 (by decide) (fun c_3 => ?_) (fun c_3 => ?_)
    · have t_3 : (mo).toInt = 0 := toI_eq c_3 rfl (by decide)
      refine lv_aload_n hx hb dX12_next_100 rfl (lv_at hl 0 rfl) ?_
      refine lv_aload_n hx hb dX12_next_101 rfl (lv_at hl 0 rfl) ?_
      refine va_get (D := (dC, dI)) (ci := 12) (v := .int (nI a5)) (C := RX12) (T := TX12) (N := 163) (fs := fM (vS a (fT vi 17 (nI a5)) vj)) hx hb hts iwsRX12_next_in12 hown hK hP 0 rfl rfl 17 (by decide) (hts (.fieldLink RX12 485 "OptimaWorksModel" "at0" "I") (by decide +kernel)) (fun _ h9 => h9) rfl dX12_next_102 ?_
      refine va_put (D := (dC, dI)) (ci := 12) (v := .int (nI a5)) (ty := .int) (C := RX12) (T := TX12) (N := 163) (fs := fM (vS a (fT vi 17 (nI a5)) vj)) hx hb hts iwsRX12_next_in12 tyX12 tyX12_ok nmX12 hown hK hP hD hS 0 rfl rfl 19 (by decide) (hts (.fieldLink RX12 488 "OptimaWorksModel" "from" "I") (by decide +kernel)) (fun _ h9 => h9) rfl (by decide +kernel) rfl rfl (Nat.le_of_ble_eq_true rfl) dX12_next_105 (fun H locs hP hD hS => ?_)
      have hP : va_P (dC, dI) vwCl (WR a k h0 (fT (fT vi 17 (nI a5)) 19 (nI a5)) vj vF vG) H := by rw [← WR_i 19 _ rfl]; exact hP
      have hD : va_D A (WR a k h0 (fT (fT vi 17 (nI a5)) 19 (nI a5)) vj vF vG) := by rw [← WR_i 19 _ rfl]; exact hD
      refine lv_aload_n hx hb dX12_next_108 rfl (lv_at hl 0 rfl) ?_
      refine lv_aload_n hx hb dX12_next_109 rfl (lv_at hl 0 rfl) ?_
      refine va_get (D := (dC, dI)) (ci := 12) (v := .int (nI a5)) (C := RX12) (T := TX12) (N := 163) (fs := fM (vS a (fT (fT vi 17 (nI a5)) 19 (nI a5)) vj)) hx hb hts iwsRX12_next_in12 hown hK hP 0 rfl rfl 17 (by decide) (hts (.fieldLink RX12 485 "OptimaWorksModel" "at0" "I") (by decide +kernel)) (fun _ h9 => h9) rfl dX12_next_110 ?_
      have hFc := allFree hD hS hA
      refine va_calli (va_runV (As := [.int (nI a5)]) (rest := []) ⟨hx, hb, hml, hown, hts⟩ (r_X12_byteAt l dC dI a k h0 (fT (fT vi 17 (nI a5)) 19 (nI a5)) vj vF vG a5 tp hTp (by first | with_reducible assumption | decide | omega | rfl | assumption) (by first | with_reducible assumption | decide | omega | rfl | assumption) H.size) (cwV 1 hts gwsRX12_next_0 rfl rfl rfl hd_yX12_byteAt_RX12 (by decide +kernel)) (fz_pre (va_recv hK hP (ci := 12) (q0 := 0) rfl rfl) hP hK hD) rfl rfl hl.1 rfl (lv_room (Nat.le_of_ble_eq_true rfl)) dX12_next_113 (by decide +kernel)) hS (fun q _ h => hFc q h) hFc (fun r113 u t9_ H locs ht hvm hw9 hB9 hz1 hk1 hS => ?_)
      have hP : va_P (dC, dI) vwCl (WR a k h0 (fT (fT vi 17 (nI a5)) 19 (nI a5)) vj vF vG) H := fz_P ht hB9.1
      have hD : va_D A (WR a k h0 (fT (fT vi 17 (nI a5)) 19 (nI a5)) vj vF vG) := hB9.2.weaken (fun _ q _ h => hFc q.1 h)
      obtain rfl := hw9
      refine lv_istore_n hx hb dX12_next_116 rfl hl (by decide) rfl (fun ls (hl : lv_has ls _ ([(2, .int (bA tp (vF 9) a5)), (0, .ref h0), (1, .int mo)])) => ?_)
      have bi7 := bA_in tp (vF 9) a5
      refine lv_aload_n hx hb dX12_next_117 rfl (lv_at hl 1 rfl) ?_
      refine lv_iload_n hx hb dX12_next_118 rfl (lv_at hl 0 rfl) ?_
      refine va_put (D := (dC, dI)) (ci := 12) (v := .int (bA tp (vF 9) a5)) (ty := .int) (C := RX12) (T := TX12) (N := 163) (fs := fM (vS a (fT (fT vi 17 (nI a5)) 19 (nI a5)) vj)) hx hb hts iwsRX12_next_in12 tyX12 tyX12_ok nmX12 hown hK hP hD hS 0 rfl rfl 20 (by decide) (hts (.fieldLink RX12 491 "OptimaWorksModel" "sign0" "I") (by decide +kernel)) (fun _ h9 => h9) rfl (by decide +kernel) rfl rfl (Nat.le_of_ble_eq_true rfl) dX12_next_119 (fun H locs hP hD hS => ?_)
      have hP : va_P (dC, dI) vwCl (WR a k h0 (fT (fT (fT vi 17 (nI a5)) 19 (nI a5)) 20 (bA tp (vF 9) a5)) vj vF vG) H := by rw [← WR_i 20 _ rfl]; exact hP
      have hD : va_D A (WR a k h0 (fT (fT (fT vi 17 (nI a5)) 19 (nI a5)) 20 (bA tp (vF 9) a5)) vj vF vG) := by rw [← WR_i 20 _ rfl]; exact hD
      refine lv_iload_n hx hb dX12_next_122 rfl (lv_at hl 0 rfl) ?_
      refine lv_if_ge (tgt := 134) hx hb dX12_next_123 (by decide) (fun c_123 => ?_) (fun c_123 => ?_)
      · have t_123 : ((bA tp (vF 9) a5)).toInt ≥ 0 := toI_ge c_123 rfl (by decide)
        refine lv_iload_n hx hb dX12_next_134 rfl (lv_at hl 0 rfl) ?_
        have hFc := noneFree hS hA
        refine va_calli (va_runS (As := [.int (bA tp (vF 9) a5)]) (rest := []) ⟨hx, hb, hml, hown, hts⟩ (r_X12_isLetter l dC dI (bA tp (vF 9) a5) H.size) (va_cwS 1 hts gwsRX12_next_1 rfl rfl rfl (by decide +kernel) ⟨by decide +kernel, by decide +kernel⟩) ⟨fun a U g mk q => by obtain ⟨q0, q1, qP, qK, qD⟩ := q; exact ⟨q0, q1, qP, va_K.moved (u := U) (U := U.calling g mk a) (Vm.Alike.refl U.vm) qK, qD⟩, fun U hU9 hW => ⟨rfl, by rw [hU9], by rw [hU9]; exact nilP, va_K.moved hW.alike (hK.sub (tys' := []) [] rfl), nilD⟩⟩ rfl rfl hl.1 rfl (lv_room (Nat.le_of_ble_eq_true rfl)) dX12_next_135 (by decide +kernel)) hS (fun q _ h => hFc q h) hFc (fun r135 u t9_ H1 locs ht hvm hw9 hB9 hz1 hk1 hS => ?_)
        have hP := keepAll hP hk1
        clear hB9
        generalize H1 = H at hP hS ⊢
        have hP : va_P (dC, dI) vwCl (WR a k h0 (fT (fT (fT vi 17 (nI a5)) 19 (nI a5)) 20 (bA tp (vF 9) a5)) vj vF vG) H := hP
        have hD : va_D A (WR a k h0 (fT (fT (fT vi 17 (nI a5)) 19 (nI a5)) 20 (bA tp (vF 9) a5)) vj vF vG) := hD
        rcases hw9 with ⟨rfl, f135_0⟩ | ⟨rfl, f135_0⟩
        · refine lv_if_eq (tgt := 148) hx hb dX12_next_138 (by decide) (fun c9 => absurd c9 (by decide)) (fun _ => ?_)
          refine lv_aload_n hx hb dX12_next_141 rfl (lv_at hl 1 rfl) ?_
          have hFc := allFree hD hS hA
          refine va_callv (va_runV (As := []) (rest := []) ⟨hx, hb, hml, hown, hts⟩ (r_X12_takeName l dC dI a k h0 (fT (fT (fT vi 17 (nI a5)) 19 (nI a5)) 20 (bA tp (vF 9) a5)) vj vF vG tp a5 a5 hTp (by first | with_reducible assumption | decide | omega | rfl | assumption) rfl rfl (by first | with_reducible assumption | decide | omega | rfl | assumption) (by omega) (f135_0) H.size) (cwV 0 hts gwsRX12_next_2 rfl rfl rfl hd_yX12_takeName_RX12 (by decide +kernel)) (fz_preE (va_recv hK hP (ci := 12) (q0 := 0) rfl rfl) hP hK hD (fun a U g mk qE => qE.same rfl) (fun U hU9 hW => by rw [hU9]; exact (((hE : StrA A s s.heap).kept hS.2.1).narrow (fun q h => hFc q h)).warm hW)) rfl rfl hl.1 rfl (lv_room (Nat.le_of_ble_eq_true rfl)) dX12_next_142 (by decide +kernel)) hS (fun q _ h => hFc q h) hFc (fun u t9_ H locs ht hvm hw9 hB9 hz1 hk1 hS => ?_)
          revert u hw9 hB9
          refine fz_p3 ?_
          intro a2142 sg142 wd142 hw9 hB9
          try dsimp only at hw9 hB9
          have hP : va_P (dC, dI) vwCl (WR a k h0 (fT (fT (fT (fT (fT (fT vi 17 (nI a5)) 19 (nI a5)) 20 (bA tp (vF 9) a5)) 17 (nI a2142)) 20 sg142) 18 wd142) vj vF vG) H := fz_P ht hB9.1
          have hD : va_D A (WR a k h0 (fT (fT (fT (fT (fT (fT vi 17 (nI a5)) 19 (nI a5)) 20 (bA tp (vF 9) a5)) 17 (nI a2142)) 20 sg142) 18 wd142) vj vF vG) := hB9.2.weaken (fun _ q _ h => hFc q.1 h)
          have e9 : fT (fT (fT (fT vi 17 (nI a2142)) 19 (nI a5)) 20 sg142) 18 wd142 = fT (fT (fT (fT (fT (fT vi 17 (nI a5)) 19 (nI a5)) 20 (bA tp (vF 9) a5)) 17 (nI a2142)) 20 sg142) 18 wd142 := ((congrArg (fun g9 => fT (fT g9 20 sg142) 18 wd142) ((fT_sw _ _ _ (Nat.ne_of_beq_eq_false rfl)).trans (congrArg (fun g9 => fT g9 20 (bA tp (vF 9) a5)) ((fT_sw _ _ _ (Nat.ne_of_beq_eq_false rfl)).trans (congrArg (fun g9 => fT g9 19 (nI a5)) (fT_sm _ _ _ _)))))).trans (congrArg (fun g9 => fT g9 18 wd142) (fT_sm _ _ _ _))).symm
          rw [← e9] at hP hD
          clear e9
          have hP : va_P (dC, dI) vwCl (WR a k h0 (fT (fT (fT (fT vi 17 (nI a2142)) 19 (nI a5)) 20 sg142) 18 wd142) vj vF vG) H := hP
          have hD : va_D A (WR a k h0 (fT (fT (fT (fT vi 17 (nI a2142)) 19 (nI a5)) 20 sg142) 18 wd142) vj vF vG) := hD
          revert hw9
          refine fz_a2 ?_
          intro f142_0 f142_1
          refine lv_goto (tgt := 167) hx hb dX12_next_145 (by decide) ?_
          refine W.widen (k := 0) (n := 0) (by decide +kernel) (by decide +kernel) ?_
          exact W.vret hx hb hr (fun t9_ ht hW => ⟨⟨(a2142, a5, sg142, wd142), rfl, by (try dsimp only); exact ⟨⟨by omega, by omega, Or.inr (by omega), fun h9 => by rcases f142_1 with h | h | h <;> (rw [h] at h9; exact absurd h9 (by decide))⟩, by omega⟩, by rw [ht]; exact hP, hD⟩, hS.F ht⟩) hS.2.2 dX12_next_167
        · refine lv_if_eq (tgt := 148) hx hb dX12_next_138 (by decide) (fun _ => ?_) (fun c9 => absurd (by decide) c9)
          refine lv_iload_n hx hb dX12_next_148 rfl (lv_at hl 0 rfl) ?_
          have hFc := noneFree hS hA
          refine va_calli (va_runS (As := [.int (bA tp (vF 9) a5)]) (rest := []) ⟨hx, hb, hml, hown, hts⟩ (r_X12_isDigit l dC dI (bA tp (vF 9) a5) H.size) (va_cwS 1 hts gwsRX12_next_3 rfl rfl rfl (by decide +kernel) ⟨by decide +kernel, by decide +kernel⟩) ⟨fun a U g mk q => by obtain ⟨q0, q1, qP, qK, qD⟩ := q; exact ⟨q0, q1, qP, va_K.moved (u := U) (U := U.calling g mk a) (Vm.Alike.refl U.vm) qK, qD⟩, fun U hU9 hW => ⟨rfl, by rw [hU9], by rw [hU9]; exact nilP, va_K.moved hW.alike (hK.sub (tys' := []) [] rfl), nilD⟩⟩ rfl rfl hl.1 rfl (lv_room (Nat.le_of_ble_eq_true rfl)) dX12_next_149 (by decide +kernel)) hS (fun q _ h => hFc q h) hFc (fun r149 u t9_ H1 locs ht hvm hw9 hB9 hz1 hk1 hS => ?_)
          have hP := keepAll hP hk1
          clear hB9
          generalize H1 = H at hP hS ⊢
          have hP : va_P (dC, dI) vwCl (WR a k h0 (fT (fT (fT vi 17 (nI a5)) 19 (nI a5)) 20 (bA tp (vF 9) a5)) vj vF vG) H := hP
          have hD : va_D A (WR a k h0 (fT (fT (fT vi 17 (nI a5)) 19 (nI a5)) 20 (bA tp (vF 9) a5)) vj vF vG) := hD
          rcases hw9 with ⟨rfl, f149_0⟩ | ⟨rfl, f149_0⟩
          · refine lv_if_eq (tgt := 162) hx hb dX12_next_152 (by decide) (fun c9 => absurd c9 (by decide)) (fun _ => ?_)
            refine lv_aload_n hx hb dX12_next_155 rfl (lv_at hl 1 rfl) ?_
            have hFc := allFree hD hS hA
            refine va_callv (va_runV (As := []) (rest := []) ⟨hx, hb, hml, hown, hts⟩ (r_X12_takeNumber l dC dI a k h0 (fT (fT (fT vi 17 (nI a5)) 19 (nI a5)) 20 (bA tp (vF 9) a5)) vj vF vG tp a5 a5 hTp (by first | with_reducible assumption | decide | omega | rfl | assumption) rfl rfl (by first | with_reducible assumption | decide | omega | rfl | assumption) (by omega) (f149_0) H.size) (cwV 0 hts gwsRX12_next_4 rfl rfl rfl hd_yX12_takeNumber_RX12 (by decide +kernel)) (fz_pre (va_recv hK hP (ci := 12) (q0 := 0) rfl rfl) hP hK hD) rfl rfl hl.1 rfl (lv_room (Nat.le_of_ble_eq_true rfl)) dX12_next_156 (by decide +kernel)) hS (fun q _ h => hFc q h) hFc (fun u t9_ H locs ht hvm hw9 hB9 hz1 hk1 hS => ?_)
            revert u hw9 hB9
            refine fz_p3 ?_
            intro a2156 sg156 wd156 hw9 hB9
            try dsimp only at hw9 hB9
            have hP : va_P (dC, dI) vwCl (WR a k h0 (fT (fT (fT (fT (fT (fT vi 17 (nI a5)) 19 (nI a5)) 20 (bA tp (vF 9) a5)) 17 (nI a2156)) 20 sg156) 18 wd156) vj vF vG) H := fz_P ht hB9.1
            have hD : va_D A (WR a k h0 (fT (fT (fT (fT (fT (fT vi 17 (nI a5)) 19 (nI a5)) 20 (bA tp (vF 9) a5)) 17 (nI a2156)) 20 sg156) 18 wd156) vj vF vG) := hB9.2.weaken (fun _ q _ h => hFc q.1 h)
            have e9 : fT (fT (fT (fT vi 17 (nI a2156)) 19 (nI a5)) 20 sg156) 18 wd156 = fT (fT (fT (fT (fT (fT vi 17 (nI a5)) 19 (nI a5)) 20 (bA tp (vF 9) a5)) 17 (nI a2156)) 20 sg156) 18 wd156 := ((congrArg (fun g9 => fT (fT g9 20 sg156) 18 wd156) ((fT_sw _ _ _ (Nat.ne_of_beq_eq_false rfl)).trans (congrArg (fun g9 => fT g9 20 (bA tp (vF 9) a5)) ((fT_sw _ _ _ (Nat.ne_of_beq_eq_false rfl)).trans (congrArg (fun g9 => fT g9 19 (nI a5)) (fT_sm _ _ _ _)))))).trans (congrArg (fun g9 => fT g9 18 wd156) (fT_sm _ _ _ _))).symm
            rw [← e9] at hP hD
            clear e9
            have hP : va_P (dC, dI) vwCl (WR a k h0 (fT (fT (fT (fT vi 17 (nI a2156)) 19 (nI a5)) 20 sg156) 18 wd156) vj vF vG) H := hP
            have hD : va_D A (WR a k h0 (fT (fT (fT (fT vi 17 (nI a2156)) 19 (nI a5)) 20 sg156) 18 wd156) vj vF vG) := hD
            revert hw9
            refine fz_a4 ?_
            intro f156_0 f156_1 f156_2 f156_3
            refine lv_goto (tgt := 167) hx hb dX12_next_159 (by decide) ?_
            refine W.widen (k := 0) (n := 0) (by decide +kernel) (by decide +kernel) ?_
            exact W.vret hx hb hr (fun t9_ ht hW => ⟨⟨(a2156, a5, sg156, wd156), rfl, by (try dsimp only); exact ⟨⟨by omega, by omega, Or.inr (by omega), fun _ => f156_2⟩, by omega⟩, by rw [ht]; exact hP, hD⟩, hS.F ht⟩) hS.2.2 dX12_next_167
          · refine lv_if_eq (tgt := 162) hx hb dX12_next_152 (by decide) (fun _ => ?_) (fun c9 => absurd (by decide) c9)
            refine lv_aload_n hx hb dX12_next_162 rfl (lv_at hl 1 rfl) ?_
            refine lv_iload_n hx hb dX12_next_163 rfl (lv_at hl 0 rfl) ?_
            have hFc := allFree hD hS hA
            refine va_callv (va_runV (As := [.int (bA tp (vF 9) a5)]) (rest := []) ⟨hx, hb, hml, hown, hts⟩ (r_X12_takeSign l dC dI a k h0 (fT (fT (fT vi 17 (nI a5)) 19 (nI a5)) 20 (bA tp (vF 9) a5)) vj vF vG (bA tp (vF 9) a5) tp a5 hTp (by first | with_reducible assumption | decide | omega | rfl | assumption) rfl (by omega) H.size) (cwV 1 hts gwsRX12_next_5 rfl rfl rfl hd_yX12_takeSign_RX12 (by decide +kernel)) (fz_pre (va_recv hK hP (ci := 12) (q0 := 0) rfl rfl) hP hK hD) rfl rfl hl.1 rfl (lv_room (Nat.le_of_ble_eq_true rfl)) dX12_next_164 (by decide +kernel)) hS (fun q _ h => hFc q h) hFc (fun u t9_ H locs ht hvm hw9 hB9 hz1 hk1 hS => ?_)
            revert u hw9 hB9
            refine fz_p3 ?_
            intro a2164 sg164 wd164 hw9 hB9
            try dsimp only at hw9 hB9
            have hP : va_P (dC, dI) vwCl (WR a k h0 (fT (fT (fT (fT (fT (fT vi 17 (nI a5)) 19 (nI a5)) 20 (bA tp (vF 9) a5)) 18 wd164) 20 sg164) 17 (nI a2164)) vj vF vG) H := fz_P ht hB9.1
            have hD : va_D A (WR a k h0 (fT (fT (fT (fT (fT (fT vi 17 (nI a5)) 19 (nI a5)) 20 (bA tp (vF 9) a5)) 18 wd164) 20 sg164) 17 (nI a2164)) vj vF vG) := hB9.2.weaken (fun _ q _ h => hFc q.1 h)
            have e9 : fT (fT (fT (fT vi 17 (nI a2164)) 19 (nI a5)) 20 sg164) 18 wd164 = fT (fT (fT (fT (fT (fT vi 17 (nI a5)) 19 (nI a5)) 20 (bA tp (vF 9) a5)) 18 wd164) 20 sg164) 17 (nI a2164) := ((congrArg (fun g9 => fT g9 17 (nI a2164)) ((fT_sw _ _ _ (Nat.ne_of_beq_eq_false rfl)).trans (congrArg (fun g9 => fT g9 18 wd164) (fT_sm _ _ _ _)))).trans ((fT_sw _ _ _ (Nat.ne_of_beq_eq_false rfl)).trans (congrArg (fun g9 => fT g9 18 wd164) ((fT_sw _ _ _ (Nat.ne_of_beq_eq_false rfl)).trans (congrArg (fun g9 => fT g9 20 sg164) ((fT_sw _ _ _ (Nat.ne_of_beq_eq_false rfl)).trans (congrArg (fun g9 => fT g9 19 (nI a5)) (fT_sm _ _ _ _)))))))).symm
            rw [← e9] at hP hD
            clear e9
            have hP : va_P (dC, dI) vwCl (WR a k h0 (fT (fT (fT (fT vi 17 (nI a2164)) 19 (nI a5)) 20 sg164) 18 wd164) vj vF vG) H := hP
            have hD : va_D A (WR a k h0 (fT (fT (fT (fT vi 17 (nI a2164)) 19 (nI a5)) 20 sg164) 18 wd164) vj vF vG) := hD
            revert hw9
            refine fz_a3 ?_
            intro f164_0 f164_1 f164_2
            refine W.widen (k := 0) (n := 0) (by decide +kernel) (by decide +kernel) ?_
            exact W.vret hx hb hr (fun t9_ ht hW => ⟨⟨(a2164, a5, sg164, wd164), rfl, by (try dsimp only); exact ⟨⟨by omega, by omega, Or.inr (by omega), fun h9 => by rcases f164_2 with h | h <;> (rw [h] at h9; exact absurd h9 (by decide))⟩, by omega⟩, by rw [ht]; exact hP, hD⟩, hS.F ht⟩) hS.2.2 dX12_next_167
      · have t_123 : ¬ ((bA tp (vF 9) a5)).toInt ≥ 0 := toI_nge c_123 rfl (by decide)
        refine lv_aload_n hx hb dX12_next_126 rfl (lv_at hl 1 rfl) ?_
        refine lv_iconst (v := 0) hx hb dX12_next_127 (by decide) ?_
        refine va_put (D := (dC, dI)) (ci := 12) (v := .int 0) (ty := .int) (C := RX12) (T := TX12) (N := 163) (fs := fM (vS a (fT (fT (fT vi 17 (nI a5)) 19 (nI a5)) 20 (bA tp (vF 9) a5)) vj)) hx hb hts iwsRX12_next_in12 tyX12 tyX12_ok nmX12 hown hK hP hD hS 0 rfl rfl 18 (by decide) (hts (.fieldLink RX12 494 "OptimaWorksModel" "word" "I") (by decide +kernel)) (fun _ h9 => h9) rfl (by decide +kernel) rfl rfl (Nat.le_of_ble_eq_true rfl) dX12_next_128 (fun H locs hP hD hS => ?_)
        have hP : va_P (dC, dI) vwCl (WR a k h0 (fT (fT (fT (fT vi 17 (nI a5)) 19 (nI a5)) 20 (bA tp (vF 9) a5)) 18 0) vj vF vG) H := by rw [← WR_i 18 _ rfl]; exact hP
        have hD : va_D A (WR a k h0 (fT (fT (fT (fT vi 17 (nI a5)) 19 (nI a5)) 20 (bA tp (vF 9) a5)) 18 0) vj vF vG) := by rw [← WR_i 18 _ rfl]; exact hD
        refine lv_goto (tgt := 167) hx hb dX12_next_131 (by decide) ?_
        refine W.widen (k := 0) (n := 0) (by decide +kernel) (by decide +kernel) ?_
        exact W.vret hx hb hr (fun t9_ ht hW => ⟨⟨(a5, a5, (bA tp (vF 9) a5), 0), rfl, by (try dsimp only); exact ⟨⟨Nat.le_refl _, by omega, Or.inl rfl, fun h9 => absurd h9 (by decide)⟩, by omega⟩, by rw [ht]; exact hP, hD⟩, hS.F ht⟩) hS.2.2 dX12_next_167
    · have t_3 : ¬ (mo).toInt = 0 := toI_neq c_3 rfl (by decide)
      refine lv_aload_n hx hb dX12_next_6 rfl (lv_at hl 0 rfl) ?_
      refine lv_aload_n hx hb dX12_next_7 rfl (lv_at hl 0 rfl) ?_
      refine va_get (D := (dC, dI)) (ci := 12) (v := .int (nI a5)) (C := RX12) (T := TX12) (N := 163) (fs := fM (vS a (fT vi 17 (nI a5)) vj)) hx hb hts iwsRX12_next_in12 hown hK hP 0 rfl rfl 17 (by decide) (hts (.fieldLink RX12 485 "OptimaWorksModel" "at0" "I") (by decide +kernel)) (fun _ h9 => h9) rfl dX12_next_8 ?_
      have hFc := allFree hD hS hA
      refine va_calli (va_runV (As := [.int (nI a5)]) (rest := []) ⟨hx, hb, hml, hown, hts⟩ (r_X12_byteAt l dC dI a k h0 (fT vi 17 (nI a5)) vj vF vG a5 tp hTp (by first | with_reducible assumption | decide | omega | rfl | assumption) (by first | with_reducible assumption | decide | omega | rfl | assumption) H.size) (cwV 1 hts gwsRX12_next_0 rfl rfl rfl hd_yX12_byteAt_RX12 (by decide +kernel)) (fz_pre (va_recv hK hP (ci := 12) (q0 := 0) rfl rfl) hP hK hD) rfl rfl hl.1 rfl (lv_room (Nat.le_of_ble_eq_true rfl)) dX12_next_11 (by decide +kernel)) hS (fun q _ h => hFc q h) hFc (fun r11 u t9_ H locs ht hvm hw9 hB9 hz1 hk1 hS => ?_)
      have hP : va_P (dC, dI) vwCl (WR a k h0 (fT vi 17 (nI a5)) vj vF vG) H := fz_P ht hB9.1
      have hD : va_D A (WR a k h0 (fT vi 17 (nI a5)) vj vF vG) := hB9.2.weaken (fun _ q _ h => hFc q.1 h)
      obtain rfl := hw9
      refine lv_istore_n hx hb dX12_next_14 rfl hl (by decide) rfl (fun ls (hl : lv_has ls _ ([(2, .int (bA tp (vF 9) a5)), (0, .ref h0), (1, .int mo)])) => ?_)
      have bi := bA_in tp (vF 9) a5
      refine lv_iload_n hx hb dX12_next_15 rfl (lv_at hl 0 rfl) ?_
      refine lv_bipush (v := 35) hx hb dX12_next_16 (by decide) ?_
      refine lv_icmp_ne (tgt := 58) hx hb dX12_next_18 (by decide) (fun c_18 => ?_) (fun c_18 => ?_)
      · have t_18 : ((bA tp (vF 9) a5)).toInt ≠ 35 := toI_ne c_18 rfl (by decide)
        refine lv_iload_n hx hb dX12_next_58 rfl (lv_at hl 0 rfl) ?_
        refine lv_bipush (v := 9) hx hb dX12_next_59 (by decide) ?_
        refine lv_icmp_eq (tgt := 82) hx hb dX12_next_61 (by decide) (fun c_61 => ?_) (fun c_61 => ?_)
        · have t_61 : ((bA tp (vF 9) a5)).toInt = 9 := toI_eq c_61 rfl (by decide)
          refine lv_aload_n hx hb dX12_next_82 rfl (lv_at hl 1 rfl) ?_
          refine lv_dup hx hb dX12_next_83 rfl ?_
          refine va_get (D := (dC, dI)) (ci := 12) (v := .int (nI a5)) (C := RX12) (T := TX12) (N := 163) (fs := fM (vS a (fT vi 17 (nI a5)) vj)) hx hb hts iwsRX12_next_in12 hown hK hP 0 rfl rfl 17 (by decide) (hts (.fieldLink RX12 485 "OptimaWorksModel" "at0" "I") (by decide +kernel)) (fun _ h9 => h9) rfl dX12_next_84 ?_
          refine lv_iconst (v := 1) hx hb dX12_next_87 (by decide) ?_
          refine lv_iadd hx hb dX12_next_88 ?_
          refine lv_topi (fun y1 hy1 => ?_)
          obtain rfl : (nI (a5 + 1)) = y1 := (hy1.trans (nI_add a5 1)).symm
          refine va_put (D := (dC, dI)) (ci := 12) (v := .int (nI (a5 + 1))) (ty := .int) (C := RX12) (T := TX12) (N := 163) (fs := fM (vS a (fT vi 17 (nI a5)) vj)) hx hb hts iwsRX12_next_in12 tyX12 tyX12_ok nmX12 hown hK hP hD hS 0 rfl rfl 17 (by decide) (hts (.fieldLink RX12 485 "OptimaWorksModel" "at0" "I") (by decide +kernel)) (fun _ h9 => h9) rfl (by decide +kernel) rfl rfl (Nat.le_of_ble_eq_true rfl) dX12_next_89 (fun H locs hP hD hS => ?_)
          have e9 : fT vi 17 (nI (a5 + 1)) = fT (fT vi 17 (nI a5)) 17 (nI (a5 + 1)) := (fT_sm _ _ _ _).symm
          have hP : va_P (dC, dI) vwCl (WR a k h0 (fT vi 17 (nI (a5 + 1))) vj vF vG) H := by rw [e9, ← WR_i 17 _ rfl]; exact hP
          have hD : va_D A (WR a k h0 (fT vi 17 (nI (a5 + 1))) vj vF vG) := by rw [e9, ← WR_i 17 _ rfl]; exact hD
          clear e9
          refine lv_goto (tgt := 97) hx hb dX12_next_92 (by decide) ?_
          refine lv_goto (tgt := 2) hx hb dX12_next_97 (by decide) ?_
          have hl : lv_has _ _ ([(0, .ref h0), (1, .int mo)]) := lv_sub hl [1, 2] rfl
          exact ih2 mo (a5 + 1) _ _ _ (by omega) (by (have h8 := hfx.resolve_left (fun h => c_3 h.1)); exact Or.inr (by omega)) hP hD hS hl
        · have t_61 : ¬ ((bA tp (vF 9) a5)).toInt = 9 := toI_neq c_61 rfl (by decide)
          refine lv_iload_n hx hb dX12_next_64 rfl (lv_at hl 0 rfl) ?_
          refine lv_bipush (v := 10) hx hb dX12_next_65 (by decide) ?_
          refine lv_icmp_eq (tgt := 82) hx hb dX12_next_67 (by decide) (fun c_67 => ?_) (fun c_67 => ?_)
          · have t_67 : ((bA tp (vF 9) a5)).toInt = 10 := toI_eq c_67 rfl (by decide)
            refine lv_aload_n hx hb dX12_next_82 rfl (lv_at hl 1 rfl) ?_
            refine lv_dup hx hb dX12_next_83 rfl ?_
            refine va_get (D := (dC, dI)) (ci := 12) (v := .int (nI a5)) (C := RX12) (T := TX12) (N := 163) (fs := fM (vS a (fT vi 17 (nI a5)) vj)) hx hb hts iwsRX12_next_in12 hown hK hP 0 rfl rfl 17 (by decide) (hts (.fieldLink RX12 485 "OptimaWorksModel" "at0" "I") (by decide +kernel)) (fun _ h9 => h9) rfl dX12_next_84 ?_
            refine lv_iconst (v := 1) hx hb dX12_next_87 (by decide) ?_
            refine lv_iadd hx hb dX12_next_88 ?_
            refine lv_topi (fun y2 hy2 => ?_)
            obtain rfl : (nI (a5 + 1)) = y2 := (hy2.trans (nI_add a5 1)).symm
            refine va_put (D := (dC, dI)) (ci := 12) (v := .int (nI (a5 + 1))) (ty := .int) (C := RX12) (T := TX12) (N := 163) (fs := fM (vS a (fT vi 17 (nI a5)) vj)) hx hb hts iwsRX12_next_in12 tyX12 tyX12_ok nmX12 hown hK hP hD hS 0 rfl rfl 17 (by decide) (hts (.fieldLink RX12 485 "OptimaWorksModel" "at0" "I") (by decide +kernel)) (fun _ h9 => h9) rfl (by decide +kernel) rfl rfl (Nat.le_of_ble_eq_true rfl) dX12_next_89 (fun H locs hP hD hS => ?_)
            have e9 : fT vi 17 (nI (a5 + 1)) = fT (fT vi 17 (nI a5)) 17 (nI (a5 + 1)) := (fT_sm _ _ _ _).symm
            have hP : va_P (dC, dI) vwCl (WR a k h0 (fT vi 17 (nI (a5 + 1))) vj vF vG) H := by rw [e9, ← WR_i 17 _ rfl]; exact hP
            have hD : va_D A (WR a k h0 (fT vi 17 (nI (a5 + 1))) vj vF vG) := by rw [e9, ← WR_i 17 _ rfl]; exact hD
            clear e9
            refine lv_goto (tgt := 97) hx hb dX12_next_92 (by decide) ?_
            refine lv_goto (tgt := 2) hx hb dX12_next_97 (by decide) ?_
            have hl : lv_has _ _ ([(0, .ref h0), (1, .int mo)]) := lv_sub hl [1, 2] rfl
            exact ih2 mo (a5 + 1) _ _ _ (by omega) (by (have h8 := hfx.resolve_left (fun h => c_3 h.1)); exact Or.inr (by omega)) hP hD hS hl
          · have t_67 : ¬ ((bA tp (vF 9) a5)).toInt = 10 := toI_neq c_67 rfl (by decide)
            refine lv_iload_n hx hb dX12_next_70 rfl (lv_at hl 0 rfl) ?_
            refine lv_bipush (v := 13) hx hb dX12_next_71 (by decide) ?_
            refine lv_icmp_eq (tgt := 82) hx hb dX12_next_73 (by decide) (fun c_73 => ?_) (fun c_73 => ?_)
            · have t_73 : ((bA tp (vF 9) a5)).toInt = 13 := toI_eq c_73 rfl (by decide)
              refine lv_aload_n hx hb dX12_next_82 rfl (lv_at hl 1 rfl) ?_
              refine lv_dup hx hb dX12_next_83 rfl ?_
              refine va_get (D := (dC, dI)) (ci := 12) (v := .int (nI a5)) (C := RX12) (T := TX12) (N := 163) (fs := fM (vS a (fT vi 17 (nI a5)) vj)) hx hb hts iwsRX12_next_in12 hown hK hP 0 rfl rfl 17 (by decide) (hts (.fieldLink RX12 485 "OptimaWorksModel" "at0" "I") (by decide +kernel)) (fun _ h9 => h9) rfl dX12_next_84 ?_
              refine lv_iconst (v := 1) hx hb dX12_next_87 (by decide) ?_
              refine lv_iadd hx hb dX12_next_88 ?_
              refine lv_topi (fun y3 hy3 => ?_)
              obtain rfl : (nI (a5 + 1)) = y3 := (hy3.trans (nI_add a5 1)).symm
              refine va_put (D := (dC, dI)) (ci := 12) (v := .int (nI (a5 + 1))) (ty := .int) (C := RX12) (T := TX12) (N := 163) (fs := fM (vS a (fT vi 17 (nI a5)) vj)) hx hb hts iwsRX12_next_in12 tyX12 tyX12_ok nmX12 hown hK hP hD hS 0 rfl rfl 17 (by decide) (hts (.fieldLink RX12 485 "OptimaWorksModel" "at0" "I") (by decide +kernel)) (fun _ h9 => h9) rfl (by decide +kernel) rfl rfl (Nat.le_of_ble_eq_true rfl) dX12_next_89 (fun H locs hP hD hS => ?_)
              have e9 : fT vi 17 (nI (a5 + 1)) = fT (fT vi 17 (nI a5)) 17 (nI (a5 + 1)) := (fT_sm _ _ _ _).symm
              have hP : va_P (dC, dI) vwCl (WR a k h0 (fT vi 17 (nI (a5 + 1))) vj vF vG) H := by rw [e9, ← WR_i 17 _ rfl]; exact hP
              have hD : va_D A (WR a k h0 (fT vi 17 (nI (a5 + 1))) vj vF vG) := by rw [e9, ← WR_i 17 _ rfl]; exact hD
              clear e9
              refine lv_goto (tgt := 97) hx hb dX12_next_92 (by decide) ?_
              refine lv_goto (tgt := 2) hx hb dX12_next_97 (by decide) ?_
              have hl : lv_has _ _ ([(0, .ref h0), (1, .int mo)]) := lv_sub hl [1, 2] rfl
              exact ih2 mo (a5 + 1) _ _ _ (by omega) (by (have h8 := hfx.resolve_left (fun h => c_3 h.1)); exact Or.inr (by omega)) hP hD hS hl
            · have t_73 : ¬ ((bA tp (vF 9) a5)).toInt = 13 := toI_neq c_73 rfl (by decide)
              refine lv_iload_n hx hb dX12_next_76 rfl (lv_at hl 0 rfl) ?_
              refine lv_bipush (v := 32) hx hb dX12_next_77 (by decide) ?_
              refine lv_icmp_ne (tgt := 95) hx hb dX12_next_79 (by decide) (fun c_79 => ?_) (fun c_79 => ?_)
              · have t_79 : ((bA tp (vF 9) a5)).toInt ≠ 32 := toI_ne c_79 rfl (by decide)
                refine lv_iconst (v := 0) hx hb dX12_next_95 (by decide) ?_
                refine lv_istore_n hx hb dX12_next_96 rfl hl (by decide) rfl (fun ls (hl : lv_has ls _ ([(1, .int 0), (2, .int (bA tp (vF 9) a5)), (0, .ref h0)])) => ?_)
                refine lv_goto (tgt := 2) hx hb dX12_next_97 (by decide) ?_
                have hl : lv_has _ _ ([(0, .ref h0), (1, .int 0)]) := lv_sub hl [2, 0] rfl
                exact ih2 0 a5 _ _ _ (by omega) (by (have h8 := hfx.resolve_left (fun h => c_3 h.1)); exact Or.inl ⟨rfl, by omega⟩) hP hD hS hl
              · have t_79 : ((bA tp (vF 9) a5)).toInt = 32 := toI_nne c_79 rfl (by decide)
                refine lv_aload_n hx hb dX12_next_82 rfl (lv_at hl 1 rfl) ?_
                refine lv_dup hx hb dX12_next_83 rfl ?_
                refine va_get (D := (dC, dI)) (ci := 12) (v := .int (nI a5)) (C := RX12) (T := TX12) (N := 163) (fs := fM (vS a (fT vi 17 (nI a5)) vj)) hx hb hts iwsRX12_next_in12 hown hK hP 0 rfl rfl 17 (by decide) (hts (.fieldLink RX12 485 "OptimaWorksModel" "at0" "I") (by decide +kernel)) (fun _ h9 => h9) rfl dX12_next_84 ?_
                refine lv_iconst (v := 1) hx hb dX12_next_87 (by decide) ?_
                refine lv_iadd hx hb dX12_next_88 ?_
                refine lv_topi (fun y4 hy4 => ?_)
                obtain rfl : (nI (a5 + 1)) = y4 := (hy4.trans (nI_add a5 1)).symm
                refine va_put (D := (dC, dI)) (ci := 12) (v := .int (nI (a5 + 1))) (ty := .int) (C := RX12) (T := TX12) (N := 163) (fs := fM (vS a (fT vi 17 (nI a5)) vj)) hx hb hts iwsRX12_next_in12 tyX12 tyX12_ok nmX12 hown hK hP hD hS 0 rfl rfl 17 (by decide) (hts (.fieldLink RX12 485 "OptimaWorksModel" "at0" "I") (by decide +kernel)) (fun _ h9 => h9) rfl (by decide +kernel) rfl rfl (Nat.le_of_ble_eq_true rfl) dX12_next_89 (fun H locs hP hD hS => ?_)
                have e9 : fT vi 17 (nI (a5 + 1)) = fT (fT vi 17 (nI a5)) 17 (nI (a5 + 1)) := (fT_sm _ _ _ _).symm
                have hP : va_P (dC, dI) vwCl (WR a k h0 (fT vi 17 (nI (a5 + 1))) vj vF vG) H := by rw [e9, ← WR_i 17 _ rfl]; exact hP
                have hD : va_D A (WR a k h0 (fT vi 17 (nI (a5 + 1))) vj vF vG) := by rw [e9, ← WR_i 17 _ rfl]; exact hD
                clear e9
                refine lv_goto (tgt := 97) hx hb dX12_next_92 (by decide) ?_
                refine lv_goto (tgt := 2) hx hb dX12_next_97 (by decide) ?_
                have hl : lv_has _ _ ([(0, .ref h0), (1, .int mo)]) := lv_sub hl [1, 2] rfl
                exact ih2 mo (a5 + 1) _ _ _ (by omega) (by (have h8 := hfx.resolve_left (fun h => c_3 h.1)); exact Or.inr (by omega)) hP hD hS hl
      · have t_18 : ((bA tp (vF 9) a5)).toInt = 35 := toI_nne c_18 rfl (by decide)
        have hl : lv_has _ _ ([(0, .ref h0), (1, .int mo)]) := lv_sub hl [1, 2] rfl
        refine (fun (loop : ∀ (n9 : Nat) (a6 : Nat) (H : Heap) (locs : List Loc) (ls : Array Slot), (a5 ≤ a6 ∧ a6 ≤ tp) →  (tp < a6 + n9) → va_P (dC, dI) vwCl (WR a k h0 (fT vi 17 (nI a6)) vj vF vG) H → va_D A (WR a k h0 (fT vi 17 (nI a6)) vj vF vG) → va_S A s.heap H locs → lv_has ls 3 [(0, .ref h0), (1, .int mo)] → W p l e _ s m _ below meth c H locs 0 0 _ (F0 m 21 ls [])) => loop (tp + 1) a5 _ _ _ (by omega) (by omega) hP hD hS hl) ?_
        intro n9
        induction n9 with
        | zero => intro a6 H locs ls ha6 hf9; exact False.elim (by omega)
        | succ n9 ih21_1 =>
          intro a6 H locs ls ha6 hf21_1 hP hD hS hl
          refine lv_aload_n hx hb dX12_next_21 rfl (lv_at hl 0 rfl) ?_
          refine lv_aload_n hx hb dX12_next_22 rfl (lv_at hl 0 rfl) ?_
          refine va_get (D := (dC, dI)) (ci := 12) (v := .int (nI a6)) (C := RX12) (T := TX12) (N := 163) (fs := fM (vS a (fT vi 17 (nI a6)) vj)) hx hb hts iwsRX12_next_in12 hown hK hP 0 rfl rfl 17 (by decide) (hts (.fieldLink RX12 485 "OptimaWorksModel" "at0" "I") (by decide +kernel)) (fun _ h9 => h9) rfl dX12_next_23 ?_
          have hFc := allFree hD hS hA
          refine va_calli (va_runV (As := [.int (nI a6)]) (rest := []) ⟨hx, hb, hml, hown, hts⟩ (r_X12_byteAt l dC dI a k h0 (fT vi 17 (nI a6)) vj vF vG a6 tp hTp (by first | with_reducible assumption | decide | omega | rfl | assumption) (by first | with_reducible assumption | decide | omega | rfl | assumption) H.size) (cwV 1 hts gwsRX12_next_0 rfl rfl rfl hd_yX12_byteAt_RX12 (by decide +kernel)) (fz_pre (va_recv hK hP (ci := 12) (q0 := 0) rfl rfl) hP hK hD) rfl rfl hl.1 rfl (lv_room (Nat.le_of_ble_eq_true rfl)) dX12_next_26 (by decide +kernel)) hS (fun q _ h => hFc q h) hFc (fun r26 u t9_ H locs ht hvm hw9 hB9 hz1 hk1 hS => ?_)
          have hP : va_P (dC, dI) vwCl (WR a k h0 (fT vi 17 (nI a6)) vj vF vG) H := fz_P ht hB9.1
          have hD : va_D A (WR a k h0 (fT vi 17 (nI a6)) vj vF vG) := hB9.2.weaken (fun _ q _ h => hFc q.1 h)
          obtain rfl := hw9
          refine lv_if_lt (tgt := 97) hx hb dX12_next_29 (by decide) (fun c_29 => ?_) (fun c_29 => ?_)
          · have t_29 : ((bA tp (vF 9) a6)).toInt < 0 := toI_lt c_29 rfl (by decide)
            refine lv_goto (tgt := 2) hx hb dX12_next_97 (by decide) ?_
            have hl : lv_has _ _ ([(0, .ref h0), (1, .int mo)]) := lv_sub hl [0, 1] rfl
            exact ih2 mo a6 _ _ _ (by omega) (by (have h9 : a5 < a6 := by rcases Nat.lt_or_ge a5 a6 with h | h; (exact h); (exfalso; (have e9 : a6 = a5 := by omega); subst e9; omega)); (have h8 := hfx.resolve_left (fun h => c_3 h.1)); exact Or.inr (by omega)) hP hD hS hl
          · have t_29 : ¬ ((bA tp (vF 9) a6)).toInt < 0 := toI_nlt c_29 rfl (by decide)
            refine lv_aload_n hx hb dX12_next_32 rfl (lv_at hl 0 rfl) ?_
            refine lv_aload_n hx hb dX12_next_33 rfl (lv_at hl 0 rfl) ?_
            refine va_get (D := (dC, dI)) (ci := 12) (v := .int (nI a6)) (C := RX12) (T := TX12) (N := 163) (fs := fM (vS a (fT vi 17 (nI a6)) vj)) hx hb hts iwsRX12_next_in12 hown hK hP 0 rfl rfl 17 (by decide) (hts (.fieldLink RX12 485 "OptimaWorksModel" "at0" "I") (by decide +kernel)) (fun _ h9 => h9) rfl dX12_next_34 ?_
            have hFc := allFree hD hS hA
            refine va_calli (va_runV (As := [.int (nI a6)]) (rest := []) ⟨hx, hb, hml, hown, hts⟩ (r_X12_byteAt l dC dI a k h0 (fT vi 17 (nI a6)) vj vF vG a6 tp hTp (by first | with_reducible assumption | decide | omega | rfl | assumption) (by first | with_reducible assumption | decide | omega | rfl | assumption) H.size) (cwV 1 hts gwsRX12_next_0 rfl rfl rfl hd_yX12_byteAt_RX12 (by decide +kernel)) (fz_pre (va_recv hK hP (ci := 12) (q0 := 0) rfl rfl) hP hK hD) rfl rfl hl.1 rfl (lv_room (Nat.le_of_ble_eq_true rfl)) dX12_next_37 (by decide +kernel)) hS (fun q _ h => hFc q h) hFc (fun r37 u t9_ H locs ht hvm hw9 hB9 hz1 hk1 hS => ?_)
            have hP : va_P (dC, dI) vwCl (WR a k h0 (fT vi 17 (nI a6)) vj vF vG) H := fz_P ht hB9.1
            have hD : va_D A (WR a k h0 (fT vi 17 (nI a6)) vj vF vG) := hB9.2.weaken (fun _ q _ h => hFc q.1 h)
            obtain rfl := hw9
            refine lv_bipush (v := 10) hx hb dX12_next_40 (by decide) ?_
            refine lv_icmp_eq (tgt := 97) hx hb dX12_next_42 (by decide) (fun c_42 => ?_) (fun c_42 => ?_)
            · have t_42 : ((bA tp (vF 9) a6)).toInt = 10 := toI_eq c_42 rfl (by decide)
              refine lv_goto (tgt := 2) hx hb dX12_next_97 (by decide) ?_
              have hl : lv_has _ _ ([(0, .ref h0), (1, .int mo)]) := lv_sub hl [0, 1] rfl
              exact ih2 mo a6 _ _ _ (by omega) (by (have h9 : a5 < a6 := by rcases Nat.lt_or_ge a5 a6 with h | h; (exact h); (exfalso; (have e9 : a6 = a5 := by omega); subst e9; omega)); (have h8 := hfx.resolve_left (fun h => c_3 h.1)); exact Or.inr (by omega)) hP hD hS hl
            · have t_42 : ¬ ((bA tp (vF 9) a6)).toInt = 10 := toI_neq c_42 rfl (by decide)
              have bi6 := bA_in tp (vF 9) a6
              refine lv_aload_n hx hb dX12_next_45 rfl (lv_at hl 0 rfl) ?_
              refine lv_dup hx hb dX12_next_46 rfl ?_
              refine va_get (D := (dC, dI)) (ci := 12) (v := .int (nI a6)) (C := RX12) (T := TX12) (N := 163) (fs := fM (vS a (fT vi 17 (nI a6)) vj)) hx hb hts iwsRX12_next_in12 hown hK hP 0 rfl rfl 17 (by decide) (hts (.fieldLink RX12 485 "OptimaWorksModel" "at0" "I") (by decide +kernel)) (fun _ h9 => h9) rfl dX12_next_47 ?_
              refine lv_iconst (v := 1) hx hb dX12_next_50 (by decide) ?_
              refine lv_iadd hx hb dX12_next_51 ?_
              refine lv_topi (fun y5 hy5 => ?_)
              obtain rfl : (nI (a6 + 1)) = y5 := (hy5.trans (nI_add a6 1)).symm
              refine va_put (D := (dC, dI)) (ci := 12) (v := .int (nI (a6 + 1))) (ty := .int) (C := RX12) (T := TX12) (N := 163) (fs := fM (vS a (fT vi 17 (nI a6)) vj)) hx hb hts iwsRX12_next_in12 tyX12 tyX12_ok nmX12 hown hK hP hD hS 0 rfl rfl 17 (by decide) (hts (.fieldLink RX12 485 "OptimaWorksModel" "at0" "I") (by decide +kernel)) (fun _ h9 => h9) rfl (by decide +kernel) rfl rfl (Nat.le_of_ble_eq_true rfl) dX12_next_52 (fun H locs hP hD hS => ?_)
              have e9 : fT vi 17 (nI (a6 + 1)) = fT (fT vi 17 (nI a6)) 17 (nI (a6 + 1)) := (fT_sm _ _ _ _).symm
              have hP : va_P (dC, dI) vwCl (WR a k h0 (fT vi 17 (nI (a6 + 1))) vj vF vG) H := by rw [e9, ← WR_i 17 _ rfl]; exact hP
              have hD : va_D A (WR a k h0 (fT vi 17 (nI (a6 + 1))) vj vF vG) := by rw [e9, ← WR_i 17 _ rfl]; exact hD
              clear e9
              refine lv_goto (tgt := 21) hx hb dX12_next_55 (by decide) ?_
              have hl : lv_has _ _ ([(0, .ref h0), (1, .int mo)]) := lv_sub hl [0, 1] rfl
              exact ih21_1 (a6 + 1) _ _ _ (by omega) (by omega) hP hD hS hl
theorem dX12_needSign_0 : decode cX12_needSign 0 = .ok (.aload_n 0, 1) := dk_42 (by decide +kernel)
theorem dX12_needSign_1 : decode cX12_needSign 1 = .ok (.getfield 515, 3) := dk_180 (by decide +kernel)
theorem dX12_needSign_4 : decode cX12_needSign 4 = .ok (.ifCond .le 5, 3) := dk_158 (by decide +kernel)
theorem dX12_needSign_7 : decode cX12_needSign 7 = .ok (.iconst 0, 1) := dk_3 (by decide +kernel)
theorem dX12_needSign_8 : decode cX12_needSign 8 = .ok (.ireturn, 1) := dk_172 (by decide +kernel)
theorem dX12_needSign_9 : decode cX12_needSign 9 = .ok (.aload_n 0, 1) := dk_42 (by decide +kernel)
theorem dX12_needSign_10 : decode cX12_needSign 10 = .ok (.iload_n 1, 1) := dk_27 (by decide +kernel)
theorem dX12_needSign_11 : decode cX12_needSign 11 = .ok (.invokevirtual 521, 3) := dk_182 (by decide +kernel)
theorem dX12_needSign_14 : decode cX12_needSign 14 = .ok (.ifCond .eq 10, 3) := dk_153 (by decide +kernel)
theorem dX12_needSign_17 : decode cX12_needSign 17 = .ok (.aload_n 0, 1) := dk_42 (by decide +kernel)
theorem dX12_needSign_18 : decode cX12_needSign 18 = .ok (.invokevirtual 524, 3) := dk_182 (by decide +kernel)
theorem dX12_needSign_21 : decode cX12_needSign 21 = .ok (.goto 7, 3) := dk_167 (by decide +kernel)
theorem dX12_needSign_24 : decode cX12_needSign 24 = .ok (.aload_n 0, 1) := dk_42 (by decide +kernel)
theorem dX12_needSign_25 : decode cX12_needSign 25 = .ok (.invokevirtual 527, 3) := dk_182 (by decide +kernel)
theorem dX12_needSign_28 : decode cX12_needSign 28 = .ok (.aload_n 0, 1) := dk_42 (by decide +kernel)
theorem dX12_needSign_29 : decode cX12_needSign 29 = .ok (.getfield 515, 3) := dk_180 (by decide +kernel)
theorem dX12_needSign_32 : decode cX12_needSign 32 = .ok (.ifCond .ne 7, 3) := dk_154 (by decide +kernel)
theorem dX12_needSign_35 : decode cX12_needSign 35 = .ok (.iconst 1, 1) := dk_4 (by decide +kernel)
theorem dX12_needSign_36 : decode cX12_needSign 36 = .ok (.goto 4, 3) := dk_167 (by decide +kernel)
theorem dX12_needSign_39 : decode cX12_needSign 39 = .ok (.iconst 0, 1) := dk_3 (by decide +kernel)
theorem dX12_needSign_40 : decode cX12_needSign 40 = .ok (.ireturn, 1) := dk_172 (by decide +kernel)
def wsRX12_needSign : List Cond := .code yX12_needSign cX12_needSign 2 (some .boolean) :: ([.fieldLink RX12 515 "OptimaWorksModel" "stop" "I"] ++ wsX120 ++ (wsV RX12 521 RX12 yX12_isSign wsRX12_isSign) ++ (wsV RX12 524 RX12 yX12_next wsRX12_next) ++ (wsV RX12 527 RX12 yX12_wrong wsRX12_wrong))
theorem iwsRX12_needSign_in12 : ∀ w ∈ wsX120, w ∈ wsRX12_needSign := fun _ h => List.mem_cons_of_mem _ (List.mem_append_left _ (List.mem_append_left _ (List.mem_append_left _ (List.mem_append_right _ h))))
theorem gwsRX12_needSign_0 : GoodIn wsRX12_needSign (wsV RX12 521 RX12 yX12_isSign wsRX12_isSign) := goodIn_sub (fun _ h => List.mem_cons_of_mem _ (List.mem_append_left _ (List.mem_append_left _ (List.mem_append_right _ h)))) (gdV (by decide +kernel) gdwsRX12_isSign)
theorem gwsRX12_needSign_1 : GoodIn wsRX12_needSign (wsV RX12 524 RX12 yX12_next wsRX12_next) := goodIn_sub (fun _ h => List.mem_cons_of_mem _ (List.mem_append_left _ (List.mem_append_right _ h))) (gdV (by decide +kernel) gdwsRX12_next)
theorem gwsRX12_needSign_2 : GoodIn wsRX12_needSign (wsV RX12 527 RX12 yX12_wrong wsRX12_wrong) := goodIn_sub (fun _ h => List.mem_cons_of_mem _ (List.mem_append_right _ h)) (gdV (by decide +kernel) gdwsRX12_wrong)
theorem gdwsRX12_needSign : wsRX12_needSign.all goodWord = true := gdC rfl (gdA (gdA (gdA (gdA (by decide +kernel : ([.fieldLink RX12 515 "OptimaWorksModel" "stop" "I"] : List Cond).all goodWord = true) gdwsX120) (gdV (by decide +kernel) gdwsRX12_isSign)) (gdV (by decide +kernel) gdwsRX12_next)) (gdV (by decide +kernel) gdwsRX12_wrong))
set_option maxHeartbeats 4000000 in
set_option maxRecDepth 100000 in
/-- X12_needSign(c) -/
theorem r_X12_needSign (l : Launch) (dC : Nat → ClassId) (dI : Nat → Nat → Nat) (a : Nat → Nat) (k : Nat → ClassId) (h0 : Nat) (vi : Nat → Int32) (vj : Nat → Int64) (vF : Nat → Nat → Int32) (vG : Nat → Nat → Int64) (cv : Int32) (tp : Nat) (an : Nat) (fn : Nat) (hTp : vi 16 = nI tp) (htp : tp ≤ 4000) (ha0 : vi 17 = nI an) (hfr : vi 19 = nI fn) (hLx : LxO tp fn an (vi 18) (vi 20)) (hst0 : 0 ≤ (vi 21).toInt) (sz : Nat) : Met l yX12_needSign wsRX12_needSign ({ frames := 8, cells := 0, slots := 0, locals := 173 }) (va_Pc [.ref h0, .int cv] (fun U => U.heap.size = sz ∧ va_P (dC, dI) vwCl (WR a k h0 vi vj vF vG) U.heap ∧ va_K (dC, dI) vwCl (tX12 k) U ∧ va_D (fun _ => True) (WR a k h0 vi vj vF vG) ∧ StrA (va_A (WR a k h0 vi vj vF vG) sz) U U.heap)) (va_Qi (fun (r : Int32) (u : (Nat) × (Nat) × (Int32) × (Int32) × (Int32) × (Int32)) => (r = 1 ∧ ((u.2.2.2.2.1) = 0) ∧ (LxO tp (u.2.1) (u.1) (u.2.2.2.1) (u.2.2.1)) ∧ (an ≤ (u.2.1) ∧ fn < (u.2.1)) ∧ (vi 21 = 0)) ∨ (r = 0 ∧ (0 < ((u.2.2.2.2.1)).toInt) ∧ (LxO tp (u.2.1) (u.1) (u.2.2.2.1) (u.2.2.1)) ∧ (fn ≤ (u.2.1)))) (fun (u : (Nat) × (Nat) × (Int32) × (Int32) × (Int32) × (Int32)) t => va_P (dC, dI) vwCl (WR a k h0 (fT (fT (fT (fT (fT (fT vi 17 (nI (u.1))) 19 (nI (u.2.1))) 20 (u.2.2.1)) 18 (u.2.2.2.1)) 21 (u.2.2.2.2.1)) 22 (u.2.2.2.2.2)) vj vF vG) t.heap ∧ va_D (va_A (WR a k h0 vi vj vF vG) sz) (WR a k h0 (fT (fT (fT (fT (fT (fT vi 17 (nI (u.1))) 19 (nI (u.2.1))) 20 (u.2.2.1)) 18 (u.2.2.2.1)) 21 (u.2.2.2.2.1)) 22 (u.2.2.2.2.2)) vj vF vG)) (va_A (WR a k h0 vi vj vF vG) sz)) 0 0 (va_A (WR a k h0 vi vj vF vG) sz) := by
  refine Met.ofW (cc := cX12_needSign) (maxL := 2) (ret := (some .boolean)) (by decide) rfl ?_
  intro p e s m args below meth c s₁ B hml hv
  obtain ⟨rfl, hsz, hP, hK, hD0, hE⟩ := hv
  have hx := B.exec
  have hb := B.bytes
  have hr := B.returns
  have hts := atoms_spec (ws := wsRX12_needSign) B.pre
  have hown : s.vm.findClass RX12 = some m.cls := findClass_of_methodNamed B.named
  have hlocks := B.notSynchronized
  subst hsz
  have hD := hD0.self (sz := s.heap.size)
  generalize hAe : va_A (WR a k h0 vi vj vF vG) s.heap.size = A at hD hE ⊢
  have hA : ∀ q : Nat, s.heap.size ≤ q → A q := fun q h => by rw [← hAe]; exact Or.inr h
  have hS : va_S A s.heap s.heap [] := va_S.rf
  have hl := lv_entry ([.ref h0, .int cv]) (n := 2) (Nat.le_of_ble_eq_true rfl)
  rw [lg_entry_eq]
  generalize (lg_sl ([.ref h0, .int cv]) ++ List.replicate (2 - (lg_sl ([.ref h0, .int cv])).length) Slot.unset).toArray = ls at hl ⊢
  have hl : lv_has ls 2 [(0, .ref h0), (1, .int cv)] := hl
  have han := hLx.2.1
  refine lv_aload_n hx hb dX12_needSign_0 rfl (lv_at hl 0 rfl) ?_
  refine va_get (D := (dC, dI)) (ci := 12) (v := .int (vi 21)) (C := RX12) (T := TX12) (N := 163) (fs := fM (vS a vi vj)) hx hb hts iwsRX12_needSign_in12 hown hK hP 0 rfl rfl 21 (by decide) (hts (.fieldLink RX12 515 "OptimaWorksModel" "stop" "I") (by decide +kernel)) (fun _ h9 => h9) rfl dX12_needSign_1 ?_
  refine lv_if_le (tgt := 9) hx hb dX12_needSign_4 (by decide) (fun c_4 => ?_) (fun c_4 => ?_)
  · have t_4 : ((vi 21)).toInt ≤ 0 := toI_le c_4 rfl (by decide)
    refine lv_aload_n hx hb dX12_needSign_9 rfl (lv_at hl 0 rfl) ?_
    refine lv_iload_n hx hb dX12_needSign_10 rfl (lv_at hl 1 rfl) ?_
    have hFc := allFree hD hS hA
    refine va_calli (va_runV (As := [.int cv]) (rest := []) ⟨hx, hb, hml, hown, hts⟩ (r_X12_isSign l dC dI a k h0 vi vj vF vG cv s.heap.size) (cwV 1 hts gwsRX12_needSign_0 rfl rfl rfl hd_yX12_isSign_RX12 (by decide +kernel)) (fz_pre (va_recv hK hP (ci := 12) (q0 := 0) rfl rfl) hP hK hD) rfl rfl hl.1 rfl (lv_room (Nat.le_of_ble_eq_true rfl)) dX12_needSign_11 (by decide +kernel)) hS (fun q _ h => hFc q h) hFc (fun r11 u t9_ H locs ht hvm hw9 hB9 hz1 hk1 hS => ?_)
    have hP : va_P (dC, dI) vwCl (WR a k h0 vi vj vF vG) H := fz_P ht hB9.1
    have hD : va_D A (WR a k h0 vi vj vF vG) := hB9.2.weaken (fun _ q _ h => hFc q.1 h)
    rcases hw9 with ⟨rfl, f11_0, f11_1⟩ | ⟨rfl, f11_0⟩
    · have f11_0 : (vi 18).toInt = 4 := f11_0
      have f11_1 : (vi 20) = cv := f11_1
      refine lv_if_eq (tgt := 24) hx hb dX12_needSign_14 (by decide) (fun c9 => absurd c9 (by decide)) (fun _ => ?_)
      refine lv_aload_n hx hb dX12_needSign_17 rfl (lv_at hl 0 rfl) ?_
      have hFc := allFree hD hS hA
      refine va_callv (va_runV (As := []) (rest := []) ⟨hx, hb, hml, hown, hts⟩ (r_X12_next l dC dI a k h0 vi vj vF vG tp an hTp (by first | with_reducible assumption | decide | omega | rfl | assumption) ha0 (by first | with_reducible assumption | decide | omega | rfl | assumption) H.size) (cwV 0 hts gwsRX12_needSign_1 rfl rfl rfl hd_yX12_next_RX12 (by decide +kernel)) (fz_preE (va_recv hK hP (ci := 12) (q0 := 0) rfl rfl) hP hK hD (fun a U g mk qE => qE.same rfl) (fun U hU9 hW => by rw [hU9]; exact (((hE : StrA A s s.heap).kept hS.2.1).narrow (fun q h => hFc q h)).warm hW)) rfl rfl hl.1 rfl (lv_room (Nat.le_of_ble_eq_true rfl)) dX12_needSign_18 (by decide +kernel)) hS (fun q _ h => hFc q h) hFc (fun u t9_ H locs ht hvm hw9 hB9 hz1 hk1 hS => ?_)
      revert u hw9 hB9
      refine fz_p4 ?_
      intro a218 f218 sg18 wd18 hw9 hB9
      try dsimp only at hw9 hB9
      have hP : va_P (dC, dI) vwCl (WR a k h0 (fT (fT (fT (fT vi 17 (nI a218)) 19 (nI f218)) 20 sg18) 18 wd18) vj vF vG) H := fz_P ht hB9.1
      have hD : va_D A (WR a k h0 (fT (fT (fT (fT vi 17 (nI a218)) 19 (nI f218)) 20 sg18) 18 wd18) vj vF vG) := hB9.2.weaken (fun _ q _ h => hFc q.1 h)
      revert hw9
      refine fz_a2 ?_
      intro f18_0 f18_1
      refine lv_goto (tgt := 28) hx hb dX12_needSign_21 (by decide) ?_
      refine lv_aload_n hx hb dX12_needSign_28 rfl (lv_at hl 0 rfl) ?_
      refine va_get (D := (dC, dI)) (ci := 12) (v := .int (vi 21)) (C := RX12) (T := TX12) (N := 163) (fs := fM (vS a (fT (fT (fT (fT vi 17 (nI a218)) 19 (nI f218)) 20 sg18) 18 wd18) vj)) hx hb hts iwsRX12_needSign_in12 hown hK hP 0 rfl rfl 21 (by decide) (hts (.fieldLink RX12 515 "OptimaWorksModel" "stop" "I") (by decide +kernel)) (fun _ h9 => h9) rfl dX12_needSign_29 ?_
      refine lv_if_ne (tgt := 39) hx hb dX12_needSign_32 (by decide) (fun c9 => False.elim (by have t9 : ((vi 21)).toInt ≠ 0 := toI_ne c9 rfl (by decide); omega)) (fun c_32 => ?_)
      have t_32 : ((vi 21)).toInt = 0 := toI_nne c_32 rfl (by decide)
      refine lv_iconst (v := 1) hx hb dX12_needSign_35 (by decide) ?_
      refine lv_goto (tgt := 40) hx hb dX12_needSign_36 (by decide) ?_
      refine W.widen (k := 0) (n := 0) (by decide +kernel) (by decide +kernel) ?_
      have e9 : fT (fT (fT (fT (fT (fT vi 17 (nI a218)) 19 (nI f218)) 20 sg18) 18 wd18) 21 (vi 21)) 22 (vi 22) = fT (fT (fT (fT vi 17 (nI a218)) 19 (nI f218)) 20 sg18) 18 wd18 := (fT_id _ _ ((fT_ne _ _ (Nat.ne_of_beq_eq_false rfl)).trans ((fT_ne _ _ (Nat.ne_of_beq_eq_false rfl)).trans ((fT_ne _ _ (Nat.ne_of_beq_eq_false rfl)).trans ((fT_ne _ _ (Nat.ne_of_beq_eq_false rfl)).trans (fT_ne _ _ (Nat.ne_of_beq_eq_false rfl))))))).trans (fT_id _ _ ((fT_ne _ _ (Nat.ne_of_beq_eq_false rfl)).trans ((fT_ne _ _ (Nat.ne_of_beq_eq_false rfl)).trans ((fT_ne _ _ (Nat.ne_of_beq_eq_false rfl)).trans (fT_ne _ _ (Nat.ne_of_beq_eq_false rfl))))))
      have hP : va_P (dC, dI) vwCl (WR a k h0 (fT (fT (fT (fT (fT (fT vi 17 (nI a218)) 19 (nI f218)) 20 sg18) 18 wd18) 21 (vi 21)) 22 (vi 22)) vj vF vG) H := by rw [e9]; exact hP
      have hD : va_D A (WR a k h0 (fT (fT (fT (fT (fT (fT vi 17 (nI a218)) 19 (nI f218)) 20 sg18) 18 wd18) 21 (vi 21)) 22 (vi 22)) vj vF vG) := by rw [e9]; exact hD
      clear e9
      exact W.zret (v := 1) hx hb hr rfl (fun t9_ ht hW => ⟨⟨1, (a218, f218, sg18, wd18, (vi 21), (vi 22)), rfl, by (try dsimp only); exact Or.inl ⟨rfl, i32z (by omega), f18_0, by (have h9 := hLx.2.2.1.resolve_left (fun h => by rw [h] at f11_0; exact absurd f11_0 (by decide))); omega, i32z (by omega)⟩, by rw [ht]; exact hP, hD⟩, hS.F ht⟩) hS.2.2 dX12_needSign_40
    · have f11_0 : ¬ ((vi 18).toInt = 4 ∧ (vi 20) = cv) := f11_0
      refine lv_if_eq (tgt := 24) hx hb dX12_needSign_14 (by decide) (fun _ => ?_) (fun c9 => absurd (by decide) c9)
      refine lv_aload_n hx hb dX12_needSign_24 rfl (lv_at hl 0 rfl) ?_
      have hFc := allFree hD hS hA
      refine va_callv (va_runV (As := []) (rest := []) ⟨hx, hb, hml, hown, hts⟩ (r_X12_wrong l dC dI a k h0 vi vj vF vG H.size) (cwV 0 hts gwsRX12_needSign_2 rfl rfl rfl hd_yX12_wrong_RX12 (by decide +kernel)) (fz_pre (va_recv hK hP (ci := 12) (q0 := 0) rfl rfl) hP hK hD) rfl rfl hl.1 rfl (lv_room (Nat.le_of_ble_eq_true rfl)) dX12_needSign_25 (by decide +kernel)) hS (fun q _ h => hFc q h) hFc (fun u t9_ H locs ht hvm hw9 hB9 hz1 hk1 hS => ?_)
      revert u hw9 hB9
      refine fz_p2 ?_
      intro s225 p225 hw9 hB9
      try dsimp only at hw9 hB9
      have hP : va_P (dC, dI) vwCl (WR a k h0 (fT (fT vi 21 s225) 22 p225) vj vF vG) H := fz_P ht hB9.1
      have hD : va_D A (WR a k h0 (fT (fT vi 21 s225) 22 p225) vj vF vG) := hB9.2.weaken (fun _ q _ h => hFc q.1 h)
      revert hw9
      refine fz_a2 ?_
      intro f25_0 f25_1
      have f25_0 : (0 < (vi 21).toInt ∧ s225 = (vi 21) ∧ p225 = (vi 22)) ∨ (¬ 0 < (vi 21).toInt ∧ (s225 = 1 ∨ s225 = 2) ∧ p225 = (vi 19)) := f25_0
      have hs2 := f25_1
      refine lv_aload_n hx hb dX12_needSign_28 rfl (lv_at hl 0 rfl) ?_
      refine va_get (D := (dC, dI)) (ci := 12) (v := .int s225) (C := RX12) (T := TX12) (N := 163) (fs := fM (vS a (fT (fT vi 21 s225) 22 p225) vj)) hx hb hts iwsRX12_needSign_in12 hown hK hP 0 rfl rfl 21 (by decide) (hts (.fieldLink RX12 515 "OptimaWorksModel" "stop" "I") (by decide +kernel)) (fun _ h9 => h9) rfl dX12_needSign_29 ?_
      refine lv_if_ne (tgt := 39) hx hb dX12_needSign_32 (by decide) (fun c_32 => ?_) (fun c9 => False.elim (by have t9 : (s225).toInt = 0 := toI_nne c9 rfl (by decide); omega))
      have t_32 : (s225).toInt ≠ 0 := toI_ne c_32 rfl (by decide)
      refine lv_iconst (v := 0) hx hb dX12_needSign_39 (by decide) ?_
      refine W.widen (k := 0) (n := 0) (by decide +kernel) (by decide +kernel) ?_
      have e9 : fT (fT (fT (fT (fT (fT vi 17 (nI an)) 19 (nI fn)) 20 (vi 20)) 18 (vi 18)) 21 s225) 22 p225 = fT (fT vi 21 s225) 22 p225 := by funext q9; by_cases h9_17 : q9 = 17; (subst h9_17; exact ((fT_ne _ _ (Nat.ne_of_beq_eq_false rfl)).trans ((fT_ne _ _ (Nat.ne_of_beq_eq_false rfl)).trans ((fT_ne _ _ (Nat.ne_of_beq_eq_false rfl)).trans ((fT_ne _ _ (Nat.ne_of_beq_eq_false rfl)).trans ((fT_ne _ _ (Nat.ne_of_beq_eq_false rfl)).trans (fT_eq _ _ _)))))).trans (Eq.trans (by first | with_reducible rfl | with_reducible assumption | (symm; with_reducible assumption) | rfl | assumption | (symm; assumption) | (subst_vars; rfl)) ((fT_ne _ _ (Nat.ne_of_beq_eq_false rfl)).trans (fT_ne _ _ (Nat.ne_of_beq_eq_false rfl))).symm)); by_cases h9_19 : q9 = 19; (subst h9_19; exact ((fT_ne _ _ (Nat.ne_of_beq_eq_false rfl)).trans ((fT_ne _ _ (Nat.ne_of_beq_eq_false rfl)).trans ((fT_ne _ _ (Nat.ne_of_beq_eq_false rfl)).trans ((fT_ne _ _ (Nat.ne_of_beq_eq_false rfl)).trans (fT_eq _ _ _))))).trans (Eq.trans (by first | with_reducible rfl | with_reducible assumption | (symm; with_reducible assumption) | rfl | assumption | (symm; assumption) | (subst_vars; rfl)) ((fT_ne _ _ (Nat.ne_of_beq_eq_false rfl)).trans (fT_ne _ _ (Nat.ne_of_beq_eq_false rfl))).symm)); by_cases h9_20 : q9 = 20; (subst h9_20; exact ((fT_ne _ _ (Nat.ne_of_beq_eq_false rfl)).trans ((fT_ne _ _ (Nat.ne_of_beq_eq_false rfl)).trans ((fT_ne _ _ (Nat.ne_of_beq_eq_false rfl)).trans (fT_eq _ _ _)))).trans (Eq.trans (by first | with_reducible rfl | with_reducible assumption | (symm; with_reducible assumption) | rfl | assumption | (symm; assumption) | (subst_vars; rfl)) ((fT_ne _ _ (Nat.ne_of_beq_eq_false rfl)).trans (fT_ne _ _ (Nat.ne_of_beq_eq_false rfl))).symm)); by_cases h9_18 : q9 = 18; (subst h9_18; exact ((fT_ne _ _ (Nat.ne_of_beq_eq_false rfl)).trans ((fT_ne _ _ (Nat.ne_of_beq_eq_false rfl)).trans (fT_eq _ _ _))).trans (Eq.trans (by first | with_reducible rfl | with_reducible assumption | (symm; with_reducible assumption) | rfl | assumption | (symm; assumption) | (subst_vars; rfl)) ((fT_ne _ _ (Nat.ne_of_beq_eq_false rfl)).trans (fT_ne _ _ (Nat.ne_of_beq_eq_false rfl))).symm)); by_cases h9_21 : q9 = 21; (subst h9_21; exact ((fT_ne _ _ (Nat.ne_of_beq_eq_false rfl)).trans (fT_eq _ _ _)).trans (Eq.trans (by first | with_reducible rfl | with_reducible assumption | (symm; with_reducible assumption) | rfl | assumption | (symm; assumption) | (subst_vars; rfl)) ((fT_ne _ _ (Nat.ne_of_beq_eq_false rfl)).trans (fT_eq _ _ _)).symm)); by_cases h9_22 : q9 = 22; (subst h9_22; exact (fT_eq _ _ _).trans (Eq.trans (by first | with_reducible rfl | with_reducible assumption | (symm; with_reducible assumption) | rfl | assumption | (symm; assumption) | (subst_vars; rfl)) (fT_eq _ _ _).symm)); exact ((fT_ne _ _ h9_22).trans ((fT_ne _ _ h9_21).trans ((fT_ne _ _ h9_18).trans ((fT_ne _ _ h9_20).trans ((fT_ne _ _ h9_19).trans (fT_ne _ _ h9_17)))))).trans ((fT_ne _ _ h9_22).trans (fT_ne _ _ h9_21)).symm
      have hP : va_P (dC, dI) vwCl (WR a k h0 (fT (fT (fT (fT (fT (fT vi 17 (nI an)) 19 (nI fn)) 20 (vi 20)) 18 (vi 18)) 21 s225) 22 p225) vj vF vG) H := by rw [e9]; exact hP
      have hD : va_D A (WR a k h0 (fT (fT (fT (fT (fT (fT vi 17 (nI an)) 19 (nI fn)) 20 (vi 20)) 18 (vi 18)) 21 s225) 22 p225) vj vF vG) := by rw [e9]; exact hD
      clear e9
      exact W.zret (v := 0) hx hb hr rfl (fun t9_ ht hW => ⟨⟨0, (an, fn, (vi 20), (vi 18), s225, p225), rfl, by (try dsimp only); exact Or.inr ⟨rfl, hs2, hLx, Nat.le_refl _⟩, by rw [ht]; exact hP, hD⟩, hS.F ht⟩) hS.2.2 dX12_needSign_40
  · have t_4 : ¬ ((vi 21)).toInt ≤ 0 := toI_nle c_4 rfl (by decide)
    refine lv_iconst (v := 0) hx hb dX12_needSign_7 (by decide) ?_
    refine W.widen (k := 0) (n := 0) (by decide +kernel) (by decide +kernel) ?_
    have e9 : fT (fT (fT (fT (fT (fT vi 17 (nI an)) 19 (nI fn)) 20 (vi 20)) 18 (vi 18)) 21 (vi 21)) 22 (vi 22) = vi := by funext q9; by_cases h9_17 : q9 = 17; (subst h9_17; exact ((fT_ne _ _ (Nat.ne_of_beq_eq_false rfl)).trans ((fT_ne _ _ (Nat.ne_of_beq_eq_false rfl)).trans ((fT_ne _ _ (Nat.ne_of_beq_eq_false rfl)).trans ((fT_ne _ _ (Nat.ne_of_beq_eq_false rfl)).trans ((fT_ne _ _ (Nat.ne_of_beq_eq_false rfl)).trans (fT_eq _ _ _)))))).trans (Eq.trans (by first | with_reducible rfl | with_reducible assumption | (symm; with_reducible assumption) | rfl | assumption | (symm; assumption) | (subst_vars; rfl)) (Eq.refl _).symm)); by_cases h9_19 : q9 = 19; (subst h9_19; exact ((fT_ne _ _ (Nat.ne_of_beq_eq_false rfl)).trans ((fT_ne _ _ (Nat.ne_of_beq_eq_false rfl)).trans ((fT_ne _ _ (Nat.ne_of_beq_eq_false rfl)).trans ((fT_ne _ _ (Nat.ne_of_beq_eq_false rfl)).trans (fT_eq _ _ _))))).trans (Eq.trans (by first | with_reducible rfl | with_reducible assumption | (symm; with_reducible assumption) | rfl | assumption | (symm; assumption) | (subst_vars; rfl)) (Eq.refl _).symm)); by_cases h9_20 : q9 = 20; (subst h9_20; exact ((fT_ne _ _ (Nat.ne_of_beq_eq_false rfl)).trans ((fT_ne _ _ (Nat.ne_of_beq_eq_false rfl)).trans ((fT_ne _ _ (Nat.ne_of_beq_eq_false rfl)).trans (fT_eq _ _ _)))).trans (Eq.trans (by first | with_reducible rfl | with_reducible assumption | (symm; with_reducible assumption) | rfl | assumption | (symm; assumption) | (subst_vars; rfl)) (Eq.refl _).symm)); by_cases h9_18 : q9 = 18; (subst h9_18; exact ((fT_ne _ _ (Nat.ne_of_beq_eq_false rfl)).trans ((fT_ne _ _ (Nat.ne_of_beq_eq_false rfl)).trans (fT_eq _ _ _))).trans (Eq.trans (by first | with_reducible rfl | with_reducible assumption | (symm; with_reducible assumption) | rfl | assumption | (symm; assumption) | (subst_vars; rfl)) (Eq.refl _).symm)); by_cases h9_21 : q9 = 21; (subst h9_21; exact ((fT_ne _ _ (Nat.ne_of_beq_eq_false rfl)).trans (fT_eq _ _ _)).trans (Eq.trans (by first | with_reducible rfl | with_reducible assumption | (symm; with_reducible assumption) | rfl | assumption | (symm; assumption) | (subst_vars; rfl)) (Eq.refl _).symm)); by_cases h9_22 : q9 = 22; (subst h9_22; exact (fT_eq _ _ _).trans (Eq.trans (by first | with_reducible rfl | with_reducible assumption | (symm; with_reducible assumption) | rfl | assumption | (symm; assumption) | (subst_vars; rfl)) (Eq.refl _).symm)); exact ((fT_ne _ _ h9_22).trans ((fT_ne _ _ h9_21).trans ((fT_ne _ _ h9_18).trans ((fT_ne _ _ h9_20).trans ((fT_ne _ _ h9_19).trans (fT_ne _ _ h9_17)))))).trans (Eq.refl _).symm
    have hP : va_P (dC, dI) vwCl (WR a k h0 (fT (fT (fT (fT (fT (fT vi 17 (nI an)) 19 (nI fn)) 20 (vi 20)) 18 (vi 18)) 21 (vi 21)) 22 (vi 22)) vj vF vG) s.heap := by rw [e9]; exact hP
    have hD : va_D A (WR a k h0 (fT (fT (fT (fT (fT (fT vi 17 (nI an)) 19 (nI fn)) 20 (vi 20)) 18 (vi 18)) 21 (vi 21)) 22 (vi 22)) vj vF vG) := by rw [e9]; exact hD
    clear e9
    exact W.zret (v := 0) hx hb hr rfl (fun t9_ ht hW => ⟨⟨0, (an, fn, (vi 20), (vi 18), (vi 21), (vi 22)), rfl, by (try dsimp only); exact Or.inr ⟨rfl, by omega, hLx, Nat.le_refl _⟩, by rw [ht]; exact hP, hD⟩, hS.F ht⟩) hS.2.2 dX12_needSign_8
theorem dX12_needKey_0 : decode cX12_needKey 0 = .ok (.aload_n 0, 1) := dk_42 (by decide +kernel)
theorem dX12_needKey_1 : decode cX12_needKey 1 = .ok (.getfield 515, 3) := dk_180 (by decide +kernel)
theorem dX12_needKey_4 : decode cX12_needKey 4 = .ok (.ifCond .le 5, 3) := dk_158 (by decide +kernel)
theorem dX12_needKey_7 : decode cX12_needKey 7 = .ok (.iconst 0, 1) := dk_3 (by decide +kernel)
theorem dX12_needKey_8 : decode cX12_needKey 8 = .ok (.ireturn, 1) := dk_172 (by decide +kernel)
theorem dX12_needKey_9 : decode cX12_needKey 9 = .ok (.aload_n 0, 1) := dk_42 (by decide +kernel)
theorem dX12_needKey_10 : decode cX12_needKey 10 = .ok (.iload_n 1, 1) := dk_27 (by decide +kernel)
theorem dX12_needKey_11 : decode cX12_needKey 11 = .ok (.invokevirtual 530, 3) := dk_182 (by decide +kernel)
theorem dX12_needKey_14 : decode cX12_needKey 14 = .ok (.ifCond .eq 10, 3) := dk_153 (by decide +kernel)
theorem dX12_needKey_17 : decode cX12_needKey 17 = .ok (.aload_n 0, 1) := dk_42 (by decide +kernel)
theorem dX12_needKey_18 : decode cX12_needKey 18 = .ok (.invokevirtual 524, 3) := dk_182 (by decide +kernel)
theorem dX12_needKey_21 : decode cX12_needKey 21 = .ok (.goto 7, 3) := dk_167 (by decide +kernel)
theorem dX12_needKey_24 : decode cX12_needKey 24 = .ok (.aload_n 0, 1) := dk_42 (by decide +kernel)
theorem dX12_needKey_25 : decode cX12_needKey 25 = .ok (.invokevirtual 527, 3) := dk_182 (by decide +kernel)
theorem dX12_needKey_28 : decode cX12_needKey 28 = .ok (.aload_n 0, 1) := dk_42 (by decide +kernel)
theorem dX12_needKey_29 : decode cX12_needKey 29 = .ok (.getfield 515, 3) := dk_180 (by decide +kernel)
theorem dX12_needKey_32 : decode cX12_needKey 32 = .ok (.ifCond .ne 7, 3) := dk_154 (by decide +kernel)
theorem dX12_needKey_35 : decode cX12_needKey 35 = .ok (.iconst 1, 1) := dk_4 (by decide +kernel)
theorem dX12_needKey_36 : decode cX12_needKey 36 = .ok (.goto 4, 3) := dk_167 (by decide +kernel)
theorem dX12_needKey_39 : decode cX12_needKey 39 = .ok (.iconst 0, 1) := dk_3 (by decide +kernel)
theorem dX12_needKey_40 : decode cX12_needKey 40 = .ok (.ireturn, 1) := dk_172 (by decide +kernel)
def wsRX12_needKey : List Cond := .code yX12_needKey cX12_needKey 2 (some .boolean) :: ([.fieldLink RX12 515 "OptimaWorksModel" "stop" "I"] ++ wsX120 ++ (wsV RX12 530 RX12 yX12_isKey wsRX12_isKey) ++ (wsV RX12 524 RX12 yX12_next wsRX12_next) ++ (wsV RX12 527 RX12 yX12_wrong wsRX12_wrong))
theorem iwsRX12_needKey_in12 : ∀ w ∈ wsX120, w ∈ wsRX12_needKey := fun _ h => List.mem_cons_of_mem _ (List.mem_append_left _ (List.mem_append_left _ (List.mem_append_left _ (List.mem_append_right _ h))))
theorem gwsRX12_needKey_0 : GoodIn wsRX12_needKey (wsV RX12 530 RX12 yX12_isKey wsRX12_isKey) := goodIn_sub (fun _ h => List.mem_cons_of_mem _ (List.mem_append_left _ (List.mem_append_left _ (List.mem_append_right _ h)))) (gdV (by decide +kernel) gdwsRX12_isKey)
theorem gwsRX12_needKey_1 : GoodIn wsRX12_needKey (wsV RX12 524 RX12 yX12_next wsRX12_next) := goodIn_sub (fun _ h => List.mem_cons_of_mem _ (List.mem_append_left _ (List.mem_append_right _ h))) (gdV (by decide +kernel) gdwsRX12_next)
theorem gwsRX12_needKey_2 : GoodIn wsRX12_needKey (wsV RX12 527 RX12 yX12_wrong wsRX12_wrong) := goodIn_sub (fun _ h => List.mem_cons_of_mem _ (List.mem_append_right _ h)) (gdV (by decide +kernel) gdwsRX12_wrong)
theorem gdwsRX12_needKey : wsRX12_needKey.all goodWord = true := gdC rfl (gdA (gdA (gdA (gdA (by decide +kernel : ([.fieldLink RX12 515 "OptimaWorksModel" "stop" "I"] : List Cond).all goodWord = true) gdwsX120) (gdV (by decide +kernel) gdwsRX12_isKey)) (gdV (by decide +kernel) gdwsRX12_next)) (gdV (by decide +kernel) gdwsRX12_wrong))
set_option maxHeartbeats 4000000 in
set_option maxRecDepth 100000 in
/-- X12_needKey(c) -/
theorem r_X12_needKey (l : Launch) (dC : Nat → ClassId) (dI : Nat → Nat → Nat) (a : Nat → Nat) (k : Nat → ClassId) (h0 : Nat) (vi : Nat → Int32) (vj : Nat → Int64) (vF : Nat → Nat → Int32) (vG : Nat → Nat → Int64) (cv : Int32) (tp : Nat) (an : Nat) (fn : Nat) (hTp : vi 16 = nI tp) (htp : tp ≤ 4000) (ha0 : vi 17 = nI an) (hfr : vi 19 = nI fn) (hLx : LxO tp fn an (vi 18) (vi 20)) (hst0 : 0 ≤ (vi 21).toInt) (sz : Nat) : Met l yX12_needKey wsRX12_needKey ({ frames := 8, cells := 0, slots := 0, locals := 173 }) (va_Pc [.ref h0, .int cv] (fun U => U.heap.size = sz ∧ va_P (dC, dI) vwCl (WR a k h0 vi vj vF vG) U.heap ∧ va_K (dC, dI) vwCl (tX12 k) U ∧ va_D (fun _ => True) (WR a k h0 vi vj vF vG) ∧ StrA (va_A (WR a k h0 vi vj vF vG) sz) U U.heap)) (va_Qi (fun (r : Int32) (u : (Nat) × (Nat) × (Int32) × (Int32) × (Int32) × (Int32)) => (r = 1 ∧ ((u.2.2.2.2.1) = 0) ∧ (LxO tp (u.2.1) (u.1) (u.2.2.2.1) (u.2.2.1)) ∧ (an ≤ (u.2.1) ∧ fn < (u.2.1)) ∧ (vi 21 = 0)) ∨ (r = 0 ∧ (0 < ((u.2.2.2.2.1)).toInt) ∧ (LxO tp (u.2.1) (u.1) (u.2.2.2.1) (u.2.2.1)) ∧ (fn ≤ (u.2.1)))) (fun (u : (Nat) × (Nat) × (Int32) × (Int32) × (Int32) × (Int32)) t => va_P (dC, dI) vwCl (WR a k h0 (fT (fT (fT (fT (fT (fT vi 17 (nI (u.1))) 19 (nI (u.2.1))) 20 (u.2.2.1)) 18 (u.2.2.2.1)) 21 (u.2.2.2.2.1)) 22 (u.2.2.2.2.2)) vj vF vG) t.heap ∧ va_D (va_A (WR a k h0 vi vj vF vG) sz) (WR a k h0 (fT (fT (fT (fT (fT (fT vi 17 (nI (u.1))) 19 (nI (u.2.1))) 20 (u.2.2.1)) 18 (u.2.2.2.1)) 21 (u.2.2.2.2.1)) 22 (u.2.2.2.2.2)) vj vF vG)) (va_A (WR a k h0 vi vj vF vG) sz)) 0 0 (va_A (WR a k h0 vi vj vF vG) sz) := by
  refine Met.ofW (cc := cX12_needKey) (maxL := 2) (ret := (some .boolean)) (by decide) rfl ?_
  intro p e s m args below meth c s₁ B hml hv
  obtain ⟨rfl, hsz, hP, hK, hD0, hE⟩ := hv
  have hx := B.exec
  have hb := B.bytes
  have hr := B.returns
  have hts := atoms_spec (ws := wsRX12_needKey) B.pre
  have hown : s.vm.findClass RX12 = some m.cls := findClass_of_methodNamed B.named
  have hlocks := B.notSynchronized
  subst hsz
  have hD := hD0.self (sz := s.heap.size)
  generalize hAe : va_A (WR a k h0 vi vj vF vG) s.heap.size = A at hD hE ⊢
  have hA : ∀ q : Nat, s.heap.size ≤ q → A q := fun q h => by rw [← hAe]; exact Or.inr h
  have hS : va_S A s.heap s.heap [] := va_S.rf
  have hl := lv_entry ([.ref h0, .int cv]) (n := 2) (Nat.le_of_ble_eq_true rfl)
  rw [lg_entry_eq]
  generalize (lg_sl ([.ref h0, .int cv]) ++ List.replicate (2 - (lg_sl ([.ref h0, .int cv])).length) Slot.unset).toArray = ls at hl ⊢
  have hl : lv_has ls 2 [(0, .ref h0), (1, .int cv)] := hl
  have han := hLx.2.1
  refine lv_aload_n hx hb dX12_needKey_0 rfl (lv_at hl 0 rfl) ?_
  refine va_get (D := (dC, dI)) (ci := 12) (v := .int (vi 21)) (C := RX12) (T := TX12) (N := 163) (fs := fM (vS a vi vj)) hx hb hts iwsRX12_needKey_in12 hown hK hP 0 rfl rfl 21 (by decide) (hts (.fieldLink RX12 515 "OptimaWorksModel" "stop" "I") (by decide +kernel)) (fun _ h9 => h9) rfl dX12_needKey_1 ?_
  refine lv_if_le (tgt := 9) hx hb dX12_needKey_4 (by decide) (fun c_4 => ?_) (fun c_4 => ?_)
  · have t_4 : ((vi 21)).toInt ≤ 0 := toI_le c_4 rfl (by decide)
    refine lv_aload_n hx hb dX12_needKey_9 rfl (lv_at hl 0 rfl) ?_
    refine lv_iload_n hx hb dX12_needKey_10 rfl (lv_at hl 1 rfl) ?_
    have hFc := allFree hD hS hA
    refine va_calli (va_runV (As := [.int cv]) (rest := []) ⟨hx, hb, hml, hown, hts⟩ (r_X12_isKey l dC dI a k h0 vi vj vF vG cv s.heap.size) (cwV 1 hts gwsRX12_needKey_0 rfl rfl rfl hd_yX12_isKey_RX12 (by decide +kernel)) (fz_pre (va_recv hK hP (ci := 12) (q0 := 0) rfl rfl) hP hK hD) rfl rfl hl.1 rfl (lv_room (Nat.le_of_ble_eq_true rfl)) dX12_needKey_11 (by decide +kernel)) hS (fun q _ h => hFc q h) hFc (fun r11 u t9_ H locs ht hvm hw9 hB9 hz1 hk1 hS => ?_)
    have hP : va_P (dC, dI) vwCl (WR a k h0 vi vj vF vG) H := fz_P ht hB9.1
    have hD : va_D A (WR a k h0 vi vj vF vG) := hB9.2.weaken (fun _ q _ h => hFc q.1 h)
    rcases hw9 with ⟨rfl, f11_0, f11_1⟩ | ⟨rfl, f11_0⟩
    · have f11_0 : (vi 18).toInt = 2 := f11_0
      have f11_1 : (vi 20) = cv := f11_1
      refine lv_if_eq (tgt := 24) hx hb dX12_needKey_14 (by decide) (fun c9 => absurd c9 (by decide)) (fun _ => ?_)
      refine lv_aload_n hx hb dX12_needKey_17 rfl (lv_at hl 0 rfl) ?_
      have hFc := allFree hD hS hA
      refine va_callv (va_runV (As := []) (rest := []) ⟨hx, hb, hml, hown, hts⟩ (r_X12_next l dC dI a k h0 vi vj vF vG tp an hTp (by first | with_reducible assumption | decide | omega | rfl | assumption) ha0 (by first | with_reducible assumption | decide | omega | rfl | assumption) H.size) (cwV 0 hts gwsRX12_needKey_1 rfl rfl rfl hd_yX12_next_RX12 (by decide +kernel)) (fz_preE (va_recv hK hP (ci := 12) (q0 := 0) rfl rfl) hP hK hD (fun a U g mk qE => qE.same rfl) (fun U hU9 hW => by rw [hU9]; exact (((hE : StrA A s s.heap).kept hS.2.1).narrow (fun q h => hFc q h)).warm hW)) rfl rfl hl.1 rfl (lv_room (Nat.le_of_ble_eq_true rfl)) dX12_needKey_18 (by decide +kernel)) hS (fun q _ h => hFc q h) hFc (fun u t9_ H locs ht hvm hw9 hB9 hz1 hk1 hS => ?_)
      revert u hw9 hB9
      refine fz_p4 ?_
      intro a218 f218 sg18 wd18 hw9 hB9
      try dsimp only at hw9 hB9
      have hP : va_P (dC, dI) vwCl (WR a k h0 (fT (fT (fT (fT vi 17 (nI a218)) 19 (nI f218)) 20 sg18) 18 wd18) vj vF vG) H := fz_P ht hB9.1
      have hD : va_D A (WR a k h0 (fT (fT (fT (fT vi 17 (nI a218)) 19 (nI f218)) 20 sg18) 18 wd18) vj vF vG) := hB9.2.weaken (fun _ q _ h => hFc q.1 h)
      revert hw9
      refine fz_a2 ?_
      intro f18_0 f18_1
      refine lv_goto (tgt := 28) hx hb dX12_needKey_21 (by decide) ?_
      refine lv_aload_n hx hb dX12_needKey_28 rfl (lv_at hl 0 rfl) ?_
      refine va_get (D := (dC, dI)) (ci := 12) (v := .int (vi 21)) (C := RX12) (T := TX12) (N := 163) (fs := fM (vS a (fT (fT (fT (fT vi 17 (nI a218)) 19 (nI f218)) 20 sg18) 18 wd18) vj)) hx hb hts iwsRX12_needKey_in12 hown hK hP 0 rfl rfl 21 (by decide) (hts (.fieldLink RX12 515 "OptimaWorksModel" "stop" "I") (by decide +kernel)) (fun _ h9 => h9) rfl dX12_needKey_29 ?_
      refine lv_if_ne (tgt := 39) hx hb dX12_needKey_32 (by decide) (fun c9 => False.elim (by have t9 : ((vi 21)).toInt ≠ 0 := toI_ne c9 rfl (by decide); omega)) (fun c_32 => ?_)
      have t_32 : ((vi 21)).toInt = 0 := toI_nne c_32 rfl (by decide)
      refine lv_iconst (v := 1) hx hb dX12_needKey_35 (by decide) ?_
      refine lv_goto (tgt := 40) hx hb dX12_needKey_36 (by decide) ?_
      refine W.widen (k := 0) (n := 0) (by decide +kernel) (by decide +kernel) ?_
      have e9 : fT (fT (fT (fT (fT (fT vi 17 (nI a218)) 19 (nI f218)) 20 sg18) 18 wd18) 21 (vi 21)) 22 (vi 22) = fT (fT (fT (fT vi 17 (nI a218)) 19 (nI f218)) 20 sg18) 18 wd18 := (fT_id _ _ ((fT_ne _ _ (Nat.ne_of_beq_eq_false rfl)).trans ((fT_ne _ _ (Nat.ne_of_beq_eq_false rfl)).trans ((fT_ne _ _ (Nat.ne_of_beq_eq_false rfl)).trans ((fT_ne _ _ (Nat.ne_of_beq_eq_false rfl)).trans (fT_ne _ _ (Nat.ne_of_beq_eq_false rfl))))))).trans (fT_id _ _ ((fT_ne _ _ (Nat.ne_of_beq_eq_false rfl)).trans ((fT_ne _ _ (Nat.ne_of_beq_eq_false rfl)).trans ((fT_ne _ _ (Nat.ne_of_beq_eq_false rfl)).trans (fT_ne _ _ (Nat.ne_of_beq_eq_false rfl))))))
      have hP : va_P (dC, dI) vwCl (WR a k h0 (fT (fT (fT (fT (fT (fT vi 17 (nI a218)) 19 (nI f218)) 20 sg18) 18 wd18) 21 (vi 21)) 22 (vi 22)) vj vF vG) H := by rw [e9]; exact hP
      have hD : va_D A (WR a k h0 (fT (fT (fT (fT (fT (fT vi 17 (nI a218)) 19 (nI f218)) 20 sg18) 18 wd18) 21 (vi 21)) 22 (vi 22)) vj vF vG) := by rw [e9]; exact hD
      clear e9
      exact W.zret (v := 1) hx hb hr rfl (fun t9_ ht hW => ⟨⟨1, (a218, f218, sg18, wd18, (vi 21), (vi 22)), rfl, by (try dsimp only); exact Or.inl ⟨rfl, i32z (by omega), f18_0, by (have h9 := hLx.2.2.1.resolve_left (fun h => by rw [h] at f11_0; exact absurd f11_0 (by decide))); omega, i32z (by omega)⟩, by rw [ht]; exact hP, hD⟩, hS.F ht⟩) hS.2.2 dX12_needKey_40
    · have f11_0 : ¬ ((vi 18).toInt = 2 ∧ (vi 20) = cv) := f11_0
      refine lv_if_eq (tgt := 24) hx hb dX12_needKey_14 (by decide) (fun _ => ?_) (fun c9 => absurd (by decide) c9)
      refine lv_aload_n hx hb dX12_needKey_24 rfl (lv_at hl 0 rfl) ?_
      have hFc := allFree hD hS hA
      refine va_callv (va_runV (As := []) (rest := []) ⟨hx, hb, hml, hown, hts⟩ (r_X12_wrong l dC dI a k h0 vi vj vF vG H.size) (cwV 0 hts gwsRX12_needKey_2 rfl rfl rfl hd_yX12_wrong_RX12 (by decide +kernel)) (fz_pre (va_recv hK hP (ci := 12) (q0 := 0) rfl rfl) hP hK hD) rfl rfl hl.1 rfl (lv_room (Nat.le_of_ble_eq_true rfl)) dX12_needKey_25 (by decide +kernel)) hS (fun q _ h => hFc q h) hFc (fun u t9_ H locs ht hvm hw9 hB9 hz1 hk1 hS => ?_)
      revert u hw9 hB9
      refine fz_p2 ?_
      intro s225 p225 hw9 hB9
      try dsimp only at hw9 hB9
      have hP : va_P (dC, dI) vwCl (WR a k h0 (fT (fT vi 21 s225) 22 p225) vj vF vG) H := fz_P ht hB9.1
      have hD : va_D A (WR a k h0 (fT (fT vi 21 s225) 22 p225) vj vF vG) := hB9.2.weaken (fun _ q _ h => hFc q.1 h)
      revert hw9
      refine fz_a2 ?_
      intro f25_0 f25_1
      have f25_0 : (0 < (vi 21).toInt ∧ s225 = (vi 21) ∧ p225 = (vi 22)) ∨ (¬ 0 < (vi 21).toInt ∧ (s225 = 1 ∨ s225 = 2) ∧ p225 = (vi 19)) := f25_0
      have hs2 := f25_1
      refine lv_aload_n hx hb dX12_needKey_28 rfl (lv_at hl 0 rfl) ?_
      refine va_get (D := (dC, dI)) (ci := 12) (v := .int s225) (C := RX12) (T := TX12) (N := 163) (fs := fM (vS a (fT (fT vi 21 s225) 22 p225) vj)) hx hb hts iwsRX12_needKey_in12 hown hK hP 0 rfl rfl 21 (by decide) (hts (.fieldLink RX12 515 "OptimaWorksModel" "stop" "I") (by decide +kernel)) (fun _ h9 => h9) rfl dX12_needKey_29 ?_
      refine lv_if_ne (tgt := 39) hx hb dX12_needKey_32 (by decide) (fun c_32 => ?_) (fun c9 => False.elim (by have t9 : (s225).toInt = 0 := toI_nne c9 rfl (by decide); omega))
      have t_32 : (s225).toInt ≠ 0 := toI_ne c_32 rfl (by decide)
      refine lv_iconst (v := 0) hx hb dX12_needKey_39 (by decide) ?_
      refine W.widen (k := 0) (n := 0) (by decide +kernel) (by decide +kernel) ?_
      have e9 : fT (fT (fT (fT (fT (fT vi 17 (nI an)) 19 (nI fn)) 20 (vi 20)) 18 (vi 18)) 21 s225) 22 p225 = fT (fT vi 21 s225) 22 p225 := by funext q9; by_cases h9_17 : q9 = 17; (subst h9_17; exact ((fT_ne _ _ (Nat.ne_of_beq_eq_false rfl)).trans ((fT_ne _ _ (Nat.ne_of_beq_eq_false rfl)).trans ((fT_ne _ _ (Nat.ne_of_beq_eq_false rfl)).trans ((fT_ne _ _ (Nat.ne_of_beq_eq_false rfl)).trans ((fT_ne _ _ (Nat.ne_of_beq_eq_false rfl)).trans (fT_eq _ _ _)))))).trans (Eq.trans (by first | with_reducible rfl | with_reducible assumption | (symm; with_reducible assumption) | rfl | assumption | (symm; assumption) | (subst_vars; rfl)) ((fT_ne _ _ (Nat.ne_of_beq_eq_false rfl)).trans (fT_ne _ _ (Nat.ne_of_beq_eq_false rfl))).symm)); by_cases h9_19 : q9 = 19; (subst h9_19; exact ((fT_ne _ _ (Nat.ne_of_beq_eq_false rfl)).trans ((fT_ne _ _ (Nat.ne_of_beq_eq_false rfl)).trans ((fT_ne _ _ (Nat.ne_of_beq_eq_false rfl)).trans ((fT_ne _ _ (Nat.ne_of_beq_eq_false rfl)).trans (fT_eq _ _ _))))).trans (Eq.trans (by first | with_reducible rfl | with_reducible assumption | (symm; with_reducible assumption) | rfl | assumption | (symm; assumption) | (subst_vars; rfl)) ((fT_ne _ _ (Nat.ne_of_beq_eq_false rfl)).trans (fT_ne _ _ (Nat.ne_of_beq_eq_false rfl))).symm)); by_cases h9_20 : q9 = 20; (subst h9_20; exact ((fT_ne _ _ (Nat.ne_of_beq_eq_false rfl)).trans ((fT_ne _ _ (Nat.ne_of_beq_eq_false rfl)).trans ((fT_ne _ _ (Nat.ne_of_beq_eq_false rfl)).trans (fT_eq _ _ _)))).trans (Eq.trans (by first | with_reducible rfl | with_reducible assumption | (symm; with_reducible assumption) | rfl | assumption | (symm; assumption) | (subst_vars; rfl)) ((fT_ne _ _ (Nat.ne_of_beq_eq_false rfl)).trans (fT_ne _ _ (Nat.ne_of_beq_eq_false rfl))).symm)); by_cases h9_18 : q9 = 18; (subst h9_18; exact ((fT_ne _ _ (Nat.ne_of_beq_eq_false rfl)).trans ((fT_ne _ _ (Nat.ne_of_beq_eq_false rfl)).trans (fT_eq _ _ _))).trans (Eq.trans (by first | with_reducible rfl | with_reducible assumption | (symm; with_reducible assumption) | rfl | assumption | (symm; assumption) | (subst_vars; rfl)) ((fT_ne _ _ (Nat.ne_of_beq_eq_false rfl)).trans (fT_ne _ _ (Nat.ne_of_beq_eq_false rfl))).symm)); by_cases h9_21 : q9 = 21; (subst h9_21; exact ((fT_ne _ _ (Nat.ne_of_beq_eq_false rfl)).trans (fT_eq _ _ _)).trans (Eq.trans (by first | with_reducible rfl | with_reducible assumption | (symm; with_reducible assumption) | rfl | assumption | (symm; assumption) | (subst_vars; rfl)) ((fT_ne _ _ (Nat.ne_of_beq_eq_false rfl)).trans (fT_eq _ _ _)).symm)); by_cases h9_22 : q9 = 22; (subst h9_22; exact (fT_eq _ _ _).trans (Eq.trans (by first | with_reducible rfl | with_reducible assumption | (symm; with_reducible assumption) | rfl | assumption | (symm; assumption) | (subst_vars; rfl)) (fT_eq _ _ _).symm)); exact ((fT_ne _ _ h9_22).trans ((fT_ne _ _ h9_21).trans ((fT_ne _ _ h9_18).trans ((fT_ne _ _ h9_20).trans ((fT_ne _ _ h9_19).trans (fT_ne _ _ h9_17)))))).trans ((fT_ne _ _ h9_22).trans (fT_ne _ _ h9_21)).symm
      have hP : va_P (dC, dI) vwCl (WR a k h0 (fT (fT (fT (fT (fT (fT vi 17 (nI an)) 19 (nI fn)) 20 (vi 20)) 18 (vi 18)) 21 s225) 22 p225) vj vF vG) H := by rw [e9]; exact hP
      have hD : va_D A (WR a k h0 (fT (fT (fT (fT (fT (fT vi 17 (nI an)) 19 (nI fn)) 20 (vi 20)) 18 (vi 18)) 21 s225) 22 p225) vj vF vG) := by rw [e9]; exact hD
      clear e9
      exact W.zret (v := 0) hx hb hr rfl (fun t9_ ht hW => ⟨⟨0, (an, fn, (vi 20), (vi 18), s225, p225), rfl, by (try dsimp only); exact Or.inr ⟨rfl, hs2, hLx, Nat.le_refl _⟩, by rw [ht]; exact hP, hD⟩, hS.F ht⟩) hS.2.2 dX12_needKey_40
  · have t_4 : ¬ ((vi 21)).toInt ≤ 0 := toI_nle c_4 rfl (by decide)
    refine lv_iconst (v := 0) hx hb dX12_needKey_7 (by decide) ?_
    refine W.widen (k := 0) (n := 0) (by decide +kernel) (by decide +kernel) ?_
    have e9 : fT (fT (fT (fT (fT (fT vi 17 (nI an)) 19 (nI fn)) 20 (vi 20)) 18 (vi 18)) 21 (vi 21)) 22 (vi 22) = vi := by funext q9; by_cases h9_17 : q9 = 17; (subst h9_17; exact ((fT_ne _ _ (Nat.ne_of_beq_eq_false rfl)).trans ((fT_ne _ _ (Nat.ne_of_beq_eq_false rfl)).trans ((fT_ne _ _ (Nat.ne_of_beq_eq_false rfl)).trans ((fT_ne _ _ (Nat.ne_of_beq_eq_false rfl)).trans ((fT_ne _ _ (Nat.ne_of_beq_eq_false rfl)).trans (fT_eq _ _ _)))))).trans (Eq.trans (by first | with_reducible rfl | with_reducible assumption | (symm; with_reducible assumption) | rfl | assumption | (symm; assumption) | (subst_vars; rfl)) (Eq.refl _).symm)); by_cases h9_19 : q9 = 19; (subst h9_19; exact ((fT_ne _ _ (Nat.ne_of_beq_eq_false rfl)).trans ((fT_ne _ _ (Nat.ne_of_beq_eq_false rfl)).trans ((fT_ne _ _ (Nat.ne_of_beq_eq_false rfl)).trans ((fT_ne _ _ (Nat.ne_of_beq_eq_false rfl)).trans (fT_eq _ _ _))))).trans (Eq.trans (by first | with_reducible rfl | with_reducible assumption | (symm; with_reducible assumption) | rfl | assumption | (symm; assumption) | (subst_vars; rfl)) (Eq.refl _).symm)); by_cases h9_20 : q9 = 20; (subst h9_20; exact ((fT_ne _ _ (Nat.ne_of_beq_eq_false rfl)).trans ((fT_ne _ _ (Nat.ne_of_beq_eq_false rfl)).trans ((fT_ne _ _ (Nat.ne_of_beq_eq_false rfl)).trans (fT_eq _ _ _)))).trans (Eq.trans (by first | with_reducible rfl | with_reducible assumption | (symm; with_reducible assumption) | rfl | assumption | (symm; assumption) | (subst_vars; rfl)) (Eq.refl _).symm)); by_cases h9_18 : q9 = 18; (subst h9_18; exact ((fT_ne _ _ (Nat.ne_of_beq_eq_false rfl)).trans ((fT_ne _ _ (Nat.ne_of_beq_eq_false rfl)).trans (fT_eq _ _ _))).trans (Eq.trans (by first | with_reducible rfl | with_reducible assumption | (symm; with_reducible assumption) | rfl | assumption | (symm; assumption) | (subst_vars; rfl)) (Eq.refl _).symm)); by_cases h9_21 : q9 = 21; (subst h9_21; exact ((fT_ne _ _ (Nat.ne_of_beq_eq_false rfl)).trans (fT_eq _ _ _)).trans (Eq.trans (by first | with_reducible rfl | with_reducible assumption | (symm; with_reducible assumption) | rfl | assumption | (symm; assumption) | (subst_vars; rfl)) (Eq.refl _).symm)); by_cases h9_22 : q9 = 22; (subst h9_22; exact (fT_eq _ _ _).trans (Eq.trans (by first | with_reducible rfl | with_reducible assumption | (symm; with_reducible assumption) | rfl | assumption | (symm; assumption) | (subst_vars; rfl)) (Eq.refl _).symm)); exact ((fT_ne _ _ h9_22).trans ((fT_ne _ _ h9_21).trans ((fT_ne _ _ h9_18).trans ((fT_ne _ _ h9_20).trans ((fT_ne _ _ h9_19).trans (fT_ne _ _ h9_17)))))).trans (Eq.refl _).symm
    have hP : va_P (dC, dI) vwCl (WR a k h0 (fT (fT (fT (fT (fT (fT vi 17 (nI an)) 19 (nI fn)) 20 (vi 20)) 18 (vi 18)) 21 (vi 21)) 22 (vi 22)) vj vF vG) s.heap := by rw [e9]; exact hP
    have hD : va_D A (WR a k h0 (fT (fT (fT (fT (fT (fT vi 17 (nI an)) 19 (nI fn)) 20 (vi 20)) 18 (vi 18)) 21 (vi 21)) 22 (vi 22)) vj vF vG) := by rw [e9]; exact hD
    clear e9
    exact W.zret (v := 0) hx hb hr rfl (fun t9_ ht hW => ⟨⟨0, (an, fn, (vi 20), (vi 18), (vi 21), (vi 22)), rfl, by (try dsimp only); exact Or.inr ⟨rfl, by omega, hLx, Nat.le_refl _⟩, by rw [ht]; exact hP, hD⟩, hS.F ht⟩) hS.2.2 dX12_needKey_8
end
section
/-! the class's contracts: ints over whole numbers -/
def iI (z : Int) : Int32 := Int32.ofInt z
theorem iI_of (x : Int32) : x = iI x.toInt := (Int32.ofInt_toInt x).symm
theorem iI_add2 {x y : Int32} {X Y : Int} (hx : x = iI X) (hy : y = iI Y) : x + y = iI (X + Y) := by subst hx; subst hy; exact (Int32.ofInt_add X Y).symm
theorem iI_sub2 {x y : Int32} {X Y : Int} (hx : x = iI X) (hy : y = iI Y) : x - y = iI (X - Y) := by subst hx; subst hy; exact (Int32.ofInt_sub X Y).symm
theorem iI_mul2 {x y : Int32} {X Y : Int} (hx : x = iI X) (hy : y = iI Y) : x * y = iI (X * Y) := by subst hx; subst hy; exact (Int32.ofInt_mul X Y).symm
theorem iI_neg2 {x : Int32} {X : Int} (hx : x = iI X) : -x = iI (-X) := by subst hx; exact (Int32.ofInt_neg X).symm
theorem iI_t {E : Int} (h1 : -2147483648 ≤ E) (h2 : E ≤ 2147483647) : (iI E).toInt = E := Int32.toInt_ofInt_of_le h1 (by omega)
theorem iI_rng {E lo hi : Int} (h1 : lo ≤ E) (h2 : E ≤ hi) (h3 : -2147483648 ≤ lo) (h4 : hi ≤ 2147483647) : lo ≤ (iI E).toInt ∧ (iI E).toInt ≤ hi := by
  rw [iI_t (by omega) (by omega)]; exact ⟨h1, h2⟩
theorem iI_nat (n : Nat) : Int32.ofNat n = iI ((n : Nat) : Int) := by
  show Int32.ofNat n = Int32.ofInt (n : Int)
  exact (Int32.ofInt_eq_ofNat (n := n)).symm
theorem vp_iI {E : Int} {n : Nat} (h1 : 0 ≤ E) (h2 : E < (n : Int)) (h3 : (n : Int) ≤ 2147483647) : vp_in (iI E) n := vp_in_iff.mpr (by rw [iI_t (by omega) (by omega)]; exact ⟨h1, h2⟩)
theorem nz_i {x : Int32} {X : Int} (hx : x.toInt = X) (h : X ≠ 0) : ¬ x = 0 := fun e => h (by rw [← hx, e]; decide)
theorem nz_l {x : Int64} {X : Int} (hx : x.toInt = X) (h : X ≠ 0) : ¬ x = 0 := fun e => h (by rw [← hx, e]; decide)
theorem nn_i {x : Int32} {X : Int} (hx : x.toInt = X) (h : 0 ≤ X) : ¬ x < 0 := fun e => by have := toI_lt e hx (show (0 : Int32).toInt = 0 by decide); omega
theorem upd_r {f : Nat → Int32} {lo hi : Int} (h : ∀ q : Nat, lo ≤ (f q).toInt ∧ (f q).toInt ≤ hi) {x : Int32} (hx : lo ≤ x.toInt ∧ x.toInt ≤ hi) {n : Nat} : ∀ q : Nat, lo ≤ (upd f n x q).toInt ∧ (upd f n x q).toInt ≤ hi := fun q => by
  by_cases e : q = n
  · rw [e, pk_us]; exact hx
  · rw [pk_un e]; exact h q
theorem cpy_r {f g : Nat → Int32} {lo hi : Int} (hf : ∀ q : Nat, lo ≤ (f q).toInt ∧ (f q).toInt ≤ hi) (hg : ∀ q : Nat, lo ≤ (g q).toInt ∧ (g q).toInt ≤ hi) {a b n : Nat} : ∀ q : Nat, lo ≤ (va_cpy f g a b n q).toInt ∧ (va_cpy f g a b n q).toInt ≤ hi := fun q => by
  by_cases e : b ≤ q ∧ q < b + n
  · rw [pk_cpy_in e.1 e.2]; exact hf _
  · rw [pk_cpy_out (by omega)]; exact hg q
theorem and_rng (x : Int32) {m : Int32} {M : Int} (hm : m.toInt = M) (h0 : 0 ≤ m.toInt) : 0 ≤ (x &&& m).toInt ∧ (x &&& m).toInt ≤ M := by
  subst hm
  obtain ⟨j, hj, e⟩ := nI_of (x := m) (nn_i rfl h0)
  have e2 : (x &&& m) = nI (x.toBitVec.toNat &&& j) := by
    have h1 : x = nI x.toBitVec.toNat := by apply Int32.toBitVec_inj.mp; show x.toBitVec = BitVec.ofNat 32 x.toBitVec.toNat; rw [BitVec.ofNat_toNat, BitVec.setWidth_eq]
    rw [e]; conv => lhs; rw [h1]
    exact and_nI _ _
  have h2 : x.toBitVec.toNat &&& j ≤ j := Nat.and_le_right
  rw [e2, nI_toInt (by omega), e, nI_toInt hj]
  omega
theorem and_rngL (x : Int32) {m : Int32} {M : Int} (hm : m.toInt = M) (h0 : 0 ≤ m.toInt) : 0 ≤ (m &&& x).toInt ∧ (m &&& x).toInt ≤ M := by
  rw [Int32.and_comm]; exact and_rng x hm h0
theorem shr_t {x : Int32} {X M : Int} {k : Int32} {n : Nat} (hk : ((k &&& 31).toBitVec.smod 32).toNat = n) (hx : x.toInt = X) (hM : ((2 ^ n : Nat) : Int) = M) : (x >>> (k &&& 31)).toInt = X / M := by
  rw [pk_shr x (k &&& 31) n hk, hx, ← hM]
  exact Int.shiftRight_eq_div_pow X n
theorem max_t {x y : Int32} {X Y : Int} (hx : x.toInt = X) (hy : y.toInt = Y) : (X ≤ (if x < y then y else x).toInt ∧ Y ≤ (if x < y then y else x).toInt) ∧ ((if x < y then y else x).toInt = X ∨ (if x < y then y else x).toInt = Y) := by
  split
  · rename_i h; have := toI_lt h hx hy; rw [hy]; omega
  · rename_i h; have := toI_nlt h hx hy; rw [hx]; omega
theorem min_t {x y : Int32} {X Y : Int} (hx : x.toInt = X) (hy : y.toInt = Y) : ((if y < x then y else x).toInt ≤ X ∧ (if y < x then y else x).toInt ≤ Y) ∧ ((if y < x then y else x).toInt = X ∨ (if y < x then y else x).toInt = Y) := by
  split
  · rename_i h; have := toI_lt h hy hx; rw [hy]; omega
  · rename_i h; have := toI_nlt h hy hx; rw [hx]; omega
theorem idiv_r {x y : Int32} {X Y : Int} (hx : x.toInt = X) (hy : y.toInt = Y) (h1 : 0 ≤ X) (h2 : 0 < Y) : 0 ≤ (x / y).toInt ∧ (x / y).toInt ≤ X := by
  obtain ⟨a, ha, rfl⟩ := nI_of (x := x) (nn_i hx h1)
  obtain ⟨b, hb, rfl⟩ := nI_of (x := y) (nn_i hy (by omega))
  rw [nI_toInt ha] at hx; rw [nI_toInt hb] at hy
  have h3 : a / b ≤ a := Nat.div_le_self a b
  rw [pk_div ha (by omega) hb]
  generalize a / b = d at h3 ⊢
  rw [nI_toInt (by omega)]
  omega
theorem irem_r {x y : Int32} {X Y : Int} (hx : x.toInt = X) (hy : y.toInt = Y) (h1 : 0 ≤ X) (h2 : 0 < Y) : 0 ≤ (x - x / y * y).toInt ∧ (x - x / y * y).toInt < Y := by
  obtain ⟨a, ha, rfl⟩ := nI_of (x := x) (nn_i hx h1)
  obtain ⟨b, hb, rfl⟩ := nI_of (x := y) (nn_i hy (by omega))
  rw [nI_toInt ha] at hx; rw [nI_toInt hb] at hy
  have h3 : a % b < b := Nat.mod_lt a (by omega)
  rw [pk_rem ha (by omega) hb, nI_toInt (by omega)]
  omega
theorem and_posL {x y : Int32} {X : Int} (hx : x.toInt = X) (h : 0 ≤ X) : 0 ≤ (x &&& y).toInt ∧ (x &&& y).toInt ≤ X := and_rngL y hx (by rw [hx]; exact h)
theorem nn_i2 {x : Int32} (h : 0 ≤ x.toInt) : ¬ x < 0 := nn_i rfl h
/-- 1 moved up -/
theorem shl1_all : (List.range 31).all (fun k => decide (1 ≤ ((1 : Int32) <<< (iI (k : Int) &&& 31)).toInt ∧ ((1 : Int32) <<< (iI (k : Int) &&& 31)).toInt = 2 ^ k)) = true := by decide +kernel
theorem shl1_t {x : Int32} {X : Int} (hx : x.toInt = X) {k : Nat} (h0 : 0 ≤ X) (h1 : X ≤ (k : Int)) (hk : k ≤ 30) : 1 ≤ ((1 : Int32) <<< (x &&& 31)).toInt ∧ ((1 : Int32) <<< (x &&& 31)).toInt ≤ 2 ^ k := by
  have e : x = iI ((X.toNat : Nat) : Int) := by rw [show ((X.toNat : Nat) : Int) = X by omega, ← hx]; exact iI_of x
  have h := of_decide_eq_true (List.all_eq_true.mp shl1_all X.toNat (List.mem_range.mpr (by omega)))
  rw [← e] at h
  refine ⟨h.1, ?_⟩
  rw [h.2]
  exact_mod_cast Nat.pow_le_pow_right (by decide) (show X.toNat ≤ k by omega)
/-- bits -/
def bt (x : Int32) (j : Nat) : Bool := x.toBitVec.getLsbD j
theorem sa_all : (List.range 32).all (fun k => decide (((iI (k : Int) &&& 31).toBitVec.smod 32).toNat = k)) = true := by decide +kernel
theorem sa_t {x : Int32} {X : Int} (hx : x.toInt = X) (h0 : 0 ≤ X) (h1 : X < 32) : ((x &&& 31).toBitVec.smod 32).toNat = X.toNat := by
  have e : x = iI ((X.toNat : Nat) : Int) := by rw [show ((X.toNat : Nat) : Int) = X by omega, ← hx]; exact iI_of x
  have h := of_decide_eq_true (List.all_eq_true.mp sa_all X.toNat (List.mem_range.mpr (by omega)))
  rw [← e] at h; exact h
theorem i32_r (x : Int32) : -2147483648 ≤ x.toInt ∧ x.toInt ≤ 2147483647 := ⟨Int32.le_toInt x, by have := Int32.toInt_lt x; omega⟩
theorem z01 {x : Int32} (h : 0 ≤ x.toInt ∧ x.toInt ≤ 1) : x = 0 ∨ x = 1 := by
  by_cases e : x.toInt = 0
  · exact Or.inl (Int32.toInt_inj.mp (e.trans (by decide)))
  · exact Or.inr (Int32.toInt_inj.mp ((show x.toInt = 1 by omega).trans (by decide)))
theorem cp_fit {p n : Int32} {X Y : Int} {n0 : Nat} (hp : p.toInt = X) (hn : n.toInt = Y) (h1 : 0 ≤ X) (h2 : 0 ≤ Y) (h3 : X + Y ≤ (n0 : Int)) : p.toNatClampNeg + n.toNatClampNeg ≤ n0 := by
  show p.toInt.toNat + n.toInt.toNat ≤ n0
  rw [hp, hn]; omega
theorem or_rng {x y : Int32} {X Y : Int} (hx : x.toInt = X) (hy : y.toInt = Y) (k : Nat) (hk : k ≤ 30) (h1 : 0 ≤ X) (h2 : X < (2 ^ k : Nat)) (h3 : 0 ≤ Y) (h4 : Y < (2 ^ k : Nat)) : 0 ≤ (x ||| y).toInt ∧ (x ||| y).toInt < (2 ^ k : Nat) := by
  obtain ⟨a, ha, rfl⟩ := nI_of (x := x) (nn_i hx h1)
  obtain ⟨b, hb, rfl⟩ := nI_of (x := y) (nn_i hy h3)
  rw [nI_toInt ha] at hx; rw [nI_toInt hb] at hy
  have e : nI a ||| nI b = nI (a ||| b) := by
    apply Int32.toBitVec_inj.mp
    show (BitVec.ofNat 32 a ||| BitVec.ofNat 32 b) = BitVec.ofNat 32 (a ||| b)
    apply BitVec.eq_of_getLsbD_eq
    intro i hi
    simp [BitVec.getLsbD_ofNat, hi]
  have h := Nat.or_lt_two_pow (x := a) (y := b) (n := k) (by omega) (by omega)
  have h2 : 2 ^ k ≤ 2 ^ 30 := Nat.pow_le_pow_right (by decide) hk
  rw [e, nI_toInt (by omega)]
  omega
theorem gdF (l : List Cond) : (l.filter goodWord).all goodWord = true := List.all_eq_true.mpr (fun w h => (List.mem_filter.mp h).2)
theorem toN {x : Int32} {X : Int} (hx : x.toInt = X) (h0 : 0 ≤ X) : x = nI X.toNat := by
  obtain ⟨a, ha, rfl⟩ := nI_of (x := x) (nn_i hx h0)
  rw [nI_toInt ha] at hx
  rw [← hx]; rfl
theorem shr0 {x y : Int32} {X : Int} (hx : x.toInt = X) (hy : y.toInt = 0) : (x >>> (y &&& 31)).toInt = X := by
  rw [pk_shr x (y &&& 31) 0 (sa_t hy (by decide) (by decide)), hx]
  exact Int.shiftRight_zero X
theorem ald_0 {x : Int32} {X : Int} {n : Nat} (hx : x.toInt = X) (h0 : 0 ≤ X) (h1 : X < (n : Int)) : x.toNatClampNeg < n ∧ ((x.toNatClampNeg : Nat) : Int) = X := by
  show x.toInt.toNat < n ∧ ((x.toInt.toNat : Nat) : Int) = X
  rw [hx]; omega
theorem ald_k {x : Int32} {X : Int} {o n : Nat} (hx : x.toInt = X) (h0 : 0 ≤ X) (h1 : X < (n : Int)) : o ≤ o + x.toNatClampNeg ∧ o + x.toNatClampNeg < o + n ∧ ((o + x.toNatClampNeg : Nat) : Int) = (o : Int) + X := by
  show o ≤ o + x.toInt.toNat ∧ o + x.toInt.toNat < o + n ∧ ((o + x.toInt.toNat : Nat) : Int) = (o : Int) + X
  rw [hx]; omega
theorem i2l_t (x : Int32) : (x.toInt64).toInt = x.toInt := Int32.toInt_toInt64 x
end
section
def ngX9_33 : List Cond := (vx_at0 RX9 33 "java/lang/IllegalArgumentException" ["java/lang/RuntimeException", "java/lang/Exception"]).filter (fun w => !goodWord w)
theorem ngX9_33_ot : ∀ w ∈ ngX9_33, w.onTables = true := by decide +kernel
theorem ngX9_33_cd : ∀ w ∈ ngX9_33, isCD w = true := by decide +kernel
def ngX11_161 : List Cond := (vx_at0 RX11 161 "java/lang/IllegalStateException" ["java/lang/RuntimeException", "java/lang/Exception"]).filter (fun w => !goodWord w)
theorem ngX11_161_ot : ∀ w ∈ ngX11_161, w.onTables = true := by decide +kernel
theorem ngX11_161_cd : ∀ w ∈ ngX11_161, isCD w = true := by decide +kernel
def ngX11_79 : List Cond := (vx_at0 RX11 79 "java/lang/IllegalArgumentException" ["java/lang/RuntimeException", "java/lang/Exception"]).filter (fun w => !goodWord w)
theorem ngX11_79_ot : ∀ w ∈ ngX11_79, w.onTables = true := by decide +kernel
theorem ngX11_79_cd : ∀ w ∈ ngX11_79, isCD w = true := by decide +kernel
def ngX11_95 : List Cond := (vx_at0 RX11 95 "java/lang/IndexOutOfBoundsException" ["java/lang/RuntimeException", "java/lang/Exception"]).filter (fun w => !goodWord w)
theorem ngX11_95_ot : ∀ w ∈ ngX11_95, w.onTables = true := by decide +kernel
theorem ngX11_95_cd : ∀ w ∈ ngX11_95, isCD w = true := by decide +kernel
def sTab : List (String × Nat × String × List Int32) := [(RX11, 277, "var x", [118, 97, 114, 32, 120]), (RX11, 286, " whole", [32, 119, 104, 111, 108, 101]), (RX11, 288, " from ", [32, 102, 114, 111, 109, 32]), (RX11, 290, " to ", [32, 116, 111, 32]), (RX11, 292, " ;\n", [32, 59, 10]), (RX11, 294, "row \x72", [114, 111, 119, 32, 114]), (RX11, 296, " :", [32, 58]), (RX11, 298, " or", [32, 111, 114]), (RX11, 307, " 0", [32, 48]), (RX11, 309, " <= ", [32, 60, 61, 32]), (RX11, 311, " >= ", [32, 62, 61, 32]), (RX11, 313, " = ", [32, 61, 32]), (RX11, 315, " -", [32, 45]), (RX11, 317, " +", [32, 43]), (RX11, 322, " *", [32, 42]), (RX11, 324, " x", [32, 120]), (RX11, 326, "different", [100, 105, 102, 102, 101, 114, 101, 110, 116]), (RX11, 327, " , x", [32, 44, 32, 120]), (RX11, 329, "max", [109, 97, 120]), (RX11, 331, "min", [109, 105, 110]), (RX11, 333, " - ", [32, 45, 32]), (RX11, 335, " + ", [32, 43, 32]), (RX9, 70, "set param var whole from to row or if and not in sum different min max ", [115, 101, 116, 32, 112, 97, 114, 97, 109, 32, 118, 97, 114, 32, 119, 104, 111, 108, 101, 32, 102, 114, 111, 109, 32, 116, 111, 32, 114, 111, 119, 32, 111, 114, 32, 105, 102, 32, 97, 110, 100, 32, 110, 111, 116, 32, 105, 110, 32, 115, 117, 109, 32, 100, 105, 102, 102, 101, 114, 101, 110, 116, 32, 109, 105, 110, 32, 109, 97, 120, 32]), (RX9, 84, "=<>:;,[]{}()+-*/", [61, 60, 62, 58, 59, 44, 91, 93, 123, 125, 40, 41, 43, 45, 42, 47])]
def ngN : List Cond := [.methodLinkNest RX11 343 yX7_init RX11, .methodLinkNest RX11 392 yX0_init RX11, .methodLinkNest RX11 421 yX2_init RX11, .methodLinkNest RX3 29 yX8_init RX11, .methodLinkNest RX5 57 yX8_init RX11, .methodLinkNest RX6 28 yX8_init RX11]
def isNL : Cond → Bool
  | .methodLinkNest _ _ _ _ => true
  | _ => false
theorem nl_warm {w : Cond} (hc : isNL w = true) {s U : State} (hW : s.WarmedH U.vm) (h : va_Nw w s) : va_Nw w U := by
  cases w <;> first | (exact va_Nw.warmM hW h) | (cases hc)
theorem ngN_ot : ∀ w ∈ ngN, w.onTables = true := by decide +kernel
theorem ngN_nl : ∀ w ∈ ngN, isNL w = true := by decide +kernel
/-- the ctors that are private to the class, and the row of its whole numbers -/
def NestE (U : State) : Prop := (∀ w ∈ ngN, va_Nw w U) ∧ va_AO "OptimaWorks$Whole" U
theorem NestE.warm {s U : State} (h : NestE s) (hW : s.WarmedH U.vm) : NestE U := ⟨fun w hw => nl_warm (ngN_nl w hw) hW (h.1 w hw), va_AO.moved hW.alike h.2⟩
theorem NestE.call {U : State} {g : JFrame} {mk : MethodId} {a : Array Value} (h : NestE U) : NestE (U.calling g mk a) := ⟨fun w hw => va_Nw.same (u := U) (U := U.calling g mk a) (ngN_ot w hw) rfl (h.1 w hw), va_AO.moved (u := U) (U := U.calling g mk a) (Vm.Alike.refl U.vm) h.2⟩
/-- what the class needs of the world about it: the JDK's statics, the words of its throws, its texts -/
def CE (A : Nat → Prop) (U : State) (H : Heap) : Prop := JdkE A U H ∧ (vx_Zq Bundle.tN "UNASSIGNED_STACK" Bundle.steD A U H ∧ vx_Zq Bundle.tN "SUPPRESSED_SENTINEL" Bundle.listD A U H) ∧ ((∀ w ∈ ngX9_33, va_Nw w U) ∧ (∀ w ∈ ngX11_161, va_Nw w U) ∧ (∀ w ∈ ngX11_79, va_Nw w U) ∧ (∀ w ∈ ngX11_95, va_Nw w U) ∧ NestE U) ∧ ∀ (i : Nat) (x : String × Nat × String × List Int32), sTab[i]? = some x → ∃ q, vk_R x.1 x.2.1 x.2.2.1 q U ∧ StrE q x.2.2.2.length (fun j => x.2.2.2.getD j 0) A U H
theorem CE.kept {A : Nat → Prop} {U : State} {H H1 : Heap} (h : CE A U H) (hq : ∀ a : Nat, a < H.size → ¬ A a → H1[a]? = H[a]?) : CE A U H1 := ⟨h.1.kept hq, ⟨h.2.1.1.kept hq, h.2.1.2.kept hq⟩, h.2.2.1, fun i x hx => (h.2.2.2 i x hx).imp (fun _ h9 => ⟨h9.1, h9.2.kept hq⟩)⟩
theorem CE.narrow {A B : Nat → Prop} {U : State} {H : Heap} (h : CE A U H) (hAB : ∀ q, B q → A q) : CE B U H := ⟨h.1.narrow hAB, ⟨h.2.1.1.narrow hAB, h.2.1.2.narrow hAB⟩, h.2.2.1, fun i x hx => (h.2.2.2 i x hx).imp (fun _ h9 => ⟨h9.1, h9.2.narrow hAB⟩)⟩
theorem CE.warm {A : Nat → Prop} {s U : State} {H : Heap} (h : CE A s H) (hW : s.WarmedH U.vm) : CE A U H := ⟨h.1.warm hW, ⟨h.2.1.1.moved hW.alike, h.2.1.2.moved hW.alike⟩, ⟨fun w hw => cd_warm (ngX9_33_cd w hw) hW (h.2.2.1.1 w hw), fun w hw => cd_warm (ngX11_161_cd w hw) hW (h.2.2.1.2.1 w hw), fun w hw => cd_warm (ngX11_79_cd w hw) hW (h.2.2.1.2.2.1 w hw), fun w hw => cd_warm (ngX11_95_cd w hw) hW (h.2.2.1.2.2.2.1 w hw), h.2.2.1.2.2.2.2.warm hW⟩, fun i x hx => (h.2.2.2 i x hx).imp (fun _ h9 => ⟨vk_R.warm hW h9.1, h9.2.warm hW⟩)⟩
theorem CE.call {A : Nat → Prop} {U : State} {H : Heap} {g : JFrame} {mk : MethodId} {a : Array Value} (h : CE A U H) : CE A (U.calling g mk a) H := ⟨h.1.same rfl, ⟨h.2.1.1.moved (Vm.Alike.refl U.vm), h.2.1.2.moved (Vm.Alike.refl U.vm)⟩, ⟨fun w hw => va_Nw.same (u := U) (U := U.calling g mk a) (ngX9_33_ot w hw) rfl (h.2.2.1.1 w hw), fun w hw => va_Nw.same (u := U) (U := U.calling g mk a) (ngX11_161_ot w hw) rfl (h.2.2.1.2.1 w hw), fun w hw => va_Nw.same (u := U) (U := U.calling g mk a) (ngX11_79_ot w hw) rfl (h.2.2.1.2.2.1 w hw), fun w hw => va_Nw.same (u := U) (U := U.calling g mk a) (ngX11_95_ot w hw) rfl (h.2.2.1.2.2.2.1 w hw), h.2.2.1.2.2.2.2.call⟩, fun i x hx => (h.2.2.2 i x hx).imp (fun _ h9 => ⟨vk_R.same rfl h9.1, h9.2.same rfl⟩)⟩
end
section
/-! worlds up to the order of their cells; the family of whole numbers -/
theorem va_P.mem {D : va_G} {cl : List vw_C} {ws ws' : va_W} {H : Heap} (h : va_P D cl ws H) (hs : ∀ q, q ∈ ws' → q ∈ ws) : va_P D cl ws' H := fun k q hk => by
  obtain ⟨i, hi⟩ := List.getElem?_of_mem (hs q (List.mem_of_getElem? hk))
  exact h i q hi
theorem va_D_iff {A : Nat → Prop} {ws : va_W} : va_D A ws ↔ (ws.map Prod.fst).Nodup ∧ ∀ q ∈ ws, A q.1 := by
  constructor
  · intro h
    refine ⟨?_, fun q hq => ?_⟩
    · rw [List.Nodup, List.pairwise_iff_getElem]
      intro i j hi hj hij e
      rw [List.length_map] at hi hj
      have h1 : ws[i]? = some ws[i] := List.getElem?_eq_getElem hi
      have h2 : ws[j]? = some ws[j] := List.getElem?_eq_getElem hj
      have h3 := h.1 i j _ _ h1 h2 (by simpa using e)
      omega
    · obtain ⟨i, hi⟩ := List.getElem?_of_mem hq
      exact h.2 i q hi
  · intro h
    refine ⟨fun i j p q hi hj e => ?_, fun k q hk => h.2 q (List.mem_of_getElem? hk)⟩
    have hn := h.1
    rw [List.Nodup, List.pairwise_iff_getElem] at hn
    obtain ⟨hi1, hi2⟩ := List.getElem?_eq_some_iff.mp hi
    obtain ⟨hj1, hj2⟩ := List.getElem?_eq_some_iff.mp hj
    rcases Nat.lt_trichotomy i j with h9 | h9 | h9
    · have h8 := hn i j (by simpa using hi1) (by simpa using hj1) h9
      simp only [List.getElem_map, hi2, hj2] at h8
      exact absurd e h8
    · exact h9
    · have h8 := hn j i (by simpa using hj1) (by simpa using hi1) h9
      simp only [List.getElem_map, hi2, hj2] at h8
      exact absurd e.symm h8
theorem va_D.perm {A : Nat → Prop} {ws ws' : va_W} (h : va_D A ws) (p : ws.Perm ws') : va_D A ws' := by
  rw [va_D_iff] at h ⊢
  exact ⟨(p.map Prod.fst).nodup h.1, fun q hq => h.2 q (p.mem_iff.mpr hq)⟩
theorem va_D.left {A : Nat → Prop} {X R : va_W} (h : va_D A (X ++ R)) : va_D A X := by
  rw [va_D_iff] at h ⊢
  rw [List.map_append, List.nodup_append] at h
  exact ⟨h.1.1, fun q hq => h.2 q (List.mem_append_left _ hq)⟩
/-- the frame rule, up to the order of the cells -/
theorem frameG {A : Nat → Prop} {D : va_G} {cl : List vw_C} {ws ws' X X' R : va_W} {H H1 : Heap} (p1 : ws.Perm (X ++ R)) (p2 : ws'.Perm (X' ++ R)) (hP : va_P D cl ws H) (hD : va_D A ws)
    (hk : ∀ q : Nat, q < H.size → ¬ va_A X H.size q → H1[q]? = H[q]?) (hF : ∀ q, va_A X H.size q → A q) (hP1 : va_P D cl X' H1) (hD1 : va_D (va_A X H.size) X') : va_P D cl ws' H1 ∧ va_D A ws' := by
  have hD2 := hD.perm p1
  have hPR : va_P D cl R H := hP.mem (fun q hq => p1.mem_iff.mpr (List.mem_append_right _ hq))
  have hn : ∀ q ∈ R, ¬ va_A X H.size q.1 := fun q hq h9 => by
    rcases h9 with ⟨k, e, h8⟩ | h8
    · have h7 := List.mem_of_getElem? h8
      rw [va_D_iff, List.map_append, List.nodup_append] at hD2
      exact hD2.1.2.2 q.1 (List.mem_map.mpr ⟨_, h7, rfl⟩) q.1 (List.mem_map.mpr ⟨q, hq, rfl⟩) rfl
    · obtain ⟨i, hi⟩ := List.getElem?_of_mem hq
      have := (hPR i q hi).lt
      omega
  have hPR1 : va_P D cl R H1 := fun k q hk9 => (hPR k q hk9).kept (hk q.1 (hPR k q hk9).lt (hn q (List.mem_of_getElem? hk9)))
  constructor
  · have : va_P D cl (X' ++ R) H1 := fun k q hk9 => by
      rcases List.mem_append.mp (List.mem_of_getElem? hk9) with h9 | h9
      · obtain ⟨i, hi⟩ := List.getElem?_of_mem h9; exact hP1 i q hi
      · obtain ⟨i, hi⟩ := List.getElem?_of_mem h9; exact hPR1 i q hi
    exact this.mem (fun q hq => p2.mem_iff.mp hq)
  · refine va_D.perm (ws := X' ++ R) ?_ p2.symm
    rw [va_D_iff] at hD1 hD2 ⊢
    rw [List.map_append, List.nodup_append] at hD2 ⊢
    refine ⟨⟨hD1.1, hD2.1.2.1, fun a ha b hb e => ?_⟩, fun q hq => ?_⟩
    · obtain ⟨x, hx, rfl⟩ := List.mem_map.mp ha
      obtain ⟨y, hy, rfl⟩ := List.mem_map.mp hb
      exact hn y hy (e ▸ hD1.2 x hx)
    · rcases List.mem_append.mp hq with h9 | h9
      · exact hF _ (hD1.2 q h9)
      · exact hD2.2 q (List.mem_append_right _ h9)
theorem freeG {A : Nat → Prop} {ws X R : va_W} {H0 H : Heap} {locs : List Loc} (p1 : ws.Perm (X ++ R)) (hD : va_D A ws) (hS : va_S A H0 H locs) (hA : ∀ q, H0.size ≤ q → A q) : ∀ q, va_A X H.size q → A q := by
  rintro q (⟨k, e, h⟩ | h)
  · exact (va_D_iff.mp hD).2 (q, e) (p1.mem_iff.mpr (List.mem_append_left _ (List.mem_of_getElem? h)))
  · exact hA q (Nat.le_trans hS.1 h)
theorem apR {X Y : va_W} {n k : Nat} {q : Nat × va_E} (hn : X.length = n) (h : Y[k]? = some q) : (X ++ Y)[n + k]? = some q := by
  subst hn; rw [List.getElem?_append_right (by omega), show X.length + k - X.length = k by omega]; exact h
theorem stR {X Y : va_W} {n k : Nat} {q : Nat × va_E} (hn : X.length = n) : (X ++ Y).set (n + k) q = X ++ Y.set k q := by
  subst hn; rw [List.set_append_right _ _ (by omega), show X.length + k - X.length = k by omega]
/-- whole numbers: w's own cell, then the rows of their limbs -/
def WW (nW : Nat) (hw lw : Nat → Nat) (kw : ClassId) (wl wb : Nat → Int32) (wG : Nat → Nat → Int64) : va_W := (List.range nW).map (fun w => (hw w, .inr (8, [.ref (lw w), .int (wl w), .int (wb w)]))) ++ (List.range nW).map (fun w => (lw w, .inl (kw, 14, .inr (.inl (wG w)))))
def tW (kw : ClassId) : List (ClassId × FieldType) := [(kw, .long)]
theorem WW_o {nW : Nat} {hw lw : Nat → Nat} {kw : ClassId} {wl wb : Nat → Int32} {wG : Nat → Nat → Int64} {w : Nat} (h : w < nW) : (WW nW hw lw kw wl wb wG)[w]? = some (hw w, .inr (8, [.ref (lw w), .int (wl w), .int (wb w)])) := by
  unfold WW
  rw [List.getElem?_append_left (by simpa using h), List.getElem?_map, List.getElem?_range h]; rfl
theorem WW_a {nW : Nat} {hw lw : Nat → Nat} {kw : ClassId} {wl wb : Nat → Int32} {wG : Nat → Nat → Int64} {w : Nat} (h : w < nW) : (WW nW hw lw kw wl wb wG)[nW + w]? = some (lw w, .inl (kw, 14, .inr (.inl (wG w)))) := by
  unfold WW
  exact apR (by simp) (by rw [List.getElem?_map, List.getElem?_range h]; rfl)
theorem map_setW {α : Type} (n w : Nat) (h : w < n) (f g : Nat → α) (x : α) (hx : x = g w) (ho : ∀ q, q ≠ w → f q = g q) : ((List.range n).map f).set w x = (List.range n).map g := by
  apply List.ext_getElem?
  intro q
  rw [List.getElem?_set, List.getElem?_map, List.getElem?_map]
  by_cases e : w = q
  · subst e; simp [h, hx]
  · rcases Nat.lt_or_ge q n with hq | hq
    · rw [List.getElem?_range hq]; simp [e, ho q (fun h9 => e h9.symm)]
    · simp [e, List.getElem?_eq_none (show (List.range n).length ≤ q by simpa using hq)]
theorem WW_sl {nW : Nat} {hw lw : Nat → Nat} {kw : ClassId} {wl wb : Nat → Int32} {wG : Nat → Nat → Int64} {w : Nat} (h : w < nW) (x : Int32) : (WW nW hw lw kw wl wb wG).set w (hw w, .inr (8, [.ref (lw w), .int x, .int (wb w)])) = WW nW hw lw kw (fT wl w x) wb wG := by
  unfold WW
  rw [List.set_append_left _ _ (by simpa using h)]
  congr 1
  exact map_setW nW w h _ _ _ (by simp [fT_eq]) (fun q hq => by simp [fT_ne _ _ hq])
theorem WW_sb {nW : Nat} {hw lw : Nat → Nat} {kw : ClassId} {wl wb : Nat → Int32} {wG : Nat → Nat → Int64} {w : Nat} (h : w < nW) (x : Int32) : (WW nW hw lw kw wl wb wG).set w (hw w, .inr (8, [.ref (lw w), .int (wl w), .int x])) = WW nW hw lw kw wl (fT wb w x) wG := by
  unfold WW
  rw [List.set_append_left _ _ (by simpa using h)]
  congr 1
  exact map_setW nW w h _ _ _ (by simp [fT_eq]) (fun q hq => by simp [fT_ne _ _ hq])
theorem WW_sg {nW : Nat} {hw lw : Nat → Nat} {kw : ClassId} {wl wb : Nat → Int32} {wG : Nat → Nat → Int64} {w : Nat} (h : w < nW) (f : Nat → Int64) : (WW nW hw lw kw wl wb wG).set (nW + w) (lw w, .inl (kw, 14, .inr (.inl f))) = WW nW hw lw kw wl wb (fT wG w f) := by
  unfold WW
  rw [stR (by simp)]
  congr 1
  exact map_setW nW w h _ _ _ (by simp [fT_eq]) (fun q hq => by simp [fT_ne _ _ hq])
theorem fT_r {f : Nat → Int32} {lo hi : Int} (h : ∀ q : Nat, lo ≤ (f q).toInt ∧ (f q).toInt ≤ hi) {x : Int32} (hx : lo ≤ x.toInt ∧ x.toInt ≤ hi) {n : Nat} : ∀ q : Nat, lo ≤ (fT f n x q).toInt ∧ (fT f n x q).toInt ≤ hi := fun q => by
  by_cases e : q = n
  · rw [e, fT_eq]; exact hx
  · rw [fT_ne _ _ e]; exact h q
end
section
/-! how many cells and slots were made: the heap shows it -/
def nS (n : Nat) (H : Heap) : Nat := ((H.toList.drop n).map (·.slots.size)).sum
theorem W.known {p : Program} {l : Launch} {e : Env} {R : Room} {s : State} {m : MethodId} {args : Array Value} {below : List Frame} {meth : Method} {c : Code} {H : Heap} {locs : List Loc} {cells slots : Nat} {Q : State → Prop} {g : JFrame}
    (k : H.size ≤ s.heap.size + cells → nS s.heap.size H ≤ slots → W p l e R s m args below meth c H locs cells slots Q g) : W p l e R s m args below meth c H locs cells slots Q g := fun T hT X => by
  have h := X.same
  have e1 : (T.setVm s.vm).heap = H := hT
  exact k (by rw [← e1]; exact h.2.2.1) (by unfold nS; rw [← e1]; exact h.2.2.2.2.1) T hT X
theorem W.tight {p : Program} {l : Launch} {e : Env} {R : Room} {s : State} {m : MethodId} {args : Array Value} {below : List Frame} {meth : Method} {c : Code} {H : Heap} {locs : List Loc} {cells slots cells2 slots2 : Nat} {Q : State → Prop} {g : JFrame}
    (h1 : H.size ≤ s.heap.size + cells2) (h2 : nS s.heap.size H ≤ slots2) (k : W p l e R s m args below meth c H locs cells2 slots2 Q g) : W p l e R s m args below meth c H locs cells slots Q g := fun T hT X => by
  have e1 : (T.setVm s.vm).heap = H := hT
  have h := X.same
  exact k T hT { X with same := ⟨h.1, h.2.1, by rw [e1]; exact h1, h.2.2.2.1, by rw [e1]; exact h2, h.2.2.2.2.2⟩ }
end
section
/-- cells keep their sizes over a call -/
def SzK (H0 H1 : Heap) : Prop := H0.size ≤ H1.size ∧ ∀ (a : Nat) (c : Cell), H0[a]? = some c → ∃ c', H1[a]? = some c' ∧ c'.slots.size = c.slots.size
theorem SzK.of {s t : State} {o : Outcome} {L : List Loc} {k n : Nat} (h : FrameEnd s o t L k n) : SzK s.heap t.heap := by
  obtain ⟨_, _, h1, h2, h3, h4, h5, h6⟩ := h
  exact ⟨h2, fun a c hc => by obtain ⟨c', e1, e2, e3, _⟩ := h6 a c hc; exact ⟨c', e1, e3⟩⟩
theorem Met.szV {l : Launch} {y : MethodName} {ws : List Cond} {rm : Room} {av : List Value} {P0 : State → Prop} {mc ms : Nat} {fr : Addr → Prop} {S : Type} {φ : S → Prop} {B : S → State → Prop} {A : Nat → Prop} {H0 : Heap} (h : Met l y ws rm (va_Pc av P0) (va_Qv φ B A) mc ms fr) (hH : ∀ U, P0 U → U.heap = H0) : Met l y ws rm (va_Pc av P0) (va_Qv φ (fun u t => B u t ∧ SzK H0 t.heap) A) mc ms fr := by
  intro p e h1 h2 h3 s m args below hf ha hP hK
  obtain ⟨n, o, q1, q2, q3, ⟨⟨u, q4, q5, q6⟩, q7⟩, q8⟩ := h p e h1 h2 h3 s m args below hf ha hP hK
  obtain ⟨L, q9, _⟩ := id q8
  exact ⟨n, o, q1, q2, q3, ⟨⟨u, q4, q5, q6, by rw [← hH s hP.2]; exact SzK.of q9⟩, q7⟩, q8⟩
theorem nS_split {n k : Nat} {H H1 : Heap} (h : SzK H H1) (hn : n ≤ H.size) : nS n H1 = nS n H + nS H.size H1 := by
  have key : ∀ d, d + n = H.size → nS n H1 = nS n H + nS H.size H1 := by
    intro d hd
    have e1 : H1.toList.drop n = (H1.toList.take H.size).drop n ++ H1.toList.drop H.size := by
      have h9 : H1.toList = H1.toList.take H.size ++ H1.toList.drop H.size := (List.take_append_drop _ _).symm
      conv => lhs; rw [h9]
      rw [List.drop_append_of_le_length (by rw [List.length_take]; have := h.1; simp; omega)]
    unfold nS
    rw [e1, List.map_append, List.sum_append]
    congr 2
    apply List.ext_getElem?
    intro i
    rw [List.getElem?_map, List.getElem?_map, List.getElem?_drop, List.getElem?_drop, List.getElem?_take]
    by_cases hi : n + i < H.size
    · rw [if_pos hi]
      have h8 : H[n + i]? = some H[n + i] := Array.getElem?_eq_getElem hi
      obtain ⟨c', c1, c2⟩ := h.2 (n + i) _ h8
      rw [Array.getElem?_toList, Array.getElem?_toList, c1, h8]
      simp [c2]
    · rw [if_neg hi, Array.getElem?_toList, Array.getElem?_eq_none (by omega)]
  exact key (H.size - n) (by omega)
theorem nS_0 {n : Nat} {H : Heap} {k : Nat} (h : H.size ≤ n + 0) : nS n H ≤ k := by
  unfold nS
  rw [List.drop_eq_nil_of_le (by simpa using h)]
  exact Nat.zero_le _
theorem lk_ne {x k : Int32} {a : Int} (h : ¬ x = k) (hk : k.toInt = a) : ¬ a = x.toInt := fun q => lv_neT h hk q.symm
/-- a fact that is only handed on (omega does not look into it) -/
def HidP (p : Prop) : Prop := p
theorem hidP {p : Prop} (h : p) : HidP p := h
end
section
/-! Integer.bitCount -/
def tbcU (x y : Int32) : Int32 := ((x).toUInt32 >>> ((y).toUInt32 &&& Int32.toUInt32 31)).toInt32
def tbc1 (x : Int32) : Int32 := x - (tbcU x 1 &&& (1431655765 : Int32))
def tbc2 (x : Int32) : Int32 := (tbc1 x &&& (858993459 : Int32)) + (tbcU (tbc1 x) 2 &&& (858993459 : Int32))
def tbc3 (x : Int32) : Int32 := (tbc2 x + tbcU (tbc2 x) 4) &&& (252645135 : Int32)
def tbc4 (x : Int32) : Int32 := tbc3 x + tbcU (tbc3 x) 8
def tbc5 (x : Int32) : Int32 := tbc4 x + tbcU (tbc4 x) 16
def tbcF (x : Int32) : Int32 := tbc5 x &&& (63 : Int32)
theorem tbc_all : ((List.range 4096).all (fun x => decide (tbcF (nI x) = nI (cnt x 12)))) = true := by decide +kernel
theorem tbc_t {x : Int32} (h0 : 0 ≤ x.toInt) (h1 : x.toInt ≤ 4095) : (tbcF x).toInt = (cntB (bI x) 12 : Int) := by
  obtain ⟨n, hn, e⟩ := of_toInt (x := x) (k := 4096) h0 (by omega)
  have h2 : tbcF (nI n) = nI (cnt n 12) := of_decide_eq_true (List.all_eq_true.mp tbc_all n (List.mem_range.mpr hn))
  have h3 := cnt_le n 12
  rw [e, h2, nI_toInt (by omega), cnt_B (Nat.le_refl _)]
end
section
def WY (hY : Nat → Nat) (aY : Nat → Nat) (kY : Nat → ClassId) (nY : Nat) (fY : Nat → Int32) : va_W := [(aY 0, .inl (kY 0, nY, .inl fY))]
def tY (kY : Nat → ClassId) : List (ClassId × FieldType) := [(kY 0, .int)]
def WZ (hZ : Nat → Nat) (aZ : Nat → Nat) (kZ : Nat → ClassId) (nZ : Nat) (gZ : Nat → Int64) : va_W := [(aZ 0, .inl (kZ 0, nZ, .inr (.inl gZ)))]
def tZ (kZ : Nat → ClassId) : List (ClassId × FieldType) := [(kZ 0, .long)]
theorem gdwsX00 : wsX00.all goodWord = true := by decide +kernel
theorem gdwsX10 : wsX10.all goodWord = true := by decide +kernel
theorem gdwsX20 : wsX20.all goodWord = true := by decide +kernel
theorem gdwsX30 : wsX30.all goodWord = true := by decide +kernel
theorem gdwsX40 : wsX40.all goodWord = true := by decide +kernel
theorem gdwsX50 : wsX50.all goodWord = true := by decide +kernel
theorem gdwsX60 : wsX60.all goodWord = true := by decide +kernel
theorem gdwsX70 : wsX70.all goodWord = true := by decide +kernel
theorem gdwsX80 : wsX80.all goodWord = true := by decide +kernel
theorem gdwsX90 : wsX90.all goodWord = true := by decide +kernel
theorem gdwsX100 : wsX100.all goodWord = true := by decide +kernel
theorem gdwsX110 : wsX110.all goodWord = true := by decide +kernel
theorem dJ7_fill_53178_0 : decode cJ7_fill_53178 0 = .ok (.iconst 0, 1) := dk_3 (by decide +kernel)
theorem dJ7_fill_53178_1 : decode cJ7_fill_53178 1 = .ok (.istore_n 2, 1) := dk_61 (by decide +kernel)
theorem dJ7_fill_53178_2 : decode cJ7_fill_53178 2 = .ok (.aload_n 0, 1) := dk_42 (by decide +kernel)
theorem dJ7_fill_53178_3 : decode cJ7_fill_53178 3 = .ok (.arraylength, 1) := dk_190 (by decide +kernel)
theorem dJ7_fill_53178_4 : decode cJ7_fill_53178 4 = .ok (.istore_n 3, 1) := dk_62 (by decide +kernel)
theorem dJ7_fill_53178_5 : decode cJ7_fill_53178 5 = .ok (.iload_n 2, 1) := dk_28 (by decide +kernel)
theorem dJ7_fill_53178_6 : decode cJ7_fill_53178 6 = .ok (.iload_n 3, 1) := dk_29 (by decide +kernel)
theorem dJ7_fill_53178_7 : decode cJ7_fill_53178 7 = .ok (.if_icmp .ge 13, 3) := dk_162 (by decide +kernel)
theorem dJ7_fill_53178_10 : decode cJ7_fill_53178 10 = .ok (.aload_n 0, 1) := dk_42 (by decide +kernel)
theorem dJ7_fill_53178_11 : decode cJ7_fill_53178 11 = .ok (.iload_n 2, 1) := dk_28 (by decide +kernel)
theorem dJ7_fill_53178_12 : decode cJ7_fill_53178 12 = .ok (.iload_n 1, 1) := dk_27 (by decide +kernel)
theorem dJ7_fill_53178_13 : decode cJ7_fill_53178 13 = .ok (.iastore, 1) := dk_79 (by decide +kernel)
theorem dJ7_fill_53178_14 : decode cJ7_fill_53178 14 = .ok (.iinc 2 1, 3) := dk_132 (by decide +kernel)
theorem dJ7_fill_53178_17 : decode cJ7_fill_53178 17 = .ok (.goto (-12), 3) := dk_167 (by decide +kernel)
theorem dJ7_fill_53178_20 : decode cJ7_fill_53178 20 = .ok (.return_, 1) := dk_177 (by decide +kernel)
def wsMJ7_fill_53178 : List Cond := .code yJ7_fill_53178 cJ7_fill_53178 4 none :: ([])
theorem gdwsMJ7_fill_53178 : wsMJ7_fill_53178.all goodWord = true := gdC rfl (by decide +kernel : ([] : List Cond).all goodWord = true)
set_option maxHeartbeats 4000000 in
set_option maxRecDepth 100000 in
/-- Arrays.fill of ints -/
theorem m_J7_fill_53178 (l : Launch) (dC : Nat → ClassId) (dI : Nat → Nat → Nat) (hY : Nat → Nat) (aY : Nat → Nat) (kY : Nat → ClassId) (nY : Nat) (fY : Nat → Int32) (xv : Int32) (b_nY : 0 ≤ nY ∧ nY ≤ 1000000) (sz : Nat) : Met l yJ7_fill_53178 wsMJ7_fill_53178 ({ frames := 0, cells := 0, slots := 0, locals := 0 }) (va_Pc [.ref (aY 0), .int xv] (fun U => U.heap.size = sz ∧ va_P (dC, dI) vwCl (WY hY aY kY nY fY) U.heap ∧ va_K (dC, dI) vwCl (tY kY) U ∧ va_D (fun _ => True) (WY hY aY kY nY fY))) (va_Qv (fun (u : Nat → Int32) => (∀ q : Nat, q < nY → u q = xv)) (fun (u : Nat → Int32) t => va_P (dC, dI) vwCl (WY hY aY kY nY u) t.heap ∧ va_D (va_A (WY hY aY kY nY fY) sz) (WY hY aY kY nY u)) (va_A (WY hY aY kY nY fY) sz)) 0 0 (va_A (WY hY aY kY nY fY) sz) := by
  refine Met.ofW (cc := cJ7_fill_53178) (maxL := 4) (ret := none) (by decide) rfl ?_
  intro p e s m args below meth c s₁ B hml hv
  obtain ⟨rfl, hsz, hP, hK, hD0⟩ := hv
  have hx := B.exec
  have hb := B.bytes
  have hr := B.returns
  have hts := atoms_spec (ws := wsMJ7_fill_53178) B.pre
  have hown : s.vm.findClass RJ7 = some m.cls := findClass_of_methodNamed B.named
  have hlocks := B.notSynchronized
  subst hsz
  have hD := hD0.self (sz := s.heap.size)
  generalize hAe : va_A (WY hY aY kY nY fY) s.heap.size = A at hD ⊢
  have hA : ∀ q : Nat, s.heap.size ≤ q → A q := fun q h => by rw [← hAe]; exact Or.inr h
  have hS : va_S A s.heap s.heap [] := va_S.rf
  have hl := lv_entry ([.ref (aY 0), .int xv]) (n := 4) (Nat.le_of_ble_eq_true rfl)
  rw [lg_entry_eq]
  generalize (lg_sl ([.ref (aY 0), .int xv]) ++ List.replicate (4 - (lg_sl ([.ref (aY 0), .int xv])).length) Slot.unset).toArray = ls at hl ⊢
  have hl : lv_has ls 4 [(0, .ref (aY 0)), (1, .int xv)] := hl
  refine lv_iconst (v := 0) hx hb dJ7_fill_53178_0 (by decide) ?_
  refine lv_istore_n hx hb dJ7_fill_53178_1 rfl hl (by decide) rfl (fun ls (hl : lv_has ls _ ([(2, .int 0), (0, .ref (aY 0)), (1, .int xv)])) => ?_)
  refine lv_aload_n hx hb dJ7_fill_53178_2 rfl (lv_at hl 1 rfl) ?_
  refine va_alen hx hb hK hP 0 0 rfl rfl (v := (iI ((nY : Nat) : Int))) (iI_nat _) dJ7_fill_53178_3 ?_
  refine lv_istore_n hx hb dJ7_fill_53178_4 rfl hl (by decide) rfl (fun ls (hl : lv_has ls _ ([(3, .int (iI ((nY : Nat) : Int))), (2, .int 0), (0, .ref (aY 0)), (1, .int xv)])) => ?_)
  have hl : lv_has _ _ ([(3, .int (iI ((nY : Nat) : Int))), (2, .int 0), (0, .ref (aY 0)), (1, .int xv)]) := lv_sub hl [0, 1, 2, 3] rfl
  refine (fun (loop : ∀ (n9 : Nat) (fY_x5 : Nat → Int32) (l2_x5 : Int32) (H : Heap) (locs : List Loc) (ls : Array Slot), (0 ≤ l2_x5.toInt ∧ l2_x5.toInt ≤ 1000000) → (∀ q : Nat, (q : Int) < l2_x5.toInt → fY_x5 q = xv) → (1000000 - l2_x5.toInt < ((n9 : Nat) : Int)) → va_P (dC, dI) vwCl (WY hY aY kY nY fY_x5) H → va_D A (WY hY aY kY nY fY_x5) → va_S A s.heap H locs → lv_has ls 4 [(3, .int (iI ((nY : Nat) : Int))), (2, .int l2_x5), (0, .ref (aY 0)), (1, .int xv)] → W p l e _ s m _ below meth c H locs 0 0 _ (F0 m 5 ls [])) => loop (1000001) fY 0 _ _ _ (show 0 ≤ (0 : Int32).toInt ∧ (0 : Int32).toInt ≤ 1000000 from by decide) (show ∀ q : Nat, (q : Int) < (0 : Int32).toInt → fY q = xv from fun q hq => absurd hq (by have h7 : (0 : Int32).toInt = 0 := (by decide); omega)) ((by have e9 : (0 : Int32).toInt = 0 := (by decide : (0 : Int32).toInt = 0); omega)) hP hD hS hl) ?_
  intro n9
  induction n9 with
  | zero => intro fY_x5 l2_x5 H locs ls b_l2_x5 hFl hf9; exact False.elim (by omega)
  | succ n9 ihx5 =>
    intro fY_x5 l2_x5 H locs ls b_l2_x5 hFl hfx5 hP hD hS hl
    refine lv_iload_n hx hb dJ7_fill_53178_5 rfl (lv_at hl 1 rfl) ?_
    refine lv_iload_n hx hb dJ7_fill_53178_6 rfl (lv_at hl 0 rfl) ?_
    refine lv_icmp_ge (tgt := 20) hx hb dJ7_fill_53178_7 (by decide) (fun c_7 => ?_) (fun c_7 => ?_)
    · first | (have t_7 : l2_x5.toInt ≥ ((nY : Nat) : Int) := toI_ge c_7 rfl (iI_t (by omega) (by omega))) | skip
      refine W.widen (k := 0) (n := 0) (by decide +kernel) (by decide +kernel) ?_
      exact W.vret hx hb hr (fun t9_ ht hW => ⟨⟨fY_x5, rfl, (by (try dsimp only); exact (fun q hq => hFl q (by omega))), by rw [ht]; exact hP, hD⟩, hS.F ht⟩) hS.2.2 dJ7_fill_53178_20
    · first | (have t_7 : ¬ l2_x5.toInt ≥ ((nY : Nat) : Int) := toI_nge c_7 rfl (iI_t (by omega) (by omega))) | skip
      refine lv_aload_n hx hb dJ7_fill_53178_10 rfl (lv_at hl 2 rfl) ?_
      refine lv_iload_n hx hb dJ7_fill_53178_11 rfl (lv_at hl 1 rfl) ?_
      refine lv_iload_n hx hb dJ7_fill_53178_12 rfl (lv_at hl 3 rfl) ?_
      refine va_iast (cA := kY 0) (n := nY) (f := fY_x5) hx hb hK hP hD hS 0 0 rfl rfl (vp_in_iff.mpr ⟨b_l2_x5.1, (by omega)⟩) dJ7_fill_53178_13 (fun H locs hP hD hS => ?_)
      obtain ⟨u6, hu6⟩ : ∃ f9, f9 = upd fY_x5 (l2_x5).toNatClampNeg xv := ⟨_, rfl⟩
      have hP : va_P (dC, dI) vwCl (WY hY aY kY nY u6) H := by rw [hu6]; exact hP
      have hD : va_D A (WY hY aY kY nY u6) := by rw [hu6]; exact hD
      have b_u6 : u6 = upd fY_x5 (l2_x5).toNatClampNeg xv := hu6
      clear hu6
      refine lv_iinc (v := (iI (l2_x5.toInt + 1))) hx hb dJ7_fill_53178_14 hl (k := 1) rfl (iI_add2 (iI_of _) (by decide : (1 : Int32) = iI 1)) (by decide) rfl (fun ls (hl : lv_has ls _ ([(2, .int (iI (l2_x5.toInt + 1))), (3, .int (iI ((nY : Nat) : Int))), (0, .ref (aY 0)), (1, .int xv)])) => ?_)
      refine lv_goto (tgt := 5) hx hb dJ7_fill_53178_17 (by decide) ?_
      have hl : lv_has _ _ ([(3, .int (iI ((nY : Nat) : Int))), (2, .int (iI (l2_x5.toInt + 1))), (0, .ref (aY 0)), (1, .int xv)]) := lv_sub hl [1, 0, 2, 3] rfl
      exact ihx5 u6 (iI (l2_x5.toInt + 1)) _ _ _ (iI_rng (Int.le_trans (by decide) (Int.add_le_add (b_l2_x5.1) (Int.le_refl _))) (by omega) (by decide) (by decide)) (show ∀ q : Nat, (q : Int) < (iI (l2_x5.toInt + 1)).toInt → u6 q = xv from by rw [iI_t (by omega) (by omega)]; exact fill_step hFl (by omega) b_u6) (by have e9 : ((iI (l2_x5.toInt + 1))).toInt = (l2_x5.toInt + 1) := (iI_t (Int.le_trans (by decide) (Int.add_le_add (b_l2_x5.1) (Int.le_refl _))) (Int.le_trans (Int.add_le_add (b_l2_x5.2) (Int.le_refl _)) (by decide))); omega) hP hD hS hl
theorem dJ7_fill_d0a16_0 : decode cJ7_fill_d0a16 0 = .ok (.iconst 0, 1) := dk_3 (by decide +kernel)
theorem dJ7_fill_d0a16_1 : decode cJ7_fill_d0a16 1 = .ok (.istore_n 3, 1) := dk_62 (by decide +kernel)
theorem dJ7_fill_d0a16_2 : decode cJ7_fill_d0a16 2 = .ok (.aload_n 0, 1) := dk_42 (by decide +kernel)
theorem dJ7_fill_d0a16_3 : decode cJ7_fill_d0a16 3 = .ok (.arraylength, 1) := dk_190 (by decide +kernel)
theorem dJ7_fill_d0a16_4 : decode cJ7_fill_d0a16 4 = .ok (.istore 4, 2) := dk_54 (by decide +kernel)
theorem dJ7_fill_d0a16_6 : decode cJ7_fill_d0a16 6 = .ok (.iload_n 3, 1) := dk_29 (by decide +kernel)
theorem dJ7_fill_d0a16_7 : decode cJ7_fill_d0a16 7 = .ok (.iload 4, 2) := dk_21 (by decide +kernel)
theorem dJ7_fill_d0a16_9 : decode cJ7_fill_d0a16 9 = .ok (.if_icmp .ge 13, 3) := dk_162 (by decide +kernel)
theorem dJ7_fill_d0a16_12 : decode cJ7_fill_d0a16 12 = .ok (.aload_n 0, 1) := dk_42 (by decide +kernel)
theorem dJ7_fill_d0a16_13 : decode cJ7_fill_d0a16 13 = .ok (.iload_n 3, 1) := dk_29 (by decide +kernel)
theorem dJ7_fill_d0a16_14 : decode cJ7_fill_d0a16 14 = .ok (.lload_n 1, 1) := dk_31 (by decide +kernel)
theorem dJ7_fill_d0a16_15 : decode cJ7_fill_d0a16 15 = .ok (.lastore, 1) := dk_80 (by decide +kernel)
theorem dJ7_fill_d0a16_16 : decode cJ7_fill_d0a16 16 = .ok (.iinc 3 1, 3) := dk_132 (by decide +kernel)
theorem dJ7_fill_d0a16_19 : decode cJ7_fill_d0a16 19 = .ok (.goto (-13), 3) := dk_167 (by decide +kernel)
theorem dJ7_fill_d0a16_22 : decode cJ7_fill_d0a16 22 = .ok (.return_, 1) := dk_177 (by decide +kernel)
def wsMJ7_fill_d0a16 : List Cond := .code yJ7_fill_d0a16 cJ7_fill_d0a16 5 none :: ([])
theorem gdwsMJ7_fill_d0a16 : wsMJ7_fill_d0a16.all goodWord = true := gdC rfl (by decide +kernel : ([] : List Cond).all goodWord = true)
set_option maxHeartbeats 4000000 in
set_option maxRecDepth 100000 in
/-- Arrays.fill of longs -/
theorem m_J7_fill_d0a16 (l : Launch) (dC : Nat → ClassId) (dI : Nat → Nat → Nat) (hZ : Nat → Nat) (aZ : Nat → Nat) (kZ : Nat → ClassId) (nZ : Nat) (gZ : Nat → Int64) (xv : Int64) (b_nZ : 0 ≤ nZ ∧ nZ ≤ 1000000) (sz : Nat) : Met l yJ7_fill_d0a16 wsMJ7_fill_d0a16 ({ frames := 0, cells := 0, slots := 0, locals := 0 }) (va_Pc [.ref (aZ 0), .long xv] (fun U => U.heap.size = sz ∧ va_P (dC, dI) vwCl (WZ hZ aZ kZ nZ gZ) U.heap ∧ va_K (dC, dI) vwCl (tZ kZ) U ∧ va_D (fun _ => True) (WZ hZ aZ kZ nZ gZ))) (va_Qv (fun (u : Nat → Int64) => True) (fun (u : Nat → Int64) t => va_P (dC, dI) vwCl (WZ hZ aZ kZ nZ u) t.heap ∧ va_D (va_A (WZ hZ aZ kZ nZ gZ) sz) (WZ hZ aZ kZ nZ u)) (va_A (WZ hZ aZ kZ nZ gZ) sz)) 0 0 (va_A (WZ hZ aZ kZ nZ gZ) sz) := by
  refine Met.ofW (cc := cJ7_fill_d0a16) (maxL := 5) (ret := none) (by decide) rfl ?_
  intro p e s m args below meth c s₁ B hml hv
  obtain ⟨rfl, hsz, hP, hK, hD0⟩ := hv
  have hx := B.exec
  have hb := B.bytes
  have hr := B.returns
  have hts := atoms_spec (ws := wsMJ7_fill_d0a16) B.pre
  have hown : s.vm.findClass RJ7 = some m.cls := findClass_of_methodNamed B.named
  have hlocks := B.notSynchronized
  subst hsz
  have hD := hD0.self (sz := s.heap.size)
  generalize hAe : va_A (WZ hZ aZ kZ nZ gZ) s.heap.size = A at hD ⊢
  have hA : ∀ q : Nat, s.heap.size ≤ q → A q := fun q h => by rw [← hAe]; exact Or.inr h
  have hS : va_S A s.heap s.heap [] := va_S.rf
  have hl := lv_entry ([.ref (aZ 0), .long xv]) (n := 5) (Nat.le_of_ble_eq_true rfl)
  rw [lg_entry_eq]
  generalize (lg_sl ([.ref (aZ 0), .long xv]) ++ List.replicate (5 - (lg_sl ([.ref (aZ 0), .long xv])).length) Slot.unset).toArray = ls at hl ⊢
  have hl : lv_has ls 5 [(0, .ref (aZ 0)), (1, .long xv)] := hl
  refine lv_iconst (v := 0) hx hb dJ7_fill_d0a16_0 (by decide) ?_
  refine lv_istore_n hx hb dJ7_fill_d0a16_1 rfl hl (by decide) rfl (fun ls (hl : lv_has ls _ ([(3, .int 0), (0, .ref (aZ 0)), (1, .long xv)])) => ?_)
  refine lv_aload_n hx hb dJ7_fill_d0a16_2 rfl (lv_at hl 1 rfl) ?_
  refine va_alen hx hb hK hP 0 0 rfl rfl (v := (iI ((nZ : Nat) : Int))) (iI_nat _) dJ7_fill_d0a16_3 ?_
  refine lv_istore hx hb dJ7_fill_d0a16_4 hl (by decide) rfl (fun ls (hl : lv_has ls _ ([(4, .int (iI ((nZ : Nat) : Int))), (3, .int 0), (0, .ref (aZ 0)), (1, .long xv)])) => ?_)
  have hl : lv_has _ _ ([(4, .int (iI ((nZ : Nat) : Int))), (3, .int 0), (0, .ref (aZ 0)), (1, .long xv)]) := lv_sub hl [0, 1, 2, 3] rfl
  refine (fun (loop : ∀ (n9 : Nat) (gZ_x6 : Nat → Int64) (l3_x6 : Int32) (H : Heap) (locs : List Loc) (ls : Array Slot), (0 ≤ l3_x6.toInt ∧ l3_x6.toInt ≤ 1000000) → (1000000 - l3_x6.toInt < ((n9 : Nat) : Int)) → va_P (dC, dI) vwCl (WZ hZ aZ kZ nZ gZ_x6) H → va_D A (WZ hZ aZ kZ nZ gZ_x6) → va_S A s.heap H locs → lv_has ls 5 [(4, .int (iI ((nZ : Nat) : Int))), (3, .int l3_x6), (0, .ref (aZ 0)), (1, .long xv)] → W p l e _ s m _ below meth c H locs 0 0 _ (F0 m 6 ls [])) => loop (1000001) gZ 0 _ _ _ (show 0 ≤ (0 : Int32).toInt ∧ (0 : Int32).toInt ≤ 1000000 from by decide) ((by have e9 : (0 : Int32).toInt = 0 := (by decide : (0 : Int32).toInt = 0); omega)) hP hD hS hl) ?_
  intro n9
  induction n9 with
  | zero => intro gZ_x6 l3_x6 H locs ls b_l3_x6 hf9; exact False.elim (by omega)
  | succ n9 ihx6 =>
    intro gZ_x6 l3_x6 H locs ls b_l3_x6 hfx6 hP hD hS hl
    refine lv_iload_n hx hb dJ7_fill_d0a16_6 rfl (lv_at hl 1 rfl) ?_
    refine lv_iload hx hb dJ7_fill_d0a16_7 (lv_at hl 0 rfl) ?_
    refine lv_icmp_ge (tgt := 22) hx hb dJ7_fill_d0a16_9 (by decide) (fun c_9 => ?_) (fun c_9 => ?_)
    · first | (have t_9 : l3_x6.toInt ≥ ((nZ : Nat) : Int) := toI_ge c_9 rfl (iI_t (by omega) (by omega))) | skip
      refine W.widen (k := 0) (n := 0) (by decide +kernel) (by decide +kernel) ?_
      exact W.vret hx hb hr (fun t9_ ht hW => ⟨⟨gZ_x6, rfl, trivial, by rw [ht]; exact hP, hD⟩, hS.F ht⟩) hS.2.2 dJ7_fill_d0a16_22
    · first | (have t_9 : ¬ l3_x6.toInt ≥ ((nZ : Nat) : Int) := toI_nge c_9 rfl (iI_t (by omega) (by omega))) | skip
      refine lv_aload_n hx hb dJ7_fill_d0a16_12 rfl (lv_at hl 2 rfl) ?_
      refine lv_iload_n hx hb dJ7_fill_d0a16_13 rfl (lv_at hl 1 rfl) ?_
      refine lv_lload_n hx hb dJ7_fill_d0a16_14 rfl (lv_at hl 3 rfl) ?_
      refine va_last (cA := kZ 0) (n := nZ) (f := gZ_x6) hx hb hK hP hD hS 0 0 rfl rfl (vp_in_iff.mpr ⟨b_l3_x6.1, (by omega)⟩) dJ7_fill_d0a16_15 (fun H locs hP hD hS => ?_)
      obtain ⟨u6, hu6⟩ : ∃ f9, f9 = vp_updL gZ_x6 (l3_x6).toNatClampNeg xv := ⟨_, rfl⟩
      have hP : va_P (dC, dI) vwCl (WZ hZ aZ kZ nZ u6) H := by rw [hu6]; exact hP
      have hD : va_D A (WZ hZ aZ kZ nZ u6) := by rw [hu6]; exact hD
      clear hu6
      refine lv_iinc (v := (iI (l3_x6.toInt + 1))) hx hb dJ7_fill_d0a16_16 hl (k := 1) rfl (iI_add2 (iI_of _) (by decide : (1 : Int32) = iI 1)) (by decide) rfl (fun ls (hl : lv_has ls _ ([(3, .int (iI (l3_x6.toInt + 1))), (4, .int (iI ((nZ : Nat) : Int))), (0, .ref (aZ 0)), (1, .long xv)])) => ?_)
      refine lv_goto (tgt := 6) hx hb dJ7_fill_d0a16_19 (by decide) ?_
      have hl : lv_has _ _ ([(4, .int (iI ((nZ : Nat) : Int))), (3, .int (iI (l3_x6.toInt + 1))), (0, .ref (aZ 0)), (1, .long xv)]) := lv_sub hl [1, 0, 2, 3] rfl
      exact ihx6 u6 (iI (l3_x6.toInt + 1)) _ _ _ (iI_rng (Int.le_trans (by decide) (Int.add_le_add (b_l3_x6.1) (Int.le_refl _))) (by omega) (by decide) (by decide)) (by have e9 : ((iI (l3_x6.toInt + 1))).toInt = (l3_x6.toInt + 1) := (iI_t (Int.le_trans (by decide) (Int.add_le_add (b_l3_x6.1) (Int.le_refl _))) (Int.le_trans (Int.add_le_add (b_l3_x6.2) (Int.le_refl _)) (by decide))); omega) hP hD hS hl
theorem dJ6_bitCount_0f7a4_0 : decode cJ6_bitCount_0f7a4 0 = .ok (.iload_n 0, 1) := dk_26 (by decide +kernel)
theorem dJ6_bitCount_0f7a4_1 : decode cJ6_bitCount_0f7a4 1 = .ok (.iload_n 0, 1) := dk_26 (by decide +kernel)
theorem dJ6_bitCount_0f7a4_2 : decode cJ6_bitCount_0f7a4 2 = .ok (.iconst 1, 1) := dk_4 (by decide +kernel)
theorem dJ6_bitCount_0f7a4_3 : decode cJ6_bitCount_0f7a4 3 = .ok (.iushr, 1) := dk_124 (by decide +kernel)
theorem dJ6_bitCount_0f7a4_4 : decode cJ6_bitCount_0f7a4 4 = .ok (.ldc_w 265, 3) := dk_19 (by decide +kernel)
theorem dJ6_bitCount_0f7a4_7 : decode cJ6_bitCount_0f7a4 7 = .ok (.iand, 1) := dk_126 (by decide +kernel)
theorem dJ6_bitCount_0f7a4_8 : decode cJ6_bitCount_0f7a4 8 = .ok (.isub, 1) := dk_100 (by decide +kernel)
theorem dJ6_bitCount_0f7a4_9 : decode cJ6_bitCount_0f7a4 9 = .ok (.istore_n 0, 1) := dk_59 (by decide +kernel)
theorem dJ6_bitCount_0f7a4_10 : decode cJ6_bitCount_0f7a4 10 = .ok (.iload_n 0, 1) := dk_26 (by decide +kernel)
theorem dJ6_bitCount_0f7a4_11 : decode cJ6_bitCount_0f7a4 11 = .ok (.ldc_w 266, 3) := dk_19 (by decide +kernel)
theorem dJ6_bitCount_0f7a4_14 : decode cJ6_bitCount_0f7a4 14 = .ok (.iand, 1) := dk_126 (by decide +kernel)
theorem dJ6_bitCount_0f7a4_15 : decode cJ6_bitCount_0f7a4 15 = .ok (.iload_n 0, 1) := dk_26 (by decide +kernel)
theorem dJ6_bitCount_0f7a4_16 : decode cJ6_bitCount_0f7a4 16 = .ok (.iconst 2, 1) := dk_5 (by decide +kernel)
theorem dJ6_bitCount_0f7a4_17 : decode cJ6_bitCount_0f7a4 17 = .ok (.iushr, 1) := dk_124 (by decide +kernel)
theorem dJ6_bitCount_0f7a4_18 : decode cJ6_bitCount_0f7a4 18 = .ok (.ldc_w 266, 3) := dk_19 (by decide +kernel)
theorem dJ6_bitCount_0f7a4_21 : decode cJ6_bitCount_0f7a4 21 = .ok (.iand, 1) := dk_126 (by decide +kernel)
theorem dJ6_bitCount_0f7a4_22 : decode cJ6_bitCount_0f7a4 22 = .ok (.iadd, 1) := dk_96 (by decide +kernel)
theorem dJ6_bitCount_0f7a4_23 : decode cJ6_bitCount_0f7a4 23 = .ok (.istore_n 0, 1) := dk_59 (by decide +kernel)
theorem dJ6_bitCount_0f7a4_24 : decode cJ6_bitCount_0f7a4 24 = .ok (.iload_n 0, 1) := dk_26 (by decide +kernel)
theorem dJ6_bitCount_0f7a4_25 : decode cJ6_bitCount_0f7a4 25 = .ok (.iload_n 0, 1) := dk_26 (by decide +kernel)
theorem dJ6_bitCount_0f7a4_26 : decode cJ6_bitCount_0f7a4 26 = .ok (.iconst 4, 1) := dk_7 (by decide +kernel)
theorem dJ6_bitCount_0f7a4_27 : decode cJ6_bitCount_0f7a4 27 = .ok (.iushr, 1) := dk_124 (by decide +kernel)
theorem dJ6_bitCount_0f7a4_28 : decode cJ6_bitCount_0f7a4 28 = .ok (.iadd, 1) := dk_96 (by decide +kernel)
theorem dJ6_bitCount_0f7a4_29 : decode cJ6_bitCount_0f7a4 29 = .ok (.ldc_w 267, 3) := dk_19 (by decide +kernel)
theorem dJ6_bitCount_0f7a4_32 : decode cJ6_bitCount_0f7a4 32 = .ok (.iand, 1) := dk_126 (by decide +kernel)
theorem dJ6_bitCount_0f7a4_33 : decode cJ6_bitCount_0f7a4 33 = .ok (.istore_n 0, 1) := dk_59 (by decide +kernel)
theorem dJ6_bitCount_0f7a4_34 : decode cJ6_bitCount_0f7a4 34 = .ok (.iload_n 0, 1) := dk_26 (by decide +kernel)
theorem dJ6_bitCount_0f7a4_35 : decode cJ6_bitCount_0f7a4 35 = .ok (.iload_n 0, 1) := dk_26 (by decide +kernel)
theorem dJ6_bitCount_0f7a4_36 : decode cJ6_bitCount_0f7a4 36 = .ok (.bipush 8, 2) := dk_16 (by decide +kernel)
theorem dJ6_bitCount_0f7a4_38 : decode cJ6_bitCount_0f7a4 38 = .ok (.iushr, 1) := dk_124 (by decide +kernel)
theorem dJ6_bitCount_0f7a4_39 : decode cJ6_bitCount_0f7a4 39 = .ok (.iadd, 1) := dk_96 (by decide +kernel)
theorem dJ6_bitCount_0f7a4_40 : decode cJ6_bitCount_0f7a4 40 = .ok (.istore_n 0, 1) := dk_59 (by decide +kernel)
theorem dJ6_bitCount_0f7a4_41 : decode cJ6_bitCount_0f7a4 41 = .ok (.iload_n 0, 1) := dk_26 (by decide +kernel)
theorem dJ6_bitCount_0f7a4_42 : decode cJ6_bitCount_0f7a4 42 = .ok (.iload_n 0, 1) := dk_26 (by decide +kernel)
theorem dJ6_bitCount_0f7a4_43 : decode cJ6_bitCount_0f7a4 43 = .ok (.bipush 16, 2) := dk_16 (by decide +kernel)
theorem dJ6_bitCount_0f7a4_45 : decode cJ6_bitCount_0f7a4 45 = .ok (.iushr, 1) := dk_124 (by decide +kernel)
theorem dJ6_bitCount_0f7a4_46 : decode cJ6_bitCount_0f7a4 46 = .ok (.iadd, 1) := dk_96 (by decide +kernel)
theorem dJ6_bitCount_0f7a4_47 : decode cJ6_bitCount_0f7a4 47 = .ok (.istore_n 0, 1) := dk_59 (by decide +kernel)
theorem dJ6_bitCount_0f7a4_48 : decode cJ6_bitCount_0f7a4 48 = .ok (.iload_n 0, 1) := dk_26 (by decide +kernel)
theorem dJ6_bitCount_0f7a4_49 : decode cJ6_bitCount_0f7a4 49 = .ok (.bipush 63, 2) := dk_16 (by decide +kernel)
theorem dJ6_bitCount_0f7a4_51 : decode cJ6_bitCount_0f7a4 51 = .ok (.iand, 1) := dk_126 (by decide +kernel)
theorem dJ6_bitCount_0f7a4_52 : decode cJ6_bitCount_0f7a4 52 = .ok (.ireturn, 1) := dk_172 (by decide +kernel)
def wsMJ6_bitCount_0f7a4 : List Cond := .code yJ6_bitCount_0f7a4 cJ6_bitCount_0f7a4 1 (some .int) :: ([.constant RJ6 265 1431655765, .constant RJ6 266 858993459, .constant RJ6 267 252645135])
theorem gdwsMJ6_bitCount_0f7a4 : wsMJ6_bitCount_0f7a4.all goodWord = true := gdC rfl (by decide +kernel : ([.constant RJ6 265 1431655765, .constant RJ6 266 858993459, .constant RJ6 267 252645135] : List Cond).all goodWord = true)
set_option maxHeartbeats 4000000 in
set_option maxRecDepth 100000 in
/-- Integer.bitCount -/
theorem m_J6_bitCount_0f7a4 (l : Launch) (dC : Nat → ClassId) (dI : Nat → Nat → Nat) (xv : Int32) (sz : Nat) : Met l yJ6_bitCount_0f7a4 wsMJ6_bitCount_0f7a4 ({ frames := 0, cells := 0, slots := 0, locals := 0 }) (va_Pc [.int xv] (fun U => U.heap.size = sz ∧ va_P (dC, dI) vwCl [] U.heap ∧ va_K (dC, dI) vwCl [] U ∧ va_D (fun _ => True) [])) (va_Qi (fun (r : Int32) (u : Unit) => (0 ≤ r.toInt ∧ r.toInt ≤ 63) ∧ (0 ≤ xv.toInt → xv.toInt ≤ 4095 → r.toInt = (cntB (bI xv) 12 : Int))) (fun (u : Unit) t => True) (va_A [] sz)) 0 0 (va_A [] sz) := by
  refine Met.ofW (cc := cJ6_bitCount_0f7a4) (maxL := 1) (ret := (some .int)) (by decide) rfl ?_
  intro p e s m args below meth c s₁ B hml hv
  obtain ⟨rfl, hsz, hP, hK, hD0⟩ := hv
  have hx := B.exec
  have hb := B.bytes
  have hr := B.returns
  have hts := atoms_spec (ws := wsMJ6_bitCount_0f7a4) B.pre
  have hown : s.vm.findClass RJ6 = some m.cls := findClass_of_methodNamed B.named
  have hlocks := B.notSynchronized
  subst hsz
  have hD := hD0.self (sz := s.heap.size)
  generalize hAe : va_A [] s.heap.size = A at hD ⊢
  have hA : ∀ q : Nat, s.heap.size ≤ q → A q := fun q h => by rw [← hAe]; exact Or.inr h
  have hS : va_S A s.heap s.heap [] := va_S.rf
  have hl := lv_entry ([.int xv]) (n := 1) (Nat.le_of_ble_eq_true rfl)
  rw [lg_entry_eq]
  generalize (lg_sl ([.int xv]) ++ List.replicate (1 - (lg_sl ([.int xv])).length) Slot.unset).toArray = ls at hl ⊢
  have hl : lv_has ls 1 [(0, .int xv)] := hl
  refine lv_iload_n hx hb dJ6_bitCount_0f7a4_0 rfl (lv_at hl 0 rfl) ?_
  refine lv_iload_n hx hb dJ6_bitCount_0f7a4_1 rfl (lv_at hl 0 rfl) ?_
  refine lv_iconst (v := 1) hx hb dJ6_bitCount_0f7a4_2 (by decide) ?_
  refine lv_iushr hx hb dJ6_bitCount_0f7a4_3 rfl ?_
  refine lv_topi (fun v1 hv1 => ?_)
  have b_v1 : v1 = tbcU xv (1 : Int32) := hv1
  clear hv1
  refine lv_ldcw (v := 1431655765) hx hb hown (hts (.constant RJ6 265 1431655765) (by decide +kernel)) dJ6_bitCount_0f7a4_4 ?_
  refine lv_iand hx hb dJ6_bitCount_0f7a4_7 ?_
  refine lv_topi (fun v2 hv2 => ?_)
  have b_v2 : v2 = v1 &&& (1431655765 : Int32) := hv2
  clear hv2
  refine lv_isub hx hb dJ6_bitCount_0f7a4_8 ?_
  refine lv_topi (fun v3 hv3 => ?_)
  have b_v3 : v3 = xv - v2 := hv3
  clear hv3
  refine lv_istore_n hx hb dJ6_bitCount_0f7a4_9 rfl hl (by decide) rfl (fun ls (hl : lv_has ls _ ([(0, .int v3)])) => ?_)
  refine lv_iload_n hx hb dJ6_bitCount_0f7a4_10 rfl (lv_at hl 0 rfl) ?_
  refine lv_ldcw (v := 858993459) hx hb hown (hts (.constant RJ6 266 858993459) (by decide +kernel)) dJ6_bitCount_0f7a4_11 ?_
  refine lv_iand hx hb dJ6_bitCount_0f7a4_14 ?_
  refine lv_topi (fun v4 hv4 => ?_)
  have b_v4 : v4 = v3 &&& (858993459 : Int32) := hv4
  clear hv4
  refine lv_iload_n hx hb dJ6_bitCount_0f7a4_15 rfl (lv_at hl 0 rfl) ?_
  refine lv_iconst (v := 2) hx hb dJ6_bitCount_0f7a4_16 (by decide) ?_
  refine lv_iushr hx hb dJ6_bitCount_0f7a4_17 rfl ?_
  refine lv_topi (fun v5 hv5 => ?_)
  have b_v5 : v5 = tbcU v3 (2 : Int32) := hv5
  clear hv5
  refine lv_ldcw (v := 858993459) hx hb hown (hts (.constant RJ6 266 858993459) (by decide +kernel)) dJ6_bitCount_0f7a4_18 ?_
  refine lv_iand hx hb dJ6_bitCount_0f7a4_21 ?_
  refine lv_topi (fun v6 hv6 => ?_)
  have b_v6 : v6 = v5 &&& (858993459 : Int32) := hv6
  clear hv6
  refine lv_iadd hx hb dJ6_bitCount_0f7a4_22 ?_
  refine lv_topi (fun v7 hv7 => ?_)
  have b_v7 : v7 = v4 + v6 := hv7
  clear hv7
  refine lv_istore_n hx hb dJ6_bitCount_0f7a4_23 rfl hl (by decide) rfl (fun ls (hl : lv_has ls _ ([(0, .int v7)])) => ?_)
  refine lv_iload_n hx hb dJ6_bitCount_0f7a4_24 rfl (lv_at hl 0 rfl) ?_
  refine lv_iload_n hx hb dJ6_bitCount_0f7a4_25 rfl (lv_at hl 0 rfl) ?_
  refine lv_iconst (v := 4) hx hb dJ6_bitCount_0f7a4_26 (by decide) ?_
  refine lv_iushr hx hb dJ6_bitCount_0f7a4_27 rfl ?_
  refine lv_topi (fun v8 hv8 => ?_)
  have b_v8 : v8 = tbcU v7 (4 : Int32) := hv8
  clear hv8
  refine lv_iadd hx hb dJ6_bitCount_0f7a4_28 ?_
  refine lv_topi (fun v9 hv9 => ?_)
  have b_v9 : v9 = v7 + v8 := hv9
  clear hv9
  refine lv_ldcw (v := 252645135) hx hb hown (hts (.constant RJ6 267 252645135) (by decide +kernel)) dJ6_bitCount_0f7a4_29 ?_
  refine lv_iand hx hb dJ6_bitCount_0f7a4_32 ?_
  refine lv_topi (fun v10 hv10 => ?_)
  have b_v10 : v10 = v9 &&& (252645135 : Int32) := hv10
  clear hv10
  refine lv_istore_n hx hb dJ6_bitCount_0f7a4_33 rfl hl (by decide) rfl (fun ls (hl : lv_has ls _ ([(0, .int v10)])) => ?_)
  refine lv_iload_n hx hb dJ6_bitCount_0f7a4_34 rfl (lv_at hl 0 rfl) ?_
  refine lv_iload_n hx hb dJ6_bitCount_0f7a4_35 rfl (lv_at hl 0 rfl) ?_
  refine lv_bipush (v := 8) hx hb dJ6_bitCount_0f7a4_36 (by decide) ?_
  refine lv_iushr hx hb dJ6_bitCount_0f7a4_38 rfl ?_
  refine lv_topi (fun v11 hv11 => ?_)
  have b_v11 : v11 = tbcU v10 (8 : Int32) := hv11
  clear hv11
  refine lv_iadd hx hb dJ6_bitCount_0f7a4_39 ?_
  refine lv_topi (fun v12 hv12 => ?_)
  have b_v12 : v12 = v10 + v11 := hv12
  clear hv12
  refine lv_istore_n hx hb dJ6_bitCount_0f7a4_40 rfl hl (by decide) rfl (fun ls (hl : lv_has ls _ ([(0, .int v12)])) => ?_)
  refine lv_iload_n hx hb dJ6_bitCount_0f7a4_41 rfl (lv_at hl 0 rfl) ?_
  refine lv_iload_n hx hb dJ6_bitCount_0f7a4_42 rfl (lv_at hl 0 rfl) ?_
  refine lv_bipush (v := 16) hx hb dJ6_bitCount_0f7a4_43 (by decide) ?_
  refine lv_iushr hx hb dJ6_bitCount_0f7a4_45 rfl ?_
  refine lv_topi (fun v13 hv13 => ?_)
  have b_v13 : v13 = tbcU v12 (16 : Int32) := hv13
  clear hv13
  refine lv_iadd hx hb dJ6_bitCount_0f7a4_46 ?_
  refine lv_topi (fun v14 hv14 => ?_)
  have b_v14 : v14 = v12 + v13 := hv14
  clear hv14
  refine lv_istore_n hx hb dJ6_bitCount_0f7a4_47 rfl hl (by decide) rfl (fun ls (hl : lv_has ls _ ([(0, .int v14)])) => ?_)
  refine lv_iload_n hx hb dJ6_bitCount_0f7a4_48 rfl (lv_at hl 0 rfl) ?_
  refine lv_bipush (v := 63) hx hb dJ6_bitCount_0f7a4_49 (by decide) ?_
  refine lv_iand hx hb dJ6_bitCount_0f7a4_51 ?_
  refine lv_topi (fun v15 hv15 => ?_)
  have b_v15 : 0 ≤ v15.toInt ∧ v15.toInt ≤ 63 := by rw [hv15]; exact and_rng _ (by decide) (by decide)
  have b1_v15 : v15 = v14 &&& (63 : Int32) := hv15
  clear hv15
  refine W.widen (k := 0) (n := 0) (by decide +kernel) (by decide +kernel) ?_
  exact W.iret (v := v15) hx hb hr (fun t9_ ht hW => ⟨⟨v15, (), rfl, ⟨(b_v15), (by (try dsimp only); exact (fun h0 h1 => by have e1 : v3 = tbc1 xv := (by rw [b_v3, b_v2, b_v1]; rfl); have e2 : v7 = tbc2 xv := (by rw [b_v7, b_v4, b_v6, b_v5, e1]; rfl); have e3 : v10 = tbc3 xv := (by rw [b_v10, b_v9, b_v8, e2]; rfl); have e4 : v12 = tbc4 xv := (by rw [b_v12, b_v11, e3]; rfl); have e5 : v14 = tbc5 xv := (by rw [b_v14, b_v13, e4]; rfl); rw [b1_v15, e5]; exact tbc_t h0 h1))⟩, trivial⟩, hS.F ht⟩) hS.2.2 dJ6_bitCount_0f7a4_52
theorem dJ13_compare_74951_0 : decode cJ13_compare_74951 0 = .ok (.lload_n 0, 1) := dk_30 (by decide +kernel)
theorem dJ13_compare_74951_1 : decode cJ13_compare_74951 1 = .ok (.lload_n 2, 1) := dk_32 (by decide +kernel)
theorem dJ13_compare_74951_2 : decode cJ13_compare_74951 2 = .ok (.lcmp, 1) := dk_148 (by decide +kernel)
theorem dJ13_compare_74951_3 : decode cJ13_compare_74951 3 = .ok (.ifCond .ge 7, 3) := dk_156 (by decide +kernel)
theorem dJ13_compare_74951_6 : decode cJ13_compare_74951 6 = .ok (.iconst (-1), 1) := dk_2 (by decide +kernel)
theorem dJ13_compare_74951_7 : decode cJ13_compare_74951 7 = .ok (.goto 14, 3) := dk_167 (by decide +kernel)
theorem dJ13_compare_74951_10 : decode cJ13_compare_74951 10 = .ok (.lload_n 0, 1) := dk_30 (by decide +kernel)
theorem dJ13_compare_74951_11 : decode cJ13_compare_74951 11 = .ok (.lload_n 2, 1) := dk_32 (by decide +kernel)
theorem dJ13_compare_74951_12 : decode cJ13_compare_74951 12 = .ok (.lcmp, 1) := dk_148 (by decide +kernel)
theorem dJ13_compare_74951_13 : decode cJ13_compare_74951 13 = .ok (.ifCond .ne 7, 3) := dk_154 (by decide +kernel)
theorem dJ13_compare_74951_16 : decode cJ13_compare_74951 16 = .ok (.iconst 0, 1) := dk_3 (by decide +kernel)
theorem dJ13_compare_74951_17 : decode cJ13_compare_74951 17 = .ok (.goto 4, 3) := dk_167 (by decide +kernel)
theorem dJ13_compare_74951_20 : decode cJ13_compare_74951 20 = .ok (.iconst 1, 1) := dk_4 (by decide +kernel)
theorem dJ13_compare_74951_21 : decode cJ13_compare_74951 21 = .ok (.ireturn, 1) := dk_172 (by decide +kernel)
def wsMJ13_compare_74951 : List Cond := .code yJ13_compare_74951 cJ13_compare_74951 4 (some .int) :: ([])
theorem gdwsMJ13_compare_74951 : wsMJ13_compare_74951.all goodWord = true := gdC rfl (by decide +kernel : ([] : List Cond).all goodWord = true)
set_option maxHeartbeats 4000000 in
set_option maxRecDepth 100000 in
/-- Long.compare -/
theorem m_J13_compare_74951 (l : Launch) (dC : Nat → ClassId) (dI : Nat → Nat → Nat) (xv : Int64) (yv : Int64) (sz : Nat) : Met l yJ13_compare_74951 wsMJ13_compare_74951 ({ frames := 0, cells := 0, slots := 0, locals := 0 }) (va_Pc [.long xv, .long yv] (fun U => U.heap.size = sz ∧ va_P (dC, dI) vwCl [] U.heap ∧ va_K (dC, dI) vwCl [] U ∧ va_D (fun _ => True) [])) (va_Qi (fun (r : Int32) (u : Unit) => True) (fun (u : Unit) t => True) (va_A [] sz)) 0 0 (va_A [] sz) := by
  refine Met.ofW (cc := cJ13_compare_74951) (maxL := 4) (ret := (some .int)) (by decide) rfl ?_
  intro p e s m args below meth c s₁ B hml hv
  obtain ⟨rfl, hsz, hP, hK, hD0⟩ := hv
  have hx := B.exec
  have hb := B.bytes
  have hr := B.returns
  have hts := atoms_spec (ws := wsMJ13_compare_74951) B.pre
  have hown : s.vm.findClass RJ13 = some m.cls := findClass_of_methodNamed B.named
  have hlocks := B.notSynchronized
  subst hsz
  have hD := hD0.self (sz := s.heap.size)
  generalize hAe : va_A [] s.heap.size = A at hD ⊢
  have hA : ∀ q : Nat, s.heap.size ≤ q → A q := fun q h => by rw [← hAe]; exact Or.inr h
  have hS : va_S A s.heap s.heap [] := va_S.rf
  have hl := lv_entry ([.long xv, .long yv]) (n := 4) (Nat.le_of_ble_eq_true rfl)
  rw [lg_entry_eq]
  generalize (lg_sl ([.long xv, .long yv]) ++ List.replicate (4 - (lg_sl ([.long xv, .long yv])).length) Slot.unset).toArray = ls at hl ⊢
  have hl : lv_has ls 4 [(0, .long xv), (2, .long yv)] := hl
  refine lv_lload_n hx hb dJ13_compare_74951_0 rfl (lv_at hl 0 rfl) ?_
  refine lv_lload_n hx hb dJ13_compare_74951_1 rfl (lv_at hl 1 rfl) ?_
  refine W.lcmp hx hb dJ13_compare_74951_2 ?_
  refine W.cut (pc := 21) (fun H locs ls stk => ∃ (k0_j2 : Int32), ((-1) ≤ k0_j2.toInt ∧ k0_j2.toInt ≤ 1) ∧  stk = [.int k0_j2] ∧ va_P (dC, dI) vwCl ([]) H ∧ va_D A ([]) ∧ va_S A s.heap H locs ∧ lv_has ls 4 [(0, .long xv), (2, .long yv)]) (fun join2 => ?_) ?_
  · refine lv_if_ge (tgt := 10) hx hb dJ13_compare_74951_3 (by decide) (fun c_3 => ?_) (fun c_3 => ?_)
    · have t_3 : xv.toInt ≥ yv.toInt := toL_ge c_3 rfl rfl
      refine lv_lload_n hx hb dJ13_compare_74951_10 rfl (lv_at hl 0 rfl) ?_
      refine lv_lload_n hx hb dJ13_compare_74951_11 rfl (lv_at hl 1 rfl) ?_
      refine W.lcmp hx hb dJ13_compare_74951_12 ?_
      refine lv_if_ne (tgt := 20) hx hb dJ13_compare_74951_13 (by decide) (fun c_13 => ?_) (fun c_13 => ?_)
      · have t_13 : xv.toInt ≠ yv.toInt := toL_ne c_13 rfl rfl
        refine lv_iconst (v := 1) hx hb dJ13_compare_74951_20 (by decide) ?_
        have hl : lv_has _ _ ([(0, .long xv), (2, .long yv)]) := lv_sub hl [0, 1] rfl
        exact join2 _ _ _ _ ⟨1, (show (-1) ≤ (1 : Int32).toInt ∧ (1 : Int32).toInt ≤ 1 from by decide), rfl, hP, hD, hS, hl⟩
      · have t_13 : xv.toInt = yv.toInt := toL_nne c_13 rfl rfl
        refine lv_iconst (v := 0) hx hb dJ13_compare_74951_16 (by decide) ?_
        refine lv_goto (tgt := 21) hx hb dJ13_compare_74951_17 (by decide) ?_
        have hl : lv_has _ _ ([(0, .long xv), (2, .long yv)]) := lv_sub hl [0, 1] rfl
        exact join2 _ _ _ _ ⟨0, (show (-1) ≤ (0 : Int32).toInt ∧ (0 : Int32).toInt ≤ 1 from by decide), rfl, hP, hD, hS, hl⟩
    · have t_3 : ¬ xv.toInt ≥ yv.toInt := toL_nge c_3 rfl rfl
      refine lv_iconst (v := (-1)) hx hb dJ13_compare_74951_6 (by decide) ?_
      refine lv_goto (tgt := 21) hx hb dJ13_compare_74951_7 (by decide) ?_
      have hl : lv_has _ _ ([(0, .long xv), (2, .long yv)]) := lv_sub hl [0, 1] rfl
      exact join2 _ _ _ _ ⟨(-1), (show (-1) ≤ ((-1) : Int32).toInt ∧ ((-1) : Int32).toInt ≤ 1 from by decide), rfl, hP, hD, hS, hl⟩
  · rintro H locs ls stk ⟨k0_j2, b_k0_j2, rfl, hP, hD, hS, hl⟩
    refine W.widen (k := 0) (n := 0) (by decide +kernel) (by decide +kernel) ?_
    exact W.iret (v := k0_j2) hx hb hr (fun t9_ ht hW => ⟨⟨k0_j2, (), rfl, trivial, trivial⟩, hS.F ht⟩) hS.2.2 dJ13_compare_74951_21
end
section
/-! bits, for the nets -/
theorem bt_or (x y : Int32) (j : Nat) : bt (x ||| y) j = (bt x j || bt y j) := by
  unfold bt; rw [Int32.toBitVec_or, BitVec.getLsbD_or]
theorem bt_0 (j : Nat) : bt 0 j = false := by
  unfold bt; show (0#32).getLsbD j = false; exact BitVec.getLsbD_zero
theorem bt_1all : ((List.range 12).all (fun i => (List.range 12).all (fun j => decide (bt ((1 : Int32) <<< (iI (i : Int) &&& 31)) j = decide (j = i))))) = true := by decide +kernel
theorem bt_1 {k : Int32} {j : Nat} (h0 : 0 ≤ k.toInt) (h1 : k.toInt ≤ 11) (hj : j < 12) : bt ((1 : Int32) <<< (k &&& 31)) j = decide (j = k.toInt.toNat) := by
  have e : k = iI ((k.toInt.toNat : Nat) : Int) := by rw [show ((k.toInt.toNat : Nat) : Int) = k.toInt by omega]; exact iI_of k
  have h := of_decide_eq_true (List.all_eq_true.mp (List.all_eq_true.mp bt_1all k.toInt.toNat (List.mem_range.mpr (by omega))) j (List.mem_range.mpr hj))
  rw [← e] at h; exact h
theorem bt_and1 (y : Int32) : (bt y 0 = true ∧ (y &&& 1).toInt = 1) ∨ (bt y 0 = false ∧ (y &&& 1).toInt = 0) := by
  have h := pk_and y (m := 1) 1 (by decide)
  have hb : bt y 0 = decide (y.toBitVec.toNat % 2 = 1) := by
    unfold bt; rw [BitVec.getLsbD, Nat.testBit_zero]
  have h2 := Nat.mod_lt y.toBitVec.toNat (show 0 < 2 by decide)
  rw [h, hb]
  rw [show (2 : Nat) ^ 1 = 2 from rfl, nI_toInt (by omega)]
  by_cases e : y.toBitVec.toNat % 2 = 1
  · left; simp [e]
  · right; simp [e]; omega
theorem bt_shr {x k : Int32} {X : Int} (hk : k.toInt = X) (h0 : 0 ≤ X) (h1 : X < 32) : bt (x >>> (k &&& 31)) 0 = bt x X.toNat := by
  unfold bt
  rw [Int32.toBitVec_shiftRight, BitVec.sshiftRight', sa_t hk h0 h1, BitVec.getLsbD_sshiftRight]
  have : X.toNat < 32 := by omega
  simp [this]
theorem sh_and1 {x k y : Int32} {X : Int} (hy : y = x >>> (k &&& 31)) (hk : k.toInt = X) (h0 : 0 ≤ X) (h1 : X < 32) : (bt x X.toNat = true ∧ (y &&& 1).toInt = 1) ∨ (bt x X.toNat = false ∧ (y &&& 1).toInt = 0) := by
  rw [← bt_shr (x := x) hk h0 h1, ← hy]; exact bt_and1 y
theorem tk_0 {S : Prop} {x : Int32} {n n' v : Int} (h : S ∨ ∀ j : Nat, (j : Int) < n → bt x j = false) (hn : 0 ≤ n) (hn' : n' = n + 1) (hv : v = 0) (hb : (bt x n.toNat = true ∧ v = 1) ∨ (bt x n.toNat = false ∧ v = 0)) : S ∨ ∀ j : Nat, (j : Int) < n' → bt x j = false := by
  rcases h with h | h
  · exact Or.inl h
  · refine Or.inr (fun j hj => ?_)
    by_cases e : (j : Int) < n
    · exact h j e
    · have e2 : j = n.toNat := by omega
      rcases hb with ⟨_, h9⟩ | ⟨h9, _⟩
      · omega
      · rw [e2]; exact h9
theorem tk_end {x : Int32} {n s : Int} (h : 1 ≤ s ∨ ∀ j : Nat, (j : Int) < n → bt x j = false) (hn : 12 ≤ n ∨ 1 ≤ s) (h0 : 0 < x.toInt) (h1 : x.toInt < 4096) : 1 ≤ s := by
  rcases h with h | h
  · exact h
  · rcases hn with hn | hn
    · exfalso
      obtain ⟨j, hj, e⟩ := nI_of (x := x) (nn_i rfl (by omega))
      have hx : x.toInt = j := by rw [e, nI_toInt hj]
      have hb : ∀ i, j.testBit i = false := fun i => by
        by_cases hi : i < 12
        · have := h i (by omega)
          rw [e] at this
          have h9 : bt (nI j) i = j.testBit i := by
            show (BitVec.ofNat 32 j).getLsbD i = _
            rw [BitVec.getLsbD_ofNat]; simp; omega
          rw [← h9]; exact this
        · exact Nat.testBit_lt_two_pow (Nat.lt_of_lt_of_le (show j < 2 ^ 12 by omega) (Nat.pow_le_pow_right (by decide) (by omega)))
      have : j = 0 := Nat.eq_of_testBit_eq (fun i => by rw [hb i]; simp)
      omega
    · exact hn
/-- each node reached but the first has one before it that is reached -/
def RB (s : Int) (R : Int32) (f : Nat → Int32) : Prop := ∀ j : Nat, j < 12 → bt R j = true → (j : Int) = s ∨ (0 ≤ (f j).toInt ∧ (f j).toInt ≤ 11 ∧ bt R (f j).toInt.toNat = true)
def SubB (E R : Int32) : Prop := ∀ j : Nat, j < 12 → bt E j = true → bt R j = true
theorem RB.first {k : Int32} {s : Int} {f : Nat → Int32} (hs : k.toInt = s) (h0 : 0 ≤ s) (h1 : s ≤ 11) {R : Int32} (hR : R = (1 : Int32) <<< (k &&& 31)) : RB s R f := fun j hj h => by
  rw [hR, bt_1 (by omega) (by omega) hj] at h
  have := of_decide_eq_true h
  exact Or.inl (by omega)
theorem RB.more {s : Int} {R E : Int32} {f : Nat → Int32} {i j : Int32} (h : RB s R f) (hE : SubB E R) {f' : Nat → Int32} (hf : f' = upd f j.toNatClampNeg i) {R' : Int32} (hR : R' = R ||| (1 : Int32) <<< (j &&& 31)) (hi : bt E i.toInt.toNat = true) (hj : bt R j.toInt.toNat = false) (hi0 : 0 ≤ i.toInt) (hi1 : i.toInt ≤ 11) (hj0 : 0 ≤ j.toInt) (hj1 : j.toInt ≤ 11) : RB s R' f' := fun q hq hb => by
  have hc : j.toNatClampNeg = j.toInt.toNat := rfl
  rw [hR, bt_or, bt_1 hj0 hj1 hq] at hb
  have mono : ∀ q, bt R q = true → bt R' q = true := fun q h9 => by rw [hR, bt_or, h9]; rfl
  rw [hf, hc]
  by_cases e : q = j.toInt.toNat
  · rw [e, pk_us]
    exact Or.inr ⟨hi0, hi1, mono _ (hE _ (by omega) hi)⟩
  · rw [pk_un e]
    have hb2 : bt R q = true := by
      rcases h9 : bt R q with _ | _
      · rw [h9, Bool.false_or] at hb; exact absurd (of_decide_eq_true hb) e
      · rfl
    rcases h q hq hb2 with h9 | ⟨h1, h2, h3⟩
    · exact Or.inl h9
    · exact Or.inr ⟨h1, h2, mono _ h3⟩
theorem SubB.refl (R : Int32) : SubB R R := fun _ _ h => h
theorem SubB.zero (R : Int32) : SubB 0 R := fun j _ h => by rw [bt_0] at h; cases h
theorem SubB.grow {E R R' x : Int32} (h : SubB E R) (hR : R' = R ||| x) : SubB E R' := fun q hq h9 => by rw [hR, bt_or, h q hq h9]; rfl
theorem SubB.both {E E' R R' x : Int32} (h : SubB E R) (hE : E' = E ||| x) (hR : R' = R ||| x) : SubB E' R' := fun q hq h9 => by
  rw [hE, bt_or] at h9
  rw [hR, bt_or]
  rcases h8 : bt E q with _ | _
  · rw [h8] at h9; simp at h9; rw [h9]; simp
  · rw [h q hq h8]; rfl
theorem RB.at {s : Int} {R : Int32} {f : Nat → Int32} {n : Int32} (h : RB s R f) (h0 : 0 ≤ n.toInt) (h1 : n.toInt ≤ 11) (hb : bt R n.toInt.toNat = true) (hn : n.toInt ≠ s) : 0 ≤ (f n.toNatClampNeg).toInt ∧ (f n.toNatClampNeg).toInt ≤ 11 ∧ bt R (f n.toNatClampNeg).toInt.toNat = true := by
  have hc : n.toNatClampNeg = n.toInt.toNat := rfl
  rw [hc]
  rcases h n.toInt.toNat (by omega) hb with h9 | h9
  · omega
  · exact h9
theorem bt_yes {b : Bool} {v : Int} (h : (b = true ∧ v = 1) ∨ (b = false ∧ v = 0)) (hv : ¬ v = 0) : b = true := by
  rcases h with ⟨h9, _⟩ | ⟨_, h9⟩
  · exact h9
  · exact absurd h9 hv
theorem bt_no {b : Bool} {v : Int} (h : (b = true ∧ v = 1) ∨ (b = false ∧ v = 0)) (hv : v = 0) : b = false := by
  rcases h with ⟨_, h9⟩ | ⟨h9, _⟩
  · omega
  · exact h9
end
section
/-! the cheapest flow: the class's measure -/
def enB (x : Int32) : Int32 := if x.toInt < 40 then iI (x.toInt + 1) else iI (39 - x.toInt)
theorem enB_f {x : Int32} {a : Nat} (h : x.toInt = (a : Int)) (ha : a < 40) : (enB x).toInt = (a : Int) + 1 := by
  unfold enB
  rw [if_pos (by omega), iI_t (by omega) (by omega), h]
theorem enB_b {x : Int32} {a : Nat} (h : x.toInt = (a : Int) + 40) (ha : a < 40) : (enB x).toInt = -((a : Int) + 1) := by
  unfold enB
  rw [if_neg (by omega), iI_t (by omega) (by omega), h]
  omega
def MsT (f95 f96 f97 f98 f99 : Nat → Int32) (ar sN : Nat) (pr bY : Nat → Int32) (P : Nat → Nat) : Prop := ∀ w, w < 12 → pr w ≠ 536870912 → w ≠ sN → ∀ u a c, u < 12 → Lk f95 f96 f97 f98 f99 ar (bY w) w u a c → P w ≤ P u + 1
def MsE (f95 f96 f97 f98 f99 : Nat → Int32) (ar : Nat) (pr : Nat → Int32) (P bf bb : Nat → Nat) : Prop := ∀ a x y, a < ar → x < 12 → y < 12 → f95 a = nI x → f96 a = nI y → ((f99 a).toInt < (f97 a).toInt → pr x ≠ 536870912 → P x < bf a → (pr y).toInt ≤ (pr x).toInt + (f98 a).toInt) ∧ (0 < (f99 a).toInt → pr y ≠ 536870912 → P y < bb a → (pr x).toInt ≤ (pr y).toInt - (f98 a).toInt)
/-- up to the arc i a turn has looked -/
def upB (k i : Nat) : Nat → Nat := fun a => if a < i then k + 1 else k
/-- at the head of a turn (k turns are done), or within one -/
def MsG (f95 f96 f97 f98 f99 : Nat → Int32) (ar sN : Nat) (R : Nat → Prop) (p : Nat → Int) (pr bY : Nat → Int32) (k : Nat) (ch : Int) (bf bb : Nat → Nat) : Prop := ∃ T tm P, BfI f95 f96 f97 f98 f99 ar sN R p pr bY T tm ∧ (∀ v, P v ≤ k) ∧ P sN = 0 ∧ (ch = 0 → ∀ v, P v < k) ∧ MsT f95 f96 f97 f98 f99 ar sN pr bY P ∧ MsE f95 f96 f97 f98 f99 ar pr P bf bb
def PoX (f95 f96 f97 f98 f99 : Nat → Int32) (ar sN : Nat) (R : Nat → Prop) (p : Nat → Int) : Prop := PoO f95 f96 f97 f98 f99 ar R p ∧ (∀ v, R v → 0 ≤ p v) ∧ p sN = 0 ∧ R sN
theorem MsG.start {f95 f96 f97 f98 f99 pr bY : Nat → Int32} {ar sN : Nat} {R : Nat → Prop} {p : Nat → Int} {k : Nat} {ch : Int} (hX : PoX f95 f96 f97 f98 f99 ar sN R p) (hs : sN < 12) (h : ∀ n, n < 12 → pr n = if n = sN then 0 else 536870912) (hk : k = 0) (hc : ch = 1) : MsG f95 f96 f97 f98 f99 ar sN R p pr bY k ch (fun _ => k) (fun _ => k) := by
  subst hk hc
  refine ⟨fun _ => 0, 0, fun _ => 0, BfI.init hs hX.2.2.2 hX.2.2.1 h, fun _ => Nat.le_refl _, rfl, fun h9 => absurd h9 (by decide), fun w _ _ _ u a c _ _ => Nat.zero_le _, fun a x y _ _ _ _ _ => ⟨fun _ _ h9 => absurd h9 (Nat.not_lt_zero _), fun _ _ h9 => absurd h9 (Nat.not_lt_zero _)⟩⟩
theorem MsG.go {f95 f96 f97 f98 f99 pr bY : Nat → Int32} {ar sN : Nat} {R : Nat → Prop} {p : Nat → Int} {k i : Nat} {ch c2 : Int} (h : MsG f95 f96 f97 f98 f99 ar sN R p pr bY k ch (fun _ => k) (fun _ => k)) (hi : i = 0) : MsG f95 f96 f97 f98 f99 ar sN R p pr bY (k + 1) c2 (upB k i) (upB k i) := by
  subst hi
  obtain ⟨T, tm, P, h1, h2, h3, h4, h5, h6⟩ := h
  have e : ∀ a, upB k 0 a = k := fun a => if_neg (Nat.not_lt_zero a)
  refine ⟨T, tm, P, h1, fun v => by have := h2 v; omega, h3, fun _ v => by have := h2 v; omega, h5, fun a x y k1 k2 k3 k4 k5 => ?_⟩
  rw [e]
  exact h6 a x y k1 k2 k3 k4 k5
theorem MsG.out {f95 f96 f97 f98 f99 pr bY : Nat → Int32} {ar sN : Nat} {R : Nat → Prop} {p : Nat → Int} {k i k2 : Nat} {ch : Int} (h : MsG f95 f96 f97 f98 f99 ar sN R p pr bY (k + 1) ch (upB k i) (upB k i)) (hi : ar ≤ i) (hk : k2 = k + 1) : MsG f95 f96 f97 f98 f99 ar sN R p pr bY k2 ch (fun _ => k2) (fun _ => k2) := by
  subst hk
  obtain ⟨T, tm, P, h1, h2, h3, h4, h5, h6⟩ := h
  refine ⟨T, tm, P, h1, h2, h3, h4, h5, fun a x y k1 k2 k3 k4 k5 => ?_⟩
  have h9 := h6 a x y k1 k2 k3 k4 k5
  have e : upB k i a = k + 1 := if_pos (by omega)
  rw [e] at h9
  exact h9
/-- an arc that asks for nothing, ahead and back -/
theorem MsG.skipF {f95 f96 f97 f98 f99 pr bY : Nat → Int32} {ar sN : Nat} {R : Nat → Prop} {p : Nat → Int} {k i x y : Nat} {ch : Int} (h : MsG f95 f96 f97 f98 f99 ar sN R p pr bY (k + 1) ch (upB k i) (upB k i)) (hx : x < 12) (hy : y < 12) (ex : f95 i = nI x) (ey : f96 i = nI y) (hn : (f99 i).toInt < (f97 i).toInt → pr x ≠ 536870912 → (pr y).toInt ≤ (pr x).toInt + (f98 i).toInt) : MsG f95 f96 f97 f98 f99 ar sN R p pr bY (k + 1) ch (upB k (i + 1)) (upB k i) := by
  obtain ⟨T, tm, P, h1, h2, h3, h4, h5, h6⟩ := h
  refine ⟨T, tm, P, h1, h2, h3, h4, h5, fun a x' y' k1 k2 k3 k4 k5 => ?_⟩
  have h9 := h6 a x' y' k1 k2 k3 k4 k5
  refine ⟨fun q1 q2 q3 => ?_, h9.2⟩
  by_cases e : a = i
  · subst e
    have e1 : x' = x := (nI_eq (by omega) (by omega)).mp (k4.symm.trans ex)
    have e2 : y' = y := (nI_eq (by omega) (by omega)).mp (k5.symm.trans ey)
    subst e1 e2
    exact hn q1 q2
  · refine h9.1 q1 q2 ?_
    have e2 : upB k (i + 1) a = upB k i a := by
      unfold upB
      by_cases e3 : a < i
      · rw [if_pos e3, if_pos (by omega)]
      · rw [if_neg e3, if_neg (by omega)]
    rw [← e2]
    exact q3
theorem MsG.skipB {f95 f96 f97 f98 f99 pr bY : Nat → Int32} {ar sN : Nat} {R : Nat → Prop} {p : Nat → Int} {k i x y : Nat} {ch : Int} (h : MsG f95 f96 f97 f98 f99 ar sN R p pr bY (k + 1) ch (upB k (i + 1)) (upB k i)) (hx : x < 12) (hy : y < 12) (ex : f95 i = nI x) (ey : f96 i = nI y) (hn : 0 < (f99 i).toInt → pr y ≠ 536870912 → (pr x).toInt ≤ (pr y).toInt - (f98 i).toInt) : MsG f95 f96 f97 f98 f99 ar sN R p pr bY (k + 1) ch (upB k (i + 1)) (upB k (i + 1)) := by
  obtain ⟨T, tm, P, h1, h2, h3, h4, h5, h6⟩ := h
  refine ⟨T, tm, P, h1, h2, h3, h4, h5, fun a x' y' k1 k2 k3 k4 k5 => ?_⟩
  have h9 := h6 a x' y' k1 k2 k3 k4 k5
  refine ⟨h9.1, fun q1 q2 q3 => ?_⟩
  by_cases e : a = i
  · subst e
    have e1 : x' = x := (nI_eq (by omega) (by omega)).mp (k4.symm.trans ex)
    have e2 : y' = y := (nI_eq (by omega) (by omega)).mp (k5.symm.trans ey)
    subst e1 e2
    exact hn q1 q2
  · refine h9.2 q1 q2 ?_
    have e2 : upB k (i + 1) a = upB k i a := by
      unfold upB
      by_cases e3 : a < i
      · rw [if_pos e3, if_pos (by omega)]
      · rw [if_neg e3, if_neg (by omega)]
    rw [← e2]
    exact q3
/-- a length is mended: v from u over the arc i -/
theorem MsG.mend {f95 f96 f97 f98 f99 pr bY pr2 bY2 : Nat → Int32} {ar sN : Nat} {R : Nat → Prop} {p : Nat → Int} {k : Nat} {ch : Int} {bf bb bf2 bb2 : Nat → Nat} {u v a : Nat} {c : Int} {b : Int32} (h : MsG f95 f96 f97 f98 f99 ar sN R p pr bY (k + 1) ch bf bb) (hX : PoX f95 f96 f97 f98 f99 ar sN R p) (hu : u < 12) (hv : v < 12) (huv : u ≠ v) (hc : -1000 ≤ c ∧ c ≤ 1000) (hL : Lk f95 f96 f97 f98 f99 ar b v u a c) (hpo : R u → R v ∧ p v ≤ p u + c) (hfu : pr u ≠ 536870912) (hl : (pr u).toInt + c < (pr v).toInt) (e1 : (pr2 v).toInt = (pr u).toInt + c) (e2 : ∀ w, w ≠ v → pr2 w = pr w) (e3 : bY2 v = b) (e4 : ∀ w, w ≠ v → bY2 w = bY w)
    (hP : ∀ P : Nat → Nat, MsE f95 f96 f97 f98 f99 ar pr P bf bb → k ≤ P u)
    (hE : ∀ P P2 : Nat → Nat, (∀ w, w ≠ v → P2 w = P w) → P2 v = k + 1 → MsE f95 f96 f97 f98 f99 ar pr P bf bb → MsE f95 f96 f97 f98 f99 ar pr2 P2 bf2 bb2) : MsG f95 f96 f97 f98 f99 ar sN R p pr2 bY2 (k + 1) 1 bf2 bb2 := by
  obtain ⟨T, tm, P, h1, h2, h3, h4, h5, h6⟩ := h
  have hB := BfI.relax h1 hX.2.1 hX.2.2.1 hu hv huv hc hL hpo hfu hl e1 e2 e3 e4
  have hvs : v ≠ sN := fun e9 => by
    have q1 := hB.1.1.1
    have q2 := h1.1.1
    rw [← e9] at q1 q2
    omega
  have hPu := hP P h6
  refine ⟨_, _, fun w => if w = v then k + 1 else P w, hB.1, fun w => ?_, ?_, fun h9 => absurd h9 (by decide), ?_, hE P _ (fun w hw => if_neg hw) (if_pos rfl) h6⟩
  · show (if w = v then k + 1 else P w) ≤ k + 1
    by_cases e : w = v
    · rw [if_pos e]; exact Nat.le_refl _
    · rw [if_neg e]; exact h2 w
  · show (if sN = v then k + 1 else P sN) = 0
    rw [if_neg (Ne.symm hvs)]
    exact h3
  · intro w hw hwl hws u9 a9 c9 hu9 hk9
    show (if w = v then k + 1 else P w) ≤ (if u9 = v then k + 1 else P u9) + 1
    by_cases e : w = v
    · rw [if_pos e]
      have hk : Lk f95 f96 f97 f98 f99 ar b v u9 a9 c9 := by rw [e, e3] at hk9; exact hk9
      have eu : u9 = u := by
        obtain ⟨g1, g2⟩ := hk
        obtain ⟨l1, l2⟩ := hL
        rcases g2 with ⟨j1, j2, j3, _⟩ | ⟨j1, j2, j3, _⟩
        · rcases l2 with ⟨m1, m2, m3, _⟩ | ⟨m1, m2, m3, _⟩
          · have ea : a9 = a := by omega
            subst ea
            exact (nI_eq (by omega) (by omega)).mp (j2.symm.trans m2)
          · omega
        · rcases l2 with ⟨m1, m2, m3, _⟩ | ⟨m1, m2, m3, _⟩
          · omega
          · have ea : a9 = a := by omega
            subst ea
            exact (nI_eq (by omega) (by omega)).mp (j2.symm.trans m2)
      rw [eu, if_neg huv]
      omega
    · rw [if_neg e]
      rw [e2 w e] at hwl
      rw [e4 w e] at hk9
      have h9 := h5 w hw hwl hws u9 a9 c9 hu9 hk9
      by_cases e9 : u9 = v
      · rw [if_pos e9]
        have := h2 w
        omega
      · rw [if_neg e9]; exact h9
theorem MsG.mendF {f95 f96 f97 f98 f99 pr bY pr2 bY2 : Nat → Int32} {ar sN : Nat} {R : Nat → Prop} {p : Nat → Int} {k i x y : Nat} {ch : Int} (h : MsG f95 f96 f97 f98 f99 ar sN R p pr bY (k + 1) ch (upB k i) (upB k i)) (hX : PoX f95 f96 f97 f98 f99 ar sN R p) (hi : i < ar) (h40 : ar ≤ 40) (hx : x < 12) (hy : y < 12) (hxy : x ≠ y) (ex : f95 i = nI x) (ey : f96 i = nI y) (hc : 0 ≤ (f98 i).toInt ∧ (f98 i).toInt ≤ 1000) (hr : (f99 i).toInt < (f97 i).toInt) (hfx : pr x ≠ 536870912) (hl : (pr x).toInt + (f98 i).toInt < (pr y).toInt) (e1 : (pr2 y).toInt = (pr x).toInt + (f98 i).toInt) (e2 : ∀ w, w ≠ y → pr2 w = pr w) (e3 : (bY2 y).toInt = (i : Int) + 1) (e4 : ∀ w, w ≠ y → bY2 w = bY w) : MsG f95 f96 f97 f98 f99 ar sN R p pr2 bY2 (k + 1) 1 (upB k (i + 1)) (upB k i) := by
  have e0 : upB k i i = k := if_neg (Nat.lt_irrefl i)
  refine MsG.mend (a := i) h hX hx hy hxy (by omega) ⟨hi, Or.inl ⟨e3, ex, ey, hr, rfl⟩⟩ (fun hR => (hX.1 i x y hi hx hy ex ey).1 hr hR) hfx hl e1 e2 rfl e4 (fun P hE => ?_) (fun P P2 q1 q2 hE => ?_)
  · have h9 := (hE i x y hi hx hy ex ey).1 hr hfx
    rw [e0] at h9
    exact Nat.le_of_not_lt (fun h8 => by have := h9 h8; omega)
  · intro a x' y' k1 k2 k3 k4 k5
    have h9 := hE a x' y' k1 k2 k3 k4 k5
    have hd : (pr2 y').toInt ≤ (pr y').toInt := by
      by_cases e : y' = y
      · rw [e, e1]; omega
      · rw [e2 y' e]; exact Int.le_refl _
    have hd2 : (pr2 x').toInt ≤ (pr x').toInt := by
      by_cases e : x' = y
      · rw [e, e1]; omega
      · rw [e2 x' e]; exact Int.le_refl _
    have ub : ∀ b : Nat, upB k b a ≤ k + 1 := fun b => by
      unfold upB
      by_cases e : a < b
      · rw [if_pos e]; exact Nat.le_refl _
      · rw [if_neg e]; omega
    refine ⟨fun r1 r2 r3 => ?_, fun r1 r2 r3 => ?_⟩
    · by_cases ev : x' = y
      · rw [ev, q2] at r3
        have := ub (i + 1)
        omega
      · rw [e2 x' ev] at r2 ⊢
        rw [q1 x' ev] at r3
        by_cases ea : a = i
        · subst ea
          have g1 : x' = x := (nI_eq (by omega) (by omega)).mp (k4.symm.trans ex)
          have g2 : y' = y := (nI_eq (by omega) (by omega)).mp (k5.symm.trans ey)
          rw [g2, e1, g1]
          exact Int.le_refl _
        · have e5 : upB k (i + 1) a = upB k i a := by
            unfold upB
            by_cases e3 : a < i
            · rw [if_pos e3, if_pos (by omega)]
            · rw [if_neg e3, if_neg (by omega)]
          rw [e5] at r3
          have := h9.1 r1 r2 r3
          omega
    · by_cases ev : y' = y
      · rw [ev, q2] at r3
        have := ub i
        omega
      · rw [e2 y' ev] at r2 ⊢
        rw [q1 y' ev] at r3
        have := h9.2 r1 r2 r3
        omega
theorem MsG.mendB {f95 f96 f97 f98 f99 pr bY pr2 bY2 : Nat → Int32} {ar sN : Nat} {R : Nat → Prop} {p : Nat → Int} {k i x y : Nat} {ch : Int} (h : MsG f95 f96 f97 f98 f99 ar sN R p pr bY (k + 1) ch (upB k (i + 1)) (upB k i)) (hX : PoX f95 f96 f97 f98 f99 ar sN R p) (hi : i < ar) (h40 : ar ≤ 40) (hx : x < 12) (hy : y < 12) (hxy : x ≠ y) (ex : f95 i = nI x) (ey : f96 i = nI y) (hc : 0 ≤ (f98 i).toInt ∧ (f98 i).toInt ≤ 1000) (hr : 0 < (f99 i).toInt) (hfy : pr y ≠ 536870912) (hl : (pr y).toInt - (f98 i).toInt < (pr x).toInt) (e1 : (pr2 x).toInt = (pr y).toInt - (f98 i).toInt) (e2 : ∀ w, w ≠ x → pr2 w = pr w) (e3 : (bY2 x).toInt = -((i : Int) + 1)) (e4 : ∀ w, w ≠ x → bY2 w = bY w) : MsG f95 f96 f97 f98 f99 ar sN R p pr2 bY2 (k + 1) 1 (upB k (i + 1)) (upB k (i + 1)) := by
  have e0 : upB k i i = k := if_neg (Nat.lt_irrefl i)
  refine MsG.mend (u := y) (v := x) (a := i) (c := -(f98 i).toInt) h hX hy hx (Ne.symm hxy) (by omega) ⟨hi, Or.inr ⟨e3, ey, ex, hr, rfl⟩⟩ (fun hR => by have h9 := (hX.1 i x y hi hx hy ex ey).2 hr hR; exact ⟨h9.1, by omega⟩) hfy (by omega) (by omega) e2 rfl e4 (fun P hE => ?_) (fun P P2 q1 q2 hE => ?_)
  · have h9 := (hE i x y hi hx hy ex ey).2 hr hfy
    rw [e0] at h9
    exact Nat.le_of_not_lt (fun h8 => by have := h9 h8; omega)
  · intro a x' y' k1 k2 k3 k4 k5
    have h9 := hE a x' y' k1 k2 k3 k4 k5
    have hd : (pr2 y').toInt ≤ (pr y').toInt := by
      by_cases e : y' = x
      · rw [e, e1]; omega
      · rw [e2 y' e]; exact Int.le_refl _
    have hd2 : (pr2 x').toInt ≤ (pr x').toInt := by
      by_cases e : x' = x
      · rw [e, e1]; omega
      · rw [e2 x' e]; exact Int.le_refl _
    have ub : ∀ b : Nat, upB k b a ≤ k + 1 := fun b => by
      unfold upB
      by_cases e : a < b
      · rw [if_pos e]; exact Nat.le_refl _
      · rw [if_neg e]; omega
    refine ⟨fun r1 r2 r3 => ?_, fun r1 r2 r3 => ?_⟩
    · by_cases ev : x' = x
      · rw [ev, q2] at r3
        have := ub (i + 1)
        omega
      · rw [e2 x' ev] at r2 ⊢
        rw [q1 x' ev] at r3
        have := h9.1 r1 r2 r3
        omega
    · by_cases ev : y' = x
      · rw [ev, q2] at r3
        have := ub (i + 1)
        omega
      · rw [e2 y' ev] at r2 ⊢
        rw [q1 y' ev] at r3
        by_cases ea : a = i
        · subst ea
          have g1 : x' = x := (nI_eq (by omega) (by omega)).mp (k4.symm.trans ex)
          have g2 : y' = y := (nI_eq (by omega) (by omega)).mp (k5.symm.trans ey)
          rw [g1, e1, g2]
          exact Int.le_refl _
        · have e5 : upB k (i + 1) a = upB k i a := by
            unfold upB
            by_cases e3 : a < i
            · rw [if_pos e3, if_pos (by omega)]
            · rw [if_neg e3, if_neg (by omega)]
          rw [e5] at r3
          have := h9.2 r1 r2 r3
          omega
/-- at the end no arc with room undercuts the lengths -/
theorem MsG.done {f95 f96 f97 f98 f99 pr bY : Nat → Int32} {ar sN : Nat} {R : Nat → Prop} {p : Nat → Int} {k : Nat} {ch : Int} (h : MsG f95 f96 f97 f98 f99 ar sN R p pr bY k ch (fun _ => k) (fun _ => k)) (hX : PoX f95 f96 f97 f98 f99 ar sN R p) (hk : 12 ≤ k ∨ ch = 0) : PrC f95 f96 f97 f98 f99 ar pr ∧ (∃ rk, TrK f95 f96 f97 f98 f99 ar sN pr bY rk) ∧ (pr sN).toInt = 0 ∧ ∀ v, v < 12 → 0 ≤ (pr v).toInt ∧ (pr v).toInt ≤ 536870912 ∧ (pr v ≠ 536870912 → (pr v).toInt ≤ 11000) := by
  obtain ⟨T, tm, P, h1, h2, h3, h4, h5, h6⟩ := h
  obtain ⟨rk, hT⟩ := BfI.rank h1 hX.2.1
  have hlow : ∀ m v, rk v < m → v < 12 → pr v ≠ 536870912 → P v ≤ cntB (fun q => decide (rk q < rk v)) 12 := by
    intro m
    induction m with
    | zero => intro v h9; exact absurd h9 (Nat.not_lt_zero _)
    | succ m ih =>
      intro v hv1 hv2 hv3
      by_cases e : v = sN
      · rw [e, h3]; exact Nat.zero_le _
      · obtain ⟨u, a, c, g1, g2, g3, g4, g5, g6⟩ := hT v hv2 hv3 e
        have q1 := h5 v hv2 hv3 e u a c g1 g3
        have q2 := ih u (by omega) g1 g4
        have q3 := cntB_lt (p := fun q => decide (rk q < rk u)) (q := fun q => decide (rk q < rk v)) (n := 12) (i := u) (fun q _ h9 => decide_eq_true (by have := of_decide_eq_true h9; omega)) g1 (decide_eq_false (Nat.lt_irrefl _)) (decide_eq_true g6)
        omega
  have h11 : ∀ v, v < 12 → pr v ≠ 536870912 → P v < k := by
    intro v hv hl
    rcases hk with hk | hk
    · have q1 := hlow (rk v + 1) v (by omega) hv hl
      have q2 := cntB_miss (p := fun q => decide (rk q < rk v)) (n := 12) (i := v) hv (decide_eq_false (Nat.lt_irrefl _))
      omega
    · exact h4 hk v
  refine ⟨fun a x y k1 k2 k3 k4 k5 => ?_, ⟨rk, hT⟩, h1.1.1, fun v hv => ?_⟩
  · have h9 := h6 a x y k1 k2 k3 k4 k5
    exact ⟨fun r1 r2 => h9.1 r1 r2 (h11 x k2 r2), fun r1 r2 => h9.2 r1 r2 (h11 y k3 r2)⟩
  · have h9 := h1.1.bd hX.2.1 hv
    exact ⟨h9.1, h9.2.1, fun h8 => (h9.2.2 h8).1⟩
theorem MsG.bd {f95 f96 f97 f98 f99 pr bY : Nat → Int32} {ar sN : Nat} {R : Nat → Prop} {p : Nat → Int} {k : Nat} {ch : Int} {bf bb : Nat → Nat} (h : MsG f95 f96 f97 f98 f99 ar sN R p pr bY k ch bf bb) (hX : PoX f95 f96 f97 f98 f99 ar sN R p) : ∀ v, v < 12 → 0 ≤ (pr v).toInt ∧ (pr v).toInt ≤ 536870912 ∧ (pr v ≠ 536870912 → (pr v).toInt ≤ 11000) := by
  obtain ⟨T, tm, P, h1, _⟩ := h
  intro v hv
  have h9 := h1.1.bd hX.2.1 hv
  exact ⟨h9.1, h9.2.1, fun h8 => (h9.2.2 h8).1⟩
theorem msIni {L0 L1 : Nat → Int32} {p : Int32} (h : ∀ q, q < 12 → L0 q = 536870912) (e : L1 = upd L0 p.toNatClampNeg 0) : ∀ n, n < 12 → L1 n = if n = p.toInt.toNat then 0 else 536870912 := by
  intro n hn
  rw [e]
  show (if n = p.toInt.toNat then (0 : Int32) else L0 n) = _
  by_cases e9 : n = p.toInt.toNat
  · rw [if_pos e9, if_pos e9]
  · rw [if_neg e9, if_neg e9]
    exact h n hn
/-- a row's entry by the node's number -/
theorem rowAt {L f : Nat → Int32} {v i : Int32} {x I : Nat} (hv : v = L i.toNatClampNeg) (hi : i = f I) (hx : x < 12) (e : f I = nI x) : L x = v := by
  rw [hv, hi, e]
  show L x = L (nI x).toInt.toNat
  rw [nI_toInt (by omega)]
  rfl
theorem ixAt {f : Nat → Int32} {i : Int32} {x I : Nat} (hi : i = f I) (hx : x < 12) (e : f I = nI x) : i.toNatClampNeg = x := by
  rw [hi, e]
  show (nI x).toInt.toNat = x
  rw [nI_toInt (by omega)]
  rfl
theorem updAt {L L2 : Nat → Int32} {i y : Int32} {x : Nat} (h : L2 = upd L i.toNatClampNeg y) (hi : i.toNatClampNeg = x) : L2 x = y ∧ ∀ w, w ≠ x → L2 w = L w := by
  rw [h, hi]
  exact ⟨if_pos rfl, fun w hw => if_neg hw⟩
end
section
/-! the cheapest flow: the class's push -/
/-- the arc over which a node was come to, the node before it, and what is left on the arc -/
def qA (bef : Nat → Int32) (n : Nat) : Nat := if (bef n).toInt < 40 then (bef n).toInt.toNat else ((bef n).toInt - 40).toNat
def qU (f95 f96 bef : Nat → Int32) (n : Nat) : Nat := if (bef n).toInt < 40 then (f95 (qA bef n)).toInt.toNat else (f96 (qA bef n)).toInt.toNat
def qR (f97 f99 bef : Nat → Int32) (n : Nat) : Int := if (bef n).toInt < 40 then (f97 (qA bef n)).toInt - (f99 (qA bef n)).toInt else (f99 (qA bef n)).toInt
def qS (bef : Nat → Int32) (n : Nat) (k : Int) : Int := if (bef n).toInt < 40 then k else -k
def qIt (f95 f96 bef : Nat → Int32) (t : Nat) : Nat → Nat
  | 0 => t
  | k + 1 => qU f95 f96 bef (qIt f95 f96 bef t k)
theorem TrK.cls {f95 f96 f97 f98 f99 pr bef : Nat → Int32} {ar sN : Nat} {rk : Nat → Nat} (hT : TrK f95 f96 f97 f98 f99 ar sN pr (fun w => enB (bef w)) rk) (hb : ∀ q : Nat, 0 ≤ (bef q).toInt ∧ (bef q).toInt ≤ 79) {n : Nat} (hn : n < 12) (hl : pr n ≠ 536870912) (hs : n ≠ sN) : ∃ c, Lk f95 f96 f97 f98 f99 ar (enB (bef n)) n (qU f95 f96 bef n) (qA bef n) c ∧ qU f95 f96 bef n < 12 ∧ pr (qU f95 f96 bef n) ≠ 536870912 ∧ (pr (qU f95 f96 bef n)).toInt + c ≤ (pr n).toInt ∧ rk (qU f95 f96 bef n) < rk n ∧ 1 ≤ qR f97 f99 bef n ∧ c = qS bef n (f98 (qA bef n)).toInt := by
  obtain ⟨u, a, c, g1, g2, ⟨g3, g4⟩, g5, g6, g7⟩ := hT n hn hl hs
  have hx := hb n
  rcases g4 with ⟨j1, j2, j3, j4, j5⟩ | ⟨j1, j2, j3, j4, j5⟩
  · have h40 : (bef n).toInt < 40 := Classical.byContradiction (fun h9 => by
      have e : (enB (bef n)).toInt = -((((bef n).toInt - 40).toNat : Int) + 1) ∨ ¬ (bef n).toInt < 80 := by
        by_cases h8 : (bef n).toInt < 80
        · exact Or.inl (enB_b (by omega) (by omega))
        · exact Or.inr h8
      have j1' : (enB (bef n)).toInt = (a : Int) + 1 := j1
      omega)
    have ea : qA bef n = a := by
      unfold qA
      rw [if_pos h40]
      have e := enB_f (x := bef n) (a := (bef n).toInt.toNat) (by omega) (by omega)
      have j1' : (enB (bef n)).toInt = (a : Int) + 1 := j1
      omega
    have eu : qU f95 f96 bef n = u := by
      unfold qU
      rw [if_pos h40, ea, j2, nI_toInt (by omega)]
      omega
    refine ⟨c, ?_, by rw [eu]; exact g1, by rw [eu]; exact g5, by rw [eu]; exact g6, by rw [eu]; exact g7, ?_, ?_⟩
    · rw [ea, eu]
      exact ⟨g3, Or.inl ⟨j1, j2, j3, j4, j5⟩⟩
    · unfold qR
      rw [if_pos h40, ea]
      omega
    · unfold qS
      rw [if_pos h40, ea]
      exact j5
  · have h40 : ¬ (bef n).toInt < 40 := fun h9 => by
      have e := enB_f (x := bef n) (a := (bef n).toInt.toNat) (by omega) (by omega)
      have j1' : (enB (bef n)).toInt = -((a : Int) + 1) := j1
      omega
    have ea : qA bef n = a := by
      unfold qA
      rw [if_neg h40]
      have e := enB_b (x := bef n) (a := ((bef n).toInt - 40).toNat) (by omega) (by omega)
      have j1' : (enB (bef n)).toInt = -((a : Int) + 1) := j1
      omega
    have eu : qU f95 f96 bef n = u := by
      unfold qU
      rw [if_neg h40, ea, j2, nI_toInt (by omega)]
      omega
    refine ⟨c, ?_, by rw [eu]; exact g1, by rw [eu]; exact g5, by rw [eu]; exact g6, by rw [eu]; exact g7, ?_, ?_⟩
    · rw [ea, eu]
      exact ⟨g3, Or.inr ⟨j1, j2, j3, j4, j5⟩⟩
    · unfold qR
      rw [if_neg h40, ea]
      omega
    · unfold qS
      rw [if_neg h40, ea]
      exact j5
def qV (rk : Nat → Nat) (n : Nat) : Nat := cntB (fun q => decide (rk q < rk n)) 12
theorem qV_lt {rk : Nat → Nat} {u n : Nat} (hu : u < 12) (h : rk u < rk n) : qV rk u < qV rk n := by
  have q3 := cntB_lt (p := fun q => decide (rk q < rk u)) (q := fun q => decide (rk q < rk n)) (n := 12) (i := u) (fun q _ h9 => decide_eq_true (by have := of_decide_eq_true h9; omega)) hu (decide_eq_false (Nat.lt_irrefl _)) (decide_eq_true h)
  exact q3
theorem qV_le {rk : Nat → Nat} {n : Nat} (hn : n < 12) : qV rk n ≤ 11 := by
  have q2 := cntB_miss (p := fun q => decide (rk q < rk n)) (n := 12) (i := n) hn (decide_eq_false (Nat.lt_irrefl _))
  have e : qV rk n = cntB (fun q => decide (rk q < rk n)) 12 := rfl
  omega
/-- the way back is measured -/
def Qk1 (f95 f96 f97 f99 pr bef : Nat → Int32) (rk : Nat → Nat) (t : Nat) (mo : Int) (i n : Nat) (w : Int) : Prop := n = qIt f95 f96 bef t i ∧ n < 12 ∧ pr n ≠ 536870912 ∧ qV rk n + i ≤ 11 ∧ 1 ≤ w ∧ w ≤ mo ∧ ∀ k, k < i → w ≤ qR f97 f99 bef (qIt f95 f96 bef t k)
theorem Qk1.start {f95 f96 f97 f99 pr bef : Nat → Int32} {rk : Nat → Nat} {t i n : Nat} {mo w : Int} (ht : t < 12) (hl : pr t ≠ 536870912) (hi : i = 0) (hn : n = t) (hw : w = mo) (hm : 1 ≤ mo) : Qk1 f95 f96 f97 f99 pr bef rk t mo i n w := by
  subst hi hn hw
  have := qV_le (rk := rk) ht
  exact ⟨rfl, ht, hl, by omega, hm, Int.le_refl _, fun k hk => absurd hk (Nat.not_lt_zero k)⟩
theorem Qk1.step {f95 f96 f97 f98 f99 pr bef : Nat → Int32} {rk : Nat → Nat} {ar sN t i i2 n n2 : Nat} {mo w w2 : Int} (h : Qk1 f95 f96 f97 f99 pr bef rk t mo i n w) (hT : TrK f95 f96 f97 f98 f99 ar sN pr (fun w => enB (bef w)) rk) (hb : ∀ q : Nat, 0 ≤ (bef q).toInt ∧ (bef q).toInt ≤ 79) (hs : n ≠ sN) (hn : n2 = qU f95 f96 bef n) (hi : i2 = i + 1) (h1 : w2 ≤ w) (h2 : w2 ≤ qR f97 f99 bef n) (h3 : w2 = w ∨ w2 = qR f97 f99 bef n) : Qk1 f95 f96 f97 f99 pr bef rk t mo i2 n2 w2 := by
  obtain ⟨b1, b2, b3, b4, b5, b6, b7⟩ := h
  obtain ⟨c, g1, g2, g3, g4, g5, g6, g7⟩ := hT.cls hb b2 b3 hs
  have h4 := qV_lt g2 g5
  subst hi hn
  refine ⟨?_, g2, g3, by omega, by omega, by omega, fun k hk => ?_⟩
  · show qU f95 f96 bef n = qU f95 f96 bef (qIt f95 f96 bef t i)
    rw [← b1]
  · by_cases e : k = i
    · rw [e, ← b1]; exact h2
    · have := b7 k (by omega)
      omega
/-- the way back is used -/
def Qk2 (d : NtD) (f95 f96 f97 f98 f99 g99 pr bef : Nat → Int32) (rk : Nat → Nat) (ar sN t : Nat) (w : Int) (I0 i n : Nat) : Prop := n = qIt f95 f96 bef t i ∧ n < 12 ∧ pr n ≠ 536870912 ∧ qV rk n + i ≤ 11 ∧ i ≤ I0 ∧ FlO f97 g99 ar ∧ (∀ S, rsA d (fI g99) S ar = rsA d (fI f99) S ar - (sW S n w - sW S t w)) ∧ (∀ a, a < ar → g99 a = f99 a ∨ ∃ m, m < 12 ∧ pr m ≠ 536870912 ∧ m ≠ sN ∧ ((enB (bef m)).toInt = (a : Int) + 1 ∨ (enB (bef m)).toInt = -((a : Int) + 1))) ∧ (∀ m, m < 12 → pr m ≠ 536870912 → m ≠ sN → rk m ≤ rk n → g99 (qA bef m) = f99 (qA bef m)) ∧ csA d (fI g99) ar = csA d (fI f99) ar + w * ((pr t).toInt - (pr n).toInt)
theorem Qk2.start {d : NtD} {f95 f96 f97 f98 f99 pr bef : Nat → Int32} {rk : Nat → Nat} {ar sN t I0 i n : Nat} {w : Int} (hF : FlO f97 f99 ar) (ht : t < 12) (hl : pr t ≠ 536870912) (hi : i = 0) (hn : n = t) : Qk2 d f95 f96 f97 f98 f99 f99 pr bef rk ar sN t w I0 i n := by
  subst hi hn
  have := qV_le (rk := rk) ht
  refine ⟨rfl, ht, hl, by omega, Nat.zero_le _, hF, fun S => by omega, fun a _ => Or.inl rfl, fun _ _ _ _ _ => rfl, ?_⟩
  rw [show (pr n).toInt - (pr n).toInt = 0 from by omega, Int.mul_zero]
  omega
theorem csA_same {d : NtD} {fl gl : Nat → Int} : ∀ {m : Nat}, (∀ a, a < m → gl a = fl a) → csA d gl m = csA d fl m := by
  intro m
  induction m with
  | zero => intro _; rfl
  | succ m ih =>
    intro h
    show csA d gl m + gl m * tCo d m = csA d fl m + fl m * tCo d m
    rw [ih (fun a ha => h a (by omega)), h m (by omega)]
theorem csA_put {d : NtD} {fl gl : Nat → Int} {a : Nat} {k : Int} : ∀ {m : Nat}, a < m → gl a = fl a + k → (∀ b, b ≠ a → gl b = fl b) → csA d gl m = csA d fl m + k * tCo d a := by
  intro m
  induction m with
  | zero => intro h; exact absurd h (Nat.not_lt_zero a)
  | succ m ih =>
    intro ha h1 h2
    show csA d gl m + gl m * tCo d m = csA d fl m + fl m * tCo d m + k * tCo d a
    by_cases e : a = m
    · subst e
      rw [csA_same (fun b hb => h2 b (by omega)), h1, Int.add_mul]
      omega
    · rw [ih (by omega) h1 h2, h2 m (Ne.symm e)]
      omega
theorem Qk2.step {f95 f96 f97 f98 f99 g99 k99 pr bef : Nat → Int32} {rk : Nat → Nat} {ar sN t I0 i i2 n n2 m : Nat} {mo w : Int} {y : Int32} (h : Qk2 (((ar : Nat) : Int), f95, f96, f97, f98) f95 f96 f97 f98 f99 g99 pr bef rk ar sN t w I0 i n) (hA : ArO f95 f96 f97 f98 ar) (hT : TrK f95 f96 f97 f98 f99 ar sN pr (fun w => enB (bef w)) rk) (hC : PrC f95 f96 f97 f98 f99 ar pr) (hF : FlO f97 f99 ar) (hb : ∀ q : Nat, 0 ≤ (bef q).toInt ∧ (bef q).toInt ≤ 79) (h1 : Qk1 f95 f96 f97 f99 pr bef rk t mo I0 m w) (hm : m = sN) (hs : n ≠ sN) (hn : n2 = qU f95 f96 bef n) (hi : i2 = i + 1) (hk : k99 = upd g99 (qA bef n) y) (hy : y.toInt = (g99 (qA bef n)).toInt + qS bef n w) : Qk2 (((ar : Nat) : Int), f95, f96, f97, f98) f95 f96 f97 f98 f99 k99 pr bef rk ar sN t w I0 i2 n2 := by
  obtain ⟨b1, b2, b3, b4, b5, b6, b7, b8, b9, b10⟩ := h
  obtain ⟨c, g1, g2, g3, g4, g5, g6, g7⟩ := hT.cls hb b2 b3 hs
  have hq := qV_lt g2 g5
  have hi9 : i ≠ I0 := fun e9 => hs (by rw [b1, e9, ← h1.1, hm])
  have hw := h1.2.2.2.2.2.2 i (by omega)
  rw [← b1] at hw
  have hw1 := h1.2.2.2.2.1
  have hun := b9 n b2 b3 hs (Nat.le_refl _)
  have ha := g1.1
  have hfa := hF (qA bef n) ha
  have hk1 : k99 (qA bef n) = y := by rw [hk]; exact if_pos rfl
  have hk2 : ∀ a, a ≠ qA bef n → k99 a = g99 a := fun a h9 => by rw [hk]; exact if_neg h9
  subst hi hn
  have tight : (pr n).toInt = (pr (qU f95 f96 bef n)).toInt + c := by
    obtain ⟨_, l2⟩ := g1
    rcases l2 with ⟨j1, j2, j3, j4, j5⟩ | ⟨j1, j2, j3, j4, j5⟩
    · have h9 := (hC (qA bef n) (qU f95 f96 bef n) n ha g2 b2 j2 j3).1 j4 g3
      omega
    · have h9 := (hC (qA bef n) n (qU f95 f96 bef n) ha b2 g2 j3 j2).2 j4 g3
      omega
  refine ⟨?_, g2, g3, by omega, by omega, ?_, ?_, ?_, ?_, ?_⟩
  · show qU f95 f96 bef n = qU f95 f96 bef (qIt f95 f96 bef t i)
    rw [← b1]
  · intro a h9
    by_cases e : a = qA bef n
    · rw [e, hk1, hy, hun]
      by_cases q : (bef n).toInt < 40
      · have e1 : qS bef n w = w := if_pos q
        have e2 : qR f97 f99 bef n = (f97 (qA bef n)).toInt - (f99 (qA bef n)).toInt := if_pos q
        omega
      · have e1 : qS bef n w = -w := if_neg q
        have e2 : qR f97 f99 bef n = (f99 (qA bef n)).toInt := if_neg q
        omega
    · rw [hk2 a e]; exact b6 a h9
  · intro S
    rw [rsA_put (fl := fI g99) (gl := fI k99) (a := qA bef n) (k := qS bef n w) ha (by show (k99 (qA bef n)).toInt = (g99 (qA bef n)).toInt + qS bef n w; rw [hk1, hy]) (fun b h9 => by show (k99 b).toInt = (g99 b).toInt; rw [hk2 b h9]), b7 S]
    obtain ⟨_, l2⟩ := g1
    by_cases q : (bef n).toInt < 40
    · have e1 : qS bef n w = w := if_pos q
      rcases l2 with ⟨j1, j2, j3, j4, j5⟩ | ⟨j1, j2, j3, j4, j5⟩
      · rw [tFr_nI (d := (((ar : Nat) : Int), f95, f96, f97, f98)) g2 j2, tTo_nI (d := (((ar : Nat) : Int), f95, f96, f97, f98)) b2 j3, e1]
        omega
      · have e := enB_f (x := bef n) (a := (bef n).toInt.toNat) (by have := hb n; omega) (by omega)
        omega
    · have e1 : qS bef n w = -w := if_neg q
      rcases l2 with ⟨j1, j2, j3, j4, j5⟩ | ⟨j1, j2, j3, j4, j5⟩
      · have e := enB_b (x := bef n) (a := ((bef n).toInt - 40).toNat) (by omega) (by have := hb n; omega)
        omega
      · rw [tFr_nI (d := (((ar : Nat) : Int), f95, f96, f97, f98)) b2 j3, tTo_nI (d := (((ar : Nat) : Int), f95, f96, f97, f98)) g2 j2, e1, sW_neg, sW_neg]
        omega
  · intro a h9
    by_cases e : a = qA bef n
    · refine Or.inr ⟨n, b2, b3, hs, ?_⟩
      obtain ⟨_, l2⟩ := g1
      rcases l2 with ⟨j1, _⟩ | ⟨j1, _⟩
      · rw [e]; exact Or.inl j1
      · rw [e]; exact Or.inr j1
    · rw [hk2 a e]; exact b8 a h9
  · intro q hq1 hq2 hq3 hq4
    rw [hk2 _ (fun e => by
      obtain ⟨c9, k1, k2, k3, k4, k5, _⟩ := hT.cls hb hq1 hq2 hq3
      rw [e] at k1
      have ew := hT.apart hq1 b2 k2 g2 k1 g1 k5 g5
      rw [ew] at hq4
      omega)]
    exact b9 q hq1 hq2 hq3 (by omega)
  · rw [csA_put (fl := fI g99) (gl := fI k99) (a := qA bef n) (k := qS bef n w) ha (by show (k99 (qA bef n)).toInt = (g99 (qA bef n)).toInt + qS bef n w; rw [hk1, hy]) (fun b h9 => by show (k99 b).toInt = (g99 b).toInt; rw [hk2 b h9]), b10]
    have e5 : qS bef n w * tCo (((ar : Nat) : Int), f95, f96, f97, f98) (qA bef n) = w * c := by
      show qS bef n w * (f98 (qA bef n)).toInt = w * c
      rw [g7]
      by_cases q : (bef n).toInt < 40
      · rw [show qS bef n w = w from if_pos q, show qS bef n (f98 (qA bef n)).toInt = (f98 (qA bef n)).toInt from if_pos q]
      · rw [show qS bef n w = -w from if_neg q, show qS bef n (f98 (qA bef n)).toInt = -(f98 (qA bef n)).toInt from if_neg q, Int.neg_mul, Int.mul_neg]
    rw [e5, show (pr t).toInt - (pr (qU f95 f96 bef n)).toInt = ((pr t).toInt - (pr n).toInt) + c from by omega, Int.mul_add]
    omega
theorem Qk2.wid {d : NtD} {f95 f96 f97 f98 f99 g99 pr bef : Nat → Int32} {rk : Nat → Nat} {ar sN t I0 i n m : Nat} {mo w : Int} (h : Qk2 d f95 f96 f97 f98 f99 g99 pr bef rk ar sN t w I0 i n) (h1 : Qk1 f95 f96 f97 f99 pr bef rk t mo I0 m w) (hm : m = sN) (hs : n ≠ sN) : w ≤ qR f97 f99 bef n := by
  obtain ⟨b1, b2, b3, b4, b5, _⟩ := h
  have hi9 : i ≠ I0 := fun e9 => hs (by rw [b1, e9, ← h1.1, hm])
  have hw := h1.2.2.2.2.2.2 i (by omega)
  rw [← b1] at hw
  exact hw
theorem csA_bd {f95 f96 f97 f98 f99 : Nat → Int32} {ar : Nat} (hA : ArO f95 f96 f97 f98 ar) (hF : FlO f97 f99 ar) : ∀ m, m ≤ ar → 0 ≤ csA (((ar : Nat) : Int), f95, f96, f97, f98) (fI f99) m ∧ csA (((ar : Nat) : Int), f95, f96, f97, f98) (fI f99) m ≤ 1000000 * (m : Int) := by
  intro m
  induction m with
  | zero => intro _; exact ⟨Int.le_refl _, Int.le_refl _⟩
  | succ m ih =>
    intro h
    have h1 := ih (by omega)
    obtain ⟨x, y, hx, hy, hxy, ex, ey, hr, hc⟩ := hA m (by omega)
    have hf := hF m (by omega)
    have e : csA (((ar : Nat) : Int), f95, f96, f97, f98) (fI f99) (m + 1) = csA (((ar : Nat) : Int), f95, f96, f97, f98) (fI f99) m + (f99 m).toInt * (f98 m).toInt := rfl
    have h2 : 0 ≤ (f99 m).toInt * (f98 m).toInt := Int.mul_nonneg hf.1 hc.1
    have h3 : (f99 m).toInt * (f98 m).toInt ≤ 1000 * 1000 := Int.mul_le_mul (by omega) hc.2 hc.1 (by decide)
    rw [e]
    omega
/-- what leastCost keeps -/
def LcI (f95 f96 f97 f98 f99 : Nat → Int32) (ar sN t : Nat) (v s : Int) : Prop := FlO f97 f99 ar ∧ rsI (((ar : Nat) : Int), f95, f96, f97, f98) sN t (fI f99) v ar ∧ (∃ R p, PoX f95 f96 f97 f98 f99 ar sN R p) ∧ (∃ p, PoO f95 f96 f97 f98 f99 ar (fun _ => True) p) ∧ s = csA (((ar : Nat) : Int), f95, f96, f97, f98) (fI f99) ar
theorem LcI.start {f95 f96 f97 f98 f99 : Nat → Int32} {ar sN t : Nat} {v s : Int} (hA : ArO f95 f96 f97 f98 ar) (h : ∀ a, a < ar → f99 a = 0) (hv : v = 0) (hs : s = 0) : LcI f95 f96 f97 f98 f99 ar sN t v s := by
  subst hv hs
  refine ⟨FlO.init (f95 := f95) (f96 := f96) (f98 := f98) hA h, rsI.start (fun a ha => by unfold fI; (try dsimp only); rw [h a ha]; decide), ⟨fun _ => True, fun _ => 0, PoO.init hA h, fun _ _ => Int.le_refl _, rfl, trivial⟩, ⟨_, PoO.init hA h⟩, ?_⟩
  have key : ∀ m, m ≤ ar → csA (((ar : Nat) : Int), f95, f96, f97, f98) (fI f99) m = 0 := by
    intro m
    induction m with
    | zero => intro _; rfl
    | succ m ih =>
      intro h9
      show csA (((ar : Nat) : Int), f95, f96, f97, f98) (fI f99) m + (f99 m).toInt * (f98 m).toInt = 0
      rw [ih (by omega), h m (by omega), show (0 : Int32).toInt = 0 from by decide, Int.zero_mul]
      rfl
  exact (key ar (Nat.le_refl _)).symm
theorem LcI.more {f95 f96 f97 f98 f99 g99 pr bef : Nat → Int32} {ar sN t : Nat} {v s v2 s2 r : Int} {rk : Nat → Nat} (h : LcI f95 f96 f97 f98 f99 ar sN t v s) (hA : ArO f95 f96 f97 f98 ar) (hs : sN < 12) (hC : PrC f95 f96 f97 f98 f99 ar pr) (hT : TrK f95 f96 f97 f98 f99 ar sN pr (fun w => enB (bef w)) rk) (h0 : (pr sN).toInt = 0) (hb : ∀ v, v < 12 → 0 ≤ (pr v).toInt ∧ (pr v).toInt ≤ 536870912 ∧ (pr v ≠ 536870912 → (pr v).toInt ≤ 11000)) (g1 : FlO f97 g99 ar) (g2 : ∀ S, rsA (((ar : Nat) : Int), f95, f96, f97, f98) (fI g99) S ar = rsA (((ar : Nat) : Int), f95, f96, f97, f98) (fI f99) S ar - (sW S sN r - sW S t r)) (g3 : ∀ a, a < ar → g99 a = f99 a ∨ ∃ m, m < 12 ∧ pr m ≠ 536870912 ∧ m ≠ sN ∧ ((enB (bef m)).toInt = (a : Int) + 1 ∨ (enB (bef m)).toInt = -((a : Int) + 1))) (g4 : csA (((ar : Nat) : Int), f95, f96, f97, f98) (fI g99) ar = csA (((ar : Nat) : Int), f95, f96, f97, f98) (fI f99) ar + r * ((pr t).toInt - (pr sN).toInt)) (hv : v2 = v + r) (hs2 : s2 = s + r * (pr t).toInt) : LcI f95 f96 f97 f98 g99 ar sN t v2 s2 := by
  obtain ⟨k1, k2, k3, k4, k5⟩ := h
  have hbb : ∀ v, v < 12 → (pr v).toInt ≤ 536870912 ∧ (pr v ≠ 536870912 → (pr v).toInt ≤ 11000) := fun v hv => ⟨(hb v hv).2.1, (hb v hv).2.2⟩
  refine ⟨g1, k2.more g2 hv, ⟨fun v => v < 12 ∧ pr v ≠ 536870912, fun v => (pr v).toInt, PoO.after hA hT hC hbb g3, fun v hv => (hb v hv.1).1, h0, hs, fun e9 => ?_⟩, PoO.all hA hT hC hbb g3 k4, ?_⟩
  · rw [e9] at h0
    exact absurd h0 (by decide)
  · rw [hs2, k5, g4, h0, show (pr t).toInt - 0 = (pr t).toInt from by omega]
theorem LcI.none {f95 f96 f97 f98 f99 pr : Nat → Int32} {ar sN t : Nat} {v s am r : Int} (h : LcI f95 f96 f97 f98 f99 ar sN t v s) (hA : ArO f95 f96 f97 f98 ar) (hC : PrC f95 f96 f97 f98 f99 ar pr) (h0 : (pr sN).toInt = 0) (hb : ∀ v, v < 12 → 0 ≤ (pr v).toInt ∧ (pr v).toInt ≤ 536870912 ∧ (pr v ≠ 536870912 → (pr v).toInt ≤ 11000)) (ht : t < 12) (hf : (pr t).toInt ≥ 536870912) (ha : 0 ≤ am) (hl : v < am) (hr : r = -1) : mnC (((ar : Nat) : Int), f95, f96, f97, f98) sN t am r :=
  mnC.none h.1 h.2.1 (fun _ => flC_end hA h.1 hC (fun v hv => ⟨(hb v hv).2.1, (hb v hv).2.2⟩) h0 ht hf) ha hl hr
theorem LcI.some {f95 f96 f97 f98 f99 : Nat → Int32} {ar sN t : Nat} {v s am : Int} (h : LcI f95 f96 f97 f98 f99 ar sN t v s) (hA : ArO f95 f96 f97 f98 ar) (ha : 0 ≤ am) (hv : v = am) : mnC (((ar : Nat) : Int), f95, f96, f97, f98) sN t am s :=
  mnC.some hA h.1 h.2.1 h.2.2.2.1 ha hv h.2.2.2.2
theorem LcI.lim {f95 f96 f97 f98 f99 : Nat → Int32} {ar sN t : Nat} {v s : Int} (h : LcI f95 f96 f97 f98 f99 ar sN t v s) (hA : ArO f95 f96 f97 f98 ar) (h40 : ar ≤ 40) (hts : t ≠ sN) : v ≤ 40000 ∧ 0 ≤ s ∧ s ≤ 40000000 := by
  have h1 := rsI.lim hA h40 h.1 hts h.2.1
  have h2 := csA_bd hA h.1 ar (Nat.le_refl _)
  have h3 := h.2.2.2.2
  omega
theorem ArO.z0 : ArO (fun _ => 0) (fun _ => 0) (fun _ => 0) (fun _ => 0) (0 : Int32).toInt.toNat := fun a ha => by
  rw [show (0 : Int32).toInt.toNat = 0 from by decide] at ha
  exact absurd ha (Nat.not_lt_zero a)
end
section
def WN (hN : Nat → Nat) (aN : Nat → Nat) (kN : Nat → ClassId) (iN_arcs : Int32) (fN_from : Nat → Int32) (fN_to : Nat → Int32) (fN_room : Nat → Int32) (fN_cost : Nat → Int32) (iN_reached : Int32) (fN_free : Nat → Int32) (fN_before : Nat → Int32) (fN_flow : Nat → Int32) (fN_length : Nat → Int32) (fN_stop : Nat → Int32) (iN_stops : Int32) (fN_price : Nat → Int32) (fN_rest : Nat → Int32) : va_W := [(hN 0, .inr (2, [.int iN_arcs, .ref (aN 0), .ref (aN 1), .ref (aN 2), .ref (aN 3), .int iN_reached, .ref (aN 4), .ref (aN 5), .ref (aN 6), .ref (aN 7), .ref (aN 8), .int iN_stops, .ref (aN 9), .ref (aN 10)])), (aN 0, .inl (kN 0, 40, .inl fN_from)), (aN 1, .inl (kN 1, 40, .inl fN_to)), (aN 2, .inl (kN 2, 40, .inl fN_room)), (aN 3, .inl (kN 3, 40, .inl fN_cost)), (aN 4, .inl (kN 4, 144, .inl fN_free)), (aN 5, .inl (kN 5, 12, .inl fN_before)), (aN 6, .inl (kN 6, 40, .inl fN_flow)), (aN 7, .inl (kN 7, 12, .inl fN_length)), (aN 8, .inl (kN 8, 8, .inl fN_stop)), (aN 9, .inl (kN 9, 64, .inl fN_price)), (aN 10, .inl (kN 10, 1024, .inl fN_rest))]
def tN (kN : Nat → ClassId) : List (ClassId × FieldType) := [(kN 0, .int), (kN 1, .int), (kN 2, .int), (kN 3, .int), (kN 4, .int), (kN 5, .int), (kN 6, .int), (kN 7, .int), (kN 8, .int), (kN 9, .int), (kN 10, .int)]
theorem dX2_addArc_0 : decode cX2_addArc 0 = .ok (.aload_n 0, 1) := dk_42 (by decide +kernel)
theorem dX2_addArc_1 : decode cX2_addArc 1 = .ok (.getfield 11, 3) := dk_180 (by decide +kernel)
theorem dX2_addArc_4 : decode cX2_addArc 4 = .ok (.aload_n 0, 1) := dk_42 (by decide +kernel)
theorem dX2_addArc_5 : decode cX2_addArc 5 = .ok (.getfield 45, 3) := dk_180 (by decide +kernel)
theorem dX2_addArc_8 : decode cX2_addArc 8 = .ok (.iload_n 1, 1) := dk_27 (by decide +kernel)
theorem dX2_addArc_9 : decode cX2_addArc 9 = .ok (.iastore, 1) := dk_79 (by decide +kernel)
theorem dX2_addArc_10 : decode cX2_addArc 10 = .ok (.aload_n 0, 1) := dk_42 (by decide +kernel)
theorem dX2_addArc_11 : decode cX2_addArc 11 = .ok (.getfield 15, 3) := dk_180 (by decide +kernel)
theorem dX2_addArc_14 : decode cX2_addArc 14 = .ok (.aload_n 0, 1) := dk_42 (by decide +kernel)
theorem dX2_addArc_15 : decode cX2_addArc 15 = .ok (.getfield 45, 3) := dk_180 (by decide +kernel)
theorem dX2_addArc_18 : decode cX2_addArc 18 = .ok (.iload_n 2, 1) := dk_28 (by decide +kernel)
theorem dX2_addArc_19 : decode cX2_addArc 19 = .ok (.iastore, 1) := dk_79 (by decide +kernel)
theorem dX2_addArc_20 : decode cX2_addArc 20 = .ok (.aload_n 0, 1) := dk_42 (by decide +kernel)
theorem dX2_addArc_21 : decode cX2_addArc 21 = .ok (.getfield 18, 3) := dk_180 (by decide +kernel)
theorem dX2_addArc_24 : decode cX2_addArc 24 = .ok (.aload_n 0, 1) := dk_42 (by decide +kernel)
theorem dX2_addArc_25 : decode cX2_addArc 25 = .ok (.getfield 45, 3) := dk_180 (by decide +kernel)
theorem dX2_addArc_28 : decode cX2_addArc 28 = .ok (.iload_n 3, 1) := dk_29 (by decide +kernel)
theorem dX2_addArc_29 : decode cX2_addArc 29 = .ok (.iastore, 1) := dk_79 (by decide +kernel)
theorem dX2_addArc_30 : decode cX2_addArc 30 = .ok (.aload_n 0, 1) := dk_42 (by decide +kernel)
theorem dX2_addArc_31 : decode cX2_addArc 31 = .ok (.getfield 21, 3) := dk_180 (by decide +kernel)
theorem dX2_addArc_34 : decode cX2_addArc 34 = .ok (.aload_n 0, 1) := dk_42 (by decide +kernel)
theorem dX2_addArc_35 : decode cX2_addArc 35 = .ok (.getfield 45, 3) := dk_180 (by decide +kernel)
theorem dX2_addArc_38 : decode cX2_addArc 38 = .ok (.iload 4, 2) := dk_21 (by decide +kernel)
theorem dX2_addArc_40 : decode cX2_addArc 40 = .ok (.iastore, 1) := dk_79 (by decide +kernel)
theorem dX2_addArc_41 : decode cX2_addArc 41 = .ok (.aload_n 0, 1) := dk_42 (by decide +kernel)
theorem dX2_addArc_42 : decode cX2_addArc 42 = .ok (.dup, 1) := dk_89 (by decide +kernel)
theorem dX2_addArc_43 : decode cX2_addArc 43 = .ok (.getfield 45, 3) := dk_180 (by decide +kernel)
theorem dX2_addArc_46 : decode cX2_addArc 46 = .ok (.iconst 1, 1) := dk_4 (by decide +kernel)
theorem dX2_addArc_47 : decode cX2_addArc 47 = .ok (.iadd, 1) := dk_96 (by decide +kernel)
theorem dX2_addArc_48 : decode cX2_addArc 48 = .ok (.putfield 45, 3) := dk_181 (by decide +kernel)
theorem dX2_addArc_51 : decode cX2_addArc 51 = .ok (.aload_n 0, 1) := dk_42 (by decide +kernel)
theorem dX2_addArc_52 : decode cX2_addArc 52 = .ok (.getfield 45, 3) := dk_180 (by decide +kernel)
theorem dX2_addArc_55 : decode cX2_addArc 55 = .ok (.iconst 1, 1) := dk_4 (by decide +kernel)
theorem dX2_addArc_56 : decode cX2_addArc 56 = .ok (.isub, 1) := dk_100 (by decide +kernel)
theorem dX2_addArc_57 : decode cX2_addArc 57 = .ok (.ireturn, 1) := dk_172 (by decide +kernel)
def wsMX2_addArc : List Cond := .code yX2_addArc cX2_addArc 5 (some .int) :: ([.fieldLink RX2 11 "OptimaWorks$NetDesk" "from" "[I", .fieldLink RX2 45 "OptimaWorks$NetDesk" "arcs" "I", .fieldLink RX2 15 "OptimaWorks$NetDesk" "to" "[I", .fieldLink RX2 18 "OptimaWorks$NetDesk" "room" "[I", .fieldLink RX2 21 "OptimaWorks$NetDesk" "cost" "[I"] ++ wsX20)
theorem iwsMX2_addArc_in2 : ∀ w ∈ wsX20, w ∈ wsMX2_addArc := fun _ h => List.mem_cons_of_mem _ (List.mem_append_right _ h)
theorem gdwsMX2_addArc : wsMX2_addArc.all goodWord = true := gdC rfl (gdA (by decide +kernel : ([.fieldLink RX2 11 "OptimaWorks$NetDesk" "from" "[I", .fieldLink RX2 45 "OptimaWorks$NetDesk" "arcs" "I", .fieldLink RX2 15 "OptimaWorks$NetDesk" "to" "[I", .fieldLink RX2 18 "OptimaWorks$NetDesk" "room" "[I", .fieldLink RX2 21 "OptimaWorks$NetDesk" "cost" "[I"] : List Cond).all goodWord = true) gdwsX20)
set_option maxHeartbeats 4000000 in
set_option maxRecDepth 100000 in
/-- an arc more -/
theorem m_X2_addArc (l : Launch) (dC : Nat → ClassId) (dI : Nat → Nat → Nat) (hN : Nat → Nat) (aN : Nat → Nat) (kN : Nat → ClassId) (iN_arcs : Int32) (fN_from : Nat → Int32) (fN_to : Nat → Int32) (fN_room : Nat → Int32) (fN_cost : Nat → Int32) (iN_reached : Int32) (fN_free : Nat → Int32) (fN_before : Nat → Int32) (fN_flow : Nat → Int32) (fN_length : Nat → Int32) (fN_stop : Nat → Int32) (iN_stops : Int32) (fN_price : Nat → Int32) (fN_rest : Nat → Int32) (p1 : Int32) (p2 : Int32) (p3 : Int32) (p4 : Int32) (b_iN_arcs : 0 ≤ iN_arcs.toInt ∧ iN_arcs.toInt ≤ 40) (b_fN_from : ∀ q : Nat, 0 ≤ (fN_from q).toInt ∧ (fN_from q).toInt ≤ 11) (b_fN_to : ∀ q : Nat, 0 ≤ (fN_to q).toInt ∧ (fN_to q).toInt ≤ 11) (b_fN_before : ∀ q : Nat, 0 ≤ (fN_before q).toInt ∧ (fN_before q).toInt ≤ 79) (b_fN_stop : ∀ q : Nat, 0 ≤ (fN_stop q).toInt ∧ (fN_stop q).toInt ≤ 11) (b_iN_stops : 0 ≤ iN_stops.toInt ∧ iN_stops.toInt ≤ 8) (b_p1 : 0 ≤ p1.toInt ∧ p1.toInt ≤ 11) (b_p2 : 0 ≤ p2.toInt ∧ p2.toInt ≤ 11) (hlt : iN_arcs.toInt < 40) (sz : Nat) : Met l yX2_addArc wsMX2_addArc ({ frames := 0, cells := 0, slots := 0, locals := 0 }) (va_Pc [.ref (hN 0), .int p1, .int p2, .int p3, .int p4] (fun U => U.heap.size = sz ∧ va_P (dC, dI) vwCl (WN hN aN kN iN_arcs fN_from fN_to fN_room fN_cost iN_reached fN_free fN_before fN_flow fN_length fN_stop iN_stops fN_price fN_rest) U.heap ∧ va_K (dC, dI) vwCl (tN kN) U ∧ va_D (fun _ => True) (WN hN aN kN iN_arcs fN_from fN_to fN_room fN_cost iN_reached fN_free fN_before fN_flow fN_length fN_stop iN_stops fN_price fN_rest))) (va_Qi (fun (r : Int32) (u : (Int32) × (Nat → Int32) × (Nat → Int32) × (Nat → Int32) × (Nat → Int32)) => (0 ≤ (u.1).toInt ∧ (u.1).toInt ≤ 40) ∧ (∀ q : Nat, 0 ≤ ((u.2.1) q).toInt ∧ ((u.2.1) q).toInt ≤ 11) ∧ (∀ q : Nat, 0 ≤ ((u.2.2.1) q).toInt ∧ ((u.2.2.1) q).toInt ≤ 11) ∧ ((u.1).toInt = iN_arcs.toInt + 1) ∧ (r.toInt = iN_arcs.toInt) ∧ ((u.2.1) = upd fN_from iN_arcs.toInt.toNat p1) ∧ ((u.2.2.1) = upd fN_to iN_arcs.toInt.toNat p2) ∧ ((u.2.2.2.1) = upd fN_room iN_arcs.toInt.toNat p3) ∧ ((u.2.2.2.2) = upd fN_cost iN_arcs.toInt.toNat p4)) (fun (u : (Int32) × (Nat → Int32) × (Nat → Int32) × (Nat → Int32) × (Nat → Int32)) t => va_P (dC, dI) vwCl (WN hN aN kN (u.1) (u.2.1) (u.2.2.1) (u.2.2.2.1) (u.2.2.2.2) iN_reached fN_free fN_before fN_flow fN_length fN_stop iN_stops fN_price fN_rest) t.heap ∧ va_D (va_A (WN hN aN kN iN_arcs fN_from fN_to fN_room fN_cost iN_reached fN_free fN_before fN_flow fN_length fN_stop iN_stops fN_price fN_rest) sz) (WN hN aN kN (u.1) (u.2.1) (u.2.2.1) (u.2.2.2.1) (u.2.2.2.2) iN_reached fN_free fN_before fN_flow fN_length fN_stop iN_stops fN_price fN_rest)) (va_A (WN hN aN kN iN_arcs fN_from fN_to fN_room fN_cost iN_reached fN_free fN_before fN_flow fN_length fN_stop iN_stops fN_price fN_rest) sz)) 0 0 (va_A (WN hN aN kN iN_arcs fN_from fN_to fN_room fN_cost iN_reached fN_free fN_before fN_flow fN_length fN_stop iN_stops fN_price fN_rest) sz) := by
  refine Met.ofW (cc := cX2_addArc) (maxL := 5) (ret := (some .int)) (by decide) rfl ?_
  intro p e s m args below meth c s₁ B hml hv
  obtain ⟨rfl, hsz, hP, hK, hD0⟩ := hv
  have hx := B.exec
  have hb := B.bytes
  have hr := B.returns
  have hts := atoms_spec (ws := wsMX2_addArc) B.pre
  have hown : s.vm.findClass RX2 = some m.cls := findClass_of_methodNamed B.named
  have hlocks := B.notSynchronized
  subst hsz
  have hD := hD0.self (sz := s.heap.size)
  generalize hAe : va_A (WN hN aN kN iN_arcs fN_from fN_to fN_room fN_cost iN_reached fN_free fN_before fN_flow fN_length fN_stop iN_stops fN_price fN_rest) s.heap.size = A at hD ⊢
  have hA : ∀ q : Nat, s.heap.size ≤ q → A q := fun q h => by rw [← hAe]; exact Or.inr h
  have hS : va_S A s.heap s.heap [] := va_S.rf
  have hl := lv_entry ([.ref (hN 0), .int p1, .int p2, .int p3, .int p4]) (n := 5) (Nat.le_of_ble_eq_true rfl)
  rw [lg_entry_eq]
  generalize (lg_sl ([.ref (hN 0), .int p1, .int p2, .int p3, .int p4]) ++ List.replicate (5 - (lg_sl ([.ref (hN 0), .int p1, .int p2, .int p3, .int p4])).length) Slot.unset).toArray = ls at hl ⊢
  have hl : lv_has ls 5 [(0, .ref (hN 0)), (1, .int p1), (2, .int p2), (3, .int p3), (4, .int p4)] := hl
  refine lv_aload_n hx hb dX2_addArc_0 rfl (lv_at hl 0 rfl) ?_
  refine va_get (D := (dC, dI)) (ci := 2) (v := .ref (aN 0)) (C := RX2) (T := TX2) (N := 14) hx hb hts iwsMX2_addArc_in2 hown hK hP 0 rfl rfl 1 (by decide) (hts (.fieldLink RX2 11 "OptimaWorks$NetDesk" "from" "[I") (by decide +kernel)) (fun _ h9 => h9) rfl dX2_addArc_1 ?_
  refine lv_aload_n hx hb dX2_addArc_4 rfl (lv_at hl 0 rfl) ?_
  refine va_get (D := (dC, dI)) (ci := 2) (v := .int iN_arcs) (C := RX2) (T := TX2) (N := 14) hx hb hts iwsMX2_addArc_in2 hown hK hP 0 rfl rfl 0 (by decide) (hts (.fieldLink RX2 45 "OptimaWorks$NetDesk" "arcs" "I") (by decide +kernel)) (fun _ h9 => h9) rfl dX2_addArc_5 ?_
  refine lv_iload_n hx hb dX2_addArc_8 rfl (lv_at hl 1 rfl) ?_
  refine va_iast (cA := kN 0) (n := 40) (f := fN_from) hx hb hK hP hD hS 1 0 rfl rfl (vp_in_iff.mpr ⟨b_iN_arcs.1, (by omega)⟩) dX2_addArc_9 (fun H locs hP hD hS => ?_)
  obtain ⟨u1, hu1⟩ : ∃ f9, f9 = upd fN_from (iN_arcs).toNatClampNeg p1 := ⟨_, rfl⟩
  have hP : va_P (dC, dI) vwCl (WN hN aN kN iN_arcs u1 fN_to fN_room fN_cost iN_reached fN_free fN_before fN_flow fN_length fN_stop iN_stops fN_price fN_rest) H := by rw [hu1]; exact hP
  have hD : va_D A (WN hN aN kN iN_arcs u1 fN_to fN_room fN_cost iN_reached fN_free fN_before fN_flow fN_length fN_stop iN_stops fN_price fN_rest) := by rw [hu1]; exact hD
  have b_u1 : ∀ q : Nat, 0 ≤ (u1 q).toInt ∧ (u1 q).toInt ≤ 11 := by rw [hu1]; exact upd_r b_fN_from (b_p1)
  have b1_u1 : u1 = upd fN_from (iN_arcs).toNatClampNeg p1 := hu1
  clear hu1
  refine lv_aload_n hx hb dX2_addArc_10 rfl (lv_at hl 0 rfl) ?_
  refine va_get (D := (dC, dI)) (ci := 2) (v := .ref (aN 1)) (C := RX2) (T := TX2) (N := 14) hx hb hts iwsMX2_addArc_in2 hown hK hP 0 rfl rfl 2 (by decide) (hts (.fieldLink RX2 15 "OptimaWorks$NetDesk" "to" "[I") (by decide +kernel)) (fun _ h9 => h9) rfl dX2_addArc_11 ?_
  refine lv_aload_n hx hb dX2_addArc_14 rfl (lv_at hl 0 rfl) ?_
  refine va_get (D := (dC, dI)) (ci := 2) (v := .int iN_arcs) (C := RX2) (T := TX2) (N := 14) hx hb hts iwsMX2_addArc_in2 hown hK hP 0 rfl rfl 0 (by decide) (hts (.fieldLink RX2 45 "OptimaWorks$NetDesk" "arcs" "I") (by decide +kernel)) (fun _ h9 => h9) rfl dX2_addArc_15 ?_
  refine lv_iload_n hx hb dX2_addArc_18 rfl (lv_at hl 2 rfl) ?_
  refine va_iast (cA := kN 1) (n := 40) (f := fN_to) hx hb hK hP hD hS 2 1 rfl rfl (vp_in_iff.mpr ⟨b_iN_arcs.1, (by omega)⟩) dX2_addArc_19 (fun H locs hP hD hS => ?_)
  obtain ⟨u2, hu2⟩ : ∃ f9, f9 = upd fN_to (iN_arcs).toNatClampNeg p2 := ⟨_, rfl⟩
  have hP : va_P (dC, dI) vwCl (WN hN aN kN iN_arcs u1 u2 fN_room fN_cost iN_reached fN_free fN_before fN_flow fN_length fN_stop iN_stops fN_price fN_rest) H := by rw [hu2]; exact hP
  have hD : va_D A (WN hN aN kN iN_arcs u1 u2 fN_room fN_cost iN_reached fN_free fN_before fN_flow fN_length fN_stop iN_stops fN_price fN_rest) := by rw [hu2]; exact hD
  have b_u2 : ∀ q : Nat, 0 ≤ (u2 q).toInt ∧ (u2 q).toInt ≤ 11 := by rw [hu2]; exact upd_r b_fN_to (b_p2)
  have b1_u2 : u2 = upd fN_to (iN_arcs).toNatClampNeg p2 := hu2
  clear hu2
  refine lv_aload_n hx hb dX2_addArc_20 rfl (lv_at hl 0 rfl) ?_
  refine va_get (D := (dC, dI)) (ci := 2) (v := .ref (aN 2)) (C := RX2) (T := TX2) (N := 14) hx hb hts iwsMX2_addArc_in2 hown hK hP 0 rfl rfl 3 (by decide) (hts (.fieldLink RX2 18 "OptimaWorks$NetDesk" "room" "[I") (by decide +kernel)) (fun _ h9 => h9) rfl dX2_addArc_21 ?_
  refine lv_aload_n hx hb dX2_addArc_24 rfl (lv_at hl 0 rfl) ?_
  refine va_get (D := (dC, dI)) (ci := 2) (v := .int iN_arcs) (C := RX2) (T := TX2) (N := 14) hx hb hts iwsMX2_addArc_in2 hown hK hP 0 rfl rfl 0 (by decide) (hts (.fieldLink RX2 45 "OptimaWorks$NetDesk" "arcs" "I") (by decide +kernel)) (fun _ h9 => h9) rfl dX2_addArc_25 ?_
  refine lv_iload_n hx hb dX2_addArc_28 rfl (lv_at hl 3 rfl) ?_
  refine va_iast (cA := kN 2) (n := 40) (f := fN_room) hx hb hK hP hD hS 3 2 rfl rfl (vp_in_iff.mpr ⟨b_iN_arcs.1, (by omega)⟩) dX2_addArc_29 (fun H locs hP hD hS => ?_)
  obtain ⟨u3, hu3⟩ : ∃ f9, f9 = upd fN_room (iN_arcs).toNatClampNeg p3 := ⟨_, rfl⟩
  have hP : va_P (dC, dI) vwCl (WN hN aN kN iN_arcs u1 u2 u3 fN_cost iN_reached fN_free fN_before fN_flow fN_length fN_stop iN_stops fN_price fN_rest) H := by rw [hu3]; exact hP
  have hD : va_D A (WN hN aN kN iN_arcs u1 u2 u3 fN_cost iN_reached fN_free fN_before fN_flow fN_length fN_stop iN_stops fN_price fN_rest) := by rw [hu3]; exact hD
  have b_u3 : u3 = upd fN_room (iN_arcs).toNatClampNeg p3 := hu3
  clear hu3
  refine lv_aload_n hx hb dX2_addArc_30 rfl (lv_at hl 0 rfl) ?_
  refine va_get (D := (dC, dI)) (ci := 2) (v := .ref (aN 3)) (C := RX2) (T := TX2) (N := 14) hx hb hts iwsMX2_addArc_in2 hown hK hP 0 rfl rfl 4 (by decide) (hts (.fieldLink RX2 21 "OptimaWorks$NetDesk" "cost" "[I") (by decide +kernel)) (fun _ h9 => h9) rfl dX2_addArc_31 ?_
  refine lv_aload_n hx hb dX2_addArc_34 rfl (lv_at hl 0 rfl) ?_
  refine va_get (D := (dC, dI)) (ci := 2) (v := .int iN_arcs) (C := RX2) (T := TX2) (N := 14) hx hb hts iwsMX2_addArc_in2 hown hK hP 0 rfl rfl 0 (by decide) (hts (.fieldLink RX2 45 "OptimaWorks$NetDesk" "arcs" "I") (by decide +kernel)) (fun _ h9 => h9) rfl dX2_addArc_35 ?_
  refine lv_iload hx hb dX2_addArc_38 (lv_at hl 4 rfl) ?_
  refine va_iast (cA := kN 3) (n := 40) (f := fN_cost) hx hb hK hP hD hS 4 3 rfl rfl (vp_in_iff.mpr ⟨b_iN_arcs.1, (by omega)⟩) dX2_addArc_40 (fun H locs hP hD hS => ?_)
  obtain ⟨u4, hu4⟩ : ∃ f9, f9 = upd fN_cost (iN_arcs).toNatClampNeg p4 := ⟨_, rfl⟩
  have hP : va_P (dC, dI) vwCl (WN hN aN kN iN_arcs u1 u2 u3 u4 iN_reached fN_free fN_before fN_flow fN_length fN_stop iN_stops fN_price fN_rest) H := by rw [hu4]; exact hP
  have hD : va_D A (WN hN aN kN iN_arcs u1 u2 u3 u4 iN_reached fN_free fN_before fN_flow fN_length fN_stop iN_stops fN_price fN_rest) := by rw [hu4]; exact hD
  have b_u4 : u4 = upd fN_cost (iN_arcs).toNatClampNeg p4 := hu4
  clear hu4
  refine lv_aload_n hx hb dX2_addArc_41 rfl (lv_at hl 0 rfl) ?_
  refine lv_dup hx hb dX2_addArc_42 rfl ?_
  refine va_get (D := (dC, dI)) (ci := 2) (v := .int iN_arcs) (C := RX2) (T := TX2) (N := 14) hx hb hts iwsMX2_addArc_in2 hown hK hP 0 rfl rfl 0 (by decide) (hts (.fieldLink RX2 45 "OptimaWorks$NetDesk" "arcs" "I") (by decide +kernel)) (fun _ h9 => h9) rfl dX2_addArc_43 ?_
  refine lv_iconst (v := 1) hx hb dX2_addArc_46 (by decide) ?_
  refine lv_iadd hx hb dX2_addArc_47 ?_
  refine lv_topi (fun y5 hy5 => ?_)
  obtain rfl : (iI (iN_arcs.toInt + 1)) = y5 := (hy5.trans (iI_add2 (iI_of _) (by decide : (1 : Int32) = iI 1))).symm
  refine va_put (D := (dC, dI)) (ci := 2) (v := .int (iI (iN_arcs.toInt + 1))) (ty := .int) (C := RX2) (T := TX2) (N := 14) hx hb hts iwsMX2_addArc_in2 tyX2 tyX2_ok nmX2 hown hK hP hD hS 0 rfl rfl 0 (by decide) (hts (.fieldLink RX2 45 "OptimaWorks$NetDesk" "arcs" "I") (by decide +kernel)) (fun _ h9 => h9) rfl (by decide +kernel) rfl rfl (Nat.le_of_ble_eq_true rfl) dX2_addArc_48 (fun H locs hP hD hS => ?_)
  have hP : va_P (dC, dI) vwCl (WN hN aN kN (iI (iN_arcs.toInt + 1)) u1 u2 u3 u4 iN_reached fN_free fN_before fN_flow fN_length fN_stop iN_stops fN_price fN_rest) H := hP
  have hD : va_D A (WN hN aN kN (iI (iN_arcs.toInt + 1)) u1 u2 u3 u4 iN_reached fN_free fN_before fN_flow fN_length fN_stop iN_stops fN_price fN_rest) := hD
  refine lv_aload_n hx hb dX2_addArc_51 rfl (lv_at hl 0 rfl) ?_
  refine va_get (D := (dC, dI)) (ci := 2) (v := .int (iI (iN_arcs.toInt + 1))) (C := RX2) (T := TX2) (N := 14) hx hb hts iwsMX2_addArc_in2 hown hK hP 0 rfl rfl 0 (by decide) (hts (.fieldLink RX2 45 "OptimaWorks$NetDesk" "arcs" "I") (by decide +kernel)) (fun _ h9 => h9) rfl dX2_addArc_52 ?_
  refine lv_iconst (v := 1) hx hb dX2_addArc_55 (by decide) ?_
  refine lv_isub hx hb dX2_addArc_56 ?_
  refine lv_topi (fun y6 hy6 => ?_)
  obtain rfl : (iI ((iN_arcs.toInt + 1) - 1)) = y6 := (hy6.trans (iI_sub2 rfl (by decide : (1 : Int32) = iI 1))).symm
  refine W.widen (k := 0) (n := 0) (by decide +kernel) (by decide +kernel) ?_
  exact W.iret (v := (iI ((iN_arcs.toInt + 1) - 1))) hx hb hr (fun t9_ ht hW => ⟨⟨(iI ((iN_arcs.toInt + 1) - 1)), ((iI (iN_arcs.toInt + 1)), u1, u2, u3, u4), rfl, ⟨(by (try dsimp only); exact (iI_rng (Int.le_trans (by decide) (Int.add_le_add (b_iN_arcs.1) (Int.le_refl _))) (by omega) (by decide) (by decide))), b_u1, b_u2, (by (try dsimp only); first | (rw [iI_t (by omega) (by omega)] <;> omega) | omega), (by (try dsimp only); first | (rw [iI_t (by omega) (by omega)] <;> omega) | omega), (by (try dsimp only); exact (b1_u1)), (by (try dsimp only); exact (b1_u2)), (by (try dsimp only); exact (b_u3)), (by (try dsimp only); exact (b_u4))⟩, by rw [ht]; exact hP, hD⟩, hS.F ht⟩) hS.2.2 dX2_addArc_57
theorem dX2_dropArc_0 : decode cX2_dropArc 0 = .ok (.aload_n 0, 1) := dk_42 (by decide +kernel)
theorem dX2_dropArc_1 : decode cX2_dropArc 1 = .ok (.getfield 45, 3) := dk_180 (by decide +kernel)
theorem dX2_dropArc_4 : decode cX2_dropArc 4 = .ok (.ifCond .ne 5, 3) := dk_154 (by decide +kernel)
theorem dX2_dropArc_7 : decode cX2_dropArc 7 = .ok (.iconst 0, 1) := dk_3 (by decide +kernel)
theorem dX2_dropArc_8 : decode cX2_dropArc 8 = .ok (.ireturn, 1) := dk_172 (by decide +kernel)
theorem dX2_dropArc_9 : decode cX2_dropArc 9 = .ok (.aload_n 0, 1) := dk_42 (by decide +kernel)
theorem dX2_dropArc_10 : decode cX2_dropArc 10 = .ok (.dup, 1) := dk_89 (by decide +kernel)
theorem dX2_dropArc_11 : decode cX2_dropArc 11 = .ok (.getfield 45, 3) := dk_180 (by decide +kernel)
theorem dX2_dropArc_14 : decode cX2_dropArc 14 = .ok (.iconst 1, 1) := dk_4 (by decide +kernel)
theorem dX2_dropArc_15 : decode cX2_dropArc 15 = .ok (.isub, 1) := dk_100 (by decide +kernel)
theorem dX2_dropArc_16 : decode cX2_dropArc 16 = .ok (.putfield 45, 3) := dk_181 (by decide +kernel)
theorem dX2_dropArc_19 : decode cX2_dropArc 19 = .ok (.iconst 1, 1) := dk_4 (by decide +kernel)
theorem dX2_dropArc_20 : decode cX2_dropArc 20 = .ok (.ireturn, 1) := dk_172 (by decide +kernel)
def wsMX2_dropArc : List Cond := .code yX2_dropArc cX2_dropArc 1 (some .boolean) :: ([.fieldLink RX2 45 "OptimaWorks$NetDesk" "arcs" "I"] ++ wsX20)
theorem iwsMX2_dropArc_in2 : ∀ w ∈ wsX20, w ∈ wsMX2_dropArc := fun _ h => List.mem_cons_of_mem _ (List.mem_append_right _ h)
theorem gdwsMX2_dropArc : wsMX2_dropArc.all goodWord = true := gdC rfl (gdA (by decide +kernel : ([.fieldLink RX2 45 "OptimaWorks$NetDesk" "arcs" "I"] : List Cond).all goodWord = true) gdwsX20)
set_option maxHeartbeats 4000000 in
set_option maxRecDepth 100000 in
/-- an arc less -/
theorem m_X2_dropArc (l : Launch) (dC : Nat → ClassId) (dI : Nat → Nat → Nat) (hN : Nat → Nat) (aN : Nat → Nat) (kN : Nat → ClassId) (iN_arcs : Int32) (fN_from : Nat → Int32) (fN_to : Nat → Int32) (fN_room : Nat → Int32) (fN_cost : Nat → Int32) (iN_reached : Int32) (fN_free : Nat → Int32) (fN_before : Nat → Int32) (fN_flow : Nat → Int32) (fN_length : Nat → Int32) (fN_stop : Nat → Int32) (iN_stops : Int32) (fN_price : Nat → Int32) (fN_rest : Nat → Int32) (b_iN_arcs : 0 ≤ iN_arcs.toInt ∧ iN_arcs.toInt ≤ 40) (b_fN_from : ∀ q : Nat, 0 ≤ (fN_from q).toInt ∧ (fN_from q).toInt ≤ 11) (b_fN_to : ∀ q : Nat, 0 ≤ (fN_to q).toInt ∧ (fN_to q).toInt ≤ 11) (b_fN_before : ∀ q : Nat, 0 ≤ (fN_before q).toInt ∧ (fN_before q).toInt ≤ 79) (b_fN_stop : ∀ q : Nat, 0 ≤ (fN_stop q).toInt ∧ (fN_stop q).toInt ≤ 11) (b_iN_stops : 0 ≤ iN_stops.toInt ∧ iN_stops.toInt ≤ 8) (sz : Nat) : Met l yX2_dropArc wsMX2_dropArc ({ frames := 0, cells := 0, slots := 0, locals := 0 }) (va_Pc [.ref (hN 0)] (fun U => U.heap.size = sz ∧ va_P (dC, dI) vwCl (WN hN aN kN iN_arcs fN_from fN_to fN_room fN_cost iN_reached fN_free fN_before fN_flow fN_length fN_stop iN_stops fN_price fN_rest) U.heap ∧ va_K (dC, dI) vwCl (tN kN) U ∧ va_D (fun _ => True) (WN hN aN kN iN_arcs fN_from fN_to fN_room fN_cost iN_reached fN_free fN_before fN_flow fN_length fN_stop iN_stops fN_price fN_rest))) (va_Qi (fun (r : Int32) (u : Int32) => (0 ≤ u.toInt ∧ u.toInt ≤ 40) ∧ (0 ≤ r.toInt ∧ r.toInt ≤ 1) ∧ ((iN_arcs.toInt = 0 ∧ r.toInt = 0 ∧ u.toInt = 0) ∨ (0 < iN_arcs.toInt ∧ r.toInt = 1 ∧ u.toInt = iN_arcs.toInt - 1))) (fun (u : Int32) t => va_P (dC, dI) vwCl (WN hN aN kN u fN_from fN_to fN_room fN_cost iN_reached fN_free fN_before fN_flow fN_length fN_stop iN_stops fN_price fN_rest) t.heap ∧ va_D (va_A (WN hN aN kN iN_arcs fN_from fN_to fN_room fN_cost iN_reached fN_free fN_before fN_flow fN_length fN_stop iN_stops fN_price fN_rest) sz) (WN hN aN kN u fN_from fN_to fN_room fN_cost iN_reached fN_free fN_before fN_flow fN_length fN_stop iN_stops fN_price fN_rest)) (va_A (WN hN aN kN iN_arcs fN_from fN_to fN_room fN_cost iN_reached fN_free fN_before fN_flow fN_length fN_stop iN_stops fN_price fN_rest) sz)) 0 0 (va_A (WN hN aN kN iN_arcs fN_from fN_to fN_room fN_cost iN_reached fN_free fN_before fN_flow fN_length fN_stop iN_stops fN_price fN_rest) sz) := by
  refine Met.ofW (cc := cX2_dropArc) (maxL := 1) (ret := (some .boolean)) (by decide) rfl ?_
  intro p e s m args below meth c s₁ B hml hv
  obtain ⟨rfl, hsz, hP, hK, hD0⟩ := hv
  have hx := B.exec
  have hb := B.bytes
  have hr := B.returns
  have hts := atoms_spec (ws := wsMX2_dropArc) B.pre
  have hown : s.vm.findClass RX2 = some m.cls := findClass_of_methodNamed B.named
  have hlocks := B.notSynchronized
  subst hsz
  have hD := hD0.self (sz := s.heap.size)
  generalize hAe : va_A (WN hN aN kN iN_arcs fN_from fN_to fN_room fN_cost iN_reached fN_free fN_before fN_flow fN_length fN_stop iN_stops fN_price fN_rest) s.heap.size = A at hD ⊢
  have hA : ∀ q : Nat, s.heap.size ≤ q → A q := fun q h => by rw [← hAe]; exact Or.inr h
  have hS : va_S A s.heap s.heap [] := va_S.rf
  have hl := lv_entry ([.ref (hN 0)]) (n := 1) (Nat.le_of_ble_eq_true rfl)
  rw [lg_entry_eq]
  generalize (lg_sl ([.ref (hN 0)]) ++ List.replicate (1 - (lg_sl ([.ref (hN 0)])).length) Slot.unset).toArray = ls at hl ⊢
  have hl : lv_has ls 1 [(0, .ref (hN 0))] := hl
  refine lv_aload_n hx hb dX2_dropArc_0 rfl (lv_at hl 0 rfl) ?_
  refine va_get (D := (dC, dI)) (ci := 2) (v := .int iN_arcs) (C := RX2) (T := TX2) (N := 14) hx hb hts iwsMX2_dropArc_in2 hown hK hP 0 rfl rfl 0 (by decide) (hts (.fieldLink RX2 45 "OptimaWorks$NetDesk" "arcs" "I") (by decide +kernel)) (fun _ h9 => h9) rfl dX2_dropArc_1 ?_
  refine lv_if_ne (tgt := 9) hx hb dX2_dropArc_4 (by decide) (fun c_4 => ?_) (fun c_4 => ?_)
  · have t_4 : iN_arcs.toInt ≠ 0 := toI_ne c_4 rfl (by decide : (0 : Int32).toInt = 0)
    refine lv_aload_n hx hb dX2_dropArc_9 rfl (lv_at hl 0 rfl) ?_
    refine lv_dup hx hb dX2_dropArc_10 rfl ?_
    refine va_get (D := (dC, dI)) (ci := 2) (v := .int iN_arcs) (C := RX2) (T := TX2) (N := 14) hx hb hts iwsMX2_dropArc_in2 hown hK hP 0 rfl rfl 0 (by decide) (hts (.fieldLink RX2 45 "OptimaWorks$NetDesk" "arcs" "I") (by decide +kernel)) (fun _ h9 => h9) rfl dX2_dropArc_11 ?_
    refine lv_iconst (v := 1) hx hb dX2_dropArc_14 (by decide) ?_
    refine lv_isub hx hb dX2_dropArc_15 ?_
    refine lv_topi (fun y1 hy1 => ?_)
    obtain rfl : (iI (iN_arcs.toInt - 1)) = y1 := (hy1.trans (iI_sub2 (iI_of _) (by decide : (1 : Int32) = iI 1))).symm
    refine va_put (D := (dC, dI)) (ci := 2) (v := .int (iI (iN_arcs.toInt - 1))) (ty := .int) (C := RX2) (T := TX2) (N := 14) hx hb hts iwsMX2_dropArc_in2 tyX2 tyX2_ok nmX2 hown hK hP hD hS 0 rfl rfl 0 (by decide) (hts (.fieldLink RX2 45 "OptimaWorks$NetDesk" "arcs" "I") (by decide +kernel)) (fun _ h9 => h9) rfl (by decide +kernel) rfl rfl (Nat.le_of_ble_eq_true rfl) dX2_dropArc_16 (fun H locs hP hD hS => ?_)
    have hP : va_P (dC, dI) vwCl (WN hN aN kN (iI (iN_arcs.toInt - 1)) fN_from fN_to fN_room fN_cost iN_reached fN_free fN_before fN_flow fN_length fN_stop iN_stops fN_price fN_rest) H := hP
    have hD : va_D A (WN hN aN kN (iI (iN_arcs.toInt - 1)) fN_from fN_to fN_room fN_cost iN_reached fN_free fN_before fN_flow fN_length fN_stop iN_stops fN_price fN_rest) := hD
    refine lv_iconst (v := 1) hx hb dX2_dropArc_19 (by decide) ?_
    refine W.widen (k := 0) (n := 0) (by decide +kernel) (by decide +kernel) ?_
    exact W.zret (v := 1) hx hb hr rfl (fun t9_ ht hW => ⟨⟨(1 : Int32), (iI (iN_arcs.toInt - 1)), rfl, ⟨(by (try dsimp only); exact (iI_rng (by omega) (Int.le_trans (Int.sub_le_sub (b_iN_arcs.2) (Int.le_refl _)) (by decide)) (by decide) (by decide))), (show 0 ≤ (1 : Int32).toInt ∧ (1 : Int32).toInt ≤ 1 from by decide), (by (try dsimp only); first | exact Or.inl ⟨by omega, by decide, by omega⟩ | exact Or.inr ⟨by omega, by decide, by first | (rw [iI_t (by omega) (by omega)] <;> omega) | omega⟩)⟩, by rw [ht]; exact hP, hD⟩, hS.F ht⟩) hS.2.2 dX2_dropArc_20
  · have t_4 : iN_arcs.toInt = 0 := toI_nne c_4 rfl (by decide : (0 : Int32).toInt = 0)
    refine lv_iconst (v := 0) hx hb dX2_dropArc_7 (by decide) ?_
    refine W.widen (k := 0) (n := 0) (by decide +kernel) (by decide +kernel) ?_
    exact W.zret (v := 0) hx hb hr rfl (fun t9_ ht hW => ⟨⟨(0 : Int32), iN_arcs, rfl, ⟨(by (try dsimp only); exact (b_iN_arcs)), (show 0 ≤ (0 : Int32).toInt ∧ (0 : Int32).toInt ≤ 1 from by decide), (by (try dsimp only); first | exact Or.inl ⟨by omega, by decide, by omega⟩ | exact Or.inr ⟨by omega, by decide, by first | (rw [iI_t (by omega) (by omega)] <;> omega) | omega⟩)⟩, by rw [ht]; exact hP, hD⟩, hS.F ht⟩) hS.2.2 dX2_dropArc_8
end

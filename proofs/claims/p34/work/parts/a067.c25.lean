theorem dX12_takeNumber_0 : decode cX12_takeNumber 0 = .ok (.iconst 0, 1) := dk_3 (by decide +kernel)
theorem dX12_takeNumber_1 : decode cX12_takeNumber 1 = .ok (.istore_n 1, 1) := dk_60 (by decide +kernel)
theorem dX12_takeNumber_2 : decode cX12_takeNumber 2 = .ok (.aload_n 0, 1) := dk_42 (by decide +kernel)
theorem dX12_takeNumber_3 : decode cX12_takeNumber 3 = .ok (.aload_n 0, 1) := dk_42 (by decide +kernel)
theorem dX12_takeNumber_4 : decode cX12_takeNumber 4 = .ok (.getfield 485, 3) := dk_180 (by decide +kernel)
theorem dX12_takeNumber_7 : decode cX12_takeNumber 7 = .ok (.invokevirtual 482, 3) := dk_182 (by decide +kernel)
theorem dX12_takeNumber_10 : decode cX12_takeNumber 10 = .ok (.invokestatic 503, 3) := dk_184 (by decide +kernel)
theorem dX12_takeNumber_13 : decode cX12_takeNumber 13 = .ok (.ifCond .eq 47, 3) := dk_153 (by decide +kernel)
theorem dX12_takeNumber_16 : decode cX12_takeNumber 16 = .ok (.aload_n 0, 1) := dk_42 (by decide +kernel)
theorem dX12_takeNumber_17 : decode cX12_takeNumber 17 = .ok (.getfield 485, 3) := dk_180 (by decide +kernel)
theorem dX12_takeNumber_20 : decode cX12_takeNumber 20 = .ok (.aload_n 0, 1) := dk_42 (by decide +kernel)
theorem dX12_takeNumber_21 : decode cX12_takeNumber 21 = .ok (.getfield 488, 3) := dk_180 (by decide +kernel)
theorem dX12_takeNumber_24 : decode cX12_takeNumber 24 = .ok (.isub, 1) := dk_100 (by decide +kernel)
theorem dX12_takeNumber_25 : decode cX12_takeNumber 25 = .ok (.bipush 6, 2) := dk_16 (by decide +kernel)
theorem dX12_takeNumber_27 : decode cX12_takeNumber 27 = .ok (.if_icmp .ge 20, 3) := dk_162 (by decide +kernel)
theorem dX12_takeNumber_30 : decode cX12_takeNumber 30 = .ok (.bipush 10, 2) := dk_16 (by decide +kernel)
theorem dX12_takeNumber_32 : decode cX12_takeNumber 32 = .ok (.iload_n 1, 1) := dk_27 (by decide +kernel)
theorem dX12_takeNumber_33 : decode cX12_takeNumber 33 = .ok (.imul, 1) := dk_104 (by decide +kernel)
theorem dX12_takeNumber_34 : decode cX12_takeNumber 34 = .ok (.aload_n 0, 1) := dk_42 (by decide +kernel)
theorem dX12_takeNumber_35 : decode cX12_takeNumber 35 = .ok (.aload_n 0, 1) := dk_42 (by decide +kernel)
theorem dX12_takeNumber_36 : decode cX12_takeNumber 36 = .ok (.getfield 485, 3) := dk_180 (by decide +kernel)
theorem dX12_takeNumber_39 : decode cX12_takeNumber 39 = .ok (.invokevirtual 482, 3) := dk_182 (by decide +kernel)
theorem dX12_takeNumber_42 : decode cX12_takeNumber 42 = .ok (.iadd, 1) := dk_96 (by decide +kernel)
theorem dX12_takeNumber_43 : decode cX12_takeNumber 43 = .ok (.bipush 48, 2) := dk_16 (by decide +kernel)
theorem dX12_takeNumber_45 : decode cX12_takeNumber 45 = .ok (.isub, 1) := dk_100 (by decide +kernel)
theorem dX12_takeNumber_46 : decode cX12_takeNumber 46 = .ok (.istore_n 1, 1) := dk_60 (by decide +kernel)
theorem dX12_takeNumber_47 : decode cX12_takeNumber 47 = .ok (.aload_n 0, 1) := dk_42 (by decide +kernel)
theorem dX12_takeNumber_48 : decode cX12_takeNumber 48 = .ok (.dup, 1) := dk_89 (by decide +kernel)
theorem dX12_takeNumber_49 : decode cX12_takeNumber 49 = .ok (.getfield 485, 3) := dk_180 (by decide +kernel)
theorem dX12_takeNumber_52 : decode cX12_takeNumber 52 = .ok (.iconst 1, 1) := dk_4 (by decide +kernel)
theorem dX12_takeNumber_53 : decode cX12_takeNumber 53 = .ok (.iadd, 1) := dk_96 (by decide +kernel)
theorem dX12_takeNumber_54 : decode cX12_takeNumber 54 = .ok (.putfield 485, 3) := dk_181 (by decide +kernel)
theorem dX12_takeNumber_57 : decode cX12_takeNumber 57 = .ok (.goto (-55), 3) := dk_167 (by decide +kernel)
theorem dX12_takeNumber_60 : decode cX12_takeNumber 60 = .ok (.aload_n 0, 1) := dk_42 (by decide +kernel)
theorem dX12_takeNumber_61 : decode cX12_takeNumber 61 = .ok (.iload_n 1, 1) := dk_27 (by decide +kernel)
theorem dX12_takeNumber_62 : decode cX12_takeNumber 62 = .ok (.putfield 491, 3) := dk_181 (by decide +kernel)
theorem dX12_takeNumber_65 : decode cX12_takeNumber 65 = .ok (.aload_n 0, 1) := dk_42 (by decide +kernel)
theorem dX12_takeNumber_66 : decode cX12_takeNumber 66 = .ok (.aload_n 0, 1) := dk_42 (by decide +kernel)
theorem dX12_takeNumber_67 : decode cX12_takeNumber 67 = .ok (.getfield 485, 3) := dk_180 (by decide +kernel)
theorem dX12_takeNumber_70 : decode cX12_takeNumber 70 = .ok (.aload_n 0, 1) := dk_42 (by decide +kernel)
theorem dX12_takeNumber_71 : decode cX12_takeNumber 71 = .ok (.getfield 488, 3) := dk_180 (by decide +kernel)
theorem dX12_takeNumber_74 : decode cX12_takeNumber 74 = .ok (.isub, 1) := dk_100 (by decide +kernel)
theorem dX12_takeNumber_75 : decode cX12_takeNumber 75 = .ok (.bipush 6, 2) := dk_16 (by decide +kernel)
theorem dX12_takeNumber_77 : decode cX12_takeNumber 77 = .ok (.if_icmp .le 7, 3) := dk_164 (by decide +kernel)
theorem dX12_takeNumber_80 : decode cX12_takeNumber 80 = .ok (.iconst 5, 1) := dk_8 (by decide +kernel)
theorem dX12_takeNumber_81 : decode cX12_takeNumber 81 = .ok (.goto 4, 3) := dk_167 (by decide +kernel)
theorem dX12_takeNumber_84 : decode cX12_takeNumber 84 = .ok (.iconst 3, 1) := dk_6 (by decide +kernel)
theorem dX12_takeNumber_85 : decode cX12_takeNumber 85 = .ok (.putfield 494, 3) := dk_181 (by decide +kernel)
theorem dX12_takeNumber_88 : decode cX12_takeNumber 88 = .ok (.return_, 1) := dk_177 (by decide +kernel)
def wsRX12_takeNumber : List Cond := .code yX12_takeNumber cX12_takeNumber 2 none :: ([.fieldLink RX12 485 "OptimaWorksModel" "at0" "I", .fieldLink RX12 488 "OptimaWorksModel" "from" "I", .fieldLink RX12 491 "OptimaWorksModel" "sign0" "I", .fieldLink RX12 494 "OptimaWorksModel" "word" "I"] ++ wsX120 ++ (wsV RX12 482 RX12 yX12_byteAt wsRX12_byteAt) ++ (va_wsS RX12 503 yX12_isDigit wsRX12_isDigit))
theorem iwsRX12_takeNumber_in12 : ∀ w ∈ wsX120, w ∈ wsRX12_takeNumber := fun _ h => List.mem_cons_of_mem _ (List.mem_append_left _ (List.mem_append_left _ (List.mem_append_right _ h)))
theorem gwsRX12_takeNumber_0 : GoodIn wsRX12_takeNumber (wsV RX12 482 RX12 yX12_byteAt wsRX12_byteAt) := goodIn_sub (fun _ h => List.mem_cons_of_mem _ (List.mem_append_left _ (List.mem_append_right _ h))) (gdV (by decide +kernel) gdwsRX12_byteAt)
theorem gwsRX12_takeNumber_1 : GoodIn wsRX12_takeNumber (va_wsS RX12 503 yX12_isDigit wsRX12_isDigit) := goodIn_sub (fun _ h => List.mem_cons_of_mem _ (List.mem_append_right _ h)) (gdS (by decide +kernel) gdwsRX12_isDigit)
theorem gdwsRX12_takeNumber : wsRX12_takeNumber.all goodWord = true := gdC rfl (gdA (gdA (gdA (by decide +kernel : ([.fieldLink RX12 485 "OptimaWorksModel" "at0" "I", .fieldLink RX12 488 "OptimaWorksModel" "from" "I", .fieldLink RX12 491 "OptimaWorksModel" "sign0" "I", .fieldLink RX12 494 "OptimaWorksModel" "word" "I"] : List Cond).all goodWord = true) gdwsX120) (gdV (by decide +kernel) gdwsRX12_byteAt)) (gdS (by decide +kernel) gdwsRX12_isDigit))
set_option maxHeartbeats 4000000 in
set_option maxRecDepth 100000 in
/-- takeNumber() -/
theorem r_X12_takeNumber (l : Launch) (dC : Nat → ClassId) (dI : Nat → Nat → Nat) (a : Nat → Nat) (k : Nat → ClassId) (h0 : Nat) (vi : Nat → Int32) (vj : Nat → Int64) (vF : Nat → Nat → Int32) (vG : Nat → Nat → Int64) (tp : Nat) (an : Nat) (fn : Nat) (hTp : vi 16 = nI tp) (htp : tp ≤ 4000) (ha0 : vi 17 = nI an) (hfr : vi 19 = nI fn) (hfa : fn ≤ an) (hant : an < tp) (hdg : 48 ≤ (bA tp (vF 9) an).toInt ∧ (bA tp (vF 9) an).toInt ≤ 57) (sz : Nat) : Met l yX12_takeNumber wsRX12_takeNumber ({ frames := 1, cells := 0, slots := 0, locals := 21 }) (va_Pc [.ref h0] (fun U => U.heap.size = sz ∧ va_P (dC, dI) vwCl (WR a k h0 vi vj vF vG) U.heap ∧ va_K (dC, dI) vwCl (tX12 k) U ∧ va_D (fun _ => True) (WR a k h0 vi vj vF vG))) (va_Qv (fun (u : (Nat) × (Int32) × (Int32)) => (an < (u.1)) ∧ ((u.1) ≤ tp) ∧ (0 ≤ ((u.2.1)).toInt ∧ ((u.2.1)).toInt ≤ 999999) ∧ ((u.2.2) = 3 ∨ (u.2.2) = 5)) (fun (u : (Nat) × (Int32) × (Int32)) t => va_P (dC, dI) vwCl (WR a k h0 (fT (fT (fT vi 17 (nI (u.1))) 20 (u.2.1)) 18 (u.2.2)) vj vF vG) t.heap ∧ va_D (va_A (WR a k h0 vi vj vF vG) sz) (WR a k h0 (fT (fT (fT vi 17 (nI (u.1))) 20 (u.2.1)) 18 (u.2.2)) vj vF vG)) (va_A (WR a k h0 vi vj vF vG) sz)) 0 0 (va_A (WR a k h0 vi vj vF vG) sz) := by
  refine Met.ofW (cc := cX12_takeNumber) (maxL := 2) (ret := none) (by decide) rfl ?_
  intro p e s m args below meth c s₁ B hml hv
  obtain ⟨rfl, hsz, hP, hK, hD0⟩ := hv
  have hx := B.exec
  have hb := B.bytes
  have hr := B.returns
  have hts := atoms_spec (ws := wsRX12_takeNumber) B.pre
  have hown : s.vm.findClass RX12 = some m.cls := findClass_of_methodNamed B.named
  have hlocks := B.notSynchronized
  subst hsz
  have hD := hD0.self (sz := s.heap.size)
  generalize hAe : va_A (WR a k h0 vi vj vF vG) s.heap.size = A at hD ⊢
  have hA : ∀ q : Nat, s.heap.size ≤ q → A q := fun q h => by rw [← hAe]; exact Or.inr h
  have hS : va_S A s.heap s.heap [] := va_S.rf
  have hl := lv_entry ([.ref h0]) (n := 2) (Nat.le_of_ble_eq_true rfl)
  rw [lg_entry_eq]
  generalize (lg_sl ([.ref h0]) ++ List.replicate (2 - (lg_sl ([.ref h0])).length) Slot.unset).toArray = ls at hl ⊢
  have hl : lv_has ls 2 [(0, .ref h0)] := hl
  refine lv_iconst (v := 0) hx hb dX12_takeNumber_0 (by decide) ?_
  refine lv_istore_n hx hb dX12_takeNumber_1 rfl hl (by decide) rfl (fun ls (hl : lv_has ls _ ([(1, .int 0), (0, .ref h0)])) => ?_)
  have e9 : fT vi 17 (vi 17) = vi := by funext q9; by_cases h9_17 : q9 = 17; (subst h9_17; exact (fT_eq _ _ _).trans (Eq.trans (by first | rfl | assumption | (symm; assumption) | (subst_vars; rfl)) (Eq.refl _).symm)); exact (fT_ne _ _ h9_17).trans (Eq.refl _).symm
  have hP : va_P (dC, dI) vwCl (WR a k h0 (fT vi 17 (vi 17)) vj vF vG) s.heap := by rw [e9]; exact hP
  have hD : va_D A (WR a k h0 (fT vi 17 (vi 17)) vj vF vG) := by rw [e9]; exact hD
  clear e9
  have hl : lv_has _ _ ([(0, .ref h0), (1, .int 0)]) := lv_sub hl [1, 0] rfl
  refine (fun (loop : ∀ (n9 : Nat) (a5 : Nat) (vq : Int32) (ia : Int32) (H : Heap) (locs : List Loc) (ls : Array Slot), (ia = nI a5) → (an ≤ a5 ∧ a5 ≤ tp) → (0 ≤ vq.toInt ∧ vq.toInt < p10 (a5 - fn)) →  (tp < a5 + n9) → va_P (dC, dI) vwCl (WR a k h0 (fT vi 17 ia) vj vF vG) H → va_D A (WR a k h0 (fT vi 17 ia) vj vF vG) → va_S A s.heap H locs → lv_has ls 2 [(0, .ref h0), (1, .int vq)] → W p l e _ s m _ below meth c H locs 0 0 _ (F0 m 2 ls [])) => loop (tp + 1) an 0 (vi 17) _ _ _ (ha0) (by omega) (by (have h9 := p10_le 0); (have z9 : (0 : Int32).toInt = 0 := by decide); (have q9 : 1 ≤ p10 (an - fn) := p10_one _); omega) (by omega) hP hD hS hl) ?_
  intro n9
  induction n9 with
  | zero => intro a5 vq ia H locs ls hia ha5 hvq hf9; exact False.elim (by omega)
  | succ n9 ih2 =>
    intro a5 vq ia H locs ls hia ha5 hvq hf2 hP hD hS hl
    have hp9 := p10_le (a5 - fn)
    subst hia
    refine lv_aload_n hx hb dX12_takeNumber_2 rfl (lv_at hl 0 rfl) ?_
    refine lv_aload_n hx hb dX12_takeNumber_3 rfl (lv_at hl 0 rfl) ?_
    refine va_get (D := (dC, dI)) (ci := 12) (v := .int (nI a5)) (C := RX12) (T := TX12) (N := 163) (fs := fM (vS a (fT vi 17 (nI a5)) vj)) hx hb hts iwsRX12_takeNumber_in12 hown hK hP 0 rfl rfl 17 (by decide) (hts (.fieldLink RX12 485 "OptimaWorksModel" "at0" "I") (by decide +kernel)) (fun _ h9 => h9) rfl dX12_takeNumber_4 ?_
    have hFc := allFree hD hS hA
    refine va_calli (va_runV (As := [.int (nI a5)]) (rest := []) ⟨hx, hb, hml, hown, hts⟩ (r_X12_byteAt l dC dI a k h0 (fT vi 17 (nI a5)) vj vF vG a5 tp (by first | assumption | decide | omega | rfl) (by first | assumption | decide | omega | rfl) (by first | assumption | decide | omega | rfl) H.size) (cwV 1 hts gwsRX12_takeNumber_0 rfl rfl rfl (by decide +kernel) ⟨by decide +kernel, by decide +kernel⟩) ⟨fun a U g mk q => by obtain ⟨q0, q1, qP, qK, qD⟩ := q; exact ⟨q0, q1, qP, va_K.moved (u := U) (U := U.calling g mk a) (Vm.Alike.refl U.vm) qK, qD⟩, va_recv hK hP (ci := 12) (q0 := 0) rfl rfl, fun U hU9 hW => ⟨rfl, by rw [hU9], by rw [hU9]; exact hP, va_K.moved hW.alike hK, hD.weaken (fun _ _ _ _ => trivial)⟩⟩ rfl rfl hl.1 rfl (lv_room (Nat.le_of_ble_eq_true rfl)) dX12_takeNumber_7 ⟨by decide +kernel, by decide +kernel⟩) hS (fun q _ h => hFc q h) hFc (fun r7 u t9_ H1 locs ht hvm hw9 hB9 hz1 hk1 hS => ?_)
    obtain ⟨hP1, hD1⟩ := hB9
    rw [ht] at hP1
    have hP := hP1
    have hD := hD1.weaken (fun _ q _ h => hFc q.1 h)
    generalize H1 = H at hP hS ⊢
    have hP : va_P (dC, dI) vwCl (WR a k h0 (fT vi 17 (nI a5)) vj vF vG) H := hP
    have hD : va_D A (WR a k h0 (fT vi 17 (nI a5)) vj vF vG) := hD
    obtain rfl := hw9
    have bi := bA_in tp (vF 9) a5
    have hFc := noneFree hS hA
    refine va_calli (va_runS (As := [.int (bA tp (vF 9) a5)]) (rest := []) ⟨hx, hb, hml, hown, hts⟩ (r_X12_isDigit l dC dI (bA tp (vF 9) a5) H.size) (va_cwS 1 hts gwsRX12_takeNumber_1 rfl rfl rfl (by decide +kernel) ⟨by decide +kernel, by decide +kernel⟩) ⟨fun a U g mk q => by obtain ⟨q0, q1, qP, qK, qD⟩ := q; exact ⟨q0, q1, qP, va_K.moved (u := U) (U := U.calling g mk a) (Vm.Alike.refl U.vm) qK, qD⟩, fun U hU9 hW => ⟨rfl, by rw [hU9], by rw [hU9]; exact nilP, va_K.moved hW.alike (hK.sub (tys' := []) [] rfl), nilD⟩⟩ rfl rfl hl.1 rfl (lv_room (Nat.le_of_ble_eq_true rfl)) dX12_takeNumber_10 ⟨by decide +kernel, by decide +kernel⟩) hS (fun q _ h => hFc q h) hFc (fun r10 u t9_ H1 locs ht hvm hw9 hB9 hz1 hk1 hS => ?_)
    have hP := keepAll hP hk1
    clear hB9
    generalize H1 = H at hP hS ⊢
    have hP : va_P (dC, dI) vwCl (WR a k h0 (fT vi 17 (nI a5)) vj vF vG) H := hP
    have hD : va_D A (WR a k h0 (fT vi 17 (nI a5)) vj vF vG) := hD
    rcases hw9 with ⟨rfl, f10_0⟩ | ⟨rfl, f10_0⟩
    · refine lv_if_eq (tgt := 60) hx hb dX12_takeNumber_13 (by decide) (fun c9 => absurd c9 (by decide)) (fun _ => ?_)
      refine lv_aload_n hx hb dX12_takeNumber_16 rfl (lv_at hl 0 rfl) ?_
      refine va_get (D := (dC, dI)) (ci := 12) (v := .int (nI a5)) (C := RX12) (T := TX12) (N := 163) (fs := fM (vS a (fT vi 17 (nI a5)) vj)) hx hb hts iwsRX12_takeNumber_in12 hown hK hP 0 rfl rfl 17 (by decide) (hts (.fieldLink RX12 485 "OptimaWorksModel" "at0" "I") (by decide +kernel)) (fun _ h9 => h9) rfl dX12_takeNumber_17 ?_
      refine lv_aload_n hx hb dX12_takeNumber_20 rfl (lv_at hl 0 rfl) ?_
      refine va_get (D := (dC, dI)) (ci := 12) (v := .int (vi 19)) (C := RX12) (T := TX12) (N := 163) (fs := fM (vS a (fT vi 17 (nI a5)) vj)) hx hb hts iwsRX12_takeNumber_in12 hown hK hP 0 rfl rfl 19 (by decide) (hts (.fieldLink RX12 488 "OptimaWorksModel" "from" "I") (by decide +kernel)) (fun _ h9 => h9) rfl dX12_takeNumber_21 ?_
      refine lv_topi (fun y1 hy1 => ?_)
      obtain rfl : (nI fn) = y1 := (hy1.trans (hfr)).symm
      refine lv_isub hx hb dX12_takeNumber_24 ?_
      refine lv_topi (fun y2 hy2 => ?_)
      obtain rfl : (nI (a5 - fn)) = y2 := (hy2.trans (pk_sub (a := a5) (b := fn) (by omega))).symm
      refine lv_bipush (v := 6) hx hb dX12_takeNumber_25 (by decide) ?_
      refine lv_icmp_ge (tgt := 47) hx hb dX12_takeNumber_27 (by decide) (fun c_27 => ?_) (fun c_27 => ?_)
      · have t_27 : (((a5 - fn) : Nat) : Int) ≥ 6 := toI_ge c_27 (nI_toInt (by omega)) (by decide)
        refine lv_aload_n hx hb dX12_takeNumber_47 rfl (lv_at hl 0 rfl) ?_
        refine lv_dup hx hb dX12_takeNumber_48 rfl ?_
        refine va_get (D := (dC, dI)) (ci := 12) (v := .int (nI a5)) (C := RX12) (T := TX12) (N := 163) (fs := fM (vS a (fT vi 17 (nI a5)) vj)) hx hb hts iwsRX12_takeNumber_in12 hown hK hP 0 rfl rfl 17 (by decide) (hts (.fieldLink RX12 485 "OptimaWorksModel" "at0" "I") (by decide +kernel)) (fun _ h9 => h9) rfl dX12_takeNumber_49 ?_
        refine lv_iconst (v := 1) hx hb dX12_takeNumber_52 (by decide) ?_
        refine lv_iadd hx hb dX12_takeNumber_53 ?_
        refine lv_topi (fun y3 hy3 => ?_)
        obtain rfl : (nI (a5 + 1)) = y3 := (hy3.trans (nI_add a5 1)).symm
        refine va_put (D := (dC, dI)) (ci := 12) (v := .int (nI (a5 + 1))) (ty := .int) (C := RX12) (T := TX12) (N := 163) (fs := fM (vS a (fT vi 17 (nI a5)) vj)) hx hb hts iwsRX12_takeNumber_in12 tyX12 tyX12_ok nmX12 hown hK hP hD hS 0 rfl rfl 17 (by decide) (hts (.fieldLink RX12 485 "OptimaWorksModel" "at0" "I") (by decide +kernel)) (fun _ h9 => h9) rfl (by decide +kernel) rfl rfl (Nat.le_of_ble_eq_true rfl) dX12_takeNumber_54 (fun H locs hP hD hS => ?_)
        have e9 : fT vi 17 (nI (a5 + 1)) = fT (fT vi 17 (nI a5)) 17 (nI (a5 + 1)) := (fT_sm _ _ _ _).symm
        have hP : va_P (dC, dI) vwCl (WR a k h0 (fT vi 17 (nI (a5 + 1))) vj vF vG) H := by rw [e9, ← WR_i 17 _ rfl]; exact hP
        have hD : va_D A (WR a k h0 (fT vi 17 (nI (a5 + 1))) vj vF vG) := by rw [e9, ← WR_i 17 _ rfl]; exact hD
        clear e9
        refine lv_goto (tgt := 2) hx hb dX12_takeNumber_57 (by decide) ?_
        have hl : lv_has _ _ ([(0, .ref h0), (1, .int vq)]) := lv_sub hl [0, 1] rfl
        exact ih2 (a5 + 1) vq (nI (a5 + 1)) _ _ _ (rfl) (by omega) (by (have h8 := p10_big (k := a5 - fn) (by omega)); (have h9 := p10_big (k := a5 + 1 - fn) (by omega)); omega) (by omega) hP hD hS hl
      · have t_27 : ¬ (((a5 - fn) : Nat) : Int) ≥ 6 := toI_nge c_27 (nI_toInt (by omega)) (by decide)
        refine lv_bipush (v := 10) hx hb dX12_takeNumber_30 (by decide) ?_
        refine lv_iload_n hx hb dX12_takeNumber_32 rfl (lv_at hl 1 rfl) ?_
        refine lv_imul hx hb dX12_takeNumber_33 ?_
        refine lv_aload_n hx hb dX12_takeNumber_34 rfl (lv_at hl 0 rfl) ?_
        refine lv_aload_n hx hb dX12_takeNumber_35 rfl (lv_at hl 0 rfl) ?_
        refine va_get (D := (dC, dI)) (ci := 12) (v := .int (nI a5)) (C := RX12) (T := TX12) (N := 163) (fs := fM (vS a (fT vi 17 (nI a5)) vj)) hx hb hts iwsRX12_takeNumber_in12 hown hK hP 0 rfl rfl 17 (by decide) (hts (.fieldLink RX12 485 "OptimaWorksModel" "at0" "I") (by decide +kernel)) (fun _ h9 => h9) rfl dX12_takeNumber_36 ?_
        have hFc := allFree hD hS hA
        refine va_calli (va_runV (As := [.int (nI a5)]) (rest := [.int (10 * vq)]) ⟨hx, hb, hml, hown, hts⟩ (r_X12_byteAt l dC dI a k h0 (fT vi 17 (nI a5)) vj vF vG a5 tp (by first | assumption | decide | omega | rfl) (by first | assumption | decide | omega | rfl) (by first | assumption | decide | omega | rfl) H.size) (cwV 1 hts gwsRX12_takeNumber_0 rfl rfl rfl (by decide +kernel) ⟨by decide +kernel, by decide +kernel⟩) ⟨fun a U g mk q => by obtain ⟨q0, q1, qP, qK, qD⟩ := q; exact ⟨q0, q1, qP, va_K.moved (u := U) (U := U.calling g mk a) (Vm.Alike.refl U.vm) qK, qD⟩, va_recv hK hP (ci := 12) (q0 := 0) rfl rfl, fun U hU9 hW => ⟨rfl, by rw [hU9], by rw [hU9]; exact hP, va_K.moved hW.alike hK, hD.weaken (fun _ _ _ _ => trivial)⟩⟩ rfl rfl hl.1 rfl (lv_room (Nat.le_of_ble_eq_true rfl)) dX12_takeNumber_39 ⟨by decide +kernel, by decide +kernel⟩) hS (fun q _ h => hFc q h) hFc (fun r39 u t9_ H1 locs ht hvm hw9 hB9 hz1 hk1 hS => ?_)
        obtain ⟨hP1, hD1⟩ := hB9
        rw [ht] at hP1
        have hP := hP1
        have hD := hD1.weaken (fun _ q _ h => hFc q.1 h)
        generalize H1 = H at hP hS ⊢
        have hP : va_P (dC, dI) vwCl (WR a k h0 (fT vi 17 (nI a5)) vj vF vG) H := hP
        have hD : va_D A (WR a k h0 (fT vi 17 (nI a5)) vj vF vG) := hD
        obtain rfl := hw9
        refine lv_iadd hx hb dX12_takeNumber_42 ?_
        refine lv_bipush (v := 48) hx hb dX12_takeNumber_43 (by decide) ?_
        refine lv_isub hx hb dX12_takeNumber_45 ?_
        have e1 : (10 * vq).toInt = 10 * vq.toInt := mul10 (by omega)
        have e2 : (10 * vq + (bA tp (vF 9) a5)).toInt = 10 * vq.toInt + ((bA tp (vF 9) a5)).toInt := by rw [addB (by omega) (by omega), e1]
        obtain ⟨v9, hv9⟩ : ∃ v9, v9 = (((10 * vq) + (bA tp (vF 9) a5)) - 48) := ⟨_, rfl⟩
        have e3 : v9.toInt = 10 * vq.toInt + ((bA tp (vF 9) a5)).toInt - 48 := by rw [hv9, subB (by omega) (by decide), e2]; rfl
        refine lv_topi (fun y4 hy4 => ?_)
        obtain rfl : v9 = y4 := (hy4.trans (hv9.symm)).symm
        refine lv_istore_n hx hb dX12_takeNumber_46 rfl hl (by decide) rfl (fun ls (hl : lv_has ls _ ([(1, .int v9), (0, .ref h0)])) => ?_)
        refine lv_aload_n hx hb dX12_takeNumber_47 rfl (lv_at hl 1 rfl) ?_
        refine lv_dup hx hb dX12_takeNumber_48 rfl ?_
        refine va_get (D := (dC, dI)) (ci := 12) (v := .int (nI a5)) (C := RX12) (T := TX12) (N := 163) (fs := fM (vS a (fT vi 17 (nI a5)) vj)) hx hb hts iwsRX12_takeNumber_in12 hown hK hP 0 rfl rfl 17 (by decide) (hts (.fieldLink RX12 485 "OptimaWorksModel" "at0" "I") (by decide +kernel)) (fun _ h9 => h9) rfl dX12_takeNumber_49 ?_
        refine lv_iconst (v := 1) hx hb dX12_takeNumber_52 (by decide) ?_
        refine lv_iadd hx hb dX12_takeNumber_53 ?_
        refine lv_topi (fun y5 hy5 => ?_)
        obtain rfl : (nI (a5 + 1)) = y5 := (hy5.trans (nI_add a5 1)).symm
        refine va_put (D := (dC, dI)) (ci := 12) (v := .int (nI (a5 + 1))) (ty := .int) (C := RX12) (T := TX12) (N := 163) (fs := fM (vS a (fT vi 17 (nI a5)) vj)) hx hb hts iwsRX12_takeNumber_in12 tyX12 tyX12_ok nmX12 hown hK hP hD hS 0 rfl rfl 17 (by decide) (hts (.fieldLink RX12 485 "OptimaWorksModel" "at0" "I") (by decide +kernel)) (fun _ h9 => h9) rfl (by decide +kernel) rfl rfl (Nat.le_of_ble_eq_true rfl) dX12_takeNumber_54 (fun H locs hP hD hS => ?_)
        have e9 : fT vi 17 (nI (a5 + 1)) = fT (fT vi 17 (nI a5)) 17 (nI (a5 + 1)) := (fT_sm _ _ _ _).symm
        have hP : va_P (dC, dI) vwCl (WR a k h0 (fT vi 17 (nI (a5 + 1))) vj vF vG) H := by rw [e9, ← WR_i 17 _ rfl]; exact hP
        have hD : va_D A (WR a k h0 (fT vi 17 (nI (a5 + 1))) vj vF vG) := by rw [e9, ← WR_i 17 _ rfl]; exact hD
        clear e9
        refine lv_goto (tgt := 2) hx hb dX12_takeNumber_57 (by decide) ?_
        have hl : lv_has _ _ ([(0, .ref h0), (1, .int v9)]) := lv_sub hl [1, 0] rfl
        exact ih2 (a5 + 1) v9 (nI (a5 + 1)) _ _ _ (rfl) (by omega) (by (have h8 := p10_step (a5 - fn) (by omega)); rw [show a5 - fn + 1 = a5 + 1 - fn by omega] at h8; omega) (by omega) hP hD hS hl
    · refine lv_if_eq (tgt := 60) hx hb dX12_takeNumber_13 (by decide) (fun _ => ?_) (fun c9 => absurd (by decide) c9)
      refine lv_aload_n hx hb dX12_takeNumber_60 rfl (lv_at hl 0 rfl) ?_
      refine lv_iload_n hx hb dX12_takeNumber_61 rfl (lv_at hl 1 rfl) ?_
      refine va_put (D := (dC, dI)) (ci := 12) (v := .int vq) (ty := .int) (C := RX12) (T := TX12) (N := 163) (fs := fM (vS a (fT vi 17 (nI a5)) vj)) hx hb hts iwsRX12_takeNumber_in12 tyX12 tyX12_ok nmX12 hown hK hP hD hS 0 rfl rfl 20 (by decide) (hts (.fieldLink RX12 491 "OptimaWorksModel" "sign0" "I") (by decide +kernel)) (fun _ h9 => h9) rfl (by decide +kernel) rfl rfl (Nat.le_of_ble_eq_true rfl) dX12_takeNumber_62 (fun H locs hP hD hS => ?_)
      have hP : va_P (dC, dI) vwCl (WR a k h0 (fT (fT vi 17 (nI a5)) 20 vq) vj vF vG) H := by rw [← WR_i 20 _ rfl]; exact hP
      have hD : va_D A (WR a k h0 (fT (fT vi 17 (nI a5)) 20 vq) vj vF vG) := by rw [← WR_i 20 _ rfl]; exact hD
      refine lv_aload_n hx hb dX12_takeNumber_65 rfl (lv_at hl 0 rfl) ?_
      refine lv_aload_n hx hb dX12_takeNumber_66 rfl (lv_at hl 0 rfl) ?_
      refine va_get (D := (dC, dI)) (ci := 12) (v := .int (nI a5)) (C := RX12) (T := TX12) (N := 163) (fs := fM (vS a (fT (fT vi 17 (nI a5)) 20 vq) vj)) hx hb hts iwsRX12_takeNumber_in12 hown hK hP 0 rfl rfl 17 (by decide) (hts (.fieldLink RX12 485 "OptimaWorksModel" "at0" "I") (by decide +kernel)) (fun _ h9 => h9) rfl dX12_takeNumber_67 ?_
      refine lv_aload_n hx hb dX12_takeNumber_70 rfl (lv_at hl 0 rfl) ?_
      refine va_get (D := (dC, dI)) (ci := 12) (v := .int (vi 19)) (C := RX12) (T := TX12) (N := 163) (fs := fM (vS a (fT (fT vi 17 (nI a5)) 20 vq) vj)) hx hb hts iwsRX12_takeNumber_in12 hown hK hP 0 rfl rfl 19 (by decide) (hts (.fieldLink RX12 488 "OptimaWorksModel" "from" "I") (by decide +kernel)) (fun _ h9 => h9) rfl dX12_takeNumber_71 ?_
      refine lv_topi (fun y6 hy6 => ?_)
      obtain rfl : (nI fn) = y6 := (hy6.trans (hfr)).symm
      refine lv_isub hx hb dX12_takeNumber_74 ?_
      refine lv_topi (fun y7 hy7 => ?_)
      obtain rfl : (nI (a5 - fn)) = y7 := (hy7.trans (pk_sub (a := a5) (b := fn) (by omega))).symm
      refine lv_bipush (v := 6) hx hb dX12_takeNumber_75 (by decide) ?_
      refine lv_icmp_le (tgt := 84) hx hb dX12_takeNumber_77 (by decide) (fun c_77 => ?_) (fun c_77 => ?_)
      · have t_77 : (((a5 - fn) : Nat) : Int) ≤ 6 := toI_le c_77 (nI_toInt (by omega)) (by decide)
        refine lv_iconst (v := 3) hx hb dX12_takeNumber_84 (by decide) ?_
        refine va_put (D := (dC, dI)) (ci := 12) (v := .int 3) (ty := .int) (C := RX12) (T := TX12) (N := 163) (fs := fM (vS a (fT (fT vi 17 (nI a5)) 20 vq) vj)) hx hb hts iwsRX12_takeNumber_in12 tyX12 tyX12_ok nmX12 hown hK hP hD hS 0 rfl rfl 18 (by decide) (hts (.fieldLink RX12 494 "OptimaWorksModel" "word" "I") (by decide +kernel)) (fun _ h9 => h9) rfl (by decide +kernel) rfl rfl (Nat.le_of_ble_eq_true rfl) dX12_takeNumber_85 (fun H locs hP hD hS => ?_)
        have hP : va_P (dC, dI) vwCl (WR a k h0 (fT (fT (fT vi 17 (nI a5)) 20 vq) 18 3) vj vF vG) H := by rw [← WR_i 18 _ rfl]; exact hP
        have hD : va_D A (WR a k h0 (fT (fT (fT vi 17 (nI a5)) 20 vq) 18 3) vj vF vG) := by rw [← WR_i 18 _ rfl]; exact hD
        refine W.widen (k := 0) (n := 0) (by decide +kernel) (by decide +kernel) ?_
        exact W.vret hx hb hr (fun t9_ ht hW => ⟨⟨(a5, vq, 3), rfl, by (try dsimp only); exact ⟨by rcases Nat.lt_or_ge an a5 with h9 | h9; (exact h9); (exfalso; (have e9 : a5 = an := by omega); rw [e9] at f10_0; exact f10_0 hdg), by omega, by omega, Or.inl rfl⟩, by rw [ht]; exact hP, hD⟩, hS.F ht⟩) hS.2.2 dX12_takeNumber_88
      · have t_77 : ¬ (((a5 - fn) : Nat) : Int) ≤ 6 := toI_nle c_77 (nI_toInt (by omega)) (by decide)
        refine lv_iconst (v := 5) hx hb dX12_takeNumber_80 (by decide) ?_
        refine lv_goto (tgt := 85) hx hb dX12_takeNumber_81 (by decide) ?_
        refine va_put (D := (dC, dI)) (ci := 12) (v := .int 5) (ty := .int) (C := RX12) (T := TX12) (N := 163) (fs := fM (vS a (fT (fT vi 17 (nI a5)) 20 vq) vj)) hx hb hts iwsRX12_takeNumber_in12 tyX12 tyX12_ok nmX12 hown hK hP hD hS 0 rfl rfl 18 (by decide) (hts (.fieldLink RX12 494 "OptimaWorksModel" "word" "I") (by decide +kernel)) (fun _ h9 => h9) rfl (by decide +kernel) rfl rfl (Nat.le_of_ble_eq_true rfl) dX12_takeNumber_85 (fun H locs hP hD hS => ?_)
        have hP : va_P (dC, dI) vwCl (WR a k h0 (fT (fT (fT vi 17 (nI a5)) 20 vq) 18 5) vj vF vG) H := by rw [← WR_i 18 _ rfl]; exact hP
        have hD : va_D A (WR a k h0 (fT (fT (fT vi 17 (nI a5)) 20 vq) 18 5) vj vF vG) := by rw [← WR_i 18 _ rfl]; exact hD
        refine W.widen (k := 0) (n := 0) (by decide +kernel) (by decide +kernel) ?_
        exact W.vret hx hb hr (fun t9_ ht hW => ⟨⟨(a5, vq, 5), rfl, by (try dsimp only); exact ⟨by rcases Nat.lt_or_ge an a5 with h9 | h9; (exact h9); (exfalso; (have e9 : a5 = an := by omega); rw [e9] at f10_0; exact f10_0 hdg), by omega, by omega, Or.inr rfl⟩, by rw [ht]; exact hP, hD⟩, hS.F ht⟩) hS.2.2 dX12_takeNumber_88

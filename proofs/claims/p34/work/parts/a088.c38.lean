theorem dX12_letter_0 : decode cX12_letter 0 = .ok (.aload_n 0, 1) := dk_42 (by decide +kernel)
theorem dX12_letter_1 : decode cX12_letter 1 = .ok (.iconst 0, 1) := dk_3 (by decide +kernel)
theorem dX12_letter_2 : decode cX12_letter 2 = .ok (.putfield 348, 3) := dk_181 (by decide +kernel)
theorem dX12_letter_5 : decode cX12_letter 5 = .ok (.iload_n 1, 1) := dk_27 (by decide +kernel)
theorem dX12_letter_6 : decode cX12_letter 6 = .ok (.ifCond .lt 11, 3) := dk_155 (by decide +kernel)
theorem dX12_letter_9 : decode cX12_letter 9 = .ok (.iload_n 1, 1) := dk_27 (by decide +kernel)
theorem dX12_letter_10 : decode cX12_letter 10 = .ok (.aload_n 0, 1) := dk_42 (by decide +kernel)
theorem dX12_letter_11 : decode cX12_letter 11 = .ok (.getfield 933, 3) := dk_180 (by decide +kernel)
theorem dX12_letter_14 : decode cX12_letter 14 = .ok (.if_icmp .lt 7, 3) := dk_161 (by decide +kernel)
theorem dX12_letter_17 : decode cX12_letter 17 = .ok (.iconst (-1), 1) := dk_2 (by decide +kernel)
theorem dX12_letter_18 : decode cX12_letter 18 = .ok (.goto 13, 3) := dk_167 (by decide +kernel)
theorem dX12_letter_21 : decode cX12_letter 21 = .ok (.aload_n 0, 1) := dk_42 (by decide +kernel)
theorem dX12_letter_22 : decode cX12_letter 22 = .ok (.getfield 248, 3) := dk_180 (by decide +kernel)
theorem dX12_letter_25 : decode cX12_letter 25 = .ok (.iload_n 1, 1) := dk_27 (by decide +kernel)
theorem dX12_letter_26 : decode cX12_letter 26 = .ok (.baload, 1) := dk_51 (by decide +kernel)
theorem dX12_letter_27 : decode cX12_letter 27 = .ok (.sipush 255, 3) := dk_17 (by decide +kernel)
theorem dX12_letter_30 : decode cX12_letter 30 = .ok (.iand, 1) := dk_126 (by decide +kernel)
theorem dX12_letter_31 : decode cX12_letter 31 = .ok (.ireturn, 1) := dk_172 (by decide +kernel)
def wsRX12_letter : List Cond := .code yX12_letter cX12_letter 2 (some .int) :: ([.fieldLink RX12 348 "OptimaWorksModel" "thrown" "I", .fieldLink RX12 933 "OptimaWorksModel" "printed" "I", .fieldLink RX12 248 "OptimaWorksModel" "out" "[B"] ++ wsX120)
theorem iwsRX12_letter_in12 : ∀ w ∈ wsX120, w ∈ wsRX12_letter := fun _ h => List.mem_cons_of_mem _ (List.mem_append_right _ h)
theorem gdwsRX12_letter : wsRX12_letter.all goodWord = true := gdC rfl (gdA (by decide +kernel : ([.fieldLink RX12 348 "OptimaWorksModel" "thrown" "I", .fieldLink RX12 933 "OptimaWorksModel" "printed" "I", .fieldLink RX12 248 "OptimaWorksModel" "out" "[B"] : List Cond).all goodWord = true) gdwsX120)
set_option maxHeartbeats 4000000 in
set_option maxRecDepth 100000 in
/-- letter(i) -/
theorem r_X12_letter (l : Launch) (dC : Nat → ClassId) (dI : Nat → Nat → Nat) (a : Nat → Nat) (k : Nat → ClassId) (h0 : Nat) (vi : Nat → Int32) (vj : Nat → Int64) (vF : Nat → Nat → Int32) (vG : Nat → Nat → Int64) (iI : Int32) (pn : Nat) (hpn : vi 125 = nI pn) (hpn2 : pn ≤ 30000) (sz : Nat) : Met l yX12_letter wsRX12_letter ({ frames := 0, cells := 0, slots := 0, locals := 0 }) (va_Pc [.ref h0, .int iI] (fun U => U.heap.size = sz ∧ va_P (dC, dI) vwCl (WR a k h0 vi vj vF vG) U.heap ∧ va_K (dC, dI) vwCl (tX12 k) U ∧ va_D (fun _ => True) (WR a k h0 vi vj vF vG))) (va_Qi (fun (r : Int32) (u : Unit) => True) (fun (u : Unit) t => va_P (dC, dI) vwCl (WR a k h0 (fT vi 0 0) vj vF vG) t.heap ∧ va_D (va_A (WR a k h0 vi vj vF vG) sz) (WR a k h0 (fT vi 0 0) vj vF vG)) (va_A (WR a k h0 vi vj vF vG) sz)) 0 0 (va_A (WR a k h0 vi vj vF vG) sz) := by
  refine Met.ofW (cc := cX12_letter) (maxL := 2) (ret := (some .int)) (by decide) rfl ?_
  intro p e s m args below meth c s₁ B hml hv
  obtain ⟨rfl, hsz, hP, hK, hD0⟩ := hv
  have hx := B.exec
  have hb := B.bytes
  have hr := B.returns
  have hts := atoms_spec (ws := wsRX12_letter) B.pre
  have hown : s.vm.findClass RX12 = some m.cls := findClass_of_methodNamed B.named
  have hlocks := B.notSynchronized
  subst hsz
  have hD := hD0.self (sz := s.heap.size)
  generalize hAe : va_A (WR a k h0 vi vj vF vG) s.heap.size = A at hD ⊢
  have hA : ∀ q : Nat, s.heap.size ≤ q → A q := fun q h => by rw [← hAe]; exact Or.inr h
  have hS : va_S A s.heap s.heap [] := va_S.rf
  have hl := lv_entry ([.ref h0, .int iI]) (n := 2) (Nat.le_of_ble_eq_true rfl)
  rw [lg_entry_eq]
  generalize (lg_sl ([.ref h0, .int iI]) ++ List.replicate (2 - (lg_sl ([.ref h0, .int iI])).length) Slot.unset).toArray = ls at hl ⊢
  have hl : lv_has ls 2 [(0, .ref h0), (1, .int iI)] := hl
  refine lv_aload_n hx hb dX12_letter_0 rfl (lv_at hl 0 rfl) ?_
  refine lv_iconst (v := 0) hx hb dX12_letter_1 (by decide) ?_
  refine va_put (D := (dC, dI)) (ci := 12) (v := .int 0) (ty := .int) (C := RX12) (T := TX12) (N := 163) (fs := fM (vS a vi vj)) hx hb hts iwsRX12_letter_in12 tyX12 tyX12_ok nmX12 hown hK hP hD hS 0 rfl rfl 0 (by decide) (hts (.fieldLink RX12 348 "OptimaWorksModel" "thrown" "I") (by decide +kernel)) (fun _ h9 => h9) rfl (by decide +kernel) rfl rfl (Nat.le_of_ble_eq_true rfl) dX12_letter_2 (fun H locs hP hD hS => ?_)
  have hP : va_P (dC, dI) vwCl (WR a k h0 (fT vi 0 0) vj vF vG) H := by rw [← WR_i 0 _ rfl]; exact hP
  have hD : va_D A (WR a k h0 (fT vi 0 0) vj vF vG) := by rw [← WR_i 0 _ rfl]; exact hD
  refine lv_iload_n hx hb dX12_letter_5 rfl (lv_at hl 1 rfl) ?_
  refine lv_if_lt (tgt := 17) hx hb dX12_letter_6 (by decide) (fun c_6 => ?_) (fun c_6 => ?_)
  · have t_6 : (iI).toInt < 0 := toI_lt c_6 rfl (by decide)
    refine lv_iconst (v := (-1)) hx hb dX12_letter_17 (by decide) ?_
    refine lv_goto (tgt := 31) hx hb dX12_letter_18 (by decide) ?_
    refine W.widen (k := 0) (n := 0) (by decide +kernel) (by decide +kernel) ?_
    exact W.iret (v := (-1)) hx hb hr (fun t9_ ht hW => ⟨⟨(-1), (), rfl, trivial, by rw [ht]; exact hP, hD⟩, hS.F ht⟩) hS.2.2 dX12_letter_31
  · have t_6 : ¬ (iI).toInt < 0 := toI_nlt c_6 rfl (by decide)
    refine lv_iload_n hx hb dX12_letter_9 rfl (lv_at hl 1 rfl) ?_
    refine lv_aload_n hx hb dX12_letter_10 rfl (lv_at hl 0 rfl) ?_
    refine va_get (D := (dC, dI)) (ci := 12) (v := .int (vi 125)) (C := RX12) (T := TX12) (N := 163) (fs := fM (vS a (fT vi 0 0) vj)) hx hb hts iwsRX12_letter_in12 hown hK hP 0 rfl rfl 125 (by decide) (hts (.fieldLink RX12 933 "OptimaWorksModel" "printed" "I") (by decide +kernel)) (fun _ h9 => h9) rfl dX12_letter_11 ?_
    refine lv_topi (fun y1 hy1 => ?_)
    obtain rfl : (nI pn) = y1 := (hy1.trans (hpn)).symm
    refine lv_icmp_lt (tgt := 21) hx hb dX12_letter_14 (by decide) (fun c_14 => ?_) (fun c_14 => ?_)
    · have t_14 : (iI).toInt < ((pn : Nat) : Int) := toI_lt c_14 rfl (nI_toInt (by omega))
      refine lv_aload_n hx hb dX12_letter_21 rfl (lv_at hl 0 rfl) ?_
      refine va_get (D := (dC, dI)) (ci := 12) (v := .ref (a 75)) (C := RX12) (T := TX12) (N := 163) (fs := fM (vS a (fT vi 0 0) vj)) hx hb hts iwsRX12_letter_in12 hown hK hP 0 rfl rfl 124 (by decide) (hts (.fieldLink RX12 248 "OptimaWorksModel" "out" "[B") (by decide +kernel)) (fun _ h9 => h9) rfl dX12_letter_22 ?_
      refine lv_iload_n hx hb dX12_letter_25 rfl (lv_at hl 1 rfl) ?_
      refine va_bald (cA := k 75) (n := 30000) (f := (vF 75)) hx hb hK hP 76 75 (WR_get 75 (by decide)) (TR_get 75 (by decide)) (vp_in_iff.mpr (by omega)) dX12_letter_26 ?_
      refine lv_sipush (v := 255) hx hb dX12_letter_27 (by decide) ?_
      refine lv_iand hx hb dX12_letter_30 ?_
      refine W.widen (k := 0) (n := 0) (by decide +kernel) (by decide +kernel) ?_
      exact W.iret (v := (((vF 75) (iI).toNatClampNeg) &&& 255)) hx hb hr (fun t9_ ht hW => ⟨⟨(((vF 75) (iI).toNatClampNeg) &&& 255), (), rfl, trivial, by rw [ht]; exact hP, hD⟩, hS.F ht⟩) hS.2.2 dX12_letter_31
    · have t_14 : ¬ (iI).toInt < ((pn : Nat) : Int) := toI_nlt c_14 rfl (nI_toInt (by omega))
      refine lv_iconst (v := (-1)) hx hb dX12_letter_17 (by decide) ?_
      refine lv_goto (tgt := 31) hx hb dX12_letter_18 (by decide) ?_
      refine W.widen (k := 0) (n := 0) (by decide +kernel) (by decide +kernel) ?_
      exact W.iret (v := (-1)) hx hb hr (fun t9_ ht hW => ⟨⟨(-1), (), rfl, trivial, by rw [ht]; exact hP, hD⟩, hS.F ht⟩) hS.2.2 dX12_letter_31
theorem dX12_feed_0 : decode cX12_feed 0 = .ok (.aload_n 0, 1) := dk_42 (by decide +kernel)
theorem dX12_feed_1 : decode cX12_feed 1 = .ok (.iconst 0, 1) := dk_3 (by decide +kernel)
theorem dX12_feed_2 : decode cX12_feed 2 = .ok (.putfield 348, 3) := dk_181 (by decide +kernel)
theorem dX12_feed_5 : decode cX12_feed 5 = .ok (.iconst 0, 1) := dk_3 (by decide +kernel)
theorem dX12_feed_6 : decode cX12_feed 6 = .ok (.istore 6, 2) := dk_54 (by decide +kernel)
theorem dX12_feed_8 : decode cX12_feed 8 = .ok (.iload 6, 2) := dk_21 (by decide +kernel)
theorem dX12_feed_10 : decode cX12_feed 10 = .ok (.bipush 20, 2) := dk_16 (by decide +kernel)
theorem dX12_feed_12 : decode cX12_feed 12 = .ok (.if_icmp .ge 81, 3) := dk_162 (by decide +kernel)
theorem dX12_feed_15 : decode cX12_feed 15 = .ok (.iload 6, 2) := dk_21 (by decide +kernel)
theorem dX12_feed_17 : decode cX12_feed 17 = .ok (.iconst 4, 1) := dk_7 (by decide +kernel)
theorem dX12_feed_18 : decode cX12_feed 18 = .ok (.if_icmp .ge 7, 3) := dk_162 (by decide +kernel)
theorem dX12_feed_21 : decode cX12_feed 21 = .ok (.iload_n 1, 1) := dk_27 (by decide +kernel)
theorem dX12_feed_22 : decode cX12_feed 22 = .ok (.goto 39, 3) := dk_167 (by decide +kernel)
theorem dX12_feed_25 : decode cX12_feed 25 = .ok (.iload 6, 2) := dk_21 (by decide +kernel)
theorem dX12_feed_27 : decode cX12_feed 27 = .ok (.bipush 8, 2) := dk_16 (by decide +kernel)
theorem dX12_feed_29 : decode cX12_feed 29 = .ok (.if_icmp .ge 7, 3) := dk_162 (by decide +kernel)
theorem dX12_feed_32 : decode cX12_feed 32 = .ok (.iload_n 2, 1) := dk_28 (by decide +kernel)
theorem dX12_feed_33 : decode cX12_feed 33 = .ok (.goto 28, 3) := dk_167 (by decide +kernel)
theorem dX12_feed_36 : decode cX12_feed 36 = .ok (.iload 6, 2) := dk_21 (by decide +kernel)
theorem dX12_feed_38 : decode cX12_feed 38 = .ok (.bipush 12, 2) := dk_16 (by decide +kernel)
theorem dX12_feed_40 : decode cX12_feed 40 = .ok (.if_icmp .ge 7, 3) := dk_162 (by decide +kernel)
theorem dX12_feed_43 : decode cX12_feed 43 = .ok (.iload_n 3, 1) := dk_29 (by decide +kernel)
theorem dX12_feed_44 : decode cX12_feed 44 = .ok (.goto 17, 3) := dk_167 (by decide +kernel)
theorem dX12_feed_47 : decode cX12_feed 47 = .ok (.iload 6, 2) := dk_21 (by decide +kernel)
theorem dX12_feed_49 : decode cX12_feed 49 = .ok (.bipush 16, 2) := dk_16 (by decide +kernel)
theorem dX12_feed_51 : decode cX12_feed 51 = .ok (.if_icmp .ge 8, 3) := dk_162 (by decide +kernel)
theorem dX12_feed_54 : decode cX12_feed 54 = .ok (.iload 4, 2) := dk_21 (by decide +kernel)
theorem dX12_feed_56 : decode cX12_feed 56 = .ok (.goto 5, 3) := dk_167 (by decide +kernel)
theorem dX12_feed_59 : decode cX12_feed 59 = .ok (.iload 5, 2) := dk_21 (by decide +kernel)
theorem dX12_feed_61 : decode cX12_feed 61 = .ok (.istore 7, 2) := dk_54 (by decide +kernel)
theorem dX12_feed_63 : decode cX12_feed 63 = .ok (.aload_n 0, 1) := dk_42 (by decide +kernel)
theorem dX12_feed_64 : decode cX12_feed 64 = .ok (.getfield 254, 3) := dk_180 (by decide +kernel)
theorem dX12_feed_67 : decode cX12_feed 67 = .ok (.iload 6, 2) := dk_21 (by decide +kernel)
theorem dX12_feed_69 : decode cX12_feed 69 = .ok (.iload 7, 2) := dk_21 (by decide +kernel)
theorem dX12_feed_71 : decode cX12_feed 71 = .ok (.bipush 24, 2) := dk_16 (by decide +kernel)
theorem dX12_feed_73 : decode cX12_feed 73 = .ok (.bipush 8, 2) := dk_16 (by decide +kernel)
theorem dX12_feed_75 : decode cX12_feed 75 = .ok (.iload 6, 2) := dk_21 (by decide +kernel)
theorem dX12_feed_77 : decode cX12_feed 77 = .ok (.iconst 4, 1) := dk_7 (by decide +kernel)
theorem dX12_feed_78 : decode cX12_feed 78 = .ok (.irem, 1) := dk_112 (by decide +kernel)
theorem dX12_feed_79 : decode cX12_feed 79 = .ok (.imul, 1) := dk_104 (by decide +kernel)
theorem dX12_feed_80 : decode cX12_feed 80 = .ok (.isub, 1) := dk_100 (by decide +kernel)
theorem dX12_feed_81 : decode cX12_feed 81 = .ok (.ishr, 1) := dk_122 (by decide +kernel)
theorem dX12_feed_82 : decode cX12_feed 82 = .ok (.sipush 255, 3) := dk_17 (by decide +kernel)
theorem dX12_feed_85 : decode cX12_feed 85 = .ok (.iand, 1) := dk_126 (by decide +kernel)
theorem dX12_feed_86 : decode cX12_feed 86 = .ok (.iastore, 1) := dk_79 (by decide +kernel)
theorem dX12_feed_87 : decode cX12_feed 87 = .ok (.iinc 6 1, 3) := dk_132 (by decide +kernel)
theorem dX12_feed_90 : decode cX12_feed 90 = .ok (.goto (-82), 3) := dk_167 (by decide +kernel)
theorem dX12_feed_93 : decode cX12_feed 93 = .ok (.return_, 1) := dk_177 (by decide +kernel)
def wsRX12_feed : List Cond := .code yX12_feed cX12_feed 8 none :: ([.fieldLink RX12 348 "OptimaWorksModel" "thrown" "I", .fieldLink RX12 254 "OptimaWorksModel" "ready" "[I"] ++ wsX120)
theorem iwsRX12_feed_in12 : ∀ w ∈ wsX120, w ∈ wsRX12_feed := fun _ h => List.mem_cons_of_mem _ (List.mem_append_right _ h)
theorem gdwsRX12_feed : wsRX12_feed.all goodWord = true := gdC rfl (gdA (by decide +kernel : ([.fieldLink RX12 348 "OptimaWorksModel" "thrown" "I", .fieldLink RX12 254 "OptimaWorksModel" "ready" "[I"] : List Cond).all goodWord = true) gdwsX120)
set_option maxHeartbeats 4000000 in
set_option maxRecDepth 100000 in
/-- feed(a, b, c, d, e) -/
theorem r_X12_feed (l : Launch) (dC : Nat → ClassId) (dI : Nat → Nat → Nat) (a : Nat → Nat) (k : Nat → ClassId) (h0 : Nat) (vi : Nat → Int32) (vj : Nat → Int64) (vF : Nat → Nat → Int32) (vG : Nat → Nat → Int64) (x1 : Int32) (x2 : Int32) (x3 : Int32) (x4 : Int32) (x5 : Int32) (sz : Nat) : Met l yX12_feed wsRX12_feed ({ frames := 0, cells := 0, slots := 0, locals := 0 }) (va_Pc [.ref h0, .int x1, .int x2, .int x3, .int x4, .int x5] (fun U => U.heap.size = sz ∧ va_P (dC, dI) vwCl (WR a k h0 vi vj vF vG) U.heap ∧ va_K (dC, dI) vwCl (tX12 k) U ∧ va_D (fun _ => True) (WR a k h0 vi vj vF vG))) (va_Qv (fun (u : Nat → Int32) => True) (fun (u : Nat → Int32) t => va_P (dC, dI) vwCl (WR a k h0 (fT vi 0 0) vj (fT vF 77 u) vG) t.heap ∧ va_D (va_A (WR a k h0 vi vj vF vG) sz) (WR a k h0 (fT vi 0 0) vj (fT vF 77 u) vG)) (va_A (WR a k h0 vi vj vF vG) sz)) 0 0 (va_A (WR a k h0 vi vj vF vG) sz) := by
  refine Met.ofW (cc := cX12_feed) (maxL := 8) (ret := none) (by decide) rfl ?_
  intro p e s m args below meth c s₁ B hml hv
  obtain ⟨rfl, hsz, hP, hK, hD0⟩ := hv
  have hx := B.exec
  have hb := B.bytes
  have hr := B.returns
  have hts := atoms_spec (ws := wsRX12_feed) B.pre
  have hown : s.vm.findClass RX12 = some m.cls := findClass_of_methodNamed B.named
  have hlocks := B.notSynchronized
  subst hsz
  have hD := hD0.self (sz := s.heap.size)
  generalize hAe : va_A (WR a k h0 vi vj vF vG) s.heap.size = A at hD ⊢
  have hA : ∀ q : Nat, s.heap.size ≤ q → A q := fun q h => by rw [← hAe]; exact Or.inr h
  have hS : va_S A s.heap s.heap [] := va_S.rf
  have hl := lv_entry ([.ref h0, .int x1, .int x2, .int x3, .int x4, .int x5]) (n := 8) (Nat.le_of_ble_eq_true rfl)
  rw [lg_entry_eq]
  generalize (lg_sl ([.ref h0, .int x1, .int x2, .int x3, .int x4, .int x5]) ++ List.replicate (8 - (lg_sl ([.ref h0, .int x1, .int x2, .int x3, .int x4, .int x5])).length) Slot.unset).toArray = ls at hl ⊢
  have hl : lv_has ls 8 [(0, .ref h0), (1, .int x1), (2, .int x2), (3, .int x3), (4, .int x4), (5, .int x5)] := hl
  refine lv_aload_n hx hb dX12_feed_0 rfl (lv_at hl 0 rfl) ?_
  refine lv_iconst (v := 0) hx hb dX12_feed_1 (by decide) ?_
  refine va_put (D := (dC, dI)) (ci := 12) (v := .int 0) (ty := .int) (C := RX12) (T := TX12) (N := 163) (fs := fM (vS a vi vj)) hx hb hts iwsRX12_feed_in12 tyX12 tyX12_ok nmX12 hown hK hP hD hS 0 rfl rfl 0 (by decide) (hts (.fieldLink RX12 348 "OptimaWorksModel" "thrown" "I") (by decide +kernel)) (fun _ h9 => h9) rfl (by decide +kernel) rfl rfl (Nat.le_of_ble_eq_true rfl) dX12_feed_2 (fun H locs hP hD hS => ?_)
  have hP : va_P (dC, dI) vwCl (WR a k h0 (fT vi 0 0) vj vF vG) H := by rw [← WR_i 0 _ rfl]; exact hP
  have hD : va_D A (WR a k h0 (fT vi 0 0) vj vF vG) := by rw [← WR_i 0 _ rfl]; exact hD
  refine lv_iconst (v := 0) hx hb dX12_feed_5 (by decide) ?_
  refine lv_istore hx hb dX12_feed_6 hl (by decide) rfl (fun ls (hl : lv_has ls _ ([(6, .int 0), (0, .ref h0), (1, .int x1), (2, .int x2), (3, .int x3), (4, .int x4), (5, .int x5)])) => ?_)
  have e9 : fT vF 77 (vF 77) = vF := by funext q9; by_cases h9_77 : q9 = 77; (subst h9_77; exact (fT_eq _ _ _).trans (Eq.trans (by first | rfl | assumption | (symm; assumption) | (subst_vars; rfl)) (Eq.refl _).symm)); exact (fT_ne _ _ h9_77).trans (Eq.refl _).symm
  have hP : va_P (dC, dI) vwCl (WR a k h0 (fT vi 0 0) vj (fT vF 77 (vF 77)) vG) H := by rw [e9]; exact hP
  have hD : va_D A (WR a k h0 (fT vi 0 0) vj (fT vF 77 (vF 77)) vG) := by rw [e9]; exact hD
  clear e9
  have hl : lv_has _ _ ([(0, .ref h0), (1, .int x1), (2, .int x2), (3, .int x3), (4, .int x4), (5, .int x5), (6, .int (nI 0))]) := lv_sub hl [1, 2, 3, 4, 5, 6, 0] rfl
  refine (fun (loop : ∀ (n9 : Nat) (k5 : Nat) (x2_F77 : Nat → Int32) (H : Heap) (locs : List Loc) (ls : Array Slot), (k5 ≤ 20) →  (20 < k5 + n9) → va_P (dC, dI) vwCl (WR a k h0 (fT vi 0 0) vj (fT vF 77 x2_F77) vG) H → va_D A (WR a k h0 (fT vi 0 0) vj (fT vF 77 x2_F77) vG) → va_S A s.heap H locs → lv_has ls 8 [(0, .ref h0), (1, .int x1), (2, .int x2), (3, .int x3), (4, .int x4), (5, .int x5), (6, .int (nI k5))] → W p l e _ s m _ below meth c H locs 0 0 _ (F0 m 8 ls [])) => loop (21) 0 (vF 77) _ _ _ (by omega) (by omega) hP hD hS hl) ?_
  intro n9
  induction n9 with
  | zero => intro k5 x2_F77 H locs ls hk5 hf9; exact False.elim (by omega)
  | succ n9 ih8 =>
    intro k5 x2_F77 H locs ls hk5 hf8 hP hD hS hl
    refine lv_iload hx hb dX12_feed_8 (lv_at hl 6 rfl) ?_
    refine lv_bipush (v := 20) hx hb dX12_feed_10 (by decide) ?_
    refine lv_icmp_ge (tgt := 93) hx hb dX12_feed_12 (by decide) (fun c_12 => ?_) (fun c_12 => ?_)
    · have t_12 : ((k5 : Nat) : Int) ≥ 20 := toI_ge c_12 (nI_toInt (by omega)) (by decide)
      refine W.widen (k := 0) (n := 0) (by decide +kernel) (by decide +kernel) ?_
      exact W.vret hx hb hr (fun t9_ ht hW => ⟨⟨x2_F77, rfl, trivial, by rw [ht]; exact hP, hD⟩, hS.F ht⟩) hS.2.2 dX12_feed_93
    · have t_12 : ¬ ((k5 : Nat) : Int) ≥ 20 := toI_nge c_12 (nI_toInt (by omega)) (by decide)
      refine lv_iload hx hb dX12_feed_15 (lv_at hl 6 rfl) ?_
      refine lv_iconst (v := 4) hx hb dX12_feed_17 (by decide) ?_
      refine W.cut (pc := 61) (fun H locs ls stk => ∃ (j3_s0 : Int32),  stk = [.int j3_s0] ∧ va_P (dC, dI) vwCl (WR a k h0 (fT vi 0 0) vj (fT vF 77 x2_F77) vG) H ∧ va_D A (WR a k h0 (fT vi 0 0) vj (fT vF 77 x2_F77) vG) ∧ va_S A s.heap H locs ∧ lv_has ls 8 [(0, .ref h0), (1, .int x1), (2, .int x2), (3, .int x3), (4, .int x4), (5, .int x5), (6, .int (nI k5))]) (fun join1 => ?_) ?_
      · refine lv_icmp_ge (tgt := 25) hx hb dX12_feed_18 (by decide) (fun c_18 => ?_) (fun c_18 => ?_)
        · have t_18 : ((k5 : Nat) : Int) ≥ 4 := toI_ge c_18 (nI_toInt (by omega)) (by decide)
          refine lv_iload hx hb dX12_feed_25 (lv_at hl 6 rfl) ?_
          refine lv_bipush (v := 8) hx hb dX12_feed_27 (by decide) ?_
          refine lv_icmp_ge (tgt := 36) hx hb dX12_feed_29 (by decide) (fun c_29 => ?_) (fun c_29 => ?_)
          · have t_29 : ((k5 : Nat) : Int) ≥ 8 := toI_ge c_29 (nI_toInt (by omega)) (by decide)
            refine lv_iload hx hb dX12_feed_36 (lv_at hl 6 rfl) ?_
            refine lv_bipush (v := 12) hx hb dX12_feed_38 (by decide) ?_
            refine lv_icmp_ge (tgt := 47) hx hb dX12_feed_40 (by decide) (fun c_40 => ?_) (fun c_40 => ?_)
            · have t_40 : ((k5 : Nat) : Int) ≥ 12 := toI_ge c_40 (nI_toInt (by omega)) (by decide)
              refine lv_iload hx hb dX12_feed_47 (lv_at hl 6 rfl) ?_
              refine lv_bipush (v := 16) hx hb dX12_feed_49 (by decide) ?_
              refine lv_icmp_ge (tgt := 59) hx hb dX12_feed_51 (by decide) (fun c_51 => ?_) (fun c_51 => ?_)
              · have t_51 : ((k5 : Nat) : Int) ≥ 16 := toI_ge c_51 (nI_toInt (by omega)) (by decide)
                refine lv_iload hx hb dX12_feed_59 (lv_at hl 5 rfl) ?_
                have hl : lv_has _ _ ([(0, .ref h0), (1, .int x1), (2, .int x2), (3, .int x3), (4, .int x4), (5, .int x5), (6, .int (nI k5))]) := lv_sub hl [0, 1, 2, 3, 4, 5, 6] rfl
                exact join1 _ _ _ _ ⟨x5, rfl, hP, hD, hS, hl⟩
              · have t_51 : ¬ ((k5 : Nat) : Int) ≥ 16 := toI_nge c_51 (nI_toInt (by omega)) (by decide)
                refine lv_iload hx hb dX12_feed_54 (lv_at hl 4 rfl) ?_
                refine lv_goto (tgt := 61) hx hb dX12_feed_56 (by decide) ?_
                have hl : lv_has _ _ ([(0, .ref h0), (1, .int x1), (2, .int x2), (3, .int x3), (4, .int x4), (5, .int x5), (6, .int (nI k5))]) := lv_sub hl [0, 1, 2, 3, 4, 5, 6] rfl
                exact join1 _ _ _ _ ⟨x4, rfl, hP, hD, hS, hl⟩
            · have t_40 : ¬ ((k5 : Nat) : Int) ≥ 12 := toI_nge c_40 (nI_toInt (by omega)) (by decide)
              refine lv_iload_n hx hb dX12_feed_43 rfl (lv_at hl 3 rfl) ?_
              refine lv_goto (tgt := 61) hx hb dX12_feed_44 (by decide) ?_
              have hl : lv_has _ _ ([(0, .ref h0), (1, .int x1), (2, .int x2), (3, .int x3), (4, .int x4), (5, .int x5), (6, .int (nI k5))]) := lv_sub hl [0, 1, 2, 3, 4, 5, 6] rfl
              exact join1 _ _ _ _ ⟨x3, rfl, hP, hD, hS, hl⟩
          · have t_29 : ¬ ((k5 : Nat) : Int) ≥ 8 := toI_nge c_29 (nI_toInt (by omega)) (by decide)
            refine lv_iload_n hx hb dX12_feed_32 rfl (lv_at hl 2 rfl) ?_
            refine lv_goto (tgt := 61) hx hb dX12_feed_33 (by decide) ?_
            have hl : lv_has _ _ ([(0, .ref h0), (1, .int x1), (2, .int x2), (3, .int x3), (4, .int x4), (5, .int x5), (6, .int (nI k5))]) := lv_sub hl [0, 1, 2, 3, 4, 5, 6] rfl
            exact join1 _ _ _ _ ⟨x2, rfl, hP, hD, hS, hl⟩
        · have t_18 : ¬ ((k5 : Nat) : Int) ≥ 4 := toI_nge c_18 (nI_toInt (by omega)) (by decide)
          refine lv_iload_n hx hb dX12_feed_21 rfl (lv_at hl 1 rfl) ?_
          refine lv_goto (tgt := 61) hx hb dX12_feed_22 (by decide) ?_
          have hl : lv_has _ _ ([(0, .ref h0), (1, .int x1), (2, .int x2), (3, .int x3), (4, .int x4), (5, .int x5), (6, .int (nI k5))]) := lv_sub hl [0, 1, 2, 3, 4, 5, 6] rfl
          exact join1 _ _ _ _ ⟨x1, rfl, hP, hD, hS, hl⟩
      · rintro H locs ls stk ⟨j3_s0, rfl, hP, hD, hS, hl⟩
        refine lv_istore hx hb dX12_feed_61 hl (by decide) rfl (fun ls (hl : lv_has ls _ ([(7, .int j3_s0), (0, .ref h0), (1, .int x1), (2, .int x2), (3, .int x3), (4, .int x4), (5, .int x5), (6, .int (nI k5))])) => ?_)
        refine lv_aload_n hx hb dX12_feed_63 rfl (lv_at hl 1 rfl) ?_
        refine va_get (D := (dC, dI)) (ci := 12) (v := .ref (a 77)) (C := RX12) (T := TX12) (N := 163) (fs := fM (vS a (fT vi 0 0) vj)) hx hb hts iwsRX12_feed_in12 hown hK hP 0 rfl rfl 127 (by decide) (hts (.fieldLink RX12 254 "OptimaWorksModel" "ready" "[I") (by decide +kernel)) (fun _ h9 => h9) rfl dX12_feed_64 ?_
        refine lv_iload hx hb dX12_feed_67 (lv_at hl 7 rfl) ?_
        refine lv_iload hx hb dX12_feed_69 (lv_at hl 0 rfl) ?_
        refine lv_bipush (v := 24) hx hb dX12_feed_71 (by decide) ?_
        refine lv_bipush (v := 8) hx hb dX12_feed_73 (by decide) ?_
        refine lv_iload hx hb dX12_feed_75 (lv_at hl 7 rfl) ?_
        refine lv_iconst (v := 4) hx hb dX12_feed_77 (by decide) ?_
        refine lv_irem hx hb dX12_feed_78 (by decide) ?_
        refine lv_topi (fun y1 hy1 => ?_)
        obtain rfl : (nI (k5 % 4)) = y1 := (hy1.trans (pk_rem (a := k5) (d := 4) (by omega) (by omega) (by omega))).symm
        refine lv_imul hx hb dX12_feed_79 ?_
        refine lv_topi (fun y2 hy2 => ?_)
        obtain rfl : (nI (8 * (k5 % 4))) = y2 := (hy2.trans (pk_mul 8 (k5 % 4))).symm
        refine lv_isub hx hb dX12_feed_80 ?_
        refine lv_topi (fun y3 hy3 => ?_)
        obtain rfl : (nI (24 - (8 * (k5 % 4)))) = y3 := (hy3.trans (pk_sub (a := 24) (b := (8 * (k5 % 4))) (by omega))).symm
        refine lv_ishr hx hb dX12_feed_81 ?_
        refine lv_sipush (v := 255) hx hb dX12_feed_82 (by decide) ?_
        refine lv_iand hx hb dX12_feed_85 ?_
        refine va_iast (cA := k 77) (n := 20) (f := x2_F77) hx hb hK hP hD hS 78 77 (WR_get 77 (by decide)) (TR_get 77 (by decide)) (vp_in_nI (show k5 < 20 by omega) (by omega)) dX12_feed_86 (fun H locs hP hD hS => ?_)
        have e9 : fT vF 77 (upd x2_F77 ((nI k5)).toNatClampNeg ((j3_s0 >>> ((nI (24 - (8 * (k5 % 4)))) &&& 31)) &&& 255)) = fT (fT vF 77 x2_F77) 77 (upd x2_F77 ((nI k5)).toNatClampNeg ((j3_s0 >>> ((nI (24 - (8 * (k5 % 4)))) &&& 31)) &&& 255)) := (fT_sm _ _ _ _).symm
        have hP : va_P (dC, dI) vwCl (WR a k h0 (fT vi 0 0) vj (fT vF 77 (upd x2_F77 ((nI k5)).toNatClampNeg ((j3_s0 >>> ((nI (24 - (8 * (k5 % 4)))) &&& 31)) &&& 255))) vG) H := by rw [e9, ← WR_F 77 (by decide) _ rfl]; exact hP
        have hD : va_D A (WR a k h0 (fT vi 0 0) vj (fT vF 77 (upd x2_F77 ((nI k5)).toNatClampNeg ((j3_s0 >>> ((nI (24 - (8 * (k5 % 4)))) &&& 31)) &&& 255))) vG) := by rw [e9, ← WR_F 77 (by decide) _ rfl]; exact hD
        clear e9
        refine lv_iinc (v := (nI (k5 + 1))) hx hb dX12_feed_87 hl (k := 7) rfl (nI_add k5 1) (by decide) rfl (fun ls (hl : lv_has ls _ ([(6, .int (nI (k5 + 1))), (7, .int j3_s0), (0, .ref h0), (1, .int x1), (2, .int x2), (3, .int x3), (4, .int x4), (5, .int x5)])) => ?_)
        refine lv_goto (tgt := 8) hx hb dX12_feed_90 (by decide) ?_
        have hl : lv_has _ _ ([(0, .ref h0), (1, .int x1), (2, .int x2), (3, .int x3), (4, .int x4), (5, .int x5), (6, .int (nI (k5 + 1)))]) := lv_sub hl [2, 3, 4, 5, 6, 7, 0] rfl
        exact ih8 (k5 + 1) (upd x2_F77 ((nI k5)).toNatClampNeg ((j3_s0 >>> ((nI (24 - (8 * (k5 % 4)))) &&& 31)) &&& 255)) _ _ _ (by omega) (by omega) hP hD hS hl
theorem dX12_end_0 : decode cX12_end 0 = .ok (.aload_n 0, 1) := dk_42 (by decide +kernel)
theorem dX12_end_1 : decode cX12_end 1 = .ok (.iconst 0, 1) := dk_3 (by decide +kernel)
theorem dX12_end_2 : decode cX12_end 2 = .ok (.putfield 348, 3) := dk_181 (by decide +kernel)
theorem dX12_end_5 : decode cX12_end 5 = .ok (.iload_n 1, 1) := dk_27 (by decide +kernel)
theorem dX12_end_6 : decode cX12_end 6 = .ok (.ifCond .lt 21, 3) := dk_155 (by decide +kernel)
theorem dX12_end_9 : decode cX12_end 9 = .ok (.iload_n 1, 1) := dk_27 (by decide +kernel)
theorem dX12_end_10 : decode cX12_end 10 = .ok (.bipush 20, 2) := dk_16 (by decide +kernel)
theorem dX12_end_12 : decode cX12_end 12 = .ok (.if_icmp .gt 15, 3) := dk_163 (by decide +kernel)
theorem dX12_end_15 : decode cX12_end 15 = .ok (.aload_n 0, 1) := dk_42 (by decide +kernel)
theorem dX12_end_16 : decode cX12_end 16 = .ok (.getfield 468, 3) := dk_180 (by decide +kernel)
theorem dX12_end_19 : decode cX12_end 19 = .ok (.iload_n 1, 1) := dk_27 (by decide +kernel)
theorem dX12_end_20 : decode cX12_end 20 = .ok (.iadd, 1) := dk_96 (by decide +kernel)
theorem dX12_end_21 : decode cX12_end 21 = .ok (.sipush 4000, 3) := dk_17 (by decide +kernel)
theorem dX12_end_24 : decode cX12_end 24 = .ok (.if_icmp .le 5, 3) := dk_164 (by decide +kernel)
theorem dX12_end_27 : decode cX12_end 27 = .ok (.iconst (-1), 1) := dk_2 (by decide +kernel)
theorem dX12_end_28 : decode cX12_end 28 = .ok (.ireturn, 1) := dk_172 (by decide +kernel)
theorem dX12_end_29 : decode cX12_end 29 = .ok (.iconst 0, 1) := dk_3 (by decide +kernel)
theorem dX12_end_30 : decode cX12_end 30 = .ok (.istore_n 2, 1) := dk_61 (by decide +kernel)
theorem dX12_end_31 : decode cX12_end 31 = .ok (.iload_n 2, 1) := dk_28 (by decide +kernel)
theorem dX12_end_32 : decode cX12_end 32 = .ok (.iload_n 1, 1) := dk_27 (by decide +kernel)
theorem dX12_end_33 : decode cX12_end 33 = .ok (.if_icmp .ge 27, 3) := dk_162 (by decide +kernel)
theorem dX12_end_36 : decode cX12_end 36 = .ok (.aload_n 0, 1) := dk_42 (by decide +kernel)
theorem dX12_end_37 : decode cX12_end 37 = .ok (.getfield 39, 3) := dk_180 (by decide +kernel)
theorem dX12_end_40 : decode cX12_end 40 = .ok (.aload_n 0, 1) := dk_42 (by decide +kernel)
theorem dX12_end_41 : decode cX12_end 41 = .ok (.getfield 468, 3) := dk_180 (by decide +kernel)
theorem dX12_end_44 : decode cX12_end 44 = .ok (.iload_n 2, 1) := dk_28 (by decide +kernel)
theorem dX12_end_45 : decode cX12_end 45 = .ok (.iadd, 1) := dk_96 (by decide +kernel)
theorem dX12_end_46 : decode cX12_end 46 = .ok (.aload_n 0, 1) := dk_42 (by decide +kernel)
theorem dX12_end_47 : decode cX12_end 47 = .ok (.getfield 254, 3) := dk_180 (by decide +kernel)
theorem dX12_end_50 : decode cX12_end 50 = .ok (.iload_n 2, 1) := dk_28 (by decide +kernel)
theorem dX12_end_51 : decode cX12_end 51 = .ok (.iaload, 1) := dk_46 (by decide +kernel)
theorem dX12_end_52 : decode cX12_end 52 = .ok (.i2b, 1) := dk_145 (by decide +kernel)
theorem dX12_end_53 : decode cX12_end 53 = .ok (.bastore, 1) := dk_84 (by decide +kernel)
theorem dX12_end_54 : decode cX12_end 54 = .ok (.iinc 2 1, 3) := dk_132 (by decide +kernel)
theorem dX12_end_57 : decode cX12_end 57 = .ok (.goto (-26), 3) := dk_167 (by decide +kernel)
theorem dX12_end_60 : decode cX12_end 60 = .ok (.iconst 0, 1) := dk_3 (by decide +kernel)
theorem dX12_end_61 : decode cX12_end 61 = .ok (.istore_n 2, 1) := dk_61 (by decide +kernel)
theorem dX12_end_62 : decode cX12_end 62 = .ok (.iload_n 2, 1) := dk_28 (by decide +kernel)
theorem dX12_end_63 : decode cX12_end 63 = .ok (.bipush 20, 2) := dk_16 (by decide +kernel)
theorem dX12_end_65 : decode cX12_end 65 = .ok (.if_icmp .ge 16, 3) := dk_162 (by decide +kernel)
theorem dX12_end_68 : decode cX12_end 68 = .ok (.aload_n 0, 1) := dk_42 (by decide +kernel)
theorem dX12_end_69 : decode cX12_end 69 = .ok (.getfield 254, 3) := dk_180 (by decide +kernel)
theorem dX12_end_72 : decode cX12_end 72 = .ok (.iload_n 2, 1) := dk_28 (by decide +kernel)
theorem dX12_end_73 : decode cX12_end 73 = .ok (.iconst 0, 1) := dk_3 (by decide +kernel)
theorem dX12_end_74 : decode cX12_end 74 = .ok (.iastore, 1) := dk_79 (by decide +kernel)
theorem dX12_end_75 : decode cX12_end 75 = .ok (.iinc 2 1, 3) := dk_132 (by decide +kernel)
theorem dX12_end_78 : decode cX12_end 78 = .ok (.goto (-16), 3) := dk_167 (by decide +kernel)
theorem dX12_end_81 : decode cX12_end 81 = .ok (.aload_n 0, 1) := dk_42 (by decide +kernel)
theorem dX12_end_82 : decode cX12_end 82 = .ok (.dup, 1) := dk_89 (by decide +kernel)
theorem dX12_end_83 : decode cX12_end 83 = .ok (.getfield 468, 3) := dk_180 (by decide +kernel)
theorem dX12_end_86 : decode cX12_end 86 = .ok (.iload_n 1, 1) := dk_27 (by decide +kernel)
theorem dX12_end_87 : decode cX12_end 87 = .ok (.iadd, 1) := dk_96 (by decide +kernel)
theorem dX12_end_88 : decode cX12_end 88 = .ok (.putfield 468, 3) := dk_181 (by decide +kernel)
theorem dX12_end_91 : decode cX12_end 91 = .ok (.aload_n 0, 1) := dk_42 (by decide +kernel)
theorem dX12_end_92 : decode cX12_end 92 = .ok (.getfield 468, 3) := dk_180 (by decide +kernel)
theorem dX12_end_95 : decode cX12_end 95 = .ok (.ireturn, 1) := dk_172 (by decide +kernel)
def wsRX12_end : List Cond := .code yX12_end cX12_end 3 (some .int) :: ([.fieldLink RX12 348 "OptimaWorksModel" "thrown" "I", .fieldLink RX12 468 "OptimaWorksModel" "taped" "I", .fieldLink RX12 254 "OptimaWorksModel" "ready" "[I", .fieldLink RX12 39 "OptimaWorksModel" "tape" "[B"] ++ wsX120)
theorem iwsRX12_end_in12 : ∀ w ∈ wsX120, w ∈ wsRX12_end := fun _ h => List.mem_cons_of_mem _ (List.mem_append_right _ h)
theorem gdwsRX12_end : wsRX12_end.all goodWord = true := gdC rfl (gdA (by decide +kernel : ([.fieldLink RX12 348 "OptimaWorksModel" "thrown" "I", .fieldLink RX12 468 "OptimaWorksModel" "taped" "I", .fieldLink RX12 254 "OptimaWorksModel" "ready" "[I", .fieldLink RX12 39 "OptimaWorksModel" "tape" "[B"] : List Cond).all goodWord = true) gdwsX120)
set_option maxHeartbeats 4000000 in
set_option maxRecDepth 100000 in
/-- end(n) -/
theorem r_X12_end (l : Launch) (dC : Nat → ClassId) (dI : Nat → Nat → Nat) (a : Nat → Nat) (k : Nat → ClassId) (h0 : Nat) (vi : Nat → Int32) (vj : Nat → Int64) (vF : Nat → Nat → Int32) (vG : Nat → Nat → Int64) (nv : Int32) (tp : Nat) (hTp : vi 16 = nI tp) (htp : tp ≤ 4000) (sz : Nat) : Met l yX12_end wsRX12_end ({ frames := 0, cells := 0, slots := 0, locals := 0 }) (va_Pc [.ref h0, .int nv] (fun U => U.heap.size = sz ∧ va_P (dC, dI) vwCl (WR a k h0 vi vj vF vG) U.heap ∧ va_K (dC, dI) vwCl (tX12 k) U ∧ va_D (fun _ => True) (WR a k h0 vi vj vF vG))) (va_Qi (fun (r : Int32) (u : (Nat) × (Nat → Int32) × (Nat → Int32)) => (r = (-1) ∧ (¬ EndO tp nv) ∧ (u.1) = tp) ∨ (r = (nI (u.1)) ∧ (EndO tp nv) ∧ ((u.1) = tp + (nv).toInt.natAbs))) (fun (u : (Nat) × (Nat → Int32) × (Nat → Int32)) t => va_P (dC, dI) vwCl (WR a k h0 (fT (fT vi 0 0) 16 (nI (u.1))) vj (fT (fT vF 9 (u.2.1)) 77 (u.2.2)) vG) t.heap ∧ va_D (va_A (WR a k h0 vi vj vF vG) sz) (WR a k h0 (fT (fT vi 0 0) 16 (nI (u.1))) vj (fT (fT vF 9 (u.2.1)) 77 (u.2.2)) vG)) (va_A (WR a k h0 vi vj vF vG) sz)) 0 0 (va_A (WR a k h0 vi vj vF vG) sz) := by
  refine Met.ofW (cc := cX12_end) (maxL := 3) (ret := (some .int)) (by decide) rfl ?_
  intro p e s m args below meth c s₁ B hml hv
  obtain ⟨rfl, hsz, hP, hK, hD0⟩ := hv
  have hx := B.exec
  have hb := B.bytes
  have hr := B.returns
  have hts := atoms_spec (ws := wsRX12_end) B.pre
  have hown : s.vm.findClass RX12 = some m.cls := findClass_of_methodNamed B.named
  have hlocks := B.notSynchronized
  subst hsz
  have hD := hD0.self (sz := s.heap.size)
  generalize hAe : va_A (WR a k h0 vi vj vF vG) s.heap.size = A at hD ⊢
  have hA : ∀ q : Nat, s.heap.size ≤ q → A q := fun q h => by rw [← hAe]; exact Or.inr h
  have hS : va_S A s.heap s.heap [] := va_S.rf
  have hl := lv_entry ([.ref h0, .int nv]) (n := 3) (Nat.le_of_ble_eq_true rfl)
  rw [lg_entry_eq]
  generalize (lg_sl ([.ref h0, .int nv]) ++ List.replicate (3 - (lg_sl ([.ref h0, .int nv])).length) Slot.unset).toArray = ls at hl ⊢
  have hl : lv_has ls 3 [(0, .ref h0), (1, .int nv)] := hl
  refine lv_aload_n hx hb dX12_end_0 rfl (lv_at hl 0 rfl) ?_
  refine lv_iconst (v := 0) hx hb dX12_end_1 (by decide) ?_
  refine va_put (D := (dC, dI)) (ci := 12) (v := .int 0) (ty := .int) (C := RX12) (T := TX12) (N := 163) (fs := fM (vS a vi vj)) hx hb hts iwsRX12_end_in12 tyX12 tyX12_ok nmX12 hown hK hP hD hS 0 rfl rfl 0 (by decide) (hts (.fieldLink RX12 348 "OptimaWorksModel" "thrown" "I") (by decide +kernel)) (fun _ h9 => h9) rfl (by decide +kernel) rfl rfl (Nat.le_of_ble_eq_true rfl) dX12_end_2 (fun H locs hP hD hS => ?_)
  have hP : va_P (dC, dI) vwCl (WR a k h0 (fT vi 0 0) vj vF vG) H := by rw [← WR_i 0 _ rfl]; exact hP
  have hD : va_D A (WR a k h0 (fT vi 0 0) vj vF vG) := by rw [← WR_i 0 _ rfl]; exact hD
  refine lv_iload_n hx hb dX12_end_5 rfl (lv_at hl 1 rfl) ?_
  refine lv_if_lt (tgt := 27) hx hb dX12_end_6 (by decide) (fun c_6 => ?_) (fun c_6 => ?_)
  · have t_6 : (nv).toInt < 0 := toI_lt c_6 rfl (by decide)
    refine lv_iconst (v := (-1)) hx hb dX12_end_27 (by decide) ?_
    refine W.widen (k := 0) (n := 0) (by decide +kernel) (by decide +kernel) ?_
    have e9 : fT (fT vi 0 0) 16 (nI tp) = fT vi 0 0 := by funext q9; by_cases h9_0 : q9 = 0; (subst h9_0; exact ((fT_ne _ _ (Nat.ne_of_beq_eq_false rfl)).trans (fT_eq _ _ _)).trans (Eq.trans (by first | rfl | assumption | (symm; assumption) | (subst_vars; rfl)) (fT_eq _ _ _).symm)); by_cases h9_16 : q9 = 16; (subst h9_16; exact (fT_eq _ _ _).trans (Eq.trans (by first | rfl | assumption | (symm; assumption) | (subst_vars; rfl)) (fT_ne _ _ (Nat.ne_of_beq_eq_false rfl)).symm)); exact ((fT_ne _ _ h9_16).trans (fT_ne _ _ h9_0)).trans (fT_ne _ _ h9_0).symm
    have hP : va_P (dC, dI) vwCl (WR a k h0 (fT (fT vi 0 0) 16 (nI tp)) vj vF vG) H := by rw [e9]; exact hP
    have hD : va_D A (WR a k h0 (fT (fT vi 0 0) 16 (nI tp)) vj vF vG) := by rw [e9]; exact hD
    clear e9
    have e9 : fT (fT vF 9 (vF 9)) 77 (vF 77) = vF := (fT_id _ _ (fT_ne _ _ (Nat.ne_of_beq_eq_false rfl))).trans (fT_id _ _ (rfl))
    have hP : va_P (dC, dI) vwCl (WR a k h0 (fT (fT vi 0 0) 16 (nI tp)) vj (fT (fT vF 9 (vF 9)) 77 (vF 77)) vG) H := by rw [e9]; exact hP
    have hD : va_D A (WR a k h0 (fT (fT vi 0 0) 16 (nI tp)) vj (fT (fT vF 9 (vF 9)) 77 (vF 77)) vG) := by rw [e9]; exact hD
    clear e9
    exact W.iret (v := (-1)) hx hb hr (fun t9_ ht hW => ⟨⟨(-1), (tp, (vF 9), (vF 77)), rfl, by (try dsimp only); exact Or.inl ⟨rfl, fun h9 => by unfold EndO at h9; omega, rfl⟩, by rw [ht]; exact hP, hD⟩, hS.F ht⟩) hS.2.2 dX12_end_28
  · have t_6 : ¬ (nv).toInt < 0 := toI_nlt c_6 rfl (by decide)
    refine lv_iload_n hx hb dX12_end_9 rfl (lv_at hl 1 rfl) ?_
    refine lv_bipush (v := 20) hx hb dX12_end_10 (by decide) ?_
    refine lv_icmp_gt (tgt := 27) hx hb dX12_end_12 (by decide) (fun c_12 => ?_) (fun c_12 => ?_)
    · have t_12 : (nv).toInt > 20 := toI_gt c_12 rfl (by decide)
      refine lv_iconst (v := (-1)) hx hb dX12_end_27 (by decide) ?_
      refine W.widen (k := 0) (n := 0) (by decide +kernel) (by decide +kernel) ?_
      have e9 : fT (fT vi 0 0) 16 (nI tp) = fT vi 0 0 := by funext q9; by_cases h9_0 : q9 = 0; (subst h9_0; exact ((fT_ne _ _ (Nat.ne_of_beq_eq_false rfl)).trans (fT_eq _ _ _)).trans (Eq.trans (by first | rfl | assumption | (symm; assumption) | (subst_vars; rfl)) (fT_eq _ _ _).symm)); by_cases h9_16 : q9 = 16; (subst h9_16; exact (fT_eq _ _ _).trans (Eq.trans (by first | rfl | assumption | (symm; assumption) | (subst_vars; rfl)) (fT_ne _ _ (Nat.ne_of_beq_eq_false rfl)).symm)); exact ((fT_ne _ _ h9_16).trans (fT_ne _ _ h9_0)).trans (fT_ne _ _ h9_0).symm
      have hP : va_P (dC, dI) vwCl (WR a k h0 (fT (fT vi 0 0) 16 (nI tp)) vj vF vG) H := by rw [e9]; exact hP
      have hD : va_D A (WR a k h0 (fT (fT vi 0 0) 16 (nI tp)) vj vF vG) := by rw [e9]; exact hD
      clear e9
      have e9 : fT (fT vF 9 (vF 9)) 77 (vF 77) = vF := (fT_id _ _ (fT_ne _ _ (Nat.ne_of_beq_eq_false rfl))).trans (fT_id _ _ (rfl))
      have hP : va_P (dC, dI) vwCl (WR a k h0 (fT (fT vi 0 0) 16 (nI tp)) vj (fT (fT vF 9 (vF 9)) 77 (vF 77)) vG) H := by rw [e9]; exact hP
      have hD : va_D A (WR a k h0 (fT (fT vi 0 0) 16 (nI tp)) vj (fT (fT vF 9 (vF 9)) 77 (vF 77)) vG) := by rw [e9]; exact hD
      clear e9
      exact W.iret (v := (-1)) hx hb hr (fun t9_ ht hW => ⟨⟨(-1), (tp, (vF 9), (vF 77)), rfl, by (try dsimp only); exact Or.inl ⟨rfl, fun h9 => by unfold EndO at h9; omega, rfl⟩, by rw [ht]; exact hP, hD⟩, hS.F ht⟩) hS.2.2 dX12_end_28
    · have t_12 : ¬ (nv).toInt > 20 := toI_ngt c_12 rfl (by decide)
      have hnv : (nv).toInt = (nv).toInt := rfl
      obtain ⟨nn, hnn, enn⟩ := of_toInt (x := nv) (k := 21) (by omega) (by omega)
      subst enn
      have e_nn : (nI nn).toInt = (nn : Int) := nI_toInt (by omega)
      refine lv_aload_n hx hb dX12_end_15 rfl (lv_at hl 0 rfl) ?_
      refine va_get (D := (dC, dI)) (ci := 12) (v := .int (vi 16)) (C := RX12) (T := TX12) (N := 163) (fs := fM (vS a (fT vi 0 0) vj)) hx hb hts iwsRX12_end_in12 hown hK hP 0 rfl rfl 16 (by decide) (hts (.fieldLink RX12 468 "OptimaWorksModel" "taped" "I") (by decide +kernel)) (fun _ h9 => h9) rfl dX12_end_16 ?_
      refine lv_topi (fun y1 hy1 => ?_)
      obtain rfl : (nI tp) = y1 := (hy1.trans (hTp)).symm
      refine lv_iload_n hx hb dX12_end_19 rfl (lv_at hl 1 rfl) ?_
      refine lv_iadd hx hb dX12_end_20 ?_
      refine lv_topi (fun y2 hy2 => ?_)
      obtain rfl : (nI (tp + nn)) = y2 := (hy2.trans (nI_add tp nn)).symm
      refine lv_sipush (v := 4000) hx hb dX12_end_21 (by decide) ?_
      refine lv_icmp_le (tgt := 29) hx hb dX12_end_24 (by decide) (fun c_24 => ?_) (fun c_24 => ?_)
      · have t_24 : (((tp + nn) : Nat) : Int) ≤ 4000 := toI_le c_24 (nI_toInt (by omega)) (by decide)
        refine lv_iconst (v := 0) hx hb dX12_end_29 (by decide) ?_
        refine lv_istore_n hx hb dX12_end_30 rfl hl (by decide) rfl (fun ls (hl : lv_has ls _ ([(2, .int 0), (0, .ref h0), (1, .int (nI nn))])) => ?_)
        have e9 : fT vF 9 (vF 9) = vF := by funext q9; by_cases h9_9 : q9 = 9; (subst h9_9; exact (fT_eq _ _ _).trans (Eq.trans (by first | rfl | assumption | (symm; assumption) | (subst_vars; rfl)) (Eq.refl _).symm)); exact (fT_ne _ _ h9_9).trans (Eq.refl _).symm
        have hP : va_P (dC, dI) vwCl (WR a k h0 (fT vi 0 0) vj (fT vF 9 (vF 9)) vG) H := by rw [e9]; exact hP
        have hD : va_D A (WR a k h0 (fT vi 0 0) vj (fT vF 9 (vF 9)) vG) := by rw [e9]; exact hD
        clear e9
        have hl : lv_has _ _ ([(0, .ref h0), (1, .int (nI nn)), (2, .int (nI 0))]) := lv_sub hl [1, 2, 0] rfl
        refine (fun (loop : ∀ (n9 : Nat) (k5 : Nat) (x2_F9 : Nat → Int32) (H : Heap) (locs : List Loc) (ls : Array Slot), (k5 ≤ nn) →  (nn < k5 + n9) → va_P (dC, dI) vwCl (WR a k h0 (fT vi 0 0) vj (fT vF 9 x2_F9) vG) H → va_D A (WR a k h0 (fT vi 0 0) vj (fT vF 9 x2_F9) vG) → va_S A s.heap H locs → lv_has ls 3 [(0, .ref h0), (1, .int (nI nn)), (2, .int (nI k5))] → W p l e _ s m _ below meth c H locs 0 0 _ (F0 m 31 ls [])) => loop (nn + 1) 0 (vF 9) _ _ _ (by omega) (by omega) hP hD hS hl) ?_
        intro n9
        induction n9 with
        | zero => intro k5 x2_F9 H locs ls hk5 hf9; exact False.elim (by omega)
        | succ n9 ih31 =>
          intro k5 x2_F9 H locs ls hk5 hf31 hP hD hS hl
          refine lv_iload_n hx hb dX12_end_31 rfl (lv_at hl 2 rfl) ?_
          refine lv_iload_n hx hb dX12_end_32 rfl (lv_at hl 1 rfl) ?_
          refine lv_icmp_ge (tgt := 60) hx hb dX12_end_33 (by decide) (fun c_33 => ?_) (fun c_33 => ?_)
          · have t_33 : ((k5 : Nat) : Int) ≥ ((nn : Nat) : Int) := toI_ge c_33 (nI_toInt (by omega)) (nI_toInt (by omega))
            refine lv_iconst (v := 0) hx hb dX12_end_60 (by decide) ?_
            refine lv_istore_n hx hb dX12_end_61 rfl hl (by decide) rfl (fun ls (hl : lv_has ls _ ([(2, .int 0), (0, .ref h0), (1, .int (nI nn))])) => ?_)
            have e9 : fT (fT vF 9 x2_F9) 77 (vF 77) = fT vF 9 x2_F9 := by funext q9; by_cases h9_9 : q9 = 9; (subst h9_9; exact ((fT_ne _ _ (Nat.ne_of_beq_eq_false rfl)).trans (fT_eq _ _ _)).trans (Eq.trans (by first | rfl | assumption | (symm; assumption) | (subst_vars; rfl)) (fT_eq _ _ _).symm)); by_cases h9_77 : q9 = 77; (subst h9_77; exact (fT_eq _ _ _).trans (Eq.trans (by first | rfl | assumption | (symm; assumption) | (subst_vars; rfl)) (fT_ne _ _ (Nat.ne_of_beq_eq_false rfl)).symm)); exact ((fT_ne _ _ h9_77).trans (fT_ne _ _ h9_9)).trans (fT_ne _ _ h9_9).symm
            have hP : va_P (dC, dI) vwCl (WR a k h0 (fT vi 0 0) vj (fT (fT vF 9 x2_F9) 77 (vF 77)) vG) H := by rw [e9]; exact hP
            have hD : va_D A (WR a k h0 (fT vi 0 0) vj (fT (fT vF 9 x2_F9) 77 (vF 77)) vG) := by rw [e9]; exact hD
            clear e9
            have hl : lv_has _ _ ([(0, .ref h0), (1, .int (nI nn)), (2, .int (nI 0))]) := lv_sub hl [1, 2, 0] rfl
            refine (fun (loop : ∀ (n9 : Nat) (k6 : Nat) (x3_F77 : Nat → Int32) (H : Heap) (locs : List Loc) (ls : Array Slot), (k6 ≤ 20) →  (20 < k6 + n9) → va_P (dC, dI) vwCl (WR a k h0 (fT vi 0 0) vj (fT (fT vF 9 x2_F9) 77 x3_F77) vG) H → va_D A (WR a k h0 (fT vi 0 0) vj (fT (fT vF 9 x2_F9) 77 x3_F77) vG) → va_S A s.heap H locs → lv_has ls 3 [(0, .ref h0), (1, .int (nI nn)), (2, .int (nI k6))] → W p l e _ s m _ below meth c H locs 0 0 _ (F0 m 62 ls [])) => loop (21) 0 (vF 77) _ _ _ (by omega) (by omega) hP hD hS hl) ?_
            intro n9
            induction n9 with
            | zero => intro k6 x3_F77 H locs ls hk6 hf9; exact False.elim (by omega)
            | succ n9 ih62_1 =>
              intro k6 x3_F77 H locs ls hk6 hf62_1 hP hD hS hl
              refine lv_iload_n hx hb dX12_end_62 rfl (lv_at hl 2 rfl) ?_
              refine lv_bipush (v := 20) hx hb dX12_end_63 (by decide) ?_
              refine lv_icmp_ge (tgt := 81) hx hb dX12_end_65 (by decide) (fun c_65 => ?_) (fun c_65 => ?_)
              · have t_65 : ((k6 : Nat) : Int) ≥ 20 := toI_ge c_65 (nI_toInt (by omega)) (by decide)
                refine lv_aload_n hx hb dX12_end_81 rfl (lv_at hl 0 rfl) ?_
                refine lv_dup hx hb dX12_end_82 rfl ?_
                refine va_get (D := (dC, dI)) (ci := 12) (v := .int (vi 16)) (C := RX12) (T := TX12) (N := 163) (fs := fM (vS a (fT vi 0 0) vj)) hx hb hts iwsRX12_end_in12 hown hK hP 0 rfl rfl 16 (by decide) (hts (.fieldLink RX12 468 "OptimaWorksModel" "taped" "I") (by decide +kernel)) (fun _ h9 => h9) rfl dX12_end_83 ?_
                refine lv_topi (fun y3 hy3 => ?_)
                obtain rfl : (nI tp) = y3 := (hy3.trans (hTp)).symm
                refine lv_iload_n hx hb dX12_end_86 rfl (lv_at hl 1 rfl) ?_
                refine lv_iadd hx hb dX12_end_87 ?_
                refine lv_topi (fun y4 hy4 => ?_)
                obtain rfl : (nI (tp + nn)) = y4 := (hy4.trans (nI_add tp nn)).symm
                refine va_put (D := (dC, dI)) (ci := 12) (v := .int (nI (tp + nn))) (ty := .int) (C := RX12) (T := TX12) (N := 163) (fs := fM (vS a (fT vi 0 0) vj)) hx hb hts iwsRX12_end_in12 tyX12 tyX12_ok nmX12 hown hK hP hD hS 0 rfl rfl 16 (by decide) (hts (.fieldLink RX12 468 "OptimaWorksModel" "taped" "I") (by decide +kernel)) (fun _ h9 => h9) rfl (by decide +kernel) rfl rfl (Nat.le_of_ble_eq_true rfl) dX12_end_88 (fun H locs hP hD hS => ?_)
                have hP : va_P (dC, dI) vwCl (WR a k h0 (fT (fT vi 0 0) 16 (nI (tp + nn))) vj (fT (fT vF 9 x2_F9) 77 x3_F77) vG) H := by rw [← WR_i 16 _ rfl]; exact hP
                have hD : va_D A (WR a k h0 (fT (fT vi 0 0) 16 (nI (tp + nn))) vj (fT (fT vF 9 x2_F9) 77 x3_F77) vG) := by rw [← WR_i 16 _ rfl]; exact hD
                refine lv_aload_n hx hb dX12_end_91 rfl (lv_at hl 0 rfl) ?_
                refine va_get (D := (dC, dI)) (ci := 12) (v := .int (nI (tp + nn))) (C := RX12) (T := TX12) (N := 163) (fs := fM (vS a (fT (fT vi 0 0) 16 (nI (tp + nn))) vj)) hx hb hts iwsRX12_end_in12 hown hK hP 0 rfl rfl 16 (by decide) (hts (.fieldLink RX12 468 "OptimaWorksModel" "taped" "I") (by decide +kernel)) (fun _ h9 => h9) rfl dX12_end_92 ?_
                refine W.widen (k := 0) (n := 0) (by decide +kernel) (by decide +kernel) ?_
                exact W.iret (v := (nI (tp + nn))) hx hb hr (fun t9_ ht hW => ⟨⟨(nI (tp + nn)), ((tp + nn), x2_F9, x3_F77), rfl, by (try dsimp only); exact Or.inr ⟨rfl, by unfold EndO; omega, by omega⟩, by rw [ht]; exact hP, hD⟩, hS.F ht⟩) hS.2.2 dX12_end_95
              · have t_65 : ¬ ((k6 : Nat) : Int) ≥ 20 := toI_nge c_65 (nI_toInt (by omega)) (by decide)
                refine lv_aload_n hx hb dX12_end_68 rfl (lv_at hl 0 rfl) ?_
                refine va_get (D := (dC, dI)) (ci := 12) (v := .ref (a 77)) (C := RX12) (T := TX12) (N := 163) (fs := fM (vS a (fT vi 0 0) vj)) hx hb hts iwsRX12_end_in12 hown hK hP 0 rfl rfl 127 (by decide) (hts (.fieldLink RX12 254 "OptimaWorksModel" "ready" "[I") (by decide +kernel)) (fun _ h9 => h9) rfl dX12_end_69 ?_
                refine lv_iload_n hx hb dX12_end_72 rfl (lv_at hl 2 rfl) ?_
                refine lv_iconst (v := 0) hx hb dX12_end_73 (by decide) ?_
                refine va_iast (cA := k 77) (n := 20) (f := x3_F77) hx hb hK hP hD hS 78 77 (WR_get 77 (by decide)) (TR_get 77 (by decide)) (vp_in_nI (show k6 < 20 by omega) (by omega)) dX12_end_74 (fun H locs hP hD hS => ?_)
                have e9 : fT (fT vF 9 x2_F9) 77 (upd x3_F77 ((nI k6)).toNatClampNeg 0) = fT (fT (fT vF 9 x2_F9) 77 x3_F77) 77 (upd x3_F77 ((nI k6)).toNatClampNeg 0) := (fT_sm _ _ _ _).symm
                have hP : va_P (dC, dI) vwCl (WR a k h0 (fT vi 0 0) vj (fT (fT vF 9 x2_F9) 77 (upd x3_F77 ((nI k6)).toNatClampNeg 0)) vG) H := by rw [e9, ← WR_F 77 (by decide) _ rfl]; exact hP
                have hD : va_D A (WR a k h0 (fT vi 0 0) vj (fT (fT vF 9 x2_F9) 77 (upd x3_F77 ((nI k6)).toNatClampNeg 0)) vG) := by rw [e9, ← WR_F 77 (by decide) _ rfl]; exact hD
                clear e9
                refine lv_iinc (v := (nI (k6 + 1))) hx hb dX12_end_75 hl (k := 2) rfl (nI_add k6 1) (by decide) rfl (fun ls (hl : lv_has ls _ ([(2, .int (nI (k6 + 1))), (0, .ref h0), (1, .int (nI nn))])) => ?_)
                refine lv_goto (tgt := 62) hx hb dX12_end_78 (by decide) ?_
                have hl : lv_has _ _ ([(0, .ref h0), (1, .int (nI nn)), (2, .int (nI (k6 + 1)))]) := lv_sub hl [1, 2, 0] rfl
                exact ih62_1 (k6 + 1) (upd x3_F77 ((nI k6)).toNatClampNeg 0) _ _ _ (by omega) (by omega) hP hD hS hl
          · have t_33 : ¬ ((k5 : Nat) : Int) ≥ ((nn : Nat) : Int) := toI_nge c_33 (nI_toInt (by omega)) (nI_toInt (by omega))
            refine lv_aload_n hx hb dX12_end_36 rfl (lv_at hl 0 rfl) ?_
            refine va_get (D := (dC, dI)) (ci := 12) (v := .ref (a 9)) (C := RX12) (T := TX12) (N := 163) (fs := fM (vS a (fT vi 0 0) vj)) hx hb hts iwsRX12_end_in12 hown hK hP 0 rfl rfl 15 (by decide) (hts (.fieldLink RX12 39 "OptimaWorksModel" "tape" "[B") (by decide +kernel)) (fun _ h9 => h9) rfl dX12_end_37 ?_
            refine lv_aload_n hx hb dX12_end_40 rfl (lv_at hl 0 rfl) ?_
            refine va_get (D := (dC, dI)) (ci := 12) (v := .int (vi 16)) (C := RX12) (T := TX12) (N := 163) (fs := fM (vS a (fT vi 0 0) vj)) hx hb hts iwsRX12_end_in12 hown hK hP 0 rfl rfl 16 (by decide) (hts (.fieldLink RX12 468 "OptimaWorksModel" "taped" "I") (by decide +kernel)) (fun _ h9 => h9) rfl dX12_end_41 ?_
            refine lv_topi (fun y5 hy5 => ?_)
            obtain rfl : (nI tp) = y5 := (hy5.trans (hTp)).symm
            refine lv_iload_n hx hb dX12_end_44 rfl (lv_at hl 2 rfl) ?_
            refine lv_iadd hx hb dX12_end_45 ?_
            refine lv_topi (fun y6 hy6 => ?_)
            obtain rfl : (nI (tp + k5)) = y6 := (hy6.trans (nI_add tp k5)).symm
            refine lv_aload_n hx hb dX12_end_46 rfl (lv_at hl 0 rfl) ?_
            refine va_get (D := (dC, dI)) (ci := 12) (v := .ref (a 77)) (C := RX12) (T := TX12) (N := 163) (fs := fM (vS a (fT vi 0 0) vj)) hx hb hts iwsRX12_end_in12 hown hK hP 0 rfl rfl 127 (by decide) (hts (.fieldLink RX12 254 "OptimaWorksModel" "ready" "[I") (by decide +kernel)) (fun _ h9 => h9) rfl dX12_end_47 ?_
            refine lv_iload_n hx hb dX12_end_50 rfl (lv_at hl 2 rfl) ?_
            refine va_iald (cA := k 77) (n := 20) (f := (vF 77)) hx hb hK hP 78 77 (WR_get 77 (by decide)) (TR_get 77 (by decide)) (vp_in_nI (show k5 < 20 by omega) (by omega)) dX12_end_51 ?_
            refine lv_topi (fun y7 hy7 => ?_)
            obtain rfl : ((vF 77) k5) = y7 := (hy7.trans (by rw [nI_clamp (by omega)])).symm
            refine lv_i2b hx hb dX12_end_52 rfl ?_
            refine va_bast (cA := k 9) (n := 4000) (f := x2_F9) hx hb hK hP hD hS 10 9 (WR_get 9 (by decide)) (TR_get 9 (by decide)) (vp_in_nI (show (tp + k5) < 4000 by omega) (by omega)) dX12_end_53 (fun H locs hP hD hS => ?_)
            have e9 : fT vF 9 (upd x2_F9 ((nI (tp + k5))).toNatClampNeg (vp_nar FieldType.byte ((((vF 77) k5)).toInt8.toInt32))) = fT (fT vF 9 x2_F9) 9 (upd x2_F9 ((nI (tp + k5))).toNatClampNeg (vp_nar FieldType.byte ((((vF 77) k5)).toInt8.toInt32))) := (fT_sm _ _ _ _).symm
            have hP : va_P (dC, dI) vwCl (WR a k h0 (fT vi 0 0) vj (fT vF 9 (upd x2_F9 ((nI (tp + k5))).toNatClampNeg (vp_nar FieldType.byte ((((vF 77) k5)).toInt8.toInt32)))) vG) H := by rw [e9, ← WR_F 9 (by decide) _ rfl]; exact hP
            have hD : va_D A (WR a k h0 (fT vi 0 0) vj (fT vF 9 (upd x2_F9 ((nI (tp + k5))).toNatClampNeg (vp_nar FieldType.byte ((((vF 77) k5)).toInt8.toInt32)))) vG) := by rw [e9, ← WR_F 9 (by decide) _ rfl]; exact hD
            clear e9
            refine lv_iinc (v := (nI (k5 + 1))) hx hb dX12_end_54 hl (k := 2) rfl (nI_add k5 1) (by decide) rfl (fun ls (hl : lv_has ls _ ([(2, .int (nI (k5 + 1))), (0, .ref h0), (1, .int (nI nn))])) => ?_)
            refine lv_goto (tgt := 31) hx hb dX12_end_57 (by decide) ?_
            have hl : lv_has _ _ ([(0, .ref h0), (1, .int (nI nn)), (2, .int (nI (k5 + 1)))]) := lv_sub hl [1, 2, 0] rfl
            exact ih31 (k5 + 1) (upd x2_F9 ((nI (tp + k5))).toNatClampNeg (vp_nar FieldType.byte ((((vF 77) k5)).toInt8.toInt32))) _ _ _ (by omega) (by omega) hP hD hS hl
      · have t_24 : ¬ (((tp + nn) : Nat) : Int) ≤ 4000 := toI_nle c_24 (nI_toInt (by omega)) (by decide)
        refine lv_iconst (v := (-1)) hx hb dX12_end_27 (by decide) ?_
        refine W.widen (k := 0) (n := 0) (by decide +kernel) (by decide +kernel) ?_
        have e9 : fT (fT vi 0 0) 16 (nI tp) = fT vi 0 0 := by funext q9; by_cases h9_0 : q9 = 0; (subst h9_0; exact ((fT_ne _ _ (Nat.ne_of_beq_eq_false rfl)).trans (fT_eq _ _ _)).trans (Eq.trans (by first | rfl | assumption | (symm; assumption) | (subst_vars; rfl)) (fT_eq _ _ _).symm)); by_cases h9_16 : q9 = 16; (subst h9_16; exact (fT_eq _ _ _).trans (Eq.trans (by first | rfl | assumption | (symm; assumption) | (subst_vars; rfl)) (fT_ne _ _ (Nat.ne_of_beq_eq_false rfl)).symm)); exact ((fT_ne _ _ h9_16).trans (fT_ne _ _ h9_0)).trans (fT_ne _ _ h9_0).symm
        have hP : va_P (dC, dI) vwCl (WR a k h0 (fT (fT vi 0 0) 16 (nI tp)) vj vF vG) H := by rw [e9]; exact hP
        have hD : va_D A (WR a k h0 (fT (fT vi 0 0) 16 (nI tp)) vj vF vG) := by rw [e9]; exact hD
        clear e9
        have e9 : fT (fT vF 9 (vF 9)) 77 (vF 77) = vF := (fT_id _ _ (fT_ne _ _ (Nat.ne_of_beq_eq_false rfl))).trans (fT_id _ _ (rfl))
        have hP : va_P (dC, dI) vwCl (WR a k h0 (fT (fT vi 0 0) 16 (nI tp)) vj (fT (fT vF 9 (vF 9)) 77 (vF 77)) vG) H := by rw [e9]; exact hP
        have hD : va_D A (WR a k h0 (fT (fT vi 0 0) 16 (nI tp)) vj (fT (fT vF 9 (vF 9)) 77 (vF 77)) vG) := by rw [e9]; exact hD
        clear e9
        exact W.iret (v := (-1)) hx hb hr (fun t9_ ht hW => ⟨⟨(-1), (tp, (vF 9), (vF 77)), rfl, by (try dsimp only); exact Or.inl ⟨rfl, fun h9 => by unfold EndO at h9; omega, rfl⟩, by rw [ht]; exact hP, hD⟩, hS.F ht⟩) hS.2.2 dX12_end_28
theorem dX12_wipe_0 : decode cX12_wipe 0 = .ok (.aload_n 0, 1) := dk_42 (by decide +kernel)
theorem dX12_wipe_1 : decode cX12_wipe 1 = .ok (.iconst 0, 1) := dk_3 (by decide +kernel)
theorem dX12_wipe_2 : decode cX12_wipe 2 = .ok (.putfield 348, 3) := dk_181 (by decide +kernel)
theorem dX12_wipe_5 : decode cX12_wipe 5 = .ok (.aload_n 0, 1) := dk_42 (by decide +kernel)
theorem dX12_wipe_6 : decode cX12_wipe 6 = .ok (.iconst 0, 1) := dk_3 (by decide +kernel)
theorem dX12_wipe_7 : decode cX12_wipe 7 = .ok (.putfield 468, 3) := dk_181 (by decide +kernel)
theorem dX12_wipe_10 : decode cX12_wipe 10 = .ok (.return_, 1) := dk_177 (by decide +kernel)
def wsRX12_wipe : List Cond := .code yX12_wipe cX12_wipe 1 none :: ([.fieldLink RX12 348 "OptimaWorksModel" "thrown" "I", .fieldLink RX12 468 "OptimaWorksModel" "taped" "I"] ++ wsX120)
theorem iwsRX12_wipe_in12 : ∀ w ∈ wsX120, w ∈ wsRX12_wipe := fun _ h => List.mem_cons_of_mem _ (List.mem_append_right _ h)
theorem gdwsRX12_wipe : wsRX12_wipe.all goodWord = true := gdC rfl (gdA (by decide +kernel : ([.fieldLink RX12 348 "OptimaWorksModel" "thrown" "I", .fieldLink RX12 468 "OptimaWorksModel" "taped" "I"] : List Cond).all goodWord = true) gdwsX120)
set_option maxHeartbeats 4000000 in
set_option maxRecDepth 100000 in
/-- wipe() -/
theorem r_X12_wipe (l : Launch) (dC : Nat → ClassId) (dI : Nat → Nat → Nat) (a : Nat → Nat) (k : Nat → ClassId) (h0 : Nat) (vi : Nat → Int32) (vj : Nat → Int64) (vF : Nat → Nat → Int32) (vG : Nat → Nat → Int64) (sz : Nat) : Met l yX12_wipe wsRX12_wipe ({ frames := 0, cells := 0, slots := 0, locals := 0 }) (va_Pc [.ref h0] (fun U => U.heap.size = sz ∧ va_P (dC, dI) vwCl (WR a k h0 vi vj vF vG) U.heap ∧ va_K (dC, dI) vwCl (tX12 k) U ∧ va_D (fun _ => True) (WR a k h0 vi vj vF vG))) (va_Qv (fun (u : Unit) => True) (fun (u : Unit) t => va_P (dC, dI) vwCl (WR a k h0 (fT (fT vi 0 0) 16 0) vj vF vG) t.heap ∧ va_D (va_A (WR a k h0 vi vj vF vG) sz) (WR a k h0 (fT (fT vi 0 0) 16 0) vj vF vG)) (va_A (WR a k h0 vi vj vF vG) sz)) 0 0 (va_A (WR a k h0 vi vj vF vG) sz) := by
  refine Met.ofW (cc := cX12_wipe) (maxL := 1) (ret := none) (by decide) rfl ?_
  intro p e s m args below meth c s₁ B hml hv
  obtain ⟨rfl, hsz, hP, hK, hD0⟩ := hv
  have hx := B.exec
  have hb := B.bytes
  have hr := B.returns
  have hts := atoms_spec (ws := wsRX12_wipe) B.pre
  have hown : s.vm.findClass RX12 = some m.cls := findClass_of_methodNamed B.named
  have hlocks := B.notSynchronized
  subst hsz
  have hD := hD0.self (sz := s.heap.size)
  generalize hAe : va_A (WR a k h0 vi vj vF vG) s.heap.size = A at hD ⊢
  have hA : ∀ q : Nat, s.heap.size ≤ q → A q := fun q h => by rw [← hAe]; exact Or.inr h
  have hS : va_S A s.heap s.heap [] := va_S.rf
  have hl := lv_entry ([.ref h0]) (n := 1) (Nat.le_of_ble_eq_true rfl)
  rw [lg_entry_eq]
  generalize (lg_sl ([.ref h0]) ++ List.replicate (1 - (lg_sl ([.ref h0])).length) Slot.unset).toArray = ls at hl ⊢
  have hl : lv_has ls 1 [(0, .ref h0)] := hl
  refine lv_aload_n hx hb dX12_wipe_0 rfl (lv_at hl 0 rfl) ?_
  refine lv_iconst (v := 0) hx hb dX12_wipe_1 (by decide) ?_
  refine va_put (D := (dC, dI)) (ci := 12) (v := .int 0) (ty := .int) (C := RX12) (T := TX12) (N := 163) (fs := fM (vS a vi vj)) hx hb hts iwsRX12_wipe_in12 tyX12 tyX12_ok nmX12 hown hK hP hD hS 0 rfl rfl 0 (by decide) (hts (.fieldLink RX12 348 "OptimaWorksModel" "thrown" "I") (by decide +kernel)) (fun _ h9 => h9) rfl (by decide +kernel) rfl rfl (Nat.le_of_ble_eq_true rfl) dX12_wipe_2 (fun H locs hP hD hS => ?_)
  have hP : va_P (dC, dI) vwCl (WR a k h0 (fT vi 0 0) vj vF vG) H := by rw [← WR_i 0 _ rfl]; exact hP
  have hD : va_D A (WR a k h0 (fT vi 0 0) vj vF vG) := by rw [← WR_i 0 _ rfl]; exact hD
  refine lv_aload_n hx hb dX12_wipe_5 rfl (lv_at hl 0 rfl) ?_
  refine lv_iconst (v := 0) hx hb dX12_wipe_6 (by decide) ?_
  refine va_put (D := (dC, dI)) (ci := 12) (v := .int 0) (ty := .int) (C := RX12) (T := TX12) (N := 163) (fs := fM (vS a (fT vi 0 0) vj)) hx hb hts iwsRX12_wipe_in12 tyX12 tyX12_ok nmX12 hown hK hP hD hS 0 rfl rfl 16 (by decide) (hts (.fieldLink RX12 468 "OptimaWorksModel" "taped" "I") (by decide +kernel)) (fun _ h9 => h9) rfl (by decide +kernel) rfl rfl (Nat.le_of_ble_eq_true rfl) dX12_wipe_7 (fun H locs hP hD hS => ?_)
  have hP : va_P (dC, dI) vwCl (WR a k h0 (fT (fT vi 0 0) 16 0) vj vF vG) H := by rw [← WR_i 16 _ rfl]; exact hP
  have hD : va_D A (WR a k h0 (fT (fT vi 0 0) 16 0) vj vF vG) := by rw [← WR_i 16 _ rfl]; exact hD
  refine W.widen (k := 0) (n := 0) (by decide +kernel) (by decide +kernel) ?_
  exact W.vret hx hb hr (fun t9_ ht hW => ⟨⟨(), rfl, trivial, by rw [ht]; exact hP, hD⟩, hS.F ht⟩) hS.2.2 dX12_wipe_10
theorem dX12_fault_0 : decode cX12_fault 0 = .ok (.aload_n 0, 1) := dk_42 (by decide +kernel)
theorem dX12_fault_1 : decode cX12_fault 1 = .ok (.iconst 0, 1) := dk_3 (by decide +kernel)
theorem dX12_fault_2 : decode cX12_fault 2 = .ok (.putfield 348, 3) := dk_181 (by decide +kernel)
theorem dX12_fault_5 : decode cX12_fault 5 = .ok (.iload_n 1, 1) := dk_27 (by decide +kernel)
theorem dX12_fault_6 : decode cX12_fault 6 = .ok (.ifCond .ne 10, 3) := dk_154 (by decide +kernel)
theorem dX12_fault_9 : decode cX12_fault 9 = .ok (.aload_n 0, 1) := dk_42 (by decide +kernel)
theorem dX12_fault_10 : decode cX12_fault 10 = .ok (.getfield 820, 3) := dk_180 (by decide +kernel)
theorem dX12_fault_13 : decode cX12_fault 13 = .ok (.goto 16, 3) := dk_167 (by decide +kernel)
theorem dX12_fault_16 : decode cX12_fault 16 = .ok (.iload_n 1, 1) := dk_27 (by decide +kernel)
theorem dX12_fault_17 : decode cX12_fault 17 = .ok (.iconst 1, 1) := dk_4 (by decide +kernel)
theorem dX12_fault_18 : decode cX12_fault 18 = .ok (.if_icmp .ne 10, 3) := dk_160 (by decide +kernel)
theorem dX12_fault_21 : decode cX12_fault 21 = .ok (.aload_n 0, 1) := dk_42 (by decide +kernel)
theorem dX12_fault_22 : decode cX12_fault 22 = .ok (.getfield 47, 3) := dk_180 (by decide +kernel)
theorem dX12_fault_25 : decode cX12_fault 25 = .ok (.goto 4, 3) := dk_167 (by decide +kernel)
theorem dX12_fault_28 : decode cX12_fault 28 = .ok (.iconst (-1), 1) := dk_2 (by decide +kernel)
theorem dX12_fault_29 : decode cX12_fault 29 = .ok (.ireturn, 1) := dk_172 (by decide +kernel)
def wsRX12_fault : List Cond := .code yX12_fault cX12_fault 2 (some .int) :: ([.fieldLink RX12 348 "OptimaWorksModel" "thrown" "I", .fieldLink RX12 47 "OptimaWorksModel" "latestPlace" "I", .fieldLink RX12 820 "OptimaWorksModel" "latest" "I"] ++ wsX120)
theorem iwsRX12_fault_in12 : ∀ w ∈ wsX120, w ∈ wsRX12_fault := fun _ h => List.mem_cons_of_mem _ (List.mem_append_right _ h)
theorem gdwsRX12_fault : wsRX12_fault.all goodWord = true := gdC rfl (gdA (by decide +kernel : ([.fieldLink RX12 348 "OptimaWorksModel" "thrown" "I", .fieldLink RX12 47 "OptimaWorksModel" "latestPlace" "I", .fieldLink RX12 820 "OptimaWorksModel" "latest" "I"] : List Cond).all goodWord = true) gdwsX120)
set_option maxHeartbeats 4000000 in
set_option maxRecDepth 100000 in
/-- fault(what) -/
theorem r_X12_fault (l : Launch) (dC : Nat → ClassId) (dI : Nat → Nat → Nat) (a : Nat → Nat) (k : Nat → ClassId) (h0 : Nat) (vi : Nat → Int32) (vj : Nat → Int64) (vF : Nat → Nat → Int32) (vG : Nat → Nat → Int64) (wI : Int32) (sz : Nat) : Met l yX12_fault wsRX12_fault ({ frames := 0, cells := 0, slots := 0, locals := 0 }) (va_Pc [.ref h0, .int wI] (fun U => U.heap.size = sz ∧ va_P (dC, dI) vwCl (WR a k h0 vi vj vF vG) U.heap ∧ va_K (dC, dI) vwCl (tX12 k) U ∧ va_D (fun _ => True) (WR a k h0 vi vj vF vG))) (va_Qi (fun (r : Int32) (u : Unit) => True) (fun (u : Unit) t => va_P (dC, dI) vwCl (WR a k h0 (fT vi 0 0) vj vF vG) t.heap ∧ va_D (va_A (WR a k h0 vi vj vF vG) sz) (WR a k h0 (fT vi 0 0) vj vF vG)) (va_A (WR a k h0 vi vj vF vG) sz)) 0 0 (va_A (WR a k h0 vi vj vF vG) sz) := by
  refine Met.ofW (cc := cX12_fault) (maxL := 2) (ret := (some .int)) (by decide) rfl ?_
  intro p e s m args below meth c s₁ B hml hv
  obtain ⟨rfl, hsz, hP, hK, hD0⟩ := hv
  have hx := B.exec
  have hb := B.bytes
  have hr := B.returns
  have hts := atoms_spec (ws := wsRX12_fault) B.pre
  have hown : s.vm.findClass RX12 = some m.cls := findClass_of_methodNamed B.named
  have hlocks := B.notSynchronized
  subst hsz
  have hD := hD0.self (sz := s.heap.size)
  generalize hAe : va_A (WR a k h0 vi vj vF vG) s.heap.size = A at hD ⊢
  have hA : ∀ q : Nat, s.heap.size ≤ q → A q := fun q h => by rw [← hAe]; exact Or.inr h
  have hS : va_S A s.heap s.heap [] := va_S.rf
  have hl := lv_entry ([.ref h0, .int wI]) (n := 2) (Nat.le_of_ble_eq_true rfl)
  rw [lg_entry_eq]
  generalize (lg_sl ([.ref h0, .int wI]) ++ List.replicate (2 - (lg_sl ([.ref h0, .int wI])).length) Slot.unset).toArray = ls at hl ⊢
  have hl : lv_has ls 2 [(0, .ref h0), (1, .int wI)] := hl
  refine lv_aload_n hx hb dX12_fault_0 rfl (lv_at hl 0 rfl) ?_
  refine lv_iconst (v := 0) hx hb dX12_fault_1 (by decide) ?_
  refine va_put (D := (dC, dI)) (ci := 12) (v := .int 0) (ty := .int) (C := RX12) (T := TX12) (N := 163) (fs := fM (vS a vi vj)) hx hb hts iwsRX12_fault_in12 tyX12 tyX12_ok nmX12 hown hK hP hD hS 0 rfl rfl 0 (by decide) (hts (.fieldLink RX12 348 "OptimaWorksModel" "thrown" "I") (by decide +kernel)) (fun _ h9 => h9) rfl (by decide +kernel) rfl rfl (Nat.le_of_ble_eq_true rfl) dX12_fault_2 (fun H locs hP hD hS => ?_)
  have hP : va_P (dC, dI) vwCl (WR a k h0 (fT vi 0 0) vj vF vG) H := by rw [← WR_i 0 _ rfl]; exact hP
  have hD : va_D A (WR a k h0 (fT vi 0 0) vj vF vG) := by rw [← WR_i 0 _ rfl]; exact hD
  refine lv_iload_n hx hb dX12_fault_5 rfl (lv_at hl 1 rfl) ?_
  refine lv_if_ne (tgt := 16) hx hb dX12_fault_6 (by decide) (fun c_6 => ?_) (fun c_6 => ?_)
  · have t_6 : (wI).toInt ≠ 0 := toI_ne c_6 rfl (by decide)
    refine lv_iload_n hx hb dX12_fault_16 rfl (lv_at hl 1 rfl) ?_
    refine lv_iconst (v := 1) hx hb dX12_fault_17 (by decide) ?_
    refine lv_icmp_ne (tgt := 28) hx hb dX12_fault_18 (by decide) (fun c_18 => ?_) (fun c_18 => ?_)
    · have t_18 : (wI).toInt ≠ 1 := toI_ne c_18 rfl (by decide)
      refine lv_iconst (v := (-1)) hx hb dX12_fault_28 (by decide) ?_
      refine W.widen (k := 0) (n := 0) (by decide +kernel) (by decide +kernel) ?_
      exact W.iret (v := (-1)) hx hb hr (fun t9_ ht hW => ⟨⟨(-1), (), rfl, trivial, by rw [ht]; exact hP, hD⟩, hS.F ht⟩) hS.2.2 dX12_fault_29
    · have t_18 : (wI).toInt = 1 := toI_nne c_18 rfl (by decide)
      refine lv_aload_n hx hb dX12_fault_21 rfl (lv_at hl 0 rfl) ?_
      refine va_get (D := (dC, dI)) (ci := 12) (v := .int (vi 24)) (C := RX12) (T := TX12) (N := 163) (fs := fM (vS a (fT vi 0 0) vj)) hx hb hts iwsRX12_fault_in12 hown hK hP 0 rfl rfl 24 (by decide) (hts (.fieldLink RX12 47 "OptimaWorksModel" "latestPlace" "I") (by decide +kernel)) (fun _ h9 => h9) rfl dX12_fault_22 ?_
      refine lv_goto (tgt := 29) hx hb dX12_fault_25 (by decide) ?_
      refine W.widen (k := 0) (n := 0) (by decide +kernel) (by decide +kernel) ?_
      exact W.iret (v := (vi 24)) hx hb hr (fun t9_ ht hW => ⟨⟨(vi 24), (), rfl, trivial, by rw [ht]; exact hP, hD⟩, hS.F ht⟩) hS.2.2 dX12_fault_29
  · have t_6 : (wI).toInt = 0 := toI_nne c_6 rfl (by decide)
    refine lv_aload_n hx hb dX12_fault_9 rfl (lv_at hl 0 rfl) ?_
    refine va_get (D := (dC, dI)) (ci := 12) (v := .int (vi 23)) (C := RX12) (T := TX12) (N := 163) (fs := fM (vS a (fT vi 0 0) vj)) hx hb hts iwsRX12_fault_in12 hown hK hP 0 rfl rfl 23 (by decide) (hts (.fieldLink RX12 820 "OptimaWorksModel" "latest" "I") (by decide +kernel)) (fun _ h9 => h9) rfl dX12_fault_10 ?_
    refine lv_goto (tgt := 29) hx hb dX12_fault_13 (by decide) ?_
    refine W.widen (k := 0) (n := 0) (by decide +kernel) (by decide +kernel) ?_
    exact W.iret (v := (vi 23)) hx hb hr (fun t9_ ht hW => ⟨⟨(vi 23), (), rfl, trivial, by rw [ht]; exact hP, hD⟩, hS.F ht⟩) hS.2.2 dX12_fault_29
theorem dX12_variable_0 : decode cX12_variable 0 = .ok (.aload_n 0, 1) := dk_42 (by decide +kernel)
theorem dX12_variable_1 : decode cX12_variable 1 = .ok (.iload_n 1, 1) := dk_27 (by decide +kernel)
theorem dX12_variable_2 : decode cX12_variable 2 = .ok (.ifCond .lt 15, 3) := dk_155 (by decide +kernel)
theorem dX12_variable_5 : decode cX12_variable 5 = .ok (.iload_n 1, 1) := dk_27 (by decide +kernel)
theorem dX12_variable_6 : decode cX12_variable 6 = .ok (.aload_n 0, 1) := dk_42 (by decide +kernel)
theorem dX12_variable_7 : decode cX12_variable 7 = .ok (.getfield 774, 3) := dk_180 (by decide +kernel)
theorem dX12_variable_10 : decode cX12_variable 10 = .ok (.if_icmp .ge 7, 3) := dk_162 (by decide +kernel)
theorem dX12_variable_13 : decode cX12_variable 13 = .ok (.iconst 0, 1) := dk_3 (by decide +kernel)
theorem dX12_variable_14 : decode cX12_variable 14 = .ok (.goto 4, 3) := dk_167 (by decide +kernel)
theorem dX12_variable_17 : decode cX12_variable 17 = .ok (.iconst 1, 1) := dk_4 (by decide +kernel)
theorem dX12_variable_18 : decode cX12_variable 18 = .ok (.putfield 348, 3) := dk_181 (by decide +kernel)
theorem dX12_variable_21 : decode cX12_variable 21 = .ok (.aload_n 0, 1) := dk_42 (by decide +kernel)
theorem dX12_variable_22 : decode cX12_variable 22 = .ok (.getfield 348, 3) := dk_180 (by decide +kernel)
theorem dX12_variable_25 : decode cX12_variable 25 = .ok (.ifCond .le 5, 3) := dk_158 (by decide +kernel)
theorem dX12_variable_28 : decode cX12_variable 28 = .ok (.iconst 0, 1) := dk_3 (by decide +kernel)
theorem dX12_variable_29 : decode cX12_variable 29 = .ok (.ireturn, 1) := dk_172 (by decide +kernel)
theorem dX12_variable_30 : decode cX12_variable 30 = .ok (.iload_n 2, 1) := dk_28 (by decide +kernel)
theorem dX12_variable_31 : decode cX12_variable 31 = .ok (.ifCond .ne 12, 3) := dk_154 (by decide +kernel)
theorem dX12_variable_34 : decode cX12_variable 34 = .ok (.aload_n 0, 1) := dk_42 (by decide +kernel)
theorem dX12_variable_35 : decode cX12_variable 35 = .ok (.getfield 191, 3) := dk_180 (by decide +kernel)
theorem dX12_variable_38 : decode cX12_variable 38 = .ok (.iload_n 1, 1) := dk_27 (by decide +kernel)
theorem dX12_variable_39 : decode cX12_variable 39 = .ok (.iaload, 1) := dk_46 (by decide +kernel)
theorem dX12_variable_40 : decode cX12_variable 40 = .ok (.goto 32, 3) := dk_167 (by decide +kernel)
theorem dX12_variable_43 : decode cX12_variable 43 = .ok (.iload_n 2, 1) := dk_28 (by decide +kernel)
theorem dX12_variable_44 : decode cX12_variable 44 = .ok (.iconst 1, 1) := dk_4 (by decide +kernel)
theorem dX12_variable_45 : decode cX12_variable 45 = .ok (.if_icmp .ne 12, 3) := dk_160 (by decide +kernel)
theorem dX12_variable_48 : decode cX12_variable 48 = .ok (.aload_n 0, 1) := dk_42 (by decide +kernel)
theorem dX12_variable_49 : decode cX12_variable 49 = .ok (.getfield 194, 3) := dk_180 (by decide +kernel)
theorem dX12_variable_52 : decode cX12_variable 52 = .ok (.iload_n 1, 1) := dk_27 (by decide +kernel)
theorem dX12_variable_53 : decode cX12_variable 53 = .ok (.iaload, 1) := dk_46 (by decide +kernel)
theorem dX12_variable_54 : decode cX12_variable 54 = .ok (.goto 18, 3) := dk_167 (by decide +kernel)
theorem dX12_variable_57 : decode cX12_variable 57 = .ok (.iload_n 2, 1) := dk_28 (by decide +kernel)
theorem dX12_variable_58 : decode cX12_variable 58 = .ok (.iconst 2, 1) := dk_5 (by decide +kernel)
theorem dX12_variable_59 : decode cX12_variable 59 = .ok (.if_icmp .ne 12, 3) := dk_160 (by decide +kernel)
theorem dX12_variable_62 : decode cX12_variable 62 = .ok (.aload_n 0, 1) := dk_42 (by decide +kernel)
theorem dX12_variable_63 : decode cX12_variable 63 = .ok (.getfield 197, 3) := dk_180 (by decide +kernel)
theorem dX12_variable_66 : decode cX12_variable 66 = .ok (.iload_n 1, 1) := dk_27 (by decide +kernel)
theorem dX12_variable_67 : decode cX12_variable 67 = .ok (.iaload, 1) := dk_46 (by decide +kernel)
theorem dX12_variable_68 : decode cX12_variable 68 = .ok (.goto 4, 3) := dk_167 (by decide +kernel)
theorem dX12_variable_71 : decode cX12_variable 71 = .ok (.iconst (-1), 1) := dk_2 (by decide +kernel)
theorem dX12_variable_72 : decode cX12_variable 72 = .ok (.ireturn, 1) := dk_172 (by decide +kernel)
def wsRX12_variable : List Cond := .code yX12_variable cX12_variable 3 (some .int) :: ([.fieldLink RX12 348 "OptimaWorksModel" "thrown" "I", .fieldLink RX12 774 "OptimaWorksModel" "variables" "I", .fieldLink RX12 197 "OptimaWorksModel" "whole" "[I", .fieldLink RX12 194 "OptimaWorksModel" "high" "[I", .fieldLink RX12 191 "OptimaWorksModel" "low" "[I"] ++ wsX120)
theorem iwsRX12_variable_in12 : ∀ w ∈ wsX120, w ∈ wsRX12_variable := fun _ h => List.mem_cons_of_mem _ (List.mem_append_right _ h)
theorem gdwsRX12_variable : wsRX12_variable.all goodWord = true := gdC rfl (gdA (by decide +kernel : ([.fieldLink RX12 348 "OptimaWorksModel" "thrown" "I", .fieldLink RX12 774 "OptimaWorksModel" "variables" "I", .fieldLink RX12 197 "OptimaWorksModel" "whole" "[I", .fieldLink RX12 194 "OptimaWorksModel" "high" "[I", .fieldLink RX12 191 "OptimaWorksModel" "low" "[I"] : List Cond).all goodWord = true) gdwsX120)
set_option maxHeartbeats 4000000 in
set_option maxRecDepth 100000 in
/-- variable(k, what) -/
theorem r_X12_variable (l : Launch) (dC : Nat → ClassId) (dI : Nat → Nat → Nat) (a : Nat → Nat) (k : Nat → ClassId) (h0 : Nat) (vi : Nat → Int32) (vj : Nat → Int64) (vF : Nat → Nat → Int32) (vG : Nat → Nat → Int64) (kI : Int32) (wI : Int32) (vn : Nat) (hvn : vi 90 = nI vn) (hvn8 : vn ≤ 8) (sz : Nat) : Met l yX12_variable wsRX12_variable ({ frames := 0, cells := 0, slots := 0, locals := 0 }) (va_Pc [.ref h0, .int kI, .int wI] (fun U => U.heap.size = sz ∧ va_P (dC, dI) vwCl (WR a k h0 vi vj vF vG) U.heap ∧ va_K (dC, dI) vwCl (tX12 k) U ∧ va_D (fun _ => True) (WR a k h0 vi vj vF vG))) (va_Qi (fun (r : Int32) (u : Int32) => True) (fun (u : Int32) t => va_P (dC, dI) vwCl (WR a k h0 (fT vi 0 u) vj vF vG) t.heap ∧ va_D (va_A (WR a k h0 vi vj vF vG) sz) (WR a k h0 (fT vi 0 u) vj vF vG)) (va_A (WR a k h0 vi vj vF vG) sz)) 0 0 (va_A (WR a k h0 vi vj vF vG) sz) := by
  refine Met.ofW (cc := cX12_variable) (maxL := 3) (ret := (some .int)) (by decide) rfl ?_
  intro p e s m args below meth c s₁ B hml hv
  obtain ⟨rfl, hsz, hP, hK, hD0⟩ := hv
  have hx := B.exec
  have hb := B.bytes
  have hr := B.returns
  have hts := atoms_spec (ws := wsRX12_variable) B.pre
  have hown : s.vm.findClass RX12 = some m.cls := findClass_of_methodNamed B.named
  have hlocks := B.notSynchronized
  subst hsz
  have hD := hD0.self (sz := s.heap.size)
  generalize hAe : va_A (WR a k h0 vi vj vF vG) s.heap.size = A at hD ⊢
  have hA : ∀ q : Nat, s.heap.size ≤ q → A q := fun q h => by rw [← hAe]; exact Or.inr h
  have hS : va_S A s.heap s.heap [] := va_S.rf
  have hl := lv_entry ([.ref h0, .int kI, .int wI]) (n := 3) (Nat.le_of_ble_eq_true rfl)
  rw [lg_entry_eq]
  generalize (lg_sl ([.ref h0, .int kI, .int wI]) ++ List.replicate (3 - (lg_sl ([.ref h0, .int kI, .int wI])).length) Slot.unset).toArray = ls at hl ⊢
  have hl : lv_has ls 3 [(0, .ref h0), (1, .int kI), (2, .int wI)] := hl
  refine lv_aload_n hx hb dX12_variable_0 rfl (lv_at hl 0 rfl) ?_
  refine lv_iload_n hx hb dX12_variable_1 rfl (lv_at hl 1 rfl) ?_
  refine lv_if_lt (tgt := 17) hx hb dX12_variable_2 (by decide) (fun c_2 => ?_) (fun c_2 => ?_)
  · have t_2 : (kI).toInt < 0 := toI_lt c_2 rfl (by decide)
    refine lv_iconst (v := 1) hx hb dX12_variable_17 (by decide) ?_
    refine va_put (D := (dC, dI)) (ci := 12) (v := .int 1) (ty := .int) (C := RX12) (T := TX12) (N := 163) (fs := fM (vS a vi vj)) hx hb hts iwsRX12_variable_in12 tyX12 tyX12_ok nmX12 hown hK hP hD hS 0 rfl rfl 0 (by decide) (hts (.fieldLink RX12 348 "OptimaWorksModel" "thrown" "I") (by decide +kernel)) (fun _ h9 => h9) rfl (by decide +kernel) rfl rfl (Nat.le_of_ble_eq_true rfl) dX12_variable_18 (fun H locs hP hD hS => ?_)
    have hP : va_P (dC, dI) vwCl (WR a k h0 (fT vi 0 1) vj vF vG) H := by rw [← WR_i 0 _ rfl]; exact hP
    have hD : va_D A (WR a k h0 (fT vi 0 1) vj vF vG) := by rw [← WR_i 0 _ rfl]; exact hD
    refine lv_aload_n hx hb dX12_variable_21 rfl (lv_at hl 0 rfl) ?_
    refine va_get (D := (dC, dI)) (ci := 12) (v := .int 1) (C := RX12) (T := TX12) (N := 163) (fs := fM (vS a (fT vi 0 1) vj)) hx hb hts iwsRX12_variable_in12 hown hK hP 0 rfl rfl 0 (by decide) (hts (.fieldLink RX12 348 "OptimaWorksModel" "thrown" "I") (by decide +kernel)) (fun _ h9 => h9) rfl dX12_variable_22 ?_
    refine lv_if_le (tgt := 30) hx hb dX12_variable_25 (by decide) (fun c9 => absurd c9 (by decide)) (fun _ => ?_)
    refine lv_iconst (v := 0) hx hb dX12_variable_28 (by decide) ?_
    refine W.widen (k := 0) (n := 0) (by decide +kernel) (by decide +kernel) ?_
    exact W.iret (v := 0) hx hb hr (fun t9_ ht hW => ⟨⟨0, 1, rfl, trivial, by rw [ht]; exact hP, hD⟩, hS.F ht⟩) hS.2.2 dX12_variable_29
  · have t_2 : ¬ (kI).toInt < 0 := toI_nlt c_2 rfl (by decide)
    refine lv_iload_n hx hb dX12_variable_5 rfl (lv_at hl 1 rfl) ?_
    refine lv_aload_n hx hb dX12_variable_6 rfl (lv_at hl 0 rfl) ?_
    refine va_get (D := (dC, dI)) (ci := 12) (v := .int (vi 90)) (C := RX12) (T := TX12) (N := 163) (fs := fM (vS a vi vj)) hx hb hts iwsRX12_variable_in12 hown hK hP 0 rfl rfl 90 (by decide) (hts (.fieldLink RX12 774 "OptimaWorksModel" "variables" "I") (by decide +kernel)) (fun _ h9 => h9) rfl dX12_variable_7 ?_
    refine lv_topi (fun y1 hy1 => ?_)
    obtain rfl : (nI vn) = y1 := (hy1.trans (hvn)).symm
    refine lv_icmp_ge (tgt := 17) hx hb dX12_variable_10 (by decide) (fun c_10 => ?_) (fun c_10 => ?_)
    · have t_10 : (kI).toInt ≥ ((vn : Nat) : Int) := toI_ge c_10 rfl (nI_toInt (by omega))
      refine lv_iconst (v := 1) hx hb dX12_variable_17 (by decide) ?_
      refine va_put (D := (dC, dI)) (ci := 12) (v := .int 1) (ty := .int) (C := RX12) (T := TX12) (N := 163) (fs := fM (vS a vi vj)) hx hb hts iwsRX12_variable_in12 tyX12 tyX12_ok nmX12 hown hK hP hD hS 0 rfl rfl 0 (by decide) (hts (.fieldLink RX12 348 "OptimaWorksModel" "thrown" "I") (by decide +kernel)) (fun _ h9 => h9) rfl (by decide +kernel) rfl rfl (Nat.le_of_ble_eq_true rfl) dX12_variable_18 (fun H locs hP hD hS => ?_)
      have hP : va_P (dC, dI) vwCl (WR a k h0 (fT vi 0 1) vj vF vG) H := by rw [← WR_i 0 _ rfl]; exact hP
      have hD : va_D A (WR a k h0 (fT vi 0 1) vj vF vG) := by rw [← WR_i 0 _ rfl]; exact hD
      refine lv_aload_n hx hb dX12_variable_21 rfl (lv_at hl 0 rfl) ?_
      refine va_get (D := (dC, dI)) (ci := 12) (v := .int 1) (C := RX12) (T := TX12) (N := 163) (fs := fM (vS a (fT vi 0 1) vj)) hx hb hts iwsRX12_variable_in12 hown hK hP 0 rfl rfl 0 (by decide) (hts (.fieldLink RX12 348 "OptimaWorksModel" "thrown" "I") (by decide +kernel)) (fun _ h9 => h9) rfl dX12_variable_22 ?_
      refine lv_if_le (tgt := 30) hx hb dX12_variable_25 (by decide) (fun c9 => absurd c9 (by decide)) (fun _ => ?_)
      refine lv_iconst (v := 0) hx hb dX12_variable_28 (by decide) ?_
      refine W.widen (k := 0) (n := 0) (by decide +kernel) (by decide +kernel) ?_
      exact W.iret (v := 0) hx hb hr (fun t9_ ht hW => ⟨⟨0, 1, rfl, trivial, by rw [ht]; exact hP, hD⟩, hS.F ht⟩) hS.2.2 dX12_variable_29
    · have t_10 : ¬ (kI).toInt ≥ ((vn : Nat) : Int) := toI_nge c_10 rfl (nI_toInt (by omega))
      refine lv_iconst (v := 0) hx hb dX12_variable_13 (by decide) ?_
      refine lv_goto (tgt := 18) hx hb dX12_variable_14 (by decide) ?_
      refine va_put (D := (dC, dI)) (ci := 12) (v := .int 0) (ty := .int) (C := RX12) (T := TX12) (N := 163) (fs := fM (vS a vi vj)) hx hb hts iwsRX12_variable_in12 tyX12 tyX12_ok nmX12 hown hK hP hD hS 0 rfl rfl 0 (by decide) (hts (.fieldLink RX12 348 "OptimaWorksModel" "thrown" "I") (by decide +kernel)) (fun _ h9 => h9) rfl (by decide +kernel) rfl rfl (Nat.le_of_ble_eq_true rfl) dX12_variable_18 (fun H locs hP hD hS => ?_)
      have hP : va_P (dC, dI) vwCl (WR a k h0 (fT vi 0 0) vj vF vG) H := by rw [← WR_i 0 _ rfl]; exact hP
      have hD : va_D A (WR a k h0 (fT vi 0 0) vj vF vG) := by rw [← WR_i 0 _ rfl]; exact hD
      refine lv_aload_n hx hb dX12_variable_21 rfl (lv_at hl 0 rfl) ?_
      refine va_get (D := (dC, dI)) (ci := 12) (v := .int 0) (C := RX12) (T := TX12) (N := 163) (fs := fM (vS a (fT vi 0 0) vj)) hx hb hts iwsRX12_variable_in12 hown hK hP 0 rfl rfl 0 (by decide) (hts (.fieldLink RX12 348 "OptimaWorksModel" "thrown" "I") (by decide +kernel)) (fun _ h9 => h9) rfl dX12_variable_22 ?_
      refine lv_if_le (tgt := 30) hx hb dX12_variable_25 (by decide) (fun _ => ?_) (fun c9 => absurd (by decide) c9)
      refine lv_iload_n hx hb dX12_variable_30 rfl (lv_at hl 2 rfl) ?_
      refine lv_if_ne (tgt := 43) hx hb dX12_variable_31 (by decide) (fun c_31 => ?_) (fun c_31 => ?_)
      · have t_31 : (wI).toInt ≠ 0 := toI_ne c_31 rfl (by decide)
        refine lv_iload_n hx hb dX12_variable_43 rfl (lv_at hl 2 rfl) ?_
        refine lv_iconst (v := 1) hx hb dX12_variable_44 (by decide) ?_
        refine lv_icmp_ne (tgt := 57) hx hb dX12_variable_45 (by decide) (fun c_45 => ?_) (fun c_45 => ?_)
        · have t_45 : (wI).toInt ≠ 1 := toI_ne c_45 rfl (by decide)
          refine lv_iload_n hx hb dX12_variable_57 rfl (lv_at hl 2 rfl) ?_
          refine lv_iconst (v := 2) hx hb dX12_variable_58 (by decide) ?_
          refine lv_icmp_ne (tgt := 71) hx hb dX12_variable_59 (by decide) (fun c_59 => ?_) (fun c_59 => ?_)
          · have t_59 : (wI).toInt ≠ 2 := toI_ne c_59 rfl (by decide)
            refine lv_iconst (v := (-1)) hx hb dX12_variable_71 (by decide) ?_
            refine W.widen (k := 0) (n := 0) (by decide +kernel) (by decide +kernel) ?_
            exact W.iret (v := (-1)) hx hb hr (fun t9_ ht hW => ⟨⟨(-1), 0, rfl, trivial, by rw [ht]; exact hP, hD⟩, hS.F ht⟩) hS.2.2 dX12_variable_72
          · have t_59 : (wI).toInt = 2 := toI_nne c_59 rfl (by decide)
            refine lv_aload_n hx hb dX12_variable_62 rfl (lv_at hl 0 rfl) ?_
            refine va_get (D := (dC, dI)) (ci := 12) (v := .ref (a 58)) (C := RX12) (T := TX12) (N := 163) (fs := fM (vS a (fT vi 0 0) vj)) hx hb hts iwsRX12_variable_in12 hown hK hP 0 rfl rfl 98 (by decide) (hts (.fieldLink RX12 197 "OptimaWorksModel" "whole" "[I") (by decide +kernel)) (fun _ h9 => h9) rfl dX12_variable_63 ?_
            refine lv_iload_n hx hb dX12_variable_66 rfl (lv_at hl 1 rfl) ?_
            refine va_iald (cA := k 58) (n := 9) (f := (vF 58)) hx hb hK hP 59 58 (WR_get 58 (by decide)) (TR_get 58 (by decide)) (vp_in_iff.mpr (by omega)) dX12_variable_67 ?_
            refine lv_goto (tgt := 72) hx hb dX12_variable_68 (by decide) ?_
            refine W.widen (k := 0) (n := 0) (by decide +kernel) (by decide +kernel) ?_
            exact W.iret (v := ((vF 58) (kI).toNatClampNeg)) hx hb hr (fun t9_ ht hW => ⟨⟨((vF 58) (kI).toNatClampNeg), 0, rfl, trivial, by rw [ht]; exact hP, hD⟩, hS.F ht⟩) hS.2.2 dX12_variable_72
        · have t_45 : (wI).toInt = 1 := toI_nne c_45 rfl (by decide)
          refine lv_aload_n hx hb dX12_variable_48 rfl (lv_at hl 0 rfl) ?_
          refine va_get (D := (dC, dI)) (ci := 12) (v := .ref (a 57)) (C := RX12) (T := TX12) (N := 163) (fs := fM (vS a (fT vi 0 0) vj)) hx hb hts iwsRX12_variable_in12 hown hK hP 0 rfl rfl 97 (by decide) (hts (.fieldLink RX12 194 "OptimaWorksModel" "high" "[I") (by decide +kernel)) (fun _ h9 => h9) rfl dX12_variable_49 ?_
          refine lv_iload_n hx hb dX12_variable_52 rfl (lv_at hl 1 rfl) ?_
          refine va_iald (cA := k 57) (n := 9) (f := (vF 57)) hx hb hK hP 58 57 (WR_get 57 (by decide)) (TR_get 57 (by decide)) (vp_in_iff.mpr (by omega)) dX12_variable_53 ?_
          refine lv_goto (tgt := 72) hx hb dX12_variable_54 (by decide) ?_
          refine W.widen (k := 0) (n := 0) (by decide +kernel) (by decide +kernel) ?_
          exact W.iret (v := ((vF 57) (kI).toNatClampNeg)) hx hb hr (fun t9_ ht hW => ⟨⟨((vF 57) (kI).toNatClampNeg), 0, rfl, trivial, by rw [ht]; exact hP, hD⟩, hS.F ht⟩) hS.2.2 dX12_variable_72
      · have t_31 : (wI).toInt = 0 := toI_nne c_31 rfl (by decide)
        refine lv_aload_n hx hb dX12_variable_34 rfl (lv_at hl 0 rfl) ?_
        refine va_get (D := (dC, dI)) (ci := 12) (v := .ref (a 56)) (C := RX12) (T := TX12) (N := 163) (fs := fM (vS a (fT vi 0 0) vj)) hx hb hts iwsRX12_variable_in12 hown hK hP 0 rfl rfl 96 (by decide) (hts (.fieldLink RX12 191 "OptimaWorksModel" "low" "[I") (by decide +kernel)) (fun _ h9 => h9) rfl dX12_variable_35 ?_
        refine lv_iload_n hx hb dX12_variable_38 rfl (lv_at hl 1 rfl) ?_
        refine va_iald (cA := k 56) (n := 9) (f := (vF 56)) hx hb hK hP 57 56 (WR_get 56 (by decide)) (TR_get 56 (by decide)) (vp_in_iff.mpr (by omega)) dX12_variable_39 ?_
        refine lv_goto (tgt := 72) hx hb dX12_variable_40 (by decide) ?_
        refine W.widen (k := 0) (n := 0) (by decide +kernel) (by decide +kernel) ?_
        exact W.iret (v := ((vF 56) (kI).toNatClampNeg)) hx hb hr (fun t9_ ht hW => ⟨⟨((vF 56) (kI).toNatClampNeg), 0, rfl, trivial, by rw [ht]; exact hP, hD⟩, hS.F ht⟩) hS.2.2 dX12_variable_72
theorem dX12_row_0 : decode cX12_row 0 = .ok (.iload_n 1, 1) := dk_27 (by decide +kernel)
theorem dX12_row_1 : decode cX12_row 1 = .ok (.ifCond .lt 49, 3) := dk_155 (by decide +kernel)
theorem dX12_row_4 : decode cX12_row 4 = .ok (.iload_n 1, 1) := dk_27 (by decide +kernel)
theorem dX12_row_5 : decode cX12_row 5 = .ok (.aload_n 0, 1) := dk_42 (by decide +kernel)
theorem dX12_row_6 : decode cX12_row 6 = .ok (.getfield 786, 3) := dk_180 (by decide +kernel)
theorem dX12_row_9 : decode cX12_row 9 = .ok (.if_icmp .ge 41, 3) := dk_162 (by decide +kernel)
theorem dX12_row_12 : decode cX12_row 12 = .ok (.iload_n 3, 1) := dk_29 (by decide +kernel)
theorem dX12_row_13 : decode cX12_row 13 = .ok (.bipush (-3), 2) := dk_16 (by decide +kernel)
theorem dX12_row_15 : decode cX12_row 15 = .ok (.if_icmp .eq 31, 3) := dk_159 (by decide +kernel)
theorem dX12_row_18 : decode cX12_row 18 = .ok (.iload_n 2, 1) := dk_28 (by decide +kernel)
theorem dX12_row_19 : decode cX12_row 19 = .ok (.ifCond .lt 31, 3) := dk_155 (by decide +kernel)
theorem dX12_row_22 : decode cX12_row 22 = .ok (.iload_n 2, 1) := dk_28 (by decide +kernel)
theorem dX12_row_23 : decode cX12_row 23 = .ok (.aload_n 0, 1) := dk_42 (by decide +kernel)
theorem dX12_row_24 : decode cX12_row 24 = .ok (.getfield 200, 3) := dk_180 (by decide +kernel)
theorem dX12_row_27 : decode cX12_row 27 = .ok (.iload_n 1, 1) := dk_27 (by decide +kernel)
theorem dX12_row_28 : decode cX12_row 28 = .ok (.iaload, 1) := dk_46 (by decide +kernel)
theorem dX12_row_29 : decode cX12_row 29 = .ok (.if_icmp .ge 21, 3) := dk_162 (by decide +kernel)
theorem dX12_row_32 : decode cX12_row 32 = .ok (.iload_n 3, 1) := dk_29 (by decide +kernel)
theorem dX12_row_33 : decode cX12_row 33 = .ok (.bipush (-2), 2) := dk_16 (by decide +kernel)
theorem dX12_row_35 : decode cX12_row 35 = .ok (.if_icmp .lt 15, 3) := dk_161 (by decide +kernel)
theorem dX12_row_38 : decode cX12_row 38 = .ok (.iload_n 3, 1) := dk_29 (by decide +kernel)
theorem dX12_row_39 : decode cX12_row 39 = .ok (.aload_n 0, 1) := dk_42 (by decide +kernel)
theorem dX12_row_40 : decode cX12_row 40 = .ok (.getfield 774, 3) := dk_180 (by decide +kernel)
theorem dX12_row_43 : decode cX12_row 43 = .ok (.if_icmp .ge 7, 3) := dk_162 (by decide +kernel)
theorem dX12_row_46 : decode cX12_row 46 = .ok (.iconst 1, 1) := dk_4 (by decide +kernel)
theorem dX12_row_47 : decode cX12_row 47 = .ok (.goto 4, 3) := dk_167 (by decide +kernel)
theorem dX12_row_50 : decode cX12_row 50 = .ok (.iconst 0, 1) := dk_3 (by decide +kernel)
theorem dX12_row_51 : decode cX12_row 51 = .ok (.istore 4, 2) := dk_54 (by decide +kernel)
theorem dX12_row_53 : decode cX12_row 53 = .ok (.aload_n 0, 1) := dk_42 (by decide +kernel)
theorem dX12_row_54 : decode cX12_row 54 = .ok (.iload 4, 2) := dk_21 (by decide +kernel)
theorem dX12_row_56 : decode cX12_row 56 = .ok (.ifCond .eq 7, 3) := dk_153 (by decide +kernel)
theorem dX12_row_59 : decode cX12_row 59 = .ok (.iconst 0, 1) := dk_3 (by decide +kernel)
theorem dX12_row_60 : decode cX12_row 60 = .ok (.goto 4, 3) := dk_167 (by decide +kernel)
theorem dX12_row_63 : decode cX12_row 63 = .ok (.iconst 1, 1) := dk_4 (by decide +kernel)
theorem dX12_row_64 : decode cX12_row 64 = .ok (.putfield 348, 3) := dk_181 (by decide +kernel)
theorem dX12_row_67 : decode cX12_row 67 = .ok (.aload_n 0, 1) := dk_42 (by decide +kernel)
theorem dX12_row_68 : decode cX12_row 68 = .ok (.getfield 348, 3) := dk_180 (by decide +kernel)
theorem dX12_row_71 : decode cX12_row 71 = .ok (.ifCond .le 5, 3) := dk_158 (by decide +kernel)
theorem dX12_row_74 : decode cX12_row 74 = .ok (.iconst 0, 1) := dk_3 (by decide +kernel)
theorem dX12_row_75 : decode cX12_row 75 = .ok (.ireturn, 1) := dk_172 (by decide +kernel)
theorem dX12_row_76 : decode cX12_row 76 = .ok (.iload_n 3, 1) := dk_29 (by decide +kernel)
theorem dX12_row_77 : decode cX12_row 77 = .ok (.bipush (-3), 2) := dk_16 (by decide +kernel)
theorem dX12_row_79 : decode cX12_row 79 = .ok (.if_icmp .ne 12, 3) := dk_160 (by decide +kernel)
theorem dX12_row_82 : decode cX12_row 82 = .ok (.aload_n 0, 1) := dk_42 (by decide +kernel)
theorem dX12_row_83 : decode cX12_row 83 = .ok (.getfield 200, 3) := dk_180 (by decide +kernel)
theorem dX12_row_86 : decode cX12_row 86 = .ok (.iload_n 1, 1) := dk_27 (by decide +kernel)
theorem dX12_row_87 : decode cX12_row 87 = .ok (.iaload, 1) := dk_46 (by decide +kernel)
theorem dX12_row_88 : decode cX12_row 88 = .ok (.goto 39, 3) := dk_167 (by decide +kernel)
theorem dX12_row_91 : decode cX12_row 91 = .ok (.iload_n 3, 1) := dk_29 (by decide +kernel)
theorem dX12_row_92 : decode cX12_row 92 = .ok (.bipush (-2), 2) := dk_16 (by decide +kernel)
theorem dX12_row_94 : decode cX12_row 94 = .ok (.if_icmp .ne 16, 3) := dk_160 (by decide +kernel)
theorem dX12_row_97 : decode cX12_row 97 = .ok (.aload_n 0, 1) := dk_42 (by decide +kernel)
theorem dX12_row_98 : decode cX12_row 98 = .ok (.getfield 206, 3) := dk_180 (by decide +kernel)
theorem dX12_row_101 : decode cX12_row 101 = .ok (.iconst 3, 1) := dk_6 (by decide +kernel)
theorem dX12_row_102 : decode cX12_row 102 = .ok (.iload_n 1, 1) := dk_27 (by decide +kernel)
theorem dX12_row_103 : decode cX12_row 103 = .ok (.imul, 1) := dk_104 (by decide +kernel)
theorem dX12_row_104 : decode cX12_row 104 = .ok (.iload_n 2, 1) := dk_28 (by decide +kernel)
theorem dX12_row_105 : decode cX12_row 105 = .ok (.iadd, 1) := dk_96 (by decide +kernel)
theorem dX12_row_106 : decode cX12_row 106 = .ok (.iaload, 1) := dk_46 (by decide +kernel)
theorem dX12_row_107 : decode cX12_row 107 = .ok (.goto 20, 3) := dk_167 (by decide +kernel)
theorem dX12_row_110 : decode cX12_row 110 = .ok (.aload_n 0, 1) := dk_42 (by decide +kernel)
theorem dX12_row_111 : decode cX12_row 111 = .ok (.getfield 203, 3) := dk_180 (by decide +kernel)
theorem dX12_row_114 : decode cX12_row 114 = .ok (.bipush 9, 2) := dk_16 (by decide +kernel)
theorem dX12_row_116 : decode cX12_row 116 = .ok (.iconst 3, 1) := dk_6 (by decide +kernel)
theorem dX12_row_117 : decode cX12_row 117 = .ok (.iload_n 1, 1) := dk_27 (by decide +kernel)
theorem dX12_row_118 : decode cX12_row 118 = .ok (.imul, 1) := dk_104 (by decide +kernel)
theorem dX12_row_119 : decode cX12_row 119 = .ok (.iload_n 2, 1) := dk_28 (by decide +kernel)
theorem dX12_row_120 : decode cX12_row 120 = .ok (.iadd, 1) := dk_96 (by decide +kernel)
theorem dX12_row_121 : decode cX12_row 121 = .ok (.imul, 1) := dk_104 (by decide +kernel)
theorem dX12_row_122 : decode cX12_row 122 = .ok (.iconst 1, 1) := dk_4 (by decide +kernel)
theorem dX12_row_123 : decode cX12_row 123 = .ok (.iadd, 1) := dk_96 (by decide +kernel)
theorem dX12_row_124 : decode cX12_row 124 = .ok (.iload_n 3, 1) := dk_29 (by decide +kernel)
theorem dX12_row_125 : decode cX12_row 125 = .ok (.iadd, 1) := dk_96 (by decide +kernel)
theorem dX12_row_126 : decode cX12_row 126 = .ok (.iaload, 1) := dk_46 (by decide +kernel)
theorem dX12_row_127 : decode cX12_row 127 = .ok (.ireturn, 1) := dk_172 (by decide +kernel)
def wsRX12_row : List Cond := .code yX12_row cX12_row 5 (some .int) :: ([.fieldLink RX12 348 "OptimaWorksModel" "thrown" "I", .fieldLink RX12 786 "OptimaWorksModel" "modelRows" "I", .fieldLink RX12 200 "OptimaWorksModel" "wayMany" "[I", .fieldLink RX12 774 "OptimaWorksModel" "variables" "I", .fieldLink RX12 203 "OptimaWorksModel" "wayNumber" "[I", .fieldLink RX12 206 "OptimaWorksModel" "waySign" "[I"] ++ wsX120)
theorem iwsRX12_row_in12 : ∀ w ∈ wsX120, w ∈ wsRX12_row := fun _ h => List.mem_cons_of_mem _ (List.mem_append_right _ h)
theorem gdwsRX12_row : wsRX12_row.all goodWord = true := gdC rfl (gdA (by decide +kernel : ([.fieldLink RX12 348 "OptimaWorksModel" "thrown" "I", .fieldLink RX12 786 "OptimaWorksModel" "modelRows" "I", .fieldLink RX12 200 "OptimaWorksModel" "wayMany" "[I", .fieldLink RX12 774 "OptimaWorksModel" "variables" "I", .fieldLink RX12 203 "OptimaWorksModel" "wayNumber" "[I", .fieldLink RX12 206 "OptimaWorksModel" "waySign" "[I"] : List Cond).all goodWord = true) gdwsX120)
set_option maxHeartbeats 4000000 in
set_option maxRecDepth 100000 in
/-- row(r, w, k) -/
theorem r_X12_row (l : Launch) (dC : Nat → ClassId) (dI : Nat → Nat → Nat) (a : Nat → Nat) (k : Nat → ClassId) (h0 : Nat) (vi : Nat → Int32) (vj : Nat → Int64) (vF : Nat → Nat → Int32) (vG : Nat → Nat → Int64) (rI : Int32) (wI : Int32) (kI : Int32) (vn : Nat) (hvn : vi 90 = nI vn) (hvn8 : vn ≤ 8) (mr : Nat) (hmr : vi 91 = nI mr) (hmr12 : mr ≤ 12) (hwm : WmO (vF 59) mr) (sz : Nat) : Met l yX12_row wsRX12_row ({ frames := 0, cells := 0, slots := 0, locals := 0 }) (va_Pc [.ref h0, .int rI, .int wI, .int kI] (fun U => U.heap.size = sz ∧ va_P (dC, dI) vwCl (WR a k h0 vi vj vF vG) U.heap ∧ va_K (dC, dI) vwCl (tX12 k) U ∧ va_D (fun _ => True) (WR a k h0 vi vj vF vG))) (va_Qi (fun (r : Int32) (u : Int32) => True) (fun (u : Int32) t => va_P (dC, dI) vwCl (WR a k h0 (fT vi 0 u) vj vF vG) t.heap ∧ va_D (va_A (WR a k h0 vi vj vF vG) sz) (WR a k h0 (fT vi 0 u) vj vF vG)) (va_A (WR a k h0 vi vj vF vG) sz)) 0 0 (va_A (WR a k h0 vi vj vF vG) sz) := by
  refine Met.ofW (cc := cX12_row) (maxL := 5) (ret := (some .int)) (by decide) rfl ?_
  intro p e s m args below meth c s₁ B hml hv
  obtain ⟨rfl, hsz, hP, hK, hD0⟩ := hv
  have hx := B.exec
  have hb := B.bytes
  have hr := B.returns
  have hts := atoms_spec (ws := wsRX12_row) B.pre
  have hown : s.vm.findClass RX12 = some m.cls := findClass_of_methodNamed B.named
  have hlocks := B.notSynchronized
  subst hsz
  have hD := hD0.self (sz := s.heap.size)
  generalize hAe : va_A (WR a k h0 vi vj vF vG) s.heap.size = A at hD ⊢
  have hA : ∀ q : Nat, s.heap.size ≤ q → A q := fun q h => by rw [← hAe]; exact Or.inr h
  have hS : va_S A s.heap s.heap [] := va_S.rf
  have hl := lv_entry ([.ref h0, .int rI, .int wI, .int kI]) (n := 5) (Nat.le_of_ble_eq_true rfl)
  rw [lg_entry_eq]
  generalize (lg_sl ([.ref h0, .int rI, .int wI, .int kI]) ++ List.replicate (5 - (lg_sl ([.ref h0, .int rI, .int wI, .int kI])).length) Slot.unset).toArray = ls at hl ⊢
  have hl : lv_has ls 5 [(0, .ref h0), (1, .int rI), (2, .int wI), (3, .int kI)] := hl
  refine lv_iload_n hx hb dX12_row_0 rfl (lv_at hl 1 rfl) ?_
  refine lv_if_lt (tgt := 50) hx hb dX12_row_1 (by decide) (fun c_1 => ?_) (fun c_1 => ?_)
  · have t_1 : (rI).toInt < 0 := toI_lt c_1 rfl (by decide)
    refine lv_iconst (v := 0) hx hb dX12_row_50 (by decide) ?_
    refine lv_istore hx hb dX12_row_51 hl (by decide) rfl (fun ls (hl : lv_has ls _ ([(4, .int 0), (0, .ref h0), (1, .int rI), (2, .int wI), (3, .int kI)])) => ?_)
    refine lv_aload_n hx hb dX12_row_53 rfl (lv_at hl 1 rfl) ?_
    refine lv_iload hx hb dX12_row_54 (lv_at hl 0 rfl) ?_
    refine lv_if_eq (tgt := 63) hx hb dX12_row_56 (by decide) (fun _ => ?_) (fun c9 => absurd (by decide) c9)
    refine lv_iconst (v := 1) hx hb dX12_row_63 (by decide) ?_
    refine va_put (D := (dC, dI)) (ci := 12) (v := .int 1) (ty := .int) (C := RX12) (T := TX12) (N := 163) (fs := fM (vS a vi vj)) hx hb hts iwsRX12_row_in12 tyX12 tyX12_ok nmX12 hown hK hP hD hS 0 rfl rfl 0 (by decide) (hts (.fieldLink RX12 348 "OptimaWorksModel" "thrown" "I") (by decide +kernel)) (fun _ h9 => h9) rfl (by decide +kernel) rfl rfl (Nat.le_of_ble_eq_true rfl) dX12_row_64 (fun H locs hP hD hS => ?_)
    have hP : va_P (dC, dI) vwCl (WR a k h0 (fT vi 0 1) vj vF vG) H := by rw [← WR_i 0 _ rfl]; exact hP
    have hD : va_D A (WR a k h0 (fT vi 0 1) vj vF vG) := by rw [← WR_i 0 _ rfl]; exact hD
    refine lv_aload_n hx hb dX12_row_67 rfl (lv_at hl 1 rfl) ?_
    refine va_get (D := (dC, dI)) (ci := 12) (v := .int 1) (C := RX12) (T := TX12) (N := 163) (fs := fM (vS a (fT vi 0 1) vj)) hx hb hts iwsRX12_row_in12 hown hK hP 0 rfl rfl 0 (by decide) (hts (.fieldLink RX12 348 "OptimaWorksModel" "thrown" "I") (by decide +kernel)) (fun _ h9 => h9) rfl dX12_row_68 ?_
    refine lv_if_le (tgt := 76) hx hb dX12_row_71 (by decide) (fun c9 => absurd c9 (by decide)) (fun _ => ?_)
    refine lv_iconst (v := 0) hx hb dX12_row_74 (by decide) ?_
    refine W.widen (k := 0) (n := 0) (by decide +kernel) (by decide +kernel) ?_
    exact W.iret (v := 0) hx hb hr (fun t9_ ht hW => ⟨⟨0, 1, rfl, trivial, by rw [ht]; exact hP, hD⟩, hS.F ht⟩) hS.2.2 dX12_row_75
  · have t_1 : ¬ (rI).toInt < 0 := toI_nlt c_1 rfl (by decide)
    refine lv_iload_n hx hb dX12_row_4 rfl (lv_at hl 1 rfl) ?_
    refine lv_aload_n hx hb dX12_row_5 rfl (lv_at hl 0 rfl) ?_
    refine va_get (D := (dC, dI)) (ci := 12) (v := .int (vi 91)) (C := RX12) (T := TX12) (N := 163) (fs := fM (vS a vi vj)) hx hb hts iwsRX12_row_in12 hown hK hP 0 rfl rfl 91 (by decide) (hts (.fieldLink RX12 786 "OptimaWorksModel" "modelRows" "I") (by decide +kernel)) (fun _ h9 => h9) rfl dX12_row_6 ?_
    refine lv_topi (fun y1 hy1 => ?_)
    obtain rfl : (nI mr) = y1 := (hy1.trans (hmr)).symm
    refine lv_icmp_ge (tgt := 50) hx hb dX12_row_9 (by decide) (fun c_9 => ?_) (fun c_9 => ?_)
    · have t_9 : (rI).toInt ≥ ((mr : Nat) : Int) := toI_ge c_9 rfl (nI_toInt (by omega))
      refine lv_iconst (v := 0) hx hb dX12_row_50 (by decide) ?_
      refine lv_istore hx hb dX12_row_51 hl (by decide) rfl (fun ls (hl : lv_has ls _ ([(4, .int 0), (0, .ref h0), (1, .int rI), (2, .int wI), (3, .int kI)])) => ?_)
      refine lv_aload_n hx hb dX12_row_53 rfl (lv_at hl 1 rfl) ?_
      refine lv_iload hx hb dX12_row_54 (lv_at hl 0 rfl) ?_
      refine lv_if_eq (tgt := 63) hx hb dX12_row_56 (by decide) (fun _ => ?_) (fun c9 => absurd (by decide) c9)
      refine lv_iconst (v := 1) hx hb dX12_row_63 (by decide) ?_
      refine va_put (D := (dC, dI)) (ci := 12) (v := .int 1) (ty := .int) (C := RX12) (T := TX12) (N := 163) (fs := fM (vS a vi vj)) hx hb hts iwsRX12_row_in12 tyX12 tyX12_ok nmX12 hown hK hP hD hS 0 rfl rfl 0 (by decide) (hts (.fieldLink RX12 348 "OptimaWorksModel" "thrown" "I") (by decide +kernel)) (fun _ h9 => h9) rfl (by decide +kernel) rfl rfl (Nat.le_of_ble_eq_true rfl) dX12_row_64 (fun H locs hP hD hS => ?_)
      have hP : va_P (dC, dI) vwCl (WR a k h0 (fT vi 0 1) vj vF vG) H := by rw [← WR_i 0 _ rfl]; exact hP
      have hD : va_D A (WR a k h0 (fT vi 0 1) vj vF vG) := by rw [← WR_i 0 _ rfl]; exact hD
      refine lv_aload_n hx hb dX12_row_67 rfl (lv_at hl 1 rfl) ?_
      refine va_get (D := (dC, dI)) (ci := 12) (v := .int 1) (C := RX12) (T := TX12) (N := 163) (fs := fM (vS a (fT vi 0 1) vj)) hx hb hts iwsRX12_row_in12 hown hK hP 0 rfl rfl 0 (by decide) (hts (.fieldLink RX12 348 "OptimaWorksModel" "thrown" "I") (by decide +kernel)) (fun _ h9 => h9) rfl dX12_row_68 ?_
      refine lv_if_le (tgt := 76) hx hb dX12_row_71 (by decide) (fun c9 => absurd c9 (by decide)) (fun _ => ?_)
      refine lv_iconst (v := 0) hx hb dX12_row_74 (by decide) ?_
      refine W.widen (k := 0) (n := 0) (by decide +kernel) (by decide +kernel) ?_
      exact W.iret (v := 0) hx hb hr (fun t9_ ht hW => ⟨⟨0, 1, rfl, trivial, by rw [ht]; exact hP, hD⟩, hS.F ht⟩) hS.2.2 dX12_row_75
    · have t_9 : ¬ (rI).toInt ≥ ((mr : Nat) : Int) := toI_nge c_9 rfl (nI_toInt (by omega))
      have emr : (nI mr).toInt = (mr : Int) := nI_toInt (by omega)
      obtain ⟨rn, h_rn, rfl⟩ := of_toInt (x := rI) (k := 12) (by omega) (by omega)
      have e_rn : (nI rn).toInt = (rn : Int) := nI_toInt (by omega)
      obtain ⟨wk, ewk, hwk1, hwk3⟩ := hwm rn (by omega)
      refine lv_iload_n hx hb dX12_row_12 rfl (lv_at hl 3 rfl) ?_
      refine lv_bipush (v := (-3)) hx hb dX12_row_13 (by decide) ?_
      refine lv_icmp_eq (tgt := 46) hx hb dX12_row_15 (by decide) (fun c_15 => ?_) (fun c_15 => ?_)
      · have t_15 : (kI).toInt = -3 := toI_eq c_15 rfl (by decide)
        refine lv_iconst (v := 1) hx hb dX12_row_46 (by decide) ?_
        refine lv_goto (tgt := 51) hx hb dX12_row_47 (by decide) ?_
        refine lv_istore hx hb dX12_row_51 hl (by decide) rfl (fun ls (hl : lv_has ls _ ([(4, .int 1), (0, .ref h0), (1, .int (nI rn)), (2, .int wI), (3, .int kI)])) => ?_)
        refine lv_aload_n hx hb dX12_row_53 rfl (lv_at hl 1 rfl) ?_
        refine lv_iload hx hb dX12_row_54 (lv_at hl 0 rfl) ?_
        refine lv_if_eq (tgt := 63) hx hb dX12_row_56 (by decide) (fun c9 => absurd c9 (by decide)) (fun _ => ?_)
        refine lv_iconst (v := 0) hx hb dX12_row_59 (by decide) ?_
        refine lv_goto (tgt := 64) hx hb dX12_row_60 (by decide) ?_
        refine va_put (D := (dC, dI)) (ci := 12) (v := .int 0) (ty := .int) (C := RX12) (T := TX12) (N := 163) (fs := fM (vS a vi vj)) hx hb hts iwsRX12_row_in12 tyX12 tyX12_ok nmX12 hown hK hP hD hS 0 rfl rfl 0 (by decide) (hts (.fieldLink RX12 348 "OptimaWorksModel" "thrown" "I") (by decide +kernel)) (fun _ h9 => h9) rfl (by decide +kernel) rfl rfl (Nat.le_of_ble_eq_true rfl) dX12_row_64 (fun H locs hP hD hS => ?_)
        have hP : va_P (dC, dI) vwCl (WR a k h0 (fT vi 0 0) vj vF vG) H := by rw [← WR_i 0 _ rfl]; exact hP
        have hD : va_D A (WR a k h0 (fT vi 0 0) vj vF vG) := by rw [← WR_i 0 _ rfl]; exact hD
        refine lv_aload_n hx hb dX12_row_67 rfl (lv_at hl 1 rfl) ?_
        refine va_get (D := (dC, dI)) (ci := 12) (v := .int 0) (C := RX12) (T := TX12) (N := 163) (fs := fM (vS a (fT vi 0 0) vj)) hx hb hts iwsRX12_row_in12 hown hK hP 0 rfl rfl 0 (by decide) (hts (.fieldLink RX12 348 "OptimaWorksModel" "thrown" "I") (by decide +kernel)) (fun _ h9 => h9) rfl dX12_row_68 ?_
        refine lv_if_le (tgt := 76) hx hb dX12_row_71 (by decide) (fun _ => ?_) (fun c9 => absurd (by decide) c9)
        refine lv_iload_n hx hb dX12_row_76 rfl (lv_at hl 4 rfl) ?_
        refine lv_bipush (v := (-3)) hx hb dX12_row_77 (by decide) ?_
        refine lv_icmp_ne (tgt := 91) hx hb dX12_row_79 (by decide) (fun c9 => False.elim (c9 c_15)) (fun c_79 => ?_)
        have t_79 : (kI).toInt = -3 := toI_nne c_79 rfl (by decide)
        refine lv_aload_n hx hb dX12_row_82 rfl (lv_at hl 1 rfl) ?_
        refine va_get (D := (dC, dI)) (ci := 12) (v := .ref (a 59)) (C := RX12) (T := TX12) (N := 163) (fs := fM (vS a (fT vi 0 0) vj)) hx hb hts iwsRX12_row_in12 hown hK hP 0 rfl rfl 99 (by decide) (hts (.fieldLink RX12 200 "OptimaWorksModel" "wayMany" "[I") (by decide +kernel)) (fun _ h9 => h9) rfl dX12_row_83 ?_
        refine lv_iload_n hx hb dX12_row_86 rfl (lv_at hl 2 rfl) ?_
        refine va_iald (cA := k 59) (n := 13) (f := (vF 59)) hx hb hK hP 60 59 (WR_get 59 (by decide)) (TR_get 59 (by decide)) (vp_in_nI (show rn < 13 by omega) (by omega)) dX12_row_87 ?_
        refine lv_topi (fun y2 hy2 => ?_)
        obtain rfl : ((vF 59) rn) = y2 := (hy2.trans (by rw [nI_clamp (by omega)])).symm
        refine lv_goto (tgt := 127) hx hb dX12_row_88 (by decide) ?_
        refine W.widen (k := 0) (n := 0) (by decide +kernel) (by decide +kernel) ?_
        exact W.iret (v := ((vF 59) rn)) hx hb hr (fun t9_ ht hW => ⟨⟨((vF 59) rn), 0, rfl, trivial, by rw [ht]; exact hP, hD⟩, hS.F ht⟩) hS.2.2 dX12_row_127
      · have t_15 : ¬ (kI).toInt = -3 := toI_neq c_15 rfl (by decide)
        refine lv_iload_n hx hb dX12_row_18 rfl (lv_at hl 2 rfl) ?_
        refine lv_if_lt (tgt := 50) hx hb dX12_row_19 (by decide) (fun c_19 => ?_) (fun c_19 => ?_)
        · have t_19 : (wI).toInt < 0 := toI_lt c_19 rfl (by decide)
          refine lv_iconst (v := 0) hx hb dX12_row_50 (by decide) ?_
          refine lv_istore hx hb dX12_row_51 hl (by decide) rfl (fun ls (hl : lv_has ls _ ([(4, .int 0), (0, .ref h0), (1, .int (nI rn)), (2, .int wI), (3, .int kI)])) => ?_)
          refine lv_aload_n hx hb dX12_row_53 rfl (lv_at hl 1 rfl) ?_
          refine lv_iload hx hb dX12_row_54 (lv_at hl 0 rfl) ?_
          refine lv_if_eq (tgt := 63) hx hb dX12_row_56 (by decide) (fun _ => ?_) (fun c9 => absurd (by decide) c9)
          refine lv_iconst (v := 1) hx hb dX12_row_63 (by decide) ?_
          refine va_put (D := (dC, dI)) (ci := 12) (v := .int 1) (ty := .int) (C := RX12) (T := TX12) (N := 163) (fs := fM (vS a vi vj)) hx hb hts iwsRX12_row_in12 tyX12 tyX12_ok nmX12 hown hK hP hD hS 0 rfl rfl 0 (by decide) (hts (.fieldLink RX12 348 "OptimaWorksModel" "thrown" "I") (by decide +kernel)) (fun _ h9 => h9) rfl (by decide +kernel) rfl rfl (Nat.le_of_ble_eq_true rfl) dX12_row_64 (fun H locs hP hD hS => ?_)
          have hP : va_P (dC, dI) vwCl (WR a k h0 (fT vi 0 1) vj vF vG) H := by rw [← WR_i 0 _ rfl]; exact hP
          have hD : va_D A (WR a k h0 (fT vi 0 1) vj vF vG) := by rw [← WR_i 0 _ rfl]; exact hD
          refine lv_aload_n hx hb dX12_row_67 rfl (lv_at hl 1 rfl) ?_
          refine va_get (D := (dC, dI)) (ci := 12) (v := .int 1) (C := RX12) (T := TX12) (N := 163) (fs := fM (vS a (fT vi 0 1) vj)) hx hb hts iwsRX12_row_in12 hown hK hP 0 rfl rfl 0 (by decide) (hts (.fieldLink RX12 348 "OptimaWorksModel" "thrown" "I") (by decide +kernel)) (fun _ h9 => h9) rfl dX12_row_68 ?_
          refine lv_if_le (tgt := 76) hx hb dX12_row_71 (by decide) (fun c9 => absurd c9 (by decide)) (fun _ => ?_)
          refine lv_iconst (v := 0) hx hb dX12_row_74 (by decide) ?_
          refine W.widen (k := 0) (n := 0) (by decide +kernel) (by decide +kernel) ?_
          exact W.iret (v := 0) hx hb hr (fun t9_ ht hW => ⟨⟨0, 1, rfl, trivial, by rw [ht]; exact hP, hD⟩, hS.F ht⟩) hS.2.2 dX12_row_75
        · have t_19 : ¬ (wI).toInt < 0 := toI_nlt c_19 rfl (by decide)
          refine lv_iload_n hx hb dX12_row_22 rfl (lv_at hl 2 rfl) ?_
          refine lv_aload_n hx hb dX12_row_23 rfl (lv_at hl 0 rfl) ?_
          refine va_get (D := (dC, dI)) (ci := 12) (v := .ref (a 59)) (C := RX12) (T := TX12) (N := 163) (fs := fM (vS a vi vj)) hx hb hts iwsRX12_row_in12 hown hK hP 0 rfl rfl 99 (by decide) (hts (.fieldLink RX12 200 "OptimaWorksModel" "wayMany" "[I") (by decide +kernel)) (fun _ h9 => h9) rfl dX12_row_24 ?_
          refine lv_iload_n hx hb dX12_row_27 rfl (lv_at hl 1 rfl) ?_
          refine va_iald (cA := k 59) (n := 13) (f := (vF 59)) hx hb hK hP 60 59 (WR_get 59 (by decide)) (TR_get 59 (by decide)) (vp_in_nI (show rn < 13 by omega) (by omega)) dX12_row_28 ?_
          refine lv_topi (fun y3 hy3 => ?_)
          obtain rfl : ((vF 59) rn) = y3 := (hy3.trans (by rw [nI_clamp (by omega)])).symm
          refine lv_topi (fun y4 hy4 => ?_)
          obtain rfl : (nI wk) = y4 := (hy4.trans (ewk)).symm
          refine lv_icmp_ge (tgt := 50) hx hb dX12_row_29 (by decide) (fun c_29 => ?_) (fun c_29 => ?_)
          · have t_29 : (wI).toInt ≥ ((wk : Nat) : Int) := toI_ge c_29 rfl (nI_toInt (by omega))
            refine lv_iconst (v := 0) hx hb dX12_row_50 (by decide) ?_
            refine lv_istore hx hb dX12_row_51 hl (by decide) rfl (fun ls (hl : lv_has ls _ ([(4, .int 0), (0, .ref h0), (1, .int (nI rn)), (2, .int wI), (3, .int kI)])) => ?_)
            refine lv_aload_n hx hb dX12_row_53 rfl (lv_at hl 1 rfl) ?_
            refine lv_iload hx hb dX12_row_54 (lv_at hl 0 rfl) ?_
            refine lv_if_eq (tgt := 63) hx hb dX12_row_56 (by decide) (fun _ => ?_) (fun c9 => absurd (by decide) c9)
            refine lv_iconst (v := 1) hx hb dX12_row_63 (by decide) ?_
            refine va_put (D := (dC, dI)) (ci := 12) (v := .int 1) (ty := .int) (C := RX12) (T := TX12) (N := 163) (fs := fM (vS a vi vj)) hx hb hts iwsRX12_row_in12 tyX12 tyX12_ok nmX12 hown hK hP hD hS 0 rfl rfl 0 (by decide) (hts (.fieldLink RX12 348 "OptimaWorksModel" "thrown" "I") (by decide +kernel)) (fun _ h9 => h9) rfl (by decide +kernel) rfl rfl (Nat.le_of_ble_eq_true rfl) dX12_row_64 (fun H locs hP hD hS => ?_)
            have hP : va_P (dC, dI) vwCl (WR a k h0 (fT vi 0 1) vj vF vG) H := by rw [← WR_i 0 _ rfl]; exact hP
            have hD : va_D A (WR a k h0 (fT vi 0 1) vj vF vG) := by rw [← WR_i 0 _ rfl]; exact hD
            refine lv_aload_n hx hb dX12_row_67 rfl (lv_at hl 1 rfl) ?_
            refine va_get (D := (dC, dI)) (ci := 12) (v := .int 1) (C := RX12) (T := TX12) (N := 163) (fs := fM (vS a (fT vi 0 1) vj)) hx hb hts iwsRX12_row_in12 hown hK hP 0 rfl rfl 0 (by decide) (hts (.fieldLink RX12 348 "OptimaWorksModel" "thrown" "I") (by decide +kernel)) (fun _ h9 => h9) rfl dX12_row_68 ?_
            refine lv_if_le (tgt := 76) hx hb dX12_row_71 (by decide) (fun c9 => absurd c9 (by decide)) (fun _ => ?_)
            refine lv_iconst (v := 0) hx hb dX12_row_74 (by decide) ?_
            refine W.widen (k := 0) (n := 0) (by decide +kernel) (by decide +kernel) ?_
            exact W.iret (v := 0) hx hb hr (fun t9_ ht hW => ⟨⟨0, 1, rfl, trivial, by rw [ht]; exact hP, hD⟩, hS.F ht⟩) hS.2.2 dX12_row_75
          · have t_29 : ¬ (wI).toInt ≥ ((wk : Nat) : Int) := toI_nge c_29 rfl (nI_toInt (by omega))
            have ewk2 : (nI wk).toInt = (wk : Int) := nI_toInt (by omega)
            obtain ⟨wn, h_wn, rfl⟩ := of_toInt (x := wI) (k := 3) (by omega) (by omega)
            have e_wn : (nI wn).toInt = (wn : Int) := nI_toInt (by omega)
            refine lv_iload_n hx hb dX12_row_32 rfl (lv_at hl 3 rfl) ?_
            refine lv_bipush (v := (-2)) hx hb dX12_row_33 (by decide) ?_
            refine lv_icmp_lt (tgt := 50) hx hb dX12_row_35 (by decide) (fun c_35 => ?_) (fun c_35 => ?_)
            · have t_35 : (kI).toInt < -2 := toI_lt c_35 rfl (by decide)
              refine lv_iconst (v := 0) hx hb dX12_row_50 (by decide) ?_
              refine lv_istore hx hb dX12_row_51 hl (by decide) rfl (fun ls (hl : lv_has ls _ ([(4, .int 0), (0, .ref h0), (1, .int (nI rn)), (2, .int (nI wn)), (3, .int kI)])) => ?_)
              refine lv_aload_n hx hb dX12_row_53 rfl (lv_at hl 1 rfl) ?_
              refine lv_iload hx hb dX12_row_54 (lv_at hl 0 rfl) ?_
              refine lv_if_eq (tgt := 63) hx hb dX12_row_56 (by decide) (fun _ => ?_) (fun c9 => absurd (by decide) c9)
              refine lv_iconst (v := 1) hx hb dX12_row_63 (by decide) ?_
              refine va_put (D := (dC, dI)) (ci := 12) (v := .int 1) (ty := .int) (C := RX12) (T := TX12) (N := 163) (fs := fM (vS a vi vj)) hx hb hts iwsRX12_row_in12 tyX12 tyX12_ok nmX12 hown hK hP hD hS 0 rfl rfl 0 (by decide) (hts (.fieldLink RX12 348 "OptimaWorksModel" "thrown" "I") (by decide +kernel)) (fun _ h9 => h9) rfl (by decide +kernel) rfl rfl (Nat.le_of_ble_eq_true rfl) dX12_row_64 (fun H locs hP hD hS => ?_)
              have hP : va_P (dC, dI) vwCl (WR a k h0 (fT vi 0 1) vj vF vG) H := by rw [← WR_i 0 _ rfl]; exact hP
              have hD : va_D A (WR a k h0 (fT vi 0 1) vj vF vG) := by rw [← WR_i 0 _ rfl]; exact hD
              refine lv_aload_n hx hb dX12_row_67 rfl (lv_at hl 1 rfl) ?_
              refine va_get (D := (dC, dI)) (ci := 12) (v := .int 1) (C := RX12) (T := TX12) (N := 163) (fs := fM (vS a (fT vi 0 1) vj)) hx hb hts iwsRX12_row_in12 hown hK hP 0 rfl rfl 0 (by decide) (hts (.fieldLink RX12 348 "OptimaWorksModel" "thrown" "I") (by decide +kernel)) (fun _ h9 => h9) rfl dX12_row_68 ?_
              refine lv_if_le (tgt := 76) hx hb dX12_row_71 (by decide) (fun c9 => absurd c9 (by decide)) (fun _ => ?_)
              refine lv_iconst (v := 0) hx hb dX12_row_74 (by decide) ?_
              refine W.widen (k := 0) (n := 0) (by decide +kernel) (by decide +kernel) ?_
              exact W.iret (v := 0) hx hb hr (fun t9_ ht hW => ⟨⟨0, 1, rfl, trivial, by rw [ht]; exact hP, hD⟩, hS.F ht⟩) hS.2.2 dX12_row_75
            · have t_35 : ¬ (kI).toInt < -2 := toI_nlt c_35 rfl (by decide)
              refine lv_iload_n hx hb dX12_row_38 rfl (lv_at hl 3 rfl) ?_
              refine lv_aload_n hx hb dX12_row_39 rfl (lv_at hl 0 rfl) ?_
              refine va_get (D := (dC, dI)) (ci := 12) (v := .int (vi 90)) (C := RX12) (T := TX12) (N := 163) (fs := fM (vS a vi vj)) hx hb hts iwsRX12_row_in12 hown hK hP 0 rfl rfl 90 (by decide) (hts (.fieldLink RX12 774 "OptimaWorksModel" "variables" "I") (by decide +kernel)) (fun _ h9 => h9) rfl dX12_row_40 ?_
              refine lv_topi (fun y5 hy5 => ?_)
              obtain rfl : (nI vn) = y5 := (hy5.trans (hvn)).symm
              refine lv_icmp_ge (tgt := 50) hx hb dX12_row_43 (by decide) (fun c_43 => ?_) (fun c_43 => ?_)
              · have t_43 : (kI).toInt ≥ ((vn : Nat) : Int) := toI_ge c_43 rfl (nI_toInt (by omega))
                refine lv_iconst (v := 0) hx hb dX12_row_50 (by decide) ?_
                refine lv_istore hx hb dX12_row_51 hl (by decide) rfl (fun ls (hl : lv_has ls _ ([(4, .int 0), (0, .ref h0), (1, .int (nI rn)), (2, .int (nI wn)), (3, .int kI)])) => ?_)
                refine lv_aload_n hx hb dX12_row_53 rfl (lv_at hl 1 rfl) ?_
                refine lv_iload hx hb dX12_row_54 (lv_at hl 0 rfl) ?_
                refine lv_if_eq (tgt := 63) hx hb dX12_row_56 (by decide) (fun _ => ?_) (fun c9 => absurd (by decide) c9)
                refine lv_iconst (v := 1) hx hb dX12_row_63 (by decide) ?_
                refine va_put (D := (dC, dI)) (ci := 12) (v := .int 1) (ty := .int) (C := RX12) (T := TX12) (N := 163) (fs := fM (vS a vi vj)) hx hb hts iwsRX12_row_in12 tyX12 tyX12_ok nmX12 hown hK hP hD hS 0 rfl rfl 0 (by decide) (hts (.fieldLink RX12 348 "OptimaWorksModel" "thrown" "I") (by decide +kernel)) (fun _ h9 => h9) rfl (by decide +kernel) rfl rfl (Nat.le_of_ble_eq_true rfl) dX12_row_64 (fun H locs hP hD hS => ?_)
                have hP : va_P (dC, dI) vwCl (WR a k h0 (fT vi 0 1) vj vF vG) H := by rw [← WR_i 0 _ rfl]; exact hP
                have hD : va_D A (WR a k h0 (fT vi 0 1) vj vF vG) := by rw [← WR_i 0 _ rfl]; exact hD
                refine lv_aload_n hx hb dX12_row_67 rfl (lv_at hl 1 rfl) ?_
                refine va_get (D := (dC, dI)) (ci := 12) (v := .int 1) (C := RX12) (T := TX12) (N := 163) (fs := fM (vS a (fT vi 0 1) vj)) hx hb hts iwsRX12_row_in12 hown hK hP 0 rfl rfl 0 (by decide) (hts (.fieldLink RX12 348 "OptimaWorksModel" "thrown" "I") (by decide +kernel)) (fun _ h9 => h9) rfl dX12_row_68 ?_
                refine lv_if_le (tgt := 76) hx hb dX12_row_71 (by decide) (fun c9 => absurd c9 (by decide)) (fun _ => ?_)
                refine lv_iconst (v := 0) hx hb dX12_row_74 (by decide) ?_
                refine W.widen (k := 0) (n := 0) (by decide +kernel) (by decide +kernel) ?_
                exact W.iret (v := 0) hx hb hr (fun t9_ ht hW => ⟨⟨0, 1, rfl, trivial, by rw [ht]; exact hP, hD⟩, hS.F ht⟩) hS.2.2 dX12_row_75
              · have t_43 : ¬ (kI).toInt ≥ ((vn : Nat) : Int) := toI_nge c_43 rfl (nI_toInt (by omega))
                refine lv_iconst (v := 1) hx hb dX12_row_46 (by decide) ?_
                refine lv_goto (tgt := 51) hx hb dX12_row_47 (by decide) ?_
                refine lv_istore hx hb dX12_row_51 hl (by decide) rfl (fun ls (hl : lv_has ls _ ([(4, .int 1), (0, .ref h0), (1, .int (nI rn)), (2, .int (nI wn)), (3, .int kI)])) => ?_)
                refine lv_aload_n hx hb dX12_row_53 rfl (lv_at hl 1 rfl) ?_
                refine lv_iload hx hb dX12_row_54 (lv_at hl 0 rfl) ?_
                refine lv_if_eq (tgt := 63) hx hb dX12_row_56 (by decide) (fun c9 => absurd c9 (by decide)) (fun _ => ?_)
                refine lv_iconst (v := 0) hx hb dX12_row_59 (by decide) ?_
                refine lv_goto (tgt := 64) hx hb dX12_row_60 (by decide) ?_
                refine va_put (D := (dC, dI)) (ci := 12) (v := .int 0) (ty := .int) (C := RX12) (T := TX12) (N := 163) (fs := fM (vS a vi vj)) hx hb hts iwsRX12_row_in12 tyX12 tyX12_ok nmX12 hown hK hP hD hS 0 rfl rfl 0 (by decide) (hts (.fieldLink RX12 348 "OptimaWorksModel" "thrown" "I") (by decide +kernel)) (fun _ h9 => h9) rfl (by decide +kernel) rfl rfl (Nat.le_of_ble_eq_true rfl) dX12_row_64 (fun H locs hP hD hS => ?_)
                have hP : va_P (dC, dI) vwCl (WR a k h0 (fT vi 0 0) vj vF vG) H := by rw [← WR_i 0 _ rfl]; exact hP
                have hD : va_D A (WR a k h0 (fT vi 0 0) vj vF vG) := by rw [← WR_i 0 _ rfl]; exact hD
                refine lv_aload_n hx hb dX12_row_67 rfl (lv_at hl 1 rfl) ?_
                refine va_get (D := (dC, dI)) (ci := 12) (v := .int 0) (C := RX12) (T := TX12) (N := 163) (fs := fM (vS a (fT vi 0 0) vj)) hx hb hts iwsRX12_row_in12 hown hK hP 0 rfl rfl 0 (by decide) (hts (.fieldLink RX12 348 "OptimaWorksModel" "thrown" "I") (by decide +kernel)) (fun _ h9 => h9) rfl dX12_row_68 ?_
                refine lv_if_le (tgt := 76) hx hb dX12_row_71 (by decide) (fun _ => ?_) (fun c9 => absurd (by decide) c9)
                refine lv_iload_n hx hb dX12_row_76 rfl (lv_at hl 4 rfl) ?_
                refine lv_bipush (v := (-3)) hx hb dX12_row_77 (by decide) ?_
                refine lv_icmp_ne (tgt := 91) hx hb dX12_row_79 (by decide) (fun c_79 => ?_) (fun c9 => False.elim (c_15 c9))
                have t_79 : (kI).toInt ≠ -3 := toI_ne c_79 rfl (by decide)
                refine lv_iload_n hx hb dX12_row_91 rfl (lv_at hl 4 rfl) ?_
                refine lv_bipush (v := (-2)) hx hb dX12_row_92 (by decide) ?_
                refine lv_icmp_ne (tgt := 110) hx hb dX12_row_94 (by decide) (fun c_94 => ?_) (fun c_94 => ?_)
                · have t_94 : (kI).toInt ≠ -2 := toI_ne c_94 rfl (by decide)
                  refine lv_aload_n hx hb dX12_row_110 rfl (lv_at hl 1 rfl) ?_
                  refine va_get (D := (dC, dI)) (ci := 12) (v := .ref (a 60)) (C := RX12) (T := TX12) (N := 163) (fs := fM (vS a (fT vi 0 0) vj)) hx hb hts iwsRX12_row_in12 hown hK hP 0 rfl rfl 100 (by decide) (hts (.fieldLink RX12 203 "OptimaWorksModel" "wayNumber" "[I") (by decide +kernel)) (fun _ h9 => h9) rfl dX12_row_111 ?_
                  refine lv_bipush (v := 9) hx hb dX12_row_114 (by decide) ?_
                  refine lv_iconst (v := 3) hx hb dX12_row_116 (by decide) ?_
                  refine lv_iload_n hx hb dX12_row_117 rfl (lv_at hl 2 rfl) ?_
                  refine lv_imul hx hb dX12_row_118 ?_
                  refine lv_topi (fun y6 hy6 => ?_)
                  obtain rfl : (nI (3 * rn)) = y6 := (hy6.trans (pk_mul 3 rn)).symm
                  refine lv_iload_n hx hb dX12_row_119 rfl (lv_at hl 3 rfl) ?_
                  refine lv_iadd hx hb dX12_row_120 ?_
                  refine lv_topi (fun y7 hy7 => ?_)
                  obtain rfl : (nI ((3 * rn) + wn)) = y7 := (hy7.trans (nI_add (3 * rn) wn)).symm
                  refine lv_imul hx hb dX12_row_121 ?_
                  refine lv_topi (fun y8 hy8 => ?_)
                  obtain rfl : (nI (9 * ((3 * rn) + wn))) = y8 := (hy8.trans (pk_mul 9 ((3 * rn) + wn))).symm
                  refine lv_iconst (v := 1) hx hb dX12_row_122 (by decide) ?_
                  refine lv_iadd hx hb dX12_row_123 ?_
                  refine lv_topi (fun y9 hy9 => ?_)
                  obtain rfl : (nI ((9 * ((3 * rn) + wn)) + 1)) = y9 := (hy9.trans (nI_add (9 * ((3 * rn) + wn)) 1)).symm
                  refine lv_iload_n hx hb dX12_row_124 rfl (lv_at hl 4 rfl) ?_
                  refine lv_iadd hx hb dX12_row_125 ?_
                  have eix : (nI (9 * (3 * rn + wn) + 1) + kI).toInt = ((9 * (3 * rn + wn) + 1 : Nat) : Int) + (kI).toInt := by rw [addB (by rw [nI_toInt (by omega)]; omega) (by omega), nI_toInt (by omega)]
                  refine va_iald (cA := k 60) (n := 351) (f := (vF 60)) hx hb hK hP 61 60 (WR_get 60 (by decide)) (TR_get 60 (by decide)) (vp_in_iff.mpr (by omega)) dX12_row_126 ?_
                  refine W.widen (k := 0) (n := 0) (by decide +kernel) (by decide +kernel) ?_
                  exact W.iret (v := ((vF 60) (((nI ((9 * ((3 * rn) + wn)) + 1)) + kI)).toNatClampNeg)) hx hb hr (fun t9_ ht hW => ⟨⟨((vF 60) (((nI ((9 * ((3 * rn) + wn)) + 1)) + kI)).toNatClampNeg), 0, rfl, trivial, by rw [ht]; exact hP, hD⟩, hS.F ht⟩) hS.2.2 dX12_row_127
                · have t_94 : (kI).toInt = -2 := toI_nne c_94 rfl (by decide)
                  refine lv_aload_n hx hb dX12_row_97 rfl (lv_at hl 1 rfl) ?_
                  refine va_get (D := (dC, dI)) (ci := 12) (v := .ref (a 61)) (C := RX12) (T := TX12) (N := 163) (fs := fM (vS a (fT vi 0 0) vj)) hx hb hts iwsRX12_row_in12 hown hK hP 0 rfl rfl 101 (by decide) (hts (.fieldLink RX12 206 "OptimaWorksModel" "waySign" "[I") (by decide +kernel)) (fun _ h9 => h9) rfl dX12_row_98 ?_
                  refine lv_iconst (v := 3) hx hb dX12_row_101 (by decide) ?_
                  refine lv_iload_n hx hb dX12_row_102 rfl (lv_at hl 2 rfl) ?_
                  refine lv_imul hx hb dX12_row_103 ?_
                  refine lv_topi (fun y10 hy10 => ?_)
                  obtain rfl : (nI (3 * rn)) = y10 := (hy10.trans (pk_mul 3 rn)).symm
                  refine lv_iload_n hx hb dX12_row_104 rfl (lv_at hl 3 rfl) ?_
                  refine lv_iadd hx hb dX12_row_105 ?_
                  refine lv_topi (fun y11 hy11 => ?_)
                  obtain rfl : (nI ((3 * rn) + wn)) = y11 := (hy11.trans (nI_add (3 * rn) wn)).symm
                  refine va_iald (cA := k 61) (n := 39) (f := (vF 61)) hx hb hK hP 62 61 (WR_get 61 (by decide)) (TR_get 61 (by decide)) (vp_in_nI (show ((3 * rn) + wn) < 39 by omega) (by omega)) dX12_row_106 ?_
                  refine lv_topi (fun y12 hy12 => ?_)
                  obtain rfl : ((vF 61) ((3 * rn) + wn)) = y12 := (hy12.trans (by rw [nI_clamp (by omega)])).symm
                  refine lv_goto (tgt := 127) hx hb dX12_row_107 (by decide) ?_
                  refine W.widen (k := 0) (n := 0) (by decide +kernel) (by decide +kernel) ?_
                  exact W.iret (v := ((vF 61) ((3 * rn) + wn))) hx hb hr (fun t9_ ht hW => ⟨⟨((vF 61) ((3 * rn) + wn)), 0, rfl, trivial, by rw [ht]; exact hP, hD⟩, hS.F ht⟩) hS.2.2 dX12_row_127
theorem dX12_goal_0 : decode cX12_goal 0 = .ok (.aload_n 0, 1) := dk_42 (by decide +kernel)
theorem dX12_goal_1 : decode cX12_goal 1 = .ok (.iload_n 1, 1) := dk_27 (by decide +kernel)
theorem dX12_goal_2 : decode cX12_goal 2 = .ok (.ifCond .lt 29, 3) := dk_155 (by decide +kernel)
theorem dX12_goal_5 : decode cX12_goal 5 = .ok (.iload_n 1, 1) := dk_27 (by decide +kernel)
theorem dX12_goal_6 : decode cX12_goal 6 = .ok (.aload_n 0, 1) := dk_42 (by decide +kernel)
theorem dX12_goal_7 : decode cX12_goal 7 = .ok (.getfield 805, 3) := dk_180 (by decide +kernel)
theorem dX12_goal_10 : decode cX12_goal 10 = .ok (.if_icmp .ge 21, 3) := dk_162 (by decide +kernel)
theorem dX12_goal_13 : decode cX12_goal 13 = .ok (.iload_n 2, 1) := dk_28 (by decide +kernel)
theorem dX12_goal_14 : decode cX12_goal 14 = .ok (.bipush (-2), 2) := dk_16 (by decide +kernel)
theorem dX12_goal_16 : decode cX12_goal 16 = .ok (.if_icmp .lt 15, 3) := dk_161 (by decide +kernel)
theorem dX12_goal_19 : decode cX12_goal 19 = .ok (.iload_n 2, 1) := dk_28 (by decide +kernel)
theorem dX12_goal_20 : decode cX12_goal 20 = .ok (.aload_n 0, 1) := dk_42 (by decide +kernel)
theorem dX12_goal_21 : decode cX12_goal 21 = .ok (.getfield 774, 3) := dk_180 (by decide +kernel)
theorem dX12_goal_24 : decode cX12_goal 24 = .ok (.if_icmp .ge 7, 3) := dk_162 (by decide +kernel)
theorem dX12_goal_27 : decode cX12_goal 27 = .ok (.iconst 0, 1) := dk_3 (by decide +kernel)
theorem dX12_goal_28 : decode cX12_goal 28 = .ok (.goto 4, 3) := dk_167 (by decide +kernel)
theorem dX12_goal_31 : decode cX12_goal 31 = .ok (.iconst 1, 1) := dk_4 (by decide +kernel)
theorem dX12_goal_32 : decode cX12_goal 32 = .ok (.putfield 348, 3) := dk_181 (by decide +kernel)
theorem dX12_goal_35 : decode cX12_goal 35 = .ok (.aload_n 0, 1) := dk_42 (by decide +kernel)
theorem dX12_goal_36 : decode cX12_goal 36 = .ok (.getfield 348, 3) := dk_180 (by decide +kernel)
theorem dX12_goal_39 : decode cX12_goal 39 = .ok (.ifCond .le 5, 3) := dk_158 (by decide +kernel)
theorem dX12_goal_42 : decode cX12_goal 42 = .ok (.iconst 0, 1) := dk_3 (by decide +kernel)
theorem dX12_goal_43 : decode cX12_goal 43 = .ok (.ireturn, 1) := dk_172 (by decide +kernel)
theorem dX12_goal_44 : decode cX12_goal 44 = .ok (.iload_n 2, 1) := dk_28 (by decide +kernel)
theorem dX12_goal_45 : decode cX12_goal 45 = .ok (.bipush (-2), 2) := dk_16 (by decide +kernel)
theorem dX12_goal_47 : decode cX12_goal 47 = .ok (.if_icmp .ne 10, 3) := dk_160 (by decide +kernel)
theorem dX12_goal_50 : decode cX12_goal 50 = .ok (.aload_n 0, 1) := dk_42 (by decide +kernel)
theorem dX12_goal_51 : decode cX12_goal 51 = .ok (.getfield 218, 3) := dk_180 (by decide +kernel)
theorem dX12_goal_54 : decode cX12_goal 54 = .ok (.iload_n 1, 1) := dk_27 (by decide +kernel)
theorem dX12_goal_55 : decode cX12_goal 55 = .ok (.iaload, 1) := dk_46 (by decide +kernel)
theorem dX12_goal_56 : decode cX12_goal 56 = .ok (.ireturn, 1) := dk_172 (by decide +kernel)
theorem dX12_goal_57 : decode cX12_goal 57 = .ok (.iload_n 3, 1) := dk_29 (by decide +kernel)
theorem dX12_goal_58 : decode cX12_goal 58 = .ok (.ifCond .eq 19, 3) := dk_153 (by decide +kernel)
theorem dX12_goal_61 : decode cX12_goal 61 = .ok (.aload_n 0, 1) := dk_42 (by decide +kernel)
theorem dX12_goal_62 : decode cX12_goal 62 = .ok (.getfield 215, 3) := dk_180 (by decide +kernel)
theorem dX12_goal_65 : decode cX12_goal 65 = .ok (.bipush 9, 2) := dk_16 (by decide +kernel)
theorem dX12_goal_67 : decode cX12_goal 67 = .ok (.iload_n 1, 1) := dk_27 (by decide +kernel)
theorem dX12_goal_68 : decode cX12_goal 68 = .ok (.imul, 1) := dk_104 (by decide +kernel)
theorem dX12_goal_69 : decode cX12_goal 69 = .ok (.iconst 1, 1) := dk_4 (by decide +kernel)
theorem dX12_goal_70 : decode cX12_goal 70 = .ok (.iadd, 1) := dk_96 (by decide +kernel)
theorem dX12_goal_71 : decode cX12_goal 71 = .ok (.iload_n 2, 1) := dk_28 (by decide +kernel)
theorem dX12_goal_72 : decode cX12_goal 72 = .ok (.iadd, 1) := dk_96 (by decide +kernel)
theorem dX12_goal_73 : decode cX12_goal 73 = .ok (.iaload, 1) := dk_46 (by decide +kernel)
theorem dX12_goal_74 : decode cX12_goal 74 = .ok (.goto 16, 3) := dk_167 (by decide +kernel)
theorem dX12_goal_77 : decode cX12_goal 77 = .ok (.aload_n 0, 1) := dk_42 (by decide +kernel)
theorem dX12_goal_78 : decode cX12_goal 78 = .ok (.getfield 212, 3) := dk_180 (by decide +kernel)
theorem dX12_goal_81 : decode cX12_goal 81 = .ok (.bipush 9, 2) := dk_16 (by decide +kernel)
theorem dX12_goal_83 : decode cX12_goal 83 = .ok (.iload_n 1, 1) := dk_27 (by decide +kernel)
theorem dX12_goal_84 : decode cX12_goal 84 = .ok (.imul, 1) := dk_104 (by decide +kernel)
theorem dX12_goal_85 : decode cX12_goal 85 = .ok (.iconst 1, 1) := dk_4 (by decide +kernel)
theorem dX12_goal_86 : decode cX12_goal 86 = .ok (.iadd, 1) := dk_96 (by decide +kernel)
theorem dX12_goal_87 : decode cX12_goal 87 = .ok (.iload_n 2, 1) := dk_28 (by decide +kernel)
theorem dX12_goal_88 : decode cX12_goal 88 = .ok (.iadd, 1) := dk_96 (by decide +kernel)
theorem dX12_goal_89 : decode cX12_goal 89 = .ok (.iaload, 1) := dk_46 (by decide +kernel)
theorem dX12_goal_90 : decode cX12_goal 90 = .ok (.ireturn, 1) := dk_172 (by decide +kernel)
def wsRX12_goal : List Cond := .code yX12_goal cX12_goal 4 (some .int) :: ([.fieldLink RX12 348 "OptimaWorksModel" "thrown" "I", .fieldLink RX12 805 "OptimaWorksModel" "modelGoals" "I", .fieldLink RX12 774 "OptimaWorksModel" "variables" "I", .fieldLink RX12 212 "OptimaWorksModel" "goalTop" "[I", .fieldLink RX12 215 "OptimaWorksModel" "goalUnder" "[I", .fieldLink RX12 218 "OptimaWorksModel" "goalMax" "[I"] ++ wsX120)
theorem iwsRX12_goal_in12 : ∀ w ∈ wsX120, w ∈ wsRX12_goal := fun _ h => List.mem_cons_of_mem _ (List.mem_append_right _ h)
theorem gdwsRX12_goal : wsRX12_goal.all goodWord = true := gdC rfl (gdA (by decide +kernel : ([.fieldLink RX12 348 "OptimaWorksModel" "thrown" "I", .fieldLink RX12 805 "OptimaWorksModel" "modelGoals" "I", .fieldLink RX12 774 "OptimaWorksModel" "variables" "I", .fieldLink RX12 212 "OptimaWorksModel" "goalTop" "[I", .fieldLink RX12 215 "OptimaWorksModel" "goalUnder" "[I", .fieldLink RX12 218 "OptimaWorksModel" "goalMax" "[I"] : List Cond).all goodWord = true) gdwsX120)
set_option maxHeartbeats 4000000 in
set_option maxRecDepth 100000 in
/-- goal(g, k, isUnder) -/
theorem r_X12_goal (l : Launch) (dC : Nat → ClassId) (dI : Nat → Nat → Nat) (a : Nat → Nat) (k : Nat → ClassId) (h0 : Nat) (vi : Nat → Int32) (vj : Nat → Int64) (vF : Nat → Nat → Int32) (vG : Nat → Nat → Int64) (gI : Int32) (kI : Int32) (uI : Int32) (vn : Nat) (hvn : vi 90 = nI vn) (hvn8 : vn ≤ 8) (gq : Nat) (hmg : vi 93 = nI gq) (hgq : gq ≤ 3) (sz : Nat) : Met l yX12_goal wsRX12_goal ({ frames := 0, cells := 0, slots := 0, locals := 0 }) (va_Pc [.ref h0, .int gI, .int kI, .int uI] (fun U => U.heap.size = sz ∧ va_P (dC, dI) vwCl (WR a k h0 vi vj vF vG) U.heap ∧ va_K (dC, dI) vwCl (tX12 k) U ∧ va_D (fun _ => True) (WR a k h0 vi vj vF vG))) (va_Qi (fun (r : Int32) (u : Int32) => True) (fun (u : Int32) t => va_P (dC, dI) vwCl (WR a k h0 (fT vi 0 u) vj vF vG) t.heap ∧ va_D (va_A (WR a k h0 vi vj vF vG) sz) (WR a k h0 (fT vi 0 u) vj vF vG)) (va_A (WR a k h0 vi vj vF vG) sz)) 0 0 (va_A (WR a k h0 vi vj vF vG) sz) := by
  refine Met.ofW (cc := cX12_goal) (maxL := 4) (ret := (some .int)) (by decide) rfl ?_
  intro p e s m args below meth c s₁ B hml hv
  obtain ⟨rfl, hsz, hP, hK, hD0⟩ := hv
  have hx := B.exec
  have hb := B.bytes
  have hr := B.returns
  have hts := atoms_spec (ws := wsRX12_goal) B.pre
  have hown : s.vm.findClass RX12 = some m.cls := findClass_of_methodNamed B.named
  have hlocks := B.notSynchronized
  subst hsz
  have hD := hD0.self (sz := s.heap.size)
  generalize hAe : va_A (WR a k h0 vi vj vF vG) s.heap.size = A at hD ⊢
  have hA : ∀ q : Nat, s.heap.size ≤ q → A q := fun q h => by rw [← hAe]; exact Or.inr h
  have hS : va_S A s.heap s.heap [] := va_S.rf
  have hl := lv_entry ([.ref h0, .int gI, .int kI, .int uI]) (n := 4) (Nat.le_of_ble_eq_true rfl)
  rw [lg_entry_eq]
  generalize (lg_sl ([.ref h0, .int gI, .int kI, .int uI]) ++ List.replicate (4 - (lg_sl ([.ref h0, .int gI, .int kI, .int uI])).length) Slot.unset).toArray = ls at hl ⊢
  have hl : lv_has ls 4 [(0, .ref h0), (1, .int gI), (2, .int kI), (3, .int uI)] := hl
  refine lv_aload_n hx hb dX12_goal_0 rfl (lv_at hl 0 rfl) ?_
  refine lv_iload_n hx hb dX12_goal_1 rfl (lv_at hl 1 rfl) ?_
  refine lv_if_lt (tgt := 31) hx hb dX12_goal_2 (by decide) (fun c_2 => ?_) (fun c_2 => ?_)
  · have t_2 : (gI).toInt < 0 := toI_lt c_2 rfl (by decide)
    refine lv_iconst (v := 1) hx hb dX12_goal_31 (by decide) ?_
    refine va_put (D := (dC, dI)) (ci := 12) (v := .int 1) (ty := .int) (C := RX12) (T := TX12) (N := 163) (fs := fM (vS a vi vj)) hx hb hts iwsRX12_goal_in12 tyX12 tyX12_ok nmX12 hown hK hP hD hS 0 rfl rfl 0 (by decide) (hts (.fieldLink RX12 348 "OptimaWorksModel" "thrown" "I") (by decide +kernel)) (fun _ h9 => h9) rfl (by decide +kernel) rfl rfl (Nat.le_of_ble_eq_true rfl) dX12_goal_32 (fun H locs hP hD hS => ?_)
    have hP : va_P (dC, dI) vwCl (WR a k h0 (fT vi 0 1) vj vF vG) H := by rw [← WR_i 0 _ rfl]; exact hP
    have hD : va_D A (WR a k h0 (fT vi 0 1) vj vF vG) := by rw [← WR_i 0 _ rfl]; exact hD
    refine lv_aload_n hx hb dX12_goal_35 rfl (lv_at hl 0 rfl) ?_
    refine va_get (D := (dC, dI)) (ci := 12) (v := .int 1) (C := RX12) (T := TX12) (N := 163) (fs := fM (vS a (fT vi 0 1) vj)) hx hb hts iwsRX12_goal_in12 hown hK hP 0 rfl rfl 0 (by decide) (hts (.fieldLink RX12 348 "OptimaWorksModel" "thrown" "I") (by decide +kernel)) (fun _ h9 => h9) rfl dX12_goal_36 ?_
    refine lv_if_le (tgt := 44) hx hb dX12_goal_39 (by decide) (fun c9 => absurd c9 (by decide)) (fun _ => ?_)
    refine lv_iconst (v := 0) hx hb dX12_goal_42 (by decide) ?_
    refine W.widen (k := 0) (n := 0) (by decide +kernel) (by decide +kernel) ?_
    exact W.iret (v := 0) hx hb hr (fun t9_ ht hW => ⟨⟨0, 1, rfl, trivial, by rw [ht]; exact hP, hD⟩, hS.F ht⟩) hS.2.2 dX12_goal_43
  · have t_2 : ¬ (gI).toInt < 0 := toI_nlt c_2 rfl (by decide)
    refine lv_iload_n hx hb dX12_goal_5 rfl (lv_at hl 1 rfl) ?_
    refine lv_aload_n hx hb dX12_goal_6 rfl (lv_at hl 0 rfl) ?_
    refine va_get (D := (dC, dI)) (ci := 12) (v := .int (vi 93)) (C := RX12) (T := TX12) (N := 163) (fs := fM (vS a vi vj)) hx hb hts iwsRX12_goal_in12 hown hK hP 0 rfl rfl 93 (by decide) (hts (.fieldLink RX12 805 "OptimaWorksModel" "modelGoals" "I") (by decide +kernel)) (fun _ h9 => h9) rfl dX12_goal_7 ?_
    refine lv_topi (fun y1 hy1 => ?_)
    obtain rfl : (nI gq) = y1 := (hy1.trans (hmg)).symm
    refine lv_icmp_ge (tgt := 31) hx hb dX12_goal_10 (by decide) (fun c_10 => ?_) (fun c_10 => ?_)
    · have t_10 : (gI).toInt ≥ ((gq : Nat) : Int) := toI_ge c_10 rfl (nI_toInt (by omega))
      refine lv_iconst (v := 1) hx hb dX12_goal_31 (by decide) ?_
      refine va_put (D := (dC, dI)) (ci := 12) (v := .int 1) (ty := .int) (C := RX12) (T := TX12) (N := 163) (fs := fM (vS a vi vj)) hx hb hts iwsRX12_goal_in12 tyX12 tyX12_ok nmX12 hown hK hP hD hS 0 rfl rfl 0 (by decide) (hts (.fieldLink RX12 348 "OptimaWorksModel" "thrown" "I") (by decide +kernel)) (fun _ h9 => h9) rfl (by decide +kernel) rfl rfl (Nat.le_of_ble_eq_true rfl) dX12_goal_32 (fun H locs hP hD hS => ?_)
      have hP : va_P (dC, dI) vwCl (WR a k h0 (fT vi 0 1) vj vF vG) H := by rw [← WR_i 0 _ rfl]; exact hP
      have hD : va_D A (WR a k h0 (fT vi 0 1) vj vF vG) := by rw [← WR_i 0 _ rfl]; exact hD
      refine lv_aload_n hx hb dX12_goal_35 rfl (lv_at hl 0 rfl) ?_
      refine va_get (D := (dC, dI)) (ci := 12) (v := .int 1) (C := RX12) (T := TX12) (N := 163) (fs := fM (vS a (fT vi 0 1) vj)) hx hb hts iwsRX12_goal_in12 hown hK hP 0 rfl rfl 0 (by decide) (hts (.fieldLink RX12 348 "OptimaWorksModel" "thrown" "I") (by decide +kernel)) (fun _ h9 => h9) rfl dX12_goal_36 ?_
      refine lv_if_le (tgt := 44) hx hb dX12_goal_39 (by decide) (fun c9 => absurd c9 (by decide)) (fun _ => ?_)
      refine lv_iconst (v := 0) hx hb dX12_goal_42 (by decide) ?_
      refine W.widen (k := 0) (n := 0) (by decide +kernel) (by decide +kernel) ?_
      exact W.iret (v := 0) hx hb hr (fun t9_ ht hW => ⟨⟨0, 1, rfl, trivial, by rw [ht]; exact hP, hD⟩, hS.F ht⟩) hS.2.2 dX12_goal_43
    · have t_10 : ¬ (gI).toInt ≥ ((gq : Nat) : Int) := toI_nge c_10 rfl (nI_toInt (by omega))
      have egq : (nI gq).toInt = (gq : Int) := nI_toInt (by omega)
      obtain ⟨gn, h_gn, rfl⟩ := of_toInt (x := gI) (k := 3) (by omega) (by omega)
      have e_gn : (nI gn).toInt = (gn : Int) := nI_toInt (by omega)
      refine lv_iload_n hx hb dX12_goal_13 rfl (lv_at hl 2 rfl) ?_
      refine lv_bipush (v := (-2)) hx hb dX12_goal_14 (by decide) ?_
      refine lv_icmp_lt (tgt := 31) hx hb dX12_goal_16 (by decide) (fun c_16 => ?_) (fun c_16 => ?_)
      · have t_16 : (kI).toInt < -2 := toI_lt c_16 rfl (by decide)
        refine lv_iconst (v := 1) hx hb dX12_goal_31 (by decide) ?_
        refine va_put (D := (dC, dI)) (ci := 12) (v := .int 1) (ty := .int) (C := RX12) (T := TX12) (N := 163) (fs := fM (vS a vi vj)) hx hb hts iwsRX12_goal_in12 tyX12 tyX12_ok nmX12 hown hK hP hD hS 0 rfl rfl 0 (by decide) (hts (.fieldLink RX12 348 "OptimaWorksModel" "thrown" "I") (by decide +kernel)) (fun _ h9 => h9) rfl (by decide +kernel) rfl rfl (Nat.le_of_ble_eq_true rfl) dX12_goal_32 (fun H locs hP hD hS => ?_)
        have hP : va_P (dC, dI) vwCl (WR a k h0 (fT vi 0 1) vj vF vG) H := by rw [← WR_i 0 _ rfl]; exact hP
        have hD : va_D A (WR a k h0 (fT vi 0 1) vj vF vG) := by rw [← WR_i 0 _ rfl]; exact hD
        refine lv_aload_n hx hb dX12_goal_35 rfl (lv_at hl 0 rfl) ?_
        refine va_get (D := (dC, dI)) (ci := 12) (v := .int 1) (C := RX12) (T := TX12) (N := 163) (fs := fM (vS a (fT vi 0 1) vj)) hx hb hts iwsRX12_goal_in12 hown hK hP 0 rfl rfl 0 (by decide) (hts (.fieldLink RX12 348 "OptimaWorksModel" "thrown" "I") (by decide +kernel)) (fun _ h9 => h9) rfl dX12_goal_36 ?_
        refine lv_if_le (tgt := 44) hx hb dX12_goal_39 (by decide) (fun c9 => absurd c9 (by decide)) (fun _ => ?_)
        refine lv_iconst (v := 0) hx hb dX12_goal_42 (by decide) ?_
        refine W.widen (k := 0) (n := 0) (by decide +kernel) (by decide +kernel) ?_
        exact W.iret (v := 0) hx hb hr (fun t9_ ht hW => ⟨⟨0, 1, rfl, trivial, by rw [ht]; exact hP, hD⟩, hS.F ht⟩) hS.2.2 dX12_goal_43
      · have t_16 : ¬ (kI).toInt < -2 := toI_nlt c_16 rfl (by decide)
        refine lv_iload_n hx hb dX12_goal_19 rfl (lv_at hl 2 rfl) ?_
        refine lv_aload_n hx hb dX12_goal_20 rfl (lv_at hl 0 rfl) ?_
        refine va_get (D := (dC, dI)) (ci := 12) (v := .int (vi 90)) (C := RX12) (T := TX12) (N := 163) (fs := fM (vS a vi vj)) hx hb hts iwsRX12_goal_in12 hown hK hP 0 rfl rfl 90 (by decide) (hts (.fieldLink RX12 774 "OptimaWorksModel" "variables" "I") (by decide +kernel)) (fun _ h9 => h9) rfl dX12_goal_21 ?_
        refine lv_topi (fun y2 hy2 => ?_)
        obtain rfl : (nI vn) = y2 := (hy2.trans (hvn)).symm
        refine lv_icmp_ge (tgt := 31) hx hb dX12_goal_24 (by decide) (fun c_24 => ?_) (fun c_24 => ?_)
        · have t_24 : (kI).toInt ≥ ((vn : Nat) : Int) := toI_ge c_24 rfl (nI_toInt (by omega))
          refine lv_iconst (v := 1) hx hb dX12_goal_31 (by decide) ?_
          refine va_put (D := (dC, dI)) (ci := 12) (v := .int 1) (ty := .int) (C := RX12) (T := TX12) (N := 163) (fs := fM (vS a vi vj)) hx hb hts iwsRX12_goal_in12 tyX12 tyX12_ok nmX12 hown hK hP hD hS 0 rfl rfl 0 (by decide) (hts (.fieldLink RX12 348 "OptimaWorksModel" "thrown" "I") (by decide +kernel)) (fun _ h9 => h9) rfl (by decide +kernel) rfl rfl (Nat.le_of_ble_eq_true rfl) dX12_goal_32 (fun H locs hP hD hS => ?_)
          have hP : va_P (dC, dI) vwCl (WR a k h0 (fT vi 0 1) vj vF vG) H := by rw [← WR_i 0 _ rfl]; exact hP
          have hD : va_D A (WR a k h0 (fT vi 0 1) vj vF vG) := by rw [← WR_i 0 _ rfl]; exact hD
          refine lv_aload_n hx hb dX12_goal_35 rfl (lv_at hl 0 rfl) ?_
          refine va_get (D := (dC, dI)) (ci := 12) (v := .int 1) (C := RX12) (T := TX12) (N := 163) (fs := fM (vS a (fT vi 0 1) vj)) hx hb hts iwsRX12_goal_in12 hown hK hP 0 rfl rfl 0 (by decide) (hts (.fieldLink RX12 348 "OptimaWorksModel" "thrown" "I") (by decide +kernel)) (fun _ h9 => h9) rfl dX12_goal_36 ?_
          refine lv_if_le (tgt := 44) hx hb dX12_goal_39 (by decide) (fun c9 => absurd c9 (by decide)) (fun _ => ?_)
          refine lv_iconst (v := 0) hx hb dX12_goal_42 (by decide) ?_
          refine W.widen (k := 0) (n := 0) (by decide +kernel) (by decide +kernel) ?_
          exact W.iret (v := 0) hx hb hr (fun t9_ ht hW => ⟨⟨0, 1, rfl, trivial, by rw [ht]; exact hP, hD⟩, hS.F ht⟩) hS.2.2 dX12_goal_43
        · have t_24 : ¬ (kI).toInt ≥ ((vn : Nat) : Int) := toI_nge c_24 rfl (nI_toInt (by omega))
          refine lv_iconst (v := 0) hx hb dX12_goal_27 (by decide) ?_
          refine lv_goto (tgt := 32) hx hb dX12_goal_28 (by decide) ?_
          refine va_put (D := (dC, dI)) (ci := 12) (v := .int 0) (ty := .int) (C := RX12) (T := TX12) (N := 163) (fs := fM (vS a vi vj)) hx hb hts iwsRX12_goal_in12 tyX12 tyX12_ok nmX12 hown hK hP hD hS 0 rfl rfl 0 (by decide) (hts (.fieldLink RX12 348 "OptimaWorksModel" "thrown" "I") (by decide +kernel)) (fun _ h9 => h9) rfl (by decide +kernel) rfl rfl (Nat.le_of_ble_eq_true rfl) dX12_goal_32 (fun H locs hP hD hS => ?_)
          have hP : va_P (dC, dI) vwCl (WR a k h0 (fT vi 0 0) vj vF vG) H := by rw [← WR_i 0 _ rfl]; exact hP
          have hD : va_D A (WR a k h0 (fT vi 0 0) vj vF vG) := by rw [← WR_i 0 _ rfl]; exact hD
          refine lv_aload_n hx hb dX12_goal_35 rfl (lv_at hl 0 rfl) ?_
          refine va_get (D := (dC, dI)) (ci := 12) (v := .int 0) (C := RX12) (T := TX12) (N := 163) (fs := fM (vS a (fT vi 0 0) vj)) hx hb hts iwsRX12_goal_in12 hown hK hP 0 rfl rfl 0 (by decide) (hts (.fieldLink RX12 348 "OptimaWorksModel" "thrown" "I") (by decide +kernel)) (fun _ h9 => h9) rfl dX12_goal_36 ?_
          refine lv_if_le (tgt := 44) hx hb dX12_goal_39 (by decide) (fun _ => ?_) (fun c9 => absurd (by decide) c9)
          refine lv_iload_n hx hb dX12_goal_44 rfl (lv_at hl 2 rfl) ?_
          refine lv_bipush (v := (-2)) hx hb dX12_goal_45 (by decide) ?_
          refine lv_icmp_ne (tgt := 57) hx hb dX12_goal_47 (by decide) (fun c_47 => ?_) (fun c_47 => ?_)
          · have t_47 : (kI).toInt ≠ -2 := toI_ne c_47 rfl (by decide)
            refine lv_iload_n hx hb dX12_goal_57 rfl (lv_at hl 3 rfl) ?_
            refine lv_if_eq (tgt := 77) hx hb dX12_goal_58 (by decide) (fun c_58 => ?_) (fun c_58 => ?_)
            · have t_58 : (uI).toInt = 0 := toI_eq c_58 rfl (by decide)
              refine lv_aload_n hx hb dX12_goal_77 rfl (lv_at hl 0 rfl) ?_
              refine va_get (D := (dC, dI)) (ci := 12) (v := .ref (a 63)) (C := RX12) (T := TX12) (N := 163) (fs := fM (vS a (fT vi 0 0) vj)) hx hb hts iwsRX12_goal_in12 hown hK hP 0 rfl rfl 103 (by decide) (hts (.fieldLink RX12 212 "OptimaWorksModel" "goalTop" "[I") (by decide +kernel)) (fun _ h9 => h9) rfl dX12_goal_78 ?_
              refine lv_bipush (v := 9) hx hb dX12_goal_81 (by decide) ?_
              refine lv_iload_n hx hb dX12_goal_83 rfl (lv_at hl 1 rfl) ?_
              refine lv_imul hx hb dX12_goal_84 ?_
              refine lv_topi (fun y3 hy3 => ?_)
              obtain rfl : (nI (9 * gn)) = y3 := (hy3.trans (pk_mul 9 gn)).symm
              refine lv_iconst (v := 1) hx hb dX12_goal_85 (by decide) ?_
              refine lv_iadd hx hb dX12_goal_86 ?_
              refine lv_topi (fun y4 hy4 => ?_)
              obtain rfl : (nI ((9 * gn) + 1)) = y4 := (hy4.trans (nI_add (9 * gn) 1)).symm
              refine lv_iload_n hx hb dX12_goal_87 rfl (lv_at hl 2 rfl) ?_
              refine lv_iadd hx hb dX12_goal_88 ?_
              have eix : (nI (9 * gn + 1) + kI).toInt = ((9 * gn + 1 : Nat) : Int) + (kI).toInt := by rw [addB (by rw [nI_toInt (by omega)]; omega) (by omega), nI_toInt (by omega)]
              refine va_iald (cA := k 63) (n := 27) (f := (vF 63)) hx hb hK hP 64 63 (WR_get 63 (by decide)) (TR_get 63 (by decide)) (vp_in_iff.mpr (by omega)) dX12_goal_89 ?_
              refine W.widen (k := 0) (n := 0) (by decide +kernel) (by decide +kernel) ?_
              exact W.iret (v := ((vF 63) (((nI ((9 * gn) + 1)) + kI)).toNatClampNeg)) hx hb hr (fun t9_ ht hW => ⟨⟨((vF 63) (((nI ((9 * gn) + 1)) + kI)).toNatClampNeg), 0, rfl, trivial, by rw [ht]; exact hP, hD⟩, hS.F ht⟩) hS.2.2 dX12_goal_90
            · have t_58 : ¬ (uI).toInt = 0 := toI_neq c_58 rfl (by decide)
              refine lv_aload_n hx hb dX12_goal_61 rfl (lv_at hl 0 rfl) ?_
              refine va_get (D := (dC, dI)) (ci := 12) (v := .ref (a 64)) (C := RX12) (T := TX12) (N := 163) (fs := fM (vS a (fT vi 0 0) vj)) hx hb hts iwsRX12_goal_in12 hown hK hP 0 rfl rfl 104 (by decide) (hts (.fieldLink RX12 215 "OptimaWorksModel" "goalUnder" "[I") (by decide +kernel)) (fun _ h9 => h9) rfl dX12_goal_62 ?_
              refine lv_bipush (v := 9) hx hb dX12_goal_65 (by decide) ?_
              refine lv_iload_n hx hb dX12_goal_67 rfl (lv_at hl 1 rfl) ?_
              refine lv_imul hx hb dX12_goal_68 ?_
              refine lv_topi (fun y5 hy5 => ?_)
              obtain rfl : (nI (9 * gn)) = y5 := (hy5.trans (pk_mul 9 gn)).symm
              refine lv_iconst (v := 1) hx hb dX12_goal_69 (by decide) ?_
              refine lv_iadd hx hb dX12_goal_70 ?_
              refine lv_topi (fun y6 hy6 => ?_)
              obtain rfl : (nI ((9 * gn) + 1)) = y6 := (hy6.trans (nI_add (9 * gn) 1)).symm
              refine lv_iload_n hx hb dX12_goal_71 rfl (lv_at hl 2 rfl) ?_
              refine lv_iadd hx hb dX12_goal_72 ?_
              have eix : (nI (9 * gn + 1) + kI).toInt = ((9 * gn + 1 : Nat) : Int) + (kI).toInt := by rw [addB (by rw [nI_toInt (by omega)]; omega) (by omega), nI_toInt (by omega)]
              refine va_iald (cA := k 64) (n := 27) (f := (vF 64)) hx hb hK hP 65 64 (WR_get 64 (by decide)) (TR_get 64 (by decide)) (vp_in_iff.mpr (by omega)) dX12_goal_73 ?_
              refine lv_goto (tgt := 90) hx hb dX12_goal_74 (by decide) ?_
              refine W.widen (k := 0) (n := 0) (by decide +kernel) (by decide +kernel) ?_
              exact W.iret (v := ((vF 64) (((nI ((9 * gn) + 1)) + kI)).toNatClampNeg)) hx hb hr (fun t9_ ht hW => ⟨⟨((vF 64) (((nI ((9 * gn) + 1)) + kI)).toNatClampNeg), 0, rfl, trivial, by rw [ht]; exact hP, hD⟩, hS.F ht⟩) hS.2.2 dX12_goal_90
          · have t_47 : (kI).toInt = -2 := toI_nne c_47 rfl (by decide)
            refine lv_aload_n hx hb dX12_goal_50 rfl (lv_at hl 0 rfl) ?_
            refine va_get (D := (dC, dI)) (ci := 12) (v := .ref (a 65)) (C := RX12) (T := TX12) (N := 163) (fs := fM (vS a (fT vi 0 0) vj)) hx hb hts iwsRX12_goal_in12 hown hK hP 0 rfl rfl 105 (by decide) (hts (.fieldLink RX12 218 "OptimaWorksModel" "goalMax" "[I") (by decide +kernel)) (fun _ h9 => h9) rfl dX12_goal_51 ?_
            refine lv_iload_n hx hb dX12_goal_54 rfl (lv_at hl 1 rfl) ?_
            refine va_iald (cA := k 65) (n := 3) (f := (vF 65)) hx hb hK hP 66 65 (WR_get 65 (by decide)) (TR_get 65 (by decide)) (vp_in_nI (show gn < 3 by omega) (by omega)) dX12_goal_55 ?_
            refine lv_topi (fun y7 hy7 => ?_)
            obtain rfl : ((vF 65) gn) = y7 := (hy7.trans (by rw [nI_clamp (by omega)])).symm
            refine W.widen (k := 0) (n := 0) (by decide +kernel) (by decide +kernel) ?_
            exact W.iret (v := ((vF 65) gn)) hx hb hr (fun t9_ ht hW => ⟨⟨((vF 65) gn), 0, rfl, trivial, by rw [ht]; exact hP, hD⟩, hS.F ht⟩) hS.2.2 dX12_goal_56
theorem dX12_about_0 : decode cX12_about 0 = .ok (.aload_n 0, 1) := dk_42 (by decide +kernel)
theorem dX12_about_1 : decode cX12_about 1 = .ok (.iconst 0, 1) := dk_3 (by decide +kernel)
theorem dX12_about_2 : decode cX12_about 2 = .ok (.putfield 348, 3) := dk_181 (by decide +kernel)
theorem dX12_about_5 : decode cX12_about 5 = .ok (.iconst 2, 1) := dk_5 (by decide +kernel)
theorem dX12_about_6 : decode cX12_about 6 = .ok (.aload_n 0, 1) := dk_42 (by decide +kernel)
theorem dX12_about_7 : decode cX12_about 7 = .ok (.getfield 774, 3) := dk_180 (by decide +kernel)
theorem dX12_about_10 : decode cX12_about 10 = .ok (.imul, 1) := dk_104 (by decide +kernel)
theorem dX12_about_11 : decode cX12_about 11 = .ok (.istore_n 2, 1) := dk_61 (by decide +kernel)
theorem dX12_about_12 : decode cX12_about 12 = .ok (.iconst 0, 1) := dk_3 (by decide +kernel)
theorem dX12_about_13 : decode cX12_about 13 = .ok (.istore_n 3, 1) := dk_62 (by decide +kernel)
theorem dX12_about_14 : decode cX12_about 14 = .ok (.iload_n 3, 1) := dk_29 (by decide +kernel)
theorem dX12_about_15 : decode cX12_about 15 = .ok (.aload_n 0, 1) := dk_42 (by decide +kernel)
theorem dX12_about_16 : decode cX12_about 16 = .ok (.getfield 786, 3) := dk_180 (by decide +kernel)
theorem dX12_about_19 : decode cX12_about 19 = .ok (.if_icmp .ge 27, 3) := dk_162 (by decide +kernel)
theorem dX12_about_22 : decode cX12_about 22 = .ok (.iload_n 2, 1) := dk_28 (by decide +kernel)
theorem dX12_about_23 : decode cX12_about 23 = .ok (.aload_n 0, 1) := dk_42 (by decide +kernel)
theorem dX12_about_24 : decode cX12_about 24 = .ok (.getfield 200, 3) := dk_180 (by decide +kernel)
theorem dX12_about_27 : decode cX12_about 27 = .ok (.iload_n 3, 1) := dk_29 (by decide +kernel)
theorem dX12_about_28 : decode cX12_about 28 = .ok (.iaload, 1) := dk_46 (by decide +kernel)
theorem dX12_about_29 : decode cX12_about 29 = .ok (.iconst 1, 1) := dk_4 (by decide +kernel)
theorem dX12_about_30 : decode cX12_about 30 = .ok (.if_icmp .ne 7, 3) := dk_160 (by decide +kernel)
theorem dX12_about_33 : decode cX12_about 33 = .ok (.iconst 1, 1) := dk_4 (by decide +kernel)
theorem dX12_about_34 : decode cX12_about 34 = .ok (.goto 4, 3) := dk_167 (by decide +kernel)
theorem dX12_about_37 : decode cX12_about 37 = .ok (.iconst 0, 1) := dk_3 (by decide +kernel)
theorem dX12_about_38 : decode cX12_about 38 = .ok (.iadd, 1) := dk_96 (by decide +kernel)
theorem dX12_about_39 : decode cX12_about 39 = .ok (.istore_n 2, 1) := dk_61 (by decide +kernel)
theorem dX12_about_40 : decode cX12_about 40 = .ok (.iinc 3 1, 3) := dk_132 (by decide +kernel)
theorem dX12_about_43 : decode cX12_about 43 = .ok (.goto (-29), 3) := dk_167 (by decide +kernel)
theorem dX12_about_46 : decode cX12_about 46 = .ok (.iload_n 1, 1) := dk_27 (by decide +kernel)
theorem dX12_about_47 : decode cX12_about 47 = .ok (.tableswitch 104 0 7 #[45, 50, 55, 60, 65, 70, 75, 91], 45) := by decide +kernel
theorem dX12_about_92 : decode cX12_about 92 = .ok (.aload_n 0, 1) := dk_42 (by decide +kernel)
theorem dX12_about_93 : decode cX12_about 93 = .ok (.getfield 468, 3) := dk_180 (by decide +kernel)
theorem dX12_about_96 : decode cX12_about 96 = .ok (.ireturn, 1) := dk_172 (by decide +kernel)
theorem dX12_about_97 : decode cX12_about 97 = .ok (.aload_n 0, 1) := dk_42 (by decide +kernel)
theorem dX12_about_98 : decode cX12_about 98 = .ok (.getfield 933, 3) := dk_180 (by decide +kernel)
theorem dX12_about_101 : decode cX12_about 101 = .ok (.ireturn, 1) := dk_172 (by decide +kernel)
theorem dX12_about_102 : decode cX12_about 102 = .ok (.aload_n 0, 1) := dk_42 (by decide +kernel)
theorem dX12_about_103 : decode cX12_about 103 = .ok (.getfield 774, 3) := dk_180 (by decide +kernel)
theorem dX12_about_106 : decode cX12_about 106 = .ok (.ireturn, 1) := dk_172 (by decide +kernel)
theorem dX12_about_107 : decode cX12_about 107 = .ok (.aload_n 0, 1) := dk_42 (by decide +kernel)
theorem dX12_about_108 : decode cX12_about 108 = .ok (.getfield 786, 3) := dk_180 (by decide +kernel)
theorem dX12_about_111 : decode cX12_about 111 = .ok (.ireturn, 1) := dk_172 (by decide +kernel)
theorem dX12_about_112 : decode cX12_about 112 = .ok (.aload_n 0, 1) := dk_42 (by decide +kernel)
theorem dX12_about_113 : decode cX12_about 113 = .ok (.getfield 805, 3) := dk_180 (by decide +kernel)
theorem dX12_about_116 : decode cX12_about 116 = .ok (.ireturn, 1) := dk_172 (by decide +kernel)
theorem dX12_about_117 : decode cX12_about 117 = .ok (.aload_n 0, 1) := dk_42 (by decide +kernel)
theorem dX12_about_118 : decode cX12_about 118 = .ok (.getfield 802, 3) := dk_180 (by decide +kernel)
theorem dX12_about_121 : decode cX12_about 121 = .ok (.ireturn, 1) := dk_172 (by decide +kernel)
theorem dX12_about_122 : decode cX12_about 122 = .ok (.aload_n 0, 1) := dk_42 (by decide +kernel)
theorem dX12_about_123 : decode cX12_about 123 = .ok (.getfield 808, 3) := dk_180 (by decide +kernel)
theorem dX12_about_126 : decode cX12_about 126 = .ok (.ifCond .eq 10, 3) := dk_153 (by decide +kernel)
theorem dX12_about_129 : decode cX12_about 129 = .ok (.aload_n 0, 1) := dk_42 (by decide +kernel)
theorem dX12_about_130 : decode cX12_about 130 = .ok (.getfield 780, 3) := dk_180 (by decide +kernel)
theorem dX12_about_133 : decode cX12_about 133 = .ok (.goto 4, 3) := dk_167 (by decide +kernel)
theorem dX12_about_136 : decode cX12_about 136 = .ok (.iconst 0, 1) := dk_3 (by decide +kernel)
theorem dX12_about_137 : decode cX12_about 137 = .ok (.ireturn, 1) := dk_172 (by decide +kernel)
theorem dX12_about_138 : decode cX12_about 138 = .ok (.aload_n 0, 1) := dk_42 (by decide +kernel)
theorem dX12_about_139 : decode cX12_about 139 = .ok (.getfield 808, 3) := dk_180 (by decide +kernel)
theorem dX12_about_142 : decode cX12_about 142 = .ok (.ifCond .eq 7, 3) := dk_153 (by decide +kernel)
theorem dX12_about_145 : decode cX12_about 145 = .ok (.iload_n 2, 1) := dk_28 (by decide +kernel)
theorem dX12_about_146 : decode cX12_about 146 = .ok (.goto 4, 3) := dk_167 (by decide +kernel)
theorem dX12_about_149 : decode cX12_about 149 = .ok (.iconst 0, 1) := dk_3 (by decide +kernel)
theorem dX12_about_150 : decode cX12_about 150 = .ok (.ireturn, 1) := dk_172 (by decide +kernel)
theorem dX12_about_151 : decode cX12_about 151 = .ok (.iconst (-1), 1) := dk_2 (by decide +kernel)
theorem dX12_about_152 : decode cX12_about 152 = .ok (.ireturn, 1) := dk_172 (by decide +kernel)
def wsRX12_about : List Cond := .code yX12_about cX12_about 4 (some .int) :: ([.fieldLink RX12 348 "OptimaWorksModel" "thrown" "I", .fieldLink RX12 774 "OptimaWorksModel" "variables" "I", .fieldLink RX12 786 "OptimaWorksModel" "modelRows" "I", .fieldLink RX12 468 "OptimaWorksModel" "taped" "I", .fieldLink RX12 933 "OptimaWorksModel" "printed" "I", .fieldLink RX12 805 "OptimaWorksModel" "modelGoals" "I", .fieldLink RX12 802 "OptimaWorksModel" "differents" "I", .fieldLink RX12 808 "OptimaWorksModel" "isModel" "Z", .fieldLink RX12 780 "OptimaWorksModel" "cases" "I", .fieldLink RX12 200 "OptimaWorksModel" "wayMany" "[I"] ++ wsX120)
theorem iwsRX12_about_in12 : ∀ w ∈ wsX120, w ∈ wsRX12_about := fun _ h => List.mem_cons_of_mem _ (List.mem_append_right _ h)
theorem gdwsRX12_about : wsRX12_about.all goodWord = true := gdC rfl (gdA (by decide +kernel : ([.fieldLink RX12 348 "OptimaWorksModel" "thrown" "I", .fieldLink RX12 774 "OptimaWorksModel" "variables" "I", .fieldLink RX12 786 "OptimaWorksModel" "modelRows" "I", .fieldLink RX12 468 "OptimaWorksModel" "taped" "I", .fieldLink RX12 933 "OptimaWorksModel" "printed" "I", .fieldLink RX12 805 "OptimaWorksModel" "modelGoals" "I", .fieldLink RX12 802 "OptimaWorksModel" "differents" "I", .fieldLink RX12 808 "OptimaWorksModel" "isModel" "Z", .fieldLink RX12 780 "OptimaWorksModel" "cases" "I", .fieldLink RX12 200 "OptimaWorksModel" "wayMany" "[I"] : List Cond).all goodWord = true) gdwsX120)
set_option maxHeartbeats 4000000 in
set_option maxRecDepth 100000 in
/-- about(what) -/
theorem r_X12_about (l : Launch) (dC : Nat → ClassId) (dI : Nat → Nat → Nat) (a : Nat → Nat) (k : Nat → ClassId) (h0 : Nat) (vi : Nat → Int32) (vj : Nat → Int64) (vF : Nat → Nat → Int32) (vG : Nat → Nat → Int64) (wI : Int32) (vn : Nat) (hvn : vi 90 = nI vn) (hvn8 : vn ≤ 8) (mr : Nat) (hmr : vi 91 = nI mr) (hmr12 : mr ≤ 12) (sz : Nat) : Met l yX12_about wsRX12_about ({ frames := 0, cells := 0, slots := 0, locals := 0 }) (va_Pc [.ref h0, .int wI] (fun U => U.heap.size = sz ∧ va_P (dC, dI) vwCl (WR a k h0 vi vj vF vG) U.heap ∧ va_K (dC, dI) vwCl (tX12 k) U ∧ va_D (fun _ => True) (WR a k h0 vi vj vF vG))) (va_Qi (fun (r : Int32) (u : Unit) => True) (fun (u : Unit) t => va_P (dC, dI) vwCl (WR a k h0 (fT vi 0 0) vj vF vG) t.heap ∧ va_D (va_A (WR a k h0 vi vj vF vG) sz) (WR a k h0 (fT vi 0 0) vj vF vG)) (va_A (WR a k h0 vi vj vF vG) sz)) 0 0 (va_A (WR a k h0 vi vj vF vG) sz) := by
  refine Met.ofW (cc := cX12_about) (maxL := 4) (ret := (some .int)) (by decide) rfl ?_
  intro p e s m args below meth c s₁ B hml hv
  obtain ⟨rfl, hsz, hP, hK, hD0⟩ := hv
  have hx := B.exec
  have hb := B.bytes
  have hr := B.returns
  have hts := atoms_spec (ws := wsRX12_about) B.pre
  have hown : s.vm.findClass RX12 = some m.cls := findClass_of_methodNamed B.named
  have hlocks := B.notSynchronized
  subst hsz
  have hD := hD0.self (sz := s.heap.size)
  generalize hAe : va_A (WR a k h0 vi vj vF vG) s.heap.size = A at hD ⊢
  have hA : ∀ q : Nat, s.heap.size ≤ q → A q := fun q h => by rw [← hAe]; exact Or.inr h
  have hS : va_S A s.heap s.heap [] := va_S.rf
  have hl := lv_entry ([.ref h0, .int wI]) (n := 4) (Nat.le_of_ble_eq_true rfl)
  rw [lg_entry_eq]
  generalize (lg_sl ([.ref h0, .int wI]) ++ List.replicate (4 - (lg_sl ([.ref h0, .int wI])).length) Slot.unset).toArray = ls at hl ⊢
  have hl : lv_has ls 4 [(0, .ref h0), (1, .int wI)] := hl
  refine lv_aload_n hx hb dX12_about_0 rfl (lv_at hl 0 rfl) ?_
  refine lv_iconst (v := 0) hx hb dX12_about_1 (by decide) ?_
  refine va_put (D := (dC, dI)) (ci := 12) (v := .int 0) (ty := .int) (C := RX12) (T := TX12) (N := 163) (fs := fM (vS a vi vj)) hx hb hts iwsRX12_about_in12 tyX12 tyX12_ok nmX12 hown hK hP hD hS 0 rfl rfl 0 (by decide) (hts (.fieldLink RX12 348 "OptimaWorksModel" "thrown" "I") (by decide +kernel)) (fun _ h9 => h9) rfl (by decide +kernel) rfl rfl (Nat.le_of_ble_eq_true rfl) dX12_about_2 (fun H locs hP hD hS => ?_)
  have hP : va_P (dC, dI) vwCl (WR a k h0 (fT vi 0 0) vj vF vG) H := by rw [← WR_i 0 _ rfl]; exact hP
  have hD : va_D A (WR a k h0 (fT vi 0 0) vj vF vG) := by rw [← WR_i 0 _ rfl]; exact hD
  refine lv_iconst (v := 2) hx hb dX12_about_5 (by decide) ?_
  refine lv_aload_n hx hb dX12_about_6 rfl (lv_at hl 0 rfl) ?_
  refine va_get (D := (dC, dI)) (ci := 12) (v := .int (vi 90)) (C := RX12) (T := TX12) (N := 163) (fs := fM (vS a (fT vi 0 0) vj)) hx hb hts iwsRX12_about_in12 hown hK hP 0 rfl rfl 90 (by decide) (hts (.fieldLink RX12 774 "OptimaWorksModel" "variables" "I") (by decide +kernel)) (fun _ h9 => h9) rfl dX12_about_7 ?_
  refine lv_topi (fun y1 hy1 => ?_)
  obtain rfl : (nI vn) = y1 := (hy1.trans (hvn)).symm
  refine lv_imul hx hb dX12_about_10 ?_
  refine lv_topi (fun y2 hy2 => ?_)
  obtain rfl : (nI (2 * vn)) = y2 := (hy2.trans (pk_mul 2 vn)).symm
  refine lv_istore_n hx hb dX12_about_11 rfl hl (by decide) rfl (fun ls (hl : lv_has ls _ ([(2, .int (nI (2 * vn))), (0, .ref h0), (1, .int wI)])) => ?_)
  refine lv_iconst (v := 0) hx hb dX12_about_12 (by decide) ?_
  refine lv_istore_n hx hb dX12_about_13 rfl hl (by decide) rfl (fun ls (hl : lv_has ls _ ([(3, .int 0), (2, .int (nI (2 * vn))), (0, .ref h0), (1, .int wI)])) => ?_)
  have hl : lv_has _ _ ([(0, .ref h0), (1, .int wI), (2, .int (nI (2 * vn))), (3, .int (nI 0))]) := lv_sub hl [2, 3, 1, 0] rfl
  refine (fun (loop : ∀ (n9 : Nat) (k5 : Nat) (nq : Int32) (H : Heap) (locs : List Loc) (ls : Array Slot), (k5 ≤ mr) →  (mr < k5 + n9) → va_P (dC, dI) vwCl (WR a k h0 (fT vi 0 0) vj vF vG) H → va_D A (WR a k h0 (fT vi 0 0) vj vF vG) → va_S A s.heap H locs → lv_has ls 4 [(0, .ref h0), (1, .int wI), (2, .int nq), (3, .int (nI k5))] → W p l e _ s m _ below meth c H locs 0 0 _ (F0 m 14 ls [])) => loop (mr + 1) 0 (nI (2 * vn)) _ _ _ (by omega) (by omega) hP hD hS hl) ?_
  intro n9
  induction n9 with
  | zero => intro k5 nq H locs ls hk5 hf9; exact False.elim (by omega)
  | succ n9 ih14 =>
    intro k5 nq H locs ls hk5 hf14 hP hD hS hl
    refine lv_iload_n hx hb dX12_about_14 rfl (lv_at hl 3 rfl) ?_
    refine lv_aload_n hx hb dX12_about_15 rfl (lv_at hl 0 rfl) ?_
    refine va_get (D := (dC, dI)) (ci := 12) (v := .int (vi 91)) (C := RX12) (T := TX12) (N := 163) (fs := fM (vS a (fT vi 0 0) vj)) hx hb hts iwsRX12_about_in12 hown hK hP 0 rfl rfl 91 (by decide) (hts (.fieldLink RX12 786 "OptimaWorksModel" "modelRows" "I") (by decide +kernel)) (fun _ h9 => h9) rfl dX12_about_16 ?_
    refine lv_topi (fun y3 hy3 => ?_)
    obtain rfl : (nI mr) = y3 := (hy3.trans (hmr)).symm
    refine lv_icmp_ge (tgt := 46) hx hb dX12_about_19 (by decide) (fun c_19 => ?_) (fun c_19 => ?_)
    · have t_19 : ((k5 : Nat) : Int) ≥ ((mr : Nat) : Int) := toI_ge c_19 (nI_toInt (by omega)) (nI_toInt (by omega))
      refine lv_iload_n hx hb dX12_about_46 rfl (lv_at hl 1 rfl) ?_
      by_cases s_47_0 : wI = 0
      · have ts_47_0 : (wI).toInt = 0 := toI_eq s_47_0 rfl (by decide)
        refine lv_tableIn (off := 45) (tgt := 92) hx hb dX12_about_47 (by rw [s_47_0]; decide) (by rw [s_47_0]; decide) (by rw [s_47_0]; decide) (by decide) ?_
        refine lv_aload_n hx hb dX12_about_92 rfl (lv_at hl 0 rfl) ?_
        refine va_get (D := (dC, dI)) (ci := 12) (v := .int (vi 16)) (C := RX12) (T := TX12) (N := 163) (fs := fM (vS a (fT vi 0 0) vj)) hx hb hts iwsRX12_about_in12 hown hK hP 0 rfl rfl 16 (by decide) (hts (.fieldLink RX12 468 "OptimaWorksModel" "taped" "I") (by decide +kernel)) (fun _ h9 => h9) rfl dX12_about_93 ?_
        refine W.widen (k := 0) (n := 0) (by decide +kernel) (by decide +kernel) ?_
        exact W.iret (v := (vi 16)) hx hb hr (fun t9_ ht hW => ⟨⟨(vi 16), (), rfl, trivial, by rw [ht]; exact hP, hD⟩, hS.F ht⟩) hS.2.2 dX12_about_96
      · have ts_47_0 : ¬ (wI).toInt = 0 := toI_neq s_47_0 rfl (by decide)
        by_cases s_47_1 : wI = 1
        · have ts_47_1 : (wI).toInt = 1 := toI_eq s_47_1 rfl (by decide)
          refine lv_tableIn (off := 50) (tgt := 97) hx hb dX12_about_47 (by rw [s_47_1]; decide) (by rw [s_47_1]; decide) (by rw [s_47_1]; decide) (by decide) ?_
          refine lv_aload_n hx hb dX12_about_97 rfl (lv_at hl 0 rfl) ?_
          refine va_get (D := (dC, dI)) (ci := 12) (v := .int (vi 125)) (C := RX12) (T := TX12) (N := 163) (fs := fM (vS a (fT vi 0 0) vj)) hx hb hts iwsRX12_about_in12 hown hK hP 0 rfl rfl 125 (by decide) (hts (.fieldLink RX12 933 "OptimaWorksModel" "printed" "I") (by decide +kernel)) (fun _ h9 => h9) rfl dX12_about_98 ?_
          refine W.widen (k := 0) (n := 0) (by decide +kernel) (by decide +kernel) ?_
          exact W.iret (v := (vi 125)) hx hb hr (fun t9_ ht hW => ⟨⟨(vi 125), (), rfl, trivial, by rw [ht]; exact hP, hD⟩, hS.F ht⟩) hS.2.2 dX12_about_101
        · have ts_47_1 : ¬ (wI).toInt = 1 := toI_neq s_47_1 rfl (by decide)
          by_cases s_47_2 : wI = 2
          · have ts_47_2 : (wI).toInt = 2 := toI_eq s_47_2 rfl (by decide)
            refine lv_tableIn (off := 55) (tgt := 102) hx hb dX12_about_47 (by rw [s_47_2]; decide) (by rw [s_47_2]; decide) (by rw [s_47_2]; decide) (by decide) ?_
            refine lv_aload_n hx hb dX12_about_102 rfl (lv_at hl 0 rfl) ?_
            refine va_get (D := (dC, dI)) (ci := 12) (v := .int (vi 90)) (C := RX12) (T := TX12) (N := 163) (fs := fM (vS a (fT vi 0 0) vj)) hx hb hts iwsRX12_about_in12 hown hK hP 0 rfl rfl 90 (by decide) (hts (.fieldLink RX12 774 "OptimaWorksModel" "variables" "I") (by decide +kernel)) (fun _ h9 => h9) rfl dX12_about_103 ?_
            refine lv_topi (fun y4 hy4 => ?_)
            obtain rfl : (nI vn) = y4 := (hy4.trans (hvn)).symm
            refine W.widen (k := 0) (n := 0) (by decide +kernel) (by decide +kernel) ?_
            exact W.iret (v := (nI vn)) hx hb hr (fun t9_ ht hW => ⟨⟨(nI vn), (), rfl, trivial, by rw [ht]; exact hP, hD⟩, hS.F ht⟩) hS.2.2 dX12_about_106
          · have ts_47_2 : ¬ (wI).toInt = 2 := toI_neq s_47_2 rfl (by decide)
            by_cases s_47_3 : wI = 3
            · have ts_47_3 : (wI).toInt = 3 := toI_eq s_47_3 rfl (by decide)
              refine lv_tableIn (off := 60) (tgt := 107) hx hb dX12_about_47 (by rw [s_47_3]; decide) (by rw [s_47_3]; decide) (by rw [s_47_3]; decide) (by decide) ?_
              refine lv_aload_n hx hb dX12_about_107 rfl (lv_at hl 0 rfl) ?_
              refine va_get (D := (dC, dI)) (ci := 12) (v := .int (vi 91)) (C := RX12) (T := TX12) (N := 163) (fs := fM (vS a (fT vi 0 0) vj)) hx hb hts iwsRX12_about_in12 hown hK hP 0 rfl rfl 91 (by decide) (hts (.fieldLink RX12 786 "OptimaWorksModel" "modelRows" "I") (by decide +kernel)) (fun _ h9 => h9) rfl dX12_about_108 ?_
              refine lv_topi (fun y5 hy5 => ?_)
              obtain rfl : (nI mr) = y5 := (hy5.trans (hmr)).symm
              refine W.widen (k := 0) (n := 0) (by decide +kernel) (by decide +kernel) ?_
              exact W.iret (v := (nI mr)) hx hb hr (fun t9_ ht hW => ⟨⟨(nI mr), (), rfl, trivial, by rw [ht]; exact hP, hD⟩, hS.F ht⟩) hS.2.2 dX12_about_111
            · have ts_47_3 : ¬ (wI).toInt = 3 := toI_neq s_47_3 rfl (by decide)
              by_cases s_47_4 : wI = 4
              · have ts_47_4 : (wI).toInt = 4 := toI_eq s_47_4 rfl (by decide)
                refine lv_tableIn (off := 65) (tgt := 112) hx hb dX12_about_47 (by rw [s_47_4]; decide) (by rw [s_47_4]; decide) (by rw [s_47_4]; decide) (by decide) ?_
                refine lv_aload_n hx hb dX12_about_112 rfl (lv_at hl 0 rfl) ?_
                refine va_get (D := (dC, dI)) (ci := 12) (v := .int (vi 93)) (C := RX12) (T := TX12) (N := 163) (fs := fM (vS a (fT vi 0 0) vj)) hx hb hts iwsRX12_about_in12 hown hK hP 0 rfl rfl 93 (by decide) (hts (.fieldLink RX12 805 "OptimaWorksModel" "modelGoals" "I") (by decide +kernel)) (fun _ h9 => h9) rfl dX12_about_113 ?_
                refine W.widen (k := 0) (n := 0) (by decide +kernel) (by decide +kernel) ?_
                exact W.iret (v := (vi 93)) hx hb hr (fun t9_ ht hW => ⟨⟨(vi 93), (), rfl, trivial, by rw [ht]; exact hP, hD⟩, hS.F ht⟩) hS.2.2 dX12_about_116
              · have ts_47_4 : ¬ (wI).toInt = 4 := toI_neq s_47_4 rfl (by decide)
                by_cases s_47_5 : wI = 5
                · have ts_47_5 : (wI).toInt = 5 := toI_eq s_47_5 rfl (by decide)
                  refine lv_tableIn (off := 70) (tgt := 117) hx hb dX12_about_47 (by rw [s_47_5]; decide) (by rw [s_47_5]; decide) (by rw [s_47_5]; decide) (by decide) ?_
                  refine lv_aload_n hx hb dX12_about_117 rfl (lv_at hl 0 rfl) ?_
                  refine va_get (D := (dC, dI)) (ci := 12) (v := .int (vi 92)) (C := RX12) (T := TX12) (N := 163) (fs := fM (vS a (fT vi 0 0) vj)) hx hb hts iwsRX12_about_in12 hown hK hP 0 rfl rfl 92 (by decide) (hts (.fieldLink RX12 802 "OptimaWorksModel" "differents" "I") (by decide +kernel)) (fun _ h9 => h9) rfl dX12_about_118 ?_
                  refine W.widen (k := 0) (n := 0) (by decide +kernel) (by decide +kernel) ?_
                  exact W.iret (v := (vi 92)) hx hb hr (fun t9_ ht hW => ⟨⟨(vi 92), (), rfl, trivial, by rw [ht]; exact hP, hD⟩, hS.F ht⟩) hS.2.2 dX12_about_121
                · have ts_47_5 : ¬ (wI).toInt = 5 := toI_neq s_47_5 rfl (by decide)
                  by_cases s_47_6 : wI = 6
                  · have ts_47_6 : (wI).toInt = 6 := toI_eq s_47_6 rfl (by decide)
                    refine lv_tableIn (off := 75) (tgt := 122) hx hb dX12_about_47 (by rw [s_47_6]; decide) (by rw [s_47_6]; decide) (by rw [s_47_6]; decide) (by decide) ?_
                    refine lv_aload_n hx hb dX12_about_122 rfl (lv_at hl 0 rfl) ?_
                    refine va_get (D := (dC, dI)) (ci := 12) (v := .int (vi 95)) (C := RX12) (T := TX12) (N := 163) (fs := fM (vS a (fT vi 0 0) vj)) hx hb hts iwsRX12_about_in12 hown hK hP 0 rfl rfl 95 (by decide) (hts (.fieldLink RX12 808 "OptimaWorksModel" "isModel" "Z") (by decide +kernel)) (fun _ h9 => h9) rfl dX12_about_123 ?_
                    refine lv_if_eq (tgt := 136) hx hb dX12_about_126 (by decide) (fun c_126 => ?_) (fun c_126 => ?_)
                    · have t_126 : ((vi 95)).toInt = 0 := toI_eq c_126 rfl (by decide)
                      refine lv_iconst (v := 0) hx hb dX12_about_136 (by decide) ?_
                      refine W.widen (k := 0) (n := 0) (by decide +kernel) (by decide +kernel) ?_
                      exact W.iret (v := 0) hx hb hr (fun t9_ ht hW => ⟨⟨0, (), rfl, trivial, by rw [ht]; exact hP, hD⟩, hS.F ht⟩) hS.2.2 dX12_about_137
                    · have t_126 : ¬ ((vi 95)).toInt = 0 := toI_neq c_126 rfl (by decide)
                      refine lv_aload_n hx hb dX12_about_129 rfl (lv_at hl 0 rfl) ?_
                      refine va_get (D := (dC, dI)) (ci := 12) (v := .int (vi 94)) (C := RX12) (T := TX12) (N := 163) (fs := fM (vS a (fT vi 0 0) vj)) hx hb hts iwsRX12_about_in12 hown hK hP 0 rfl rfl 94 (by decide) (hts (.fieldLink RX12 780 "OptimaWorksModel" "cases" "I") (by decide +kernel)) (fun _ h9 => h9) rfl dX12_about_130 ?_
                      refine lv_goto (tgt := 137) hx hb dX12_about_133 (by decide) ?_
                      refine W.widen (k := 0) (n := 0) (by decide +kernel) (by decide +kernel) ?_
                      exact W.iret (v := (vi 94)) hx hb hr (fun t9_ ht hW => ⟨⟨(vi 94), (), rfl, trivial, by rw [ht]; exact hP, hD⟩, hS.F ht⟩) hS.2.2 dX12_about_137
                  · have ts_47_6 : ¬ (wI).toInt = 6 := toI_neq s_47_6 rfl (by decide)
                    by_cases s_47_7 : wI = 7
                    · have ts_47_7 : (wI).toInt = 7 := toI_eq s_47_7 rfl (by decide)
                      refine lv_tableIn (off := 91) (tgt := 138) hx hb dX12_about_47 (by rw [s_47_7]; decide) (by rw [s_47_7]; decide) (by rw [s_47_7]; decide) (by decide) ?_
                      refine lv_aload_n hx hb dX12_about_138 rfl (lv_at hl 0 rfl) ?_
                      refine va_get (D := (dC, dI)) (ci := 12) (v := .int (vi 95)) (C := RX12) (T := TX12) (N := 163) (fs := fM (vS a (fT vi 0 0) vj)) hx hb hts iwsRX12_about_in12 hown hK hP 0 rfl rfl 95 (by decide) (hts (.fieldLink RX12 808 "OptimaWorksModel" "isModel" "Z") (by decide +kernel)) (fun _ h9 => h9) rfl dX12_about_139 ?_
                      refine lv_if_eq (tgt := 149) hx hb dX12_about_142 (by decide) (fun c_142 => ?_) (fun c_142 => ?_)
                      · have t_142 : ((vi 95)).toInt = 0 := toI_eq c_142 rfl (by decide)
                        refine lv_iconst (v := 0) hx hb dX12_about_149 (by decide) ?_
                        refine W.widen (k := 0) (n := 0) (by decide +kernel) (by decide +kernel) ?_
                        exact W.iret (v := 0) hx hb hr (fun t9_ ht hW => ⟨⟨0, (), rfl, trivial, by rw [ht]; exact hP, hD⟩, hS.F ht⟩) hS.2.2 dX12_about_150
                      · have t_142 : ¬ ((vi 95)).toInt = 0 := toI_neq c_142 rfl (by decide)
                        refine lv_iload_n hx hb dX12_about_145 rfl (lv_at hl 2 rfl) ?_
                        refine lv_goto (tgt := 150) hx hb dX12_about_146 (by decide) ?_
                        refine W.widen (k := 0) (n := 0) (by decide +kernel) (by decide +kernel) ?_
                        exact W.iret (v := nq) hx hb hr (fun t9_ ht hW => ⟨⟨nq, (), rfl, trivial, by rw [ht]; exact hP, hD⟩, hS.F ht⟩) hS.2.2 dX12_about_150
                    · have ts_47_7 : ¬ (wI).toInt = 7 := toI_neq s_47_7 rfl (by decide)
                      refine lv_tableOut (tgt := 151) hx hb dX12_about_47 (by have := lv_neT s_47_0 (show Int32.toInt 0 = 0 by decide); have := lv_neT s_47_1 (show Int32.toInt 1 = 1 by decide); have := lv_neT s_47_2 (show Int32.toInt 2 = 2 by decide); have := lv_neT s_47_3 (show Int32.toInt 3 = 3 by decide); have := lv_neT s_47_4 (show Int32.toInt 4 = 4 by decide); have := lv_neT s_47_5 (show Int32.toInt 5 = 5 by decide); have := lv_neT s_47_6 (show Int32.toInt 6 = 6 by decide); have := lv_neT s_47_7 (show Int32.toInt 7 = 7 by decide); omega) (by decide) ?_
                      refine lv_iconst (v := (-1)) hx hb dX12_about_151 (by decide) ?_
                      refine W.widen (k := 0) (n := 0) (by decide +kernel) (by decide +kernel) ?_
                      exact W.iret (v := (-1)) hx hb hr (fun t9_ ht hW => ⟨⟨(-1), (), rfl, trivial, by rw [ht]; exact hP, hD⟩, hS.F ht⟩) hS.2.2 dX12_about_152
    · have t_19 : ¬ ((k5 : Nat) : Int) ≥ ((mr : Nat) : Int) := toI_nge c_19 (nI_toInt (by omega)) (nI_toInt (by omega))
      refine lv_iload_n hx hb dX12_about_22 rfl (lv_at hl 2 rfl) ?_
      refine lv_aload_n hx hb dX12_about_23 rfl (lv_at hl 0 rfl) ?_
      refine va_get (D := (dC, dI)) (ci := 12) (v := .ref (a 59)) (C := RX12) (T := TX12) (N := 163) (fs := fM (vS a (fT vi 0 0) vj)) hx hb hts iwsRX12_about_in12 hown hK hP 0 rfl rfl 99 (by decide) (hts (.fieldLink RX12 200 "OptimaWorksModel" "wayMany" "[I") (by decide +kernel)) (fun _ h9 => h9) rfl dX12_about_24 ?_
      refine lv_iload_n hx hb dX12_about_27 rfl (lv_at hl 3 rfl) ?_
      refine va_iald (cA := k 59) (n := 13) (f := (vF 59)) hx hb hK hP 60 59 (WR_get 59 (by decide)) (TR_get 59 (by decide)) (vp_in_nI (show k5 < 13 by omega) (by omega)) dX12_about_28 ?_
      refine lv_topi (fun y6 hy6 => ?_)
      obtain rfl : ((vF 59) k5) = y6 := (hy6.trans (by rw [nI_clamp (by omega)])).symm
      refine lv_iconst (v := 1) hx hb dX12_about_29 (by decide) ?_
      refine W.cut (pc := 38) (fun H locs ls stk => ∃ (j3_s0 : Int32),  stk = [.int j3_s0, .int nq] ∧ va_P (dC, dI) vwCl (WR a k h0 (fT vi 0 0) vj vF vG) H ∧ va_D A (WR a k h0 (fT vi 0 0) vj vF vG) ∧ va_S A s.heap H locs ∧ lv_has ls 4 [(0, .ref h0), (1, .int wI), (2, .int nq), (3, .int (nI k5))]) (fun join1 => ?_) ?_
      · refine lv_icmp_ne (tgt := 37) hx hb dX12_about_30 (by decide) (fun c_30 => ?_) (fun c_30 => ?_)
        · have t_30 : (((vF 59) k5)).toInt ≠ 1 := toI_ne c_30 rfl (by decide)
          refine lv_iconst (v := 0) hx hb dX12_about_37 (by decide) ?_
          have hl : lv_has _ _ ([(0, .ref h0), (1, .int wI), (2, .int nq), (3, .int (nI k5))]) := lv_sub hl [0, 1, 2, 3] rfl
          exact join1 _ _ _ _ ⟨0, rfl, hP, hD, hS, hl⟩
        · have t_30 : (((vF 59) k5)).toInt = 1 := toI_nne c_30 rfl (by decide)
          refine lv_iconst (v := 1) hx hb dX12_about_33 (by decide) ?_
          refine lv_goto (tgt := 38) hx hb dX12_about_34 (by decide) ?_
          have hl : lv_has _ _ ([(0, .ref h0), (1, .int wI), (2, .int nq), (3, .int (nI k5))]) := lv_sub hl [0, 1, 2, 3] rfl
          exact join1 _ _ _ _ ⟨1, rfl, hP, hD, hS, hl⟩
      · rintro H locs ls stk ⟨j3_s0, rfl, hP, hD, hS, hl⟩
        refine lv_iadd hx hb dX12_about_38 ?_
        refine lv_istore_n hx hb dX12_about_39 rfl hl (by decide) rfl (fun ls (hl : lv_has ls _ ([(2, .int (nq + j3_s0)), (0, .ref h0), (1, .int wI), (3, .int (nI k5))])) => ?_)
        refine lv_iinc (v := (nI (k5 + 1))) hx hb dX12_about_40 hl (k := 3) rfl (nI_add k5 1) (by decide) rfl (fun ls (hl : lv_has ls _ ([(3, .int (nI (k5 + 1))), (2, .int (nq + j3_s0)), (0, .ref h0), (1, .int wI)])) => ?_)
        refine lv_goto (tgt := 14) hx hb dX12_about_43 (by decide) ?_
        have hl : lv_has _ _ ([(0, .ref h0), (1, .int wI), (2, .int (nq + j3_s0)), (3, .int (nI (k5 + 1)))]) := lv_sub hl [2, 3, 1, 0] rfl
        exact ih14 (k5 + 1) (nq + j3_s0) _ _ _ (by omega) (by omega) hP hD hS hl

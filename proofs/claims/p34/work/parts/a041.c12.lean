theorem dX12_begin_0 : decode cX12_begin 0 = .ok (.aload_n 0, 1) := dk_42 (by decide +kernel)
theorem dX12_begin_1 : decode cX12_begin 1 = .ok (.iload_n 1, 1) := dk_27 (by decide +kernel)
theorem dX12_begin_2 : decode cX12_begin 2 = .ok (.iconst 1, 1) := dk_4 (by decide +kernel)
theorem dX12_begin_3 : decode cX12_begin 3 = .ok (.iadd, 1) := dk_96 (by decide +kernel)
theorem dX12_begin_4 : decode cX12_begin 4 = .ok (.putfield 396, 3) := dk_181 (by decide +kernel)
theorem dX12_begin_7 : decode cX12_begin 7 = .ok (.aload_n 0, 1) := dk_42 (by decide +kernel)
theorem dX12_begin_8 : decode cX12_begin 8 = .ok (.iconst 0, 1) := dk_3 (by decide +kernel)
theorem dX12_begin_9 : decode cX12_begin 9 = .ok (.putfield 399, 3) := dk_181 (by decide +kernel)
theorem dX12_begin_12 : decode cX12_begin 12 = .ok (.aload_n 0, 1) := dk_42 (by decide +kernel)
theorem dX12_begin_13 : decode cX12_begin 13 = .ok (.iconst 0, 1) := dk_3 (by decide +kernel)
theorem dX12_begin_14 : decode cX12_begin 14 = .ok (.putfield 402, 3) := dk_181 (by decide +kernel)
theorem dX12_begin_17 : decode cX12_begin 17 = .ok (.aload_n 0, 1) := dk_42 (by decide +kernel)
theorem dX12_begin_18 : decode cX12_begin 18 = .ok (.bipush 20, 2) := dk_16 (by decide +kernel)
theorem dX12_begin_20 : decode cX12_begin 20 = .ok (.lconst 1, 1) := dk_10 (by decide +kernel)
theorem dX12_begin_21 : decode cX12_begin 21 = .ok (.invokevirtual 369, 3) := dk_182 (by decide +kernel)
theorem dX12_begin_24 : decode cX12_begin 24 = .ok (.iconst 0, 1) := dk_3 (by decide +kernel)
theorem dX12_begin_25 : decode cX12_begin 25 = .ok (.istore_n 2, 1) := dk_61 (by decide +kernel)
theorem dX12_begin_26 : decode cX12_begin 26 = .ok (.iload_n 2, 1) := dk_28 (by decide +kernel)
theorem dX12_begin_27 : decode cX12_begin 27 = .ok (.aload_n 0, 1) := dk_42 (by decide +kernel)
theorem dX12_begin_28 : decode cX12_begin 28 = .ok (.getfield 396, 3) := dk_180 (by decide +kernel)
theorem dX12_begin_31 : decode cX12_begin 31 = .ok (.if_icmp .ge 23, 3) := dk_162 (by decide +kernel)
theorem dX12_begin_34 : decode cX12_begin 34 = .ok (.aload_n 0, 1) := dk_42 (by decide +kernel)
theorem dX12_begin_35 : decode cX12_begin 35 = .ok (.getfield 23, 3) := dk_180 (by decide +kernel)
theorem dX12_begin_38 : decode cX12_begin 38 = .ok (.iload_n 2, 1) := dk_28 (by decide +kernel)
theorem dX12_begin_39 : decode cX12_begin 39 = .ok (.iload_n 2, 1) := dk_28 (by decide +kernel)
theorem dX12_begin_40 : decode cX12_begin 40 = .ok (.iastore, 1) := dk_79 (by decide +kernel)
theorem dX12_begin_41 : decode cX12_begin 41 = .ok (.aload_n 0, 1) := dk_42 (by decide +kernel)
theorem dX12_begin_42 : decode cX12_begin 42 = .ok (.getfield 29, 3) := dk_180 (by decide +kernel)
theorem dX12_begin_45 : decode cX12_begin 45 = .ok (.iload_n 2, 1) := dk_28 (by decide +kernel)
theorem dX12_begin_46 : decode cX12_begin 46 = .ok (.iconst 0, 1) := dk_3 (by decide +kernel)
theorem dX12_begin_47 : decode cX12_begin 47 = .ok (.bastore, 1) := dk_84 (by decide +kernel)
theorem dX12_begin_48 : decode cX12_begin 48 = .ok (.iinc 2 1, 3) := dk_132 (by decide +kernel)
theorem dX12_begin_51 : decode cX12_begin 51 = .ok (.goto (-25), 3) := dk_167 (by decide +kernel)
theorem dX12_begin_54 : decode cX12_begin 54 = .ok (.return_, 1) := dk_177 (by decide +kernel)
def wsRX12_begin : List Cond := .code yX12_begin cX12_begin 3 none :: ([.fieldLink RX12 396 "OptimaWorksModel" "columns" "I", .fieldLink RX12 399 "OptimaWorksModel" "rows" "I", .fieldLink RX12 402 "OptimaWorksModel" "goals" "I", .fieldLink RX12 23 "OptimaWorksModel" "columnOf" "[I", .fieldLink RX12 29 "OptimaWorksModel" "still" "[Z"] ++ wsX120 ++ (wsV RX12 369 RX12 yX12_put wsRX12_put))
theorem iwsRX12_begin_in12 : ∀ w ∈ wsX120, w ∈ wsRX12_begin := fun _ h => List.mem_cons_of_mem _ (List.mem_append_left _ (List.mem_append_right _ h))
theorem gwsRX12_begin_0 : GoodIn wsRX12_begin (wsV RX12 369 RX12 yX12_put wsRX12_put) := goodIn_sub (fun _ h => List.mem_cons_of_mem _ (List.mem_append_right _ h)) (gdV (by decide +kernel) gdwsRX12_put)
theorem gdwsRX12_begin : wsRX12_begin.all goodWord = true := gdC rfl (gdA (gdA (by decide +kernel : ([.fieldLink RX12 396 "OptimaWorksModel" "columns" "I", .fieldLink RX12 399 "OptimaWorksModel" "rows" "I", .fieldLink RX12 402 "OptimaWorksModel" "goals" "I", .fieldLink RX12 23 "OptimaWorksModel" "columnOf" "[I", .fieldLink RX12 29 "OptimaWorksModel" "still" "[Z"] : List Cond).all goodWord = true) gdwsX120) (gdV (by decide +kernel) gdwsRX12_put))
set_option maxHeartbeats 4000000 in
set_option maxRecDepth 100000 in
/-- begin(things) -/
theorem r_X12_begin (l : Launch) (dC : Nat → ClassId) (dI : Nat → Nat → Nat) (a : Nat → Nat) (k : Nat → ClassId) (h0 : Nat) (vi : Nat → Int32) (vj : Nat → Int64) (vF : Nat → Nat → Int32) (vG : Nat → Nat → Int64) (n0 : Nat) (mg : Nat → Int) (hBg : Bg (vF 0) mg) (hn0 : n0 < 45) (sz : Nat) : Met l yX12_begin wsRX12_begin ({ frames := 1, cells := 0, slots := 0, locals := 27 }) (va_Pc [.ref h0, .int (nI n0)] (fun U => U.heap.size = sz ∧ va_P (dC, dI) vwCl (WR a k h0 vi vj vF vG) U.heap ∧ va_K (dC, dI) vwCl (tX12 k) U ∧ va_D (fun _ => True) (WR a k h0 vi vj vF vG))) (va_Qv (fun (u : (Nat → Int32) × (Nat → Int32) × (Nat → Int32)) => (Bg (u.1) (fT mg 20 1)) ∧ (∀ j, j < n0 + 1 → (u.2.1) j = nI j) ∧ (∀ j, j < n0 + 1 → (u.2.2) j = 0)) (fun (u : (Nat → Int32) × (Nat → Int32) × (Nat → Int32)) t => va_P (dC, dI) vwCl (WR a k h0 (fT (fT (fT vi 5 (nI (n0 + 1))) 6 0) 7 0) vj (fT (fT (fT vF 0 (u.1)) 4 (u.2.1)) 6 (u.2.2)) vG) t.heap ∧ va_D (va_A (WR a k h0 vi vj vF vG) sz) (WR a k h0 (fT (fT (fT vi 5 (nI (n0 + 1))) 6 0) 7 0) vj (fT (fT (fT vF 0 (u.1)) 4 (u.2.1)) 6 (u.2.2)) vG)) (va_A (WR a k h0 vi vj vF vG) sz)) 0 0 (va_A (WR a k h0 vi vj vF vG) sz) := by
  refine Met.ofW (cc := cX12_begin) (maxL := 3) (ret := none) (by decide) rfl ?_
  intro p e s m args below meth c s₁ B hml hv
  obtain ⟨rfl, hsz, hP, hK, hD0⟩ := hv
  have hx := B.exec
  have hb := B.bytes
  have hr := B.returns
  have hts := atoms_spec (ws := wsRX12_begin) B.pre
  have hown : s.vm.findClass RX12 = some m.cls := findClass_of_methodNamed B.named
  have hlocks := B.notSynchronized
  subst hsz
  have hD := hD0.self (sz := s.heap.size)
  generalize hAe : va_A (WR a k h0 vi vj vF vG) s.heap.size = A at hD ⊢
  have hA : ∀ q : Nat, s.heap.size ≤ q → A q := fun q h => by rw [← hAe]; exact Or.inr h
  have hS : va_S A s.heap s.heap [] := va_S.rf
  have hl := lv_entry ([.ref h0, .int (nI n0)]) (n := 3) (Nat.le_of_ble_eq_true rfl)
  rw [lg_entry_eq]
  generalize (lg_sl ([.ref h0, .int (nI n0)]) ++ List.replicate (3 - (lg_sl ([.ref h0, .int (nI n0)])).length) Slot.unset).toArray = ls at hl ⊢
  have hl : lv_has ls 3 [(0, .ref h0), (1, .int (nI n0))] := hl
  refine lv_aload_n hx hb dX12_begin_0 rfl (lv_at hl 0 rfl) ?_
  refine lv_iload_n hx hb dX12_begin_1 rfl (lv_at hl 1 rfl) ?_
  refine lv_iconst (v := 1) hx hb dX12_begin_2 (by decide) ?_
  refine lv_iadd hx hb dX12_begin_3 ?_
  refine lv_topi (fun y1 hy1 => ?_)
  obtain rfl : (nI (n0 + 1)) = y1 := (hy1.trans (nI_add n0 1)).symm
  refine va_put (D := (dC, dI)) (ci := 12) (v := .int (nI (n0 + 1))) (ty := .int) (C := RX12) (T := TX12) (N := 163) (fs := fM (vS a vi vj)) hx hb hts iwsRX12_begin_in12 tyX12 tyX12_ok nmX12 hown hK hP hD hS 0 rfl rfl 5 (by decide) (hts (.fieldLink RX12 396 "OptimaWorksModel" "columns" "I") (by decide +kernel)) (fun _ h9 => h9) rfl (by decide +kernel) rfl rfl (Nat.le_of_ble_eq_true rfl) dX12_begin_4 (fun H locs hP hD hS => ?_)
  have hP : va_P (dC, dI) vwCl (WR a k h0 (fT vi 5 (nI (n0 + 1))) vj vF vG) H := by rw [← WR_i 5 _ rfl]; exact hP
  have hD : va_D A (WR a k h0 (fT vi 5 (nI (n0 + 1))) vj vF vG) := by rw [← WR_i 5 _ rfl]; exact hD
  refine lv_aload_n hx hb dX12_begin_7 rfl (lv_at hl 0 rfl) ?_
  refine lv_iconst (v := 0) hx hb dX12_begin_8 (by decide) ?_
  refine va_put (D := (dC, dI)) (ci := 12) (v := .int 0) (ty := .int) (C := RX12) (T := TX12) (N := 163) (fs := fM (vS a (fT vi 5 (nI (n0 + 1))) vj)) hx hb hts iwsRX12_begin_in12 tyX12 tyX12_ok nmX12 hown hK hP hD hS 0 rfl rfl 6 (by decide) (hts (.fieldLink RX12 399 "OptimaWorksModel" "rows" "I") (by decide +kernel)) (fun _ h9 => h9) rfl (by decide +kernel) rfl rfl (Nat.le_of_ble_eq_true rfl) dX12_begin_9 (fun H locs hP hD hS => ?_)
  have hP : va_P (dC, dI) vwCl (WR a k h0 (fT (fT vi 5 (nI (n0 + 1))) 6 0) vj vF vG) H := by rw [← WR_i 6 _ rfl]; exact hP
  have hD : va_D A (WR a k h0 (fT (fT vi 5 (nI (n0 + 1))) 6 0) vj vF vG) := by rw [← WR_i 6 _ rfl]; exact hD
  refine lv_aload_n hx hb dX12_begin_12 rfl (lv_at hl 0 rfl) ?_
  refine lv_iconst (v := 0) hx hb dX12_begin_13 (by decide) ?_
  refine va_put (D := (dC, dI)) (ci := 12) (v := .int 0) (ty := .int) (C := RX12) (T := TX12) (N := 163) (fs := fM (vS a (fT (fT vi 5 (nI (n0 + 1))) 6 0) vj)) hx hb hts iwsRX12_begin_in12 tyX12 tyX12_ok nmX12 hown hK hP hD hS 0 rfl rfl 7 (by decide) (hts (.fieldLink RX12 402 "OptimaWorksModel" "goals" "I") (by decide +kernel)) (fun _ h9 => h9) rfl (by decide +kernel) rfl rfl (Nat.le_of_ble_eq_true rfl) dX12_begin_14 (fun H locs hP hD hS => ?_)
  have hP : va_P (dC, dI) vwCl (WR a k h0 (fT (fT (fT vi 5 (nI (n0 + 1))) 6 0) 7 0) vj vF vG) H := by rw [← WR_i 7 _ rfl]; exact hP
  have hD : va_D A (WR a k h0 (fT (fT (fT vi 5 (nI (n0 + 1))) 6 0) 7 0) vj vF vG) := by rw [← WR_i 7 _ rfl]; exact hD
  refine lv_aload_n hx hb dX12_begin_17 rfl (lv_at hl 0 rfl) ?_
  refine lv_bipush (v := 20) hx hb dX12_begin_18 (by decide) ?_
  refine lv_lconst (v := 1) hx hb dX12_begin_20 (by decide) ?_
  have hFc := allFree hD hS hA
  refine va_callv (va_runV (As := [.int 20, .long 1]) (rest := []) ⟨hx, hb, hml, hown, hts⟩ (b_X12_put l dC dI a k h0 (fT (fT (fT vi 5 (nI (n0 + 1))) 6 0) 7 0) vj vF vG 20 1 1 mg hBg (by first | assumption | decide | omega | rfl) (by decide) (by first | assumption | decide | omega | rfl) H.size) (cwV 2 hts gwsRX12_begin_0 rfl rfl rfl (by decide +kernel) ⟨by decide +kernel, by decide +kernel⟩) ⟨fun a U g mk q => by obtain ⟨q0, q1, qP, qK, qD⟩ := q; exact ⟨q0, q1, qP, va_K.moved (u := U) (U := U.calling g mk a) (Vm.Alike.refl U.vm) qK, qD⟩, va_recv hK hP (ci := 12) (q0 := 0) rfl rfl, fun U hU9 hW => ⟨rfl, by rw [hU9], by rw [hU9]; exact hP, va_K.moved hW.alike hK, hD.weaken (fun _ _ _ _ => trivial)⟩⟩ rfl rfl hl.1 rfl (lv_room (Nat.le_of_ble_eq_true rfl)) dX12_begin_21 ⟨by decide +kernel, by decide +kernel⟩) hS (fun q _ h => hFc q h) hFc (fun u t9_ H1 locs ht hvm hw9 hB9 hz1 hk1 hS => ?_)
  obtain ⟨g21, hwit21⟩ : ∃ w9, w9 = u := ⟨u, rfl⟩
  subst hwit21
  obtain ⟨hP1, hD1⟩ := hB9
  rw [ht] at hP1
  have hP := hP1
  have hD := hD1.weaken (fun _ q _ h => hFc q.1 h)
  generalize H1 = H at hP hS ⊢
  have hP : va_P (dC, dI) vwCl (WR a k h0 (fT (fT (fT vi 5 (nI (n0 + 1))) 6 0) 7 0) vj (fT vF 0 g21) vG) H := hP
  have hD : va_D A (WR a k h0 (fT (fT (fT vi 5 (nI (n0 + 1))) 6 0) 7 0) vj (fT vF 0 g21) vG) := hD
  have f21_0 := hw9
  try dsimp only at f21_0
  refine lv_iconst (v := 0) hx hb dX12_begin_24 (by decide) ?_
  refine lv_istore_n hx hb dX12_begin_25 rfl hl (by decide) rfl (fun ls (hl : lv_has ls _ ([(2, .int 0), (0, .ref h0), (1, .int (nI n0))])) => ?_)
  have e9 : fT (fT (fT vF 0 g21) 4 (vF 4)) 6 (vF 6) = fT vF 0 g21 := by funext q9; by_cases h9_0 : q9 = 0; (subst h9_0; exact ((fT_ne _ _ (Nat.ne_of_beq_eq_false rfl)).trans ((fT_ne _ _ (Nat.ne_of_beq_eq_false rfl)).trans (fT_eq _ _ _))).trans (Eq.trans (by first | rfl | assumption | (symm; assumption) | (subst_vars; rfl)) (fT_eq _ _ _).symm)); by_cases h9_4 : q9 = 4; (subst h9_4; exact ((fT_ne _ _ (Nat.ne_of_beq_eq_false rfl)).trans (fT_eq _ _ _)).trans (Eq.trans (by first | rfl | assumption | (symm; assumption) | (subst_vars; rfl)) (fT_ne _ _ (Nat.ne_of_beq_eq_false rfl)).symm)); by_cases h9_6 : q9 = 6; (subst h9_6; exact (fT_eq _ _ _).trans (Eq.trans (by first | rfl | assumption | (symm; assumption) | (subst_vars; rfl)) (fT_ne _ _ (Nat.ne_of_beq_eq_false rfl)).symm)); exact ((fT_ne _ _ h9_6).trans ((fT_ne _ _ h9_4).trans (fT_ne _ _ h9_0))).trans (fT_ne _ _ h9_0).symm
  have hP : va_P (dC, dI) vwCl (WR a k h0 (fT (fT (fT vi 5 (nI (n0 + 1))) 6 0) 7 0) vj (fT (fT (fT vF 0 g21) 4 (vF 4)) 6 (vF 6)) vG) H := by rw [e9]; exact hP
  have hD : va_D A (WR a k h0 (fT (fT (fT vi 5 (nI (n0 + 1))) 6 0) 7 0) vj (fT (fT (fT vF 0 g21) 4 (vF 4)) 6 (vF 6)) vG) := by rw [e9]; exact hD
  clear e9
  have hl : lv_has _ _ ([(2, .int (nI 0)), (0, .ref h0)]) := lv_sub hl [0, 1] rfl
  refine (fun (loop : ∀ (n9 : Nat) (i : Nat) (f4 : Nat → Int32) (f6 : Nat → Int32) (H : Heap) (locs : List Loc) (ls : Array Slot), (i ≤ n0 + 1) → (∀ j, j < i → f4 j = nI j) → (∀ j, j < i → f6 j = 0) →  (n0 + 1 < i + n9) → va_P (dC, dI) vwCl (WR a k h0 (fT (fT (fT vi 5 (nI (n0 + 1))) 6 0) 7 0) vj (fT (fT (fT vF 0 g21) 4 f4) 6 f6) vG) H → va_D A (WR a k h0 (fT (fT (fT vi 5 (nI (n0 + 1))) 6 0) 7 0) vj (fT (fT (fT vF 0 g21) 4 f4) 6 f6) vG) → va_S A s.heap H locs → lv_has ls 3 [(2, .int (nI i)), (0, .ref h0)] → W p l e _ s m _ below meth c H locs 0 0 _ (F0 m 26 ls [])) => loop (n0 + 2) 0 (vF 4) (vF 6) _ _ _ (by omega) (fun j hj => absurd hj (by omega)) (fun j hj => absurd hj (by omega)) (by omega) hP hD hS hl) ?_
  intro n9
  induction n9 with
  | zero => intro i f4 f6 H locs ls hi h4 h6 hf9; exact False.elim (by omega)
  | succ n9 ih26 =>
    intro i f4 f6 H locs ls hi h4 h6 hf26 hP hD hS hl
    refine lv_iload_n hx hb dX12_begin_26 rfl (lv_at hl 0 rfl) ?_
    refine lv_aload_n hx hb dX12_begin_27 rfl (lv_at hl 1 rfl) ?_
    refine va_get (D := (dC, dI)) (ci := 12) (v := .int (nI (n0 + 1))) (C := RX12) (T := TX12) (N := 163) (fs := fM (vS a (fT (fT (fT vi 5 (nI (n0 + 1))) 6 0) 7 0) vj)) hx hb hts iwsRX12_begin_in12 hown hK hP 0 rfl rfl 5 (by decide) (hts (.fieldLink RX12 396 "OptimaWorksModel" "columns" "I") (by decide +kernel)) (fun _ h9 => h9) rfl dX12_begin_28 ?_
    refine lv_icmp_ge (tgt := 54) hx hb dX12_begin_31 (by decide) (fun c_31 => ?_) (fun c_31 => ?_)
    · have t_31 : ((i : Nat) : Int) ≥ (((n0 + 1) : Nat) : Int) := toI_ge c_31 (nI_toInt (by omega)) (nI_toInt (by omega))
      refine W.widen (k := 0) (n := 0) (by decide +kernel) (by decide +kernel) ?_
      exact W.vret hx hb hr (fun t9_ ht hW => ⟨⟨(g21, f4, f6), rfl, by (try dsimp only); exact ⟨f21_0, fun j hj => h4 j (by omega), fun j hj => h6 j (by omega)⟩, by rw [ht]; exact hP, hD⟩, hS.F ht⟩) hS.2.2 dX12_begin_54
    · have t_31 : ¬ ((i : Nat) : Int) ≥ (((n0 + 1) : Nat) : Int) := toI_nge c_31 (nI_toInt (by omega)) (nI_toInt (by omega))
      refine lv_aload_n hx hb dX12_begin_34 rfl (lv_at hl 1 rfl) ?_
      refine va_get (D := (dC, dI)) (ci := 12) (v := .ref (a 4)) (C := RX12) (T := TX12) (N := 163) (fs := fM (vS a (fT (fT (fT vi 5 (nI (n0 + 1))) 6 0) 7 0) vj)) hx hb hts iwsRX12_begin_in12 hown hK hP 0 rfl rfl 8 (by decide) (hts (.fieldLink RX12 23 "OptimaWorksModel" "columnOf" "[I") (by decide +kernel)) (fun _ h9 => h9) rfl dX12_begin_35 ?_
      refine lv_iload_n hx hb dX12_begin_38 rfl (lv_at hl 0 rfl) ?_
      refine lv_iload_n hx hb dX12_begin_39 rfl (lv_at hl 0 rfl) ?_
      refine va_iast (cA := k 4) (n := 46) (f := f4) hx hb hK hP hD hS 5 4 (WR_get 4 (by decide)) (TR_get 4 (by decide)) (vp_in_nI (show i < 46 by omega) (by omega)) dX12_begin_40 (fun H locs hP hD hS => ?_)
      have e9 : fT (fT (fT vF 0 g21) 4 (upd f4 ((nI i)).toNatClampNeg (nI i))) 6 f6 = fT (fT (fT (fT vF 0 g21) 4 f4) 6 f6) 4 (upd f4 ((nI i)).toNatClampNeg (nI i)) := ((fT_sw _ _ _ (Nat.ne_of_beq_eq_false rfl)).trans (congrArg (fun g9 => fT g9 6 f6) (fT_sm _ _ _ _))).symm
      have hP : va_P (dC, dI) vwCl (WR a k h0 (fT (fT (fT vi 5 (nI (n0 + 1))) 6 0) 7 0) vj (fT (fT (fT vF 0 g21) 4 (upd f4 ((nI i)).toNatClampNeg (nI i))) 6 f6) vG) H := by rw [e9, ← WR_F 4 (by decide) _ rfl]; exact hP
      have hD : va_D A (WR a k h0 (fT (fT (fT vi 5 (nI (n0 + 1))) 6 0) 7 0) vj (fT (fT (fT vF 0 g21) 4 (upd f4 ((nI i)).toNatClampNeg (nI i))) 6 f6) vG) := by rw [e9, ← WR_F 4 (by decide) _ rfl]; exact hD
      clear e9
      refine lv_aload_n hx hb dX12_begin_41 rfl (lv_at hl 1 rfl) ?_
      refine va_get (D := (dC, dI)) (ci := 12) (v := .ref (a 6)) (C := RX12) (T := TX12) (N := 163) (fs := fM (vS a (fT (fT (fT vi 5 (nI (n0 + 1))) 6 0) 7 0) vj)) hx hb hts iwsRX12_begin_in12 hown hK hP 0 rfl rfl 10 (by decide) (hts (.fieldLink RX12 29 "OptimaWorksModel" "still" "[Z") (by decide +kernel)) (fun _ h9 => h9) rfl dX12_begin_42 ?_
      refine lv_iload_n hx hb dX12_begin_45 rfl (lv_at hl 0 rfl) ?_
      refine lv_iconst (v := 0) hx hb dX12_begin_46 (by decide) ?_
      refine va_zast (cA := k 6) (n := 46) (f := f6) hx hb hK hP hD hS 7 6 (WR_get 6 (by decide)) (TR_get 6 (by decide)) (vp_in_nI (show i < 46 by omega) (by omega)) dX12_begin_47 (fun H locs hP hD hS => ?_)
      have e9 : fT (fT (fT vF 0 g21) 4 (upd f4 ((nI i)).toNatClampNeg (nI i))) 6 (upd f6 ((nI i)).toNatClampNeg (vp_nar FieldType.boolean 0)) = fT (fT (fT (fT vF 0 g21) 4 (upd f4 ((nI i)).toNatClampNeg (nI i))) 6 f6) 6 (upd f6 ((nI i)).toNatClampNeg (vp_nar FieldType.boolean 0)) := (fT_sm _ _ _ _).symm
      have hP : va_P (dC, dI) vwCl (WR a k h0 (fT (fT (fT vi 5 (nI (n0 + 1))) 6 0) 7 0) vj (fT (fT (fT vF 0 g21) 4 (upd f4 ((nI i)).toNatClampNeg (nI i))) 6 (upd f6 ((nI i)).toNatClampNeg (vp_nar FieldType.boolean 0))) vG) H := by rw [e9, ← WR_F 6 (by decide) _ rfl]; exact hP
      have hD : va_D A (WR a k h0 (fT (fT (fT vi 5 (nI (n0 + 1))) 6 0) 7 0) vj (fT (fT (fT vF 0 g21) 4 (upd f4 ((nI i)).toNatClampNeg (nI i))) 6 (upd f6 ((nI i)).toNatClampNeg (vp_nar FieldType.boolean 0))) vG) := by rw [e9, ← WR_F 6 (by decide) _ rfl]; exact hD
      clear e9
      refine lv_iinc (v := (nI (i + 1))) hx hb dX12_begin_48 hl (k := 0) rfl (nI_add i 1) (by decide) rfl (fun ls (hl : lv_has ls _ ([(2, .int (nI (i + 1))), (0, .ref h0)])) => ?_)
      refine lv_goto (tgt := 26) hx hb dX12_begin_51 (by decide) ?_
      have hl : lv_has _ _ ([(2, .int (nI (i + 1))), (0, .ref h0)]) := lv_sub hl [0, 1] rfl
      exact ih26 (i + 1) (upd f4 ((nI i)).toNatClampNeg (nI i)) (upd f6 ((nI i)).toNatClampNeg (vp_nar FieldType.boolean 0)) _ _ _ (by omega) (fun j hj => by rw [upd_at (by omega)]; by_cases e9 : j = i; (rw [if_pos e9, e9]); (rw [if_neg e9]; exact h4 j (by omega))) (fun j hj => by rw [upd_at (by omega)]; by_cases e9 : j = i; (rw [if_pos e9]; rfl); (rw [if_neg e9]; exact h6 j (by omega))) (by omega) hP hD hS hl
theorem dX12_newRow_0 : decode cX12_newRow 0 = .ok (.aload_n 0, 1) := dk_42 (by decide +kernel)
theorem dX12_newRow_1 : decode cX12_newRow 1 = .ok (.getfield 399, 3) := dk_180 (by decide +kernel)
theorem dX12_newRow_4 : decode cX12_newRow 4 = .ok (.aload_n 0, 1) := dk_42 (by decide +kernel)
theorem dX12_newRow_5 : decode cX12_newRow 5 = .ok (.getfield 402, 3) := dk_180 (by decide +kernel)
theorem dX12_newRow_8 : decode cX12_newRow 8 = .ok (.iadd, 1) := dk_96 (by decide +kernel)
theorem dX12_newRow_9 : decode cX12_newRow 9 = .ok (.istore_n 1, 1) := dk_60 (by decide +kernel)
theorem dX12_newRow_10 : decode cX12_newRow 10 = .ok (.iconst 0, 1) := dk_3 (by decide +kernel)
theorem dX12_newRow_11 : decode cX12_newRow 11 = .ok (.istore_n 2, 1) := dk_61 (by decide +kernel)
theorem dX12_newRow_12 : decode cX12_newRow 12 = .ok (.iload_n 2, 1) := dk_28 (by decide +kernel)
theorem dX12_newRow_13 : decode cX12_newRow 13 = .ok (.aload_n 0, 1) := dk_42 (by decide +kernel)
theorem dX12_newRow_14 : decode cX12_newRow 14 = .ok (.getfield 396, 3) := dk_180 (by decide +kernel)
theorem dX12_newRow_17 : decode cX12_newRow 17 = .ok (.if_icmp .gt 20, 3) := dk_163 (by decide +kernel)
theorem dX12_newRow_20 : decode cX12_newRow 20 = .ok (.aload_n 0, 1) := dk_42 (by decide +kernel)
theorem dX12_newRow_21 : decode cX12_newRow 21 = .ok (.aload_n 0, 1) := dk_42 (by decide +kernel)
theorem dX12_newRow_22 : decode cX12_newRow 22 = .ok (.iload_n 1, 1) := dk_27 (by decide +kernel)
theorem dX12_newRow_23 : decode cX12_newRow 23 = .ok (.iload_n 2, 1) := dk_28 (by decide +kernel)
theorem dX12_newRow_24 : decode cX12_newRow 24 = .ok (.invokevirtual 405, 3) := dk_182 (by decide +kernel)
theorem dX12_newRow_27 : decode cX12_newRow 27 = .ok (.lconst 0, 1) := dk_9 (by decide +kernel)
theorem dX12_newRow_28 : decode cX12_newRow 28 = .ok (.invokevirtual 369, 3) := dk_182 (by decide +kernel)
theorem dX12_newRow_31 : decode cX12_newRow 31 = .ok (.iinc 2 1, 3) := dk_132 (by decide +kernel)
theorem dX12_newRow_34 : decode cX12_newRow 34 = .ok (.goto (-22), 3) := dk_167 (by decide +kernel)
theorem dX12_newRow_37 : decode cX12_newRow 37 = .ok (.iload_n 1, 1) := dk_27 (by decide +kernel)
theorem dX12_newRow_38 : decode cX12_newRow 38 = .ok (.ireturn, 1) := dk_172 (by decide +kernel)
def wsRX12_newRow : List Cond := .code yX12_newRow cX12_newRow 3 (some .int) :: ([.fieldLink RX12 399 "OptimaWorksModel" "rows" "I", .fieldLink RX12 402 "OptimaWorksModel" "goals" "I", .fieldLink RX12 396 "OptimaWorksModel" "columns" "I"] ++ wsX120 ++ (wsV RX12 405 RX12 yX12_at wsRX12_at) ++ (wsV RX12 369 RX12 yX12_put wsRX12_put))
theorem iwsRX12_newRow_in12 : ∀ w ∈ wsX120, w ∈ wsRX12_newRow := fun _ h => List.mem_cons_of_mem _ (List.mem_append_left _ (List.mem_append_left _ (List.mem_append_right _ h)))
theorem gwsRX12_newRow_0 : GoodIn wsRX12_newRow (wsV RX12 405 RX12 yX12_at wsRX12_at) := goodIn_sub (fun _ h => List.mem_cons_of_mem _ (List.mem_append_left _ (List.mem_append_right _ h))) (gdV (by decide +kernel) gdwsRX12_at)
theorem gwsRX12_newRow_1 : GoodIn wsRX12_newRow (wsV RX12 369 RX12 yX12_put wsRX12_put) := goodIn_sub (fun _ h => List.mem_cons_of_mem _ (List.mem_append_right _ h)) (gdV (by decide +kernel) gdwsRX12_put)
theorem gdwsRX12_newRow : wsRX12_newRow.all goodWord = true := gdC rfl (gdA (gdA (gdA (by decide +kernel : ([.fieldLink RX12 399 "OptimaWorksModel" "rows" "I", .fieldLink RX12 402 "OptimaWorksModel" "goals" "I", .fieldLink RX12 396 "OptimaWorksModel" "columns" "I"] : List Cond).all goodWord = true) gdwsX120) (gdV (by decide +kernel) gdwsRX12_at)) (gdV (by decide +kernel) gdwsRX12_put))
set_option maxHeartbeats 4000000 in
set_option maxRecDepth 100000 in
/-- newRow() -/
theorem r_X12_newRow (l : Launch) (dC : Nat → ClassId) (dI : Nat → Nat → Nat) (a : Nat → Nat) (k : Nat → ClassId) (h0 : Nat) (vi : Nat → Int32) (vj : Nat → Int64) (vF : Nat → Nat → Int32) (vG : Nat → Nat → Int64) (C : Nat) (R : Nat) (Gq : Nat) (mg : Nat → Int) (hBg : Bg (vF 0) mg) (hC : vi 5 = nI C) (hR : vi 6 = nI R) (hG : vi 7 = nI Gq) (hC45 : 0 < C ∧ C ≤ 45) (hRG : R + Gq < 60) (hsz : 30 + (R + Gq) * (C + 1) + C < 1000) (sz : Nat) : Met l yX12_newRow wsRX12_newRow ({ frames := 1, cells := 0, slots := 0, locals := 27 }) (va_Pc [.ref h0] (fun U => U.heap.size = sz ∧ va_P (dC, dI) vwCl (WR a k h0 vi vj vF vG) U.heap ∧ va_K (dC, dI) vwCl (tX12 k) U ∧ va_D (fun _ => True) (WR a k h0 vi vj vF vG))) (va_Qi (fun (r : Int32) (u : (Nat → Int32) × (Nat → Int)) => r = (nI (R + Gq)) ∧ (Bg (u.1) (u.2)) ∧ (∀ j, j ≤ C → (u.2) (30 + (R + Gq) * (C + 1) + j) = 0) ∧ (∀ q, (q < 30 + (R + Gq) * (C + 1) ∨ 30 + (R + Gq) * (C + 1) + C < q) → (u.2) q = mg q)) (fun (u : (Nat → Int32) × (Nat → Int)) t => va_P (dC, dI) vwCl (WR a k h0 vi vj (fT vF 0 (u.1)) vG) t.heap ∧ va_D (va_A (WR a k h0 vi vj vF vG) sz) (WR a k h0 vi vj (fT vF 0 (u.1)) vG)) (va_A (WR a k h0 vi vj vF vG) sz)) 0 0 (va_A (WR a k h0 vi vj vF vG) sz) := by
  refine Met.ofW (cc := cX12_newRow) (maxL := 3) (ret := (some .int)) (by decide) rfl ?_
  intro p e s m args below meth c s₁ B hml hv
  obtain ⟨rfl, hsz, hP, hK, hD0⟩ := hv
  have hx := B.exec
  have hb := B.bytes
  have hr := B.returns
  have hts := atoms_spec (ws := wsRX12_newRow) B.pre
  have hown : s.vm.findClass RX12 = some m.cls := findClass_of_methodNamed B.named
  have hlocks := B.notSynchronized
  subst hsz
  have hD := hD0.self (sz := s.heap.size)
  generalize hAe : va_A (WR a k h0 vi vj vF vG) s.heap.size = A at hD ⊢
  have hA : ∀ q : Nat, s.heap.size ≤ q → A q := fun q h => by rw [← hAe]; exact Or.inr h
  have hS : va_S A s.heap s.heap [] := va_S.rf
  have hl := lv_entry ([.ref h0]) (n := 3) (Nat.le_of_ble_eq_true rfl)
  rw [lg_entry_eq]
  generalize (lg_sl ([.ref h0]) ++ List.replicate (3 - (lg_sl ([.ref h0])).length) Slot.unset).toArray = ls at hl ⊢
  have hl : lv_has ls 3 [(0, .ref h0)] := hl
  refine lv_aload_n hx hb dX12_newRow_0 rfl (lv_at hl 0 rfl) ?_
  refine va_get (D := (dC, dI)) (ci := 12) (v := .int (vi 6)) (C := RX12) (T := TX12) (N := 163) (fs := fM (vS a vi vj)) hx hb hts iwsRX12_newRow_in12 hown hK hP 0 rfl rfl 6 (by decide) (hts (.fieldLink RX12 399 "OptimaWorksModel" "rows" "I") (by decide +kernel)) (fun _ h9 => h9) rfl dX12_newRow_1 ?_
  refine lv_topi (fun y1 hy1 => ?_)
  obtain rfl : (nI R) = y1 := (hy1.trans (hR)).symm
  refine lv_aload_n hx hb dX12_newRow_4 rfl (lv_at hl 0 rfl) ?_
  refine va_get (D := (dC, dI)) (ci := 12) (v := .int (vi 7)) (C := RX12) (T := TX12) (N := 163) (fs := fM (vS a vi vj)) hx hb hts iwsRX12_newRow_in12 hown hK hP 0 rfl rfl 7 (by decide) (hts (.fieldLink RX12 402 "OptimaWorksModel" "goals" "I") (by decide +kernel)) (fun _ h9 => h9) rfl dX12_newRow_5 ?_
  refine lv_topi (fun y2 hy2 => ?_)
  obtain rfl : (nI Gq) = y2 := (hy2.trans (hG)).symm
  refine lv_iadd hx hb dX12_newRow_8 ?_
  refine lv_topi (fun y3 hy3 => ?_)
  obtain rfl : (nI (R + Gq)) = y3 := (hy3.trans (nI_add R Gq)).symm
  refine lv_istore_n hx hb dX12_newRow_9 rfl hl (by decide) rfl (fun ls (hl : lv_has ls _ ([(1, .int (nI (R + Gq))), (0, .ref h0)])) => ?_)
  refine lv_iconst (v := 0) hx hb dX12_newRow_10 (by decide) ?_
  refine lv_istore_n hx hb dX12_newRow_11 rfl hl (by decide) rfl (fun ls (hl : lv_has ls _ ([(2, .int 0), (1, .int (nI (R + Gq))), (0, .ref h0)])) => ?_)
  have e9 : fT vF 0 (vF 0) = vF := by funext q9; by_cases h9_0 : q9 = 0; (subst h9_0; exact (fT_eq _ _ _).trans (Eq.trans (by first | rfl | assumption | (symm; assumption) | (subst_vars; rfl)) (Eq.refl _).symm)); exact (fT_ne _ _ h9_0).trans (Eq.refl _).symm
  have hP : va_P (dC, dI) vwCl (WR a k h0 vi vj (fT vF 0 (vF 0)) vG) s.heap := by rw [e9]; exact hP
  have hD : va_D A (WR a k h0 vi vj (fT vF 0 (vF 0)) vG) := by rw [e9]; exact hD
  clear e9
  have hl : lv_has _ _ ([(2, .int (nI 0)), (0, .ref h0), (1, .int (nI (R + Gq)))]) := lv_sub hl [0, 2, 1] rfl
  refine (fun (loop : ∀ (n9 : Nat) (i : Nat) (g : Nat → Int32) (m1 : Nat → Int) (H : Heap) (locs : List Loc) (ls : Array Slot), (Bg g m1) → (i ≤ C + 1) → (∀ j, j < i → m1 (30 + (R + Gq) * (C + 1) + j) = 0) → (∀ q, (q < 30 + (R + Gq) * (C + 1) ∨ 30 + (R + Gq) * (C + 1) + C < q) → m1 q = mg q) →  (C + 1 < i + n9) → va_P (dC, dI) vwCl (WR a k h0 vi vj (fT vF 0 g) vG) H → va_D A (WR a k h0 vi vj (fT vF 0 g) vG) → va_S A s.heap H locs → lv_has ls 3 [(2, .int (nI i)), (0, .ref h0), (1, .int (nI (R + Gq)))] → W p l e _ s m _ below meth c H locs 0 0 _ (F0 m 12 ls [])) => loop (C + 2) 0 (vF 0) mg _ _ _ (hBg) (by omega) (fun j hj => absurd hj (by omega)) (fun q hq => rfl) (by omega) hP hD hS hl) ?_
  intro n9
  induction n9 with
  | zero => intro i g m1 H locs ls hB1 hi hz ho hf9; exact False.elim (by omega)
  | succ n9 ih12 =>
    intro i g m1 H locs ls hB1 hi hz ho hf12 hP hD hS hl
    refine lv_iload_n hx hb dX12_newRow_12 rfl (lv_at hl 0 rfl) ?_
    refine lv_aload_n hx hb dX12_newRow_13 rfl (lv_at hl 1 rfl) ?_
    refine va_get (D := (dC, dI)) (ci := 12) (v := .int (vi 5)) (C := RX12) (T := TX12) (N := 163) (fs := fM (vS a vi vj)) hx hb hts iwsRX12_newRow_in12 hown hK hP 0 rfl rfl 5 (by decide) (hts (.fieldLink RX12 396 "OptimaWorksModel" "columns" "I") (by decide +kernel)) (fun _ h9 => h9) rfl dX12_newRow_14 ?_
    refine lv_topi (fun y4 hy4 => ?_)
    obtain rfl : (nI C) = y4 := (hy4.trans (hC)).symm
    refine lv_icmp_gt (tgt := 37) hx hb dX12_newRow_17 (by decide) (fun c_17 => ?_) (fun c_17 => ?_)
    · have t_17 : ((i : Nat) : Int) > ((C : Nat) : Int) := toI_gt c_17 (nI_toInt (by omega)) (nI_toInt (by omega))
      refine lv_iload_n hx hb dX12_newRow_37 rfl (lv_at hl 2 rfl) ?_
      refine W.widen (k := 0) (n := 0) (by decide +kernel) (by decide +kernel) ?_
      exact W.iret (v := (nI (R + Gq))) hx hb hr (fun t9_ ht hW => ⟨⟨(nI (R + Gq)), (g, m1), rfl, by (try dsimp only); exact ⟨rfl, hB1, fun j hj => hz j (by omega), ho⟩, by rw [ht]; exact hP, hD⟩, hS.F ht⟩) hS.2.2 dX12_newRow_38
    · have t_17 : ¬ ((i : Nat) : Int) > ((C : Nat) : Int) := toI_ngt c_17 (nI_toInt (by omega)) (nI_toInt (by omega))
      refine lv_aload_n hx hb dX12_newRow_20 rfl (lv_at hl 1 rfl) ?_
      refine lv_aload_n hx hb dX12_newRow_21 rfl (lv_at hl 1 rfl) ?_
      refine lv_iload_n hx hb dX12_newRow_22 rfl (lv_at hl 2 rfl) ?_
      refine lv_iload_n hx hb dX12_newRow_23 rfl (lv_at hl 0 rfl) ?_
      have hFc := allFree hD hS hA
      refine va_calli (va_runV (As := [.int (nI (R + Gq)), .int (nI i)]) (rest := [.ref h0]) ⟨hx, hb, hml, hown, hts⟩ (r_X12_at l dC dI a k h0 vi vj (fT vF 0 g) vG (R + Gq) i C (by first | assumption | decide | omega | rfl) H.size) (cwV 2 hts gwsRX12_newRow_0 rfl rfl rfl (by decide +kernel) ⟨by decide +kernel, by decide +kernel⟩) ⟨fun a U g mk q => by obtain ⟨q0, q1, qP, qK, qD⟩ := q; exact ⟨q0, q1, qP, va_K.moved (u := U) (U := U.calling g mk a) (Vm.Alike.refl U.vm) qK, qD⟩, va_recv hK hP (ci := 12) (q0 := 0) rfl rfl, fun U hU9 hW => ⟨rfl, by rw [hU9], by rw [hU9]; exact hP, va_K.moved hW.alike hK, hD.weaken (fun _ _ _ _ => trivial)⟩⟩ rfl rfl hl.1 rfl (lv_room (Nat.le_of_ble_eq_true rfl)) dX12_newRow_24 ⟨by decide +kernel, by decide +kernel⟩) hS (fun q _ h => hFc q h) hFc (fun r24 u t9_ H1 locs ht hvm hw9 hB9 hz1 hk1 hS => ?_)
      obtain ⟨hP1, hD1⟩ := hB9
      rw [ht] at hP1
      have hP := hP1
      have hD := hD1.weaken (fun _ q _ h => hFc q.1 h)
      generalize H1 = H at hP hS ⊢
      have hP : va_P (dC, dI) vwCl (WR a k h0 vi vj (fT vF 0 g) vG) H := hP
      have hD : va_D A (WR a k h0 vi vj (fT vF 0 g) vG) := hD
      obtain rfl := hw9
      refine lv_lconst (v := 0) hx hb dX12_newRow_27 (by decide) ?_
      have hFc := allFree hD hS hA
      refine va_callv (va_runV (As := [.int (nI (30 + (R + Gq) * (C + 1) + i)), .long 0]) (rest := []) ⟨hx, hb, hml, hown, hts⟩ (b_X12_put l dC dI a k h0 vi vj (fT vF 0 g) vG (30 + (R + Gq) * (C + 1) + i) 0 0 m1 hB1 (by first | assumption | decide | omega | rfl) (by decide) (by first | assumption | decide | omega | rfl) H.size) (cwV 2 hts gwsRX12_newRow_1 rfl rfl rfl (by decide +kernel) ⟨by decide +kernel, by decide +kernel⟩) ⟨fun a U g mk q => by obtain ⟨q0, q1, qP, qK, qD⟩ := q; exact ⟨q0, q1, qP, va_K.moved (u := U) (U := U.calling g mk a) (Vm.Alike.refl U.vm) qK, qD⟩, va_recv hK hP (ci := 12) (q0 := 0) rfl rfl, fun U hU9 hW => ⟨rfl, by rw [hU9], by rw [hU9]; exact hP, va_K.moved hW.alike hK, hD.weaken (fun _ _ _ _ => trivial)⟩⟩ rfl rfl hl.1 rfl (lv_room (Nat.le_of_ble_eq_true rfl)) dX12_newRow_28 ⟨by decide +kernel, by decide +kernel⟩) hS (fun q _ h => hFc q h) hFc (fun u t9_ H1 locs ht hvm hw9 hB9 hz1 hk1 hS => ?_)
      obtain ⟨g28, hwit28⟩ : ∃ w9, w9 = u := ⟨u, rfl⟩
      subst hwit28
      obtain ⟨hP1, hD1⟩ := hB9
      rw [ht] at hP1
      have hP := hP1
      have hD := hD1.weaken (fun _ q _ h => hFc q.1 h)
      generalize H1 = H at hP hS ⊢
      have hP : va_P (dC, dI) vwCl (WR a k h0 vi vj (fT (fT vF 0 g) 0 g28) vG) H := hP
      have hD : va_D A (WR a k h0 vi vj (fT (fT vF 0 g) 0 g28) vG) := hD
      have e9 : fT vF 0 g28 = fT (fT vF 0 g) 0 g28 := (fT_sm _ _ _ _).symm
      rw [← e9] at hP hD
      clear e9
      have hP : va_P (dC, dI) vwCl (WR a k h0 vi vj (fT vF 0 g28) vG) H := hP
      have hD : va_D A (WR a k h0 vi vj (fT vF 0 g28) vG) := hD
      have f28_0 := hw9
      try dsimp only at f28_0
      refine lv_iinc (v := (nI (i + 1))) hx hb dX12_newRow_31 hl (k := 0) rfl (nI_add i 1) (by decide) rfl (fun ls (hl : lv_has ls _ ([(2, .int (nI (i + 1))), (0, .ref h0), (1, .int (nI (R + Gq)))])) => ?_)
      refine lv_goto (tgt := 12) hx hb dX12_newRow_34 (by decide) ?_
      have hl : lv_has _ _ ([(2, .int (nI (i + 1))), (0, .ref h0), (1, .int (nI (R + Gq)))]) := lv_sub hl [0, 1, 2] rfl
      exact ih12 (i + 1) g28 (fT m1 (30 + (R + Gq) * (C + 1) + i) 0) _ _ _ (f28_0) (by omega) (fun j hj => by by_cases e9 : j = i; (rw [e9, fT_eq]); (rw [fT_ne _ _ (by omega)]; exact hz j (by omega))) (fun q hq => by (rw [fT_ne _ _ (by omega)]); exact ho q hq) (by omega) hP hD hS hl
theorem dX12_newLine_0 : decode cX12_newLine 0 = .ok (.aload_n 0, 1) := dk_42 (by decide +kernel)
theorem dX12_newLine_1 : decode cX12_newLine 1 = .ok (.invokevirtual 408, 3) := dk_182 (by decide +kernel)
theorem dX12_newLine_4 : decode cX12_newLine 4 = .ok (.istore_n 1, 1) := dk_60 (by decide +kernel)
theorem dX12_newLine_5 : decode cX12_newLine 5 = .ok (.aload_n 0, 1) := dk_42 (by decide +kernel)
theorem dX12_newLine_6 : decode cX12_newLine 6 = .ok (.getfield 26, 3) := dk_180 (by decide +kernel)
theorem dX12_newLine_9 : decode cX12_newLine 9 = .ok (.iload_n 1, 1) := dk_27 (by decide +kernel)
theorem dX12_newLine_10 : decode cX12_newLine 10 = .ok (.aload_n 0, 1) := dk_42 (by decide +kernel)
theorem dX12_newLine_11 : decode cX12_newLine 11 = .ok (.getfield 396, 3) := dk_180 (by decide +kernel)
theorem dX12_newLine_14 : decode cX12_newLine 14 = .ok (.iload_n 1, 1) := dk_27 (by decide +kernel)
theorem dX12_newLine_15 : decode cX12_newLine 15 = .ok (.iadd, 1) := dk_96 (by decide +kernel)
theorem dX12_newLine_16 : decode cX12_newLine 16 = .ok (.iastore, 1) := dk_79 (by decide +kernel)
theorem dX12_newLine_17 : decode cX12_newLine 17 = .ok (.aload_n 0, 1) := dk_42 (by decide +kernel)
theorem dX12_newLine_18 : decode cX12_newLine 18 = .ok (.aload_n 0, 1) := dk_42 (by decide +kernel)
theorem dX12_newLine_19 : decode cX12_newLine 19 = .ok (.iload_n 1, 1) := dk_27 (by decide +kernel)
theorem dX12_newLine_20 : decode cX12_newLine 20 = .ok (.aload_n 0, 1) := dk_42 (by decide +kernel)
theorem dX12_newLine_21 : decode cX12_newLine 21 = .ok (.getfield 396, 3) := dk_180 (by decide +kernel)
theorem dX12_newLine_24 : decode cX12_newLine 24 = .ok (.iconst 1, 1) := dk_4 (by decide +kernel)
theorem dX12_newLine_25 : decode cX12_newLine 25 = .ok (.isub, 1) := dk_100 (by decide +kernel)
theorem dX12_newLine_26 : decode cX12_newLine 26 = .ok (.invokevirtual 405, 3) := dk_182 (by decide +kernel)
theorem dX12_newLine_29 : decode cX12_newLine 29 = .ok (.ldc2_w 412, 3) := dk_20 (by decide +kernel)
theorem dX12_newLine_32 : decode cX12_newLine 32 = .ok (.invokevirtual 369, 3) := dk_182 (by decide +kernel)
theorem dX12_newLine_35 : decode cX12_newLine 35 = .ok (.aload_n 0, 1) := dk_42 (by decide +kernel)
theorem dX12_newLine_36 : decode cX12_newLine 36 = .ok (.dup, 1) := dk_89 (by decide +kernel)
theorem dX12_newLine_37 : decode cX12_newLine 37 = .ok (.getfield 399, 3) := dk_180 (by decide +kernel)
theorem dX12_newLine_40 : decode cX12_newLine 40 = .ok (.iconst 1, 1) := dk_4 (by decide +kernel)
theorem dX12_newLine_41 : decode cX12_newLine 41 = .ok (.iadd, 1) := dk_96 (by decide +kernel)
theorem dX12_newLine_42 : decode cX12_newLine 42 = .ok (.putfield 399, 3) := dk_181 (by decide +kernel)
theorem dX12_newLine_45 : decode cX12_newLine 45 = .ok (.iload_n 1, 1) := dk_27 (by decide +kernel)
theorem dX12_newLine_46 : decode cX12_newLine 46 = .ok (.ireturn, 1) := dk_172 (by decide +kernel)
def wsRX12_newLine : List Cond := .code yX12_newLine cX12_newLine 2 (some .int) :: ([.fieldLink RX12 26 "OptimaWorksModel" "rowOf" "[I", .fieldLink RX12 396 "OptimaWorksModel" "columns" "I", .constantLong RX12 412 (-1), .fieldLink RX12 399 "OptimaWorksModel" "rows" "I"] ++ wsX120 ++ (wsV RX12 408 RX12 yX12_newRow wsRX12_newRow) ++ (wsV RX12 405 RX12 yX12_at wsRX12_at) ++ (wsV RX12 369 RX12 yX12_put wsRX12_put))
theorem iwsRX12_newLine_in12 : ∀ w ∈ wsX120, w ∈ wsRX12_newLine := fun _ h => List.mem_cons_of_mem _ (List.mem_append_left _ (List.mem_append_left _ (List.mem_append_left _ (List.mem_append_right _ h))))
theorem gwsRX12_newLine_0 : GoodIn wsRX12_newLine (wsV RX12 408 RX12 yX12_newRow wsRX12_newRow) := goodIn_sub (fun _ h => List.mem_cons_of_mem _ (List.mem_append_left _ (List.mem_append_left _ (List.mem_append_right _ h)))) (gdV (by decide +kernel) gdwsRX12_newRow)
theorem gwsRX12_newLine_1 : GoodIn wsRX12_newLine (wsV RX12 405 RX12 yX12_at wsRX12_at) := goodIn_sub (fun _ h => List.mem_cons_of_mem _ (List.mem_append_left _ (List.mem_append_right _ h))) (gdV (by decide +kernel) gdwsRX12_at)
theorem gwsRX12_newLine_2 : GoodIn wsRX12_newLine (wsV RX12 369 RX12 yX12_put wsRX12_put) := goodIn_sub (fun _ h => List.mem_cons_of_mem _ (List.mem_append_right _ h)) (gdV (by decide +kernel) gdwsRX12_put)
theorem gdwsRX12_newLine : wsRX12_newLine.all goodWord = true := gdC rfl (gdA (gdA (gdA (gdA (by decide +kernel : ([.fieldLink RX12 26 "OptimaWorksModel" "rowOf" "[I", .fieldLink RX12 396 "OptimaWorksModel" "columns" "I", .constantLong RX12 412 (-1), .fieldLink RX12 399 "OptimaWorksModel" "rows" "I"] : List Cond).all goodWord = true) gdwsX120) (gdV (by decide +kernel) gdwsRX12_newRow)) (gdV (by decide +kernel) gdwsRX12_at)) (gdV (by decide +kernel) gdwsRX12_put))
set_option maxHeartbeats 4000000 in
set_option maxRecDepth 100000 in
/-- newLine() -/
theorem r_X12_newLine (l : Launch) (dC : Nat → ClassId) (dI : Nat → Nat → Nat) (a : Nat → Nat) (k : Nat → ClassId) (h0 : Nat) (vi : Nat → Int32) (vj : Nat → Int64) (vF : Nat → Nat → Int32) (vG : Nat → Nat → Int64) (C : Nat) (R : Nat) (mg : Nat → Int) (hBg : Bg (vF 0) mg) (hC : vi 5 = nI C) (hR : vi 6 = nI R) (hG : vi 7 = 0) (hC45 : 0 < C ∧ C ≤ 45) (hRG : R < 59) (hsz : 30 + R * (C + 1) + C < 1000) (sz : Nat) : Met l yX12_newLine wsRX12_newLine ({ frames := 2, cells := 0, slots := 0, locals := 49 }) (va_Pc [.ref h0] (fun U => U.heap.size = sz ∧ va_P (dC, dI) vwCl (WR a k h0 vi vj vF vG) U.heap ∧ va_K (dC, dI) vwCl (tX12 k) U ∧ va_D (fun _ => True) (WR a k h0 vi vj vF vG))) (va_Qi (fun (r : Int32) (u : (Nat → Int32) × (Nat → Int)) => r = (nI R) ∧ (Bg (u.1) (u.2)) ∧ (∀ j, j ≤ C → (u.2) (30 + R * (C + 1) + j) = if j = C - 1 then -1 else 0) ∧ (∀ q, (q < 30 + R * (C + 1) ∨ 30 + R * (C + 1) + C < q) → (u.2) q = mg q)) (fun (u : (Nat → Int32) × (Nat → Int)) t => va_P (dC, dI) vwCl (WR a k h0 (fT vi 6 (nI (R + 1))) vj (fT (fT vF 0 (u.1)) 5 (upd (vF 5) (nI R).toNatClampNeg (nI (C + R)))) vG) t.heap ∧ va_D (va_A (WR a k h0 vi vj vF vG) sz) (WR a k h0 (fT vi 6 (nI (R + 1))) vj (fT (fT vF 0 (u.1)) 5 (upd (vF 5) (nI R).toNatClampNeg (nI (C + R)))) vG)) (va_A (WR a k h0 vi vj vF vG) sz)) 0 0 (va_A (WR a k h0 vi vj vF vG) sz) := by
  refine Met.ofW (cc := cX12_newLine) (maxL := 2) (ret := (some .int)) (by decide) rfl ?_
  intro p e s m args below meth c s₁ B hml hv
  obtain ⟨rfl, hsz, hP, hK, hD0⟩ := hv
  have hx := B.exec
  have hb := B.bytes
  have hr := B.returns
  have hts := atoms_spec (ws := wsRX12_newLine) B.pre
  have hown : s.vm.findClass RX12 = some m.cls := findClass_of_methodNamed B.named
  have hlocks := B.notSynchronized
  subst hsz
  have hD := hD0.self (sz := s.heap.size)
  generalize hAe : va_A (WR a k h0 vi vj vF vG) s.heap.size = A at hD ⊢
  have hA : ∀ q : Nat, s.heap.size ≤ q → A q := fun q h => by rw [← hAe]; exact Or.inr h
  have hS : va_S A s.heap s.heap [] := va_S.rf
  have hl := lv_entry ([.ref h0]) (n := 2) (Nat.le_of_ble_eq_true rfl)
  rw [lg_entry_eq]
  generalize (lg_sl ([.ref h0]) ++ List.replicate (2 - (lg_sl ([.ref h0])).length) Slot.unset).toArray = ls at hl ⊢
  have hl : lv_has ls 2 [(0, .ref h0)] := hl
  refine lv_aload_n hx hb dX12_newLine_0 rfl (lv_at hl 0 rfl) ?_
  have hFc := allFree hD hS hA
  refine va_calli (va_runV (As := []) (rest := []) ⟨hx, hb, hml, hown, hts⟩ (r_X12_newRow l dC dI a k h0 vi vj vF vG C R 0 mg hBg (by first | assumption | decide | omega | rfl) (by first | assumption | decide | omega | rfl) (hG.trans nI_0.symm) (by first | assumption | decide | omega | rfl) (by first | assumption | decide | omega | rfl) (by first | assumption | decide | omega | rfl) s.heap.size) (cwV 0 hts gwsRX12_newLine_0 rfl rfl rfl (by decide +kernel) ⟨by decide +kernel, by decide +kernel⟩) ⟨fun a U g mk q => by obtain ⟨q0, q1, qP, qK, qD⟩ := q; exact ⟨q0, q1, qP, va_K.moved (u := U) (U := U.calling g mk a) (Vm.Alike.refl U.vm) qK, qD⟩, va_recv hK hP (ci := 12) (q0 := 0) rfl rfl, fun U hU9 hW => ⟨rfl, by rw [hU9], by rw [hU9]; exact hP, va_K.moved hW.alike hK, hD.weaken (fun _ _ _ _ => trivial)⟩⟩ rfl rfl hl.1 rfl (lv_room (Nat.le_of_ble_eq_true rfl)) dX12_newLine_1 ⟨by decide +kernel, by decide +kernel⟩) hS (fun q _ h => hFc q h) hFc (fun r1 u t9_ H1 locs ht hvm hw9 hB9 hz1 hk1 hS => ?_)
  obtain ⟨g1, m21⟩ := u
  try dsimp only at hw9 hB9
  obtain ⟨hP1, hD1⟩ := hB9
  rw [ht] at hP1
  have hP := hP1
  have hD := hD1.weaken (fun _ q _ h => hFc q.1 h)
  generalize H1 = H at hP hS ⊢
  have hP : va_P (dC, dI) vwCl (WR a k h0 vi vj (fT vF 0 g1) vG) H := hP
  have hD : va_D A (WR a k h0 vi vj (fT vF 0 g1) vG) := hD
  obtain ⟨rfl, f1_0, f1_1, f1_2⟩ := hw9
  rw [Nat.add_zero] at f1_1 f1_2
  refine lv_topi (fun y1 hy1 => ?_)
  obtain rfl : (nI R) = y1 := (hy1.trans (rfl)).symm
  refine lv_istore_n hx hb dX12_newLine_4 rfl hl (by decide) rfl (fun ls (hl : lv_has ls _ ([(1, .int (nI R)), (0, .ref h0)])) => ?_)
  refine lv_aload_n hx hb dX12_newLine_5 rfl (lv_at hl 1 rfl) ?_
  refine va_get (D := (dC, dI)) (ci := 12) (v := .ref (a 5)) (C := RX12) (T := TX12) (N := 163) (fs := fM (vS a vi vj)) hx hb hts iwsRX12_newLine_in12 hown hK hP 0 rfl rfl 9 (by decide) (hts (.fieldLink RX12 26 "OptimaWorksModel" "rowOf" "[I") (by decide +kernel)) (fun _ h9 => h9) rfl dX12_newLine_6 ?_
  refine lv_iload_n hx hb dX12_newLine_9 rfl (lv_at hl 0 rfl) ?_
  refine lv_aload_n hx hb dX12_newLine_10 rfl (lv_at hl 1 rfl) ?_
  refine va_get (D := (dC, dI)) (ci := 12) (v := .int (vi 5)) (C := RX12) (T := TX12) (N := 163) (fs := fM (vS a vi vj)) hx hb hts iwsRX12_newLine_in12 hown hK hP 0 rfl rfl 5 (by decide) (hts (.fieldLink RX12 396 "OptimaWorksModel" "columns" "I") (by decide +kernel)) (fun _ h9 => h9) rfl dX12_newLine_11 ?_
  refine lv_topi (fun y2 hy2 => ?_)
  obtain rfl : (nI C) = y2 := (hy2.trans (hC)).symm
  refine lv_iload_n hx hb dX12_newLine_14 rfl (lv_at hl 0 rfl) ?_
  refine lv_iadd hx hb dX12_newLine_15 ?_
  refine lv_topi (fun y3 hy3 => ?_)
  obtain rfl : (nI (C + R)) = y3 := (hy3.trans (nI_add C R)).symm
  refine va_iast (cA := k 5) (n := 60) (f := (vF 5)) hx hb hK hP hD hS 6 5 (WR_get 5 (by decide)) (TR_get 5 (by decide)) (vp_in_nI (show R < 60 by omega) (by omega)) dX12_newLine_16 (fun H locs hP hD hS => ?_)
  have hP : va_P (dC, dI) vwCl (WR a k h0 vi vj (fT (fT vF 0 g1) 5 (upd (vF 5) ((nI R)).toNatClampNeg (nI (C + R)))) vG) H := by rw [← WR_F 5 (by decide) _ rfl]; exact hP
  have hD : va_D A (WR a k h0 vi vj (fT (fT vF 0 g1) 5 (upd (vF 5) ((nI R)).toNatClampNeg (nI (C + R)))) vG) := by rw [← WR_F 5 (by decide) _ rfl]; exact hD
  refine lv_aload_n hx hb dX12_newLine_17 rfl (lv_at hl 1 rfl) ?_
  refine lv_aload_n hx hb dX12_newLine_18 rfl (lv_at hl 1 rfl) ?_
  refine lv_iload_n hx hb dX12_newLine_19 rfl (lv_at hl 0 rfl) ?_
  refine lv_aload_n hx hb dX12_newLine_20 rfl (lv_at hl 1 rfl) ?_
  refine va_get (D := (dC, dI)) (ci := 12) (v := .int (vi 5)) (C := RX12) (T := TX12) (N := 163) (fs := fM (vS a vi vj)) hx hb hts iwsRX12_newLine_in12 hown hK hP 0 rfl rfl 5 (by decide) (hts (.fieldLink RX12 396 "OptimaWorksModel" "columns" "I") (by decide +kernel)) (fun _ h9 => h9) rfl dX12_newLine_21 ?_
  refine lv_topi (fun y4 hy4 => ?_)
  obtain rfl : (nI C) = y4 := (hy4.trans (hC)).symm
  refine lv_iconst (v := 1) hx hb dX12_newLine_24 (by decide) ?_
  refine lv_isub hx hb dX12_newLine_25 ?_
  refine lv_topi (fun y5 hy5 => ?_)
  obtain rfl : (nI (C - 1)) = y5 := (hy5.trans (pk_sub (a := C) (b := 1) (by omega))).symm
  have hFc := allFree hD hS hA
  refine va_calli (va_runV (As := [.int (nI R), .int (nI (C - 1))]) (rest := [.ref h0]) ⟨hx, hb, hml, hown, hts⟩ (r_X12_at l dC dI a k h0 vi vj (fT (fT vF 0 g1) 5 (upd (vF 5) ((nI R)).toNatClampNeg (nI (C + R)))) vG R (C - 1) C (by first | assumption | decide | omega | rfl) H.size) (cwV 2 hts gwsRX12_newLine_1 rfl rfl rfl (by decide +kernel) ⟨by decide +kernel, by decide +kernel⟩) ⟨fun a U g mk q => by obtain ⟨q0, q1, qP, qK, qD⟩ := q; exact ⟨q0, q1, qP, va_K.moved (u := U) (U := U.calling g mk a) (Vm.Alike.refl U.vm) qK, qD⟩, va_recv hK hP (ci := 12) (q0 := 0) rfl rfl, fun U hU9 hW => ⟨rfl, by rw [hU9], by rw [hU9]; exact hP, va_K.moved hW.alike hK, hD.weaken (fun _ _ _ _ => trivial)⟩⟩ rfl rfl hl.1 rfl (lv_room (Nat.le_of_ble_eq_true rfl)) dX12_newLine_26 ⟨by decide +kernel, by decide +kernel⟩) hS (fun q _ h => hFc q h) hFc (fun r26 u t9_ H1 locs ht hvm hw9 hB9 hz1 hk1 hS => ?_)
  obtain ⟨hP1, hD1⟩ := hB9
  rw [ht] at hP1
  have hP := hP1
  have hD := hD1.weaken (fun _ q _ h => hFc q.1 h)
  generalize H1 = H at hP hS ⊢
  have hP : va_P (dC, dI) vwCl (WR a k h0 vi vj (fT (fT vF 0 g1) 5 (upd (vF 5) ((nI R)).toNatClampNeg (nI (C + R)))) vG) H := hP
  have hD : va_D A (WR a k h0 vi vj (fT (fT vF 0 g1) 5 (upd (vF 5) ((nI R)).toNatClampNeg (nI (C + R)))) vG) := hD
  obtain rfl := hw9
  refine lv_ldc2 (v := (-1)) hx hb hown (hts (.constantLong RX12 412 (-1)) (by decide +kernel)) dX12_newLine_29 ?_
  have hFc := allFree hD hS hA
  refine va_callv (va_runV (As := [.int (nI (30 + R * (C + 1) + (C - 1))), .long (-1)]) (rest := []) ⟨hx, hb, hml, hown, hts⟩ (b_X12_put l dC dI a k h0 vi vj (fT (fT vF 0 g1) 5 (upd (vF 5) ((nI R)).toNatClampNeg (nI (C + R)))) vG (30 + R * (C + 1) + (C - 1)) (-1) (-1) m21 f1_0 (by first | assumption | decide | omega | rfl) (by decide) (by first | assumption | decide | omega | rfl) H.size) (cwV 2 hts gwsRX12_newLine_2 rfl rfl rfl (by decide +kernel) ⟨by decide +kernel, by decide +kernel⟩) ⟨fun a U g mk q => by obtain ⟨q0, q1, qP, qK, qD⟩ := q; exact ⟨q0, q1, qP, va_K.moved (u := U) (U := U.calling g mk a) (Vm.Alike.refl U.vm) qK, qD⟩, va_recv hK hP (ci := 12) (q0 := 0) rfl rfl, fun U hU9 hW => ⟨rfl, by rw [hU9], by rw [hU9]; exact hP, va_K.moved hW.alike hK, hD.weaken (fun _ _ _ _ => trivial)⟩⟩ rfl rfl hl.1 rfl (lv_room (Nat.le_of_ble_eq_true rfl)) dX12_newLine_32 ⟨by decide +kernel, by decide +kernel⟩) hS (fun q _ h => hFc q h) hFc (fun u t9_ H1 locs ht hvm hw9 hB9 hz1 hk1 hS => ?_)
  obtain ⟨g32, hwit32⟩ : ∃ w9, w9 = u := ⟨u, rfl⟩
  subst hwit32
  obtain ⟨hP1, hD1⟩ := hB9
  rw [ht] at hP1
  have hP := hP1
  have hD := hD1.weaken (fun _ q _ h => hFc q.1 h)
  generalize H1 = H at hP hS ⊢
  have hP : va_P (dC, dI) vwCl (WR a k h0 vi vj (fT (fT (fT vF 0 g1) 5 (upd (vF 5) ((nI R)).toNatClampNeg (nI (C + R)))) 0 g32) vG) H := hP
  have hD : va_D A (WR a k h0 vi vj (fT (fT (fT vF 0 g1) 5 (upd (vF 5) ((nI R)).toNatClampNeg (nI (C + R)))) 0 g32) vG) := hD
  have e9 : fT (fT vF 0 g32) 5 (upd (vF 5) ((nI R)).toNatClampNeg (nI (C + R))) = fT (fT (fT vF 0 g1) 5 (upd (vF 5) ((nI R)).toNatClampNeg (nI (C + R)))) 0 g32 := ((fT_sw _ _ _ (Nat.ne_of_beq_eq_false rfl)).trans (congrArg (fun g9 => fT g9 5 (upd (vF 5) ((nI R)).toNatClampNeg (nI (C + R)))) (fT_sm _ _ _ _))).symm
  rw [← e9] at hP hD
  clear e9
  have hP : va_P (dC, dI) vwCl (WR a k h0 vi vj (fT (fT vF 0 g32) 5 (upd (vF 5) ((nI R)).toNatClampNeg (nI (C + R)))) vG) H := hP
  have hD : va_D A (WR a k h0 vi vj (fT (fT vF 0 g32) 5 (upd (vF 5) ((nI R)).toNatClampNeg (nI (C + R)))) vG) := hD
  have f32_0 := hw9
  try dsimp only at f32_0
  refine lv_aload_n hx hb dX12_newLine_35 rfl (lv_at hl 1 rfl) ?_
  refine lv_dup hx hb dX12_newLine_36 rfl ?_
  refine va_get (D := (dC, dI)) (ci := 12) (v := .int (vi 6)) (C := RX12) (T := TX12) (N := 163) (fs := fM (vS a vi vj)) hx hb hts iwsRX12_newLine_in12 hown hK hP 0 rfl rfl 6 (by decide) (hts (.fieldLink RX12 399 "OptimaWorksModel" "rows" "I") (by decide +kernel)) (fun _ h9 => h9) rfl dX12_newLine_37 ?_
  refine lv_topi (fun y6 hy6 => ?_)
  obtain rfl : (nI R) = y6 := (hy6.trans (hR)).symm
  refine lv_iconst (v := 1) hx hb dX12_newLine_40 (by decide) ?_
  refine lv_iadd hx hb dX12_newLine_41 ?_
  refine lv_topi (fun y7 hy7 => ?_)
  obtain rfl : (nI (R + 1)) = y7 := (hy7.trans (nI_add R 1)).symm
  refine va_put (D := (dC, dI)) (ci := 12) (v := .int (nI (R + 1))) (ty := .int) (C := RX12) (T := TX12) (N := 163) (fs := fM (vS a vi vj)) hx hb hts iwsRX12_newLine_in12 tyX12 tyX12_ok nmX12 hown hK hP hD hS 0 rfl rfl 6 (by decide) (hts (.fieldLink RX12 399 "OptimaWorksModel" "rows" "I") (by decide +kernel)) (fun _ h9 => h9) rfl (by decide +kernel) rfl rfl (Nat.le_of_ble_eq_true rfl) dX12_newLine_42 (fun H locs hP hD hS => ?_)
  have hP : va_P (dC, dI) vwCl (WR a k h0 (fT vi 6 (nI (R + 1))) vj (fT (fT vF 0 g32) 5 (upd (vF 5) ((nI R)).toNatClampNeg (nI (C + R)))) vG) H := by rw [← WR_i 6 _ rfl]; exact hP
  have hD : va_D A (WR a k h0 (fT vi 6 (nI (R + 1))) vj (fT (fT vF 0 g32) 5 (upd (vF 5) ((nI R)).toNatClampNeg (nI (C + R)))) vG) := by rw [← WR_i 6 _ rfl]; exact hD
  refine lv_iload_n hx hb dX12_newLine_45 rfl (lv_at hl 0 rfl) ?_
  refine W.widen (k := 0) (n := 0) (by decide +kernel) (by decide +kernel) ?_
  have e9 : fT (fT vF 0 g32) 5 (upd (vF 5) (nI R).toNatClampNeg (nI (C + R))) = fT (fT vF 0 g32) 5 (upd (vF 5) ((nI R)).toNatClampNeg (nI (C + R))) := by funext q9; by_cases h9_0 : q9 = 0; (subst h9_0; exact ((fT_ne _ _ (Nat.ne_of_beq_eq_false rfl)).trans (fT_eq _ _ _)).trans (Eq.trans (by first | rfl | assumption | (symm; assumption) | (subst_vars; rfl)) ((fT_ne _ _ (Nat.ne_of_beq_eq_false rfl)).trans (fT_eq _ _ _)).symm)); by_cases h9_5 : q9 = 5; (subst h9_5; exact (fT_eq _ _ _).trans (Eq.trans (by first | rfl | assumption | (symm; assumption) | (subst_vars; rfl)) (fT_eq _ _ _).symm)); exact ((fT_ne _ _ h9_5).trans (fT_ne _ _ h9_0)).trans ((fT_ne _ _ h9_5).trans (fT_ne _ _ h9_0)).symm
  have hP : va_P (dC, dI) vwCl (WR a k h0 (fT vi 6 (nI (R + 1))) vj (fT (fT vF 0 g32) 5 (upd (vF 5) (nI R).toNatClampNeg (nI (C + R)))) vG) H := by rw [e9]; exact hP
  have hD : va_D A (WR a k h0 (fT vi 6 (nI (R + 1))) vj (fT (fT vF 0 g32) 5 (upd (vF 5) (nI R).toNatClampNeg (nI (C + R)))) vG) := by rw [e9]; exact hD
  clear e9
  exact W.iret (v := (nI R)) hx hb hr (fun t9_ ht hW => ⟨⟨(nI R), (g32, (fT m21 (30 + R * (C + 1) + (C - 1)) (-1))), rfl, by (try dsimp only); exact ⟨rfl, f32_0, fun j hj => by by_cases e9 : j = C - 1; (rw [e9, fT_eq, if_pos rfl]); (rw [fT_ne _ _ (by omega), if_neg e9]; exact f1_1 j hj), fun q hq => by (rw [fT_ne _ _ (by omega), f1_2 _ (by omega)])⟩, by rw [ht]; exact hP, hD⟩, hS.F ht⟩) hS.2.2 dX12_newLine_46
theorem dX12_goalRow_0 : decode cX12_goalRow 0 = .ok (.aload_n 0, 1) := dk_42 (by decide +kernel)
theorem dX12_goalRow_1 : decode cX12_goalRow 1 = .ok (.invokevirtual 408, 3) := dk_182 (by decide +kernel)
theorem dX12_goalRow_4 : decode cX12_goalRow 4 = .ok (.istore_n 1, 1) := dk_60 (by decide +kernel)
theorem dX12_goalRow_5 : decode cX12_goalRow 5 = .ok (.aload_n 0, 1) := dk_42 (by decide +kernel)
theorem dX12_goalRow_6 : decode cX12_goalRow 6 = .ok (.dup, 1) := dk_89 (by decide +kernel)
theorem dX12_goalRow_7 : decode cX12_goalRow 7 = .ok (.getfield 402, 3) := dk_180 (by decide +kernel)
theorem dX12_goalRow_10 : decode cX12_goalRow 10 = .ok (.iconst 1, 1) := dk_4 (by decide +kernel)
theorem dX12_goalRow_11 : decode cX12_goalRow 11 = .ok (.iadd, 1) := dk_96 (by decide +kernel)
theorem dX12_goalRow_12 : decode cX12_goalRow 12 = .ok (.putfield 402, 3) := dk_181 (by decide +kernel)
theorem dX12_goalRow_15 : decode cX12_goalRow 15 = .ok (.iload_n 1, 1) := dk_27 (by decide +kernel)
theorem dX12_goalRow_16 : decode cX12_goalRow 16 = .ok (.ireturn, 1) := dk_172 (by decide +kernel)
def wsRX12_goalRow : List Cond := .code yX12_goalRow cX12_goalRow 2 (some .int) :: ([.fieldLink RX12 402 "OptimaWorksModel" "goals" "I"] ++ wsX120 ++ (wsV RX12 408 RX12 yX12_newRow wsRX12_newRow))
theorem iwsRX12_goalRow_in12 : ∀ w ∈ wsX120, w ∈ wsRX12_goalRow := fun _ h => List.mem_cons_of_mem _ (List.mem_append_left _ (List.mem_append_right _ h))
theorem gwsRX12_goalRow_0 : GoodIn wsRX12_goalRow (wsV RX12 408 RX12 yX12_newRow wsRX12_newRow) := goodIn_sub (fun _ h => List.mem_cons_of_mem _ (List.mem_append_right _ h)) (gdV (by decide +kernel) gdwsRX12_newRow)
theorem gdwsRX12_goalRow : wsRX12_goalRow.all goodWord = true := gdC rfl (gdA (gdA (by decide +kernel : ([.fieldLink RX12 402 "OptimaWorksModel" "goals" "I"] : List Cond).all goodWord = true) gdwsX120) (gdV (by decide +kernel) gdwsRX12_newRow))
set_option maxHeartbeats 4000000 in
set_option maxRecDepth 100000 in
/-- goalRow() -/
theorem r_X12_goalRow (l : Launch) (dC : Nat → ClassId) (dI : Nat → Nat → Nat) (a : Nat → Nat) (k : Nat → ClassId) (h0 : Nat) (vi : Nat → Int32) (vj : Nat → Int64) (vF : Nat → Nat → Int32) (vG : Nat → Nat → Int64) (C : Nat) (R : Nat) (Gq : Nat) (mg : Nat → Int) (hBg : Bg (vF 0) mg) (hC : vi 5 = nI C) (hR : vi 6 = nI R) (hG : vi 7 = nI Gq) (hC45 : 0 < C ∧ C ≤ 45) (hRG : R + Gq < 60) (hsz : 30 + (R + Gq) * (C + 1) + C < 1000) (sz : Nat) : Met l yX12_goalRow wsRX12_goalRow ({ frames := 2, cells := 0, slots := 0, locals := 49 }) (va_Pc [.ref h0] (fun U => U.heap.size = sz ∧ va_P (dC, dI) vwCl (WR a k h0 vi vj vF vG) U.heap ∧ va_K (dC, dI) vwCl (tX12 k) U ∧ va_D (fun _ => True) (WR a k h0 vi vj vF vG))) (va_Qi (fun (r : Int32) (u : (Nat → Int32) × (Nat → Int)) => r = (nI (R + Gq)) ∧ (Bg (u.1) (u.2)) ∧ (∀ j, j ≤ C → (u.2) (30 + (R + Gq) * (C + 1) + j) = 0) ∧ (∀ q, (q < 30 + (R + Gq) * (C + 1) ∨ 30 + (R + Gq) * (C + 1) + C < q) → (u.2) q = mg q)) (fun (u : (Nat → Int32) × (Nat → Int)) t => va_P (dC, dI) vwCl (WR a k h0 (fT vi 7 (nI (Gq + 1))) vj (fT vF 0 (u.1)) vG) t.heap ∧ va_D (va_A (WR a k h0 vi vj vF vG) sz) (WR a k h0 (fT vi 7 (nI (Gq + 1))) vj (fT vF 0 (u.1)) vG)) (va_A (WR a k h0 vi vj vF vG) sz)) 0 0 (va_A (WR a k h0 vi vj vF vG) sz) := by
  refine Met.ofW (cc := cX12_goalRow) (maxL := 2) (ret := (some .int)) (by decide) rfl ?_
  intro p e s m args below meth c s₁ B hml hv
  obtain ⟨rfl, hsz, hP, hK, hD0⟩ := hv
  have hx := B.exec
  have hb := B.bytes
  have hr := B.returns
  have hts := atoms_spec (ws := wsRX12_goalRow) B.pre
  have hown : s.vm.findClass RX12 = some m.cls := findClass_of_methodNamed B.named
  have hlocks := B.notSynchronized
  subst hsz
  have hD := hD0.self (sz := s.heap.size)
  generalize hAe : va_A (WR a k h0 vi vj vF vG) s.heap.size = A at hD ⊢
  have hA : ∀ q : Nat, s.heap.size ≤ q → A q := fun q h => by rw [← hAe]; exact Or.inr h
  have hS : va_S A s.heap s.heap [] := va_S.rf
  have hl := lv_entry ([.ref h0]) (n := 2) (Nat.le_of_ble_eq_true rfl)
  rw [lg_entry_eq]
  generalize (lg_sl ([.ref h0]) ++ List.replicate (2 - (lg_sl ([.ref h0])).length) Slot.unset).toArray = ls at hl ⊢
  have hl : lv_has ls 2 [(0, .ref h0)] := hl
  refine lv_aload_n hx hb dX12_goalRow_0 rfl (lv_at hl 0 rfl) ?_
  have hFc := allFree hD hS hA
  refine va_calli (va_runV (As := []) (rest := []) ⟨hx, hb, hml, hown, hts⟩ (r_X12_newRow l dC dI a k h0 vi vj vF vG C R Gq mg hBg (by first | assumption | decide | omega | rfl) (by first | assumption | decide | omega | rfl) (by first | assumption | decide | omega | rfl) (by first | assumption | decide | omega | rfl) (by first | assumption | decide | omega | rfl) (by first | assumption | decide | omega | rfl) s.heap.size) (cwV 0 hts gwsRX12_goalRow_0 rfl rfl rfl (by decide +kernel) ⟨by decide +kernel, by decide +kernel⟩) ⟨fun a U g mk q => by obtain ⟨q0, q1, qP, qK, qD⟩ := q; exact ⟨q0, q1, qP, va_K.moved (u := U) (U := U.calling g mk a) (Vm.Alike.refl U.vm) qK, qD⟩, va_recv hK hP (ci := 12) (q0 := 0) rfl rfl, fun U hU9 hW => ⟨rfl, by rw [hU9], by rw [hU9]; exact hP, va_K.moved hW.alike hK, hD.weaken (fun _ _ _ _ => trivial)⟩⟩ rfl rfl hl.1 rfl (lv_room (Nat.le_of_ble_eq_true rfl)) dX12_goalRow_1 ⟨by decide +kernel, by decide +kernel⟩) hS (fun q _ h => hFc q h) hFc (fun r1 u t9_ H1 locs ht hvm hw9 hB9 hz1 hk1 hS => ?_)
  obtain ⟨g1, m21⟩ := u
  try dsimp only at hw9 hB9
  obtain ⟨hP1, hD1⟩ := hB9
  rw [ht] at hP1
  have hP := hP1
  have hD := hD1.weaken (fun _ q _ h => hFc q.1 h)
  generalize H1 = H at hP hS ⊢
  have hP : va_P (dC, dI) vwCl (WR a k h0 vi vj (fT vF 0 g1) vG) H := hP
  have hD : va_D A (WR a k h0 vi vj (fT vF 0 g1) vG) := hD
  obtain ⟨rfl, f1_0, f1_1, f1_2⟩ := hw9
  refine lv_istore_n hx hb dX12_goalRow_4 rfl hl (by decide) rfl (fun ls (hl : lv_has ls _ ([(1, .int (nI (R + Gq))), (0, .ref h0)])) => ?_)
  refine lv_aload_n hx hb dX12_goalRow_5 rfl (lv_at hl 1 rfl) ?_
  refine lv_dup hx hb dX12_goalRow_6 rfl ?_
  refine va_get (D := (dC, dI)) (ci := 12) (v := .int (vi 7)) (C := RX12) (T := TX12) (N := 163) (fs := fM (vS a vi vj)) hx hb hts iwsRX12_goalRow_in12 hown hK hP 0 rfl rfl 7 (by decide) (hts (.fieldLink RX12 402 "OptimaWorksModel" "goals" "I") (by decide +kernel)) (fun _ h9 => h9) rfl dX12_goalRow_7 ?_
  refine lv_topi (fun y1 hy1 => ?_)
  obtain rfl : (nI Gq) = y1 := (hy1.trans (hG)).symm
  refine lv_iconst (v := 1) hx hb dX12_goalRow_10 (by decide) ?_
  refine lv_iadd hx hb dX12_goalRow_11 ?_
  refine lv_topi (fun y2 hy2 => ?_)
  obtain rfl : (nI (Gq + 1)) = y2 := (hy2.trans (nI_add Gq 1)).symm
  refine va_put (D := (dC, dI)) (ci := 12) (v := .int (nI (Gq + 1))) (ty := .int) (C := RX12) (T := TX12) (N := 163) (fs := fM (vS a vi vj)) hx hb hts iwsRX12_goalRow_in12 tyX12 tyX12_ok nmX12 hown hK hP hD hS 0 rfl rfl 7 (by decide) (hts (.fieldLink RX12 402 "OptimaWorksModel" "goals" "I") (by decide +kernel)) (fun _ h9 => h9) rfl (by decide +kernel) rfl rfl (Nat.le_of_ble_eq_true rfl) dX12_goalRow_12 (fun H locs hP hD hS => ?_)
  have hP : va_P (dC, dI) vwCl (WR a k h0 (fT vi 7 (nI (Gq + 1))) vj (fT vF 0 g1) vG) H := by rw [← WR_i 7 _ rfl]; exact hP
  have hD : va_D A (WR a k h0 (fT vi 7 (nI (Gq + 1))) vj (fT vF 0 g1) vG) := by rw [← WR_i 7 _ rfl]; exact hD
  refine lv_iload_n hx hb dX12_goalRow_15 rfl (lv_at hl 0 rfl) ?_
  refine W.widen (k := 0) (n := 0) (by decide +kernel) (by decide +kernel) ?_
  exact W.iret (v := (nI (R + Gq))) hx hb hr (fun t9_ ht hW => ⟨⟨(nI (R + Gq)), (g1, m21), rfl, by (try dsimp only); exact ⟨rfl, f1_0, f1_1, f1_2⟩, by rw [ht]; exact hP, hD⟩, hS.F ht⟩) hS.2.2 dX12_goalRow_16
theorem dX12_start_0 : decode cX12_start 0 = .ok (.aload_n 0, 1) := dk_42 (by decide +kernel)
theorem dX12_start_1 : decode cX12_start 1 = .ok (.invokevirtual 459, 3) := dk_182 (by decide +kernel)
theorem dX12_start_4 : decode cX12_start 4 = .ok (.istore_n 1, 1) := dk_60 (by decide +kernel)
theorem dX12_start_5 : decode cX12_start 5 = .ok (.aload_n 0, 1) := dk_42 (by decide +kernel)
theorem dX12_start_6 : decode cX12_start 6 = .ok (.aload_n 0, 1) := dk_42 (by decide +kernel)
theorem dX12_start_7 : decode cX12_start 7 = .ok (.iload_n 1, 1) := dk_27 (by decide +kernel)
theorem dX12_start_8 : decode cX12_start 8 = .ok (.aload_n 0, 1) := dk_42 (by decide +kernel)
theorem dX12_start_9 : decode cX12_start 9 = .ok (.getfield 396, 3) := dk_180 (by decide +kernel)
theorem dX12_start_12 : decode cX12_start 12 = .ok (.iconst 1, 1) := dk_4 (by decide +kernel)
theorem dX12_start_13 : decode cX12_start 13 = .ok (.isub, 1) := dk_100 (by decide +kernel)
theorem dX12_start_14 : decode cX12_start 14 = .ok (.invokevirtual 405, 3) := dk_182 (by decide +kernel)
theorem dX12_start_17 : decode cX12_start 17 = .ok (.lconst 1, 1) := dk_10 (by decide +kernel)
theorem dX12_start_18 : decode cX12_start 18 = .ok (.invokevirtual 369, 3) := dk_182 (by decide +kernel)
theorem dX12_start_21 : decode cX12_start 21 = .ok (.return_, 1) := dk_177 (by decide +kernel)
def wsRX12_start : List Cond := .code yX12_start cX12_start 2 none :: ([.fieldLink RX12 396 "OptimaWorksModel" "columns" "I"] ++ wsX120 ++ (wsV RX12 459 RX12 yX12_goalRow wsRX12_goalRow) ++ (wsV RX12 405 RX12 yX12_at wsRX12_at) ++ (wsV RX12 369 RX12 yX12_put wsRX12_put))
theorem iwsRX12_start_in12 : ∀ w ∈ wsX120, w ∈ wsRX12_start := fun _ h => List.mem_cons_of_mem _ (List.mem_append_left _ (List.mem_append_left _ (List.mem_append_left _ (List.mem_append_right _ h))))
theorem gwsRX12_start_0 : GoodIn wsRX12_start (wsV RX12 459 RX12 yX12_goalRow wsRX12_goalRow) := goodIn_sub (fun _ h => List.mem_cons_of_mem _ (List.mem_append_left _ (List.mem_append_left _ (List.mem_append_right _ h)))) (gdV (by decide +kernel) gdwsRX12_goalRow)
theorem gwsRX12_start_1 : GoodIn wsRX12_start (wsV RX12 405 RX12 yX12_at wsRX12_at) := goodIn_sub (fun _ h => List.mem_cons_of_mem _ (List.mem_append_left _ (List.mem_append_right _ h))) (gdV (by decide +kernel) gdwsRX12_at)
theorem gwsRX12_start_2 : GoodIn wsRX12_start (wsV RX12 369 RX12 yX12_put wsRX12_put) := goodIn_sub (fun _ h => List.mem_cons_of_mem _ (List.mem_append_right _ h)) (gdV (by decide +kernel) gdwsRX12_put)
theorem gdwsRX12_start : wsRX12_start.all goodWord = true := gdC rfl (gdA (gdA (gdA (gdA (by decide +kernel : ([.fieldLink RX12 396 "OptimaWorksModel" "columns" "I"] : List Cond).all goodWord = true) gdwsX120) (gdV (by decide +kernel) gdwsRX12_goalRow)) (gdV (by decide +kernel) gdwsRX12_at)) (gdV (by decide +kernel) gdwsRX12_put))
set_option maxHeartbeats 4000000 in
set_option maxRecDepth 100000 in
/-- start() -/
theorem r_X12_start (l : Launch) (dC : Nat → ClassId) (dI : Nat → Nat → Nat) (a : Nat → Nat) (k : Nat → ClassId) (h0 : Nat) (vi : Nat → Int32) (vj : Nat → Int64) (vF : Nat → Nat → Int32) (vG : Nat → Nat → Int64) (C : Nat) (R : Nat) (Gq : Nat) (mg : Nat → Int) (hBg : Bg (vF 0) mg) (hC : vi 5 = nI C) (hR : vi 6 = nI R) (hG : vi 7 = nI Gq) (hC45 : 0 < C ∧ C ≤ 45) (hRG : R + Gq < 60) (hsz : 30 + (R + Gq) * (C + 1) + C < 1000) (sz : Nat) : Met l yX12_start wsRX12_start ({ frames := 3, cells := 0, slots := 0, locals := 70 }) (va_Pc [.ref h0] (fun U => U.heap.size = sz ∧ va_P (dC, dI) vwCl (WR a k h0 vi vj vF vG) U.heap ∧ va_K (dC, dI) vwCl (tX12 k) U ∧ va_D (fun _ => True) (WR a k h0 vi vj vF vG))) (va_Qv (fun (u : (Nat → Int32) × (Nat → Int)) => (Bg (u.1) (u.2)) ∧ (∀ j, j ≤ C → (u.2) (30 + (R + Gq) * (C + 1) + j) = if j = C - 1 then 1 else 0) ∧ (∀ q, (q < 30 + (R + Gq) * (C + 1) ∨ 30 + (R + Gq) * (C + 1) + C < q) → (u.2) q = mg q)) (fun (u : (Nat → Int32) × (Nat → Int)) t => va_P (dC, dI) vwCl (WR a k h0 (fT vi 7 (nI (Gq + 1))) vj (fT vF 0 (u.1)) vG) t.heap ∧ va_D (va_A (WR a k h0 vi vj vF vG) sz) (WR a k h0 (fT vi 7 (nI (Gq + 1))) vj (fT vF 0 (u.1)) vG)) (va_A (WR a k h0 vi vj vF vG) sz)) 0 0 (va_A (WR a k h0 vi vj vF vG) sz) := by
  refine Met.ofW (cc := cX12_start) (maxL := 2) (ret := none) (by decide) rfl ?_
  intro p e s m args below meth c s₁ B hml hv
  obtain ⟨rfl, hsz, hP, hK, hD0⟩ := hv
  have hx := B.exec
  have hb := B.bytes
  have hr := B.returns
  have hts := atoms_spec (ws := wsRX12_start) B.pre
  have hown : s.vm.findClass RX12 = some m.cls := findClass_of_methodNamed B.named
  have hlocks := B.notSynchronized
  subst hsz
  have hD := hD0.self (sz := s.heap.size)
  generalize hAe : va_A (WR a k h0 vi vj vF vG) s.heap.size = A at hD ⊢
  have hA : ∀ q : Nat, s.heap.size ≤ q → A q := fun q h => by rw [← hAe]; exact Or.inr h
  have hS : va_S A s.heap s.heap [] := va_S.rf
  have hl := lv_entry ([.ref h0]) (n := 2) (Nat.le_of_ble_eq_true rfl)
  rw [lg_entry_eq]
  generalize (lg_sl ([.ref h0]) ++ List.replicate (2 - (lg_sl ([.ref h0])).length) Slot.unset).toArray = ls at hl ⊢
  have hl : lv_has ls 2 [(0, .ref h0)] := hl
  refine lv_aload_n hx hb dX12_start_0 rfl (lv_at hl 0 rfl) ?_
  have hFc := allFree hD hS hA
  refine va_calli (va_runV (As := []) (rest := []) ⟨hx, hb, hml, hown, hts⟩ (r_X12_goalRow l dC dI a k h0 vi vj vF vG C R Gq mg hBg (by first | assumption | decide | omega | rfl) (by first | assumption | decide | omega | rfl) (by first | assumption | decide | omega | rfl) (by first | assumption | decide | omega | rfl) (by first | assumption | decide | omega | rfl) (by first | assumption | decide | omega | rfl) s.heap.size) (cwV 0 hts gwsRX12_start_0 rfl rfl rfl (by decide +kernel) ⟨by decide +kernel, by decide +kernel⟩) ⟨fun a U g mk q => by obtain ⟨q0, q1, qP, qK, qD⟩ := q; exact ⟨q0, q1, qP, va_K.moved (u := U) (U := U.calling g mk a) (Vm.Alike.refl U.vm) qK, qD⟩, va_recv hK hP (ci := 12) (q0 := 0) rfl rfl, fun U hU9 hW => ⟨rfl, by rw [hU9], by rw [hU9]; exact hP, va_K.moved hW.alike hK, hD.weaken (fun _ _ _ _ => trivial)⟩⟩ rfl rfl hl.1 rfl (lv_room (Nat.le_of_ble_eq_true rfl)) dX12_start_1 ⟨by decide +kernel, by decide +kernel⟩) hS (fun q _ h => hFc q h) hFc (fun r1 u t9_ H1 locs ht hvm hw9 hB9 hz1 hk1 hS => ?_)
  obtain ⟨g1, m21⟩ := u
  try dsimp only at hw9 hB9
  obtain ⟨hP1, hD1⟩ := hB9
  rw [ht] at hP1
  have hP := hP1
  have hD := hD1.weaken (fun _ q _ h => hFc q.1 h)
  generalize H1 = H at hP hS ⊢
  have hP : va_P (dC, dI) vwCl (WR a k h0 (fT vi 7 (nI (Gq + 1))) vj (fT vF 0 g1) vG) H := hP
  have hD : va_D A (WR a k h0 (fT vi 7 (nI (Gq + 1))) vj (fT vF 0 g1) vG) := hD
  obtain ⟨rfl, f1_0, f1_1, f1_2⟩ := hw9
  refine lv_istore_n hx hb dX12_start_4 rfl hl (by decide) rfl (fun ls (hl : lv_has ls _ ([(1, .int (nI (R + Gq))), (0, .ref h0)])) => ?_)
  refine lv_aload_n hx hb dX12_start_5 rfl (lv_at hl 1 rfl) ?_
  refine lv_aload_n hx hb dX12_start_6 rfl (lv_at hl 1 rfl) ?_
  refine lv_iload_n hx hb dX12_start_7 rfl (lv_at hl 0 rfl) ?_
  refine lv_aload_n hx hb dX12_start_8 rfl (lv_at hl 1 rfl) ?_
  refine va_get (D := (dC, dI)) (ci := 12) (v := .int (vi 5)) (C := RX12) (T := TX12) (N := 163) (fs := fM (vS a (fT vi 7 (nI (Gq + 1))) vj)) hx hb hts iwsRX12_start_in12 hown hK hP 0 rfl rfl 5 (by decide) (hts (.fieldLink RX12 396 "OptimaWorksModel" "columns" "I") (by decide +kernel)) (fun _ h9 => h9) rfl dX12_start_9 ?_
  refine lv_topi (fun y1 hy1 => ?_)
  obtain rfl : (nI C) = y1 := (hy1.trans (hC)).symm
  refine lv_iconst (v := 1) hx hb dX12_start_12 (by decide) ?_
  refine lv_isub hx hb dX12_start_13 ?_
  refine lv_topi (fun y2 hy2 => ?_)
  obtain rfl : (nI (C - 1)) = y2 := (hy2.trans (pk_sub (a := C) (b := 1) (by omega))).symm
  have hFc := allFree hD hS hA
  refine va_calli (va_runV (As := [.int (nI (R + Gq)), .int (nI (C - 1))]) (rest := [.ref h0]) ⟨hx, hb, hml, hown, hts⟩ (r_X12_at l dC dI a k h0 (fT vi 7 (nI (Gq + 1))) vj (fT vF 0 g1) vG (R + Gq) (C - 1) C (by first | assumption | decide | omega | rfl) H.size) (cwV 2 hts gwsRX12_start_1 rfl rfl rfl (by decide +kernel) ⟨by decide +kernel, by decide +kernel⟩) ⟨fun a U g mk q => by obtain ⟨q0, q1, qP, qK, qD⟩ := q; exact ⟨q0, q1, qP, va_K.moved (u := U) (U := U.calling g mk a) (Vm.Alike.refl U.vm) qK, qD⟩, va_recv hK hP (ci := 12) (q0 := 0) rfl rfl, fun U hU9 hW => ⟨rfl, by rw [hU9], by rw [hU9]; exact hP, va_K.moved hW.alike hK, hD.weaken (fun _ _ _ _ => trivial)⟩⟩ rfl rfl hl.1 rfl (lv_room (Nat.le_of_ble_eq_true rfl)) dX12_start_14 ⟨by decide +kernel, by decide +kernel⟩) hS (fun q _ h => hFc q h) hFc (fun r14 u t9_ H1 locs ht hvm hw9 hB9 hz1 hk1 hS => ?_)
  obtain ⟨hP1, hD1⟩ := hB9
  rw [ht] at hP1
  have hP := hP1
  have hD := hD1.weaken (fun _ q _ h => hFc q.1 h)
  generalize H1 = H at hP hS ⊢
  have hP : va_P (dC, dI) vwCl (WR a k h0 (fT vi 7 (nI (Gq + 1))) vj (fT vF 0 g1) vG) H := hP
  have hD : va_D A (WR a k h0 (fT vi 7 (nI (Gq + 1))) vj (fT vF 0 g1) vG) := hD
  obtain rfl := hw9
  refine lv_lconst (v := 1) hx hb dX12_start_17 (by decide) ?_
  have hFc := allFree hD hS hA
  refine va_callv (va_runV (As := [.int (nI (30 + (R + Gq) * (C + 1) + (C - 1))), .long 1]) (rest := []) ⟨hx, hb, hml, hown, hts⟩ (b_X12_put l dC dI a k h0 (fT vi 7 (nI (Gq + 1))) vj (fT vF 0 g1) vG (30 + (R + Gq) * (C + 1) + (C - 1)) 1 1 m21 f1_0 (by first | assumption | decide | omega | rfl) (by decide) (by first | assumption | decide | omega | rfl) H.size) (cwV 2 hts gwsRX12_start_2 rfl rfl rfl (by decide +kernel) ⟨by decide +kernel, by decide +kernel⟩) ⟨fun a U g mk q => by obtain ⟨q0, q1, qP, qK, qD⟩ := q; exact ⟨q0, q1, qP, va_K.moved (u := U) (U := U.calling g mk a) (Vm.Alike.refl U.vm) qK, qD⟩, va_recv hK hP (ci := 12) (q0 := 0) rfl rfl, fun U hU9 hW => ⟨rfl, by rw [hU9], by rw [hU9]; exact hP, va_K.moved hW.alike hK, hD.weaken (fun _ _ _ _ => trivial)⟩⟩ rfl rfl hl.1 rfl (lv_room (Nat.le_of_ble_eq_true rfl)) dX12_start_18 ⟨by decide +kernel, by decide +kernel⟩) hS (fun q _ h => hFc q h) hFc (fun u t9_ H1 locs ht hvm hw9 hB9 hz1 hk1 hS => ?_)
  obtain ⟨g18, hwit18⟩ : ∃ w9, w9 = u := ⟨u, rfl⟩
  subst hwit18
  obtain ⟨hP1, hD1⟩ := hB9
  rw [ht] at hP1
  have hP := hP1
  have hD := hD1.weaken (fun _ q _ h => hFc q.1 h)
  generalize H1 = H at hP hS ⊢
  have hP : va_P (dC, dI) vwCl (WR a k h0 (fT vi 7 (nI (Gq + 1))) vj (fT (fT vF 0 g1) 0 g18) vG) H := hP
  have hD : va_D A (WR a k h0 (fT vi 7 (nI (Gq + 1))) vj (fT (fT vF 0 g1) 0 g18) vG) := hD
  have e9 : fT vF 0 g18 = fT (fT vF 0 g1) 0 g18 := (fT_sm _ _ _ _).symm
  rw [← e9] at hP hD
  clear e9
  have hP : va_P (dC, dI) vwCl (WR a k h0 (fT vi 7 (nI (Gq + 1))) vj (fT vF 0 g18) vG) H := hP
  have hD : va_D A (WR a k h0 (fT vi 7 (nI (Gq + 1))) vj (fT vF 0 g18) vG) := hD
  have f18_0 := hw9
  try dsimp only at f18_0
  refine W.widen (k := 0) (n := 0) (by decide +kernel) (by decide +kernel) ?_
  exact W.vret hx hb hr (fun t9_ ht hW => ⟨⟨(g18, (fT m21 (30 + (R + Gq) * (C + 1) + (C - 1)) 1)), rfl, by (try dsimp only); exact ⟨f18_0, fun j hj => by by_cases e9 : j = C - 1; (rw [e9, fT_eq, if_pos rfl]); (rw [fT_ne _ _ (by omega), if_neg e9]; exact f1_1 j hj), fun q hq => by (rw [fT_ne _ _ (by omega), f1_2 _ (by omega)])⟩, by rw [ht]; exact hP, hD⟩, hS.F ht⟩) hS.2.2 dX12_start_21

theorem dX12_nextWays_0 : decode cX12_nextWays 0 = .ok (.aload_n 0, 1) := dk_42 (by decide +kernel)
theorem dX12_nextWays_1 : decode cX12_nextWays 1 = .ok (.getfield 786, 3) := dk_180 (by decide +kernel)
theorem dX12_nextWays_4 : decode cX12_nextWays 4 = .ok (.iconst 1, 1) := dk_4 (by decide +kernel)
theorem dX12_nextWays_5 : decode cX12_nextWays 5 = .ok (.isub, 1) := dk_100 (by decide +kernel)
theorem dX12_nextWays_6 : decode cX12_nextWays 6 = .ok (.istore_n 1, 1) := dk_60 (by decide +kernel)
theorem dX12_nextWays_7 : decode cX12_nextWays 7 = .ok (.iload_n 1, 1) := dk_27 (by decide +kernel)
theorem dX12_nextWays_8 : decode cX12_nextWays 8 = .ok (.ifCond .lt 43, 3) := dk_155 (by decide +kernel)
theorem dX12_nextWays_11 : decode cX12_nextWays 11 = .ok (.aload_n 0, 1) := dk_42 (by decide +kernel)
theorem dX12_nextWays_12 : decode cX12_nextWays 12 = .ok (.getfield 230, 3) := dk_180 (by decide +kernel)
theorem dX12_nextWays_15 : decode cX12_nextWays 15 = .ok (.iload_n 1, 1) := dk_27 (by decide +kernel)
theorem dX12_nextWays_16 : decode cX12_nextWays 16 = .ok (.dup2, 1) := dk_92 (by decide +kernel)
theorem dX12_nextWays_17 : decode cX12_nextWays 17 = .ok (.iaload, 1) := dk_46 (by decide +kernel)
theorem dX12_nextWays_18 : decode cX12_nextWays 18 = .ok (.iconst 1, 1) := dk_4 (by decide +kernel)
theorem dX12_nextWays_19 : decode cX12_nextWays 19 = .ok (.iadd, 1) := dk_96 (by decide +kernel)
theorem dX12_nextWays_20 : decode cX12_nextWays 20 = .ok (.iastore, 1) := dk_79 (by decide +kernel)
theorem dX12_nextWays_21 : decode cX12_nextWays 21 = .ok (.aload_n 0, 1) := dk_42 (by decide +kernel)
theorem dX12_nextWays_22 : decode cX12_nextWays 22 = .ok (.getfield 230, 3) := dk_180 (by decide +kernel)
theorem dX12_nextWays_25 : decode cX12_nextWays 25 = .ok (.iload_n 1, 1) := dk_27 (by decide +kernel)
theorem dX12_nextWays_26 : decode cX12_nextWays 26 = .ok (.iaload, 1) := dk_46 (by decide +kernel)
theorem dX12_nextWays_27 : decode cX12_nextWays 27 = .ok (.aload_n 0, 1) := dk_42 (by decide +kernel)
theorem dX12_nextWays_28 : decode cX12_nextWays 28 = .ok (.getfield 200, 3) := dk_180 (by decide +kernel)
theorem dX12_nextWays_31 : decode cX12_nextWays 31 = .ok (.iload_n 1, 1) := dk_27 (by decide +kernel)
theorem dX12_nextWays_32 : decode cX12_nextWays 32 = .ok (.iaload, 1) := dk_46 (by decide +kernel)
theorem dX12_nextWays_33 : decode cX12_nextWays 33 = .ok (.if_icmp .ge 5, 3) := dk_162 (by decide +kernel)
theorem dX12_nextWays_36 : decode cX12_nextWays 36 = .ok (.iconst 1, 1) := dk_4 (by decide +kernel)
theorem dX12_nextWays_37 : decode cX12_nextWays 37 = .ok (.ireturn, 1) := dk_172 (by decide +kernel)
theorem dX12_nextWays_38 : decode cX12_nextWays 38 = .ok (.aload_n 0, 1) := dk_42 (by decide +kernel)
theorem dX12_nextWays_39 : decode cX12_nextWays 39 = .ok (.getfield 230, 3) := dk_180 (by decide +kernel)
theorem dX12_nextWays_42 : decode cX12_nextWays 42 = .ok (.iload_n 1, 1) := dk_27 (by decide +kernel)
theorem dX12_nextWays_43 : decode cX12_nextWays 43 = .ok (.iconst 0, 1) := dk_3 (by decide +kernel)
theorem dX12_nextWays_44 : decode cX12_nextWays 44 = .ok (.iastore, 1) := dk_79 (by decide +kernel)
theorem dX12_nextWays_45 : decode cX12_nextWays 45 = .ok (.iinc 1 (-1), 3) := dk_132 (by decide +kernel)
theorem dX12_nextWays_48 : decode cX12_nextWays 48 = .ok (.goto (-41), 3) := dk_167 (by decide +kernel)
theorem dX12_nextWays_51 : decode cX12_nextWays 51 = .ok (.iconst 0, 1) := dk_3 (by decide +kernel)
theorem dX12_nextWays_52 : decode cX12_nextWays 52 = .ok (.ireturn, 1) := dk_172 (by decide +kernel)
def wsRX12_nextWays : List Cond := .code yX12_nextWays cX12_nextWays 2 (some .boolean) :: ([.fieldLink RX12 786 "OptimaWorksModel" "modelRows" "I", .fieldLink RX12 230 "OptimaWorksModel" "chosen" "[I", .fieldLink RX12 200 "OptimaWorksModel" "wayMany" "[I"] ++ wsX120)
theorem iwsRX12_nextWays_in12 : ∀ w ∈ wsX120, w ∈ wsRX12_nextWays := fun _ h => List.mem_cons_of_mem _ (List.mem_append_right _ h)
theorem gdwsRX12_nextWays : wsRX12_nextWays.all goodWord = true := gdC rfl (gdA (by decide +kernel : ([.fieldLink RX12 786 "OptimaWorksModel" "modelRows" "I", .fieldLink RX12 230 "OptimaWorksModel" "chosen" "[I", .fieldLink RX12 200 "OptimaWorksModel" "wayMany" "[I"] : List Cond).all goodWord = true) gdwsX120)
set_option maxHeartbeats 4000000 in
set_option maxRecDepth 100000 in
/-- nextWays() -/
theorem r_X12_nextWays (l : Launch) (dC : Nat → ClassId) (dI : Nat → Nat → Nat) (a : Nat → Nat) (k : Nat → ClassId) (h0 : Nat) (vi : Nat → Int32) (vj : Nat → Int64) (vF : Nat → Nat → Int32) (vG : Nat → Nat → Int64) (mr : Nat) (hmr : vi 91 = nI mr) (hmr12 : mr ≤ 12) (hch : ChO (vF 59) (vF 69) mr) (sz : Nat) : Met l yX12_nextWays wsRX12_nextWays ({ frames := 0, cells := 0, slots := 0, locals := 0 }) (va_Pc [.ref h0] (fun U => U.heap.size = sz ∧ va_P (dC, dI) vwCl (WR a k h0 vi vj vF vG) U.heap ∧ va_K (dC, dI) vwCl (tX12 k) U ∧ va_D (fun _ => True) (WR a k h0 vi vj vF vG))) (va_Qi (fun (r : Int32) (u : Nat → Int32) => (r = 1 ∧ (ChO (vF 59) u mr) ∧ (odo (cD (vF 69)) (cD (vF 59)) mr < odo (cD u) (cD (vF 59)) mr)) ∨ (r = 0 ∧ (ChO (vF 59) u mr))) (fun (u : Nat → Int32) t => va_P (dC, dI) vwCl (WR a k h0 vi vj (fT vF 69 u) vG) t.heap ∧ va_D (va_A (WR a k h0 vi vj vF vG) sz) (WR a k h0 vi vj (fT vF 69 u) vG)) (va_A (WR a k h0 vi vj vF vG) sz)) 0 0 (va_A (WR a k h0 vi vj vF vG) sz) := by
  refine Met.ofW (cc := cX12_nextWays) (maxL := 2) (ret := (some .boolean)) (by decide) rfl ?_
  intro p e s m args below meth c s₁ B hml hv
  obtain ⟨rfl, hsz, hP, hK, hD0⟩ := hv
  have hx := B.exec
  have hb := B.bytes
  have hr := B.returns
  have hts := atoms_spec (ws := wsRX12_nextWays) B.pre
  have hown : s.vm.findClass RX12 = some m.cls := findClass_of_methodNamed B.named
  have hlocks := B.notSynchronized
  subst hsz
  have hD := hD0.self (sz := s.heap.size)
  generalize hAe : va_A (WR a k h0 vi vj vF vG) s.heap.size = A at hD ⊢
  have hA : ∀ q : Nat, s.heap.size ≤ q → A q := fun q h => by rw [← hAe]; exact Or.inr h
  have hS : va_S A s.heap s.heap [] := va_S.rf
  have hl := lv_entry ([.ref h0]) (n := 2) (Nat.le_of_ble_eq_true rfl)
  rw [lg_entry_eq]
  generalize (lg_sl ([.ref h0]) ++ List.replicate (2 - (lg_sl ([.ref h0])).length) Slot.unset).toArray = ls at hl ⊢
  have hl : lv_has ls 2 [(0, .ref h0)] := hl
  refine lv_aload_n hx hb dX12_nextWays_0 rfl (lv_at hl 0 rfl) ?_
  refine va_get (D := (dC, dI)) (ci := 12) (v := .int (vi 91)) (C := RX12) (T := TX12) (N := 163) (fs := fM (vS a vi vj)) hx hb hts iwsRX12_nextWays_in12 hown hK hP 0 rfl rfl 91 (by decide) (hts (.fieldLink RX12 786 "OptimaWorksModel" "modelRows" "I") (by decide +kernel)) (fun _ h9 => h9) rfl dX12_nextWays_1 ?_
  refine lv_topi (fun y1 hy1 => ?_)
  obtain rfl : (nI mr) = y1 := (hy1.trans (hmr)).symm
  refine lv_iconst (v := 1) hx hb dX12_nextWays_4 (by decide) ?_
  refine lv_isub hx hb dX12_nextWays_5 ?_
  refine lv_istore_n hx hb dX12_nextWays_6 rfl hl (by decide) rfl (fun ls (hl : lv_has ls _ ([(1, .int ((nI mr) - 1)), (0, .ref h0)])) => ?_)
  have e9 : fT vF 69 (vF 69) = vF := by funext q9; by_cases h9_69 : q9 = 69; (subst h9_69; exact (fT_eq _ _ _).trans (Eq.trans (by first | rfl | assumption | (symm; assumption) | (subst_vars; rfl)) (Eq.refl _).symm)); exact (fT_ne _ _ h9_69).trans (Eq.refl _).symm
  have hP : va_P (dC, dI) vwCl (WR a k h0 vi vj (fT vF 69 (vF 69)) vG) s.heap := by rw [e9]; exact hP
  have hD : va_D A (WR a k h0 vi vj (fT vF 69 (vF 69)) vG) := by rw [e9]; exact hD
  clear e9
  have hl : lv_has _ _ ([(0, .ref h0), (1, .int ((nI mr) - 1))]) := lv_sub hl [1, 0] rfl
  refine (fun (loop : ∀ (n9 : Nat) (kq : Int32) (kk1 : Nat) (f69 : Nat → Int32) (H : Heap) (locs : List Loc) (ls : Array Slot), ((kq).toInt = (kk1 : Int) - 1) → (kk1 ≤ mr) → (∀ q, q < kk1 → f69 q = vF 69 q) → (∀ q, kk1 ≤ q → q < mr → f69 q = 0) →  (kk1 < n9) → va_P (dC, dI) vwCl (WR a k h0 vi vj (fT vF 69 f69) vG) H → va_D A (WR a k h0 vi vj (fT vF 69 f69) vG) → va_S A s.heap H locs → lv_has ls 2 [(0, .ref h0), (1, .int kq)] → W p l e _ s m _ below meth c H locs 0 0 _ (F0 m 7 ls [])) => loop (mr + 1) ((nI mr) - 1) mr (vF 69) _ _ _ (by exact pk_sub_toInt (a := mr) (b := 1) (by omega) (by omega)) (by omega) (fun q _ => rfl) (fun q h1 h2 => absurd h1 (by omega)) (by omega) hP hD hS hl) ?_
  intro n9
  induction n9 with
  | zero => intro kq kk1 f69 H locs ls hkq hkn hsame hz hf9; exact False.elim (by omega)
  | succ n9 ih7 =>
    intro kq kk1 f69 H locs ls hkq hkn hsame hz hf7 hP hD hS hl
    refine lv_iload_n hx hb dX12_nextWays_7 rfl (lv_at hl 1 rfl) ?_
    refine lv_if_lt (tgt := 51) hx hb dX12_nextWays_8 (by decide) (fun c_8 => ?_) (fun c_8 => ?_)
    · have t_8 : (kq).toInt < 0 := toI_lt c_8 rfl (by decide)
      refine lv_iconst (v := 0) hx hb dX12_nextWays_51 (by decide) ?_
      refine W.widen (k := 0) (n := 0) (by decide +kernel) (by decide +kernel) ?_
      exact W.zret (v := 0) hx hb hr rfl (fun t9_ ht hW => ⟨⟨0, f69, rfl, by (try dsimp only); exact Or.inr ⟨rfl, hch.zero (fun q hq => hz q (by omega) hq)⟩, by rw [ht]; exact hP, hD⟩, hS.F ht⟩) hS.2.2 dX12_nextWays_52
    · have t_8 : ¬ (kq).toInt < 0 := toI_nlt c_8 rfl (by decide)
      obtain ⟨kk, h_kk, rfl⟩ := of_toInt (x := kq) (k := 13) (by omega) (by omega)
      have e_kk : (nI kk).toInt = (kk : Int) := nI_toInt (by omega)
      obtain ⟨wk, dk, e1, e2, e3, e4, e5⟩ := hch kk (by omega)
      have ef : f69 kk = nI dk := (hsame kk (by omega)).trans e4
      refine lv_aload_n hx hb dX12_nextWays_11 rfl (lv_at hl 0 rfl) ?_
      refine va_get (D := (dC, dI)) (ci := 12) (v := .ref (a 69)) (C := RX12) (T := TX12) (N := 163) (fs := fM (vS a vi vj)) hx hb hts iwsRX12_nextWays_in12 hown hK hP 0 rfl rfl 114 (by decide) (hts (.fieldLink RX12 230 "OptimaWorksModel" "chosen" "[I") (by decide +kernel)) (fun _ h9 => h9) rfl dX12_nextWays_12 ?_
      refine lv_iload_n hx hb dX12_nextWays_15 rfl (lv_at hl 1 rfl) ?_
      refine lv_dup2_11 hx hb dX12_nextWays_16 rfl rfl ?_
      refine va_iald (cA := k 69) (n := 13) (f := f69) hx hb hK hP 70 69 (WR_get 69 (by decide)) (TR_get 69 (by decide)) (vp_in_nI (show kk < 13 by omega) (by omega)) dX12_nextWays_17 ?_
      refine lv_topi (fun y2 hy2 => ?_)
      obtain rfl : (f69 kk) = y2 := (hy2.trans (by rw [nI_clamp (by omega)])).symm
      refine lv_topi (fun y3 hy3 => ?_)
      obtain rfl : (nI dk) = y3 := (hy3.trans (ef)).symm
      refine lv_iconst (v := 1) hx hb dX12_nextWays_18 (by decide) ?_
      refine lv_iadd hx hb dX12_nextWays_19 ?_
      refine lv_topi (fun y4 hy4 => ?_)
      obtain rfl : (nI (dk + 1)) = y4 := (hy4.trans (nI_add dk 1)).symm
      refine va_iast (cA := k 69) (n := 13) (f := f69) hx hb hK hP hD hS 70 69 (WR_get 69 (by decide)) (TR_get 69 (by decide)) (vp_in_nI (show kk < 13 by omega) (by omega)) dX12_nextWays_20 (fun H locs hP hD hS => ?_)
      have e9 : fT vF 69 (upd f69 ((nI kk)).toNatClampNeg (nI (dk + 1))) = fT (fT vF 69 f69) 69 (upd f69 ((nI kk)).toNatClampNeg (nI (dk + 1))) := (fT_sm _ _ _ _).symm
      have hP : va_P (dC, dI) vwCl (WR a k h0 vi vj (fT vF 69 (upd f69 ((nI kk)).toNatClampNeg (nI (dk + 1)))) vG) H := by rw [e9, ← WR_F 69 (by decide) _ rfl]; exact hP
      have hD : va_D A (WR a k h0 vi vj (fT vF 69 (upd f69 ((nI kk)).toNatClampNeg (nI (dk + 1)))) vG) := by rw [e9, ← WR_F 69 (by decide) _ rfl]; exact hD
      clear e9
      refine lv_aload_n hx hb dX12_nextWays_21 rfl (lv_at hl 0 rfl) ?_
      refine va_get (D := (dC, dI)) (ci := 12) (v := .ref (a 69)) (C := RX12) (T := TX12) (N := 163) (fs := fM (vS a vi vj)) hx hb hts iwsRX12_nextWays_in12 hown hK hP 0 rfl rfl 114 (by decide) (hts (.fieldLink RX12 230 "OptimaWorksModel" "chosen" "[I") (by decide +kernel)) (fun _ h9 => h9) rfl dX12_nextWays_22 ?_
      refine lv_iload_n hx hb dX12_nextWays_25 rfl (lv_at hl 1 rfl) ?_
      refine va_iald (cA := k 69) (n := 13) (f := (upd f69 ((nI kk)).toNatClampNeg (nI (dk + 1)))) hx hb hK hP 70 69 (WR_get 69 (by decide)) (TR_get 69 (by decide)) (vp_in_nI (show kk < 13 by omega) (by omega)) dX12_nextWays_26 ?_
      refine lv_topi (fun y5 hy5 => ?_)
      obtain rfl : ((upd f69 ((nI kk)).toNatClampNeg (nI (dk + 1))) kk) = y5 := (hy5.trans (by rw [nI_clamp (by omega)])).symm
      refine lv_topi (fun y6 hy6 => ?_)
      obtain rfl : (nI (dk + 1)) = y6 := (hy6.trans (by rw [upd_at (by omega), if_pos rfl])).symm
      refine lv_aload_n hx hb dX12_nextWays_27 rfl (lv_at hl 0 rfl) ?_
      refine va_get (D := (dC, dI)) (ci := 12) (v := .ref (a 59)) (C := RX12) (T := TX12) (N := 163) (fs := fM (vS a vi vj)) hx hb hts iwsRX12_nextWays_in12 hown hK hP 0 rfl rfl 99 (by decide) (hts (.fieldLink RX12 200 "OptimaWorksModel" "wayMany" "[I") (by decide +kernel)) (fun _ h9 => h9) rfl dX12_nextWays_28 ?_
      refine lv_iload_n hx hb dX12_nextWays_31 rfl (lv_at hl 1 rfl) ?_
      refine va_iald (cA := k 59) (n := 13) (f := (vF 59)) hx hb hK hP 60 59 (WR_get 59 (by decide)) (TR_get 59 (by decide)) (vp_in_nI (show kk < 13 by omega) (by omega)) dX12_nextWays_32 ?_
      refine lv_topi (fun y7 hy7 => ?_)
      obtain rfl : ((vF 59) kk) = y7 := (hy7.trans (by rw [nI_clamp (by omega)])).symm
      refine lv_topi (fun y8 hy8 => ?_)
      obtain rfl : (nI wk) = y8 := (hy8.trans (e1)).symm
      refine lv_icmp_ge (tgt := 38) hx hb dX12_nextWays_33 (by decide) (fun c_33 => ?_) (fun c_33 => ?_)
      · have t_33 : (((dk + 1) : Nat) : Int) ≥ ((wk : Nat) : Int) := toI_ge c_33 (nI_toInt (by omega)) (nI_toInt (by omega))
        refine lv_aload_n hx hb dX12_nextWays_38 rfl (lv_at hl 0 rfl) ?_
        refine va_get (D := (dC, dI)) (ci := 12) (v := .ref (a 69)) (C := RX12) (T := TX12) (N := 163) (fs := fM (vS a vi vj)) hx hb hts iwsRX12_nextWays_in12 hown hK hP 0 rfl rfl 114 (by decide) (hts (.fieldLink RX12 230 "OptimaWorksModel" "chosen" "[I") (by decide +kernel)) (fun _ h9 => h9) rfl dX12_nextWays_39 ?_
        refine lv_iload_n hx hb dX12_nextWays_42 rfl (lv_at hl 1 rfl) ?_
        refine lv_iconst (v := 0) hx hb dX12_nextWays_43 (by decide) ?_
        refine va_iast (cA := k 69) (n := 13) (f := (upd f69 ((nI kk)).toNatClampNeg (nI (dk + 1)))) hx hb hK hP hD hS 70 69 (WR_get 69 (by decide)) (TR_get 69 (by decide)) (vp_in_nI (show kk < 13 by omega) (by omega)) dX12_nextWays_44 (fun H locs hP hD hS => ?_)
        have e9 : fT vF 69 (upd (upd f69 ((nI kk)).toNatClampNeg (nI (dk + 1))) ((nI kk)).toNatClampNeg 0) = fT (fT vF 69 (upd f69 ((nI kk)).toNatClampNeg (nI (dk + 1)))) 69 (upd (upd f69 ((nI kk)).toNatClampNeg (nI (dk + 1))) ((nI kk)).toNatClampNeg 0) := (fT_sm _ _ _ _).symm
        have hP : va_P (dC, dI) vwCl (WR a k h0 vi vj (fT vF 69 (upd (upd f69 ((nI kk)).toNatClampNeg (nI (dk + 1))) ((nI kk)).toNatClampNeg 0)) vG) H := by rw [e9, ← WR_F 69 (by decide) _ rfl]; exact hP
        have hD : va_D A (WR a k h0 vi vj (fT vF 69 (upd (upd f69 ((nI kk)).toNatClampNeg (nI (dk + 1))) ((nI kk)).toNatClampNeg 0)) vG) := by rw [e9, ← WR_F 69 (by decide) _ rfl]; exact hD
        clear e9
        refine lv_iinc (v := ((nI kk) + (-1))) hx hb dX12_nextWays_45 hl (k := 1) rfl rfl (by decide) rfl (fun ls (hl : lv_has ls _ ([(1, .int ((nI kk) + (-1))), (0, .ref h0)])) => ?_)
        refine lv_goto (tgt := 7) hx hb dX12_nextWays_48 (by decide) ?_
        have hl : lv_has _ _ ([(0, .ref h0), (1, .int ((nI kk) + (-1)))]) := lv_sub hl [1, 0] rfl
        exact ih7 ((nI kk) + (-1)) (kk1 - 1) (upd (upd f69 ((nI kk)).toNatClampNeg (nI (dk + 1))) ((nI kk)).toNatClampNeg 0) _ _ _ (by rw [m1T (by omega)]; omega) (by omega) (fun q hq => by rw [upd_at (by omega), if_neg (by omega), upd_at (by omega), if_neg (by omega)]; exact hsame q (by omega)) (fun q h1 h2 => by by_cases e9 : q = kk; (rw [upd_at (by omega), if_pos e9]); (rw [upd_at (by omega), if_neg e9, upd_at (by omega), if_neg e9]; exact hz q (by omega) h2)) (by omega) hP hD hS hl
      · have t_33 : ¬ (((dk + 1) : Nat) : Int) ≥ ((wk : Nat) : Int) := toI_nge c_33 (nI_toInt (by omega)) (nI_toInt (by omega))
        refine lv_iconst (v := 1) hx hb dX12_nextWays_36 (by decide) ?_
        refine W.widen (k := 0) (n := 0) (by decide +kernel) (by decide +kernel) ?_
        exact W.zret (v := 1) hx hb hr rfl (fun t9_ ht hW => ⟨⟨1, (upd f69 ((nI kk)).toNatClampNeg (nI (dk + 1))), rfl, by (try dsimp only); (have hn := hch.next (g := upd f69 (nI kk).toNatClampNeg (nI (dk + 1))) (r := kk) (by omega) e1 e3 e4 (by omega) (fun q hq => by rw [upd_at (by omega), if_neg (by omega)]; exact hsame q (by omega)) (by rw [upd_at (by omega), if_pos rfl]) (fun q h1 h2 => by rw [upd_at (by omega), if_neg (by omega)]; exact hz q (by omega) h2)); exact Or.inl ⟨rfl, hn.1, hn.2⟩, by rw [ht]; exact hP, hD⟩, hS.F ht⟩) hS.2.2 dX12_nextWays_37
theorem dX12_nextValues_0 : decode cX12_nextValues 0 = .ok (.aload_n 0, 1) := dk_42 (by decide +kernel)
theorem dX12_nextValues_1 : decode cX12_nextValues 1 = .ok (.getfield 774, 3) := dk_180 (by decide +kernel)
theorem dX12_nextValues_4 : decode cX12_nextValues 4 = .ok (.iconst 1, 1) := dk_4 (by decide +kernel)
theorem dX12_nextValues_5 : decode cX12_nextValues 5 = .ok (.isub, 1) := dk_100 (by decide +kernel)
theorem dX12_nextValues_6 : decode cX12_nextValues 6 = .ok (.istore_n 1, 1) := dk_60 (by decide +kernel)
theorem dX12_nextValues_7 : decode cX12_nextValues 7 = .ok (.iload_n 1, 1) := dk_27 (by decide +kernel)
theorem dX12_nextValues_8 : decode cX12_nextValues 8 = .ok (.ifCond .lt 60, 3) := dk_155 (by decide +kernel)
theorem dX12_nextValues_11 : decode cX12_nextValues 11 = .ok (.aload_n 0, 1) := dk_42 (by decide +kernel)
theorem dX12_nextValues_12 : decode cX12_nextValues 12 = .ok (.getfield 197, 3) := dk_180 (by decide +kernel)
theorem dX12_nextValues_15 : decode cX12_nextValues 15 = .ok (.iload_n 1, 1) := dk_27 (by decide +kernel)
theorem dX12_nextValues_16 : decode cX12_nextValues 16 = .ok (.iaload, 1) := dk_46 (by decide +kernel)
theorem dX12_nextValues_17 : decode cX12_nextValues 17 = .ok (.ifCond .ne 6, 3) := dk_154 (by decide +kernel)
theorem dX12_nextValues_20 : decode cX12_nextValues 20 = .ok (.goto 42, 3) := dk_167 (by decide +kernel)
theorem dX12_nextValues_23 : decode cX12_nextValues 23 = .ok (.aload_n 0, 1) := dk_42 (by decide +kernel)
theorem dX12_nextValues_24 : decode cX12_nextValues 24 = .ok (.getfield 233, 3) := dk_180 (by decide +kernel)
theorem dX12_nextValues_27 : decode cX12_nextValues 27 = .ok (.iload_n 1, 1) := dk_27 (by decide +kernel)
theorem dX12_nextValues_28 : decode cX12_nextValues 28 = .ok (.dup2, 1) := dk_92 (by decide +kernel)
theorem dX12_nextValues_29 : decode cX12_nextValues 29 = .ok (.iaload, 1) := dk_46 (by decide +kernel)
theorem dX12_nextValues_30 : decode cX12_nextValues 30 = .ok (.iconst 1, 1) := dk_4 (by decide +kernel)
theorem dX12_nextValues_31 : decode cX12_nextValues 31 = .ok (.iadd, 1) := dk_96 (by decide +kernel)
theorem dX12_nextValues_32 : decode cX12_nextValues 32 = .ok (.iastore, 1) := dk_79 (by decide +kernel)
theorem dX12_nextValues_33 : decode cX12_nextValues 33 = .ok (.aload_n 0, 1) := dk_42 (by decide +kernel)
theorem dX12_nextValues_34 : decode cX12_nextValues 34 = .ok (.getfield 233, 3) := dk_180 (by decide +kernel)
theorem dX12_nextValues_37 : decode cX12_nextValues 37 = .ok (.iload_n 1, 1) := dk_27 (by decide +kernel)
theorem dX12_nextValues_38 : decode cX12_nextValues 38 = .ok (.iaload, 1) := dk_46 (by decide +kernel)
theorem dX12_nextValues_39 : decode cX12_nextValues 39 = .ok (.aload_n 0, 1) := dk_42 (by decide +kernel)
theorem dX12_nextValues_40 : decode cX12_nextValues 40 = .ok (.getfield 194, 3) := dk_180 (by decide +kernel)
theorem dX12_nextValues_43 : decode cX12_nextValues 43 = .ok (.iload_n 1, 1) := dk_27 (by decide +kernel)
theorem dX12_nextValues_44 : decode cX12_nextValues 44 = .ok (.iaload, 1) := dk_46 (by decide +kernel)
theorem dX12_nextValues_45 : decode cX12_nextValues 45 = .ok (.if_icmp .gt 5, 3) := dk_163 (by decide +kernel)
theorem dX12_nextValues_48 : decode cX12_nextValues 48 = .ok (.iconst 1, 1) := dk_4 (by decide +kernel)
theorem dX12_nextValues_49 : decode cX12_nextValues 49 = .ok (.ireturn, 1) := dk_172 (by decide +kernel)
theorem dX12_nextValues_50 : decode cX12_nextValues 50 = .ok (.aload_n 0, 1) := dk_42 (by decide +kernel)
theorem dX12_nextValues_51 : decode cX12_nextValues 51 = .ok (.getfield 233, 3) := dk_180 (by decide +kernel)
theorem dX12_nextValues_54 : decode cX12_nextValues 54 = .ok (.iload_n 1, 1) := dk_27 (by decide +kernel)
theorem dX12_nextValues_55 : decode cX12_nextValues 55 = .ok (.aload_n 0, 1) := dk_42 (by decide +kernel)
theorem dX12_nextValues_56 : decode cX12_nextValues 56 = .ok (.getfield 191, 3) := dk_180 (by decide +kernel)
theorem dX12_nextValues_59 : decode cX12_nextValues 59 = .ok (.iload_n 1, 1) := dk_27 (by decide +kernel)
theorem dX12_nextValues_60 : decode cX12_nextValues 60 = .ok (.iaload, 1) := dk_46 (by decide +kernel)
theorem dX12_nextValues_61 : decode cX12_nextValues 61 = .ok (.iastore, 1) := dk_79 (by decide +kernel)
theorem dX12_nextValues_62 : decode cX12_nextValues 62 = .ok (.iinc 1 (-1), 3) := dk_132 (by decide +kernel)
theorem dX12_nextValues_65 : decode cX12_nextValues 65 = .ok (.goto (-58), 3) := dk_167 (by decide +kernel)
theorem dX12_nextValues_68 : decode cX12_nextValues 68 = .ok (.iconst 0, 1) := dk_3 (by decide +kernel)
theorem dX12_nextValues_69 : decode cX12_nextValues 69 = .ok (.ireturn, 1) := dk_172 (by decide +kernel)
def wsRX12_nextValues : List Cond := .code yX12_nextValues cX12_nextValues 2 (some .boolean) :: ([.fieldLink RX12 774 "OptimaWorksModel" "variables" "I", .fieldLink RX12 197 "OptimaWorksModel" "whole" "[I", .fieldLink RX12 233 "OptimaWorksModel" "value" "[I", .fieldLink RX12 194 "OptimaWorksModel" "high" "[I", .fieldLink RX12 191 "OptimaWorksModel" "low" "[I"] ++ wsX120)
theorem iwsRX12_nextValues_in12 : ∀ w ∈ wsX120, w ∈ wsRX12_nextValues := fun _ h => List.mem_cons_of_mem _ (List.mem_append_right _ h)
theorem gdwsRX12_nextValues : wsRX12_nextValues.all goodWord = true := gdC rfl (gdA (by decide +kernel : ([.fieldLink RX12 774 "OptimaWorksModel" "variables" "I", .fieldLink RX12 197 "OptimaWorksModel" "whole" "[I", .fieldLink RX12 233 "OptimaWorksModel" "value" "[I", .fieldLink RX12 194 "OptimaWorksModel" "high" "[I", .fieldLink RX12 191 "OptimaWorksModel" "low" "[I"] : List Cond).all goodWord = true) gdwsX120)
set_option maxHeartbeats 4000000 in
set_option maxRecDepth 100000 in
/-- nextValues() -/
theorem r_X12_nextValues (l : Launch) (dC : Nat → ClassId) (dI : Nat → Nat → Nat) (a : Nat → Nat) (k : Nat → ClassId) (h0 : Nat) (vi : Nat → Int32) (vj : Nat → Int64) (vF : Nat → Nat → Int32) (vG : Nat → Nat → Int64) (vn : Nat) (gq : Nat) (hvn : vi 90 = nI vn) (hvn8 : vn ≤ 8) (hM : MdlB vF gq) (hva : VaO (vF 56) (vF 57) (vF 58) (vF 70) vn) (sz : Nat) : Met l yX12_nextValues wsRX12_nextValues ({ frames := 0, cells := 0, slots := 0, locals := 0 }) (va_Pc [.ref h0] (fun U => U.heap.size = sz ∧ va_P (dC, dI) vwCl (WR a k h0 vi vj vF vG) U.heap ∧ va_K (dC, dI) vwCl (tX12 k) U ∧ va_D (fun _ => True) (WR a k h0 vi vj vF vG))) (va_Qi (fun (r : Int32) (u : Nat → Int32) => (r = 1 ∧ (VaO (vF 56) (vF 57) (vF 58) u vn) ∧ (∀ q, vn ≤ q → u q = vF 70 q) ∧ (odo (vD (vF 56) (vF 70)) (vR (vF 56) (vF 57)) vn < odo (vD (vF 56) u) (vR (vF 56) (vF 57)) vn)) ∨ (r = 0 ∧ (VaO (vF 56) (vF 57) (vF 58) u vn) ∧ (∀ q, vn ≤ q → u q = vF 70 q))) (fun (u : Nat → Int32) t => va_P (dC, dI) vwCl (WR a k h0 vi vj (fT vF 70 u) vG) t.heap ∧ va_D (va_A (WR a k h0 vi vj vF vG) sz) (WR a k h0 vi vj (fT vF 70 u) vG)) (va_A (WR a k h0 vi vj vF vG) sz)) 0 0 (va_A (WR a k h0 vi vj vF vG) sz) := by
  refine Met.ofW (cc := cX12_nextValues) (maxL := 2) (ret := (some .boolean)) (by decide) rfl ?_
  intro p e s m args below meth c s₁ B hml hv
  obtain ⟨rfl, hsz, hP, hK, hD0⟩ := hv
  have hx := B.exec
  have hb := B.bytes
  have hr := B.returns
  have hts := atoms_spec (ws := wsRX12_nextValues) B.pre
  have hown : s.vm.findClass RX12 = some m.cls := findClass_of_methodNamed B.named
  have hlocks := B.notSynchronized
  subst hsz
  have hD := hD0.self (sz := s.heap.size)
  generalize hAe : va_A (WR a k h0 vi vj vF vG) s.heap.size = A at hD ⊢
  have hA : ∀ q : Nat, s.heap.size ≤ q → A q := fun q h => by rw [← hAe]; exact Or.inr h
  have hS : va_S A s.heap s.heap [] := va_S.rf
  have hl := lv_entry ([.ref h0]) (n := 2) (Nat.le_of_ble_eq_true rfl)
  rw [lg_entry_eq]
  generalize (lg_sl ([.ref h0]) ++ List.replicate (2 - (lg_sl ([.ref h0])).length) Slot.unset).toArray = ls at hl ⊢
  have hl : lv_has ls 2 [(0, .ref h0)] := hl
  refine lv_aload_n hx hb dX12_nextValues_0 rfl (lv_at hl 0 rfl) ?_
  refine va_get (D := (dC, dI)) (ci := 12) (v := .int (vi 90)) (C := RX12) (T := TX12) (N := 163) (fs := fM (vS a vi vj)) hx hb hts iwsRX12_nextValues_in12 hown hK hP 0 rfl rfl 90 (by decide) (hts (.fieldLink RX12 774 "OptimaWorksModel" "variables" "I") (by decide +kernel)) (fun _ h9 => h9) rfl dX12_nextValues_1 ?_
  refine lv_topi (fun y1 hy1 => ?_)
  obtain rfl : (nI vn) = y1 := (hy1.trans (hvn)).symm
  refine lv_iconst (v := 1) hx hb dX12_nextValues_4 (by decide) ?_
  refine lv_isub hx hb dX12_nextValues_5 ?_
  refine lv_istore_n hx hb dX12_nextValues_6 rfl hl (by decide) rfl (fun ls (hl : lv_has ls _ ([(1, .int ((nI vn) - 1)), (0, .ref h0)])) => ?_)
  have e9 : fT vF 70 (vF 70) = vF := by funext q9; by_cases h9_70 : q9 = 70; (subst h9_70; exact (fT_eq _ _ _).trans (Eq.trans (by first | rfl | assumption | (symm; assumption) | (subst_vars; rfl)) (Eq.refl _).symm)); exact (fT_ne _ _ h9_70).trans (Eq.refl _).symm
  have hP : va_P (dC, dI) vwCl (WR a k h0 vi vj (fT vF 70 (vF 70)) vG) s.heap := by rw [e9]; exact hP
  have hD : va_D A (WR a k h0 vi vj (fT vF 70 (vF 70)) vG) := by rw [e9]; exact hD
  clear e9
  have hl : lv_has _ _ ([(0, .ref h0), (1, .int ((nI vn) - 1))]) := lv_sub hl [1, 0] rfl
  refine (fun (loop : ∀ (n9 : Nat) (kq : Int32) (kk1 : Nat) (f70 : Nat → Int32) (H : Heap) (locs : List Loc) (ls : Array Slot), ((kq).toInt = (kk1 : Int) - 1) → (kk1 ≤ vn) → (∀ q, q < kk1 → f70 q = vF 70 q) → (∀ q, kk1 ≤ q → q < vn → f70 q = vF 56 q) → (∀ q, vn ≤ q → f70 q = vF 70 q) →  (kk1 < n9) → va_P (dC, dI) vwCl (WR a k h0 vi vj (fT vF 70 f70) vG) H → va_D A (WR a k h0 vi vj (fT vF 70 f70) vG) → va_S A s.heap H locs → lv_has ls 2 [(0, .ref h0), (1, .int kq)] → W p l e _ s m _ below meth c H locs 0 0 _ (F0 m 7 ls [])) => loop (vn + 1) ((nI vn) - 1) vn (vF 70) _ _ _ (by exact pk_sub_toInt (a := vn) (b := 1) (by omega) (by omega)) (by omega) (fun q _ => rfl) (fun q h1 h2 => absurd h1 (by omega)) (fun q _ => rfl) (by omega) hP hD hS hl) ?_
  intro n9
  induction n9 with
  | zero => intro kq kk1 f70 H locs ls hkq hkn hsame hz hz2 hf9; exact False.elim (by omega)
  | succ n9 ih7 =>
    intro kq kk1 f70 H locs ls hkq hkn hsame hz hz2 hf7 hP hD hS hl
    refine lv_iload_n hx hb dX12_nextValues_7 rfl (lv_at hl 1 rfl) ?_
    refine lv_if_lt (tgt := 68) hx hb dX12_nextValues_8 (by decide) (fun c_8 => ?_) (fun c_8 => ?_)
    · have t_8 : (kq).toInt < 0 := toI_lt c_8 rfl (by decide)
      refine lv_iconst (v := 0) hx hb dX12_nextValues_68 (by decide) ?_
      refine W.widen (k := 0) (n := 0) (by decide +kernel) (by decide +kernel) ?_
      exact W.zret (v := 0) hx hb hr rfl (fun t9_ ht hW => ⟨⟨0, f70, rfl, by (try dsimp only); exact Or.inr ⟨rfl, hva.low (fun q hq => hz q (by omega) hq), hz2⟩, by rw [ht]; exact hP, hD⟩, hS.F ht⟩) hS.2.2 dX12_nextValues_69
    · have t_8 : ¬ (kq).toInt < 0 := toI_nlt c_8 rfl (by decide)
      obtain ⟨kk, h_kk, rfl⟩ := of_toInt (x := kq) (k := 9) (by omega) (by omega)
      have e_kk : (nI kk).toInt = (kk : Int) := nI_toInt (by omega)
      refine lv_aload_n hx hb dX12_nextValues_11 rfl (lv_at hl 0 rfl) ?_
      refine va_get (D := (dC, dI)) (ci := 12) (v := .ref (a 58)) (C := RX12) (T := TX12) (N := 163) (fs := fM (vS a vi vj)) hx hb hts iwsRX12_nextValues_in12 hown hK hP 0 rfl rfl 98 (by decide) (hts (.fieldLink RX12 197 "OptimaWorksModel" "whole" "[I") (by decide +kernel)) (fun _ h9 => h9) rfl dX12_nextValues_12 ?_
      refine lv_iload_n hx hb dX12_nextValues_15 rfl (lv_at hl 1 rfl) ?_
      refine va_iald (cA := k 58) (n := 9) (f := (vF 58)) hx hb hK hP 59 58 (WR_get 58 (by decide)) (TR_get 58 (by decide)) (vp_in_nI (show kk < 9 by omega) (by omega)) dX12_nextValues_16 ?_
      refine lv_topi (fun y2 hy2 => ?_)
      obtain rfl : ((vF 58) kk) = y2 := (hy2.trans (by rw [nI_clamp (by omega)])).symm
      refine lv_if_ne (tgt := 23) hx hb dX12_nextValues_17 (by decide) (fun c_17 => ?_) (fun c_17 => ?_)
      · have t_17 : (((vF 58) kk)).toInt ≠ 0 := toI_ne c_17 rfl (by decide)
        obtain ⟨e1, e2, e3, e4⟩ := hva kk (by omega)
        have b6 := hM.1 kk (by omega)
        have b7 := hM.2.1 kk (by omega)
        have ef : f70 kk = vF 70 kk := hsame kk (by omega)
        have ea : (vF 70 kk + 1).toInt = (vF 70 kk).toInt + 1 := by rw [addB (by omega) (by decide)]; rfl
        refine lv_aload_n hx hb dX12_nextValues_23 rfl (lv_at hl 0 rfl) ?_
        refine va_get (D := (dC, dI)) (ci := 12) (v := .ref (a 70)) (C := RX12) (T := TX12) (N := 163) (fs := fM (vS a vi vj)) hx hb hts iwsRX12_nextValues_in12 hown hK hP 0 rfl rfl 115 (by decide) (hts (.fieldLink RX12 233 "OptimaWorksModel" "value" "[I") (by decide +kernel)) (fun _ h9 => h9) rfl dX12_nextValues_24 ?_
        refine lv_iload_n hx hb dX12_nextValues_27 rfl (lv_at hl 1 rfl) ?_
        refine lv_dup2_11 hx hb dX12_nextValues_28 rfl rfl ?_
        refine va_iald (cA := k 70) (n := 9) (f := f70) hx hb hK hP 71 70 (WR_get 70 (by decide)) (TR_get 70 (by decide)) (vp_in_nI (show kk < 9 by omega) (by omega)) dX12_nextValues_29 ?_
        refine lv_topi (fun y3 hy3 => ?_)
        obtain rfl : (f70 kk) = y3 := (hy3.trans (by rw [nI_clamp (by omega)])).symm
        refine lv_topi (fun y4 hy4 => ?_)
        obtain rfl : (vF 70 kk) = y4 := (hy4.trans (ef)).symm
        refine lv_iconst (v := 1) hx hb dX12_nextValues_30 (by decide) ?_
        refine lv_iadd hx hb dX12_nextValues_31 ?_
        refine va_iast (cA := k 70) (n := 9) (f := f70) hx hb hK hP hD hS 71 70 (WR_get 70 (by decide)) (TR_get 70 (by decide)) (vp_in_nI (show kk < 9 by omega) (by omega)) dX12_nextValues_32 (fun H locs hP hD hS => ?_)
        have e9 : fT vF 70 (upd f70 ((nI kk)).toNatClampNeg ((vF 70 kk) + 1)) = fT (fT vF 70 f70) 70 (upd f70 ((nI kk)).toNatClampNeg ((vF 70 kk) + 1)) := (fT_sm _ _ _ _).symm
        have hP : va_P (dC, dI) vwCl (WR a k h0 vi vj (fT vF 70 (upd f70 ((nI kk)).toNatClampNeg ((vF 70 kk) + 1))) vG) H := by rw [e9, ← WR_F 70 (by decide) _ rfl]; exact hP
        have hD : va_D A (WR a k h0 vi vj (fT vF 70 (upd f70 ((nI kk)).toNatClampNeg ((vF 70 kk) + 1))) vG) := by rw [e9, ← WR_F 70 (by decide) _ rfl]; exact hD
        clear e9
        refine lv_aload_n hx hb dX12_nextValues_33 rfl (lv_at hl 0 rfl) ?_
        refine va_get (D := (dC, dI)) (ci := 12) (v := .ref (a 70)) (C := RX12) (T := TX12) (N := 163) (fs := fM (vS a vi vj)) hx hb hts iwsRX12_nextValues_in12 hown hK hP 0 rfl rfl 115 (by decide) (hts (.fieldLink RX12 233 "OptimaWorksModel" "value" "[I") (by decide +kernel)) (fun _ h9 => h9) rfl dX12_nextValues_34 ?_
        refine lv_iload_n hx hb dX12_nextValues_37 rfl (lv_at hl 1 rfl) ?_
        refine va_iald (cA := k 70) (n := 9) (f := (upd f70 ((nI kk)).toNatClampNeg ((vF 70 kk) + 1))) hx hb hK hP 71 70 (WR_get 70 (by decide)) (TR_get 70 (by decide)) (vp_in_nI (show kk < 9 by omega) (by omega)) dX12_nextValues_38 ?_
        refine lv_topi (fun y5 hy5 => ?_)
        obtain rfl : ((upd f70 ((nI kk)).toNatClampNeg ((vF 70 kk) + 1)) kk) = y5 := (hy5.trans (by rw [nI_clamp (by omega)])).symm
        refine lv_topi (fun y6 hy6 => ?_)
        obtain rfl : (vF 70 kk + 1) = y6 := (hy6.trans (by rw [upd_at (by omega), if_pos rfl])).symm
        refine lv_aload_n hx hb dX12_nextValues_39 rfl (lv_at hl 0 rfl) ?_
        refine va_get (D := (dC, dI)) (ci := 12) (v := .ref (a 57)) (C := RX12) (T := TX12) (N := 163) (fs := fM (vS a vi vj)) hx hb hts iwsRX12_nextValues_in12 hown hK hP 0 rfl rfl 97 (by decide) (hts (.fieldLink RX12 194 "OptimaWorksModel" "high" "[I") (by decide +kernel)) (fun _ h9 => h9) rfl dX12_nextValues_40 ?_
        refine lv_iload_n hx hb dX12_nextValues_43 rfl (lv_at hl 1 rfl) ?_
        refine va_iald (cA := k 57) (n := 9) (f := (vF 57)) hx hb hK hP 58 57 (WR_get 57 (by decide)) (TR_get 57 (by decide)) (vp_in_nI (show kk < 9 by omega) (by omega)) dX12_nextValues_44 ?_
        refine lv_topi (fun y7 hy7 => ?_)
        obtain rfl : ((vF 57) kk) = y7 := (hy7.trans (by rw [nI_clamp (by omega)])).symm
        refine lv_icmp_gt (tgt := 50) hx hb dX12_nextValues_45 (by decide) (fun c_45 => ?_) (fun c_45 => ?_)
        · have t_45 : ((vF 70 kk + 1)).toInt > (((vF 57) kk)).toInt := toI_gt c_45 rfl rfl
          refine lv_aload_n hx hb dX12_nextValues_50 rfl (lv_at hl 0 rfl) ?_
          refine va_get (D := (dC, dI)) (ci := 12) (v := .ref (a 70)) (C := RX12) (T := TX12) (N := 163) (fs := fM (vS a vi vj)) hx hb hts iwsRX12_nextValues_in12 hown hK hP 0 rfl rfl 115 (by decide) (hts (.fieldLink RX12 233 "OptimaWorksModel" "value" "[I") (by decide +kernel)) (fun _ h9 => h9) rfl dX12_nextValues_51 ?_
          refine lv_iload_n hx hb dX12_nextValues_54 rfl (lv_at hl 1 rfl) ?_
          refine lv_aload_n hx hb dX12_nextValues_55 rfl (lv_at hl 0 rfl) ?_
          refine va_get (D := (dC, dI)) (ci := 12) (v := .ref (a 56)) (C := RX12) (T := TX12) (N := 163) (fs := fM (vS a vi vj)) hx hb hts iwsRX12_nextValues_in12 hown hK hP 0 rfl rfl 96 (by decide) (hts (.fieldLink RX12 191 "OptimaWorksModel" "low" "[I") (by decide +kernel)) (fun _ h9 => h9) rfl dX12_nextValues_56 ?_
          refine lv_iload_n hx hb dX12_nextValues_59 rfl (lv_at hl 1 rfl) ?_
          refine va_iald (cA := k 56) (n := 9) (f := (vF 56)) hx hb hK hP 57 56 (WR_get 56 (by decide)) (TR_get 56 (by decide)) (vp_in_nI (show kk < 9 by omega) (by omega)) dX12_nextValues_60 ?_
          refine lv_topi (fun y8 hy8 => ?_)
          obtain rfl : ((vF 56) kk) = y8 := (hy8.trans (by rw [nI_clamp (by omega)])).symm
          refine va_iast (cA := k 70) (n := 9) (f := (upd f70 ((nI kk)).toNatClampNeg ((vF 70 kk) + 1))) hx hb hK hP hD hS 71 70 (WR_get 70 (by decide)) (TR_get 70 (by decide)) (vp_in_nI (show kk < 9 by omega) (by omega)) dX12_nextValues_61 (fun H locs hP hD hS => ?_)
          have e9 : fT vF 70 (upd (upd f70 ((nI kk)).toNatClampNeg ((vF 70 kk) + 1)) ((nI kk)).toNatClampNeg ((vF 56) kk)) = fT (fT vF 70 (upd f70 ((nI kk)).toNatClampNeg ((vF 70 kk) + 1))) 70 (upd (upd f70 ((nI kk)).toNatClampNeg ((vF 70 kk) + 1)) ((nI kk)).toNatClampNeg ((vF 56) kk)) := (fT_sm _ _ _ _).symm
          have hP : va_P (dC, dI) vwCl (WR a k h0 vi vj (fT vF 70 (upd (upd f70 ((nI kk)).toNatClampNeg ((vF 70 kk) + 1)) ((nI kk)).toNatClampNeg ((vF 56) kk))) vG) H := by rw [e9, ← WR_F 70 (by decide) _ rfl]; exact hP
          have hD : va_D A (WR a k h0 vi vj (fT vF 70 (upd (upd f70 ((nI kk)).toNatClampNeg ((vF 70 kk) + 1)) ((nI kk)).toNatClampNeg ((vF 56) kk))) vG) := by rw [e9, ← WR_F 70 (by decide) _ rfl]; exact hD
          clear e9
          refine lv_iinc (v := ((nI kk) + (-1))) hx hb dX12_nextValues_62 hl (k := 1) rfl rfl (by decide) rfl (fun ls (hl : lv_has ls _ ([(1, .int ((nI kk) + (-1))), (0, .ref h0)])) => ?_)
          refine lv_goto (tgt := 7) hx hb dX12_nextValues_65 (by decide) ?_
          have hl : lv_has _ _ ([(0, .ref h0), (1, .int ((nI kk) + (-1)))]) := lv_sub hl [1, 0] rfl
          exact ih7 ((nI kk) + (-1)) (kk1 - 1) (upd (upd f70 ((nI kk)).toNatClampNeg ((vF 70 kk) + 1)) ((nI kk)).toNatClampNeg ((vF 56) kk)) _ _ _ (by rw [m1T (by omega)]; omega) (by omega) (fun q hq => by rw [upd_at (by omega), if_neg (by omega), upd_at (by omega), if_neg (by omega)]; exact hsame q (by omega)) (fun q h1 h2 => by by_cases e9 : q = kk; (rw [upd_at (by omega), if_pos e9, e9]); (rw [upd_at (by omega), if_neg e9, upd_at (by omega), if_neg e9]; exact hz q (by omega) h2)) (fun q hq => by rw [upd_at (by omega), if_neg (by omega), upd_at (by omega), if_neg (by omega)]; exact hz2 q hq) (by omega) hP hD hS hl
        · have t_45 : ¬ ((vF 70 kk + 1)).toInt > (((vF 57) kk)).toInt := toI_ngt c_45 rfl rfl
          refine lv_iconst (v := 1) hx hb dX12_nextValues_48 (by decide) ?_
          refine W.widen (k := 0) (n := 0) (by decide +kernel) (by decide +kernel) ?_
          exact W.zret (v := 1) hx hb hr rfl (fun t9_ ht hW => ⟨⟨1, (upd f70 ((nI kk)).toNatClampNeg ((vF 70 kk) + 1)), rfl, by (try dsimp only); (have hn := hva.next (g := (upd f70 (nI kk).toNatClampNeg (vF 70 kk + 1))) (r := kk) (by omega) c_17 (fun q hq => by rw [upd_at (by omega), if_neg (by omega)]; exact hsame q (by omega)) (by rw [upd_at (by omega), if_pos rfl]; exact ea) (by rw [upd_at (by omega), if_pos rfl]; omega) (fun q h1 h2 => by rw [upd_at (by omega), if_neg (by omega)]; exact hz q (by omega) h2)); exact Or.inl ⟨rfl, hn.1, fun q hq => by rw [upd_at (by omega), if_neg (by omega)]; exact hz2 q hq, hn.2⟩, by rw [ht]; exact hP, hD⟩, hS.F ht⟩) hS.2.2 dX12_nextValues_49
      · have t_17 : (((vF 58) kk)).toInt = 0 := toI_nne c_17 rfl (by decide)
        refine lv_goto (tgt := 62) hx hb dX12_nextValues_20 (by decide) ?_
        refine lv_iinc (v := ((nI kk) + (-1))) hx hb dX12_nextValues_62 hl (k := 1) rfl rfl (by decide) rfl (fun ls (hl : lv_has ls _ ([(1, .int ((nI kk) + (-1))), (0, .ref h0)])) => ?_)
        refine lv_goto (tgt := 7) hx hb dX12_nextValues_65 (by decide) ?_
        have hl : lv_has _ _ ([(0, .ref h0), (1, .int ((nI kk) + (-1)))]) := lv_sub hl [1, 0] rfl
        exact ih7 ((nI kk) + (-1)) (kk1 - 1) f70 _ _ _ (by rw [m1T (by omega)]; omega) (by omega) (fun q hq => hsame q (by omega)) (fun q h1 h2 => by by_cases e9 : q = kk; (rw [e9, hsame kk (by omega)]; exact (hva kk (by omega)).2.1 c_17); (exact hz q (by omega) h2)) (hz2) (by omega) hP hD hS hl

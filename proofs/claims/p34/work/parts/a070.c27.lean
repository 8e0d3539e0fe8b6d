theorem dX12_sameText_0 : decode cX12_sameText 0 = .ok (.iload_n 2, 1) := dk_28 (by decide +kernel)
theorem dX12_sameText_1 : decode cX12_sameText 1 = .ok (.iload 4, 2) := dk_21 (by decide +kernel)
theorem dX12_sameText_3 : decode cX12_sameText 3 = .ok (.if_icmp .ne 7, 3) := dk_160 (by decide +kernel)
theorem dX12_sameText_6 : decode cX12_sameText 6 = .ok (.iconst 1, 1) := dk_4 (by decide +kernel)
theorem dX12_sameText_7 : decode cX12_sameText 7 = .ok (.goto 4, 3) := dk_167 (by decide +kernel)
theorem dX12_sameText_10 : decode cX12_sameText 10 = .ok (.iconst 0, 1) := dk_3 (by decide +kernel)
theorem dX12_sameText_11 : decode cX12_sameText 11 = .ok (.istore 5, 2) := dk_54 (by decide +kernel)
theorem dX12_sameText_13 : decode cX12_sameText 13 = .ok (.iconst 0, 1) := dk_3 (by decide +kernel)
theorem dX12_sameText_14 : decode cX12_sameText 14 = .ok (.istore 6, 2) := dk_54 (by decide +kernel)
theorem dX12_sameText_16 : decode cX12_sameText 16 = .ok (.iload 6, 2) := dk_21 (by decide +kernel)
theorem dX12_sameText_18 : decode cX12_sameText 18 = .ok (.iload_n 2, 1) := dk_28 (by decide +kernel)
theorem dX12_sameText_19 : decode cX12_sameText 19 = .ok (.if_icmp .ge 42, 3) := dk_162 (by decide +kernel)
theorem dX12_sameText_22 : decode cX12_sameText 22 = .ok (.iload 5, 2) := dk_21 (by decide +kernel)
theorem dX12_sameText_24 : decode cX12_sameText 24 = .ok (.ifCond .eq 37, 3) := dk_153 (by decide +kernel)
theorem dX12_sameText_27 : decode cX12_sameText 27 = .ok (.aload_n 0, 1) := dk_42 (by decide +kernel)
theorem dX12_sameText_28 : decode cX12_sameText 28 = .ok (.getfield 39, 3) := dk_180 (by decide +kernel)
theorem dX12_sameText_31 : decode cX12_sameText 31 = .ok (.iload_n 1, 1) := dk_27 (by decide +kernel)
theorem dX12_sameText_32 : decode cX12_sameText 32 = .ok (.iload 6, 2) := dk_21 (by decide +kernel)
theorem dX12_sameText_34 : decode cX12_sameText 34 = .ok (.iadd, 1) := dk_96 (by decide +kernel)
theorem dX12_sameText_35 : decode cX12_sameText 35 = .ok (.baload, 1) := dk_51 (by decide +kernel)
theorem dX12_sameText_36 : decode cX12_sameText 36 = .ok (.aload_n 0, 1) := dk_42 (by decide +kernel)
theorem dX12_sameText_37 : decode cX12_sameText 37 = .ok (.getfield 39, 3) := dk_180 (by decide +kernel)
theorem dX12_sameText_40 : decode cX12_sameText 40 = .ok (.iload_n 3, 1) := dk_29 (by decide +kernel)
theorem dX12_sameText_41 : decode cX12_sameText 41 = .ok (.iload 6, 2) := dk_21 (by decide +kernel)
theorem dX12_sameText_43 : decode cX12_sameText 43 = .ok (.iadd, 1) := dk_96 (by decide +kernel)
theorem dX12_sameText_44 : decode cX12_sameText 44 = .ok (.baload, 1) := dk_51 (by decide +kernel)
theorem dX12_sameText_45 : decode cX12_sameText 45 = .ok (.if_icmp .ne 7, 3) := dk_160 (by decide +kernel)
theorem dX12_sameText_48 : decode cX12_sameText 48 = .ok (.iconst 1, 1) := dk_4 (by decide +kernel)
theorem dX12_sameText_49 : decode cX12_sameText 49 = .ok (.goto 4, 3) := dk_167 (by decide +kernel)
theorem dX12_sameText_52 : decode cX12_sameText 52 = .ok (.iconst 0, 1) := dk_3 (by decide +kernel)
theorem dX12_sameText_53 : decode cX12_sameText 53 = .ok (.istore 5, 2) := dk_54 (by decide +kernel)
theorem dX12_sameText_55 : decode cX12_sameText 55 = .ok (.iinc 6 1, 3) := dk_132 (by decide +kernel)
theorem dX12_sameText_58 : decode cX12_sameText 58 = .ok (.goto (-42), 3) := dk_167 (by decide +kernel)
theorem dX12_sameText_61 : decode cX12_sameText 61 = .ok (.iload 5, 2) := dk_21 (by decide +kernel)
theorem dX12_sameText_63 : decode cX12_sameText 63 = .ok (.ireturn, 1) := dk_172 (by decide +kernel)
def wsRX12_sameText : List Cond := .code yX12_sameText cX12_sameText 7 (some .boolean) :: ([.fieldLink RX12 39 "OptimaWorksModel" "tape" "[B"] ++ wsX120)
theorem iwsRX12_sameText_in12 : ∀ w ∈ wsX120, w ∈ wsRX12_sameText := fun _ h => List.mem_cons_of_mem _ (List.mem_append_right _ h)
theorem gdwsRX12_sameText : wsRX12_sameText.all goodWord = true := gdC rfl (gdA (by decide +kernel : ([.fieldLink RX12 39 "OptimaWorksModel" "tape" "[B"] : List Cond).all goodWord = true) gdwsX120)
set_option maxHeartbeats 4000000 in
set_option maxRecDepth 100000 in
/-- sameText(a, n, b, m) -/
theorem r_X12_sameText (l : Launch) (dC : Nat → ClassId) (dI : Nat → Nat → Nat) (a : Nat → Nat) (k : Nat → ClassId) (h0 : Nat) (vi : Nat → Int32) (vj : Nat → Int64) (vF : Nat → Nat → Int32) (vG : Nat → Nat → Int64) (xa : Nat) (xn : Nat) (xb : Nat) (xm : Nat) (h1 : xa + xn ≤ 4000) (h2 : xb + xm ≤ 4000) (sz : Nat) : Met l yX12_sameText wsRX12_sameText ({ frames := 0, cells := 0, slots := 0, locals := 0 }) (va_Pc [.ref h0, .int (nI xa), .int (nI xn), .int (nI xb), .int (nI xm)] (fun U => U.heap.size = sz ∧ va_P (dC, dI) vwCl (WR a k h0 vi vj vF vG) U.heap ∧ va_K (dC, dI) vwCl (tX12 k) U ∧ va_D (fun _ => True) (WR a k h0 vi vj vF vG))) (va_Qi (fun (r : Int32) (u : Unit) => ((r) = 0 ∨ (r) = 1)) (fun (u : Unit) t => va_P (dC, dI) vwCl (WR a k h0 vi vj vF vG) t.heap ∧ va_D (va_A (WR a k h0 vi vj vF vG) sz) (WR a k h0 vi vj vF vG)) (va_A (WR a k h0 vi vj vF vG) sz)) 0 0 (va_A (WR a k h0 vi vj vF vG) sz) := by
  refine Met.ofW (cc := cX12_sameText) (maxL := 7) (ret := (some .boolean)) (by decide) rfl ?_
  intro p e s m args below meth c s₁ B hml hv
  obtain ⟨rfl, hsz, hP, hK, hD0⟩ := hv
  have hx := B.exec
  have hb := B.bytes
  have hr := B.returns
  have hts := atoms_spec (ws := wsRX12_sameText) B.pre
  have hown : s.vm.findClass RX12 = some m.cls := findClass_of_methodNamed B.named
  have hlocks := B.notSynchronized
  subst hsz
  have hD := hD0.self (sz := s.heap.size)
  generalize hAe : va_A (WR a k h0 vi vj vF vG) s.heap.size = A at hD ⊢
  have hA : ∀ q : Nat, s.heap.size ≤ q → A q := fun q h => by rw [← hAe]; exact Or.inr h
  have hS : va_S A s.heap s.heap [] := va_S.rf
  have hl := lv_entry ([.ref h0, .int (nI xa), .int (nI xn), .int (nI xb), .int (nI xm)]) (n := 7) (Nat.le_of_ble_eq_true rfl)
  rw [lg_entry_eq]
  generalize (lg_sl ([.ref h0, .int (nI xa), .int (nI xn), .int (nI xb), .int (nI xm)]) ++ List.replicate (7 - (lg_sl ([.ref h0, .int (nI xa), .int (nI xn), .int (nI xb), .int (nI xm)])).length) Slot.unset).toArray = ls at hl ⊢
  have hl : lv_has ls 7 [(0, .ref h0), (1, .int (nI xa)), (2, .int (nI xn)), (3, .int (nI xb)), (4, .int (nI xm))] := hl
  refine lv_iload_n hx hb dX12_sameText_0 rfl (lv_at hl 2 rfl) ?_
  refine lv_iload hx hb dX12_sameText_1 (lv_at hl 4 rfl) ?_
  refine W.cut (pc := 13) (fun H locs ls stk => ∃ (zq : Int32), ((zq = 0) ∨ (zq = 1 ∧ xn = xm)) ∧  stk = [] ∧ va_P (dC, dI) vwCl (WR a k h0 vi vj vF vG) H ∧ va_D A (WR a k h0 vi vj vF vG) ∧ va_S A s.heap H locs ∧ lv_has ls 7 [(0, .ref h0), (1, .int (nI xa)), (2, .int (nI xn)), (3, .int (nI xb)), (5, .int zq)]) (fun join1 => ?_) ?_
  · refine lv_icmp_ne (tgt := 10) hx hb dX12_sameText_3 (by decide) (fun c_3 => ?_) (fun c_3 => ?_)
    · have t_3 : ((xn : Nat) : Int) ≠ ((xm : Nat) : Int) := toI_ne c_3 (nI_toInt (by omega)) (nI_toInt (by omega))
      refine lv_iconst (v := 0) hx hb dX12_sameText_10 (by decide) ?_
      refine lv_istore hx hb dX12_sameText_11 hl (by decide) rfl (fun ls (hl : lv_has ls _ ([(5, .int 0), (0, .ref h0), (1, .int (nI xa)), (2, .int (nI xn)), (3, .int (nI xb)), (4, .int (nI xm))])) => ?_)
      have hl : lv_has _ _ ([(0, .ref h0), (1, .int (nI xa)), (2, .int (nI xn)), (3, .int (nI xb)), (5, .int 0)]) := lv_sub hl [1, 2, 3, 4, 0] rfl
      exact join1 _ _ _ _ ⟨0, Or.inl rfl, rfl, hP, hD, hS, hl⟩
    · have t_3 : ((xn : Nat) : Int) = ((xm : Nat) : Int) := toI_nne c_3 (nI_toInt (by omega)) (nI_toInt (by omega))
      refine lv_iconst (v := 1) hx hb dX12_sameText_6 (by decide) ?_
      refine lv_goto (tgt := 11) hx hb dX12_sameText_7 (by decide) ?_
      refine lv_istore hx hb dX12_sameText_11 hl (by decide) rfl (fun ls (hl : lv_has ls _ ([(5, .int 1), (0, .ref h0), (1, .int (nI xa)), (2, .int (nI xn)), (3, .int (nI xb)), (4, .int (nI xm))])) => ?_)
      have hl : lv_has _ _ ([(0, .ref h0), (1, .int (nI xa)), (2, .int (nI xn)), (3, .int (nI xb)), (5, .int 1)]) := lv_sub hl [1, 2, 3, 4, 0] rfl
      exact join1 _ _ _ _ ⟨1, Or.inr ⟨rfl, by omega⟩, rfl, hP, hD, hS, hl⟩
  · rintro H locs ls stk ⟨zq, hzq, rfl, hP, hD, hS, hl⟩
    refine lv_iconst (v := 0) hx hb dX12_sameText_13 (by decide) ?_
    refine lv_istore hx hb dX12_sameText_14 hl (by decide) rfl (fun ls (hl : lv_has ls _ ([(6, .int 0), (0, .ref h0), (1, .int (nI xa)), (2, .int (nI xn)), (3, .int (nI xb)), (5, .int zq)])) => ?_)
    have hl : lv_has _ _ ([(0, .ref h0), (1, .int (nI xa)), (2, .int (nI xn)), (3, .int (nI xb)), (5, .int zq), (6, .int (nI 0))]) := lv_sub hl [1, 2, 3, 4, 5, 0] rfl
    refine (fun (loop : ∀ (n9 : Nat) (k5 : Nat) (zw : Int32) (H : Heap) (locs : List Loc) (ls : Array Slot), (k5 ≤ xn) → ((zw = 0) ∨ (zw = 1 ∧ xn = xm)) →  (xn < k5 + n9) → va_P (dC, dI) vwCl (WR a k h0 vi vj vF vG) H → va_D A (WR a k h0 vi vj vF vG) → va_S A s.heap H locs → lv_has ls 7 [(0, .ref h0), (1, .int (nI xa)), (2, .int (nI xn)), (3, .int (nI xb)), (5, .int zw), (6, .int (nI k5))] → W p l e _ s m _ below meth c H locs 0 0 _ (F0 m 16 ls [])) => loop (xn + 1) 0 zq _ _ _ (by omega) (hzq) (by omega) hP hD hS hl) ?_
    intro n9
    induction n9 with
    | zero => intro k5 zw H locs ls hk5 hzw hf9; exact False.elim (by omega)
    | succ n9 ih16 =>
      intro k5 zw H locs ls hk5 hzw hf16 hP hD hS hl
      refine lv_iload hx hb dX12_sameText_16 (lv_at hl 5 rfl) ?_
      refine lv_iload_n hx hb dX12_sameText_18 rfl (lv_at hl 2 rfl) ?_
      refine lv_icmp_ge (tgt := 61) hx hb dX12_sameText_19 (by decide) (fun c_19 => ?_) (fun c_19 => ?_)
      · have t_19 : ((k5 : Nat) : Int) ≥ ((xn : Nat) : Int) := toI_ge c_19 (nI_toInt (by omega)) (nI_toInt (by omega))
        refine lv_iload hx hb dX12_sameText_61 (lv_at hl 4 rfl) ?_
        refine W.widen (k := 0) (n := 0) (by decide +kernel) (by decide +kernel) ?_
        exact W.zret (v := zw) hx hb hr (by rcases hzw with h9 | h9; (rw [h9]; rfl); (rw [h9.1]; rfl)) (fun t9_ ht hW => ⟨⟨zw, (), rfl, by (try dsimp only); rcases hzw with h9 | h9; (exact Or.inl h9); (exact Or.inr h9.1), by rw [ht]; exact hP, hD⟩, hS.F ht⟩) hS.2.2 dX12_sameText_63
      · have t_19 : ¬ ((k5 : Nat) : Int) ≥ ((xn : Nat) : Int) := toI_nge c_19 (nI_toInt (by omega)) (nI_toInt (by omega))
        refine lv_iload hx hb dX12_sameText_22 (lv_at hl 4 rfl) ?_
        refine lv_if_eq (tgt := 61) hx hb dX12_sameText_24 (by decide) (fun c_24 => ?_) (fun c_24 => ?_)
        · have t_24 : (zw).toInt = 0 := toI_eq c_24 rfl (by decide)
          refine lv_iload hx hb dX12_sameText_61 (lv_at hl 4 rfl) ?_
          refine W.widen (k := 0) (n := 0) (by decide +kernel) (by decide +kernel) ?_
          exact W.zret (v := zw) hx hb hr (by rcases hzw with h9 | h9; (rw [h9]; rfl); (rw [h9.1]; rfl)) (fun t9_ ht hW => ⟨⟨zw, (), rfl, by (try dsimp only); rcases hzw with h9 | h9; (exact Or.inl h9); (exact Or.inr h9.1), by rw [ht]; exact hP, hD⟩, hS.F ht⟩) hS.2.2 dX12_sameText_63
        · have t_24 : ¬ (zw).toInt = 0 := toI_neq c_24 rfl (by decide)
          have hm9 : xn = xm := (hzw.resolve_left c_24).2
          refine lv_aload_n hx hb dX12_sameText_27 rfl (lv_at hl 0 rfl) ?_
          refine va_get (D := (dC, dI)) (ci := 12) (v := .ref (a 9)) (C := RX12) (T := TX12) (N := 163) (fs := fM (vS a vi vj)) hx hb hts iwsRX12_sameText_in12 hown hK hP 0 rfl rfl 15 (by decide) (hts (.fieldLink RX12 39 "OptimaWorksModel" "tape" "[B") (by decide +kernel)) (fun _ h9 => h9) rfl dX12_sameText_28 ?_
          refine lv_iload_n hx hb dX12_sameText_31 rfl (lv_at hl 1 rfl) ?_
          refine lv_iload hx hb dX12_sameText_32 (lv_at hl 5 rfl) ?_
          refine lv_iadd hx hb dX12_sameText_34 ?_
          refine lv_topi (fun y1 hy1 => ?_)
          obtain rfl : (nI (xa + k5)) = y1 := (hy1.trans (nI_add xa k5)).symm
          refine va_bald (cA := k 9) (n := 4000) (f := (vF 9)) hx hb hK hP 10 9 (WR_get 9 (by decide)) (TR_get 9 (by decide)) (vp_in_nI (show (xa + k5) < 4000 by omega) (by omega)) dX12_sameText_35 ?_
          refine lv_topi (fun y2 hy2 => ?_)
          obtain rfl : ((vF 9) (xa + k5)) = y2 := (hy2.trans (by rw [nI_clamp (by omega)])).symm
          refine lv_aload_n hx hb dX12_sameText_36 rfl (lv_at hl 0 rfl) ?_
          refine va_get (D := (dC, dI)) (ci := 12) (v := .ref (a 9)) (C := RX12) (T := TX12) (N := 163) (fs := fM (vS a vi vj)) hx hb hts iwsRX12_sameText_in12 hown hK hP 0 rfl rfl 15 (by decide) (hts (.fieldLink RX12 39 "OptimaWorksModel" "tape" "[B") (by decide +kernel)) (fun _ h9 => h9) rfl dX12_sameText_37 ?_
          refine lv_iload_n hx hb dX12_sameText_40 rfl (lv_at hl 3 rfl) ?_
          refine lv_iload hx hb dX12_sameText_41 (lv_at hl 5 rfl) ?_
          refine lv_iadd hx hb dX12_sameText_43 ?_
          refine lv_topi (fun y3 hy3 => ?_)
          obtain rfl : (nI (xb + k5)) = y3 := (hy3.trans (nI_add xb k5)).symm
          refine va_bald (cA := k 9) (n := 4000) (f := (vF 9)) hx hb hK hP 10 9 (WR_get 9 (by decide)) (TR_get 9 (by decide)) (vp_in_nI (show (xb + k5) < 4000 by omega) (by omega)) dX12_sameText_44 ?_
          refine lv_topi (fun y4 hy4 => ?_)
          obtain rfl : ((vF 9) (xb + k5)) = y4 := (hy4.trans (by rw [nI_clamp (by omega)])).symm
          refine lv_icmp_ne (tgt := 52) hx hb dX12_sameText_45 (by decide) (fun c_45 => ?_) (fun c_45 => ?_)
          · have t_45 : (((vF 9) (xa + k5))).toInt ≠ (((vF 9) (xb + k5))).toInt := toI_ne c_45 rfl rfl
            refine lv_iconst (v := 0) hx hb dX12_sameText_52 (by decide) ?_
            refine lv_istore hx hb dX12_sameText_53 hl (by decide) rfl (fun ls (hl : lv_has ls _ ([(5, .int 0), (0, .ref h0), (1, .int (nI xa)), (2, .int (nI xn)), (3, .int (nI xb)), (6, .int (nI k5))])) => ?_)
            refine lv_iinc (v := (nI (k5 + 1))) hx hb dX12_sameText_55 hl (k := 5) rfl (nI_add k5 1) (by decide) rfl (fun ls (hl : lv_has ls _ ([(6, .int (nI (k5 + 1))), (5, .int 0), (0, .ref h0), (1, .int (nI xa)), (2, .int (nI xn)), (3, .int (nI xb))])) => ?_)
            refine lv_goto (tgt := 16) hx hb dX12_sameText_58 (by decide) ?_
            have hl : lv_has _ _ ([(0, .ref h0), (1, .int (nI xa)), (2, .int (nI xn)), (3, .int (nI xb)), (5, .int 0), (6, .int (nI (k5 + 1)))]) := lv_sub hl [2, 3, 4, 5, 1, 0] rfl
            exact ih16 (k5 + 1) 0 _ _ _ (by omega) (Or.inl rfl) (by omega) hP hD hS hl
          · have t_45 : (((vF 9) (xa + k5))).toInt = (((vF 9) (xb + k5))).toInt := toI_nne c_45 rfl rfl
            refine lv_iconst (v := 1) hx hb dX12_sameText_48 (by decide) ?_
            refine lv_goto (tgt := 53) hx hb dX12_sameText_49 (by decide) ?_
            refine lv_istore hx hb dX12_sameText_53 hl (by decide) rfl (fun ls (hl : lv_has ls _ ([(5, .int 1), (0, .ref h0), (1, .int (nI xa)), (2, .int (nI xn)), (3, .int (nI xb)), (6, .int (nI k5))])) => ?_)
            refine lv_iinc (v := (nI (k5 + 1))) hx hb dX12_sameText_55 hl (k := 5) rfl (nI_add k5 1) (by decide) rfl (fun ls (hl : lv_has ls _ ([(6, .int (nI (k5 + 1))), (5, .int 1), (0, .ref h0), (1, .int (nI xa)), (2, .int (nI xn)), (3, .int (nI xb))])) => ?_)
            refine lv_goto (tgt := 16) hx hb dX12_sameText_58 (by decide) ?_
            have hl : lv_has _ _ ([(0, .ref h0), (1, .int (nI xa)), (2, .int (nI xn)), (3, .int (nI xb)), (5, .int 1), (6, .int (nI (k5 + 1)))]) := lv_sub hl [2, 3, 4, 5, 1, 0] rfl
            exact ih16 (k5 + 1) 1 _ _ _ (by omega) (Or.inr ⟨rfl, hm9⟩) (by omega) hP hD hS hl
theorem dX12_declared_0 : decode cX12_declared 0 = .ok (.iconst 0, 1) := dk_3 (by decide +kernel)
theorem dX12_declared_1 : decode cX12_declared 1 = .ok (.istore_n 1, 1) := dk_60 (by decide +kernel)
theorem dX12_declared_2 : decode cX12_declared 2 = .ok (.iload_n 1, 1) := dk_27 (by decide +kernel)
theorem dX12_declared_3 : decode cX12_declared 3 = .ok (.aload_n 0, 1) := dk_42 (by decide +kernel)
theorem dX12_declared_4 : decode cX12_declared 4 = .ok (.getfield 533, 3) := dk_180 (by decide +kernel)
theorem dX12_declared_7 : decode cX12_declared 7 = .ok (.if_icmp .ge 43, 3) := dk_162 (by decide +kernel)
theorem dX12_declared_10 : decode cX12_declared 10 = .ok (.aload_n 0, 1) := dk_42 (by decide +kernel)
theorem dX12_declared_11 : decode cX12_declared 11 = .ok (.aload_n 0, 1) := dk_42 (by decide +kernel)
theorem dX12_declared_12 : decode cX12_declared 12 = .ok (.getfield 53, 3) := dk_180 (by decide +kernel)
theorem dX12_declared_15 : decode cX12_declared 15 = .ok (.iload_n 1, 1) := dk_27 (by decide +kernel)
theorem dX12_declared_16 : decode cX12_declared 16 = .ok (.iaload, 1) := dk_46 (by decide +kernel)
theorem dX12_declared_17 : decode cX12_declared 17 = .ok (.aload_n 0, 1) := dk_42 (by decide +kernel)
theorem dX12_declared_18 : decode cX12_declared 18 = .ok (.getfield 56, 3) := dk_180 (by decide +kernel)
theorem dX12_declared_21 : decode cX12_declared 21 = .ok (.iload_n 1, 1) := dk_27 (by decide +kernel)
theorem dX12_declared_22 : decode cX12_declared 22 = .ok (.iaload, 1) := dk_46 (by decide +kernel)
theorem dX12_declared_23 : decode cX12_declared 23 = .ok (.aload_n 0, 1) := dk_42 (by decide +kernel)
theorem dX12_declared_24 : decode cX12_declared 24 = .ok (.getfield 488, 3) := dk_180 (by decide +kernel)
theorem dX12_declared_27 : decode cX12_declared 27 = .ok (.aload_n 0, 1) := dk_42 (by decide +kernel)
theorem dX12_declared_28 : decode cX12_declared 28 = .ok (.getfield 485, 3) := dk_180 (by decide +kernel)
theorem dX12_declared_31 : decode cX12_declared 31 = .ok (.aload_n 0, 1) := dk_42 (by decide +kernel)
theorem dX12_declared_32 : decode cX12_declared 32 = .ok (.getfield 488, 3) := dk_180 (by decide +kernel)
theorem dX12_declared_35 : decode cX12_declared 35 = .ok (.isub, 1) := dk_100 (by decide +kernel)
theorem dX12_declared_36 : decode cX12_declared 36 = .ok (.invokevirtual 536, 3) := dk_182 (by decide +kernel)
theorem dX12_declared_39 : decode cX12_declared 39 = .ok (.ifCond .eq 5, 3) := dk_153 (by decide +kernel)
theorem dX12_declared_42 : decode cX12_declared 42 = .ok (.iload_n 1, 1) := dk_27 (by decide +kernel)
theorem dX12_declared_43 : decode cX12_declared 43 = .ok (.ireturn, 1) := dk_172 (by decide +kernel)
theorem dX12_declared_44 : decode cX12_declared 44 = .ok (.iinc 1 1, 3) := dk_132 (by decide +kernel)
theorem dX12_declared_47 : decode cX12_declared 47 = .ok (.goto (-45), 3) := dk_167 (by decide +kernel)
theorem dX12_declared_50 : decode cX12_declared 50 = .ok (.iconst (-1), 1) := dk_2 (by decide +kernel)
theorem dX12_declared_51 : decode cX12_declared 51 = .ok (.ireturn, 1) := dk_172 (by decide +kernel)
def wsRX12_declared : List Cond := .code yX12_declared cX12_declared 2 (some .int) :: ([.fieldLink RX12 533 "OptimaWorksModel" "names" "I", .fieldLink RX12 53 "OptimaWorksModel" "nameFrom" "[I", .fieldLink RX12 56 "OptimaWorksModel" "nameLong" "[I", .fieldLink RX12 488 "OptimaWorksModel" "from" "I", .fieldLink RX12 485 "OptimaWorksModel" "at0" "I"] ++ wsX120 ++ (wsV RX12 536 RX12 yX12_sameText wsRX12_sameText))
theorem iwsRX12_declared_in12 : ∀ w ∈ wsX120, w ∈ wsRX12_declared := fun _ h => List.mem_cons_of_mem _ (List.mem_append_left _ (List.mem_append_right _ h))
theorem gwsRX12_declared_0 : GoodIn wsRX12_declared (wsV RX12 536 RX12 yX12_sameText wsRX12_sameText) := goodIn_sub (fun _ h => List.mem_cons_of_mem _ (List.mem_append_right _ h)) (gdV (by decide +kernel) gdwsRX12_sameText)
theorem gdwsRX12_declared : wsRX12_declared.all goodWord = true := gdC rfl (gdA (gdA (by decide +kernel : ([.fieldLink RX12 533 "OptimaWorksModel" "names" "I", .fieldLink RX12 53 "OptimaWorksModel" "nameFrom" "[I", .fieldLink RX12 56 "OptimaWorksModel" "nameLong" "[I", .fieldLink RX12 488 "OptimaWorksModel" "from" "I", .fieldLink RX12 485 "OptimaWorksModel" "at0" "I"] : List Cond).all goodWord = true) gdwsX120) (gdV (by decide +kernel) gdwsRX12_sameText))
set_option maxHeartbeats 4000000 in
set_option maxRecDepth 100000 in
/-- declared() -/
theorem r_X12_declared (l : Launch) (dC : Nat → ClassId) (dI : Nat → Nat → Nat) (a : Nat → Nat) (k : Nat → ClassId) (h0 : Nat) (vi : Nat → Int32) (vj : Nat → Int64) (vF : Nat → Nat → Int32) (vG : Nat → Nat → Int64) (an : Nat) (fn : Nat) (nm : Nat) (ha0 : vi 17 = nI an) (hfr : vi 19 = nI fn) (hfa : fn ≤ an) (han : an ≤ 4000) (hnm : vi 25 = nI nm) (hnm9 : nm ≤ 44) (hno : NmO (vF 11) (vF 12) nm) (sz : Nat) : Met l yX12_declared wsRX12_declared ({ frames := 1, cells := 0, slots := 0, locals := 26 }) (va_Pc [.ref h0] (fun U => U.heap.size = sz ∧ va_P (dC, dI) vwCl (WR a k h0 vi vj vF vG) U.heap ∧ va_K (dC, dI) vwCl (tX12 k) U ∧ va_D (fun _ => True) (WR a k h0 vi vj vF vG))) (va_Qi (fun (r : Int32) (u : Nat) => (r = (-1)) ∨ (r = (nI u) ∧ (u < nm))) (fun (u : Nat) t => va_P (dC, dI) vwCl (WR a k h0 vi vj vF vG) t.heap ∧ va_D (va_A (WR a k h0 vi vj vF vG) sz) (WR a k h0 vi vj vF vG)) (va_A (WR a k h0 vi vj vF vG) sz)) 0 0 (va_A (WR a k h0 vi vj vF vG) sz) := by
  refine Met.ofW (cc := cX12_declared) (maxL := 2) (ret := (some .int)) (by decide) rfl ?_
  intro p e s m args below meth c s₁ B hml hv
  obtain ⟨rfl, hsz, hP, hK, hD0⟩ := hv
  have hx := B.exec
  have hb := B.bytes
  have hr := B.returns
  have hts := atoms_spec (ws := wsRX12_declared) B.pre
  have hown : s.vm.findClass RX12 = some m.cls := findClass_of_methodNamed B.named
  have hlocks := B.notSynchronized
  subst hsz
  have hD := hD0.self (sz := s.heap.size)
  generalize hAe : va_A (WR a k h0 vi vj vF vG) s.heap.size = A at hD ⊢
  have hA : ∀ q : Nat, s.heap.size ≤ q → A q := fun q h => by rw [← hAe]; exact Or.inr h
  have hS : va_S A s.heap s.heap [] := va_S.rf
  have hl := lv_entry ([.ref h0]) (n := 2) (Nat.le_of_ble_eq_true rfl)
  rw [lg_entry_eq]
  generalize (lg_sl ([.ref h0]) ++ List.replicate (2 - (lg_sl ([.ref h0])).length) Slot.unset).toArray = ls at hl ⊢
  have hl : lv_has ls 2 [(0, .ref h0)] := hl
  refine lv_iconst (v := 0) hx hb dX12_declared_0 (by decide) ?_
  refine lv_istore_n hx hb dX12_declared_1 rfl hl (by decide) rfl (fun ls (hl : lv_has ls _ ([(1, .int 0), (0, .ref h0)])) => ?_)
  have hl : lv_has _ _ ([(0, .ref h0), (1, .int (nI 0))]) := lv_sub hl [1, 0] rfl
  refine (fun (loop : ∀ (n9 : Nat) (k5 : Nat) (H : Heap) (locs : List Loc) (ls : Array Slot), (k5 ≤ nm) →  (nm < k5 + n9) → va_P (dC, dI) vwCl (WR a k h0 vi vj vF vG) H → va_D A (WR a k h0 vi vj vF vG) → va_S A s.heap H locs → lv_has ls 2 [(0, .ref h0), (1, .int (nI k5))] → W p l e _ s m _ below meth c H locs 0 0 _ (F0 m 2 ls [])) => loop (nm + 1) 0 _ _ _ (by omega) (by omega) hP hD hS hl) ?_
  intro n9
  induction n9 with
  | zero => intro k5 H locs ls hk5 hf9; exact False.elim (by omega)
  | succ n9 ih2 =>
    intro k5 H locs ls hk5 hf2 hP hD hS hl
    refine lv_iload_n hx hb dX12_declared_2 rfl (lv_at hl 1 rfl) ?_
    refine lv_aload_n hx hb dX12_declared_3 rfl (lv_at hl 0 rfl) ?_
    refine va_get (D := (dC, dI)) (ci := 12) (v := .int (vi 25)) (C := RX12) (T := TX12) (N := 163) (fs := fM (vS a vi vj)) hx hb hts iwsRX12_declared_in12 hown hK hP 0 rfl rfl 25 (by decide) (hts (.fieldLink RX12 533 "OptimaWorksModel" "names" "I") (by decide +kernel)) (fun _ h9 => h9) rfl dX12_declared_4 ?_
    refine lv_topi (fun y1 hy1 => ?_)
    obtain rfl : (nI nm) = y1 := (hy1.trans (hnm)).symm
    refine lv_icmp_ge (tgt := 50) hx hb dX12_declared_7 (by decide) (fun c_7 => ?_) (fun c_7 => ?_)
    · have t_7 : ((k5 : Nat) : Int) ≥ ((nm : Nat) : Int) := toI_ge c_7 (nI_toInt (by omega)) (nI_toInt (by omega))
      refine lv_iconst (v := (-1)) hx hb dX12_declared_50 (by decide) ?_
      refine W.widen (k := 0) (n := 0) (by decide +kernel) (by decide +kernel) ?_
      exact W.iret (v := (-1)) hx hb hr (fun t9_ ht hW => ⟨⟨(-1), 0, rfl, by (try dsimp only); exact Or.inl rfl, by rw [ht]; exact hP, hD⟩, hS.F ht⟩) hS.2.2 dX12_declared_51
    · have t_7 : ¬ ((k5 : Nat) : Int) ≥ ((nm : Nat) : Int) := toI_nge c_7 (nI_toInt (by omega)) (nI_toInt (by omega))
      obtain ⟨x9, y9, ex, ey, exy⟩ := hno k5 (by omega)
      refine lv_aload_n hx hb dX12_declared_10 rfl (lv_at hl 0 rfl) ?_
      refine lv_aload_n hx hb dX12_declared_11 rfl (lv_at hl 0 rfl) ?_
      refine va_get (D := (dC, dI)) (ci := 12) (v := .ref (a 11)) (C := RX12) (T := TX12) (N := 163) (fs := fM (vS a vi vj)) hx hb hts iwsRX12_declared_in12 hown hK hP 0 rfl rfl 27 (by decide) (hts (.fieldLink RX12 53 "OptimaWorksModel" "nameFrom" "[I") (by decide +kernel)) (fun _ h9 => h9) rfl dX12_declared_12 ?_
      refine lv_iload_n hx hb dX12_declared_15 rfl (lv_at hl 1 rfl) ?_
      refine va_iald (cA := k 11) (n := 44) (f := (vF 11)) hx hb hK hP 12 11 (WR_get 11 (by decide)) (TR_get 11 (by decide)) (vp_in_nI (show k5 < 44 by omega) (by omega)) dX12_declared_16 ?_
      refine lv_topi (fun y2 hy2 => ?_)
      obtain rfl : ((vF 11) k5) = y2 := (hy2.trans (by rw [nI_clamp (by omega)])).symm
      refine lv_topi (fun y3 hy3 => ?_)
      obtain rfl : (nI x9) = y3 := (hy3.trans (ex)).symm
      refine lv_aload_n hx hb dX12_declared_17 rfl (lv_at hl 0 rfl) ?_
      refine va_get (D := (dC, dI)) (ci := 12) (v := .ref (a 12)) (C := RX12) (T := TX12) (N := 163) (fs := fM (vS a vi vj)) hx hb hts iwsRX12_declared_in12 hown hK hP 0 rfl rfl 28 (by decide) (hts (.fieldLink RX12 56 "OptimaWorksModel" "nameLong" "[I") (by decide +kernel)) (fun _ h9 => h9) rfl dX12_declared_18 ?_
      refine lv_iload_n hx hb dX12_declared_21 rfl (lv_at hl 1 rfl) ?_
      refine va_iald (cA := k 12) (n := 44) (f := (vF 12)) hx hb hK hP 13 12 (WR_get 12 (by decide)) (TR_get 12 (by decide)) (vp_in_nI (show k5 < 44 by omega) (by omega)) dX12_declared_22 ?_
      refine lv_topi (fun y4 hy4 => ?_)
      obtain rfl : ((vF 12) k5) = y4 := (hy4.trans (by rw [nI_clamp (by omega)])).symm
      refine lv_topi (fun y5 hy5 => ?_)
      obtain rfl : (nI y9) = y5 := (hy5.trans (ey)).symm
      refine lv_aload_n hx hb dX12_declared_23 rfl (lv_at hl 0 rfl) ?_
      refine va_get (D := (dC, dI)) (ci := 12) (v := .int (vi 19)) (C := RX12) (T := TX12) (N := 163) (fs := fM (vS a vi vj)) hx hb hts iwsRX12_declared_in12 hown hK hP 0 rfl rfl 19 (by decide) (hts (.fieldLink RX12 488 "OptimaWorksModel" "from" "I") (by decide +kernel)) (fun _ h9 => h9) rfl dX12_declared_24 ?_
      refine lv_topi (fun y6 hy6 => ?_)
      obtain rfl : (nI fn) = y6 := (hy6.trans (hfr)).symm
      refine lv_aload_n hx hb dX12_declared_27 rfl (lv_at hl 0 rfl) ?_
      refine va_get (D := (dC, dI)) (ci := 12) (v := .int (vi 17)) (C := RX12) (T := TX12) (N := 163) (fs := fM (vS a vi vj)) hx hb hts iwsRX12_declared_in12 hown hK hP 0 rfl rfl 17 (by decide) (hts (.fieldLink RX12 485 "OptimaWorksModel" "at0" "I") (by decide +kernel)) (fun _ h9 => h9) rfl dX12_declared_28 ?_
      refine lv_topi (fun y7 hy7 => ?_)
      obtain rfl : (nI an) = y7 := (hy7.trans (ha0)).symm
      refine lv_aload_n hx hb dX12_declared_31 rfl (lv_at hl 0 rfl) ?_
      refine va_get (D := (dC, dI)) (ci := 12) (v := .int (vi 19)) (C := RX12) (T := TX12) (N := 163) (fs := fM (vS a vi vj)) hx hb hts iwsRX12_declared_in12 hown hK hP 0 rfl rfl 19 (by decide) (hts (.fieldLink RX12 488 "OptimaWorksModel" "from" "I") (by decide +kernel)) (fun _ h9 => h9) rfl dX12_declared_32 ?_
      refine lv_topi (fun y8 hy8 => ?_)
      obtain rfl : (nI fn) = y8 := (hy8.trans (hfr)).symm
      refine lv_isub hx hb dX12_declared_35 ?_
      refine lv_topi (fun y9 hy9 => ?_)
      obtain rfl : (nI (an - fn)) = y9 := (hy9.trans (pk_sub (a := an) (b := fn) (by omega))).symm
      have hFc := allFree hD hS hA
      refine va_calli (va_runV (As := [.int (nI x9), .int (nI y9), .int (nI fn), .int (nI (an - fn))]) (rest := []) ⟨hx, hb, hml, hown, hts⟩ (r_X12_sameText l dC dI a k h0 vi vj vF vG x9 y9 fn (an - fn) (by first | assumption | decide | omega | rfl) (by omega) H.size) (cwV 4 hts gwsRX12_declared_0 rfl rfl rfl (by decide +kernel) ⟨by decide +kernel, by decide +kernel⟩) ⟨fun a U g mk q => by obtain ⟨q0, q1, qP, qK, qD⟩ := q; exact ⟨q0, q1, qP, va_K.moved (u := U) (U := U.calling g mk a) (Vm.Alike.refl U.vm) qK, qD⟩, va_recv hK hP (ci := 12) (q0 := 0) rfl rfl, fun U hU9 hW => ⟨rfl, by rw [hU9], by rw [hU9]; exact hP, va_K.moved hW.alike hK, hD.weaken (fun _ _ _ _ => trivial)⟩⟩ rfl rfl hl.1 rfl (lv_room (Nat.le_of_ble_eq_true rfl)) dX12_declared_36 ⟨by decide +kernel, by decide +kernel⟩) hS (fun q _ h => hFc q h) hFc (fun r36 u t9_ H1 locs ht hvm hw9 hB9 hz1 hk1 hS => ?_)
      obtain ⟨hP1, hD1⟩ := hB9
      rw [ht] at hP1
      have hP := hP1
      have hD := hD1.weaken (fun _ q _ h => hFc q.1 h)
      generalize H1 = H at hP hS ⊢
      have hP : va_P (dC, dI) vwCl (WR a k h0 vi vj vF vG) H := hP
      have hD : va_D A (WR a k h0 vi vj vF vG) := hD
      have f36_0 := hw9
      try dsimp only at f36_0
      refine lv_if_eq (tgt := 44) hx hb dX12_declared_39 (by decide) (fun c_39 => ?_) (fun c_39 => ?_)
      · have t_39 : (r36).toInt = 0 := toI_eq c_39 rfl (by decide)
        refine lv_iinc (v := (nI (k5 + 1))) hx hb dX12_declared_44 hl (k := 1) rfl (nI_add k5 1) (by decide) rfl (fun ls (hl : lv_has ls _ ([(1, .int (nI (k5 + 1))), (0, .ref h0)])) => ?_)
        refine lv_goto (tgt := 2) hx hb dX12_declared_47 (by decide) ?_
        have hl : lv_has _ _ ([(0, .ref h0), (1, .int (nI (k5 + 1)))]) := lv_sub hl [1, 0] rfl
        exact ih2 (k5 + 1) _ _ _ (by omega) (by omega) hP hD hS hl
      · have t_39 : ¬ (r36).toInt = 0 := toI_neq c_39 rfl (by decide)
        refine lv_iload_n hx hb dX12_declared_42 rfl (lv_at hl 1 rfl) ?_
        refine W.widen (k := 0) (n := 0) (by decide +kernel) (by decide +kernel) ?_
        exact W.iret (v := (nI k5)) hx hb hr (fun t9_ ht hW => ⟨⟨(nI k5), k5, rfl, by (try dsimp only); exact Or.inr ⟨rfl, by omega⟩, by rw [ht]; exact hP, hD⟩, hS.F ht⟩) hS.2.2 dX12_declared_43
theorem dX12_binder_0 : decode cX12_binder 0 = .ok (.aload_n 0, 1) := dk_42 (by decide +kernel)
theorem dX12_binder_1 : decode cX12_binder 1 = .ok (.getfield 540, 3) := dk_180 (by decide +kernel)
theorem dX12_binder_4 : decode cX12_binder 4 = .ok (.iconst 1, 1) := dk_4 (by decide +kernel)
theorem dX12_binder_5 : decode cX12_binder 5 = .ok (.isub, 1) := dk_100 (by decide +kernel)
theorem dX12_binder_6 : decode cX12_binder 6 = .ok (.istore_n 1, 1) := dk_60 (by decide +kernel)
theorem dX12_binder_7 : decode cX12_binder 7 = .ok (.iload_n 1, 1) := dk_27 (by decide +kernel)
theorem dX12_binder_8 : decode cX12_binder 8 = .ok (.ifCond .lt 43, 3) := dk_155 (by decide +kernel)
theorem dX12_binder_11 : decode cX12_binder 11 = .ok (.aload_n 0, 1) := dk_42 (by decide +kernel)
theorem dX12_binder_12 : decode cX12_binder 12 = .ok (.aload_n 0, 1) := dk_42 (by decide +kernel)
theorem dX12_binder_13 : decode cX12_binder 13 = .ok (.getfield 62, 3) := dk_180 (by decide +kernel)
theorem dX12_binder_16 : decode cX12_binder 16 = .ok (.iload_n 1, 1) := dk_27 (by decide +kernel)
theorem dX12_binder_17 : decode cX12_binder 17 = .ok (.iaload, 1) := dk_46 (by decide +kernel)
theorem dX12_binder_18 : decode cX12_binder 18 = .ok (.aload_n 0, 1) := dk_42 (by decide +kernel)
theorem dX12_binder_19 : decode cX12_binder 19 = .ok (.getfield 65, 3) := dk_180 (by decide +kernel)
theorem dX12_binder_22 : decode cX12_binder 22 = .ok (.iload_n 1, 1) := dk_27 (by decide +kernel)
theorem dX12_binder_23 : decode cX12_binder 23 = .ok (.iaload, 1) := dk_46 (by decide +kernel)
theorem dX12_binder_24 : decode cX12_binder 24 = .ok (.aload_n 0, 1) := dk_42 (by decide +kernel)
theorem dX12_binder_25 : decode cX12_binder 25 = .ok (.getfield 488, 3) := dk_180 (by decide +kernel)
theorem dX12_binder_28 : decode cX12_binder 28 = .ok (.aload_n 0, 1) := dk_42 (by decide +kernel)
theorem dX12_binder_29 : decode cX12_binder 29 = .ok (.getfield 485, 3) := dk_180 (by decide +kernel)
theorem dX12_binder_32 : decode cX12_binder 32 = .ok (.aload_n 0, 1) := dk_42 (by decide +kernel)
theorem dX12_binder_33 : decode cX12_binder 33 = .ok (.getfield 488, 3) := dk_180 (by decide +kernel)
theorem dX12_binder_36 : decode cX12_binder 36 = .ok (.isub, 1) := dk_100 (by decide +kernel)
theorem dX12_binder_37 : decode cX12_binder 37 = .ok (.invokevirtual 536, 3) := dk_182 (by decide +kernel)
theorem dX12_binder_40 : decode cX12_binder 40 = .ok (.ifCond .eq 5, 3) := dk_153 (by decide +kernel)
theorem dX12_binder_43 : decode cX12_binder 43 = .ok (.iload_n 1, 1) := dk_27 (by decide +kernel)
theorem dX12_binder_44 : decode cX12_binder 44 = .ok (.ireturn, 1) := dk_172 (by decide +kernel)
theorem dX12_binder_45 : decode cX12_binder 45 = .ok (.iinc 1 (-1), 3) := dk_132 (by decide +kernel)
theorem dX12_binder_48 : decode cX12_binder 48 = .ok (.goto (-41), 3) := dk_167 (by decide +kernel)
theorem dX12_binder_51 : decode cX12_binder 51 = .ok (.iconst (-1), 1) := dk_2 (by decide +kernel)
theorem dX12_binder_52 : decode cX12_binder 52 = .ok (.ireturn, 1) := dk_172 (by decide +kernel)
def wsRX12_binder : List Cond := .code yX12_binder cX12_binder 2 (some .int) :: ([.fieldLink RX12 540 "OptimaWorksModel" "binders" "I", .fieldLink RX12 62 "OptimaWorksModel" "binderFrom" "[I", .fieldLink RX12 65 "OptimaWorksModel" "binderLong" "[I", .fieldLink RX12 488 "OptimaWorksModel" "from" "I", .fieldLink RX12 485 "OptimaWorksModel" "at0" "I"] ++ wsX120 ++ (wsV RX12 536 RX12 yX12_sameText wsRX12_sameText))
theorem iwsRX12_binder_in12 : ∀ w ∈ wsX120, w ∈ wsRX12_binder := fun _ h => List.mem_cons_of_mem _ (List.mem_append_left _ (List.mem_append_right _ h))
theorem gwsRX12_binder_0 : GoodIn wsRX12_binder (wsV RX12 536 RX12 yX12_sameText wsRX12_sameText) := goodIn_sub (fun _ h => List.mem_cons_of_mem _ (List.mem_append_right _ h)) (gdV (by decide +kernel) gdwsRX12_sameText)
theorem gdwsRX12_binder : wsRX12_binder.all goodWord = true := gdC rfl (gdA (gdA (by decide +kernel : ([.fieldLink RX12 540 "OptimaWorksModel" "binders" "I", .fieldLink RX12 62 "OptimaWorksModel" "binderFrom" "[I", .fieldLink RX12 65 "OptimaWorksModel" "binderLong" "[I", .fieldLink RX12 488 "OptimaWorksModel" "from" "I", .fieldLink RX12 485 "OptimaWorksModel" "at0" "I"] : List Cond).all goodWord = true) gdwsX120) (gdV (by decide +kernel) gdwsRX12_sameText))
set_option maxHeartbeats 4000000 in
set_option maxRecDepth 100000 in
/-- binder() -/
theorem r_X12_binder (l : Launch) (dC : Nat → ClassId) (dI : Nat → Nat → Nat) (a : Nat → Nat) (k : Nat → ClassId) (h0 : Nat) (vi : Nat → Int32) (vj : Nat → Int64) (vF : Nat → Nat → Int32) (vG : Nat → Nat → Int64) (an : Nat) (fn : Nat) (nm : Nat) (ha0 : vi 17 = nI an) (hfr : vi 19 = nI fn) (hfa : fn ≤ an) (han : an ≤ 4000) (hnm : vi 30 = nI nm) (hnm9 : nm ≤ 60) (hno : NmO (vF 14) (vF 15) nm) (sz : Nat) : Met l yX12_binder wsRX12_binder ({ frames := 1, cells := 0, slots := 0, locals := 26 }) (va_Pc [.ref h0] (fun U => U.heap.size = sz ∧ va_P (dC, dI) vwCl (WR a k h0 vi vj vF vG) U.heap ∧ va_K (dC, dI) vwCl (tX12 k) U ∧ va_D (fun _ => True) (WR a k h0 vi vj vF vG))) (va_Qi (fun (r : Int32) (u : Nat) => (r = (-1)) ∨ (r = (nI u) ∧ (u < nm))) (fun (u : Nat) t => va_P (dC, dI) vwCl (WR a k h0 vi vj vF vG) t.heap ∧ va_D (va_A (WR a k h0 vi vj vF vG) sz) (WR a k h0 vi vj vF vG)) (va_A (WR a k h0 vi vj vF vG) sz)) 0 0 (va_A (WR a k h0 vi vj vF vG) sz) := by
  refine Met.ofW (cc := cX12_binder) (maxL := 2) (ret := (some .int)) (by decide) rfl ?_
  intro p e s m args below meth c s₁ B hml hv
  obtain ⟨rfl, hsz, hP, hK, hD0⟩ := hv
  have hx := B.exec
  have hb := B.bytes
  have hr := B.returns
  have hts := atoms_spec (ws := wsRX12_binder) B.pre
  have hown : s.vm.findClass RX12 = some m.cls := findClass_of_methodNamed B.named
  have hlocks := B.notSynchronized
  subst hsz
  have hD := hD0.self (sz := s.heap.size)
  generalize hAe : va_A (WR a k h0 vi vj vF vG) s.heap.size = A at hD ⊢
  have hA : ∀ q : Nat, s.heap.size ≤ q → A q := fun q h => by rw [← hAe]; exact Or.inr h
  have hS : va_S A s.heap s.heap [] := va_S.rf
  have hl := lv_entry ([.ref h0]) (n := 2) (Nat.le_of_ble_eq_true rfl)
  rw [lg_entry_eq]
  generalize (lg_sl ([.ref h0]) ++ List.replicate (2 - (lg_sl ([.ref h0])).length) Slot.unset).toArray = ls at hl ⊢
  have hl : lv_has ls 2 [(0, .ref h0)] := hl
  refine lv_aload_n hx hb dX12_binder_0 rfl (lv_at hl 0 rfl) ?_
  refine va_get (D := (dC, dI)) (ci := 12) (v := .int (vi 30)) (C := RX12) (T := TX12) (N := 163) (fs := fM (vS a vi vj)) hx hb hts iwsRX12_binder_in12 hown hK hP 0 rfl rfl 30 (by decide) (hts (.fieldLink RX12 540 "OptimaWorksModel" "binders" "I") (by decide +kernel)) (fun _ h9 => h9) rfl dX12_binder_1 ?_
  refine lv_topi (fun y1 hy1 => ?_)
  obtain rfl : (nI nm) = y1 := (hy1.trans (hnm)).symm
  refine lv_iconst (v := 1) hx hb dX12_binder_4 (by decide) ?_
  refine lv_isub hx hb dX12_binder_5 ?_
  refine lv_istore_n hx hb dX12_binder_6 rfl hl (by decide) rfl (fun ls (hl : lv_has ls _ ([(1, .int ((nI nm) - 1)), (0, .ref h0)])) => ?_)
  have hl : lv_has _ _ ([(0, .ref h0), (1, .int ((nI nm) - 1))]) := lv_sub hl [1, 0] rfl
  refine (fun (loop : ∀ (n9 : Nat) (kq : Int32) (kk1 : Nat) (H : Heap) (locs : List Loc) (ls : Array Slot), ((kq).toInt = (kk1 : Int) - 1) → (kk1 ≤ nm) →  (kk1 < n9) → va_P (dC, dI) vwCl (WR a k h0 vi vj vF vG) H → va_D A (WR a k h0 vi vj vF vG) → va_S A s.heap H locs → lv_has ls 2 [(0, .ref h0), (1, .int kq)] → W p l e _ s m _ below meth c H locs 0 0 _ (F0 m 7 ls [])) => loop (nm + 1) ((nI nm) - 1) nm _ _ _ (by exact pk_sub_toInt (a := nm) (b := 1) (by omega) (by omega)) (by omega) (by omega) hP hD hS hl) ?_
  intro n9
  induction n9 with
  | zero => intro kq kk1 H locs ls hkq hkn hf9; exact False.elim (by omega)
  | succ n9 ih7 =>
    intro kq kk1 H locs ls hkq hkn hf7 hP hD hS hl
    refine lv_iload_n hx hb dX12_binder_7 rfl (lv_at hl 1 rfl) ?_
    refine lv_if_lt (tgt := 51) hx hb dX12_binder_8 (by decide) (fun c_8 => ?_) (fun c_8 => ?_)
    · have t_8 : (kq).toInt < 0 := toI_lt c_8 rfl (by decide)
      refine lv_iconst (v := (-1)) hx hb dX12_binder_51 (by decide) ?_
      refine W.widen (k := 0) (n := 0) (by decide +kernel) (by decide +kernel) ?_
      exact W.iret (v := (-1)) hx hb hr (fun t9_ ht hW => ⟨⟨(-1), 0, rfl, by (try dsimp only); exact Or.inl rfl, by rw [ht]; exact hP, hD⟩, hS.F ht⟩) hS.2.2 dX12_binder_52
    · have t_8 : ¬ (kq).toInt < 0 := toI_nlt c_8 rfl (by decide)
      obtain ⟨kk, h_kk, rfl⟩ := of_toInt (x := kq) (k := 60) (by omega) (by omega)
      have e_kk : (nI kk).toInt = (kk : Int) := nI_toInt (by omega)
      obtain ⟨x9, y9, ex, ey, exy⟩ := hno kk (by omega)
      refine lv_aload_n hx hb dX12_binder_11 rfl (lv_at hl 0 rfl) ?_
      refine lv_aload_n hx hb dX12_binder_12 rfl (lv_at hl 0 rfl) ?_
      refine va_get (D := (dC, dI)) (ci := 12) (v := .ref (a 14)) (C := RX12) (T := TX12) (N := 163) (fs := fM (vS a vi vj)) hx hb hts iwsRX12_binder_in12 hown hK hP 0 rfl rfl 31 (by decide) (hts (.fieldLink RX12 62 "OptimaWorksModel" "binderFrom" "[I") (by decide +kernel)) (fun _ h9 => h9) rfl dX12_binder_13 ?_
      refine lv_iload_n hx hb dX12_binder_16 rfl (lv_at hl 1 rfl) ?_
      refine va_iald (cA := k 14) (n := 60) (f := (vF 14)) hx hb hK hP 15 14 (WR_get 14 (by decide)) (TR_get 14 (by decide)) (vp_in_nI (show kk < 60 by omega) (by omega)) dX12_binder_17 ?_
      refine lv_topi (fun y2 hy2 => ?_)
      obtain rfl : ((vF 14) kk) = y2 := (hy2.trans (by rw [nI_clamp (by omega)])).symm
      refine lv_topi (fun y3 hy3 => ?_)
      obtain rfl : (nI x9) = y3 := (hy3.trans (ex)).symm
      refine lv_aload_n hx hb dX12_binder_18 rfl (lv_at hl 0 rfl) ?_
      refine va_get (D := (dC, dI)) (ci := 12) (v := .ref (a 15)) (C := RX12) (T := TX12) (N := 163) (fs := fM (vS a vi vj)) hx hb hts iwsRX12_binder_in12 hown hK hP 0 rfl rfl 32 (by decide) (hts (.fieldLink RX12 65 "OptimaWorksModel" "binderLong" "[I") (by decide +kernel)) (fun _ h9 => h9) rfl dX12_binder_19 ?_
      refine lv_iload_n hx hb dX12_binder_22 rfl (lv_at hl 1 rfl) ?_
      refine va_iald (cA := k 15) (n := 60) (f := (vF 15)) hx hb hK hP 16 15 (WR_get 15 (by decide)) (TR_get 15 (by decide)) (vp_in_nI (show kk < 60 by omega) (by omega)) dX12_binder_23 ?_
      refine lv_topi (fun y4 hy4 => ?_)
      obtain rfl : ((vF 15) kk) = y4 := (hy4.trans (by rw [nI_clamp (by omega)])).symm
      refine lv_topi (fun y5 hy5 => ?_)
      obtain rfl : (nI y9) = y5 := (hy5.trans (ey)).symm
      refine lv_aload_n hx hb dX12_binder_24 rfl (lv_at hl 0 rfl) ?_
      refine va_get (D := (dC, dI)) (ci := 12) (v := .int (vi 19)) (C := RX12) (T := TX12) (N := 163) (fs := fM (vS a vi vj)) hx hb hts iwsRX12_binder_in12 hown hK hP 0 rfl rfl 19 (by decide) (hts (.fieldLink RX12 488 "OptimaWorksModel" "from" "I") (by decide +kernel)) (fun _ h9 => h9) rfl dX12_binder_25 ?_
      refine lv_topi (fun y6 hy6 => ?_)
      obtain rfl : (nI fn) = y6 := (hy6.trans (hfr)).symm
      refine lv_aload_n hx hb dX12_binder_28 rfl (lv_at hl 0 rfl) ?_
      refine va_get (D := (dC, dI)) (ci := 12) (v := .int (vi 17)) (C := RX12) (T := TX12) (N := 163) (fs := fM (vS a vi vj)) hx hb hts iwsRX12_binder_in12 hown hK hP 0 rfl rfl 17 (by decide) (hts (.fieldLink RX12 485 "OptimaWorksModel" "at0" "I") (by decide +kernel)) (fun _ h9 => h9) rfl dX12_binder_29 ?_
      refine lv_topi (fun y7 hy7 => ?_)
      obtain rfl : (nI an) = y7 := (hy7.trans (ha0)).symm
      refine lv_aload_n hx hb dX12_binder_32 rfl (lv_at hl 0 rfl) ?_
      refine va_get (D := (dC, dI)) (ci := 12) (v := .int (vi 19)) (C := RX12) (T := TX12) (N := 163) (fs := fM (vS a vi vj)) hx hb hts iwsRX12_binder_in12 hown hK hP 0 rfl rfl 19 (by decide) (hts (.fieldLink RX12 488 "OptimaWorksModel" "from" "I") (by decide +kernel)) (fun _ h9 => h9) rfl dX12_binder_33 ?_
      refine lv_topi (fun y8 hy8 => ?_)
      obtain rfl : (nI fn) = y8 := (hy8.trans (hfr)).symm
      refine lv_isub hx hb dX12_binder_36 ?_
      refine lv_topi (fun y9 hy9 => ?_)
      obtain rfl : (nI (an - fn)) = y9 := (hy9.trans (pk_sub (a := an) (b := fn) (by omega))).symm
      have hFc := allFree hD hS hA
      refine va_calli (va_runV (As := [.int (nI x9), .int (nI y9), .int (nI fn), .int (nI (an - fn))]) (rest := []) ⟨hx, hb, hml, hown, hts⟩ (r_X12_sameText l dC dI a k h0 vi vj vF vG x9 y9 fn (an - fn) (by first | assumption | decide | omega | rfl) (by omega) H.size) (cwV 4 hts gwsRX12_binder_0 rfl rfl rfl (by decide +kernel) ⟨by decide +kernel, by decide +kernel⟩) ⟨fun a U g mk q => by obtain ⟨q0, q1, qP, qK, qD⟩ := q; exact ⟨q0, q1, qP, va_K.moved (u := U) (U := U.calling g mk a) (Vm.Alike.refl U.vm) qK, qD⟩, va_recv hK hP (ci := 12) (q0 := 0) rfl rfl, fun U hU9 hW => ⟨rfl, by rw [hU9], by rw [hU9]; exact hP, va_K.moved hW.alike hK, hD.weaken (fun _ _ _ _ => trivial)⟩⟩ rfl rfl hl.1 rfl (lv_room (Nat.le_of_ble_eq_true rfl)) dX12_binder_37 ⟨by decide +kernel, by decide +kernel⟩) hS (fun q _ h => hFc q h) hFc (fun r37 u t9_ H1 locs ht hvm hw9 hB9 hz1 hk1 hS => ?_)
      obtain ⟨hP1, hD1⟩ := hB9
      rw [ht] at hP1
      have hP := hP1
      have hD := hD1.weaken (fun _ q _ h => hFc q.1 h)
      generalize H1 = H at hP hS ⊢
      have hP : va_P (dC, dI) vwCl (WR a k h0 vi vj vF vG) H := hP
      have hD : va_D A (WR a k h0 vi vj vF vG) := hD
      have f37_0 := hw9
      try dsimp only at f37_0
      refine lv_if_eq (tgt := 45) hx hb dX12_binder_40 (by decide) (fun c_40 => ?_) (fun c_40 => ?_)
      · have t_40 : (r37).toInt = 0 := toI_eq c_40 rfl (by decide)
        refine lv_iinc (v := ((nI kk) + (-1))) hx hb dX12_binder_45 hl (k := 1) rfl rfl (by decide) rfl (fun ls (hl : lv_has ls _ ([(1, .int ((nI kk) + (-1))), (0, .ref h0)])) => ?_)
        refine lv_goto (tgt := 7) hx hb dX12_binder_48 (by decide) ?_
        have hl : lv_has _ _ ([(0, .ref h0), (1, .int ((nI kk) + (-1)))]) := lv_sub hl [1, 0] rfl
        exact ih7 ((nI kk) + (-1)) (kk1 - 1) _ _ _ (by rw [m1T (by omega)]; omega) (by omega) (by omega) hP hD hS hl
      · have t_40 : ¬ (r37).toInt = 0 := toI_neq c_40 rfl (by decide)
        refine lv_iload_n hx hb dX12_binder_43 rfl (lv_at hl 1 rfl) ?_
        refine W.widen (k := 0) (n := 0) (by decide +kernel) (by decide +kernel) ?_
        exact W.iret (v := (nI kk)) hx hb hr (fun t9_ ht hW => ⟨⟨(nI kk), kk, rfl, by (try dsimp only); exact Or.inr ⟨rfl, by omega⟩, by rw [ht]; exact hP, hD⟩, hS.F ht⟩) hS.2.2 dX12_binder_44
theorem dX12_node_0 : decode cX12_node 0 = .ok (.aload_n 0, 1) := dk_42 (by decide +kernel)
theorem dX12_node_1 : decode cX12_node 1 = .ok (.getfield 110, 3) := dk_180 (by decide +kernel)
theorem dX12_node_4 : decode cX12_node 4 = .ok (.aload_n 0, 1) := dk_42 (by decide +kernel)
theorem dX12_node_5 : decode cX12_node 5 = .ok (.getfield 543, 3) := dk_180 (by decide +kernel)
theorem dX12_node_8 : decode cX12_node 8 = .ok (.iload_n 1, 1) := dk_27 (by decide +kernel)
theorem dX12_node_9 : decode cX12_node 9 = .ok (.iastore, 1) := dk_79 (by decide +kernel)
theorem dX12_node_10 : decode cX12_node 10 = .ok (.aload_n 0, 1) := dk_42 (by decide +kernel)
theorem dX12_node_11 : decode cX12_node 11 = .ok (.getfield 113, 3) := dk_180 (by decide +kernel)
theorem dX12_node_14 : decode cX12_node 14 = .ok (.aload_n 0, 1) := dk_42 (by decide +kernel)
theorem dX12_node_15 : decode cX12_node 15 = .ok (.getfield 543, 3) := dk_180 (by decide +kernel)
theorem dX12_node_18 : decode cX12_node 18 = .ok (.iload_n 2, 1) := dk_28 (by decide +kernel)
theorem dX12_node_19 : decode cX12_node 19 = .ok (.iastore, 1) := dk_79 (by decide +kernel)
theorem dX12_node_20 : decode cX12_node 20 = .ok (.aload_n 0, 1) := dk_42 (by decide +kernel)
theorem dX12_node_21 : decode cX12_node 21 = .ok (.getfield 116, 3) := dk_180 (by decide +kernel)
theorem dX12_node_24 : decode cX12_node 24 = .ok (.aload_n 0, 1) := dk_42 (by decide +kernel)
theorem dX12_node_25 : decode cX12_node 25 = .ok (.getfield 543, 3) := dk_180 (by decide +kernel)
theorem dX12_node_28 : decode cX12_node 28 = .ok (.iload_n 3, 1) := dk_29 (by decide +kernel)
theorem dX12_node_29 : decode cX12_node 29 = .ok (.iastore, 1) := dk_79 (by decide +kernel)
theorem dX12_node_30 : decode cX12_node 30 = .ok (.aload_n 0, 1) := dk_42 (by decide +kernel)
theorem dX12_node_31 : decode cX12_node 31 = .ok (.getfield 119, 3) := dk_180 (by decide +kernel)
theorem dX12_node_34 : decode cX12_node 34 = .ok (.aload_n 0, 1) := dk_42 (by decide +kernel)
theorem dX12_node_35 : decode cX12_node 35 = .ok (.getfield 543, 3) := dk_180 (by decide +kernel)
theorem dX12_node_38 : decode cX12_node 38 = .ok (.iload 4, 2) := dk_21 (by decide +kernel)
theorem dX12_node_40 : decode cX12_node 40 = .ok (.iastore, 1) := dk_79 (by decide +kernel)
theorem dX12_node_41 : decode cX12_node 41 = .ok (.aload_n 0, 1) := dk_42 (by decide +kernel)
theorem dX12_node_42 : decode cX12_node 42 = .ok (.getfield 122, 3) := dk_180 (by decide +kernel)
theorem dX12_node_45 : decode cX12_node 45 = .ok (.aload_n 0, 1) := dk_42 (by decide +kernel)
theorem dX12_node_46 : decode cX12_node 46 = .ok (.getfield 543, 3) := dk_180 (by decide +kernel)
theorem dX12_node_49 : decode cX12_node 49 = .ok (.iload 5, 2) := dk_21 (by decide +kernel)
theorem dX12_node_51 : decode cX12_node 51 = .ok (.iastore, 1) := dk_79 (by decide +kernel)
theorem dX12_node_52 : decode cX12_node 52 = .ok (.aload_n 0, 1) := dk_42 (by decide +kernel)
theorem dX12_node_53 : decode cX12_node 53 = .ok (.getfield 125, 3) := dk_180 (by decide +kernel)
theorem dX12_node_56 : decode cX12_node 56 = .ok (.aload_n 0, 1) := dk_42 (by decide +kernel)
theorem dX12_node_57 : decode cX12_node 57 = .ok (.getfield 543, 3) := dk_180 (by decide +kernel)
theorem dX12_node_60 : decode cX12_node 60 = .ok (.iconst 0, 1) := dk_3 (by decide +kernel)
theorem dX12_node_61 : decode cX12_node 61 = .ok (.iastore, 1) := dk_79 (by decide +kernel)
theorem dX12_node_62 : decode cX12_node 62 = .ok (.aload_n 0, 1) := dk_42 (by decide +kernel)
theorem dX12_node_63 : decode cX12_node 63 = .ok (.getfield 128, 3) := dk_180 (by decide +kernel)
theorem dX12_node_66 : decode cX12_node 66 = .ok (.aload_n 0, 1) := dk_42 (by decide +kernel)
theorem dX12_node_67 : decode cX12_node 67 = .ok (.getfield 543, 3) := dk_180 (by decide +kernel)
theorem dX12_node_70 : decode cX12_node 70 = .ok (.iconst 0, 1) := dk_3 (by decide +kernel)
theorem dX12_node_71 : decode cX12_node 71 = .ok (.iastore, 1) := dk_79 (by decide +kernel)
theorem dX12_node_72 : decode cX12_node 72 = .ok (.aload_n 0, 1) := dk_42 (by decide +kernel)
theorem dX12_node_73 : decode cX12_node 73 = .ok (.dup, 1) := dk_89 (by decide +kernel)
theorem dX12_node_74 : decode cX12_node 74 = .ok (.getfield 543, 3) := dk_180 (by decide +kernel)
theorem dX12_node_77 : decode cX12_node 77 = .ok (.iconst 1, 1) := dk_4 (by decide +kernel)
theorem dX12_node_78 : decode cX12_node 78 = .ok (.iadd, 1) := dk_96 (by decide +kernel)
theorem dX12_node_79 : decode cX12_node 79 = .ok (.putfield 543, 3) := dk_181 (by decide +kernel)
theorem dX12_node_82 : decode cX12_node 82 = .ok (.aload_n 0, 1) := dk_42 (by decide +kernel)
theorem dX12_node_83 : decode cX12_node 83 = .ok (.getfield 543, 3) := dk_180 (by decide +kernel)
theorem dX12_node_86 : decode cX12_node 86 = .ok (.iconst 1, 1) := dk_4 (by decide +kernel)
theorem dX12_node_87 : decode cX12_node 87 = .ok (.isub, 1) := dk_100 (by decide +kernel)
theorem dX12_node_88 : decode cX12_node 88 = .ok (.ireturn, 1) := dk_172 (by decide +kernel)
def wsRX12_node : List Cond := .code yX12_node cX12_node 6 (some .int) :: ([.fieldLink RX12 110 "OptimaWorksModel" "kind" "[I", .fieldLink RX12 543 "OptimaWorksModel" "nodes" "I", .fieldLink RX12 113 "OptimaWorksModel" "partA" "[I", .fieldLink RX12 116 "OptimaWorksModel" "partB" "[I", .fieldLink RX12 119 "OptimaWorksModel" "partC" "[I", .fieldLink RX12 122 "OptimaWorksModel" "where" "[I", .fieldLink RX12 125 "OptimaWorksModel" "firstA" "[I", .fieldLink RX12 128 "OptimaWorksModel" "firstB" "[I"] ++ wsX120)
theorem iwsRX12_node_in12 : ∀ w ∈ wsX120, w ∈ wsRX12_node := fun _ h => List.mem_cons_of_mem _ (List.mem_append_right _ h)
theorem gdwsRX12_node : wsRX12_node.all goodWord = true := gdC rfl (gdA (by decide +kernel : ([.fieldLink RX12 110 "OptimaWorksModel" "kind" "[I", .fieldLink RX12 543 "OptimaWorksModel" "nodes" "I", .fieldLink RX12 113 "OptimaWorksModel" "partA" "[I", .fieldLink RX12 116 "OptimaWorksModel" "partB" "[I", .fieldLink RX12 119 "OptimaWorksModel" "partC" "[I", .fieldLink RX12 122 "OptimaWorksModel" "where" "[I", .fieldLink RX12 125 "OptimaWorksModel" "firstA" "[I", .fieldLink RX12 128 "OptimaWorksModel" "firstB" "[I"] : List Cond).all goodWord = true) gdwsX120)
set_option maxHeartbeats 4000000 in
set_option maxRecDepth 100000 in
/-- node(k, a, b, c, p) -/
theorem r_X12_node (l : Launch) (dC : Nat → ClassId) (dI : Nat → Nat → Nat) (a : Nat → Nat) (k : Nat → ClassId) (h0 : Nat) (vi : Nat → Int32) (vj : Nat → Int64) (vF : Nat → Nat → Int32) (vG : Nat → Nat → Int64) (nd : Nat) (kv : Int32) (av : Int32) (bv : Int32) (cv : Int32) (pv : Int32) (hnd : vi 52 = nI nd) (hnd2 : nd < 4200) (sz : Nat) : Met l yX12_node wsRX12_node ({ frames := 0, cells := 0, slots := 0, locals := 0 }) (va_Pc [.ref h0, .int kv, .int av, .int bv, .int cv, .int pv] (fun U => U.heap.size = sz ∧ va_P (dC, dI) vwCl (WR a k h0 vi vj vF vG) U.heap ∧ va_K (dC, dI) vwCl (tX12 k) U ∧ va_D (fun _ => True) (WR a k h0 vi vj vF vG))) (va_Qi (fun (r : Int32) (u : Unit) => r = (nI nd)) (fun (u : Unit) t => va_P (dC, dI) vwCl (WR a k h0 (fT vi 52 (nI (nd + 1))) vj (fT (fT (fT (fT (fT (fT (fT vF 29 (upd (vF 29) (nI nd).toNatClampNeg kv)) 30 (upd (vF 30) (nI nd).toNatClampNeg av)) 31 (upd (vF 31) (nI nd).toNatClampNeg bv)) 32 (upd (vF 32) (nI nd).toNatClampNeg cv)) 33 (upd (vF 33) (nI nd).toNatClampNeg pv)) 34 (upd (vF 34) (nI nd).toNatClampNeg 0)) 35 (upd (vF 35) (nI nd).toNatClampNeg 0)) vG) t.heap ∧ va_D (va_A (WR a k h0 vi vj vF vG) sz) (WR a k h0 (fT vi 52 (nI (nd + 1))) vj (fT (fT (fT (fT (fT (fT (fT vF 29 (upd (vF 29) (nI nd).toNatClampNeg kv)) 30 (upd (vF 30) (nI nd).toNatClampNeg av)) 31 (upd (vF 31) (nI nd).toNatClampNeg bv)) 32 (upd (vF 32) (nI nd).toNatClampNeg cv)) 33 (upd (vF 33) (nI nd).toNatClampNeg pv)) 34 (upd (vF 34) (nI nd).toNatClampNeg 0)) 35 (upd (vF 35) (nI nd).toNatClampNeg 0)) vG)) (va_A (WR a k h0 vi vj vF vG) sz)) 0 0 (va_A (WR a k h0 vi vj vF vG) sz) := by
  refine Met.ofW (cc := cX12_node) (maxL := 6) (ret := (some .int)) (by decide) rfl ?_
  intro p e s m args below meth c s₁ B hml hv
  obtain ⟨rfl, hsz, hP, hK, hD0⟩ := hv
  have hx := B.exec
  have hb := B.bytes
  have hr := B.returns
  have hts := atoms_spec (ws := wsRX12_node) B.pre
  have hown : s.vm.findClass RX12 = some m.cls := findClass_of_methodNamed B.named
  have hlocks := B.notSynchronized
  subst hsz
  have hD := hD0.self (sz := s.heap.size)
  generalize hAe : va_A (WR a k h0 vi vj vF vG) s.heap.size = A at hD ⊢
  have hA : ∀ q : Nat, s.heap.size ≤ q → A q := fun q h => by rw [← hAe]; exact Or.inr h
  have hS : va_S A s.heap s.heap [] := va_S.rf
  have hl := lv_entry ([.ref h0, .int kv, .int av, .int bv, .int cv, .int pv]) (n := 6) (Nat.le_of_ble_eq_true rfl)
  rw [lg_entry_eq]
  generalize (lg_sl ([.ref h0, .int kv, .int av, .int bv, .int cv, .int pv]) ++ List.replicate (6 - (lg_sl ([.ref h0, .int kv, .int av, .int bv, .int cv, .int pv])).length) Slot.unset).toArray = ls at hl ⊢
  have hl : lv_has ls 6 [(0, .ref h0), (1, .int kv), (2, .int av), (3, .int bv), (4, .int cv), (5, .int pv)] := hl
  refine lv_aload_n hx hb dX12_node_0 rfl (lv_at hl 0 rfl) ?_
  refine va_get (D := (dC, dI)) (ci := 12) (v := .ref (a 29)) (C := RX12) (T := TX12) (N := 163) (fs := fM (vS a vi vj)) hx hb hts iwsRX12_node_in12 hown hK hP 0 rfl rfl 53 (by decide) (hts (.fieldLink RX12 110 "OptimaWorksModel" "kind" "[I") (by decide +kernel)) (fun _ h9 => h9) rfl dX12_node_1 ?_
  refine lv_aload_n hx hb dX12_node_4 rfl (lv_at hl 0 rfl) ?_
  refine va_get (D := (dC, dI)) (ci := 12) (v := .int (vi 52)) (C := RX12) (T := TX12) (N := 163) (fs := fM (vS a vi vj)) hx hb hts iwsRX12_node_in12 hown hK hP 0 rfl rfl 52 (by decide) (hts (.fieldLink RX12 543 "OptimaWorksModel" "nodes" "I") (by decide +kernel)) (fun _ h9 => h9) rfl dX12_node_5 ?_
  refine lv_topi (fun y1 hy1 => ?_)
  obtain rfl : (nI nd) = y1 := (hy1.trans (hnd)).symm
  refine lv_iload_n hx hb dX12_node_8 rfl (lv_at hl 1 rfl) ?_
  refine va_iast (cA := k 29) (n := 4200) (f := (vF 29)) hx hb hK hP hD hS 30 29 (WR_get 29 (by decide)) (TR_get 29 (by decide)) (vp_in_nI (show nd < 4200 by omega) (by omega)) dX12_node_9 (fun H locs hP hD hS => ?_)
  have hP : va_P (dC, dI) vwCl (WR a k h0 vi vj (fT vF 29 (upd (vF 29) ((nI nd)).toNatClampNeg kv)) vG) H := by rw [← WR_F 29 (by decide) _ rfl]; exact hP
  have hD : va_D A (WR a k h0 vi vj (fT vF 29 (upd (vF 29) ((nI nd)).toNatClampNeg kv)) vG) := by rw [← WR_F 29 (by decide) _ rfl]; exact hD
  refine lv_aload_n hx hb dX12_node_10 rfl (lv_at hl 0 rfl) ?_
  refine va_get (D := (dC, dI)) (ci := 12) (v := .ref (a 30)) (C := RX12) (T := TX12) (N := 163) (fs := fM (vS a vi vj)) hx hb hts iwsRX12_node_in12 hown hK hP 0 rfl rfl 54 (by decide) (hts (.fieldLink RX12 113 "OptimaWorksModel" "partA" "[I") (by decide +kernel)) (fun _ h9 => h9) rfl dX12_node_11 ?_
  refine lv_aload_n hx hb dX12_node_14 rfl (lv_at hl 0 rfl) ?_
  refine va_get (D := (dC, dI)) (ci := 12) (v := .int (vi 52)) (C := RX12) (T := TX12) (N := 163) (fs := fM (vS a vi vj)) hx hb hts iwsRX12_node_in12 hown hK hP 0 rfl rfl 52 (by decide) (hts (.fieldLink RX12 543 "OptimaWorksModel" "nodes" "I") (by decide +kernel)) (fun _ h9 => h9) rfl dX12_node_15 ?_
  refine lv_topi (fun y2 hy2 => ?_)
  obtain rfl : (nI nd) = y2 := (hy2.trans (hnd)).symm
  refine lv_iload_n hx hb dX12_node_18 rfl (lv_at hl 2 rfl) ?_
  refine va_iast (cA := k 30) (n := 4200) (f := (vF 30)) hx hb hK hP hD hS 31 30 (WR_get 30 (by decide)) (TR_get 30 (by decide)) (vp_in_nI (show nd < 4200 by omega) (by omega)) dX12_node_19 (fun H locs hP hD hS => ?_)
  have hP : va_P (dC, dI) vwCl (WR a k h0 vi vj (fT (fT vF 29 (upd (vF 29) ((nI nd)).toNatClampNeg kv)) 30 (upd (vF 30) ((nI nd)).toNatClampNeg av)) vG) H := by rw [← WR_F 30 (by decide) _ rfl]; exact hP
  have hD : va_D A (WR a k h0 vi vj (fT (fT vF 29 (upd (vF 29) ((nI nd)).toNatClampNeg kv)) 30 (upd (vF 30) ((nI nd)).toNatClampNeg av)) vG) := by rw [← WR_F 30 (by decide) _ rfl]; exact hD
  refine lv_aload_n hx hb dX12_node_20 rfl (lv_at hl 0 rfl) ?_
  refine va_get (D := (dC, dI)) (ci := 12) (v := .ref (a 31)) (C := RX12) (T := TX12) (N := 163) (fs := fM (vS a vi vj)) hx hb hts iwsRX12_node_in12 hown hK hP 0 rfl rfl 55 (by decide) (hts (.fieldLink RX12 116 "OptimaWorksModel" "partB" "[I") (by decide +kernel)) (fun _ h9 => h9) rfl dX12_node_21 ?_
  refine lv_aload_n hx hb dX12_node_24 rfl (lv_at hl 0 rfl) ?_
  refine va_get (D := (dC, dI)) (ci := 12) (v := .int (vi 52)) (C := RX12) (T := TX12) (N := 163) (fs := fM (vS a vi vj)) hx hb hts iwsRX12_node_in12 hown hK hP 0 rfl rfl 52 (by decide) (hts (.fieldLink RX12 543 "OptimaWorksModel" "nodes" "I") (by decide +kernel)) (fun _ h9 => h9) rfl dX12_node_25 ?_
  refine lv_topi (fun y3 hy3 => ?_)
  obtain rfl : (nI nd) = y3 := (hy3.trans (hnd)).symm
  refine lv_iload_n hx hb dX12_node_28 rfl (lv_at hl 3 rfl) ?_
  refine va_iast (cA := k 31) (n := 4200) (f := (vF 31)) hx hb hK hP hD hS 32 31 (WR_get 31 (by decide)) (TR_get 31 (by decide)) (vp_in_nI (show nd < 4200 by omega) (by omega)) dX12_node_29 (fun H locs hP hD hS => ?_)
  have hP : va_P (dC, dI) vwCl (WR a k h0 vi vj (fT (fT (fT vF 29 (upd (vF 29) ((nI nd)).toNatClampNeg kv)) 30 (upd (vF 30) ((nI nd)).toNatClampNeg av)) 31 (upd (vF 31) ((nI nd)).toNatClampNeg bv)) vG) H := by rw [← WR_F 31 (by decide) _ rfl]; exact hP
  have hD : va_D A (WR a k h0 vi vj (fT (fT (fT vF 29 (upd (vF 29) ((nI nd)).toNatClampNeg kv)) 30 (upd (vF 30) ((nI nd)).toNatClampNeg av)) 31 (upd (vF 31) ((nI nd)).toNatClampNeg bv)) vG) := by rw [← WR_F 31 (by decide) _ rfl]; exact hD
  refine lv_aload_n hx hb dX12_node_30 rfl (lv_at hl 0 rfl) ?_
  refine va_get (D := (dC, dI)) (ci := 12) (v := .ref (a 32)) (C := RX12) (T := TX12) (N := 163) (fs := fM (vS a vi vj)) hx hb hts iwsRX12_node_in12 hown hK hP 0 rfl rfl 56 (by decide) (hts (.fieldLink RX12 119 "OptimaWorksModel" "partC" "[I") (by decide +kernel)) (fun _ h9 => h9) rfl dX12_node_31 ?_
  refine lv_aload_n hx hb dX12_node_34 rfl (lv_at hl 0 rfl) ?_
  refine va_get (D := (dC, dI)) (ci := 12) (v := .int (vi 52)) (C := RX12) (T := TX12) (N := 163) (fs := fM (vS a vi vj)) hx hb hts iwsRX12_node_in12 hown hK hP 0 rfl rfl 52 (by decide) (hts (.fieldLink RX12 543 "OptimaWorksModel" "nodes" "I") (by decide +kernel)) (fun _ h9 => h9) rfl dX12_node_35 ?_
  refine lv_topi (fun y4 hy4 => ?_)
  obtain rfl : (nI nd) = y4 := (hy4.trans (hnd)).symm
  refine lv_iload hx hb dX12_node_38 (lv_at hl 4 rfl) ?_
  refine va_iast (cA := k 32) (n := 4200) (f := (vF 32)) hx hb hK hP hD hS 33 32 (WR_get 32 (by decide)) (TR_get 32 (by decide)) (vp_in_nI (show nd < 4200 by omega) (by omega)) dX12_node_40 (fun H locs hP hD hS => ?_)
  have hP : va_P (dC, dI) vwCl (WR a k h0 vi vj (fT (fT (fT (fT vF 29 (upd (vF 29) ((nI nd)).toNatClampNeg kv)) 30 (upd (vF 30) ((nI nd)).toNatClampNeg av)) 31 (upd (vF 31) ((nI nd)).toNatClampNeg bv)) 32 (upd (vF 32) ((nI nd)).toNatClampNeg cv)) vG) H := by rw [← WR_F 32 (by decide) _ rfl]; exact hP
  have hD : va_D A (WR a k h0 vi vj (fT (fT (fT (fT vF 29 (upd (vF 29) ((nI nd)).toNatClampNeg kv)) 30 (upd (vF 30) ((nI nd)).toNatClampNeg av)) 31 (upd (vF 31) ((nI nd)).toNatClampNeg bv)) 32 (upd (vF 32) ((nI nd)).toNatClampNeg cv)) vG) := by rw [← WR_F 32 (by decide) _ rfl]; exact hD
  refine lv_aload_n hx hb dX12_node_41 rfl (lv_at hl 0 rfl) ?_
  refine va_get (D := (dC, dI)) (ci := 12) (v := .ref (a 33)) (C := RX12) (T := TX12) (N := 163) (fs := fM (vS a vi vj)) hx hb hts iwsRX12_node_in12 hown hK hP 0 rfl rfl 57 (by decide) (hts (.fieldLink RX12 122 "OptimaWorksModel" "where" "[I") (by decide +kernel)) (fun _ h9 => h9) rfl dX12_node_42 ?_
  refine lv_aload_n hx hb dX12_node_45 rfl (lv_at hl 0 rfl) ?_
  refine va_get (D := (dC, dI)) (ci := 12) (v := .int (vi 52)) (C := RX12) (T := TX12) (N := 163) (fs := fM (vS a vi vj)) hx hb hts iwsRX12_node_in12 hown hK hP 0 rfl rfl 52 (by decide) (hts (.fieldLink RX12 543 "OptimaWorksModel" "nodes" "I") (by decide +kernel)) (fun _ h9 => h9) rfl dX12_node_46 ?_
  refine lv_topi (fun y5 hy5 => ?_)
  obtain rfl : (nI nd) = y5 := (hy5.trans (hnd)).symm
  refine lv_iload hx hb dX12_node_49 (lv_at hl 5 rfl) ?_
  refine va_iast (cA := k 33) (n := 4200) (f := (vF 33)) hx hb hK hP hD hS 34 33 (WR_get 33 (by decide)) (TR_get 33 (by decide)) (vp_in_nI (show nd < 4200 by omega) (by omega)) dX12_node_51 (fun H locs hP hD hS => ?_)
  have hP : va_P (dC, dI) vwCl (WR a k h0 vi vj (fT (fT (fT (fT (fT vF 29 (upd (vF 29) ((nI nd)).toNatClampNeg kv)) 30 (upd (vF 30) ((nI nd)).toNatClampNeg av)) 31 (upd (vF 31) ((nI nd)).toNatClampNeg bv)) 32 (upd (vF 32) ((nI nd)).toNatClampNeg cv)) 33 (upd (vF 33) ((nI nd)).toNatClampNeg pv)) vG) H := by rw [← WR_F 33 (by decide) _ rfl]; exact hP
  have hD : va_D A (WR a k h0 vi vj (fT (fT (fT (fT (fT vF 29 (upd (vF 29) ((nI nd)).toNatClampNeg kv)) 30 (upd (vF 30) ((nI nd)).toNatClampNeg av)) 31 (upd (vF 31) ((nI nd)).toNatClampNeg bv)) 32 (upd (vF 32) ((nI nd)).toNatClampNeg cv)) 33 (upd (vF 33) ((nI nd)).toNatClampNeg pv)) vG) := by rw [← WR_F 33 (by decide) _ rfl]; exact hD
  refine lv_aload_n hx hb dX12_node_52 rfl (lv_at hl 0 rfl) ?_
  refine va_get (D := (dC, dI)) (ci := 12) (v := .ref (a 34)) (C := RX12) (T := TX12) (N := 163) (fs := fM (vS a vi vj)) hx hb hts iwsRX12_node_in12 hown hK hP 0 rfl rfl 58 (by decide) (hts (.fieldLink RX12 125 "OptimaWorksModel" "firstA" "[I") (by decide +kernel)) (fun _ h9 => h9) rfl dX12_node_53 ?_
  refine lv_aload_n hx hb dX12_node_56 rfl (lv_at hl 0 rfl) ?_
  refine va_get (D := (dC, dI)) (ci := 12) (v := .int (vi 52)) (C := RX12) (T := TX12) (N := 163) (fs := fM (vS a vi vj)) hx hb hts iwsRX12_node_in12 hown hK hP 0 rfl rfl 52 (by decide) (hts (.fieldLink RX12 543 "OptimaWorksModel" "nodes" "I") (by decide +kernel)) (fun _ h9 => h9) rfl dX12_node_57 ?_
  refine lv_topi (fun y6 hy6 => ?_)
  obtain rfl : (nI nd) = y6 := (hy6.trans (hnd)).symm
  refine lv_iconst (v := 0) hx hb dX12_node_60 (by decide) ?_
  refine va_iast (cA := k 34) (n := 4200) (f := (vF 34)) hx hb hK hP hD hS 35 34 (WR_get 34 (by decide)) (TR_get 34 (by decide)) (vp_in_nI (show nd < 4200 by omega) (by omega)) dX12_node_61 (fun H locs hP hD hS => ?_)
  have hP : va_P (dC, dI) vwCl (WR a k h0 vi vj (fT (fT (fT (fT (fT (fT vF 29 (upd (vF 29) ((nI nd)).toNatClampNeg kv)) 30 (upd (vF 30) ((nI nd)).toNatClampNeg av)) 31 (upd (vF 31) ((nI nd)).toNatClampNeg bv)) 32 (upd (vF 32) ((nI nd)).toNatClampNeg cv)) 33 (upd (vF 33) ((nI nd)).toNatClampNeg pv)) 34 (upd (vF 34) ((nI nd)).toNatClampNeg 0)) vG) H := by rw [← WR_F 34 (by decide) _ rfl]; exact hP
  have hD : va_D A (WR a k h0 vi vj (fT (fT (fT (fT (fT (fT vF 29 (upd (vF 29) ((nI nd)).toNatClampNeg kv)) 30 (upd (vF 30) ((nI nd)).toNatClampNeg av)) 31 (upd (vF 31) ((nI nd)).toNatClampNeg bv)) 32 (upd (vF 32) ((nI nd)).toNatClampNeg cv)) 33 (upd (vF 33) ((nI nd)).toNatClampNeg pv)) 34 (upd (vF 34) ((nI nd)).toNatClampNeg 0)) vG) := by rw [← WR_F 34 (by decide) _ rfl]; exact hD
  refine lv_aload_n hx hb dX12_node_62 rfl (lv_at hl 0 rfl) ?_
  refine va_get (D := (dC, dI)) (ci := 12) (v := .ref (a 35)) (C := RX12) (T := TX12) (N := 163) (fs := fM (vS a vi vj)) hx hb hts iwsRX12_node_in12 hown hK hP 0 rfl rfl 59 (by decide) (hts (.fieldLink RX12 128 "OptimaWorksModel" "firstB" "[I") (by decide +kernel)) (fun _ h9 => h9) rfl dX12_node_63 ?_
  refine lv_aload_n hx hb dX12_node_66 rfl (lv_at hl 0 rfl) ?_
  refine va_get (D := (dC, dI)) (ci := 12) (v := .int (vi 52)) (C := RX12) (T := TX12) (N := 163) (fs := fM (vS a vi vj)) hx hb hts iwsRX12_node_in12 hown hK hP 0 rfl rfl 52 (by decide) (hts (.fieldLink RX12 543 "OptimaWorksModel" "nodes" "I") (by decide +kernel)) (fun _ h9 => h9) rfl dX12_node_67 ?_
  refine lv_topi (fun y7 hy7 => ?_)
  obtain rfl : (nI nd) = y7 := (hy7.trans (hnd)).symm
  refine lv_iconst (v := 0) hx hb dX12_node_70 (by decide) ?_
  refine va_iast (cA := k 35) (n := 4200) (f := (vF 35)) hx hb hK hP hD hS 36 35 (WR_get 35 (by decide)) (TR_get 35 (by decide)) (vp_in_nI (show nd < 4200 by omega) (by omega)) dX12_node_71 (fun H locs hP hD hS => ?_)
  have hP : va_P (dC, dI) vwCl (WR a k h0 vi vj (fT (fT (fT (fT (fT (fT (fT vF 29 (upd (vF 29) ((nI nd)).toNatClampNeg kv)) 30 (upd (vF 30) ((nI nd)).toNatClampNeg av)) 31 (upd (vF 31) ((nI nd)).toNatClampNeg bv)) 32 (upd (vF 32) ((nI nd)).toNatClampNeg cv)) 33 (upd (vF 33) ((nI nd)).toNatClampNeg pv)) 34 (upd (vF 34) ((nI nd)).toNatClampNeg 0)) 35 (upd (vF 35) ((nI nd)).toNatClampNeg 0)) vG) H := by rw [← WR_F 35 (by decide) _ rfl]; exact hP
  have hD : va_D A (WR a k h0 vi vj (fT (fT (fT (fT (fT (fT (fT vF 29 (upd (vF 29) ((nI nd)).toNatClampNeg kv)) 30 (upd (vF 30) ((nI nd)).toNatClampNeg av)) 31 (upd (vF 31) ((nI nd)).toNatClampNeg bv)) 32 (upd (vF 32) ((nI nd)).toNatClampNeg cv)) 33 (upd (vF 33) ((nI nd)).toNatClampNeg pv)) 34 (upd (vF 34) ((nI nd)).toNatClampNeg 0)) 35 (upd (vF 35) ((nI nd)).toNatClampNeg 0)) vG) := by rw [← WR_F 35 (by decide) _ rfl]; exact hD
  refine lv_aload_n hx hb dX12_node_72 rfl (lv_at hl 0 rfl) ?_
  refine lv_dup hx hb dX12_node_73 rfl ?_
  refine va_get (D := (dC, dI)) (ci := 12) (v := .int (vi 52)) (C := RX12) (T := TX12) (N := 163) (fs := fM (vS a vi vj)) hx hb hts iwsRX12_node_in12 hown hK hP 0 rfl rfl 52 (by decide) (hts (.fieldLink RX12 543 "OptimaWorksModel" "nodes" "I") (by decide +kernel)) (fun _ h9 => h9) rfl dX12_node_74 ?_
  refine lv_topi (fun y8 hy8 => ?_)
  obtain rfl : (nI nd) = y8 := (hy8.trans (hnd)).symm
  refine lv_iconst (v := 1) hx hb dX12_node_77 (by decide) ?_
  refine lv_iadd hx hb dX12_node_78 ?_
  refine lv_topi (fun y9 hy9 => ?_)
  obtain rfl : (nI (nd + 1)) = y9 := (hy9.trans (nI_add nd 1)).symm
  refine va_put (D := (dC, dI)) (ci := 12) (v := .int (nI (nd + 1))) (ty := .int) (C := RX12) (T := TX12) (N := 163) (fs := fM (vS a vi vj)) hx hb hts iwsRX12_node_in12 tyX12 tyX12_ok nmX12 hown hK hP hD hS 0 rfl rfl 52 (by decide) (hts (.fieldLink RX12 543 "OptimaWorksModel" "nodes" "I") (by decide +kernel)) (fun _ h9 => h9) rfl (by decide +kernel) rfl rfl (Nat.le_of_ble_eq_true rfl) dX12_node_79 (fun H locs hP hD hS => ?_)
  have hP : va_P (dC, dI) vwCl (WR a k h0 (fT vi 52 (nI (nd + 1))) vj (fT (fT (fT (fT (fT (fT (fT vF 29 (upd (vF 29) ((nI nd)).toNatClampNeg kv)) 30 (upd (vF 30) ((nI nd)).toNatClampNeg av)) 31 (upd (vF 31) ((nI nd)).toNatClampNeg bv)) 32 (upd (vF 32) ((nI nd)).toNatClampNeg cv)) 33 (upd (vF 33) ((nI nd)).toNatClampNeg pv)) 34 (upd (vF 34) ((nI nd)).toNatClampNeg 0)) 35 (upd (vF 35) ((nI nd)).toNatClampNeg 0)) vG) H := by rw [← WR_i 52 _ rfl]; exact hP
  have hD : va_D A (WR a k h0 (fT vi 52 (nI (nd + 1))) vj (fT (fT (fT (fT (fT (fT (fT vF 29 (upd (vF 29) ((nI nd)).toNatClampNeg kv)) 30 (upd (vF 30) ((nI nd)).toNatClampNeg av)) 31 (upd (vF 31) ((nI nd)).toNatClampNeg bv)) 32 (upd (vF 32) ((nI nd)).toNatClampNeg cv)) 33 (upd (vF 33) ((nI nd)).toNatClampNeg pv)) 34 (upd (vF 34) ((nI nd)).toNatClampNeg 0)) 35 (upd (vF 35) ((nI nd)).toNatClampNeg 0)) vG) := by rw [← WR_i 52 _ rfl]; exact hD
  refine lv_aload_n hx hb dX12_node_82 rfl (lv_at hl 0 rfl) ?_
  refine va_get (D := (dC, dI)) (ci := 12) (v := .int (nI (nd + 1))) (C := RX12) (T := TX12) (N := 163) (fs := fM (vS a (fT vi 52 (nI (nd + 1))) vj)) hx hb hts iwsRX12_node_in12 hown hK hP 0 rfl rfl 52 (by decide) (hts (.fieldLink RX12 543 "OptimaWorksModel" "nodes" "I") (by decide +kernel)) (fun _ h9 => h9) rfl dX12_node_83 ?_
  refine lv_iconst (v := 1) hx hb dX12_node_86 (by decide) ?_
  refine lv_isub hx hb dX12_node_87 ?_
  refine lv_topi (fun y10 hy10 => ?_)
  obtain rfl : (nI ((nd + 1) - 1)) = y10 := (hy10.trans (pk_sub (a := (nd + 1)) (b := 1) (by omega))).symm
  refine W.widen (k := 0) (n := 0) (by decide +kernel) (by decide +kernel) ?_
  have e9 : fT (fT (fT (fT (fT (fT (fT vF 29 (upd (vF 29) (nI nd).toNatClampNeg kv)) 30 (upd (vF 30) (nI nd).toNatClampNeg av)) 31 (upd (vF 31) (nI nd).toNatClampNeg bv)) 32 (upd (vF 32) (nI nd).toNatClampNeg cv)) 33 (upd (vF 33) (nI nd).toNatClampNeg pv)) 34 (upd (vF 34) (nI nd).toNatClampNeg 0)) 35 (upd (vF 35) (nI nd).toNatClampNeg 0) = fT (fT (fT (fT (fT (fT (fT vF 29 (upd (vF 29) ((nI nd)).toNatClampNeg kv)) 30 (upd (vF 30) ((nI nd)).toNatClampNeg av)) 31 (upd (vF 31) ((nI nd)).toNatClampNeg bv)) 32 (upd (vF 32) ((nI nd)).toNatClampNeg cv)) 33 (upd (vF 33) ((nI nd)).toNatClampNeg pv)) 34 (upd (vF 34) ((nI nd)).toNatClampNeg 0)) 35 (upd (vF 35) ((nI nd)).toNatClampNeg 0) := by funext q9; by_cases h9_29 : q9 = 29; (subst h9_29; exact ((fT_ne _ _ (Nat.ne_of_beq_eq_false rfl)).trans ((fT_ne _ _ (Nat.ne_of_beq_eq_false rfl)).trans ((fT_ne _ _ (Nat.ne_of_beq_eq_false rfl)).trans ((fT_ne _ _ (Nat.ne_of_beq_eq_false rfl)).trans ((fT_ne _ _ (Nat.ne_of_beq_eq_false rfl)).trans ((fT_ne _ _ (Nat.ne_of_beq_eq_false rfl)).trans (fT_eq _ _ _))))))).trans (Eq.trans (by first | rfl | assumption | (symm; assumption) | (subst_vars; rfl)) ((fT_ne _ _ (Nat.ne_of_beq_eq_false rfl)).trans ((fT_ne _ _ (Nat.ne_of_beq_eq_false rfl)).trans ((fT_ne _ _ (Nat.ne_of_beq_eq_false rfl)).trans ((fT_ne _ _ (Nat.ne_of_beq_eq_false rfl)).trans ((fT_ne _ _ (Nat.ne_of_beq_eq_false rfl)).trans ((fT_ne _ _ (Nat.ne_of_beq_eq_false rfl)).trans (fT_eq _ _ _))))))).symm)); by_cases h9_30 : q9 = 30; (subst h9_30; exact ((fT_ne _ _ (Nat.ne_of_beq_eq_false rfl)).trans ((fT_ne _ _ (Nat.ne_of_beq_eq_false rfl)).trans ((fT_ne _ _ (Nat.ne_of_beq_eq_false rfl)).trans ((fT_ne _ _ (Nat.ne_of_beq_eq_false rfl)).trans ((fT_ne _ _ (Nat.ne_of_beq_eq_false rfl)).trans (fT_eq _ _ _)))))).trans (Eq.trans (by first | rfl | assumption | (symm; assumption) | (subst_vars; rfl)) ((fT_ne _ _ (Nat.ne_of_beq_eq_false rfl)).trans ((fT_ne _ _ (Nat.ne_of_beq_eq_false rfl)).trans ((fT_ne _ _ (Nat.ne_of_beq_eq_false rfl)).trans ((fT_ne _ _ (Nat.ne_of_beq_eq_false rfl)).trans ((fT_ne _ _ (Nat.ne_of_beq_eq_false rfl)).trans (fT_eq _ _ _)))))).symm)); by_cases h9_31 : q9 = 31; (subst h9_31; exact ((fT_ne _ _ (Nat.ne_of_beq_eq_false rfl)).trans ((fT_ne _ _ (Nat.ne_of_beq_eq_false rfl)).trans ((fT_ne _ _ (Nat.ne_of_beq_eq_false rfl)).trans ((fT_ne _ _ (Nat.ne_of_beq_eq_false rfl)).trans (fT_eq _ _ _))))).trans (Eq.trans (by first | rfl | assumption | (symm; assumption) | (subst_vars; rfl)) ((fT_ne _ _ (Nat.ne_of_beq_eq_false rfl)).trans ((fT_ne _ _ (Nat.ne_of_beq_eq_false rfl)).trans ((fT_ne _ _ (Nat.ne_of_beq_eq_false rfl)).trans ((fT_ne _ _ (Nat.ne_of_beq_eq_false rfl)).trans (fT_eq _ _ _))))).symm)); by_cases h9_32 : q9 = 32; (subst h9_32; exact ((fT_ne _ _ (Nat.ne_of_beq_eq_false rfl)).trans ((fT_ne _ _ (Nat.ne_of_beq_eq_false rfl)).trans ((fT_ne _ _ (Nat.ne_of_beq_eq_false rfl)).trans (fT_eq _ _ _)))).trans (Eq.trans (by first | rfl | assumption | (symm; assumption) | (subst_vars; rfl)) ((fT_ne _ _ (Nat.ne_of_beq_eq_false rfl)).trans ((fT_ne _ _ (Nat.ne_of_beq_eq_false rfl)).trans ((fT_ne _ _ (Nat.ne_of_beq_eq_false rfl)).trans (fT_eq _ _ _)))).symm)); by_cases h9_33 : q9 = 33; (subst h9_33; exact ((fT_ne _ _ (Nat.ne_of_beq_eq_false rfl)).trans ((fT_ne _ _ (Nat.ne_of_beq_eq_false rfl)).trans (fT_eq _ _ _))).trans (Eq.trans (by first | rfl | assumption | (symm; assumption) | (subst_vars; rfl)) ((fT_ne _ _ (Nat.ne_of_beq_eq_false rfl)).trans ((fT_ne _ _ (Nat.ne_of_beq_eq_false rfl)).trans (fT_eq _ _ _))).symm)); by_cases h9_34 : q9 = 34; (subst h9_34; exact ((fT_ne _ _ (Nat.ne_of_beq_eq_false rfl)).trans (fT_eq _ _ _)).trans (Eq.trans (by first | rfl | assumption | (symm; assumption) | (subst_vars; rfl)) ((fT_ne _ _ (Nat.ne_of_beq_eq_false rfl)).trans (fT_eq _ _ _)).symm)); by_cases h9_35 : q9 = 35; (subst h9_35; exact (fT_eq _ _ _).trans (Eq.trans (by first | rfl | assumption | (symm; assumption) | (subst_vars; rfl)) (fT_eq _ _ _).symm)); exact ((fT_ne _ _ h9_35).trans ((fT_ne _ _ h9_34).trans ((fT_ne _ _ h9_33).trans ((fT_ne _ _ h9_32).trans ((fT_ne _ _ h9_31).trans ((fT_ne _ _ h9_30).trans (fT_ne _ _ h9_29))))))).trans ((fT_ne _ _ h9_35).trans ((fT_ne _ _ h9_34).trans ((fT_ne _ _ h9_33).trans ((fT_ne _ _ h9_32).trans ((fT_ne _ _ h9_31).trans ((fT_ne _ _ h9_30).trans (fT_ne _ _ h9_29))))))).symm
  have hP : va_P (dC, dI) vwCl (WR a k h0 (fT vi 52 (nI (nd + 1))) vj (fT (fT (fT (fT (fT (fT (fT vF 29 (upd (vF 29) (nI nd).toNatClampNeg kv)) 30 (upd (vF 30) (nI nd).toNatClampNeg av)) 31 (upd (vF 31) (nI nd).toNatClampNeg bv)) 32 (upd (vF 32) (nI nd).toNatClampNeg cv)) 33 (upd (vF 33) (nI nd).toNatClampNeg pv)) 34 (upd (vF 34) (nI nd).toNatClampNeg 0)) 35 (upd (vF 35) (nI nd).toNatClampNeg 0)) vG) H := by rw [e9]; exact hP
  have hD : va_D A (WR a k h0 (fT vi 52 (nI (nd + 1))) vj (fT (fT (fT (fT (fT (fT (fT vF 29 (upd (vF 29) (nI nd).toNatClampNeg kv)) 30 (upd (vF 30) (nI nd).toNatClampNeg av)) 31 (upd (vF 31) (nI nd).toNatClampNeg bv)) 32 (upd (vF 32) (nI nd).toNatClampNeg cv)) 33 (upd (vF 33) (nI nd).toNatClampNeg pv)) 34 (upd (vF 34) (nI nd).toNatClampNeg 0)) 35 (upd (vF 35) (nI nd).toNatClampNeg 0)) vG) := by rw [e9]; exact hD
  clear e9
  exact W.iret (v := (nI ((nd + 1) - 1))) hx hb hr (fun t9_ ht hW => ⟨⟨(nI ((nd + 1) - 1)), (), rfl, by (try dsimp only); rw [show nd + 1 - 1 = nd by omega], by rw [ht]; exact hP, hD⟩, hS.F ht⟩) hS.2.2 dX12_node_88
theorem dX12_say_0 : decode cX12_say 0 = .ok (.aload_n 0, 1) := dk_42 (by decide +kernel)
theorem dX12_say_1 : decode cX12_say 1 = .ok (.getfield 933, 3) := dk_180 (by decide +kernel)
theorem dX12_say_4 : decode cX12_say 4 = .ok (.sipush 30000, 3) := dk_17 (by decide +kernel)
theorem dX12_say_7 : decode cX12_say 7 = .ok (.if_icmp .ge 24, 3) := dk_162 (by decide +kernel)
theorem dX12_say_10 : decode cX12_say 10 = .ok (.aload_n 0, 1) := dk_42 (by decide +kernel)
theorem dX12_say_11 : decode cX12_say 11 = .ok (.getfield 248, 3) := dk_180 (by decide +kernel)
theorem dX12_say_14 : decode cX12_say 14 = .ok (.aload_n 0, 1) := dk_42 (by decide +kernel)
theorem dX12_say_15 : decode cX12_say 15 = .ok (.getfield 933, 3) := dk_180 (by decide +kernel)
theorem dX12_say_18 : decode cX12_say 18 = .ok (.iload_n 1, 1) := dk_27 (by decide +kernel)
theorem dX12_say_19 : decode cX12_say 19 = .ok (.i2b, 1) := dk_145 (by decide +kernel)
theorem dX12_say_20 : decode cX12_say 20 = .ok (.bastore, 1) := dk_84 (by decide +kernel)
theorem dX12_say_21 : decode cX12_say 21 = .ok (.aload_n 0, 1) := dk_42 (by decide +kernel)
theorem dX12_say_22 : decode cX12_say 22 = .ok (.dup, 1) := dk_89 (by decide +kernel)
theorem dX12_say_23 : decode cX12_say 23 = .ok (.getfield 933, 3) := dk_180 (by decide +kernel)
theorem dX12_say_26 : decode cX12_say 26 = .ok (.iconst 1, 1) := dk_4 (by decide +kernel)
theorem dX12_say_27 : decode cX12_say 27 = .ok (.iadd, 1) := dk_96 (by decide +kernel)
theorem dX12_say_28 : decode cX12_say 28 = .ok (.putfield 933, 3) := dk_181 (by decide +kernel)
theorem dX12_say_31 : decode cX12_say 31 = .ok (.return_, 1) := dk_177 (by decide +kernel)
def wsRX12_say : List Cond := .code yX12_say cX12_say 2 none :: ([.fieldLink RX12 933 "OptimaWorksModel" "printed" "I", .fieldLink RX12 248 "OptimaWorksModel" "out" "[B"] ++ wsX120)
theorem iwsRX12_say_in12 : ∀ w ∈ wsX120, w ∈ wsRX12_say := fun _ h => List.mem_cons_of_mem _ (List.mem_append_right _ h)
theorem gdwsRX12_say : wsRX12_say.all goodWord = true := gdC rfl (gdA (by decide +kernel : ([.fieldLink RX12 933 "OptimaWorksModel" "printed" "I", .fieldLink RX12 248 "OptimaWorksModel" "out" "[B"] : List Cond).all goodWord = true) gdwsX120)
set_option maxHeartbeats 4000000 in
set_option maxRecDepth 100000 in
/-- say(c) -/
theorem r_X12_say (l : Launch) (dC : Nat → ClassId) (dI : Nat → Nat → Nat) (a : Nat → Nat) (k : Nat → ClassId) (h0 : Nat) (vi : Nat → Int32) (vj : Nat → Int64) (vF : Nat → Nat → Int32) (vG : Nat → Nat → Int64) (cv : Int32) (pn : Nat) (hpn : vi 125 = nI pn) (hpn2 : pn ≤ 30000) (sz : Nat) : Met l yX12_say wsRX12_say ({ frames := 0, cells := 0, slots := 0, locals := 0 }) (va_Pc [.ref h0, .int cv] (fun U => U.heap.size = sz ∧ va_P (dC, dI) vwCl (WR a k h0 vi vj vF vG) U.heap ∧ va_K (dC, dI) vwCl (tX12 k) U ∧ va_D (fun _ => True) (WR a k h0 vi vj vF vG))) (va_Qv (fun (u : (Nat) × (Nat → Int32)) => (pn ≤ (u.1)) ∧ ((u.1) ≤ 30000) ∧ ((u.1) ≤ pn + 1)) (fun (u : (Nat) × (Nat → Int32)) t => va_P (dC, dI) vwCl (WR a k h0 (fT vi 125 (nI (u.1))) vj (fT vF 75 (u.2)) vG) t.heap ∧ va_D (va_A (WR a k h0 vi vj vF vG) sz) (WR a k h0 (fT vi 125 (nI (u.1))) vj (fT vF 75 (u.2)) vG)) (va_A (WR a k h0 vi vj vF vG) sz)) 0 0 (va_A (WR a k h0 vi vj vF vG) sz) := by
  refine Met.ofW (cc := cX12_say) (maxL := 2) (ret := none) (by decide) rfl ?_
  intro p e s m args below meth c s₁ B hml hv
  obtain ⟨rfl, hsz, hP, hK, hD0⟩ := hv
  have hx := B.exec
  have hb := B.bytes
  have hr := B.returns
  have hts := atoms_spec (ws := wsRX12_say) B.pre
  have hown : s.vm.findClass RX12 = some m.cls := findClass_of_methodNamed B.named
  have hlocks := B.notSynchronized
  subst hsz
  have hD := hD0.self (sz := s.heap.size)
  generalize hAe : va_A (WR a k h0 vi vj vF vG) s.heap.size = A at hD ⊢
  have hA : ∀ q : Nat, s.heap.size ≤ q → A q := fun q h => by rw [← hAe]; exact Or.inr h
  have hS : va_S A s.heap s.heap [] := va_S.rf
  have hl := lv_entry ([.ref h0, .int cv]) (n := 2) (Nat.le_of_ble_eq_true rfl)
  rw [lg_entry_eq]
  generalize (lg_sl ([.ref h0, .int cv]) ++ List.replicate (2 - (lg_sl ([.ref h0, .int cv])).length) Slot.unset).toArray = ls at hl ⊢
  have hl : lv_has ls 2 [(0, .ref h0), (1, .int cv)] := hl
  refine lv_aload_n hx hb dX12_say_0 rfl (lv_at hl 0 rfl) ?_
  refine va_get (D := (dC, dI)) (ci := 12) (v := .int (vi 125)) (C := RX12) (T := TX12) (N := 163) (fs := fM (vS a vi vj)) hx hb hts iwsRX12_say_in12 hown hK hP 0 rfl rfl 125 (by decide) (hts (.fieldLink RX12 933 "OptimaWorksModel" "printed" "I") (by decide +kernel)) (fun _ h9 => h9) rfl dX12_say_1 ?_
  refine lv_topi (fun y1 hy1 => ?_)
  obtain rfl : (nI pn) = y1 := (hy1.trans (hpn)).symm
  refine lv_sipush (v := 30000) hx hb dX12_say_4 (by decide) ?_
  refine lv_icmp_ge (tgt := 31) hx hb dX12_say_7 (by decide) (fun c_7 => ?_) (fun c_7 => ?_)
  · have t_7 : ((pn : Nat) : Int) ≥ 30000 := toI_ge c_7 (nI_toInt (by omega)) (by decide)
    refine W.widen (k := 0) (n := 0) (by decide +kernel) (by decide +kernel) ?_
    have e9 : fT vi 125 (nI pn) = vi := by funext q9; by_cases h9_125 : q9 = 125; (subst h9_125; exact (fT_eq _ _ _).trans (Eq.trans (by first | rfl | assumption | (symm; assumption) | (subst_vars; rfl)) (Eq.refl _).symm)); exact (fT_ne _ _ h9_125).trans (Eq.refl _).symm
    have hP : va_P (dC, dI) vwCl (WR a k h0 (fT vi 125 (nI pn)) vj vF vG) s.heap := by rw [e9]; exact hP
    have hD : va_D A (WR a k h0 (fT vi 125 (nI pn)) vj vF vG) := by rw [e9]; exact hD
    clear e9
    have e9 : fT vF 75 (vF 75) = vF := fT_id _ _ (rfl)
    have hP : va_P (dC, dI) vwCl (WR a k h0 (fT vi 125 (nI pn)) vj (fT vF 75 (vF 75)) vG) s.heap := by rw [e9]; exact hP
    have hD : va_D A (WR a k h0 (fT vi 125 (nI pn)) vj (fT vF 75 (vF 75)) vG) := by rw [e9]; exact hD
    clear e9
    exact W.vret hx hb hr (fun t9_ ht hW => ⟨⟨(pn, (vF 75)), rfl, by (try dsimp only); exact ⟨by omega, by omega, by omega⟩, by rw [ht]; exact hP, hD⟩, hS.F ht⟩) hS.2.2 dX12_say_31
  · have t_7 : ¬ ((pn : Nat) : Int) ≥ 30000 := toI_nge c_7 (nI_toInt (by omega)) (by decide)
    refine lv_aload_n hx hb dX12_say_10 rfl (lv_at hl 0 rfl) ?_
    refine va_get (D := (dC, dI)) (ci := 12) (v := .ref (a 75)) (C := RX12) (T := TX12) (N := 163) (fs := fM (vS a vi vj)) hx hb hts iwsRX12_say_in12 hown hK hP 0 rfl rfl 124 (by decide) (hts (.fieldLink RX12 248 "OptimaWorksModel" "out" "[B") (by decide +kernel)) (fun _ h9 => h9) rfl dX12_say_11 ?_
    refine lv_aload_n hx hb dX12_say_14 rfl (lv_at hl 0 rfl) ?_
    refine va_get (D := (dC, dI)) (ci := 12) (v := .int (vi 125)) (C := RX12) (T := TX12) (N := 163) (fs := fM (vS a vi vj)) hx hb hts iwsRX12_say_in12 hown hK hP 0 rfl rfl 125 (by decide) (hts (.fieldLink RX12 933 "OptimaWorksModel" "printed" "I") (by decide +kernel)) (fun _ h9 => h9) rfl dX12_say_15 ?_
    refine lv_topi (fun y2 hy2 => ?_)
    obtain rfl : (nI pn) = y2 := (hy2.trans (hpn)).symm
    refine lv_iload_n hx hb dX12_say_18 rfl (lv_at hl 1 rfl) ?_
    refine lv_i2b hx hb dX12_say_19 rfl ?_
    refine va_bast (cA := k 75) (n := 30000) (f := (vF 75)) hx hb hK hP hD hS 76 75 (WR_get 75 (by decide)) (TR_get 75 (by decide)) (vp_in_nI (show pn < 30000 by omega) (by omega)) dX12_say_20 (fun H locs hP hD hS => ?_)
    have hP : va_P (dC, dI) vwCl (WR a k h0 vi vj (fT vF 75 (upd (vF 75) ((nI pn)).toNatClampNeg (vp_nar FieldType.byte ((cv).toInt8.toInt32)))) vG) H := by rw [← WR_F 75 (by decide) _ rfl]; exact hP
    have hD : va_D A (WR a k h0 vi vj (fT vF 75 (upd (vF 75) ((nI pn)).toNatClampNeg (vp_nar FieldType.byte ((cv).toInt8.toInt32)))) vG) := by rw [← WR_F 75 (by decide) _ rfl]; exact hD
    refine lv_aload_n hx hb dX12_say_21 rfl (lv_at hl 0 rfl) ?_
    refine lv_dup hx hb dX12_say_22 rfl ?_
    refine va_get (D := (dC, dI)) (ci := 12) (v := .int (vi 125)) (C := RX12) (T := TX12) (N := 163) (fs := fM (vS a vi vj)) hx hb hts iwsRX12_say_in12 hown hK hP 0 rfl rfl 125 (by decide) (hts (.fieldLink RX12 933 "OptimaWorksModel" "printed" "I") (by decide +kernel)) (fun _ h9 => h9) rfl dX12_say_23 ?_
    refine lv_topi (fun y3 hy3 => ?_)
    obtain rfl : (nI pn) = y3 := (hy3.trans (hpn)).symm
    refine lv_iconst (v := 1) hx hb dX12_say_26 (by decide) ?_
    refine lv_iadd hx hb dX12_say_27 ?_
    refine lv_topi (fun y4 hy4 => ?_)
    obtain rfl : (nI (pn + 1)) = y4 := (hy4.trans (nI_add pn 1)).symm
    refine va_put (D := (dC, dI)) (ci := 12) (v := .int (nI (pn + 1))) (ty := .int) (C := RX12) (T := TX12) (N := 163) (fs := fM (vS a vi vj)) hx hb hts iwsRX12_say_in12 tyX12 tyX12_ok nmX12 hown hK hP hD hS 0 rfl rfl 125 (by decide) (hts (.fieldLink RX12 933 "OptimaWorksModel" "printed" "I") (by decide +kernel)) (fun _ h9 => h9) rfl (by decide +kernel) rfl rfl (Nat.le_of_ble_eq_true rfl) dX12_say_28 (fun H locs hP hD hS => ?_)
    have hP : va_P (dC, dI) vwCl (WR a k h0 (fT vi 125 (nI (pn + 1))) vj (fT vF 75 (upd (vF 75) ((nI pn)).toNatClampNeg (vp_nar FieldType.byte ((cv).toInt8.toInt32)))) vG) H := by rw [← WR_i 125 _ rfl]; exact hP
    have hD : va_D A (WR a k h0 (fT vi 125 (nI (pn + 1))) vj (fT vF 75 (upd (vF 75) ((nI pn)).toNatClampNeg (vp_nar FieldType.byte ((cv).toInt8.toInt32)))) vG) := by rw [← WR_i 125 _ rfl]; exact hD
    refine W.widen (k := 0) (n := 0) (by decide +kernel) (by decide +kernel) ?_
    exact W.vret hx hb hr (fun t9_ ht hW => ⟨⟨((pn + 1), (upd (vF 75) ((nI pn)).toNatClampNeg (vp_nar FieldType.byte ((cv).toInt8.toInt32)))), rfl, by (try dsimp only); exact ⟨by omega, by omega, by omega⟩, by rw [ht]; exact hP, hD⟩, hS.F ht⟩) hS.2.2 dX12_say_31

theorem dX12_put_0 : decode cX12_put 0 = .ok (.bipush 24, 2) := dk_16 (by decide +kernel)
theorem dX12_put_2 : decode cX12_put 2 = .ok (.iload_n 1, 1) := dk_27 (by decide +kernel)
theorem dX12_put_3 : decode cX12_put 3 = .ok (.imul, 1) := dk_104 (by decide +kernel)
theorem dX12_put_4 : decode cX12_put 4 = .ok (.istore 4, 2) := dk_54 (by decide +kernel)
theorem dX12_put_6 : decode cX12_put 6 = .ok (.lload_n 2, 1) := dk_32 (by decide +kernel)
theorem dX12_put_7 : decode cX12_put 7 = .ok (.lconst 0, 1) := dk_9 (by decide +kernel)
theorem dX12_put_8 : decode cX12_put 8 = .ok (.lcmp, 1) := dk_148 (by decide +kernel)
theorem dX12_put_9 : decode cX12_put 9 = .ok (.ifCond .ge 8, 3) := dk_156 (by decide +kernel)
theorem dX12_put_12 : decode cX12_put 12 = .ok (.lload_n 2, 1) := dk_32 (by decide +kernel)
theorem dX12_put_13 : decode cX12_put 13 = .ok (.lneg, 1) := dk_117 (by decide +kernel)
theorem dX12_put_14 : decode cX12_put 14 = .ok (.goto 4, 3) := dk_167 (by decide +kernel)
theorem dX12_put_17 : decode cX12_put 17 = .ok (.lload_n 2, 1) := dk_32 (by decide +kernel)
theorem dX12_put_18 : decode cX12_put 18 = .ok (.lstore 5, 2) := dk_55 (by decide +kernel)
theorem dX12_put_20 : decode cX12_put 20 = .ok (.aload_n 0, 1) := dk_42 (by decide +kernel)
theorem dX12_put_21 : decode cX12_put 21 = .ok (.getfield 7, 3) := dk_180 (by decide +kernel)
theorem dX12_put_24 : decode cX12_put 24 = .ok (.iload 4, 2) := dk_21 (by decide +kernel)
theorem dX12_put_26 : decode cX12_put 26 = .ok (.lload_n 2, 1) := dk_32 (by decide +kernel)
theorem dX12_put_27 : decode cX12_put 27 = .ok (.lconst 0, 1) := dk_9 (by decide +kernel)
theorem dX12_put_28 : decode cX12_put 28 = .ok (.lcmp, 1) := dk_148 (by decide +kernel)
theorem dX12_put_29 : decode cX12_put 29 = .ok (.ifCond .ge 7, 3) := dk_156 (by decide +kernel)
theorem dX12_put_32 : decode cX12_put 32 = .ok (.iconst (-1), 1) := dk_2 (by decide +kernel)
theorem dX12_put_33 : decode cX12_put 33 = .ok (.goto 14, 3) := dk_167 (by decide +kernel)
theorem dX12_put_36 : decode cX12_put 36 = .ok (.lload_n 2, 1) := dk_32 (by decide +kernel)
theorem dX12_put_37 : decode cX12_put 37 = .ok (.lconst 0, 1) := dk_9 (by decide +kernel)
theorem dX12_put_38 : decode cX12_put 38 = .ok (.lcmp, 1) := dk_148 (by decide +kernel)
theorem dX12_put_39 : decode cX12_put 39 = .ok (.ifCond .le 7, 3) := dk_158 (by decide +kernel)
theorem dX12_put_42 : decode cX12_put 42 = .ok (.iconst 1, 1) := dk_4 (by decide +kernel)
theorem dX12_put_43 : decode cX12_put 43 = .ok (.goto 4, 3) := dk_167 (by decide +kernel)
theorem dX12_put_46 : decode cX12_put 46 = .ok (.iconst 0, 1) := dk_3 (by decide +kernel)
theorem dX12_put_47 : decode cX12_put 47 = .ok (.iastore, 1) := dk_79 (by decide +kernel)
theorem dX12_put_48 : decode cX12_put 48 = .ok (.iconst 0, 1) := dk_3 (by decide +kernel)
theorem dX12_put_49 : decode cX12_put 49 = .ok (.istore 7, 2) := dk_54 (by decide +kernel)
theorem dX12_put_51 : decode cX12_put 51 = .ok (.lload 5, 2) := dk_22 (by decide +kernel)
theorem dX12_put_53 : decode cX12_put 53 = .ok (.lconst 0, 1) := dk_9 (by decide +kernel)
theorem dX12_put_54 : decode cX12_put 54 = .ok (.lcmp, 1) := dk_148 (by decide +kernel)
theorem dX12_put_55 : decode cX12_put 55 = .ok (.ifCond .le 35, 3) := dk_158 (by decide +kernel)
theorem dX12_put_58 : decode cX12_put 58 = .ok (.aload_n 0, 1) := dk_42 (by decide +kernel)
theorem dX12_put_59 : decode cX12_put 59 = .ok (.getfield 7, 3) := dk_180 (by decide +kernel)
theorem dX12_put_62 : decode cX12_put 62 = .ok (.iload 4, 2) := dk_21 (by decide +kernel)
theorem dX12_put_64 : decode cX12_put 64 = .ok (.iconst 2, 1) := dk_5 (by decide +kernel)
theorem dX12_put_65 : decode cX12_put 65 = .ok (.iadd, 1) := dk_96 (by decide +kernel)
theorem dX12_put_66 : decode cX12_put 66 = .ok (.iload 7, 2) := dk_21 (by decide +kernel)
theorem dX12_put_68 : decode cX12_put 68 = .ok (.iadd, 1) := dk_96 (by decide +kernel)
theorem dX12_put_69 : decode cX12_put 69 = .ok (.lload 5, 2) := dk_22 (by decide +kernel)
theorem dX12_put_71 : decode cX12_put 71 = .ok (.ldc2_w 351, 3) := dk_20 (by decide +kernel)
theorem dX12_put_74 : decode cX12_put 74 = .ok (.land, 1) := dk_127 (by decide +kernel)
theorem dX12_put_75 : decode cX12_put 75 = .ok (.l2i, 1) := dk_136 (by decide +kernel)
theorem dX12_put_76 : decode cX12_put 76 = .ok (.iastore, 1) := dk_79 (by decide +kernel)
theorem dX12_put_77 : decode cX12_put 77 = .ok (.lload 5, 2) := dk_22 (by decide +kernel)
theorem dX12_put_79 : decode cX12_put 79 = .ok (.bipush 28, 2) := dk_16 (by decide +kernel)
theorem dX12_put_81 : decode cX12_put 81 = .ok (.lshr, 1) := dk_123 (by decide +kernel)
theorem dX12_put_82 : decode cX12_put 82 = .ok (.lstore 5, 2) := dk_55 (by decide +kernel)
theorem dX12_put_84 : decode cX12_put 84 = .ok (.iinc 7 1, 3) := dk_132 (by decide +kernel)
theorem dX12_put_87 : decode cX12_put 87 = .ok (.goto (-36), 3) := dk_167 (by decide +kernel)
theorem dX12_put_90 : decode cX12_put 90 = .ok (.aload_n 0, 1) := dk_42 (by decide +kernel)
theorem dX12_put_91 : decode cX12_put 91 = .ok (.getfield 7, 3) := dk_180 (by decide +kernel)
theorem dX12_put_94 : decode cX12_put 94 = .ok (.iload 4, 2) := dk_21 (by decide +kernel)
theorem dX12_put_96 : decode cX12_put 96 = .ok (.iconst 1, 1) := dk_4 (by decide +kernel)
theorem dX12_put_97 : decode cX12_put 97 = .ok (.iadd, 1) := dk_96 (by decide +kernel)
theorem dX12_put_98 : decode cX12_put 98 = .ok (.iload 7, 2) := dk_21 (by decide +kernel)
theorem dX12_put_100 : decode cX12_put 100 = .ok (.iastore, 1) := dk_79 (by decide +kernel)
theorem dX12_put_101 : decode cX12_put 101 = .ok (.return_, 1) := dk_177 (by decide +kernel)
def wsRX12_put : List Cond := .code yX12_put cX12_put 8 none :: ([.fieldLink RX12 7 "OptimaWorksModel" "big" "[I", .constantLong RX12 351 268435455] ++ wsX120)
theorem iwsRX12_put_in12 : ∀ w ∈ wsX120, w ∈ wsRX12_put := fun _ h => List.mem_cons_of_mem _ (List.mem_append_right _ h)
set_option maxHeartbeats 4000000 in
set_option maxRecDepth 100000 in
/-- put(s, v) -/
theorem r_X12_put (l : Launch) (dC : Nat → ClassId) (dI : Nat → Nat → Nat) (a : Nat → Nat) (k : Nat → ClassId) (h0 : Nat) (vi : Nat → Int32) (vj : Nat → Int64) (vF : Nat → Nat → Int32) (vG : Nat → Nat → Int64) (sn : Nat) (xv : Int64) (hs : sn < 1100) (hxv : -9223372036854775808 < xv.toInt) (sz : Nat) : Met l yX12_put wsRX12_put ({ frames := 0, cells := 0, slots := 0, locals := 0 }) (va_Pc [.ref h0, .int (nI sn), .long xv] (fun U => U.heap.size = sz ∧ va_P (dC, dI) vwCl (WR a k h0 vi vj vF vG) U.heap ∧ va_K (dC, dI) vwCl (tX12 k) U ∧ va_D (fun _ => True) (WR a k h0 vi vj vF vG))) (va_Qv (fun (u : Nat → Int32) => (Nu u sn xv.toInt) ∧ (∀ q, (q < 24 * sn ∨ 24 * sn + 24 ≤ q) → u q = vF 0 q)) (fun (u : Nat → Int32) t => va_P (dC, dI) vwCl (WR a k h0 vi vj (fT vF 0 u) vG) t.heap ∧ va_D (va_A (WR a k h0 vi vj vF vG) sz) (WR a k h0 vi vj (fT vF 0 u) vG)) (va_A (WR a k h0 vi vj vF vG) sz)) 0 0 (va_A (WR a k h0 vi vj vF vG) sz) := by
  refine Met.ofW (cc := cX12_put) (maxL := 8) (ret := none) (by decide) rfl ?_
  intro p e s m args below meth c s₁ B hml hv
  obtain ⟨rfl, hsz, hP, hK, hD0⟩ := hv
  have hx := B.exec
  have hb := B.bytes
  have hr := B.returns
  have hts := atoms_spec (ws := wsRX12_put) B.pre
  have hown : s.vm.findClass RX12 = some m.cls := findClass_of_methodNamed B.named
  have hlocks := B.notSynchronized
  subst hsz
  have hD := hD0.self (sz := s.heap.size)
  generalize hAe : va_A (WR a k h0 vi vj vF vG) s.heap.size = A at hD ⊢
  have hA : ∀ q : Nat, s.heap.size ≤ q → A q := fun q h => by rw [← hAe]; exact Or.inr h
  have hS : va_S A s.heap s.heap [] := va_S.rf
  have hl := lv_entry ([.ref h0, .int (nI sn), .long xv]) (n := 8) (Nat.le_of_ble_eq_true rfl)
  rw [lg_entry_eq]
  generalize (lg_sl ([.ref h0, .int (nI sn), .long xv]) ++ List.replicate (8 - (lg_sl ([.ref h0, .int (nI sn), .long xv])).length) Slot.unset).toArray = ls at hl ⊢
  have hl : lv_has ls 8 [(0, .ref h0), (1, .int (nI sn)), (2, .long xv)] := hl
  obtain ⟨r0, hr0⟩ : ∃ r0, r0 = xv.toInt.natAbs := ⟨_, rfl⟩
  have hxt : xv.toInt < 9223372036854775808 := Int64.toInt_lt xv
  refine lv_bipush (v := 24) hx hb dX12_put_0 (by decide) ?_
  refine lv_iload_n hx hb dX12_put_2 rfl (lv_at hl 1 rfl) ?_
  refine lv_imul hx hb dX12_put_3 ?_
  refine lv_topi (fun y1 hy1 => ?_)
  obtain rfl : (nI (24 * sn)) = y1 := (hy1.trans (pk_mul 24 sn)).symm
  refine lv_istore hx hb dX12_put_4 hl (by decide) rfl (fun ls (hl : lv_has ls _ ([(4, .int (nI (24 * sn))), (0, .ref h0), (1, .int (nI sn)), (2, .long xv)])) => ?_)
  refine lv_lload_n hx hb dX12_put_6 rfl (lv_at hl 3 rfl) ?_
  refine lv_lconst (v := 0) hx hb dX12_put_7 (by decide) ?_
  refine W.lcmp hx hb dX12_put_8 ?_
  refine lv_if_ge (tgt := 17) hx hb dX12_put_9 (by decide) (fun c_9 => ?_) (fun c_9 => ?_)
  · have t_9 : (xv).toInt ≥ 0 := toL_ge c_9 rfl (by decide)
    refine lv_lload_n hx hb dX12_put_17 rfl (lv_at hl 3 rfl) ?_
    refine lv_topl (fun y2 hy2 => ?_)
    obtain rfl : (lN r0) = y2 := (hy2.trans (by rw [hr0]; exact posL (by omega))).symm
    refine lv_lstore hx hb dX12_put_18 hl (by decide) rfl (fun ls (hl : lv_has ls _ ([(5, .long (lN r0)), (4, .int (nI (24 * sn))), (0, .ref h0), (1, .int (nI sn)), (2, .long xv)])) => ?_)
    refine lv_aload_n hx hb dX12_put_20 rfl (lv_at hl 2 rfl) ?_
    refine va_get (D := (dC, dI)) (ci := 12) (v := .ref (a 0)) (C := RX12) (T := TX12) (N := 163) (fs := fM (vS a vi vj)) hx hb hts iwsRX12_put_in12 hown hK hP 0 rfl rfl 1 (by decide) (hts (.fieldLink RX12 7 "OptimaWorksModel" "big" "[I") (by decide +kernel)) (fun _ h9 => h9) rfl dX12_put_21 ?_
    refine lv_iload hx hb dX12_put_24 (lv_at hl 1 rfl) ?_
    refine lv_lload_n hx hb dX12_put_26 rfl (lv_at hl 4 rfl) ?_
    refine lv_lconst (v := 0) hx hb dX12_put_27 (by decide) ?_
    refine W.lcmp hx hb dX12_put_28 ?_
    refine lv_if_ge (tgt := 36) hx hb dX12_put_29 (by decide) (fun c_29 => ?_) (fun c9 => False.elim (by have t9 : ¬ (xv).toInt ≥ 0 := toL_nge c9 rfl (by decide); omega))
    have t_29 : (xv).toInt ≥ 0 := toL_ge c_29 rfl (by decide)
    refine lv_lload_n hx hb dX12_put_36 rfl (lv_at hl 4 rfl) ?_
    refine lv_lconst (v := 0) hx hb dX12_put_37 (by decide) ?_
    refine W.lcmp hx hb dX12_put_38 ?_
    refine lv_if_le (tgt := 46) hx hb dX12_put_39 (by decide) (fun c_39 => ?_) (fun c_39 => ?_)
    · have t_39 : (xv).toInt ≤ 0 := toL_le c_39 rfl (by decide)
      refine lv_iconst (v := 0) hx hb dX12_put_46 (by decide) ?_
      refine va_iast (cA := k 0) (n := 26400) (f := (vF 0)) hx hb hK hP hD hS 1 0 (WR_get 0 (by decide)) (TR_get 0 (by decide)) (vp_in_nI (show (24 * sn) < 26400 by omega) (by omega)) dX12_put_47 (fun H locs hP hD hS => ?_)
      have hP : va_P (dC, dI) vwCl (WR a k h0 vi vj (fT vF 0 (upd (vF 0) ((nI (24 * sn))).toNatClampNeg 0)) vG) H := by rw [← WR_F 0 (by decide) _ rfl]; exact hP
      have hD : va_D A (WR a k h0 vi vj (fT vF 0 (upd (vF 0) ((nI (24 * sn))).toNatClampNeg 0)) vG) := by rw [← WR_F 0 (by decide) _ rfl]; exact hD
      refine lv_iconst (v := 0) hx hb dX12_put_48 (by decide) ?_
      refine lv_istore hx hb dX12_put_49 hl (by decide) rfl (fun ls (hl : lv_has ls _ ([(7, .int 0), (5, .long (lN r0)), (4, .int (nI (24 * sn))), (0, .ref h0), (1, .int (nI sn)), (2, .long xv)])) => ?_)
      have hl : lv_has _ _ ([(7, .int (nI 0)), (5, .long (lN r0)), (4, .int (nI (24 * sn))), (0, .ref h0)]) := lv_sub hl [0, 1, 2, 3] rfl
      refine (fun (loop : ∀ (n9 : Nat) (nn : Nat) (rr : Nat) (g : Nat → Int32) (H : Heap) (locs : List Loc) (ls : Array Slot), (((xv.toInt = 0 ∧ g (24 * sn) = 0) ∨ (0 < xv.toInt ∧ g (24 * sn) = 1) ∨ (xv.toInt < 0 ∧ g (24 * sn) = -1))) → (lv28 g (24 * sn + 2) nn + rr * 2 ^ (28 * nn) = r0) → (Lm g (24 * sn + 2) nn) → (rr = 0 → 0 < nn → g (24 * sn + 1 + nn) ≠ 0) → (nn ≤ 3) → (∀ q, (q < 24 * sn ∨ 24 * sn + 24 ≤ q) → g q = vF 0 q) →  (rr < n9) → va_P (dC, dI) vwCl (WR a k h0 vi vj (fT vF 0 g) vG) H → va_D A (WR a k h0 vi vj (fT vF 0 g) vG) → va_S A s.heap H locs → lv_has ls 8 [(7, .int (nI nn)), (5, .long (lN rr)), (4, .int (nI (24 * sn))), (0, .ref h0)] → W p l e _ s m _ below meth c H locs 0 0 _ (F0 m 51 ls [])) => loop (r0 + 1) 0 r0 (upd (vF 0) ((nI (24 * sn))).toNatClampNeg 0) _ _ _ (by rw [upd_at (by omega), if_pos rfl]; first | exact Or.inl ⟨by omega, rfl⟩ | exact Or.inr (Or.inl ⟨by omega, rfl⟩) | exact Or.inr (Or.inr ⟨by omega, rfl⟩)) (by simp [lv28]) (fun q hq => absurd hq (by omega)) (fun _ h9 => absurd h9 (by omega)) (by omega) (fun q hq => by rw [upd_at (by omega), if_neg (by omega)]) (by omega) hP hD hS hl) ?_
      intro n9
      induction n9 with
      | zero => intro nn rr g H locs ls hsg hlv hlm htp hnn ho hf9; exact False.elim (by omega)
      | succ n9 ih51 =>
        intro nn rr g H locs ls hsg hlv hlm htp hnn ho hf51 hP hD hS hl
        have hrb : rr < 2 ^ 63 := by (have h9 : rr * 1 ≤ rr * 2 ^ (28 * nn) := Nat.mul_le_mul_left _ (Nat.one_le_two_pow)); omega
        refine lv_lload hx hb dX12_put_51 (lv_at hl 1 rfl) ?_
        refine lv_lconst (v := 0) hx hb dX12_put_53 (by decide) ?_
        refine W.lcmp hx hb dX12_put_54 ?_
        refine lv_if_le (tgt := 90) hx hb dX12_put_55 (by decide) (fun c_55 => ?_) (fun c_55 => ?_)
        · have t_55 : ((rr : Nat) : Int) ≤ 0 := toL_le c_55 (pk_lT (by omega)) (by decide)
          refine lv_aload_n hx hb dX12_put_90 rfl (lv_at hl 3 rfl) ?_
          refine va_get (D := (dC, dI)) (ci := 12) (v := .ref (a 0)) (C := RX12) (T := TX12) (N := 163) (fs := fM (vS a vi vj)) hx hb hts iwsRX12_put_in12 hown hK hP 0 rfl rfl 1 (by decide) (hts (.fieldLink RX12 7 "OptimaWorksModel" "big" "[I") (by decide +kernel)) (fun _ h9 => h9) rfl dX12_put_91 ?_
          refine lv_iload hx hb dX12_put_94 (lv_at hl 2 rfl) ?_
          refine lv_iconst (v := 1) hx hb dX12_put_96 (by decide) ?_
          refine lv_iadd hx hb dX12_put_97 ?_
          refine lv_topi (fun y3 hy3 => ?_)
          obtain rfl : (nI ((24 * sn) + 1)) = y3 := (hy3.trans (nI_add (24 * sn) 1)).symm
          refine lv_iload hx hb dX12_put_98 (lv_at hl 0 rfl) ?_
          refine va_iast (cA := k 0) (n := 26400) (f := g) hx hb hK hP hD hS 1 0 (WR_get 0 (by decide)) (TR_get 0 (by decide)) (vp_in_nI (show ((24 * sn) + 1) < 26400 by omega) (by omega)) dX12_put_100 (fun H locs hP hD hS => ?_)
          have e9 : fT vF 0 (upd g ((nI ((24 * sn) + 1))).toNatClampNeg (nI nn)) = fT (fT vF 0 g) 0 (upd g ((nI ((24 * sn) + 1))).toNatClampNeg (nI nn)) := (fT_sm _ _ _ _).symm
          have hP : va_P (dC, dI) vwCl (WR a k h0 vi vj (fT vF 0 (upd g ((nI ((24 * sn) + 1))).toNatClampNeg (nI nn))) vG) H := by rw [e9, ← WR_F 0 (by decide) _ rfl]; exact hP
          have hD : va_D A (WR a k h0 vi vj (fT vF 0 (upd g ((nI ((24 * sn) + 1))).toNatClampNeg (nI nn))) vG) := by rw [e9, ← WR_F 0 (by decide) _ rfl]; exact hD
          clear e9
          refine W.widen (k := 0) (n := 0) (by decide +kernel) (by decide +kernel) ?_
          exact W.vret hx hb hr (fun t9_ ht hW => ⟨⟨(upd g ((nI ((24 * sn) + 1))).toNatClampNeg (nI nn)), rfl, by (try dsimp only); exact ⟨⟨nn, by omega, by rw [upd_at (by omega), if_pos rfl], fun q hq => by rw [upd_at (by omega), if_neg (by omega)]; exact hlm q hq, fun h9 => by rw [upd_at (by omega), if_neg (by omega)]; exact htp (by omega) h9, by rw [lv28_congr (g := g) (p := 24 * sn + 2) (fun q hq => by rw [upd_at (by omega), if_neg (by omega)])]; (have e8 : rr = 0 := (by omega)); rw [e8, Nat.zero_mul] at hlv; omega, by rw [upd_at (by omega), if_neg (by omega)]; exact hsg⟩, fun q hq => by rw [upd_at (by omega), if_neg (by omega)]; exact ho q hq⟩, by rw [ht]; exact hP, hD⟩, hS.F ht⟩) hS.2.2 dX12_put_101
        · have t_55 : ¬ ((rr : Nat) : Int) ≤ 0 := toL_nle c_55 (pk_lT (by omega)) (by decide)
          have hn2 : nn ≤ 2 := lv28_top (r := rr) (v := lv28 g (24 * sn + 2) nn) (by omega) (by omega)
          refine lv_aload_n hx hb dX12_put_58 rfl (lv_at hl 3 rfl) ?_
          refine va_get (D := (dC, dI)) (ci := 12) (v := .ref (a 0)) (C := RX12) (T := TX12) (N := 163) (fs := fM (vS a vi vj)) hx hb hts iwsRX12_put_in12 hown hK hP 0 rfl rfl 1 (by decide) (hts (.fieldLink RX12 7 "OptimaWorksModel" "big" "[I") (by decide +kernel)) (fun _ h9 => h9) rfl dX12_put_59 ?_
          refine lv_iload hx hb dX12_put_62 (lv_at hl 2 rfl) ?_
          refine lv_iconst (v := 2) hx hb dX12_put_64 (by decide) ?_
          refine lv_iadd hx hb dX12_put_65 ?_
          refine lv_topi (fun y4 hy4 => ?_)
          obtain rfl : (nI ((24 * sn) + 2)) = y4 := (hy4.trans (nI_add (24 * sn) 2)).symm
          refine lv_iload hx hb dX12_put_66 (lv_at hl 0 rfl) ?_
          refine lv_iadd hx hb dX12_put_68 ?_
          refine lv_topi (fun y5 hy5 => ?_)
          obtain rfl : (nI (((24 * sn) + 2) + nn)) = y5 := (hy5.trans (nI_add ((24 * sn) + 2) nn)).symm
          refine lv_lload hx hb dX12_put_69 (lv_at hl 1 rfl) ?_
          refine lv_ldc2 (v := 268435455) hx hb hown (hts (.constantLong RX12 351 268435455) (by decide +kernel)) dX12_put_71 ?_
          refine lv_land hx hb dX12_put_74 ?_
          refine lv_topl (fun y6 hy6 => ?_)
          obtain rfl : (lN (rr % 268435456)) = y6 := (hy6.trans (mask28 (by omega))).symm
          refine lv_l2i hx hb dX12_put_75 rfl ?_
          refine lv_topi (fun y7 hy7 => ?_)
          obtain rfl : (nI (rr % 268435456)) = y7 := (hy7.trans (lN_i _)).symm
          refine va_iast (cA := k 0) (n := 26400) (f := g) hx hb hK hP hD hS 1 0 (WR_get 0 (by decide)) (TR_get 0 (by decide)) (vp_in_nI (show (((24 * sn) + 2) + nn) < 26400 by omega) (by omega)) dX12_put_76 (fun H locs hP hD hS => ?_)
          have e9 : fT vF 0 (upd g ((nI (((24 * sn) + 2) + nn))).toNatClampNeg (nI (rr % 268435456))) = fT (fT vF 0 g) 0 (upd g ((nI (((24 * sn) + 2) + nn))).toNatClampNeg (nI (rr % 268435456))) := (fT_sm _ _ _ _).symm
          have hP : va_P (dC, dI) vwCl (WR a k h0 vi vj (fT vF 0 (upd g ((nI (((24 * sn) + 2) + nn))).toNatClampNeg (nI (rr % 268435456)))) vG) H := by rw [e9, ← WR_F 0 (by decide) _ rfl]; exact hP
          have hD : va_D A (WR a k h0 vi vj (fT vF 0 (upd g ((nI (((24 * sn) + 2) + nn))).toNatClampNeg (nI (rr % 268435456)))) vG) := by rw [e9, ← WR_F 0 (by decide) _ rfl]; exact hD
          clear e9
          refine lv_lload hx hb dX12_put_77 (lv_at hl 1 rfl) ?_
          refine lv_bipush (v := 28) hx hb dX12_put_79 (by decide) ?_
          refine lv_lshr hx hb dX12_put_81 rfl ?_
          refine lv_topl (fun y8 hy8 => ?_)
          obtain rfl : (lN (rr / 268435456)) = y8 := (hy8.trans (shr28 (by omega))).symm
          refine lv_lstore hx hb dX12_put_82 hl (by decide) rfl (fun ls (hl : lv_has ls _ ([(5, .long (lN (rr / 268435456))), (7, .int (nI nn)), (4, .int (nI (24 * sn))), (0, .ref h0)])) => ?_)
          refine lv_iinc (v := (nI (nn + 1))) hx hb dX12_put_84 hl (k := 1) rfl (nI_add nn 1) (by decide) rfl (fun ls (hl : lv_has ls _ ([(7, .int (nI (nn + 1))), (5, .long (lN (rr / 268435456))), (4, .int (nI (24 * sn))), (0, .ref h0)])) => ?_)
          refine lv_goto (tgt := 51) hx hb dX12_put_87 (by decide) ?_
          have hl : lv_has _ _ ([(7, .int (nI (nn + 1))), (5, .long (lN (rr / 268435456))), (4, .int (nI (24 * sn))), (0, .ref h0)]) := lv_sub hl [0, 1, 2, 3] rfl
          exact ih51 (nn + 1) (rr / 268435456) (upd g ((nI (((24 * sn) + 2) + nn))).toNatClampNeg (nI (rr % 268435456))) _ _ _ (by rw [upd_at (by omega), if_neg (by omega)]; exact hsg) (lv28_step (by omega) hlv) (fun q hq => by rw [upd_at (by omega)]; by_cases e9 : 24 * sn + 2 + q = 24 * sn + 2 + nn; (exact ⟨rr % 268435456, by omega, if_pos e9⟩); (rw [if_neg e9]; exact hlm q (by omega))) (fun h9 _ => by rw [upd_at (by omega), if_pos (by omega)]; exact nI_ne0 (by omega) (by omega)) (by omega) (fun q hq => by rw [upd_at (by omega), if_neg (by omega)]; exact ho q hq) (by omega) hP hD hS hl
    · have t_39 : ¬ (xv).toInt ≤ 0 := toL_nle c_39 rfl (by decide)
      refine lv_iconst (v := 1) hx hb dX12_put_42 (by decide) ?_
      refine lv_goto (tgt := 47) hx hb dX12_put_43 (by decide) ?_
      refine va_iast (cA := k 0) (n := 26400) (f := (vF 0)) hx hb hK hP hD hS 1 0 (WR_get 0 (by decide)) (TR_get 0 (by decide)) (vp_in_nI (show (24 * sn) < 26400 by omega) (by omega)) dX12_put_47 (fun H locs hP hD hS => ?_)
      have hP : va_P (dC, dI) vwCl (WR a k h0 vi vj (fT vF 0 (upd (vF 0) ((nI (24 * sn))).toNatClampNeg 1)) vG) H := by rw [← WR_F 0 (by decide) _ rfl]; exact hP
      have hD : va_D A (WR a k h0 vi vj (fT vF 0 (upd (vF 0) ((nI (24 * sn))).toNatClampNeg 1)) vG) := by rw [← WR_F 0 (by decide) _ rfl]; exact hD
      refine lv_iconst (v := 0) hx hb dX12_put_48 (by decide) ?_
      refine lv_istore hx hb dX12_put_49 hl (by decide) rfl (fun ls (hl : lv_has ls _ ([(7, .int 0), (5, .long (lN r0)), (4, .int (nI (24 * sn))), (0, .ref h0), (1, .int (nI sn)), (2, .long xv)])) => ?_)
      have hl : lv_has _ _ ([(7, .int (nI 0)), (5, .long (lN r0)), (4, .int (nI (24 * sn))), (0, .ref h0)]) := lv_sub hl [0, 1, 2, 3] rfl
      refine (fun (loop : ∀ (n9 : Nat) (nn : Nat) (rr : Nat) (g : Nat → Int32) (H : Heap) (locs : List Loc) (ls : Array Slot), (((xv.toInt = 0 ∧ g (24 * sn) = 0) ∨ (0 < xv.toInt ∧ g (24 * sn) = 1) ∨ (xv.toInt < 0 ∧ g (24 * sn) = -1))) → (lv28 g (24 * sn + 2) nn + rr * 2 ^ (28 * nn) = r0) → (Lm g (24 * sn + 2) nn) → (rr = 0 → 0 < nn → g (24 * sn + 1 + nn) ≠ 0) → (nn ≤ 3) → (∀ q, (q < 24 * sn ∨ 24 * sn + 24 ≤ q) → g q = vF 0 q) →  (rr < n9) → va_P (dC, dI) vwCl (WR a k h0 vi vj (fT vF 0 g) vG) H → va_D A (WR a k h0 vi vj (fT vF 0 g) vG) → va_S A s.heap H locs → lv_has ls 8 [(7, .int (nI nn)), (5, .long (lN rr)), (4, .int (nI (24 * sn))), (0, .ref h0)] → W p l e _ s m _ below meth c H locs 0 0 _ (F0 m 51 ls [])) => loop (r0 + 1) 0 r0 (upd (vF 0) ((nI (24 * sn))).toNatClampNeg 1) _ _ _ (by rw [upd_at (by omega), if_pos rfl]; first | exact Or.inl ⟨by omega, rfl⟩ | exact Or.inr (Or.inl ⟨by omega, rfl⟩) | exact Or.inr (Or.inr ⟨by omega, rfl⟩)) (by simp [lv28]) (fun q hq => absurd hq (by omega)) (fun _ h9 => absurd h9 (by omega)) (by omega) (fun q hq => by rw [upd_at (by omega), if_neg (by omega)]) (by omega) hP hD hS hl) ?_
      intro n9
      induction n9 with
      | zero => intro nn rr g H locs ls hsg hlv hlm htp hnn ho hf9; exact False.elim (by omega)
      | succ n9 ih51_1 =>
        intro nn rr g H locs ls hsg hlv hlm htp hnn ho hf51_1 hP hD hS hl
        have hrb : rr < 2 ^ 63 := by (have h9 : rr * 1 ≤ rr * 2 ^ (28 * nn) := Nat.mul_le_mul_left _ (Nat.one_le_two_pow)); omega
        refine lv_lload hx hb dX12_put_51 (lv_at hl 1 rfl) ?_
        refine lv_lconst (v := 0) hx hb dX12_put_53 (by decide) ?_
        refine W.lcmp hx hb dX12_put_54 ?_
        refine lv_if_le (tgt := 90) hx hb dX12_put_55 (by decide) (fun c_55 => ?_) (fun c_55 => ?_)
        · have t_55 : ((rr : Nat) : Int) ≤ 0 := toL_le c_55 (pk_lT (by omega)) (by decide)
          refine lv_aload_n hx hb dX12_put_90 rfl (lv_at hl 3 rfl) ?_
          refine va_get (D := (dC, dI)) (ci := 12) (v := .ref (a 0)) (C := RX12) (T := TX12) (N := 163) (fs := fM (vS a vi vj)) hx hb hts iwsRX12_put_in12 hown hK hP 0 rfl rfl 1 (by decide) (hts (.fieldLink RX12 7 "OptimaWorksModel" "big" "[I") (by decide +kernel)) (fun _ h9 => h9) rfl dX12_put_91 ?_
          refine lv_iload hx hb dX12_put_94 (lv_at hl 2 rfl) ?_
          refine lv_iconst (v := 1) hx hb dX12_put_96 (by decide) ?_
          refine lv_iadd hx hb dX12_put_97 ?_
          refine lv_topi (fun y9 hy9 => ?_)
          obtain rfl : (nI ((24 * sn) + 1)) = y9 := (hy9.trans (nI_add (24 * sn) 1)).symm
          refine lv_iload hx hb dX12_put_98 (lv_at hl 0 rfl) ?_
          refine va_iast (cA := k 0) (n := 26400) (f := g) hx hb hK hP hD hS 1 0 (WR_get 0 (by decide)) (TR_get 0 (by decide)) (vp_in_nI (show ((24 * sn) + 1) < 26400 by omega) (by omega)) dX12_put_100 (fun H locs hP hD hS => ?_)
          have e9 : fT vF 0 (upd g ((nI ((24 * sn) + 1))).toNatClampNeg (nI nn)) = fT (fT vF 0 g) 0 (upd g ((nI ((24 * sn) + 1))).toNatClampNeg (nI nn)) := (fT_sm _ _ _ _).symm
          have hP : va_P (dC, dI) vwCl (WR a k h0 vi vj (fT vF 0 (upd g ((nI ((24 * sn) + 1))).toNatClampNeg (nI nn))) vG) H := by rw [e9, ← WR_F 0 (by decide) _ rfl]; exact hP
          have hD : va_D A (WR a k h0 vi vj (fT vF 0 (upd g ((nI ((24 * sn) + 1))).toNatClampNeg (nI nn))) vG) := by rw [e9, ← WR_F 0 (by decide) _ rfl]; exact hD
          clear e9
          refine W.widen (k := 0) (n := 0) (by decide +kernel) (by decide +kernel) ?_
          exact W.vret hx hb hr (fun t9_ ht hW => ⟨⟨(upd g ((nI ((24 * sn) + 1))).toNatClampNeg (nI nn)), rfl, by (try dsimp only); exact ⟨⟨nn, by omega, by rw [upd_at (by omega), if_pos rfl], fun q hq => by rw [upd_at (by omega), if_neg (by omega)]; exact hlm q hq, fun h9 => by rw [upd_at (by omega), if_neg (by omega)]; exact htp (by omega) h9, by rw [lv28_congr (g := g) (p := 24 * sn + 2) (fun q hq => by rw [upd_at (by omega), if_neg (by omega)])]; (have e8 : rr = 0 := (by omega)); rw [e8, Nat.zero_mul] at hlv; omega, by rw [upd_at (by omega), if_neg (by omega)]; exact hsg⟩, fun q hq => by rw [upd_at (by omega), if_neg (by omega)]; exact ho q hq⟩, by rw [ht]; exact hP, hD⟩, hS.F ht⟩) hS.2.2 dX12_put_101
        · have t_55 : ¬ ((rr : Nat) : Int) ≤ 0 := toL_nle c_55 (pk_lT (by omega)) (by decide)
          have hn2 : nn ≤ 2 := lv28_top (r := rr) (v := lv28 g (24 * sn + 2) nn) (by omega) (by omega)
          refine lv_aload_n hx hb dX12_put_58 rfl (lv_at hl 3 rfl) ?_
          refine va_get (D := (dC, dI)) (ci := 12) (v := .ref (a 0)) (C := RX12) (T := TX12) (N := 163) (fs := fM (vS a vi vj)) hx hb hts iwsRX12_put_in12 hown hK hP 0 rfl rfl 1 (by decide) (hts (.fieldLink RX12 7 "OptimaWorksModel" "big" "[I") (by decide +kernel)) (fun _ h9 => h9) rfl dX12_put_59 ?_
          refine lv_iload hx hb dX12_put_62 (lv_at hl 2 rfl) ?_
          refine lv_iconst (v := 2) hx hb dX12_put_64 (by decide) ?_
          refine lv_iadd hx hb dX12_put_65 ?_
          refine lv_topi (fun y10 hy10 => ?_)
          obtain rfl : (nI ((24 * sn) + 2)) = y10 := (hy10.trans (nI_add (24 * sn) 2)).symm
          refine lv_iload hx hb dX12_put_66 (lv_at hl 0 rfl) ?_
          refine lv_iadd hx hb dX12_put_68 ?_
          refine lv_topi (fun y11 hy11 => ?_)
          obtain rfl : (nI (((24 * sn) + 2) + nn)) = y11 := (hy11.trans (nI_add ((24 * sn) + 2) nn)).symm
          refine lv_lload hx hb dX12_put_69 (lv_at hl 1 rfl) ?_
          refine lv_ldc2 (v := 268435455) hx hb hown (hts (.constantLong RX12 351 268435455) (by decide +kernel)) dX12_put_71 ?_
          refine lv_land hx hb dX12_put_74 ?_
          refine lv_topl (fun y12 hy12 => ?_)
          obtain rfl : (lN (rr % 268435456)) = y12 := (hy12.trans (mask28 (by omega))).symm
          refine lv_l2i hx hb dX12_put_75 rfl ?_
          refine lv_topi (fun y13 hy13 => ?_)
          obtain rfl : (nI (rr % 268435456)) = y13 := (hy13.trans (lN_i _)).symm
          refine va_iast (cA := k 0) (n := 26400) (f := g) hx hb hK hP hD hS 1 0 (WR_get 0 (by decide)) (TR_get 0 (by decide)) (vp_in_nI (show (((24 * sn) + 2) + nn) < 26400 by omega) (by omega)) dX12_put_76 (fun H locs hP hD hS => ?_)
          have e9 : fT vF 0 (upd g ((nI (((24 * sn) + 2) + nn))).toNatClampNeg (nI (rr % 268435456))) = fT (fT vF 0 g) 0 (upd g ((nI (((24 * sn) + 2) + nn))).toNatClampNeg (nI (rr % 268435456))) := (fT_sm _ _ _ _).symm
          have hP : va_P (dC, dI) vwCl (WR a k h0 vi vj (fT vF 0 (upd g ((nI (((24 * sn) + 2) + nn))).toNatClampNeg (nI (rr % 268435456)))) vG) H := by rw [e9, ← WR_F 0 (by decide) _ rfl]; exact hP
          have hD : va_D A (WR a k h0 vi vj (fT vF 0 (upd g ((nI (((24 * sn) + 2) + nn))).toNatClampNeg (nI (rr % 268435456)))) vG) := by rw [e9, ← WR_F 0 (by decide) _ rfl]; exact hD
          clear e9
          refine lv_lload hx hb dX12_put_77 (lv_at hl 1 rfl) ?_
          refine lv_bipush (v := 28) hx hb dX12_put_79 (by decide) ?_
          refine lv_lshr hx hb dX12_put_81 rfl ?_
          refine lv_topl (fun y14 hy14 => ?_)
          obtain rfl : (lN (rr / 268435456)) = y14 := (hy14.trans (shr28 (by omega))).symm
          refine lv_lstore hx hb dX12_put_82 hl (by decide) rfl (fun ls (hl : lv_has ls _ ([(5, .long (lN (rr / 268435456))), (7, .int (nI nn)), (4, .int (nI (24 * sn))), (0, .ref h0)])) => ?_)
          refine lv_iinc (v := (nI (nn + 1))) hx hb dX12_put_84 hl (k := 1) rfl (nI_add nn 1) (by decide) rfl (fun ls (hl : lv_has ls _ ([(7, .int (nI (nn + 1))), (5, .long (lN (rr / 268435456))), (4, .int (nI (24 * sn))), (0, .ref h0)])) => ?_)
          refine lv_goto (tgt := 51) hx hb dX12_put_87 (by decide) ?_
          have hl : lv_has _ _ ([(7, .int (nI (nn + 1))), (5, .long (lN (rr / 268435456))), (4, .int (nI (24 * sn))), (0, .ref h0)]) := lv_sub hl [0, 1, 2, 3] rfl
          exact ih51_1 (nn + 1) (rr / 268435456) (upd g ((nI (((24 * sn) + 2) + nn))).toNatClampNeg (nI (rr % 268435456))) _ _ _ (by rw [upd_at (by omega), if_neg (by omega)]; exact hsg) (lv28_step (by omega) hlv) (fun q hq => by rw [upd_at (by omega)]; by_cases e9 : 24 * sn + 2 + q = 24 * sn + 2 + nn; (exact ⟨rr % 268435456, by omega, if_pos e9⟩); (rw [if_neg e9]; exact hlm q (by omega))) (fun h9 _ => by rw [upd_at (by omega), if_pos (by omega)]; exact nI_ne0 (by omega) (by omega)) (by omega) (fun q hq => by rw [upd_at (by omega), if_neg (by omega)]; exact ho q hq) (by omega) hP hD hS hl
  · have t_9 : ¬ (xv).toInt ≥ 0 := toL_nge c_9 rfl (by decide)
    refine lv_lload_n hx hb dX12_put_12 rfl (lv_at hl 3 rfl) ?_
    refine lv_lneg hx hb dX12_put_13 ?_
    refine lv_topl (fun y15 hy15 => ?_)
    obtain rfl : (lN r0) = y15 := (hy15.trans (by rw [hr0]; exact negL (by omega) hxv)).symm
    refine lv_goto (tgt := 18) hx hb dX12_put_14 (by decide) ?_
    refine lv_lstore hx hb dX12_put_18 hl (by decide) rfl (fun ls (hl : lv_has ls _ ([(5, .long (lN r0)), (4, .int (nI (24 * sn))), (0, .ref h0), (1, .int (nI sn)), (2, .long xv)])) => ?_)
    refine lv_aload_n hx hb dX12_put_20 rfl (lv_at hl 2 rfl) ?_
    refine va_get (D := (dC, dI)) (ci := 12) (v := .ref (a 0)) (C := RX12) (T := TX12) (N := 163) (fs := fM (vS a vi vj)) hx hb hts iwsRX12_put_in12 hown hK hP 0 rfl rfl 1 (by decide) (hts (.fieldLink RX12 7 "OptimaWorksModel" "big" "[I") (by decide +kernel)) (fun _ h9 => h9) rfl dX12_put_21 ?_
    refine lv_iload hx hb dX12_put_24 (lv_at hl 1 rfl) ?_
    refine lv_lload_n hx hb dX12_put_26 rfl (lv_at hl 4 rfl) ?_
    refine lv_lconst (v := 0) hx hb dX12_put_27 (by decide) ?_
    refine W.lcmp hx hb dX12_put_28 ?_
    refine lv_if_ge (tgt := 36) hx hb dX12_put_29 (by decide) (fun c9 => False.elim (by have t9 : (xv).toInt ≥ 0 := toL_ge c9 rfl (by decide); omega)) (fun c_29 => ?_)
    have t_29 : ¬ (xv).toInt ≥ 0 := toL_nge c_29 rfl (by decide)
    refine lv_iconst (v := (-1)) hx hb dX12_put_32 (by decide) ?_
    refine lv_goto (tgt := 47) hx hb dX12_put_33 (by decide) ?_
    refine va_iast (cA := k 0) (n := 26400) (f := (vF 0)) hx hb hK hP hD hS 1 0 (WR_get 0 (by decide)) (TR_get 0 (by decide)) (vp_in_nI (show (24 * sn) < 26400 by omega) (by omega)) dX12_put_47 (fun H locs hP hD hS => ?_)
    have hP : va_P (dC, dI) vwCl (WR a k h0 vi vj (fT vF 0 (upd (vF 0) ((nI (24 * sn))).toNatClampNeg (-1))) vG) H := by rw [← WR_F 0 (by decide) _ rfl]; exact hP
    have hD : va_D A (WR a k h0 vi vj (fT vF 0 (upd (vF 0) ((nI (24 * sn))).toNatClampNeg (-1))) vG) := by rw [← WR_F 0 (by decide) _ rfl]; exact hD
    refine lv_iconst (v := 0) hx hb dX12_put_48 (by decide) ?_
    refine lv_istore hx hb dX12_put_49 hl (by decide) rfl (fun ls (hl : lv_has ls _ ([(7, .int 0), (5, .long (lN r0)), (4, .int (nI (24 * sn))), (0, .ref h0), (1, .int (nI sn)), (2, .long xv)])) => ?_)
    have hl : lv_has _ _ ([(7, .int (nI 0)), (5, .long (lN r0)), (4, .int (nI (24 * sn))), (0, .ref h0)]) := lv_sub hl [0, 1, 2, 3] rfl
    refine (fun (loop : ∀ (n9 : Nat) (nn : Nat) (rr : Nat) (g : Nat → Int32) (H : Heap) (locs : List Loc) (ls : Array Slot), (((xv.toInt = 0 ∧ g (24 * sn) = 0) ∨ (0 < xv.toInt ∧ g (24 * sn) = 1) ∨ (xv.toInt < 0 ∧ g (24 * sn) = -1))) → (lv28 g (24 * sn + 2) nn + rr * 2 ^ (28 * nn) = r0) → (Lm g (24 * sn + 2) nn) → (rr = 0 → 0 < nn → g (24 * sn + 1 + nn) ≠ 0) → (nn ≤ 3) → (∀ q, (q < 24 * sn ∨ 24 * sn + 24 ≤ q) → g q = vF 0 q) →  (rr < n9) → va_P (dC, dI) vwCl (WR a k h0 vi vj (fT vF 0 g) vG) H → va_D A (WR a k h0 vi vj (fT vF 0 g) vG) → va_S A s.heap H locs → lv_has ls 8 [(7, .int (nI nn)), (5, .long (lN rr)), (4, .int (nI (24 * sn))), (0, .ref h0)] → W p l e _ s m _ below meth c H locs 0 0 _ (F0 m 51 ls [])) => loop (r0 + 1) 0 r0 (upd (vF 0) ((nI (24 * sn))).toNatClampNeg (-1)) _ _ _ (by rw [upd_at (by omega), if_pos rfl]; first | exact Or.inl ⟨by omega, rfl⟩ | exact Or.inr (Or.inl ⟨by omega, rfl⟩) | exact Or.inr (Or.inr ⟨by omega, rfl⟩)) (by simp [lv28]) (fun q hq => absurd hq (by omega)) (fun _ h9 => absurd h9 (by omega)) (by omega) (fun q hq => by rw [upd_at (by omega), if_neg (by omega)]) (by omega) hP hD hS hl) ?_
    intro n9
    induction n9 with
    | zero => intro nn rr g H locs ls hsg hlv hlm htp hnn ho hf9; exact False.elim (by omega)
    | succ n9 ih51_2 =>
      intro nn rr g H locs ls hsg hlv hlm htp hnn ho hf51_2 hP hD hS hl
      have hrb : rr < 2 ^ 63 := by (have h9 : rr * 1 ≤ rr * 2 ^ (28 * nn) := Nat.mul_le_mul_left _ (Nat.one_le_two_pow)); omega
      refine lv_lload hx hb dX12_put_51 (lv_at hl 1 rfl) ?_
      refine lv_lconst (v := 0) hx hb dX12_put_53 (by decide) ?_
      refine W.lcmp hx hb dX12_put_54 ?_
      refine lv_if_le (tgt := 90) hx hb dX12_put_55 (by decide) (fun c_55 => ?_) (fun c_55 => ?_)
      · have t_55 : ((rr : Nat) : Int) ≤ 0 := toL_le c_55 (pk_lT (by omega)) (by decide)
        refine lv_aload_n hx hb dX12_put_90 rfl (lv_at hl 3 rfl) ?_
        refine va_get (D := (dC, dI)) (ci := 12) (v := .ref (a 0)) (C := RX12) (T := TX12) (N := 163) (fs := fM (vS a vi vj)) hx hb hts iwsRX12_put_in12 hown hK hP 0 rfl rfl 1 (by decide) (hts (.fieldLink RX12 7 "OptimaWorksModel" "big" "[I") (by decide +kernel)) (fun _ h9 => h9) rfl dX12_put_91 ?_
        refine lv_iload hx hb dX12_put_94 (lv_at hl 2 rfl) ?_
        refine lv_iconst (v := 1) hx hb dX12_put_96 (by decide) ?_
        refine lv_iadd hx hb dX12_put_97 ?_
        refine lv_topi (fun y16 hy16 => ?_)
        obtain rfl : (nI ((24 * sn) + 1)) = y16 := (hy16.trans (nI_add (24 * sn) 1)).symm
        refine lv_iload hx hb dX12_put_98 (lv_at hl 0 rfl) ?_
        refine va_iast (cA := k 0) (n := 26400) (f := g) hx hb hK hP hD hS 1 0 (WR_get 0 (by decide)) (TR_get 0 (by decide)) (vp_in_nI (show ((24 * sn) + 1) < 26400 by omega) (by omega)) dX12_put_100 (fun H locs hP hD hS => ?_)
        have e9 : fT vF 0 (upd g ((nI ((24 * sn) + 1))).toNatClampNeg (nI nn)) = fT (fT vF 0 g) 0 (upd g ((nI ((24 * sn) + 1))).toNatClampNeg (nI nn)) := (fT_sm _ _ _ _).symm
        have hP : va_P (dC, dI) vwCl (WR a k h0 vi vj (fT vF 0 (upd g ((nI ((24 * sn) + 1))).toNatClampNeg (nI nn))) vG) H := by rw [e9, ← WR_F 0 (by decide) _ rfl]; exact hP
        have hD : va_D A (WR a k h0 vi vj (fT vF 0 (upd g ((nI ((24 * sn) + 1))).toNatClampNeg (nI nn))) vG) := by rw [e9, ← WR_F 0 (by decide) _ rfl]; exact hD
        clear e9
        refine W.widen (k := 0) (n := 0) (by decide +kernel) (by decide +kernel) ?_
        exact W.vret hx hb hr (fun t9_ ht hW => ⟨⟨(upd g ((nI ((24 * sn) + 1))).toNatClampNeg (nI nn)), rfl, by (try dsimp only); exact ⟨⟨nn, by omega, by rw [upd_at (by omega), if_pos rfl], fun q hq => by rw [upd_at (by omega), if_neg (by omega)]; exact hlm q hq, fun h9 => by rw [upd_at (by omega), if_neg (by omega)]; exact htp (by omega) h9, by rw [lv28_congr (g := g) (p := 24 * sn + 2) (fun q hq => by rw [upd_at (by omega), if_neg (by omega)])]; (have e8 : rr = 0 := (by omega)); rw [e8, Nat.zero_mul] at hlv; omega, by rw [upd_at (by omega), if_neg (by omega)]; exact hsg⟩, fun q hq => by rw [upd_at (by omega), if_neg (by omega)]; exact ho q hq⟩, by rw [ht]; exact hP, hD⟩, hS.F ht⟩) hS.2.2 dX12_put_101
      · have t_55 : ¬ ((rr : Nat) : Int) ≤ 0 := toL_nle c_55 (pk_lT (by omega)) (by decide)
        have hn2 : nn ≤ 2 := lv28_top (r := rr) (v := lv28 g (24 * sn + 2) nn) (by omega) (by omega)
        refine lv_aload_n hx hb dX12_put_58 rfl (lv_at hl 3 rfl) ?_
        refine va_get (D := (dC, dI)) (ci := 12) (v := .ref (a 0)) (C := RX12) (T := TX12) (N := 163) (fs := fM (vS a vi vj)) hx hb hts iwsRX12_put_in12 hown hK hP 0 rfl rfl 1 (by decide) (hts (.fieldLink RX12 7 "OptimaWorksModel" "big" "[I") (by decide +kernel)) (fun _ h9 => h9) rfl dX12_put_59 ?_
        refine lv_iload hx hb dX12_put_62 (lv_at hl 2 rfl) ?_
        refine lv_iconst (v := 2) hx hb dX12_put_64 (by decide) ?_
        refine lv_iadd hx hb dX12_put_65 ?_
        refine lv_topi (fun y17 hy17 => ?_)
        obtain rfl : (nI ((24 * sn) + 2)) = y17 := (hy17.trans (nI_add (24 * sn) 2)).symm
        refine lv_iload hx hb dX12_put_66 (lv_at hl 0 rfl) ?_
        refine lv_iadd hx hb dX12_put_68 ?_
        refine lv_topi (fun y18 hy18 => ?_)
        obtain rfl : (nI (((24 * sn) + 2) + nn)) = y18 := (hy18.trans (nI_add ((24 * sn) + 2) nn)).symm
        refine lv_lload hx hb dX12_put_69 (lv_at hl 1 rfl) ?_
        refine lv_ldc2 (v := 268435455) hx hb hown (hts (.constantLong RX12 351 268435455) (by decide +kernel)) dX12_put_71 ?_
        refine lv_land hx hb dX12_put_74 ?_
        refine lv_topl (fun y19 hy19 => ?_)
        obtain rfl : (lN (rr % 268435456)) = y19 := (hy19.trans (mask28 (by omega))).symm
        refine lv_l2i hx hb dX12_put_75 rfl ?_
        refine lv_topi (fun y20 hy20 => ?_)
        obtain rfl : (nI (rr % 268435456)) = y20 := (hy20.trans (lN_i _)).symm
        refine va_iast (cA := k 0) (n := 26400) (f := g) hx hb hK hP hD hS 1 0 (WR_get 0 (by decide)) (TR_get 0 (by decide)) (vp_in_nI (show (((24 * sn) + 2) + nn) < 26400 by omega) (by omega)) dX12_put_76 (fun H locs hP hD hS => ?_)
        have e9 : fT vF 0 (upd g ((nI (((24 * sn) + 2) + nn))).toNatClampNeg (nI (rr % 268435456))) = fT (fT vF 0 g) 0 (upd g ((nI (((24 * sn) + 2) + nn))).toNatClampNeg (nI (rr % 268435456))) := (fT_sm _ _ _ _).symm
        have hP : va_P (dC, dI) vwCl (WR a k h0 vi vj (fT vF 0 (upd g ((nI (((24 * sn) + 2) + nn))).toNatClampNeg (nI (rr % 268435456)))) vG) H := by rw [e9, ← WR_F 0 (by decide) _ rfl]; exact hP
        have hD : va_D A (WR a k h0 vi vj (fT vF 0 (upd g ((nI (((24 * sn) + 2) + nn))).toNatClampNeg (nI (rr % 268435456)))) vG) := by rw [e9, ← WR_F 0 (by decide) _ rfl]; exact hD
        clear e9
        refine lv_lload hx hb dX12_put_77 (lv_at hl 1 rfl) ?_
        refine lv_bipush (v := 28) hx hb dX12_put_79 (by decide) ?_
        refine lv_lshr hx hb dX12_put_81 rfl ?_
        refine lv_topl (fun y21 hy21 => ?_)
        obtain rfl : (lN (rr / 268435456)) = y21 := (hy21.trans (shr28 (by omega))).symm
        refine lv_lstore hx hb dX12_put_82 hl (by decide) rfl (fun ls (hl : lv_has ls _ ([(5, .long (lN (rr / 268435456))), (7, .int (nI nn)), (4, .int (nI (24 * sn))), (0, .ref h0)])) => ?_)
        refine lv_iinc (v := (nI (nn + 1))) hx hb dX12_put_84 hl (k := 1) rfl (nI_add nn 1) (by decide) rfl (fun ls (hl : lv_has ls _ ([(7, .int (nI (nn + 1))), (5, .long (lN (rr / 268435456))), (4, .int (nI (24 * sn))), (0, .ref h0)])) => ?_)
        refine lv_goto (tgt := 51) hx hb dX12_put_87 (by decide) ?_
        have hl : lv_has _ _ ([(7, .int (nI (nn + 1))), (5, .long (lN (rr / 268435456))), (4, .int (nI (24 * sn))), (0, .ref h0)]) := lv_sub hl [0, 1, 2, 3] rfl
        exact ih51_2 (nn + 1) (rr / 268435456) (upd g ((nI (((24 * sn) + 2) + nn))).toNatClampNeg (nI (rr % 268435456))) _ _ _ (by rw [upd_at (by omega), if_neg (by omega)]; exact hsg) (lv28_step (by omega) hlv) (fun q hq => by rw [upd_at (by omega)]; by_cases e9 : 24 * sn + 2 + q = 24 * sn + 2 + nn; (exact ⟨rr % 268435456, by omega, if_pos e9⟩); (rw [if_neg e9]; exact hlm q (by omega))) (fun h9 _ => by rw [upd_at (by omega), if_pos (by omega)]; exact nI_ne0 (by omega) (by omega)) (by omega) (fun q hq => by rw [upd_at (by omega), if_neg (by omega)]; exact ho q hq) (by omega) hP hD hS hl

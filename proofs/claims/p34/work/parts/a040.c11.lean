theorem dX12_worth_0 : decode cX12_worth 0 = .ok (.aload_n 0, 1) := dk_42 (by decide +kernel)
theorem dX12_worth_1 : decode cX12_worth 1 = .ok (.getfield 7, 3) := dk_180 (by decide +kernel)
theorem dX12_worth_4 : decode cX12_worth 4 = .ok (.bipush 24, 2) := dk_16 (by decide +kernel)
theorem dX12_worth_6 : decode cX12_worth 6 = .ok (.iload_n 1, 1) := dk_27 (by decide +kernel)
theorem dX12_worth_7 : decode cX12_worth 7 = .ok (.imul, 1) := dk_104 (by decide +kernel)
theorem dX12_worth_8 : decode cX12_worth 8 = .ok (.iconst 1, 1) := dk_4 (by decide +kernel)
theorem dX12_worth_9 : decode cX12_worth 9 = .ok (.iadd, 1) := dk_96 (by decide +kernel)
theorem dX12_worth_10 : decode cX12_worth 10 = .ok (.iaload, 1) := dk_46 (by decide +kernel)
theorem dX12_worth_11 : decode cX12_worth 11 = .ok (.istore_n 2, 1) := dk_61 (by decide +kernel)
theorem dX12_worth_12 : decode cX12_worth 12 = .ok (.iload_n 2, 1) := dk_28 (by decide +kernel)
theorem dX12_worth_13 : decode cX12_worth 13 = .ok (.iconst 2, 1) := dk_5 (by decide +kernel)
theorem dX12_worth_14 : decode cX12_worth 14 = .ok (.if_icmp .le 7, 3) := dk_164 (by decide +kernel)
theorem dX12_worth_17 : decode cX12_worth 17 = .ok (.ldc2_w 422, 3) := dk_20 (by decide +kernel)
theorem dX12_worth_20 : decode cX12_worth 20 = .ok (.lreturn, 1) := dk_173 (by decide +kernel)
theorem dX12_worth_21 : decode cX12_worth 21 = .ok (.iload_n 2, 1) := dk_28 (by decide +kernel)
theorem dX12_worth_22 : decode cX12_worth 22 = .ok (.ifCond .ne 7, 3) := dk_154 (by decide +kernel)
theorem dX12_worth_25 : decode cX12_worth 25 = .ok (.lconst 0, 1) := dk_9 (by decide +kernel)
theorem dX12_worth_26 : decode cX12_worth 26 = .ok (.goto 51, 3) := dk_167 (by decide +kernel)
theorem dX12_worth_29 : decode cX12_worth 29 = .ok (.iload_n 2, 1) := dk_28 (by decide +kernel)
theorem dX12_worth_30 : decode cX12_worth 30 = .ok (.iconst 1, 1) := dk_4 (by decide +kernel)
theorem dX12_worth_31 : decode cX12_worth 31 = .ok (.if_icmp .ne 18, 3) := dk_160 (by decide +kernel)
theorem dX12_worth_34 : decode cX12_worth 34 = .ok (.aload_n 0, 1) := dk_42 (by decide +kernel)
theorem dX12_worth_35 : decode cX12_worth 35 = .ok (.getfield 7, 3) := dk_180 (by decide +kernel)
theorem dX12_worth_38 : decode cX12_worth 38 = .ok (.bipush 24, 2) := dk_16 (by decide +kernel)
theorem dX12_worth_40 : decode cX12_worth 40 = .ok (.iload_n 1, 1) := dk_27 (by decide +kernel)
theorem dX12_worth_41 : decode cX12_worth 41 = .ok (.imul, 1) := dk_104 (by decide +kernel)
theorem dX12_worth_42 : decode cX12_worth 42 = .ok (.iconst 2, 1) := dk_5 (by decide +kernel)
theorem dX12_worth_43 : decode cX12_worth 43 = .ok (.iadd, 1) := dk_96 (by decide +kernel)
theorem dX12_worth_44 : decode cX12_worth 44 = .ok (.iaload, 1) := dk_46 (by decide +kernel)
theorem dX12_worth_45 : decode cX12_worth 45 = .ok (.i2l, 1) := dk_133 (by decide +kernel)
theorem dX12_worth_46 : decode cX12_worth 46 = .ok (.goto 31, 3) := dk_167 (by decide +kernel)
theorem dX12_worth_49 : decode cX12_worth 49 = .ok (.aload_n 0, 1) := dk_42 (by decide +kernel)
theorem dX12_worth_50 : decode cX12_worth 50 = .ok (.getfield 7, 3) := dk_180 (by decide +kernel)
theorem dX12_worth_53 : decode cX12_worth 53 = .ok (.bipush 24, 2) := dk_16 (by decide +kernel)
theorem dX12_worth_55 : decode cX12_worth 55 = .ok (.iload_n 1, 1) := dk_27 (by decide +kernel)
theorem dX12_worth_56 : decode cX12_worth 56 = .ok (.imul, 1) := dk_104 (by decide +kernel)
theorem dX12_worth_57 : decode cX12_worth 57 = .ok (.iconst 3, 1) := dk_6 (by decide +kernel)
theorem dX12_worth_58 : decode cX12_worth 58 = .ok (.iadd, 1) := dk_96 (by decide +kernel)
theorem dX12_worth_59 : decode cX12_worth 59 = .ok (.iaload, 1) := dk_46 (by decide +kernel)
theorem dX12_worth_60 : decode cX12_worth 60 = .ok (.i2l, 1) := dk_133 (by decide +kernel)
theorem dX12_worth_61 : decode cX12_worth 61 = .ok (.bipush 28, 2) := dk_16 (by decide +kernel)
theorem dX12_worth_63 : decode cX12_worth 63 = .ok (.lshl, 1) := dk_121 (by decide +kernel)
theorem dX12_worth_64 : decode cX12_worth 64 = .ok (.aload_n 0, 1) := dk_42 (by decide +kernel)
theorem dX12_worth_65 : decode cX12_worth 65 = .ok (.getfield 7, 3) := dk_180 (by decide +kernel)
theorem dX12_worth_68 : decode cX12_worth 68 = .ok (.bipush 24, 2) := dk_16 (by decide +kernel)
theorem dX12_worth_70 : decode cX12_worth 70 = .ok (.iload_n 1, 1) := dk_27 (by decide +kernel)
theorem dX12_worth_71 : decode cX12_worth 71 = .ok (.imul, 1) := dk_104 (by decide +kernel)
theorem dX12_worth_72 : decode cX12_worth 72 = .ok (.iconst 2, 1) := dk_5 (by decide +kernel)
theorem dX12_worth_73 : decode cX12_worth 73 = .ok (.iadd, 1) := dk_96 (by decide +kernel)
theorem dX12_worth_74 : decode cX12_worth 74 = .ok (.iaload, 1) := dk_46 (by decide +kernel)
theorem dX12_worth_75 : decode cX12_worth 75 = .ok (.i2l, 1) := dk_133 (by decide +kernel)
theorem dX12_worth_76 : decode cX12_worth 76 = .ok (.lor, 1) := dk_129 (by decide +kernel)
theorem dX12_worth_77 : decode cX12_worth 77 = .ok (.lstore_n 3, 1) := dk_66 (by decide +kernel)
theorem dX12_worth_78 : decode cX12_worth 78 = .ok (.aload_n 0, 1) := dk_42 (by decide +kernel)
theorem dX12_worth_79 : decode cX12_worth 79 = .ok (.iload_n 1, 1) := dk_27 (by decide +kernel)
theorem dX12_worth_80 : decode cX12_worth 80 = .ok (.invokevirtual 353, 3) := dk_182 (by decide +kernel)
theorem dX12_worth_83 : decode cX12_worth 83 = .ok (.ifCond .ge 8, 3) := dk_156 (by decide +kernel)
theorem dX12_worth_86 : decode cX12_worth 86 = .ok (.lload_n 3, 1) := dk_33 (by decide +kernel)
theorem dX12_worth_87 : decode cX12_worth 87 = .ok (.lneg, 1) := dk_117 (by decide +kernel)
theorem dX12_worth_88 : decode cX12_worth 88 = .ok (.goto 4, 3) := dk_167 (by decide +kernel)
theorem dX12_worth_91 : decode cX12_worth 91 = .ok (.lload_n 3, 1) := dk_33 (by decide +kernel)
theorem dX12_worth_92 : decode cX12_worth 92 = .ok (.lreturn, 1) := dk_173 (by decide +kernel)
def wsRX12_worth : List Cond := .code yX12_worth cX12_worth 5 (some .long) :: ([.fieldLink RX12 7 "OptimaWorksModel" "big" "[I", .constantLong RX12 422 2147483648] ++ wsX120 ++ (wsV RX12 353 RX12 yX12_sign wsRX12_sign))
theorem iwsRX12_worth_in12 : ∀ w ∈ wsX120, w ∈ wsRX12_worth := fun _ h => List.mem_cons_of_mem _ (List.mem_append_left _ (List.mem_append_right _ h))
theorem gwsRX12_worth_0 : GoodIn wsRX12_worth (wsV RX12 353 RX12 yX12_sign wsRX12_sign) := goodIn_sub (fun _ h => List.mem_cons_of_mem _ (List.mem_append_right _ h)) (gdV (by decide +kernel) gdwsRX12_sign)
theorem gdwsRX12_worth : wsRX12_worth.all goodWord = true := gdC rfl (gdA (gdA (by decide +kernel : ([.fieldLink RX12 7 "OptimaWorksModel" "big" "[I", .constantLong RX12 422 2147483648] : List Cond).all goodWord = true) gdwsX120) (gdV (by decide +kernel) gdwsRX12_sign))
set_option maxHeartbeats 4000000 in
set_option maxRecDepth 100000 in
/-- worth(s) -/
theorem r_X12_worth (l : Launch) (dC : Nat → ClassId) (dI : Nat → Nat → Nat) (a : Nat → Nat) (k : Nat → ClassId) (h0 : Nat) (vi : Nat → Int32) (vj : Nat → Int64) (vF : Nat → Nat → Int32) (vG : Nat → Nat → Int64) (sn : Nat) (mg : Nat → Int) (hBg : Bg (vF 0) mg) (x : Int) (v_x : mg sn = x) (hs : sn < 1100) (sz : Nat) : Met l yX12_worth wsRX12_worth ({ frames := 1, cells := 0, slots := 0, locals := 21 }) (va_Pc [.ref h0, .int (nI sn)] (fun U => U.heap.size = sz ∧ va_P (dC, dI) vwCl (WR a k h0 vi vj vF vG) U.heap ∧ va_K (dC, dI) vwCl (tX12 k) U ∧ va_D (fun _ => True) (WR a k h0 vi vj vF vG))) (va_Ql (fun (r : Int64) (u : Unit) => (((r).toInt = x ∧ x.natAbs < 72057594037927936) ∨ ((r).toInt = 2147483648 ∧ 72057594037927936 ≤ x.natAbs))) (fun (u : Unit) t => va_P (dC, dI) vwCl (WR a k h0 vi vj vF vG) t.heap ∧ va_D (va_A (WR a k h0 vi vj vF vG) sz) (WR a k h0 vi vj vF vG)) (va_A (WR a k h0 vi vj vF vG) sz)) 0 0 (va_A (WR a k h0 vi vj vF vG) sz) := by
  refine Met.ofW (cc := cX12_worth) (maxL := 5) (ret := (some .long)) (by decide) rfl ?_
  intro p e s m args below meth c s₁ B hml hv
  obtain ⟨rfl, hsz, hP, hK, hD0⟩ := hv
  have hx := B.exec
  have hb := B.bytes
  have hr := B.returns
  have hts := atoms_spec (ws := wsRX12_worth) B.pre
  have hown : s.vm.findClass RX12 = some m.cls := findClass_of_methodNamed B.named
  have hlocks := B.notSynchronized
  subst hsz
  have hD := hD0.self (sz := s.heap.size)
  generalize hAe : va_A (WR a k h0 vi vj vF vG) s.heap.size = A at hD ⊢
  have hA : ∀ q : Nat, s.heap.size ≤ q → A q := fun q h => by rw [← hAe]; exact Or.inr h
  have hS : va_S A s.heap s.heap [] := va_S.rf
  have hl := lv_entry ([.ref h0, .int (nI sn)]) (n := 5) (Nat.le_of_ble_eq_true rfl)
  rw [lg_entry_eq]
  generalize (lg_sl ([.ref h0, .int (nI sn)]) ++ List.replicate (5 - (lg_sl ([.ref h0, .int (nI sn)])).length) Slot.unset).toArray = ls at hl ⊢
  have hl : lv_has ls 5 [(0, .ref h0), (1, .int (nI sn))] := hl
  obtain ⟨na, hna1, hna2, hna3, hna4, hna5, hna6⟩ := hBg sn hs
  rw [v_x] at hna5 hna6
  refine lv_aload_n hx hb dX12_worth_0 rfl (lv_at hl 0 rfl) ?_
  refine va_get (D := (dC, dI)) (ci := 12) (v := .ref (a 0)) (C := RX12) (T := TX12) (N := 163) (fs := fM (vS a vi vj)) hx hb hts iwsRX12_worth_in12 hown hK hP 0 rfl rfl 1 (by decide) (hts (.fieldLink RX12 7 "OptimaWorksModel" "big" "[I") (by decide +kernel)) (fun _ h9 => h9) rfl dX12_worth_1 ?_
  refine lv_bipush (v := 24) hx hb dX12_worth_4 (by decide) ?_
  refine lv_iload_n hx hb dX12_worth_6 rfl (lv_at hl 1 rfl) ?_
  refine lv_imul hx hb dX12_worth_7 ?_
  refine lv_topi (fun y1 hy1 => ?_)
  obtain rfl : (nI (24 * sn)) = y1 := (hy1.trans (pk_mul 24 sn)).symm
  refine lv_iconst (v := 1) hx hb dX12_worth_8 (by decide) ?_
  refine lv_iadd hx hb dX12_worth_9 ?_
  refine lv_topi (fun y2 hy2 => ?_)
  obtain rfl : (nI ((24 * sn) + 1)) = y2 := (hy2.trans (nI_add (24 * sn) 1)).symm
  refine va_iald (cA := k 0) (n := 26400) (f := (vF 0)) hx hb hK hP 1 0 (WR_get 0 (by decide)) (TR_get 0 (by decide)) (vp_in_nI (show ((24 * sn) + 1) < 26400 by omega) (by omega)) dX12_worth_10 ?_
  refine lv_topi (fun y3 hy3 => ?_)
  obtain rfl : ((vF 0) ((24 * sn) + 1)) = y3 := (hy3.trans (by rw [nI_clamp (by omega)])).symm
  refine lv_topi (fun y4 hy4 => ?_)
  obtain rfl : (nI na) = y4 := (hy4.trans (hna2)).symm
  refine lv_istore_n hx hb dX12_worth_11 rfl hl (by decide) rfl (fun ls (hl : lv_has ls _ ([(2, .int (nI na)), (0, .ref h0), (1, .int (nI sn))])) => ?_)
  refine lv_iload_n hx hb dX12_worth_12 rfl (lv_at hl 0 rfl) ?_
  refine lv_iconst (v := 2) hx hb dX12_worth_13 (by decide) ?_
  refine lv_icmp_le (tgt := 21) hx hb dX12_worth_14 (by decide) (fun c_14 => ?_) (fun c_14 => ?_)
  · have t_14 : ((na : Nat) : Int) ≤ 2 := toI_le c_14 (nI_toInt (by omega)) (by decide)
    refine lv_iload_n hx hb dX12_worth_21 rfl (lv_at hl 0 rfl) ?_
    refine lv_if_ne (tgt := 29) hx hb dX12_worth_22 (by decide) (fun c_22 => ?_) (fun c_22 => ?_)
    · have t_22 : ((na : Nat) : Int) ≠ 0 := toI_ne c_22 (nI_toInt (by omega)) (by decide)
      refine lv_iload_n hx hb dX12_worth_29 rfl (lv_at hl 0 rfl) ?_
      refine lv_iconst (v := 1) hx hb dX12_worth_30 (by decide) ?_
      refine lv_icmp_ne (tgt := 49) hx hb dX12_worth_31 (by decide) (fun c_31 => ?_) (fun c_31 => ?_)
      · have t_31 : ((na : Nat) : Int) ≠ 1 := toI_ne c_31 (nI_toInt (by omega)) (by decide)
        obtain ⟨l0, hl0, el0⟩ := hna3 0 (by omega)
        obtain ⟨l1, hl1, el1⟩ := hna3 1 (by omega)
        refine lv_aload_n hx hb dX12_worth_49 rfl (lv_at hl 1 rfl) ?_
        refine va_get (D := (dC, dI)) (ci := 12) (v := .ref (a 0)) (C := RX12) (T := TX12) (N := 163) (fs := fM (vS a vi vj)) hx hb hts iwsRX12_worth_in12 hown hK hP 0 rfl rfl 1 (by decide) (hts (.fieldLink RX12 7 "OptimaWorksModel" "big" "[I") (by decide +kernel)) (fun _ h9 => h9) rfl dX12_worth_50 ?_
        refine lv_bipush (v := 24) hx hb dX12_worth_53 (by decide) ?_
        refine lv_iload_n hx hb dX12_worth_55 rfl (lv_at hl 2 rfl) ?_
        refine lv_imul hx hb dX12_worth_56 ?_
        refine lv_topi (fun y5 hy5 => ?_)
        obtain rfl : (nI (24 * sn)) = y5 := (hy5.trans (pk_mul 24 sn)).symm
        refine lv_iconst (v := 3) hx hb dX12_worth_57 (by decide) ?_
        refine lv_iadd hx hb dX12_worth_58 ?_
        refine lv_topi (fun y6 hy6 => ?_)
        obtain rfl : (nI ((24 * sn) + 3)) = y6 := (hy6.trans (nI_add (24 * sn) 3)).symm
        refine va_iald (cA := k 0) (n := 26400) (f := (vF 0)) hx hb hK hP 1 0 (WR_get 0 (by decide)) (TR_get 0 (by decide)) (vp_in_nI (show ((24 * sn) + 3) < 26400 by omega) (by omega)) dX12_worth_59 ?_
        refine lv_topi (fun y7 hy7 => ?_)
        obtain rfl : ((vF 0) ((24 * sn) + 3)) = y7 := (hy7.trans (by rw [nI_clamp (by omega)])).symm
        refine lv_topi (fun y8 hy8 => ?_)
        obtain rfl : (nI l1) = y8 := (hy8.trans (el1)).symm
        refine lv_i2l hx hb dX12_worth_60 rfl ?_
        refine lv_topl (fun y9 hy9 => ?_)
        obtain rfl : (lN l1) = y9 := (hy9.trans (nI_l (by omega))).symm
        refine lv_bipush (v := 28) hx hb dX12_worth_61 (by decide) ?_
        refine lv_lshl hx hb dX12_worth_63 rfl ?_
        refine lv_aload_n hx hb dX12_worth_64 rfl (lv_at hl 1 rfl) ?_
        refine va_get (D := (dC, dI)) (ci := 12) (v := .ref (a 0)) (C := RX12) (T := TX12) (N := 163) (fs := fM (vS a vi vj)) hx hb hts iwsRX12_worth_in12 hown hK hP 0 rfl rfl 1 (by decide) (hts (.fieldLink RX12 7 "OptimaWorksModel" "big" "[I") (by decide +kernel)) (fun _ h9 => h9) rfl dX12_worth_65 ?_
        refine lv_bipush (v := 24) hx hb dX12_worth_68 (by decide) ?_
        refine lv_iload_n hx hb dX12_worth_70 rfl (lv_at hl 2 rfl) ?_
        refine lv_imul hx hb dX12_worth_71 ?_
        refine lv_topi (fun y10 hy10 => ?_)
        obtain rfl : (nI (24 * sn)) = y10 := (hy10.trans (pk_mul 24 sn)).symm
        refine lv_iconst (v := 2) hx hb dX12_worth_72 (by decide) ?_
        refine lv_iadd hx hb dX12_worth_73 ?_
        refine lv_topi (fun y11 hy11 => ?_)
        obtain rfl : (nI ((24 * sn) + 2)) = y11 := (hy11.trans (nI_add (24 * sn) 2)).symm
        refine va_iald (cA := k 0) (n := 26400) (f := (vF 0)) hx hb hK hP 1 0 (WR_get 0 (by decide)) (TR_get 0 (by decide)) (vp_in_nI (show ((24 * sn) + 2) < 26400 by omega) (by omega)) dX12_worth_74 ?_
        refine lv_topi (fun y12 hy12 => ?_)
        obtain rfl : ((vF 0) ((24 * sn) + 2)) = y12 := (hy12.trans (by rw [nI_clamp (by omega)])).symm
        refine lv_topi (fun y13 hy13 => ?_)
        obtain rfl : (nI l0) = y13 := (hy13.trans (el0)).symm
        refine lv_i2l hx hb dX12_worth_75 rfl ?_
        refine lv_topl (fun y14 hy14 => ?_)
        obtain rfl : (lN l0) = y14 := (hy14.trans (nI_l (by omega))).symm
        refine lv_lor hx hb dX12_worth_76 ?_
        refine lv_topl (fun y15 hy15 => ?_)
        obtain rfl : (lN (l1 * 268435456 + l0)) = y15 := (hy15.trans (lor28 (by omega) (by omega))).symm
        have hlt : x.natAbs < 72057594037927936 := by rw [hna5]; exact limbs_lt (k := 2) hna3 (by omega)
        refine lv_topl (fun y16 hy16 => ?_)
        obtain rfl : (lN x.natAbs) = y16 := (hy16.trans (by rw [hna5, show na = 2 by omega]; simp only [lv28]; rw [el0, el1, nI_clamp (by omega), nI_clamp (by omega)]; congr 1; omega)).symm
        refine lv_lstore_n hx hb dX12_worth_77 rfl hl (by decide) rfl (fun ls (hl : lv_has ls _ ([(3, .long (lN x.natAbs)), (2, .int (nI na)), (0, .ref h0), (1, .int (nI sn))])) => ?_)
        refine lv_aload_n hx hb dX12_worth_78 rfl (lv_at hl 2 rfl) ?_
        refine lv_iload_n hx hb dX12_worth_79 rfl (lv_at hl 3 rfl) ?_
        have hFc := allFree hD hS hA
        refine va_calli (va_runV (As := [.int (nI sn)]) (rest := []) ⟨hx, hb, hml, hown, hts⟩ (b_X12_sign l dC dI a k h0 vi vj vF vG sn mg hBg x (by rw [v_x]) (by first | assumption | decide | omega | rfl) s.heap.size) (cwV 1 hts gwsRX12_worth_0 rfl rfl rfl (by decide +kernel) ⟨by decide +kernel, by decide +kernel⟩) ⟨fun a U g mk q => by obtain ⟨q0, q1, qP, qK, qD⟩ := q; exact ⟨q0, q1, qP, va_K.moved (u := U) (U := U.calling g mk a) (Vm.Alike.refl U.vm) qK, qD⟩, va_recv hK hP (ci := 12) (q0 := 0) rfl rfl, fun U hU9 hW => ⟨rfl, by rw [hU9], by rw [hU9]; exact hP, va_K.moved hW.alike hK, hD.weaken (fun _ _ _ _ => trivial)⟩⟩ rfl rfl hl.1 rfl (lv_room (Nat.le_of_ble_eq_true rfl)) dX12_worth_80 ⟨by decide +kernel, by decide +kernel⟩) hS (fun q _ h => hFc q h) hFc (fun r80 u t9_ H1 locs ht hvm hw9 hB9 hz1 hk1 hS => ?_)
        obtain ⟨hP1, hD1⟩ := hB9
        rw [ht] at hP1
        have hP := hP1
        have hD := hD1.weaken (fun _ q _ h => hFc q.1 h)
        generalize H1 = H at hP hS ⊢
        have hP : va_P (dC, dI) vwCl (WR a k h0 vi vj vF vG) H := hP
        have hD : va_D A (WR a k h0 vi vj vF vG) := hD
        have f80_0 := hw9
        try dsimp only at f80_0
        refine lv_if_ge (tgt := 91) hx hb dX12_worth_83 (by decide) (fun c_83 => ?_) (fun c_83 => ?_)
        · have t_83 : (r80).toInt ≥ 0 := toI_ge c_83 rfl (by decide)
          refine lv_lload_n hx hb dX12_worth_91 rfl (lv_at hl 0 rfl) ?_
          refine W.widen (k := 0) (n := 0) (by decide +kernel) (by decide +kernel) ?_
          exact W.lret (v := (lN x.natAbs)) hx hb hr (fun t9_ ht hW => ⟨⟨(lN x.natAbs), (), rfl, by (try dsimp only); exact Or.inl ⟨by rw [pk_lT (by omega)]; omega, hlt⟩, by rw [ht]; exact hP, hD⟩, hS.F ht⟩) hS.2.2 dX12_worth_92
        · have t_83 : ¬ (r80).toInt ≥ 0 := toI_nge c_83 rfl (by decide)
          refine lv_lload_n hx hb dX12_worth_86 rfl (lv_at hl 0 rfl) ?_
          refine lv_lneg hx hb dX12_worth_87 ?_
          refine lv_goto (tgt := 92) hx hb dX12_worth_88 (by decide) ?_
          refine W.widen (k := 0) (n := 0) (by decide +kernel) (by decide +kernel) ?_
          exact W.lret (v := (-(lN x.natAbs))) hx hb hr (fun t9_ ht hW => ⟨⟨(-(lN x.natAbs)), (), rfl, by (try dsimp only); exact Or.inl ⟨by rw [Int64.toInt_neg, pk_lT (by omega), Int.bmod_eq_of_le (by omega) (by omega)]; omega, hlt⟩, by rw [ht]; exact hP, hD⟩, hS.F ht⟩) hS.2.2 dX12_worth_92
      · have t_31 : ((na : Nat) : Int) = 1 := toI_nne c_31 (nI_toInt (by omega)) (by decide)
        obtain ⟨l0, hl0, el0⟩ := hna3 0 (by omega)
        refine lv_aload_n hx hb dX12_worth_34 rfl (lv_at hl 1 rfl) ?_
        refine va_get (D := (dC, dI)) (ci := 12) (v := .ref (a 0)) (C := RX12) (T := TX12) (N := 163) (fs := fM (vS a vi vj)) hx hb hts iwsRX12_worth_in12 hown hK hP 0 rfl rfl 1 (by decide) (hts (.fieldLink RX12 7 "OptimaWorksModel" "big" "[I") (by decide +kernel)) (fun _ h9 => h9) rfl dX12_worth_35 ?_
        refine lv_bipush (v := 24) hx hb dX12_worth_38 (by decide) ?_
        refine lv_iload_n hx hb dX12_worth_40 rfl (lv_at hl 2 rfl) ?_
        refine lv_imul hx hb dX12_worth_41 ?_
        refine lv_topi (fun y17 hy17 => ?_)
        obtain rfl : (nI (24 * sn)) = y17 := (hy17.trans (pk_mul 24 sn)).symm
        refine lv_iconst (v := 2) hx hb dX12_worth_42 (by decide) ?_
        refine lv_iadd hx hb dX12_worth_43 ?_
        refine lv_topi (fun y18 hy18 => ?_)
        obtain rfl : (nI ((24 * sn) + 2)) = y18 := (hy18.trans (nI_add (24 * sn) 2)).symm
        refine va_iald (cA := k 0) (n := 26400) (f := (vF 0)) hx hb hK hP 1 0 (WR_get 0 (by decide)) (TR_get 0 (by decide)) (vp_in_nI (show ((24 * sn) + 2) < 26400 by omega) (by omega)) dX12_worth_44 ?_
        refine lv_topi (fun y19 hy19 => ?_)
        obtain rfl : ((vF 0) ((24 * sn) + 2)) = y19 := (hy19.trans (by rw [nI_clamp (by omega)])).symm
        refine lv_topi (fun y20 hy20 => ?_)
        obtain rfl : (nI l0) = y20 := (hy20.trans (el0)).symm
        refine lv_i2l hx hb dX12_worth_45 rfl ?_
        refine lv_topl (fun y21 hy21 => ?_)
        obtain rfl : (lN l0) = y21 := (hy21.trans (nI_l (by omega))).symm
        refine lv_goto (tgt := 77) hx hb dX12_worth_46 (by decide) ?_
        have hlt : x.natAbs < 72057594037927936 := by rw [hna5]; exact limbs_lt (k := 2) hna3 (by omega)
        refine lv_topl (fun y22 hy22 => ?_)
        obtain rfl : (lN x.natAbs) = y22 := (hy22.trans (by rw [hna5, show na = 1 by omega]; simp only [lv28]; rw [el0, nI_clamp (by omega)]; congr 1; omega)).symm
        refine lv_lstore_n hx hb dX12_worth_77 rfl hl (by decide) rfl (fun ls (hl : lv_has ls _ ([(3, .long (lN x.natAbs)), (2, .int (nI na)), (0, .ref h0), (1, .int (nI sn))])) => ?_)
        refine lv_aload_n hx hb dX12_worth_78 rfl (lv_at hl 2 rfl) ?_
        refine lv_iload_n hx hb dX12_worth_79 rfl (lv_at hl 3 rfl) ?_
        have hFc := allFree hD hS hA
        refine va_calli (va_runV (As := [.int (nI sn)]) (rest := []) ⟨hx, hb, hml, hown, hts⟩ (b_X12_sign l dC dI a k h0 vi vj vF vG sn mg hBg x (by rw [v_x]) (by first | assumption | decide | omega | rfl) s.heap.size) (cwV 1 hts gwsRX12_worth_0 rfl rfl rfl (by decide +kernel) ⟨by decide +kernel, by decide +kernel⟩) ⟨fun a U g mk q => by obtain ⟨q0, q1, qP, qK, qD⟩ := q; exact ⟨q0, q1, qP, va_K.moved (u := U) (U := U.calling g mk a) (Vm.Alike.refl U.vm) qK, qD⟩, va_recv hK hP (ci := 12) (q0 := 0) rfl rfl, fun U hU9 hW => ⟨rfl, by rw [hU9], by rw [hU9]; exact hP, va_K.moved hW.alike hK, hD.weaken (fun _ _ _ _ => trivial)⟩⟩ rfl rfl hl.1 rfl (lv_room (Nat.le_of_ble_eq_true rfl)) dX12_worth_80 ⟨by decide +kernel, by decide +kernel⟩) hS (fun q _ h => hFc q h) hFc (fun r80_1 u t9_ H1 locs ht hvm hw9 hB9 hz1 hk1 hS => ?_)
        obtain ⟨hP1, hD1⟩ := hB9
        rw [ht] at hP1
        have hP := hP1
        have hD := hD1.weaken (fun _ q _ h => hFc q.1 h)
        generalize H1 = H at hP hS ⊢
        have hP : va_P (dC, dI) vwCl (WR a k h0 vi vj vF vG) H := hP
        have hD : va_D A (WR a k h0 vi vj vF vG) := hD
        have f80_1_0 := hw9
        try dsimp only at f80_1_0
        refine lv_if_ge (tgt := 91) hx hb dX12_worth_83 (by decide) (fun c_83 => ?_) (fun c_83 => ?_)
        · have t_83 : (r80_1).toInt ≥ 0 := toI_ge c_83 rfl (by decide)
          refine lv_lload_n hx hb dX12_worth_91 rfl (lv_at hl 0 rfl) ?_
          refine W.widen (k := 0) (n := 0) (by decide +kernel) (by decide +kernel) ?_
          exact W.lret (v := (lN x.natAbs)) hx hb hr (fun t9_ ht hW => ⟨⟨(lN x.natAbs), (), rfl, by (try dsimp only); exact Or.inl ⟨by rw [pk_lT (by omega)]; omega, hlt⟩, by rw [ht]; exact hP, hD⟩, hS.F ht⟩) hS.2.2 dX12_worth_92
        · have t_83 : ¬ (r80_1).toInt ≥ 0 := toI_nge c_83 rfl (by decide)
          refine lv_lload_n hx hb dX12_worth_86 rfl (lv_at hl 0 rfl) ?_
          refine lv_lneg hx hb dX12_worth_87 ?_
          refine lv_goto (tgt := 92) hx hb dX12_worth_88 (by decide) ?_
          refine W.widen (k := 0) (n := 0) (by decide +kernel) (by decide +kernel) ?_
          exact W.lret (v := (-(lN x.natAbs))) hx hb hr (fun t9_ ht hW => ⟨⟨(-(lN x.natAbs)), (), rfl, by (try dsimp only); exact Or.inl ⟨by rw [Int64.toInt_neg, pk_lT (by omega), Int.bmod_eq_of_le (by omega) (by omega)]; omega, hlt⟩, by rw [ht]; exact hP, hD⟩, hS.F ht⟩) hS.2.2 dX12_worth_92
    · have t_22 : ((na : Nat) : Int) = 0 := toI_nne c_22 (nI_toInt (by omega)) (by decide)
      refine lv_lconst (v := 0) hx hb dX12_worth_25 (by decide) ?_
      refine lv_goto (tgt := 77) hx hb dX12_worth_26 (by decide) ?_
      have hlt : x.natAbs < 72057594037927936 := by rw [hna5]; exact limbs_lt (k := 2) hna3 (by omega)
      refine lv_topl (fun y23 hy23 => ?_)
      obtain rfl : (lN x.natAbs) = y23 := (hy23.trans (by rw [hna5, show na = 0 by omega]; rfl)).symm
      refine lv_lstore_n hx hb dX12_worth_77 rfl hl (by decide) rfl (fun ls (hl : lv_has ls _ ([(3, .long (lN x.natAbs)), (2, .int (nI na)), (0, .ref h0), (1, .int (nI sn))])) => ?_)
      refine lv_aload_n hx hb dX12_worth_78 rfl (lv_at hl 2 rfl) ?_
      refine lv_iload_n hx hb dX12_worth_79 rfl (lv_at hl 3 rfl) ?_
      have hFc := allFree hD hS hA
      refine va_calli (va_runV (As := [.int (nI sn)]) (rest := []) ⟨hx, hb, hml, hown, hts⟩ (b_X12_sign l dC dI a k h0 vi vj vF vG sn mg hBg x (by rw [v_x]) (by first | assumption | decide | omega | rfl) s.heap.size) (cwV 1 hts gwsRX12_worth_0 rfl rfl rfl (by decide +kernel) ⟨by decide +kernel, by decide +kernel⟩) ⟨fun a U g mk q => by obtain ⟨q0, q1, qP, qK, qD⟩ := q; exact ⟨q0, q1, qP, va_K.moved (u := U) (U := U.calling g mk a) (Vm.Alike.refl U.vm) qK, qD⟩, va_recv hK hP (ci := 12) (q0 := 0) rfl rfl, fun U hU9 hW => ⟨rfl, by rw [hU9], by rw [hU9]; exact hP, va_K.moved hW.alike hK, hD.weaken (fun _ _ _ _ => trivial)⟩⟩ rfl rfl hl.1 rfl (lv_room (Nat.le_of_ble_eq_true rfl)) dX12_worth_80 ⟨by decide +kernel, by decide +kernel⟩) hS (fun q _ h => hFc q h) hFc (fun r80_2 u t9_ H1 locs ht hvm hw9 hB9 hz1 hk1 hS => ?_)
      obtain ⟨hP1, hD1⟩ := hB9
      rw [ht] at hP1
      have hP := hP1
      have hD := hD1.weaken (fun _ q _ h => hFc q.1 h)
      generalize H1 = H at hP hS ⊢
      have hP : va_P (dC, dI) vwCl (WR a k h0 vi vj vF vG) H := hP
      have hD : va_D A (WR a k h0 vi vj vF vG) := hD
      have f80_2_0 := hw9
      try dsimp only at f80_2_0
      refine lv_if_ge (tgt := 91) hx hb dX12_worth_83 (by decide) (fun c_83 => ?_) (fun c_83 => ?_)
      · have t_83 : (r80_2).toInt ≥ 0 := toI_ge c_83 rfl (by decide)
        refine lv_lload_n hx hb dX12_worth_91 rfl (lv_at hl 0 rfl) ?_
        refine W.widen (k := 0) (n := 0) (by decide +kernel) (by decide +kernel) ?_
        exact W.lret (v := (lN x.natAbs)) hx hb hr (fun t9_ ht hW => ⟨⟨(lN x.natAbs), (), rfl, by (try dsimp only); exact Or.inl ⟨by rw [pk_lT (by omega)]; omega, hlt⟩, by rw [ht]; exact hP, hD⟩, hS.F ht⟩) hS.2.2 dX12_worth_92
      · have t_83 : ¬ (r80_2).toInt ≥ 0 := toI_nge c_83 rfl (by decide)
        refine lv_lload_n hx hb dX12_worth_86 rfl (lv_at hl 0 rfl) ?_
        refine lv_lneg hx hb dX12_worth_87 ?_
        refine lv_goto (tgt := 92) hx hb dX12_worth_88 (by decide) ?_
        refine W.widen (k := 0) (n := 0) (by decide +kernel) (by decide +kernel) ?_
        exact W.lret (v := (-(lN x.natAbs))) hx hb hr (fun t9_ ht hW => ⟨⟨(-(lN x.natAbs)), (), rfl, by (try dsimp only); exact Or.inl ⟨by rw [Int64.toInt_neg, pk_lT (by omega), Int.bmod_eq_of_le (by omega) (by omega)]; omega, hlt⟩, by rw [ht]; exact hP, hD⟩, hS.F ht⟩) hS.2.2 dX12_worth_92
  · have t_14 : ¬ ((na : Nat) : Int) ≤ 2 := toI_nle c_14 (nI_toInt (by omega)) (by decide)
    refine lv_ldc2 (v := 2147483648) hx hb hown (hts (.constantLong RX12 422 2147483648) (by decide +kernel)) dX12_worth_17 ?_
    refine W.widen (k := 0) (n := 0) (by decide +kernel) (by decide +kernel) ?_
    exact W.lret (v := 2147483648) hx hb hr (fun t9_ ht hW => ⟨⟨2147483648, (), rfl, by (try dsimp only); exact Or.inr ⟨by decide, worth_big (by omega) hna3 hna4 hna5⟩, by rw [ht]; exact hP, hD⟩, hS.F ht⟩) hS.2.2 dX12_worth_20
theorem dX12_small_0 : decode cX12_small 0 = .ok (.aload_n 0, 1) := dk_42 (by decide +kernel)
theorem dX12_small_1 : decode cX12_small 1 = .ok (.getfield 7, 3) := dk_180 (by decide +kernel)
theorem dX12_small_4 : decode cX12_small 4 = .ok (.bipush 24, 2) := dk_16 (by decide +kernel)
theorem dX12_small_6 : decode cX12_small 6 = .ok (.iload_n 1, 1) := dk_27 (by decide +kernel)
theorem dX12_small_7 : decode cX12_small 7 = .ok (.imul, 1) := dk_104 (by decide +kernel)
theorem dX12_small_8 : decode cX12_small 8 = .ok (.iconst 1, 1) := dk_4 (by decide +kernel)
theorem dX12_small_9 : decode cX12_small 9 = .ok (.iadd, 1) := dk_96 (by decide +kernel)
theorem dX12_small_10 : decode cX12_small 10 = .ok (.iaload, 1) := dk_46 (by decide +kernel)
theorem dX12_small_11 : decode cX12_small 11 = .ok (.istore_n 2, 1) := dk_61 (by decide +kernel)
theorem dX12_small_12 : decode cX12_small 12 = .ok (.iload_n 2, 1) := dk_28 (by decide +kernel)
theorem dX12_small_13 : decode cX12_small 13 = .ok (.ifCond .ne 7, 3) := dk_154 (by decide +kernel)
theorem dX12_small_16 : decode cX12_small 16 = .ok (.iconst 0, 1) := dk_3 (by decide +kernel)
theorem dX12_small_17 : decode cX12_small 17 = .ok (.goto 14, 3) := dk_167 (by decide +kernel)
theorem dX12_small_20 : decode cX12_small 20 = .ok (.aload_n 0, 1) := dk_42 (by decide +kernel)
theorem dX12_small_21 : decode cX12_small 21 = .ok (.getfield 7, 3) := dk_180 (by decide +kernel)
theorem dX12_small_24 : decode cX12_small 24 = .ok (.bipush 24, 2) := dk_16 (by decide +kernel)
theorem dX12_small_26 : decode cX12_small 26 = .ok (.iload_n 1, 1) := dk_27 (by decide +kernel)
theorem dX12_small_27 : decode cX12_small 27 = .ok (.imul, 1) := dk_104 (by decide +kernel)
theorem dX12_small_28 : decode cX12_small 28 = .ok (.iconst 2, 1) := dk_5 (by decide +kernel)
theorem dX12_small_29 : decode cX12_small 29 = .ok (.iadd, 1) := dk_96 (by decide +kernel)
theorem dX12_small_30 : decode cX12_small 30 = .ok (.iaload, 1) := dk_46 (by decide +kernel)
theorem dX12_small_31 : decode cX12_small 31 = .ok (.istore_n 3, 1) := dk_62 (by decide +kernel)
theorem dX12_small_32 : decode cX12_small 32 = .ok (.aload_n 0, 1) := dk_42 (by decide +kernel)
theorem dX12_small_33 : decode cX12_small 33 = .ok (.iload_n 1, 1) := dk_27 (by decide +kernel)
theorem dX12_small_34 : decode cX12_small 34 = .ok (.invokevirtual 353, 3) := dk_182 (by decide +kernel)
theorem dX12_small_37 : decode cX12_small 37 = .ok (.iload_n 3, 1) := dk_29 (by decide +kernel)
theorem dX12_small_38 : decode cX12_small 38 = .ok (.imul, 1) := dk_104 (by decide +kernel)
theorem dX12_small_39 : decode cX12_small 39 = .ok (.ireturn, 1) := dk_172 (by decide +kernel)
def wsRX12_small : List Cond := .code yX12_small cX12_small 4 (some .int) :: ([.fieldLink RX12 7 "OptimaWorksModel" "big" "[I"] ++ wsX120 ++ (wsV RX12 353 RX12 yX12_sign wsRX12_sign))
theorem iwsRX12_small_in12 : ∀ w ∈ wsX120, w ∈ wsRX12_small := fun _ h => List.mem_cons_of_mem _ (List.mem_append_left _ (List.mem_append_right _ h))
theorem gwsRX12_small_0 : GoodIn wsRX12_small (wsV RX12 353 RX12 yX12_sign wsRX12_sign) := goodIn_sub (fun _ h => List.mem_cons_of_mem _ (List.mem_append_right _ h)) (gdV (by decide +kernel) gdwsRX12_sign)
theorem gdwsRX12_small : wsRX12_small.all goodWord = true := gdC rfl (gdA (gdA (by decide +kernel : ([.fieldLink RX12 7 "OptimaWorksModel" "big" "[I"] : List Cond).all goodWord = true) gdwsX120) (gdV (by decide +kernel) gdwsRX12_sign))
set_option maxHeartbeats 4000000 in
set_option maxRecDepth 100000 in
/-- small(s) -/
theorem r_X12_small (l : Launch) (dC : Nat → ClassId) (dI : Nat → Nat → Nat) (a : Nat → Nat) (k : Nat → ClassId) (h0 : Nat) (vi : Nat → Int32) (vj : Nat → Int64) (vF : Nat → Nat → Int32) (vG : Nat → Nat → Int64) (sn : Nat) (mg : Nat → Int) (hBg : Bg (vF 0) mg) (x : Int) (v_x : mg sn = x) (hs : sn < 1100) (sz : Nat) : Met l yX12_small wsRX12_small ({ frames := 1, cells := 0, slots := 0, locals := 21 }) (va_Pc [.ref h0, .int (nI sn)] (fun U => U.heap.size = sz ∧ va_P (dC, dI) vwCl (WR a k h0 vi vj vF vG) U.heap ∧ va_K (dC, dI) vwCl (tX12 k) U ∧ va_D (fun _ => True) (WR a k h0 vi vj vF vG))) (va_Qi (fun (r : Int32) (u : Unit) => (-268435456 < (r).toInt ∧ (r).toInt < 268435456) ∧ (x.natAbs < 268435456 → (r).toInt = x)) (fun (u : Unit) t => va_P (dC, dI) vwCl (WR a k h0 vi vj vF vG) t.heap ∧ va_D (va_A (WR a k h0 vi vj vF vG) sz) (WR a k h0 vi vj vF vG)) (va_A (WR a k h0 vi vj vF vG) sz)) 0 0 (va_A (WR a k h0 vi vj vF vG) sz) := by
  refine Met.ofW (cc := cX12_small) (maxL := 4) (ret := (some .int)) (by decide) rfl ?_
  intro p e s m args below meth c s₁ B hml hv
  obtain ⟨rfl, hsz, hP, hK, hD0⟩ := hv
  have hx := B.exec
  have hb := B.bytes
  have hr := B.returns
  have hts := atoms_spec (ws := wsRX12_small) B.pre
  have hown : s.vm.findClass RX12 = some m.cls := findClass_of_methodNamed B.named
  have hlocks := B.notSynchronized
  subst hsz
  have hD := hD0.self (sz := s.heap.size)
  generalize hAe : va_A (WR a k h0 vi vj vF vG) s.heap.size = A at hD ⊢
  have hA : ∀ q : Nat, s.heap.size ≤ q → A q := fun q h => by rw [← hAe]; exact Or.inr h
  have hS : va_S A s.heap s.heap [] := va_S.rf
  have hl := lv_entry ([.ref h0, .int (nI sn)]) (n := 4) (Nat.le_of_ble_eq_true rfl)
  rw [lg_entry_eq]
  generalize (lg_sl ([.ref h0, .int (nI sn)]) ++ List.replicate (4 - (lg_sl ([.ref h0, .int (nI sn)])).length) Slot.unset).toArray = ls at hl ⊢
  have hl : lv_has ls 4 [(0, .ref h0), (1, .int (nI sn))] := hl
  obtain ⟨na, hna1, hna2, hna3, hna4, hna5, hna6⟩ := hBg sn hs
  rw [v_x] at hna5 hna6
  refine lv_aload_n hx hb dX12_small_0 rfl (lv_at hl 0 rfl) ?_
  refine va_get (D := (dC, dI)) (ci := 12) (v := .ref (a 0)) (C := RX12) (T := TX12) (N := 163) (fs := fM (vS a vi vj)) hx hb hts iwsRX12_small_in12 hown hK hP 0 rfl rfl 1 (by decide) (hts (.fieldLink RX12 7 "OptimaWorksModel" "big" "[I") (by decide +kernel)) (fun _ h9 => h9) rfl dX12_small_1 ?_
  refine lv_bipush (v := 24) hx hb dX12_small_4 (by decide) ?_
  refine lv_iload_n hx hb dX12_small_6 rfl (lv_at hl 1 rfl) ?_
  refine lv_imul hx hb dX12_small_7 ?_
  refine lv_topi (fun y1 hy1 => ?_)
  obtain rfl : (nI (24 * sn)) = y1 := (hy1.trans (pk_mul 24 sn)).symm
  refine lv_iconst (v := 1) hx hb dX12_small_8 (by decide) ?_
  refine lv_iadd hx hb dX12_small_9 ?_
  refine lv_topi (fun y2 hy2 => ?_)
  obtain rfl : (nI ((24 * sn) + 1)) = y2 := (hy2.trans (nI_add (24 * sn) 1)).symm
  refine va_iald (cA := k 0) (n := 26400) (f := (vF 0)) hx hb hK hP 1 0 (WR_get 0 (by decide)) (TR_get 0 (by decide)) (vp_in_nI (show ((24 * sn) + 1) < 26400 by omega) (by omega)) dX12_small_10 ?_
  refine lv_topi (fun y3 hy3 => ?_)
  obtain rfl : ((vF 0) ((24 * sn) + 1)) = y3 := (hy3.trans (by rw [nI_clamp (by omega)])).symm
  refine lv_topi (fun y4 hy4 => ?_)
  obtain rfl : (nI na) = y4 := (hy4.trans (hna2)).symm
  refine lv_istore_n hx hb dX12_small_11 rfl hl (by decide) rfl (fun ls (hl : lv_has ls _ ([(2, .int (nI na)), (0, .ref h0), (1, .int (nI sn))])) => ?_)
  refine lv_iload_n hx hb dX12_small_12 rfl (lv_at hl 0 rfl) ?_
  refine lv_if_ne (tgt := 20) hx hb dX12_small_13 (by decide) (fun c_13 => ?_) (fun c_13 => ?_)
  · have t_13 : ((na : Nat) : Int) ≠ 0 := toI_ne c_13 (nI_toInt (by omega)) (by decide)
    obtain ⟨l0, hl0, el0⟩ := hna3 0 (by omega)
    refine lv_aload_n hx hb dX12_small_20 rfl (lv_at hl 1 rfl) ?_
    refine va_get (D := (dC, dI)) (ci := 12) (v := .ref (a 0)) (C := RX12) (T := TX12) (N := 163) (fs := fM (vS a vi vj)) hx hb hts iwsRX12_small_in12 hown hK hP 0 rfl rfl 1 (by decide) (hts (.fieldLink RX12 7 "OptimaWorksModel" "big" "[I") (by decide +kernel)) (fun _ h9 => h9) rfl dX12_small_21 ?_
    refine lv_bipush (v := 24) hx hb dX12_small_24 (by decide) ?_
    refine lv_iload_n hx hb dX12_small_26 rfl (lv_at hl 2 rfl) ?_
    refine lv_imul hx hb dX12_small_27 ?_
    refine lv_topi (fun y5 hy5 => ?_)
    obtain rfl : (nI (24 * sn)) = y5 := (hy5.trans (pk_mul 24 sn)).symm
    refine lv_iconst (v := 2) hx hb dX12_small_28 (by decide) ?_
    refine lv_iadd hx hb dX12_small_29 ?_
    refine lv_topi (fun y6 hy6 => ?_)
    obtain rfl : (nI ((24 * sn) + 2)) = y6 := (hy6.trans (nI_add (24 * sn) 2)).symm
    refine va_iald (cA := k 0) (n := 26400) (f := (vF 0)) hx hb hK hP 1 0 (WR_get 0 (by decide)) (TR_get 0 (by decide)) (vp_in_nI (show ((24 * sn) + 2) < 26400 by omega) (by omega)) dX12_small_30 ?_
    refine lv_topi (fun y7 hy7 => ?_)
    obtain rfl : ((vF 0) ((24 * sn) + 2)) = y7 := (hy7.trans (by rw [nI_clamp (by omega)])).symm
    refine lv_topi (fun y8 hy8 => ?_)
    obtain rfl : (nI l0) = y8 := (hy8.trans (el0)).symm
    refine lv_istore_n hx hb dX12_small_31 rfl hl (by decide) rfl (fun ls (hl : lv_has ls _ ([(3, .int (nI l0)), (2, .int (nI na)), (0, .ref h0), (1, .int (nI sn))])) => ?_)
    refine lv_aload_n hx hb dX12_small_32 rfl (lv_at hl 2 rfl) ?_
    refine lv_iload_n hx hb dX12_small_33 rfl (lv_at hl 3 rfl) ?_
    have hFc := allFree hD hS hA
    refine va_calli (va_runV (As := [.int (nI sn)]) (rest := []) ⟨hx, hb, hml, hown, hts⟩ (b_X12_sign l dC dI a k h0 vi vj vF vG sn mg hBg x (by rw [v_x]) (by first | assumption | decide | omega | rfl) s.heap.size) (cwV 1 hts gwsRX12_small_0 rfl rfl rfl (by decide +kernel) ⟨by decide +kernel, by decide +kernel⟩) ⟨fun a U g mk q => by obtain ⟨q0, q1, qP, qK, qD⟩ := q; exact ⟨q0, q1, qP, va_K.moved (u := U) (U := U.calling g mk a) (Vm.Alike.refl U.vm) qK, qD⟩, va_recv hK hP (ci := 12) (q0 := 0) rfl rfl, fun U hU9 hW => ⟨rfl, by rw [hU9], by rw [hU9]; exact hP, va_K.moved hW.alike hK, hD.weaken (fun _ _ _ _ => trivial)⟩⟩ rfl rfl hl.1 rfl (lv_room (Nat.le_of_ble_eq_true rfl)) dX12_small_34 ⟨by decide +kernel, by decide +kernel⟩) hS (fun q _ h => hFc q h) hFc (fun r34 u t9_ H1 locs ht hvm hw9 hB9 hz1 hk1 hS => ?_)
    obtain ⟨hP1, hD1⟩ := hB9
    rw [ht] at hP1
    have hP := hP1
    have hD := hD1.weaken (fun _ q _ h => hFc q.1 h)
    generalize H1 = H at hP hS ⊢
    have hP : va_P (dC, dI) vwCl (WR a k h0 vi vj vF vG) H := hP
    have hD : va_D A (WR a k h0 vi vj vF vG) := hD
    have f34_0 := hw9
    try dsimp only at f34_0
    refine lv_iload_n hx hb dX12_small_37 rfl (lv_at hl 0 rfl) ?_
    refine lv_imul hx hb dX12_small_38 ?_
    refine W.widen (k := 0) (n := 0) (by decide +kernel) (by decide +kernel) ?_
    exact W.iret (v := (r34 * (nI l0))) hx hb hr (fun t9_ ht hW => ⟨⟨(r34 * (nI l0)), (), rfl, by (try dsimp only); (have e7 : (nI l0).toInt = (l0 : Int) := nI_toInt (by omega)); (have e8 : (r34 * nI l0).toInt = (r34).toInt * (nI l0).toInt := mulS3 (by omega) (by omega)); rw [e7] at e8; refine ⟨?_, fun hb => ?_⟩ <;> (try (have el := small_low (by omega) hna3 hna4 hna5 el0 hl0 hb)) <;> (have e6 : (r34).toInt = 0 ∨ (r34).toInt = 1 ∨ (r34).toInt = -1 := by omega) <;> rcases e6 with e6 | e6 | e6 <;> rw [e6] at e8 <;> omega, by rw [ht]; exact hP, hD⟩, hS.F ht⟩) hS.2.2 dX12_small_39
  · have t_13 : ((na : Nat) : Int) = 0 := toI_nne c_13 (nI_toInt (by omega)) (by decide)
    refine lv_iconst (v := 0) hx hb dX12_small_16 (by decide) ?_
    refine lv_goto (tgt := 31) hx hb dX12_small_17 (by decide) ?_
    refine lv_istore_n hx hb dX12_small_31 rfl hl (by decide) rfl (fun ls (hl : lv_has ls _ ([(3, .int 0), (2, .int (nI na)), (0, .ref h0), (1, .int (nI sn))])) => ?_)
    refine lv_aload_n hx hb dX12_small_32 rfl (lv_at hl 2 rfl) ?_
    refine lv_iload_n hx hb dX12_small_33 rfl (lv_at hl 3 rfl) ?_
    have hFc := allFree hD hS hA
    refine va_calli (va_runV (As := [.int (nI sn)]) (rest := []) ⟨hx, hb, hml, hown, hts⟩ (b_X12_sign l dC dI a k h0 vi vj vF vG sn mg hBg x (by rw [v_x]) (by first | assumption | decide | omega | rfl) s.heap.size) (cwV 1 hts gwsRX12_small_0 rfl rfl rfl (by decide +kernel) ⟨by decide +kernel, by decide +kernel⟩) ⟨fun a U g mk q => by obtain ⟨q0, q1, qP, qK, qD⟩ := q; exact ⟨q0, q1, qP, va_K.moved (u := U) (U := U.calling g mk a) (Vm.Alike.refl U.vm) qK, qD⟩, va_recv hK hP (ci := 12) (q0 := 0) rfl rfl, fun U hU9 hW => ⟨rfl, by rw [hU9], by rw [hU9]; exact hP, va_K.moved hW.alike hK, hD.weaken (fun _ _ _ _ => trivial)⟩⟩ rfl rfl hl.1 rfl (lv_room (Nat.le_of_ble_eq_true rfl)) dX12_small_34 ⟨by decide +kernel, by decide +kernel⟩) hS (fun q _ h => hFc q h) hFc (fun r34_1 u t9_ H1 locs ht hvm hw9 hB9 hz1 hk1 hS => ?_)
    obtain ⟨hP1, hD1⟩ := hB9
    rw [ht] at hP1
    have hP := hP1
    have hD := hD1.weaken (fun _ q _ h => hFc q.1 h)
    generalize H1 = H at hP hS ⊢
    have hP : va_P (dC, dI) vwCl (WR a k h0 vi vj vF vG) H := hP
    have hD : va_D A (WR a k h0 vi vj vF vG) := hD
    have f34_1_0 := hw9
    try dsimp only at f34_1_0
    refine lv_iload_n hx hb dX12_small_37 rfl (lv_at hl 0 rfl) ?_
    refine lv_imul hx hb dX12_small_38 ?_
    refine W.widen (k := 0) (n := 0) (by decide +kernel) (by decide +kernel) ?_
    exact W.iret (v := (r34_1 * 0)) hx hb hr (fun t9_ ht hW => ⟨⟨(r34_1 * 0), (), rfl, by (try dsimp only); (have x0 : x = 0 := by (have e9 : x.natAbs = 0 := by rw [hna5, show na = 0 by omega]; rfl); omega); (have e8 : (r34_1 * 0).toInt = 0 := by rw [Int32.mul_zero]; decide); exact ⟨by omega, fun _ => by omega⟩, by rw [ht]; exact hP, hD⟩, hS.F ht⟩) hS.2.2 dX12_small_39
theorem dX12_common1_0 : decode cX12_common1 0 = .ok (.lload_n 0, 1) := dk_30 (by decide +kernel)
theorem dX12_common1_1 : decode cX12_common1 1 = .ok (.lconst 0, 1) := dk_9 (by decide +kernel)
theorem dX12_common1_2 : decode cX12_common1 2 = .ok (.lcmp, 1) := dk_148 (by decide +kernel)
theorem dX12_common1_3 : decode cX12_common1 3 = .ok (.ifCond .ge 8, 3) := dk_156 (by decide +kernel)
theorem dX12_common1_6 : decode cX12_common1 6 = .ok (.lload_n 0, 1) := dk_30 (by decide +kernel)
theorem dX12_common1_7 : decode cX12_common1 7 = .ok (.lneg, 1) := dk_117 (by decide +kernel)
theorem dX12_common1_8 : decode cX12_common1 8 = .ok (.goto 4, 3) := dk_167 (by decide +kernel)
theorem dX12_common1_11 : decode cX12_common1 11 = .ok (.lload_n 0, 1) := dk_30 (by decide +kernel)
theorem dX12_common1_12 : decode cX12_common1 12 = .ok (.lstore 4, 2) := dk_55 (by decide +kernel)
theorem dX12_common1_14 : decode cX12_common1 14 = .ok (.lload_n 2, 1) := dk_32 (by decide +kernel)
theorem dX12_common1_15 : decode cX12_common1 15 = .ok (.lconst 0, 1) := dk_9 (by decide +kernel)
theorem dX12_common1_16 : decode cX12_common1 16 = .ok (.lcmp, 1) := dk_148 (by decide +kernel)
theorem dX12_common1_17 : decode cX12_common1 17 = .ok (.ifCond .ge 8, 3) := dk_156 (by decide +kernel)
theorem dX12_common1_20 : decode cX12_common1 20 = .ok (.lload_n 2, 1) := dk_32 (by decide +kernel)
theorem dX12_common1_21 : decode cX12_common1 21 = .ok (.lneg, 1) := dk_117 (by decide +kernel)
theorem dX12_common1_22 : decode cX12_common1 22 = .ok (.goto 4, 3) := dk_167 (by decide +kernel)
theorem dX12_common1_25 : decode cX12_common1 25 = .ok (.lload_n 2, 1) := dk_32 (by decide +kernel)
theorem dX12_common1_26 : decode cX12_common1 26 = .ok (.lstore 6, 2) := dk_55 (by decide +kernel)
theorem dX12_common1_28 : decode cX12_common1 28 = .ok (.lload 6, 2) := dk_22 (by decide +kernel)
theorem dX12_common1_30 : decode cX12_common1 30 = .ok (.lconst 0, 1) := dk_9 (by decide +kernel)
theorem dX12_common1_31 : decode cX12_common1 31 = .ok (.lcmp, 1) := dk_148 (by decide +kernel)
theorem dX12_common1_32 : decode cX12_common1 32 = .ok (.ifCond .le 21, 3) := dk_158 (by decide +kernel)
theorem dX12_common1_35 : decode cX12_common1 35 = .ok (.lload 4, 2) := dk_22 (by decide +kernel)
theorem dX12_common1_37 : decode cX12_common1 37 = .ok (.lload 6, 2) := dk_22 (by decide +kernel)
theorem dX12_common1_39 : decode cX12_common1 39 = .ok (.lrem, 1) := dk_113 (by decide +kernel)
theorem dX12_common1_40 : decode cX12_common1 40 = .ok (.lstore 8, 2) := dk_55 (by decide +kernel)
theorem dX12_common1_42 : decode cX12_common1 42 = .ok (.lload 6, 2) := dk_22 (by decide +kernel)
theorem dX12_common1_44 : decode cX12_common1 44 = .ok (.lstore 4, 2) := dk_55 (by decide +kernel)
theorem dX12_common1_46 : decode cX12_common1 46 = .ok (.lload 8, 2) := dk_22 (by decide +kernel)
theorem dX12_common1_48 : decode cX12_common1 48 = .ok (.lstore 6, 2) := dk_55 (by decide +kernel)
theorem dX12_common1_50 : decode cX12_common1 50 = .ok (.goto (-22), 3) := dk_167 (by decide +kernel)
theorem dX12_common1_53 : decode cX12_common1 53 = .ok (.lload 4, 2) := dk_22 (by decide +kernel)
theorem dX12_common1_55 : decode cX12_common1 55 = .ok (.lreturn, 1) := dk_173 (by decide +kernel)
def wsRX12_common1 : List Cond := .code yX12_common1 cX12_common1 10 (some .long) :: ([])
theorem gdwsRX12_common1 : wsRX12_common1.all goodWord = true := gdC rfl (by decide +kernel : ([] : List Cond).all goodWord = true)
set_option maxHeartbeats 4000000 in
set_option maxRecDepth 100000 in
/-- common1(a, b) -/
theorem r_X12_common1 (l : Launch) (dC : Nat → ClassId) (dI : Nat → Nat → Nat) (xa : Int64) (xb : Int64) (hxa : -4611686018427387904 < xa.toInt ∧ xa.toInt < 4611686018427387904) (hxb : -4611686018427387904 < xb.toInt ∧ xb.toInt < 4611686018427387904) (sz : Nat) : Met l yX12_common1 wsRX12_common1 ({ frames := 0, cells := 0, slots := 0, locals := 0 }) (va_Pc [.long xa, .long xb] (fun U => U.heap.size = sz ∧ va_P (dC, dI) vwCl [] U.heap ∧ va_K (dC, dI) vwCl [] U ∧ va_D (fun _ => True) [])) (va_Ql (fun (r : Int64) (u : Unit) => ((r).toInt = ((Int.gcd (xa).toInt (xb).toInt : Nat) : Int))) (fun (u : Unit) t => True) (va_A [] sz)) 0 0 (va_A [] sz) := by
  refine Met.ofW (cc := cX12_common1) (maxL := 10) (ret := (some .long)) (by decide) rfl ?_
  intro p e s m args below meth c s₁ B hml hv
  obtain ⟨rfl, hsz, hP, hK, hD0⟩ := hv
  have hx := B.exec
  have hb := B.bytes
  have hr := B.returns
  have hts := atoms_spec (ws := wsRX12_common1) B.pre
  have hown : s.vm.findClass RX12 = some m.cls := findClass_of_methodNamed B.named
  have hlocks := B.notSynchronized
  subst hsz
  have hD := hD0.self (sz := s.heap.size)
  generalize hAe : va_A [] s.heap.size = A at hD ⊢
  have hA : ∀ q : Nat, s.heap.size ≤ q → A q := fun q h => by rw [← hAe]; exact Or.inr h
  have hS : va_S A s.heap s.heap [] := va_S.rf
  have hl := lv_entry ([.long xa, .long xb]) (n := 10) (Nat.le_of_ble_eq_true rfl)
  rw [lg_entry_eq]
  generalize (lg_sl ([.long xa, .long xb]) ++ List.replicate (10 - (lg_sl ([.long xa, .long xb])).length) Slot.unset).toArray = ls at hl ⊢
  have hl : lv_has ls 10 [(0, .long xa), (2, .long xb)] := hl
  refine lv_lload_n hx hb dX12_common1_0 rfl (lv_at hl 0 rfl) ?_
  refine lv_lconst (v := 0) hx hb dX12_common1_1 (by decide) ?_
  refine W.lcmp hx hb dX12_common1_2 ?_
  refine lv_if_ge (tgt := 11) hx hb dX12_common1_3 (by decide) (fun c_3 => ?_) (fun c_3 => ?_)
  · have t_3 : (xa).toInt ≥ 0 := toL_ge c_3 rfl (by decide)
    refine lv_lload_n hx hb dX12_common1_11 rfl (lv_at hl 0 rfl) ?_
    obtain ⟨n1, hn1⟩ : ∃ n1, n1 = xa.toInt.natAbs := ⟨_, rfl⟩
    refine lv_topl (fun y1 hy1 => ?_)
    obtain rfl : (lN n1) = y1 := (hy1.trans (by rw [hn1]; exact posL (by omega))).symm
    refine lv_lstore hx hb dX12_common1_12 hl (by decide) rfl (fun ls (hl : lv_has ls _ ([(4, .long (lN n1)), (0, .long xa), (2, .long xb)])) => ?_)
    refine lv_lload_n hx hb dX12_common1_14 rfl (lv_at hl 2 rfl) ?_
    refine lv_lconst (v := 0) hx hb dX12_common1_15 (by decide) ?_
    refine W.lcmp hx hb dX12_common1_16 ?_
    refine lv_if_ge (tgt := 25) hx hb dX12_common1_17 (by decide) (fun c_17 => ?_) (fun c_17 => ?_)
    · have t_17 : (xb).toInt ≥ 0 := toL_ge c_17 rfl (by decide)
      refine lv_lload_n hx hb dX12_common1_25 rfl (lv_at hl 2 rfl) ?_
      obtain ⟨n2, hn2⟩ : ∃ n2, n2 = xb.toInt.natAbs := ⟨_, rfl⟩
      refine lv_topl (fun y2 hy2 => ?_)
      obtain rfl : (lN n2) = y2 := (hy2.trans (by rw [hn2]; exact posL (by omega))).symm
      refine lv_lstore hx hb dX12_common1_26 hl (by decide) rfl (fun ls (hl : lv_has ls _ ([(6, .long (lN n2)), (4, .long (lN n1)), (0, .long xa), (2, .long xb)])) => ?_)
      have hl : lv_has _ _ ([(4, .long (lN n1)), (6, .long (lN n2))]) := lv_sub hl [1, 0] rfl
      refine (fun (loop : ∀ (n9 : Nat) (x : Nat) (y : Nat) (H : Heap) (locs : List Loc) (ls : Array Slot), (Nat.gcd x y = Int.gcd xa.toInt xb.toInt) → (x < 4611686018427387904) → (y < 4611686018427387904) →  (y < n9) → va_P (dC, dI) vwCl ([]) H → va_D A ([]) → va_S A s.heap H locs → lv_has ls 10 [(4, .long (lN x)), (6, .long (lN y))] → W p l e _ s m _ below meth c H locs 0 0 _ (F0 m 28 ls [])) => loop (n2 + 1) n1 n2 _ _ _ (by rw [hn1, hn2]; rfl) (by omega) (by omega) (by omega) hP hD hS hl) ?_
      intro n9
      induction n9 with
      | zero => intro x y H locs ls hg hx6 hy6 hf9; exact False.elim (by omega)
      | succ n9 ih28 =>
        intro x y H locs ls hg hx6 hy6 hf28 hP hD hS hl
        refine lv_lload hx hb dX12_common1_28 (lv_at hl 1 rfl) ?_
        refine lv_lconst (v := 0) hx hb dX12_common1_30 (by decide) ?_
        refine W.lcmp hx hb dX12_common1_31 ?_
        refine lv_if_le (tgt := 53) hx hb dX12_common1_32 (by decide) (fun c_32 => ?_) (fun c_32 => ?_)
        · have t_32 : ((y : Nat) : Int) ≤ 0 := toL_le c_32 (pk_lT (by omega)) (by decide)
          refine lv_lload hx hb dX12_common1_53 (lv_at hl 0 rfl) ?_
          refine W.widen (k := 0) (n := 0) (by decide +kernel) (by decide +kernel) ?_
          exact W.lret (v := (lN x)) hx hb hr (fun t9_ ht hW => ⟨⟨(lN x), (), rfl, by (try dsimp only); rw [pk_lT (by omega), ← hg, show y = 0 by omega, Nat.gcd_zero_right], trivial⟩, hS.F ht⟩) hS.2.2 dX12_common1_55
        · have t_32 : ¬ ((y : Nat) : Int) ≤ 0 := toL_nle c_32 (pk_lT (by omega)) (by decide)
          refine lv_lload hx hb dX12_common1_35 (lv_at hl 0 rfl) ?_
          refine lv_lload hx hb dX12_common1_37 (lv_at hl 1 rfl) ?_
          refine lv_lrem hx hb dX12_common1_39 (by exact lN_ne0 (by omega) (by omega)) ?_
          refine lv_topl (fun y3 hy3 => ?_)
          obtain rfl : (lN (x % y)) = y3 := (hy3.trans (lN_rem (a := x) (b := y) (by omega) (by omega) (by omega))).symm
          refine lv_lstore hx hb dX12_common1_40 hl (by decide) rfl (fun ls (hl : lv_has ls _ ([(8, .long (lN (x % y))), (4, .long (lN x)), (6, .long (lN y))])) => ?_)
          refine lv_lload hx hb dX12_common1_42 (lv_at hl 2 rfl) ?_
          refine lv_lstore hx hb dX12_common1_44 hl (by decide) rfl (fun ls (hl : lv_has ls _ ([(4, .long (lN y)), (8, .long (lN (x % y))), (6, .long (lN y))])) => ?_)
          refine lv_lload hx hb dX12_common1_46 (lv_at hl 1 rfl) ?_
          refine lv_lstore hx hb dX12_common1_48 hl (by decide) rfl (fun ls (hl : lv_has ls _ ([(6, .long (lN (x % y))), (4, .long (lN y)), (8, .long (lN (x % y)))])) => ?_)
          refine lv_goto (tgt := 28) hx hb dX12_common1_50 (by decide) ?_
          have hl : lv_has _ _ ([(4, .long (lN y)), (6, .long (lN (x % y)))]) := lv_sub hl [1, 0] rfl
          exact ih28 y (x % y) _ _ _ ((gcd_stepN x y).trans hg) (by omega) (by (have h9 := Nat.mod_lt x (show 0 < y by omega)); omega) (by (have h9 := Nat.mod_lt x (show 0 < y by omega)); omega) hP hD hS hl
    · have t_17 : ¬ (xb).toInt ≥ 0 := toL_nge c_17 rfl (by decide)
      refine lv_lload_n hx hb dX12_common1_20 rfl (lv_at hl 2 rfl) ?_
      refine lv_lneg hx hb dX12_common1_21 ?_
      refine lv_goto (tgt := 26) hx hb dX12_common1_22 (by decide) ?_
      obtain ⟨n2, hn2⟩ : ∃ n2, n2 = xb.toInt.natAbs := ⟨_, rfl⟩
      refine lv_topl (fun y4 hy4 => ?_)
      obtain rfl : (lN n2) = y4 := (hy4.trans (by rw [hn2]; exact negL (by omega) (by omega))).symm
      refine lv_lstore hx hb dX12_common1_26 hl (by decide) rfl (fun ls (hl : lv_has ls _ ([(6, .long (lN n2)), (4, .long (lN n1)), (0, .long xa), (2, .long xb)])) => ?_)
      have hl : lv_has _ _ ([(4, .long (lN n1)), (6, .long (lN n2))]) := lv_sub hl [1, 0] rfl
      refine (fun (loop : ∀ (n9 : Nat) (x : Nat) (y : Nat) (H : Heap) (locs : List Loc) (ls : Array Slot), (Nat.gcd x y = Int.gcd xa.toInt xb.toInt) → (x < 4611686018427387904) → (y < 4611686018427387904) →  (y < n9) → va_P (dC, dI) vwCl ([]) H → va_D A ([]) → va_S A s.heap H locs → lv_has ls 10 [(4, .long (lN x)), (6, .long (lN y))] → W p l e _ s m _ below meth c H locs 0 0 _ (F0 m 28 ls [])) => loop (n2 + 1) n1 n2 _ _ _ (by rw [hn1, hn2]; rfl) (by omega) (by omega) (by omega) hP hD hS hl) ?_
      intro n9
      induction n9 with
      | zero => intro x y H locs ls hg hx6 hy6 hf9; exact False.elim (by omega)
      | succ n9 ih28_1 =>
        intro x y H locs ls hg hx6 hy6 hf28_1 hP hD hS hl
        refine lv_lload hx hb dX12_common1_28 (lv_at hl 1 rfl) ?_
        refine lv_lconst (v := 0) hx hb dX12_common1_30 (by decide) ?_
        refine W.lcmp hx hb dX12_common1_31 ?_
        refine lv_if_le (tgt := 53) hx hb dX12_common1_32 (by decide) (fun c_32 => ?_) (fun c_32 => ?_)
        · have t_32 : ((y : Nat) : Int) ≤ 0 := toL_le c_32 (pk_lT (by omega)) (by decide)
          refine lv_lload hx hb dX12_common1_53 (lv_at hl 0 rfl) ?_
          refine W.widen (k := 0) (n := 0) (by decide +kernel) (by decide +kernel) ?_
          exact W.lret (v := (lN x)) hx hb hr (fun t9_ ht hW => ⟨⟨(lN x), (), rfl, by (try dsimp only); rw [pk_lT (by omega), ← hg, show y = 0 by omega, Nat.gcd_zero_right], trivial⟩, hS.F ht⟩) hS.2.2 dX12_common1_55
        · have t_32 : ¬ ((y : Nat) : Int) ≤ 0 := toL_nle c_32 (pk_lT (by omega)) (by decide)
          refine lv_lload hx hb dX12_common1_35 (lv_at hl 0 rfl) ?_
          refine lv_lload hx hb dX12_common1_37 (lv_at hl 1 rfl) ?_
          refine lv_lrem hx hb dX12_common1_39 (by exact lN_ne0 (by omega) (by omega)) ?_
          refine lv_topl (fun y5 hy5 => ?_)
          obtain rfl : (lN (x % y)) = y5 := (hy5.trans (lN_rem (a := x) (b := y) (by omega) (by omega) (by omega))).symm
          refine lv_lstore hx hb dX12_common1_40 hl (by decide) rfl (fun ls (hl : lv_has ls _ ([(8, .long (lN (x % y))), (4, .long (lN x)), (6, .long (lN y))])) => ?_)
          refine lv_lload hx hb dX12_common1_42 (lv_at hl 2 rfl) ?_
          refine lv_lstore hx hb dX12_common1_44 hl (by decide) rfl (fun ls (hl : lv_has ls _ ([(4, .long (lN y)), (8, .long (lN (x % y))), (6, .long (lN y))])) => ?_)
          refine lv_lload hx hb dX12_common1_46 (lv_at hl 1 rfl) ?_
          refine lv_lstore hx hb dX12_common1_48 hl (by decide) rfl (fun ls (hl : lv_has ls _ ([(6, .long (lN (x % y))), (4, .long (lN y)), (8, .long (lN (x % y)))])) => ?_)
          refine lv_goto (tgt := 28) hx hb dX12_common1_50 (by decide) ?_
          have hl : lv_has _ _ ([(4, .long (lN y)), (6, .long (lN (x % y)))]) := lv_sub hl [1, 0] rfl
          exact ih28_1 y (x % y) _ _ _ ((gcd_stepN x y).trans hg) (by omega) (by (have h9 := Nat.mod_lt x (show 0 < y by omega)); omega) (by (have h9 := Nat.mod_lt x (show 0 < y by omega)); omega) hP hD hS hl
  · have t_3 : ¬ (xa).toInt ≥ 0 := toL_nge c_3 rfl (by decide)
    refine lv_lload_n hx hb dX12_common1_6 rfl (lv_at hl 0 rfl) ?_
    refine lv_lneg hx hb dX12_common1_7 ?_
    refine lv_goto (tgt := 12) hx hb dX12_common1_8 (by decide) ?_
    obtain ⟨n1, hn1⟩ : ∃ n1, n1 = xa.toInt.natAbs := ⟨_, rfl⟩
    refine lv_topl (fun y6 hy6 => ?_)
    obtain rfl : (lN n1) = y6 := (hy6.trans (by rw [hn1]; exact negL (by omega) (by omega))).symm
    refine lv_lstore hx hb dX12_common1_12 hl (by decide) rfl (fun ls (hl : lv_has ls _ ([(4, .long (lN n1)), (0, .long xa), (2, .long xb)])) => ?_)
    refine lv_lload_n hx hb dX12_common1_14 rfl (lv_at hl 2 rfl) ?_
    refine lv_lconst (v := 0) hx hb dX12_common1_15 (by decide) ?_
    refine W.lcmp hx hb dX12_common1_16 ?_
    refine lv_if_ge (tgt := 25) hx hb dX12_common1_17 (by decide) (fun c_17 => ?_) (fun c_17 => ?_)
    · have t_17 : (xb).toInt ≥ 0 := toL_ge c_17 rfl (by decide)
      refine lv_lload_n hx hb dX12_common1_25 rfl (lv_at hl 2 rfl) ?_
      obtain ⟨n2, hn2⟩ : ∃ n2, n2 = xb.toInt.natAbs := ⟨_, rfl⟩
      refine lv_topl (fun y7 hy7 => ?_)
      obtain rfl : (lN n2) = y7 := (hy7.trans (by rw [hn2]; exact posL (by omega))).symm
      refine lv_lstore hx hb dX12_common1_26 hl (by decide) rfl (fun ls (hl : lv_has ls _ ([(6, .long (lN n2)), (4, .long (lN n1)), (0, .long xa), (2, .long xb)])) => ?_)
      have hl : lv_has _ _ ([(4, .long (lN n1)), (6, .long (lN n2))]) := lv_sub hl [1, 0] rfl
      refine (fun (loop : ∀ (n9 : Nat) (x : Nat) (y : Nat) (H : Heap) (locs : List Loc) (ls : Array Slot), (Nat.gcd x y = Int.gcd xa.toInt xb.toInt) → (x < 4611686018427387904) → (y < 4611686018427387904) →  (y < n9) → va_P (dC, dI) vwCl ([]) H → va_D A ([]) → va_S A s.heap H locs → lv_has ls 10 [(4, .long (lN x)), (6, .long (lN y))] → W p l e _ s m _ below meth c H locs 0 0 _ (F0 m 28 ls [])) => loop (n2 + 1) n1 n2 _ _ _ (by rw [hn1, hn2]; rfl) (by omega) (by omega) (by omega) hP hD hS hl) ?_
      intro n9
      induction n9 with
      | zero => intro x y H locs ls hg hx6 hy6 hf9; exact False.elim (by omega)
      | succ n9 ih28_2 =>
        intro x y H locs ls hg hx6 hy6 hf28_2 hP hD hS hl
        refine lv_lload hx hb dX12_common1_28 (lv_at hl 1 rfl) ?_
        refine lv_lconst (v := 0) hx hb dX12_common1_30 (by decide) ?_
        refine W.lcmp hx hb dX12_common1_31 ?_
        refine lv_if_le (tgt := 53) hx hb dX12_common1_32 (by decide) (fun c_32 => ?_) (fun c_32 => ?_)
        · have t_32 : ((y : Nat) : Int) ≤ 0 := toL_le c_32 (pk_lT (by omega)) (by decide)
          refine lv_lload hx hb dX12_common1_53 (lv_at hl 0 rfl) ?_
          refine W.widen (k := 0) (n := 0) (by decide +kernel) (by decide +kernel) ?_
          exact W.lret (v := (lN x)) hx hb hr (fun t9_ ht hW => ⟨⟨(lN x), (), rfl, by (try dsimp only); rw [pk_lT (by omega), ← hg, show y = 0 by omega, Nat.gcd_zero_right], trivial⟩, hS.F ht⟩) hS.2.2 dX12_common1_55
        · have t_32 : ¬ ((y : Nat) : Int) ≤ 0 := toL_nle c_32 (pk_lT (by omega)) (by decide)
          refine lv_lload hx hb dX12_common1_35 (lv_at hl 0 rfl) ?_
          refine lv_lload hx hb dX12_common1_37 (lv_at hl 1 rfl) ?_
          refine lv_lrem hx hb dX12_common1_39 (by exact lN_ne0 (by omega) (by omega)) ?_
          refine lv_topl (fun y8 hy8 => ?_)
          obtain rfl : (lN (x % y)) = y8 := (hy8.trans (lN_rem (a := x) (b := y) (by omega) (by omega) (by omega))).symm
          refine lv_lstore hx hb dX12_common1_40 hl (by decide) rfl (fun ls (hl : lv_has ls _ ([(8, .long (lN (x % y))), (4, .long (lN x)), (6, .long (lN y))])) => ?_)
          refine lv_lload hx hb dX12_common1_42 (lv_at hl 2 rfl) ?_
          refine lv_lstore hx hb dX12_common1_44 hl (by decide) rfl (fun ls (hl : lv_has ls _ ([(4, .long (lN y)), (8, .long (lN (x % y))), (6, .long (lN y))])) => ?_)
          refine lv_lload hx hb dX12_common1_46 (lv_at hl 1 rfl) ?_
          refine lv_lstore hx hb dX12_common1_48 hl (by decide) rfl (fun ls (hl : lv_has ls _ ([(6, .long (lN (x % y))), (4, .long (lN y)), (8, .long (lN (x % y)))])) => ?_)
          refine lv_goto (tgt := 28) hx hb dX12_common1_50 (by decide) ?_
          have hl : lv_has _ _ ([(4, .long (lN y)), (6, .long (lN (x % y)))]) := lv_sub hl [1, 0] rfl
          exact ih28_2 y (x % y) _ _ _ ((gcd_stepN x y).trans hg) (by omega) (by (have h9 := Nat.mod_lt x (show 0 < y by omega)); omega) (by (have h9 := Nat.mod_lt x (show 0 < y by omega)); omega) hP hD hS hl
    · have t_17 : ¬ (xb).toInt ≥ 0 := toL_nge c_17 rfl (by decide)
      refine lv_lload_n hx hb dX12_common1_20 rfl (lv_at hl 2 rfl) ?_
      refine lv_lneg hx hb dX12_common1_21 ?_
      refine lv_goto (tgt := 26) hx hb dX12_common1_22 (by decide) ?_
      obtain ⟨n2, hn2⟩ : ∃ n2, n2 = xb.toInt.natAbs := ⟨_, rfl⟩
      refine lv_topl (fun y9 hy9 => ?_)
      obtain rfl : (lN n2) = y9 := (hy9.trans (by rw [hn2]; exact negL (by omega) (by omega))).symm
      refine lv_lstore hx hb dX12_common1_26 hl (by decide) rfl (fun ls (hl : lv_has ls _ ([(6, .long (lN n2)), (4, .long (lN n1)), (0, .long xa), (2, .long xb)])) => ?_)
      have hl : lv_has _ _ ([(4, .long (lN n1)), (6, .long (lN n2))]) := lv_sub hl [1, 0] rfl
      refine (fun (loop : ∀ (n9 : Nat) (x : Nat) (y : Nat) (H : Heap) (locs : List Loc) (ls : Array Slot), (Nat.gcd x y = Int.gcd xa.toInt xb.toInt) → (x < 4611686018427387904) → (y < 4611686018427387904) →  (y < n9) → va_P (dC, dI) vwCl ([]) H → va_D A ([]) → va_S A s.heap H locs → lv_has ls 10 [(4, .long (lN x)), (6, .long (lN y))] → W p l e _ s m _ below meth c H locs 0 0 _ (F0 m 28 ls [])) => loop (n2 + 1) n1 n2 _ _ _ (by rw [hn1, hn2]; rfl) (by omega) (by omega) (by omega) hP hD hS hl) ?_
      intro n9
      induction n9 with
      | zero => intro x y H locs ls hg hx6 hy6 hf9; exact False.elim (by omega)
      | succ n9 ih28_3 =>
        intro x y H locs ls hg hx6 hy6 hf28_3 hP hD hS hl
        refine lv_lload hx hb dX12_common1_28 (lv_at hl 1 rfl) ?_
        refine lv_lconst (v := 0) hx hb dX12_common1_30 (by decide) ?_
        refine W.lcmp hx hb dX12_common1_31 ?_
        refine lv_if_le (tgt := 53) hx hb dX12_common1_32 (by decide) (fun c_32 => ?_) (fun c_32 => ?_)
        · have t_32 : ((y : Nat) : Int) ≤ 0 := toL_le c_32 (pk_lT (by omega)) (by decide)
          refine lv_lload hx hb dX12_common1_53 (lv_at hl 0 rfl) ?_
          refine W.widen (k := 0) (n := 0) (by decide +kernel) (by decide +kernel) ?_
          exact W.lret (v := (lN x)) hx hb hr (fun t9_ ht hW => ⟨⟨(lN x), (), rfl, by (try dsimp only); rw [pk_lT (by omega), ← hg, show y = 0 by omega, Nat.gcd_zero_right], trivial⟩, hS.F ht⟩) hS.2.2 dX12_common1_55
        · have t_32 : ¬ ((y : Nat) : Int) ≤ 0 := toL_nle c_32 (pk_lT (by omega)) (by decide)
          refine lv_lload hx hb dX12_common1_35 (lv_at hl 0 rfl) ?_
          refine lv_lload hx hb dX12_common1_37 (lv_at hl 1 rfl) ?_
          refine lv_lrem hx hb dX12_common1_39 (by exact lN_ne0 (by omega) (by omega)) ?_
          refine lv_topl (fun y10 hy10 => ?_)
          obtain rfl : (lN (x % y)) = y10 := (hy10.trans (lN_rem (a := x) (b := y) (by omega) (by omega) (by omega))).symm
          refine lv_lstore hx hb dX12_common1_40 hl (by decide) rfl (fun ls (hl : lv_has ls _ ([(8, .long (lN (x % y))), (4, .long (lN x)), (6, .long (lN y))])) => ?_)
          refine lv_lload hx hb dX12_common1_42 (lv_at hl 2 rfl) ?_
          refine lv_lstore hx hb dX12_common1_44 hl (by decide) rfl (fun ls (hl : lv_has ls _ ([(4, .long (lN y)), (8, .long (lN (x % y))), (6, .long (lN y))])) => ?_)
          refine lv_lload hx hb dX12_common1_46 (lv_at hl 1 rfl) ?_
          refine lv_lstore hx hb dX12_common1_48 hl (by decide) rfl (fun ls (hl : lv_has ls _ ([(6, .long (lN (x % y))), (4, .long (lN y)), (8, .long (lN (x % y)))])) => ?_)
          refine lv_goto (tgt := 28) hx hb dX12_common1_50 (by decide) ?_
          have hl : lv_has _ _ ([(4, .long (lN y)), (6, .long (lN (x % y)))]) := lv_sub hl [1, 0] rfl
          exact ih28_3 y (x % y) _ _ _ ((gcd_stepN x y).trans hg) (by omega) (by (have h9 := Nat.mod_lt x (show 0 < y by omega)); omega) (by (have h9 := Nat.mod_lt x (show 0 < y by omega)); omega) hP hD hS hl

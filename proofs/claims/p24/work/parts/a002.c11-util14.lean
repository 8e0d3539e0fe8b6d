section
theorem dX12_worth_0 : decode cX12_worth 0 = .ok (.aload_n 0, 1) := dk_42 (by decide +kernel)
theorem dX12_worth_1 : decode cX12_worth 1 = .ok (.getfield 7, 3) := dk_180 (by decide +kernel)
theorem dX12_worth_4 : decode cX12_worth 4 = .ok (.bipush 24, 2) := dk_16 (by decide +kernel)
theorem dX12_worth_6 : decode cX12_worth 6 = .ok (.iload_n 1, 1) := dk_27 (by decide +kernel)
theorem dX12_worth_7 : decode cX12_worth 7 = .ok (.imul, 1) := dk_104 (by decide +kernel)
theorem dX12_worth_8 : decode cX12_worth 8 = .ok (.iconst 1, 1) := dk_4 (by decide +kernel)
theorem dX12_worth_9 : decode cX12_worth 9 = .ok (.iadd, 1) := dk_96 (by decide +kernel)
theorem dX12_worth_10 : decode cX12_worth 10 = .ok (.iaload, 1) := dk_46 (by decide +kernel)
theorem dX12_worth_11 : decode cX12_worth 11 = .ok (.istore_n 2, 1) := dk_61 (by decide +kernel)
theorem dX12_worth_12 : decode cX12_worth 12 = .ok (.iload_n 2, 1) := dk_28 (by decide +kernel)
theorem dX12_worth_13 : decode cX12_worth 13 = .ok (.iconst 2, 1) := dk_5 (by decide +kernel)
theorem dX12_worth_14 : decode cX12_worth 14 = .ok (.if_icmp .le 7, 3) := dk_164 (by decide +kernel)
theorem dX12_worth_17 : decode cX12_worth 17 = .ok (.ldc2_w 422, 3) := dk_20 (by decide +kernel)
theorem dX12_worth_20 : decode cX12_worth 20 = .ok (.lreturn, 1) := dk_173 (by decide +kernel)
theorem dX12_worth_21 : decode cX12_worth 21 = .ok (.iload_n 2, 1) := dk_28 (by decide +kernel)
theorem dX12_worth_22 : decode cX12_worth 22 = .ok (.ifCond .ne 7, 3) := dk_154 (by decide +kernel)
theorem dX12_worth_25 : decode cX12_worth 25 = .ok (.lconst 0, 1) := dk_9 (by decide +kernel)
theorem dX12_worth_26 : decode cX12_worth 26 = .ok (.goto 51, 3) := dk_167 (by decide +kernel)
theorem dX12_worth_29 : decode cX12_worth 29 = .ok (.iload_n 2, 1) := dk_28 (by decide +kernel)
theorem dX12_worth_30 : decode cX12_worth 30 = .ok (.iconst 1, 1) := dk_4 (by decide +kernel)
theorem dX12_worth_31 : decode cX12_worth 31 = .ok (.if_icmp .ne 18, 3) := dk_160 (by decide +kernel)
theorem dX12_worth_34 : decode cX12_worth 34 = .ok (.aload_n 0, 1) := dk_42 (by decide +kernel)
theorem dX12_worth_35 : decode cX12_worth 35 = .ok (.getfield 7, 3) := dk_180 (by decide +kernel)
theorem dX12_worth_38 : decode cX12_worth 38 = .ok (.bipush 24, 2) := dk_16 (by decide +kernel)
theorem dX12_worth_40 : decode cX12_worth 40 = .ok (.iload_n 1, 1) := dk_27 (by decide +kernel)
theorem dX12_worth_41 : decode cX12_worth 41 = .ok (.imul, 1) := dk_104 (by decide +kernel)
theorem dX12_worth_42 : decode cX12_worth 42 = .ok (.iconst 2, 1) := dk_5 (by decide +kernel)
theorem dX12_worth_43 : decode cX12_worth 43 = .ok (.iadd, 1) := dk_96 (by decide +kernel)
theorem dX12_worth_44 : decode cX12_worth 44 = .ok (.iaload, 1) := dk_46 (by decide +kernel)
theorem dX12_worth_45 : decode cX12_worth 45 = .ok (.i2l, 1) := dk_133 (by decide +kernel)
theorem dX12_worth_46 : decode cX12_worth 46 = .ok (.goto 31, 3) := dk_167 (by decide +kernel)
theorem dX12_worth_49 : decode cX12_worth 49 = .ok (.aload_n 0, 1) := dk_42 (by decide +kernel)
theorem dX12_worth_50 : decode cX12_worth 50 = .ok (.getfield 7, 3) := dk_180 (by decide +kernel)
theorem dX12_worth_53 : decode cX12_worth 53 = .ok (.bipush 24, 2) := dk_16 (by decide +kernel)
theorem dX12_worth_55 : decode cX12_worth 55 = .ok (.iload_n 1, 1) := dk_27 (by decide +kernel)
theorem dX12_worth_56 : decode cX12_worth 56 = .ok (.imul, 1) := dk_104 (by decide +kernel)
theorem dX12_worth_57 : decode cX12_worth 57 = .ok (.iconst 3, 1) := dk_6 (by decide +kernel)
theorem dX12_worth_58 : decode cX12_worth 58 = .ok (.iadd, 1) := dk_96 (by decide +kernel)
theorem dX12_worth_59 : decode cX12_worth 59 = .ok (.iaload, 1) := dk_46 (by decide +kernel)
theorem dX12_worth_60 : decode cX12_worth 60 = .ok (.i2l, 1) := dk_133 (by decide +kernel)
theorem dX12_worth_61 : decode cX12_worth 61 = .ok (.bipush 28, 2) := dk_16 (by decide +kernel)
theorem dX12_worth_63 : decode cX12_worth 63 = .ok (.lshl, 1) := dk_121 (by decide +kernel)
theorem dX12_worth_64 : decode cX12_worth 64 = .ok (.aload_n 0, 1) := dk_42 (by decide +kernel)
theorem dX12_worth_65 : decode cX12_worth 65 = .ok (.getfield 7, 3) := dk_180 (by decide +kernel)
theorem dX12_worth_68 : decode cX12_worth 68 = .ok (.bipush 24, 2) := dk_16 (by decide +kernel)
theorem dX12_worth_70 : decode cX12_worth 70 = .ok (.iload_n 1, 1) := dk_27 (by decide +kernel)
theorem dX12_worth_71 : decode cX12_worth 71 = .ok (.imul, 1) := dk_104 (by decide +kernel)
theorem dX12_worth_72 : decode cX12_worth 72 = .ok (.iconst 2, 1) := dk_5 (by decide +kernel)
theorem dX12_worth_73 : decode cX12_worth 73 = .ok (.iadd, 1) := dk_96 (by decide +kernel)
theorem dX12_worth_74 : decode cX12_worth 74 = .ok (.iaload, 1) := dk_46 (by decide +kernel)
theorem dX12_worth_75 : decode cX12_worth 75 = .ok (.i2l, 1) := dk_133 (by decide +kernel)
theorem dX12_worth_76 : decode cX12_worth 76 = .ok (.lor, 1) := dk_129 (by decide +kernel)
theorem dX12_worth_77 : decode cX12_worth 77 = .ok (.lstore_n 3, 1) := dk_66 (by decide +kernel)
theorem dX12_worth_78 : decode cX12_worth 78 = .ok (.aload_n 0, 1) := dk_42 (by decide +kernel)
theorem dX12_worth_79 : decode cX12_worth 79 = .ok (.iload_n 1, 1) := dk_27 (by decide +kernel)
theorem dX12_worth_80 : decode cX12_worth 80 = .ok (.invokevirtual 353, 3) := dk_182 (by decide +kernel)
theorem dX12_worth_83 : decode cX12_worth 83 = .ok (.ifCond .ge 8, 3) := dk_156 (by decide +kernel)
theorem dX12_worth_86 : decode cX12_worth 86 = .ok (.lload_n 3, 1) := dk_33 (by decide +kernel)
theorem dX12_worth_87 : decode cX12_worth 87 = .ok (.lneg, 1) := dk_117 (by decide +kernel)
theorem dX12_worth_88 : decode cX12_worth 88 = .ok (.goto 4, 3) := dk_167 (by decide +kernel)
theorem dX12_worth_91 : decode cX12_worth 91 = .ok (.lload_n 3, 1) := dk_33 (by decide +kernel)
theorem dX12_worth_92 : decode cX12_worth 92 = .ok (.lreturn, 1) := dk_173 (by decide +kernel)
def wsRX12_worth : List Cond := .code yX12_worth cX12_worth 5 (some .long) :: ([.fieldLink RX12 7 "OptimaWorksModel" "big" "[I", .constantLong RX12 422 2147483648] ++ wsX120 ++ (wsV RX12 353 RX12 yX12_sign wsRX12_sign))
theorem iwsRX12_worth_in12 : ∀ w ∈ wsX120, w ∈ wsRX12_worth := fun _ h => List.mem_cons_of_mem _ (List.mem_append_left _ (List.mem_append_right _ h))
theorem gwsRX12_worth_0 : GoodIn wsRX12_worth (wsV RX12 353 RX12 yX12_sign wsRX12_sign) := goodIn_sub (fun _ h => List.mem_cons_of_mem _ (List.mem_append_right _ h)) (gdV (by decide +kernel) gdwsRX12_sign)
theorem gdwsRX12_worth : wsRX12_worth.all goodWord = true := gdC rfl (gdA (gdA (by decide +kernel : ([.fieldLink RX12 7 "OptimaWorksModel" "big" "[I", .constantLong RX12 422 2147483648] : List Cond).all goodWord = true) gdwsX120) (gdV (by decide +kernel) gdwsRX12_sign))
theorem hm_r_X12_worth_0 : (.fieldLink RX12 7 "OptimaWorksModel" "big" "[I" : Cond) ∈ wsRX12_worth := by decide +kernel
set_option maxHeartbeats 4000000 in
set_option maxRecDepth 100000 in
/-- worth(s) -/
theorem r_X12_worth (l : Launch) (dC : Nat → ClassId) (dI : Nat → Nat → Nat) (a : Nat → Nat) (k : Nat → ClassId) (h0 : Nat) (vi : Nat → Int32) (vj : Nat → Int64) (vF : Nat → Nat → Int32) (vG : Nat → Nat → Int64) (sn : Nat) (mg : Nat → Int) (hBg : Bg (vF 0) mg) (x : Int) (v_x : mg sn = x) (hs : sn < 1100) (sz : Nat) : Met l yX12_worth wsRX12_worth ({ frames := 1, cells := 0, slots := 0, locals := 21 }) (va_Pc [.ref h0, .int (nI sn)] (fun U => U.heap.size = sz ∧ va_P (dC, dI) vwCl (WR a k h0 vi vj vF vG) U.heap ∧ va_K (dC, dI) vwCl (tX12 k) U ∧ va_D (fun _ => True) (WR a k h0 vi vj vF vG))) (va_Ql (fun (r : Int64) (u : Unit) => (((r).toInt = x ∧ x.natAbs < 72057594037927936) ∨ ((r).toInt = 2147483648 ∧ 72057594037927936 ≤ x.natAbs))) (fun (u : Unit) t => va_P (dC, dI) vwCl (WR a k h0 vi vj vF vG) t.heap ∧ va_D (va_A (WR a k h0 vi vj vF vG) sz) (WR a k h0 vi vj vF vG)) (va_A (WR a k h0 vi vj vF vG) sz)) 0 0 (va_A (WR a k h0 vi vj vF vG) sz) := by
  refine Met.ofW (cc := cX12_worth) (maxL := 5) (ret := (some .long)) (by decide) rfl ?_
  intro p e s m args below meth c s₁ B hml hv
  obtain ⟨rfl, hsz, hP, hK, hD0⟩ := hv
  have hx := B.exec
  have hb := B.bytes
  have hr := B.returns
  have hts := atoms_spec (ws := wsRX12_worth) B.pre
  have hown : s.vm.findClass RX12 = some m.cls := findClass_of_methodNamed B.named
  have hlocks := B.notSynchronized
  subst hsz
  have hD := hD0.self (sz := s.heap.size)
  generalize hAe : va_A (WR a k h0 vi vj vF vG) s.heap.size = A at hD ⊢
  have hA : ∀ q : Nat, s.heap.size ≤ q → A q := fun q h => by rw [← hAe]; exact Or.inr h
  have hS : va_S A s.heap s.heap [] := va_S.rf
  have hl := lv_entry ([.ref h0, .int (nI sn)]) (n := 5) (Nat.le_of_ble_eq_true rfl)
  rw [lg_entry_eq]
  generalize (lg_sl ([.ref h0, .int (nI sn)]) ++ List.replicate (5 - (lg_sl ([.ref h0, .int (nI sn)])).length) Slot.unset).toArray = ls at hl ⊢
  have hl : lv_has ls 5 [(0, .ref h0), (1, .int (nI sn))] := hl
  obtain ⟨na, hna1, hna2, hna3, hna4, hna5, hna6⟩ := hBg sn hs
  rw [v_x] at hna5 hna6
  refine lv_aload_n hx hb dX12_worth_0 rfl (lv_at hl 0 rfl) ?_
  refine va_get (D := (dC, dI)) (ci := 12) (v := .ref (a 0)) (C := RX12) (T := TX12) (N := 163) (fs := fM (vS a vi vj)) hx hb hts iwsRX12_worth_in12 hown hK hP 0 rfl rfl 1 (by decide) (hts _ hm_r_X12_worth_0) (fun _ h9 => h9) rfl dX12_worth_1 ?_
  refine lv_bipush (v := 24) hx hb dX12_worth_4 (by decide) ?_
  refine lv_iload_n hx hb dX12_worth_6 rfl (lv_at hl 1 rfl) ?_
  refine lv_imul hx hb dX12_worth_7 ?_
  refine lv_topi (fun y1 hy1 => ?_)
  obtain rfl : (nI (24 * sn)) = y1 := (hy1.trans (pk_mul 24 sn)).symm
  refine lv_iconst (v := 1) hx hb dX12_worth_8 (by decide) ?_
  refine lv_iadd hx hb dX12_worth_9 ?_
  refine lv_topi (fun y2 hy2 => ?_)
  obtain rfl : (nI ((24 * sn) + 1)) = y2 := (hy2.trans (nI_add (24 * sn) 1)).symm
  refine va_iald (cA := k 0) (n := 26400) (f := (vF 0)) hx hb hK hP 1 0 (WR_get 0 (by decide)) (TR_get 0 (by decide)) (vp_in_nI (show ((24 * sn) + 1) < 26400 by omega) (by omega)) dX12_worth_10 ?_
  refine lv_topi (fun y3 hy3 => ?_)
  obtain rfl : ((vF 0) ((24 * sn) + 1)) = y3 := (hy3.trans (by rw [nI_clamp (by omega)])).symm
  refine lv_topi (fun y4 hy4 => ?_)
  obtain rfl : (nI na) = y4 := (hy4.trans (hna2)).symm
  refine lv_istore_n hx hb dX12_worth_11 rfl hl (by decide) rfl (fun ls (hl : lv_has ls _ ([(2, .int (nI na)), (0, .ref h0), (1, .int (nI sn))])) => ?_)
  refine lv_iload_n hx hb dX12_worth_12 rfl (lv_at hl 0 rfl) ?_
  refine lv_iconst (v := 2) hx hb dX12_worth_13 (by decide) ?_
  refine lv_icmp_le (tgt := 21) hx hb dX12_worth_14 (by decide) (fun c_14 => ?_) (fun c_14 => ?_)
  · have t_14 : ((na : Nat) : Int) ≤ 2 := toI_le c_14 (nI_toInt (by omega)) (by decide)
    refine lv_iload_n hx hb dX12_worth_21 rfl (lv_at hl 0 rfl) ?_
    refine lv_if_ne (tgt := 29) hx hb dX12_worth_22 (by decide) (fun c_22 => ?_) (fun c_22 => ?_)
    · have t_22 : ((na : Nat) : Int) ≠ 0 := toI_ne c_22 (nI_toInt (by omega)) (by decide)
      refine lv_iload_n hx hb dX12_worth_29 rfl (lv_at hl 0 rfl) ?_
      refine lv_iconst (v := 1) hx hb dX12_worth_30 (by decide) ?_
      refine lv_icmp_ne (tgt := 49) hx hb dX12_worth_31 (by decide) (fun c_31 => ?_) (fun c_31 => ?_)
      · have t_31 : ((na : Nat) : Int) ≠ 1 := toI_ne c_31 (nI_toInt (by omega)) (by decide)
        obtain ⟨l0, hl0, el0⟩ := hna3 0 (by omega)
        obtain ⟨l1, hl1, el1⟩ := hna3 1 (by omega)
        refine lv_aload_n hx hb dX12_worth_49 rfl (lv_at hl 1 rfl) ?_
        refine va_get (D := (dC, dI)) (ci := 12) (v := .ref (a 0)) (C := RX12) (T := TX12) (N := 163) (fs := fM (vS a vi vj)) hx hb hts iwsRX12_worth_in12 hown hK hP 0 rfl rfl 1 (by decide) (hts _ hm_r_X12_worth_0) (fun _ h9 => h9) rfl dX12_worth_50 ?_
        refine lv_bipush (v := 24) hx hb dX12_worth_53 (by decide) ?_
        refine lv_iload_n hx hb dX12_worth_55 rfl (lv_at hl 2 rfl) ?_
        refine lv_imul hx hb dX12_worth_56 ?_
        refine lv_topi (fun y5 hy5 => ?_)
        obtain rfl : (nI (24 * sn)) = y5 := (hy5.trans (pk_mul 24 sn)).symm
        refine lv_iconst (v := 3) hx hb dX12_worth_57 (by decide) ?_
        refine lv_iadd hx hb dX12_worth_58 ?_
        refine lv_topi (fun y6 hy6 => ?_)
        obtain rfl : (nI ((24 * sn) + 3)) = y6 := (hy6.trans (nI_add (24 * sn) 3)).symm
        refine va_iald (cA := k 0) (n := 26400) (f := (vF 0)) hx hb hK hP 1 0 (WR_get 0 (by decide)) (TR_get 0 (by decide)) (vp_in_nI (show ((24 * sn) + 3) < 26400 by omega) (by omega)) dX12_worth_59 ?_
        refine lv_topi (fun y7 hy7 => ?_)
        obtain rfl : ((vF 0) ((24 * sn) + 3)) = y7 := (hy7.trans (by rw [nI_clamp (by omega)])).symm
        refine lv_topi (fun y8 hy8 => ?_)
        obtain rfl : (nI l1) = y8 := (hy8.trans (el1)).symm
        refine lv_i2l hx hb dX12_worth_60 rfl ?_
        refine lv_topl (fun y9 hy9 => ?_)
        obtain rfl : (lN l1) = y9 := (hy9.trans (nI_l (by omega))).symm
        refine lv_bipush (v := 28) hx hb dX12_worth_61 (by decide) ?_
        refine lv_lshl hx hb dX12_worth_63 rfl ?_
        refine lv_aload_n hx hb dX12_worth_64 rfl (lv_at hl 1 rfl) ?_
        refine va_get (D := (dC, dI)) (ci := 12) (v := .ref (a 0)) (C := RX12) (T := TX12) (N := 163) (fs := fM (vS a vi vj)) hx hb hts iwsRX12_worth_in12 hown hK hP 0 rfl rfl 1 (by decide) (hts _ hm_r_X12_worth_0) (fun _ h9 => h9) rfl dX12_worth_65 ?_
        refine lv_bipush (v := 24) hx hb dX12_worth_68 (by decide) ?_
        refine lv_iload_n hx hb dX12_worth_70 rfl (lv_at hl 2 rfl) ?_
        refine lv_imul hx hb dX12_worth_71 ?_
        refine lv_topi (fun y10 hy10 => ?_)
        obtain rfl : (nI (24 * sn)) = y10 := (hy10.trans (pk_mul 24 sn)).symm
        refine lv_iconst (v := 2) hx hb dX12_worth_72 (by decide) ?_
        refine lv_iadd hx hb dX12_worth_73 ?_
        refine lv_topi (fun y11 hy11 => ?_)
        obtain rfl : (nI ((24 * sn) + 2)) = y11 := (hy11.trans (nI_add (24 * sn) 2)).symm
        refine va_iald (cA := k 0) (n := 26400) (f := (vF 0)) hx hb hK hP 1 0 (WR_get 0 (by decide)) (TR_get 0 (by decide)) (vp_in_nI (show ((24 * sn) + 2) < 26400 by omega) (by omega)) dX12_worth_74 ?_
        refine lv_topi (fun y12 hy12 => ?_)
        obtain rfl : ((vF 0) ((24 * sn) + 2)) = y12 := (hy12.trans (by rw [nI_clamp (by omega)])).symm
        refine lv_topi (fun y13 hy13 => ?_)
        obtain rfl : (nI l0) = y13 := (hy13.trans (el0)).symm
        refine lv_i2l hx hb dX12_worth_75 rfl ?_
        refine lv_topl (fun y14 hy14 => ?_)
        obtain rfl : (lN l0) = y14 := (hy14.trans (nI_l (by omega))).symm
        refine lv_lor hx hb dX12_worth_76 ?_
        refine lv_topl (fun y15 hy15 => ?_)
        obtain rfl : (lN (l1 * 268435456 + l0)) = y15 := (hy15.trans (lor28 (by omega) (by omega))).symm
        have hlt : x.natAbs < 72057594037927936 := by rw [hna5]; exact limbs_lt (k := 2) hna3 (by omega)
        refine lv_topl (fun y16 hy16 => ?_)
        obtain rfl : (lN x.natAbs) = y16 := (hy16.trans (by rw [hna5, show na = 2 by omega]; simp only [lv28]; rw [el0, el1, nI_clamp (by omega), nI_clamp (by omega)]; congr 1; omega)).symm
        refine lv_lstore_n hx hb dX12_worth_77 rfl hl (by decide) rfl (fun ls (hl : lv_has ls _ ([(3, .long (lN x.natAbs)), (2, .int (nI na)), (0, .ref h0), (1, .int (nI sn))])) => ?_)
        refine lv_aload_n hx hb dX12_worth_78 rfl (lv_at hl 2 rfl) ?_
        refine lv_iload_n hx hb dX12_worth_79 rfl (lv_at hl 3 rfl) ?_
        have hFc := allFree hD hS hA
        refine va_calli (va_runV (As := [.int (nI sn)]) (rest := []) ⟨hx, hb, hml, hown, hts⟩ (b_X12_sign l dC dI a k h0 vi vj vF vG sn mg hBg x (by rw [v_x]) (by first | with_reducible assumption | decide | omega | rfl | assumption) s.heap.size) (cwV 1 hts gwsRX12_worth_0 rfl rfl rfl hd_yX12_sign_RX12 (by decide +kernel)) (fz_pre (va_recv hK hP (ci := 12) (q0 := 0) rfl rfl) hP hK hD) rfl rfl hl.1 rfl (lv_room (Nat.le_of_ble_eq_true rfl)) dX12_worth_80 (by decide +kernel)) hS (fun q _ h => hFc q h) hFc (fun r80 u t9_ H locs ht hvm hw9 hB9 hz1 hk1 hS => ?_)
        have hP : va_P (dC, dI) vwCl (WR a k h0 vi vj vF vG) H := fz_P ht hB9.1
        have hD := fz_sd hP (hB9.2.weaken (fun _ q _ h => hFc q.1 h)) rfl
        have f80_0 := hw9
        try dsimp only at f80_0
        refine lv_if_ge (tgt := 91) hx hb dX12_worth_83 (by decide) (fun c_83 => ?_) (fun c_83 => ?_)
        · have t_83 : (r80).toInt ≥ 0 := toI_ge c_83 rfl (by decide)
          refine lv_lload_n hx hb dX12_worth_91 rfl (lv_at hl 0 rfl) ?_
          refine W.widen (k := 0) (n := 0) (by decide +kernel) (by decide +kernel) ?_
          exact W.lret (v := (lN x.natAbs)) hx hb hr (fun t9_ ht hW => ⟨⟨(lN x.natAbs), (), rfl, by (try dsimp only); exact Or.inl ⟨by rw [pk_lT (by omega)]; omega, hlt⟩, by rw [ht]; exact hP, hD⟩, hS.F ht⟩) hS.2.2 dX12_worth_92
        · have t_83 : ¬ (r80).toInt ≥ 0 := toI_nge c_83 rfl (by decide)
          refine lv_lload_n hx hb dX12_worth_86 rfl (lv_at hl 0 rfl) ?_
          refine lv_lneg hx hb dX12_worth_87 ?_
          refine lv_goto (tgt := 92) hx hb dX12_worth_88 (by decide) ?_
          refine W.widen (k := 0) (n := 0) (by decide +kernel) (by decide +kernel) ?_
          exact W.lret (v := (-(lN x.natAbs))) hx hb hr (fun t9_ ht hW => ⟨⟨(-(lN x.natAbs)), (), rfl, by (try dsimp only); exact Or.inl ⟨by rw [Int64.toInt_neg, pk_lT (by omega), Int.bmod_eq_of_le (by omega) (by omega)]; omega, hlt⟩, by rw [ht]; exact hP, hD⟩, hS.F ht⟩) hS.2.2 dX12_worth_92
      · have t_31 : ((na : Nat) : Int) = 1 := toI_nne c_31 (nI_toInt (by omega)) (by decide)
        obtain ⟨l0, hl0, el0⟩ := hna3 0 (by omega)
        refine lv_aload_n hx hb dX12_worth_34 rfl (lv_at hl 1 rfl) ?_
        refine va_get (D := (dC, dI)) (ci := 12) (v := .ref (a 0)) (C := RX12) (T := TX12) (N := 163) (fs := fM (vS a vi vj)) hx hb hts iwsRX12_worth_in12 hown hK hP 0 rfl rfl 1 (by decide) (hts _ hm_r_X12_worth_0) (fun _ h9 => h9) rfl dX12_worth_35 ?_
        refine lv_bipush (v := 24) hx hb dX12_worth_38 (by decide) ?_
        refine lv_iload_n hx hb dX12_worth_40 rfl (lv_at hl 2 rfl) ?_
        refine lv_imul hx hb dX12_worth_41 ?_
        refine lv_topi (fun y17 hy17 => ?_)
        obtain rfl : (nI (24 * sn)) = y17 := (hy17.trans (pk_mul 24 sn)).symm
        refine lv_iconst (v := 2) hx hb dX12_worth_42 (by decide) ?_
        refine lv_iadd hx hb dX12_worth_43 ?_
        refine lv_topi (fun y18 hy18 => ?_)
        obtain rfl : (nI ((24 * sn) + 2)) = y18 := (hy18.trans (nI_add (24 * sn) 2)).symm
        refine va_iald (cA := k 0) (n := 26400) (f := (vF 0)) hx hb hK hP 1 0 (WR_get 0 (by decide)) (TR_get 0 (by decide)) (vp_in_nI (show ((24 * sn) + 2) < 26400 by omega) (by omega)) dX12_worth_44 ?_
        refine lv_topi (fun y19 hy19 => ?_)
        obtain rfl : ((vF 0) ((24 * sn) + 2)) = y19 := (hy19.trans (by rw [nI_clamp (by omega)])).symm
        refine lv_topi (fun y20 hy20 => ?_)
        obtain rfl : (nI l0) = y20 := (hy20.trans (el0)).symm
        refine lv_i2l hx hb dX12_worth_45 rfl ?_
        refine lv_topl (fun y21 hy21 => ?_)
        obtain rfl : (lN l0) = y21 := (hy21.trans (nI_l (by omega))).symm
        refine lv_goto (tgt := 77) hx hb dX12_worth_46 (by decide) ?_
        have hlt : x.natAbs < 72057594037927936 := by rw [hna5]; exact limbs_lt (k := 2) hna3 (by omega)
        refine lv_topl (fun y22 hy22 => ?_)
        obtain rfl : (lN x.natAbs) = y22 := (hy22.trans (by rw [hna5, show na = 1 by omega]; simp only [lv28]; rw [el0, nI_clamp (by omega)]; congr 1; omega)).symm
        refine lv_lstore_n hx hb dX12_worth_77 rfl hl (by decide) rfl (fun ls (hl : lv_has ls _ ([(3, .long (lN x.natAbs)), (2, .int (nI na)), (0, .ref h0), (1, .int (nI sn))])) => ?_)
        refine lv_aload_n hx hb dX12_worth_78 rfl (lv_at hl 2 rfl) ?_
        refine lv_iload_n hx hb dX12_worth_79 rfl (lv_at hl 3 rfl) ?_
        have hFc := allFree hD hS hA
        refine va_calli (va_runV (As := [.int (nI sn)]) (rest := []) ⟨hx, hb, hml, hown, hts⟩ (b_X12_sign l dC dI a k h0 vi vj vF vG sn mg hBg x (by rw [v_x]) (by first | with_reducible assumption | decide | omega | rfl | assumption) s.heap.size) (cwV 1 hts gwsRX12_worth_0 rfl rfl rfl hd_yX12_sign_RX12 (by decide +kernel)) (fz_pre (va_recv hK hP (ci := 12) (q0 := 0) rfl rfl) hP hK hD) rfl rfl hl.1 rfl (lv_room (Nat.le_of_ble_eq_true rfl)) dX12_worth_80 (by decide +kernel)) hS (fun q _ h => hFc q h) hFc (fun r80_1 u t9_ H locs ht hvm hw9 hB9 hz1 hk1 hS => ?_)
        have hP : va_P (dC, dI) vwCl (WR a k h0 vi vj vF vG) H := fz_P ht hB9.1
        have hD := fz_sd hP (hB9.2.weaken (fun _ q _ h => hFc q.1 h)) rfl
        have f80_1_0 := hw9
        try dsimp only at f80_1_0
        refine lv_if_ge (tgt := 91) hx hb dX12_worth_83 (by decide) (fun c_83 => ?_) (fun c_83 => ?_)
        · have t_83 : (r80_1).toInt ≥ 0 := toI_ge c_83 rfl (by decide)
          refine lv_lload_n hx hb dX12_worth_91 rfl (lv_at hl 0 rfl) ?_
          refine W.widen (k := 0) (n := 0) (by decide +kernel) (by decide +kernel) ?_
          exact W.lret (v := (lN x.natAbs)) hx hb hr (fun t9_ ht hW => ⟨⟨(lN x.natAbs), (), rfl, by (try dsimp only); exact Or.inl ⟨by rw [pk_lT (by omega)]; omega, hlt⟩, by rw [ht]; exact hP, hD⟩, hS.F ht⟩) hS.2.2 dX12_worth_92
        · have t_83 : ¬ (r80_1).toInt ≥ 0 := toI_nge c_83 rfl (by decide)
          refine lv_lload_n hx hb dX12_worth_86 rfl (lv_at hl 0 rfl) ?_
          refine lv_lneg hx hb dX12_worth_87 ?_
          refine lv_goto (tgt := 92) hx hb dX12_worth_88 (by decide) ?_
          refine W.widen (k := 0) (n := 0) (by decide +kernel) (by decide +kernel) ?_
          exact W.lret (v := (-(lN x.natAbs))) hx hb hr (fun t9_ ht hW => ⟨⟨(-(lN x.natAbs)), (), rfl, by (try dsimp only); exact Or.inl ⟨by rw [Int64.toInt_neg, pk_lT (by omega), Int.bmod_eq_of_le (by omega) (by omega)]; omega, hlt⟩, by rw [ht]; exact hP, hD⟩, hS.F ht⟩) hS.2.2 dX12_worth_92
    · have t_22 : ((na : Nat) : Int) = 0 := toI_nne c_22 (nI_toInt (by omega)) (by decide)
      refine lv_lconst (v := 0) hx hb dX12_worth_25 (by decide) ?_
      refine lv_goto (tgt := 77) hx hb dX12_worth_26 (by decide) ?_
      have hlt : x.natAbs < 72057594037927936 := by rw [hna5]; exact limbs_lt (k := 2) hna3 (by omega)
      refine lv_topl (fun y23 hy23 => ?_)
      obtain rfl : (lN x.natAbs) = y23 := (hy23.trans (by rw [hna5, show na = 0 by omega]; rfl)).symm
      refine lv_lstore_n hx hb dX12_worth_77 rfl hl (by decide) rfl (fun ls (hl : lv_has ls _ ([(3, .long (lN x.natAbs)), (2, .int (nI na)), (0, .ref h0), (1, .int (nI sn))])) => ?_)
      refine lv_aload_n hx hb dX12_worth_78 rfl (lv_at hl 2 rfl) ?_
      refine lv_iload_n hx hb dX12_worth_79 rfl (lv_at hl 3 rfl) ?_
      have hFc := allFree hD hS hA
      refine va_calli (va_runV (As := [.int (nI sn)]) (rest := []) ⟨hx, hb, hml, hown, hts⟩ (b_X12_sign l dC dI a k h0 vi vj vF vG sn mg hBg x (by rw [v_x]) (by first | with_reducible assumption | decide | omega | rfl | assumption) s.heap.size) (cwV 1 hts gwsRX12_worth_0 rfl rfl rfl hd_yX12_sign_RX12 (by decide +kernel)) (fz_pre (va_recv hK hP (ci := 12) (q0 := 0) rfl rfl) hP hK hD) rfl rfl hl.1 rfl (lv_room (Nat.le_of_ble_eq_true rfl)) dX12_worth_80 (by decide +kernel)) hS (fun q _ h => hFc q h) hFc (fun r80_2 u t9_ H locs ht hvm hw9 hB9 hz1 hk1 hS => ?_)
      have hP : va_P (dC, dI) vwCl (WR a k h0 vi vj vF vG) H := fz_P ht hB9.1
      have hD := fz_sd hP (hB9.2.weaken (fun _ q _ h => hFc q.1 h)) rfl
      have f80_2_0 := hw9
      try dsimp only at f80_2_0
      refine lv_if_ge (tgt := 91) hx hb dX12_worth_83 (by decide) (fun c_83 => ?_) (fun c_83 => ?_)
      · have t_83 : (r80_2).toInt ≥ 0 := toI_ge c_83 rfl (by decide)
        refine lv_lload_n hx hb dX12_worth_91 rfl (lv_at hl 0 rfl) ?_
        refine W.widen (k := 0) (n := 0) (by decide +kernel) (by decide +kernel) ?_
        exact W.lret (v := (lN x.natAbs)) hx hb hr (fun t9_ ht hW => ⟨⟨(lN x.natAbs), (), rfl, by (try dsimp only); exact Or.inl ⟨by rw [pk_lT (by omega)]; omega, hlt⟩, by rw [ht]; exact hP, hD⟩, hS.F ht⟩) hS.2.2 dX12_worth_92
      · have t_83 : ¬ (r80_2).toInt ≥ 0 := toI_nge c_83 rfl (by decide)
        refine lv_lload_n hx hb dX12_worth_86 rfl (lv_at hl 0 rfl) ?_
        refine lv_lneg hx hb dX12_worth_87 ?_
        refine lv_goto (tgt := 92) hx hb dX12_worth_88 (by decide) ?_
        refine W.widen (k := 0) (n := 0) (by decide +kernel) (by decide +kernel) ?_
        exact W.lret (v := (-(lN x.natAbs))) hx hb hr (fun t9_ ht hW => ⟨⟨(-(lN x.natAbs)), (), rfl, by (try dsimp only); exact Or.inl ⟨by rw [Int64.toInt_neg, pk_lT (by omega), Int.bmod_eq_of_le (by omega) (by omega)]; omega, hlt⟩, by rw [ht]; exact hP, hD⟩, hS.F ht⟩) hS.2.2 dX12_worth_92
  · have t_14 : ¬ ((na : Nat) : Int) ≤ 2 := toI_nle c_14 (nI_toInt (by omega)) (by decide)
    refine lv_ldc2 (v := 2147483648) hx hb hown (hts (.constantLong RX12 422 2147483648) (by decide +kernel)) dX12_worth_17 ?_
    refine W.widen (k := 0) (n := 0) (by decide +kernel) (by decide +kernel) ?_
    exact W.lret (v := 2147483648) hx hb hr (fun t9_ ht hW => ⟨⟨2147483648, (), rfl, by (try dsimp only); exact Or.inr ⟨by decide, worth_big (by omega) hna3 hna4 hna5⟩, by rw [ht]; exact hP, hD⟩, hS.F ht⟩) hS.2.2 dX12_worth_20
theorem dX12_small_0 : decode cX12_small 0 = .ok (.aload_n 0, 1) := dk_42 (by decide +kernel)
theorem dX12_small_1 : decode cX12_small 1 = .ok (.getfield 7, 3) := dk_180 (by decide +kernel)
theorem dX12_small_4 : decode cX12_small 4 = .ok (.bipush 24, 2) := dk_16 (by decide +kernel)
theorem dX12_small_6 : decode cX12_small 6 = .ok (.iload_n 1, 1) := dk_27 (by decide +kernel)
theorem dX12_small_7 : decode cX12_small 7 = .ok (.imul, 1) := dk_104 (by decide +kernel)
theorem dX12_small_8 : decode cX12_small 8 = .ok (.iconst 1, 1) := dk_4 (by decide +kernel)
theorem dX12_small_9 : decode cX12_small 9 = .ok (.iadd, 1) := dk_96 (by decide +kernel)
theorem dX12_small_10 : decode cX12_small 10 = .ok (.iaload, 1) := dk_46 (by decide +kernel)
theorem dX12_small_11 : decode cX12_small 11 = .ok (.istore_n 2, 1) := dk_61 (by decide +kernel)
theorem dX12_small_12 : decode cX12_small 12 = .ok (.iload_n 2, 1) := dk_28 (by decide +kernel)
theorem dX12_small_13 : decode cX12_small 13 = .ok (.ifCond .ne 7, 3) := dk_154 (by decide +kernel)
theorem dX12_small_16 : decode cX12_small 16 = .ok (.iconst 0, 1) := dk_3 (by decide +kernel)
theorem dX12_small_17 : decode cX12_small 17 = .ok (.goto 14, 3) := dk_167 (by decide +kernel)
theorem dX12_small_20 : decode cX12_small 20 = .ok (.aload_n 0, 1) := dk_42 (by decide +kernel)
theorem dX12_small_21 : decode cX12_small 21 = .ok (.getfield 7, 3) := dk_180 (by decide +kernel)
theorem dX12_small_24 : decode cX12_small 24 = .ok (.bipush 24, 2) := dk_16 (by decide +kernel)
theorem dX12_small_26 : decode cX12_small 26 = .ok (.iload_n 1, 1) := dk_27 (by decide +kernel)
theorem dX12_small_27 : decode cX12_small 27 = .ok (.imul, 1) := dk_104 (by decide +kernel)
theorem dX12_small_28 : decode cX12_small 28 = .ok (.iconst 2, 1) := dk_5 (by decide +kernel)
theorem dX12_small_29 : decode cX12_small 29 = .ok (.iadd, 1) := dk_96 (by decide +kernel)
theorem dX12_small_30 : decode cX12_small 30 = .ok (.iaload, 1) := dk_46 (by decide +kernel)
theorem dX12_small_31 : decode cX12_small 31 = .ok (.istore_n 3, 1) := dk_62 (by decide +kernel)
theorem dX12_small_32 : decode cX12_small 32 = .ok (.aload_n 0, 1) := dk_42 (by decide +kernel)
theorem dX12_small_33 : decode cX12_small 33 = .ok (.iload_n 1, 1) := dk_27 (by decide +kernel)
theorem dX12_small_34 : decode cX12_small 34 = .ok (.invokevirtual 353, 3) := dk_182 (by decide +kernel)
theorem dX12_small_37 : decode cX12_small 37 = .ok (.iload_n 3, 1) := dk_29 (by decide +kernel)
theorem dX12_small_38 : decode cX12_small 38 = .ok (.imul, 1) := dk_104 (by decide +kernel)
theorem dX12_small_39 : decode cX12_small 39 = .ok (.ireturn, 1) := dk_172 (by decide +kernel)
def wsRX12_small : List Cond := .code yX12_small cX12_small 4 (some .int) :: ([.fieldLink RX12 7 "OptimaWorksModel" "big" "[I"] ++ wsX120 ++ (wsV RX12 353 RX12 yX12_sign wsRX12_sign))
theorem iwsRX12_small_in12 : ∀ w ∈ wsX120, w ∈ wsRX12_small := fun _ h => List.mem_cons_of_mem _ (List.mem_append_left _ (List.mem_append_right _ h))
theorem gwsRX12_small_0 : GoodIn wsRX12_small (wsV RX12 353 RX12 yX12_sign wsRX12_sign) := goodIn_sub (fun _ h => List.mem_cons_of_mem _ (List.mem_append_right _ h)) (gdV (by decide +kernel) gdwsRX12_sign)
theorem gdwsRX12_small : wsRX12_small.all goodWord = true := gdC rfl (gdA (gdA (by decide +kernel : ([.fieldLink RX12 7 "OptimaWorksModel" "big" "[I"] : List Cond).all goodWord = true) gdwsX120) (gdV (by decide +kernel) gdwsRX12_sign))
theorem hm_r_X12_small_0 : (.fieldLink RX12 7 "OptimaWorksModel" "big" "[I" : Cond) ∈ wsRX12_small := by decide +kernel
set_option maxHeartbeats 4000000 in
set_option maxRecDepth 100000 in
/-- small(s) -/
theorem r_X12_small (l : Launch) (dC : Nat → ClassId) (dI : Nat → Nat → Nat) (a : Nat → Nat) (k : Nat → ClassId) (h0 : Nat) (vi : Nat → Int32) (vj : Nat → Int64) (vF : Nat → Nat → Int32) (vG : Nat → Nat → Int64) (sn : Nat) (mg : Nat → Int) (hBg : Bg (vF 0) mg) (x : Int) (v_x : mg sn = x) (hs : sn < 1100) (sz : Nat) : Met l yX12_small wsRX12_small ({ frames := 1, cells := 0, slots := 0, locals := 21 }) (va_Pc [.ref h0, .int (nI sn)] (fun U => U.heap.size = sz ∧ va_P (dC, dI) vwCl (WR a k h0 vi vj vF vG) U.heap ∧ va_K (dC, dI) vwCl (tX12 k) U ∧ va_D (fun _ => True) (WR a k h0 vi vj vF vG))) (va_Qi (fun (r : Int32) (u : Unit) => (-268435456 < (r).toInt ∧ (r).toInt < 268435456) ∧ (x.natAbs < 268435456 → (r).toInt = x)) (fun (u : Unit) t => va_P (dC, dI) vwCl (WR a k h0 vi vj vF vG) t.heap ∧ va_D (va_A (WR a k h0 vi vj vF vG) sz) (WR a k h0 vi vj vF vG)) (va_A (WR a k h0 vi vj vF vG) sz)) 0 0 (va_A (WR a k h0 vi vj vF vG) sz) := by
  refine Met.ofW (cc := cX12_small) (maxL := 4) (ret := (some .int)) (by decide) rfl ?_
  intro p e s m args below meth c s₁ B hml hv
  obtain ⟨rfl, hsz, hP, hK, hD0⟩ := hv
  have hx := B.exec
  have hb := B.bytes
  have hr := B.returns
  have hts := atoms_spec (ws := wsRX12_small) B.pre
  have hown : s.vm.findClass RX12 = some m.cls := findClass_of_methodNamed B.named
  have hlocks := B.notSynchronized
  subst hsz
  have hD := hD0.self (sz := s.heap.size)
  generalize hAe : va_A (WR a k h0 vi vj vF vG) s.heap.size = A at hD ⊢
  have hA : ∀ q : Nat, s.heap.size ≤ q → A q := fun q h => by rw [← hAe]; exact Or.inr h
  have hS : va_S A s.heap s.heap [] := va_S.rf
  have hl := lv_entry ([.ref h0, .int (nI sn)]) (n := 4) (Nat.le_of_ble_eq_true rfl)
  rw [lg_entry_eq]
  generalize (lg_sl ([.ref h0, .int (nI sn)]) ++ List.replicate (4 - (lg_sl ([.ref h0, .int (nI sn)])).length) Slot.unset).toArray = ls at hl ⊢
  have hl : lv_has ls 4 [(0, .ref h0), (1, .int (nI sn))] := hl
  obtain ⟨na, hna1, hna2, hna3, hna4, hna5, hna6⟩ := hBg sn hs
  rw [v_x] at hna5 hna6
  refine lv_aload_n hx hb dX12_small_0 rfl (lv_at hl 0 rfl) ?_
  refine va_get (D := (dC, dI)) (ci := 12) (v := .ref (a 0)) (C := RX12) (T := TX12) (N := 163) (fs := fM (vS a vi vj)) hx hb hts iwsRX12_small_in12 hown hK hP 0 rfl rfl 1 (by decide) (hts _ hm_r_X12_small_0) (fun _ h9 => h9) rfl dX12_small_1 ?_
  refine lv_bipush (v := 24) hx hb dX12_small_4 (by decide) ?_
  refine lv_iload_n hx hb dX12_small_6 rfl (lv_at hl 1 rfl) ?_
  refine lv_imul hx hb dX12_small_7 ?_
  refine lv_topi (fun y1 hy1 => ?_)
  obtain rfl : (nI (24 * sn)) = y1 := (hy1.trans (pk_mul 24 sn)).symm
  refine lv_iconst (v := 1) hx hb dX12_small_8 (by decide) ?_
  refine lv_iadd hx hb dX12_small_9 ?_
  refine lv_topi (fun y2 hy2 => ?_)
  obtain rfl : (nI ((24 * sn) + 1)) = y2 := (hy2.trans (nI_add (24 * sn) 1)).symm
  refine va_iald (cA := k 0) (n := 26400) (f := (vF 0)) hx hb hK hP 1 0 (WR_get 0 (by decide)) (TR_get 0 (by decide)) (vp_in_nI (show ((24 * sn) + 1) < 26400 by omega) (by omega)) dX12_small_10 ?_
  refine lv_topi (fun y3 hy3 => ?_)
  obtain rfl : ((vF 0) ((24 * sn) + 1)) = y3 := (hy3.trans (by rw [nI_clamp (by omega)])).symm
  refine lv_topi (fun y4 hy4 => ?_)
  obtain rfl : (nI na) = y4 := (hy4.trans (hna2)).symm
  refine lv_istore_n hx hb dX12_small_11 rfl hl (by decide) rfl (fun ls (hl : lv_has ls _ ([(2, .int (nI na)), (0, .ref h0), (1, .int (nI sn))])) => ?_)
  refine lv_iload_n hx hb dX12_small_12 rfl (lv_at hl 0 rfl) ?_
  refine lv_if_ne (tgt := 20) hx hb dX12_small_13 (by decide) (fun c_13 => ?_) (fun c_13 => ?_)
  · have t_13 : ((na : Nat) : Int) ≠ 0 := toI_ne c_13 (nI_toInt (by omega)) (by decide)
    obtain ⟨l0, hl0, el0⟩ := hna3 0 (by omega)
    refine lv_aload_n hx hb dX12_small_20 rfl (lv_at hl 1 rfl) ?_
    refine va_get (D := (dC, dI)) (ci := 12) (v := .ref (a 0)) (C := RX12) (T := TX12) (N := 163) (fs := fM (vS a vi vj)) hx hb hts iwsRX12_small_in12 hown hK hP 0 rfl rfl 1 (by decide) (hts _ hm_r_X12_small_0) (fun _ h9 => h9) rfl dX12_small_21 ?_
    refine lv_bipush (v := 24) hx hb dX12_small_24 (by decide) ?_
    refine lv_iload_n hx hb dX12_small_26 rfl (lv_at hl 2 rfl) ?_
    refine lv_imul hx hb dX12_small_27 ?_
    refine lv_topi (fun y5 hy5 => ?_)
    obtain rfl : (nI (24 * sn)) = y5 := (hy5.trans (pk_mul 24 sn)).symm
    refine lv_iconst (v := 2) hx hb dX12_small_28 (by decide) ?_
    refine lv_iadd hx hb dX12_small_29 ?_
    refine lv_topi (fun y6 hy6 => ?_)
    obtain rfl : (nI ((24 * sn) + 2)) = y6 := (hy6.trans (nI_add (24 * sn) 2)).symm
    refine va_iald (cA := k 0) (n := 26400) (f := (vF 0)) hx hb hK hP 1 0 (WR_get 0 (by decide)) (TR_get 0 (by decide)) (vp_in_nI (show ((24 * sn) + 2) < 26400 by omega) (by omega)) dX12_small_30 ?_
    refine lv_topi (fun y7 hy7 => ?_)
    obtain rfl : ((vF 0) ((24 * sn) + 2)) = y7 := (hy7.trans (by rw [nI_clamp (by omega)])).symm
    refine lv_topi (fun y8 hy8 => ?_)
    obtain rfl : (nI l0) = y8 := (hy8.trans (el0)).symm
    refine lv_istore_n hx hb dX12_small_31 rfl hl (by decide) rfl (fun ls (hl : lv_has ls _ ([(3, .int (nI l0)), (2, .int (nI na)), (0, .ref h0), (1, .int (nI sn))])) => ?_)
    refine lv_aload_n hx hb dX12_small_32 rfl (lv_at hl 2 rfl) ?_
    refine lv_iload_n hx hb dX12_small_33 rfl (lv_at hl 3 rfl) ?_
    have hFc := allFree hD hS hA
    refine va_calli (va_runV (As := [.int (nI sn)]) (rest := []) ⟨hx, hb, hml, hown, hts⟩ (b_X12_sign l dC dI a k h0 vi vj vF vG sn mg hBg x (by rw [v_x]) (by first | with_reducible assumption | decide | omega | rfl | assumption) s.heap.size) (cwV 1 hts gwsRX12_small_0 rfl rfl rfl hd_yX12_sign_RX12 (by decide +kernel)) (fz_pre (va_recv hK hP (ci := 12) (q0 := 0) rfl rfl) hP hK hD) rfl rfl hl.1 rfl (lv_room (Nat.le_of_ble_eq_true rfl)) dX12_small_34 (by decide +kernel)) hS (fun q _ h => hFc q h) hFc (fun r34 u t9_ H locs ht hvm hw9 hB9 hz1 hk1 hS => ?_)
    have hP : va_P (dC, dI) vwCl (WR a k h0 vi vj vF vG) H := fz_P ht hB9.1
    have hD := fz_sd hP (hB9.2.weaken (fun _ q _ h => hFc q.1 h)) rfl
    have f34_0 := hw9
    try dsimp only at f34_0
    refine lv_iload_n hx hb dX12_small_37 rfl (lv_at hl 0 rfl) ?_
    refine lv_imul hx hb dX12_small_38 ?_
    refine W.widen (k := 0) (n := 0) (by decide +kernel) (by decide +kernel) ?_
    exact W.iret (v := (r34 * (nI l0))) hx hb hr (fun t9_ ht hW => ⟨⟨(r34 * (nI l0)), (), rfl, by (try dsimp only); (have e7 : (nI l0).toInt = (l0 : Int) := nI_toInt (by omega)); (have e8 : (r34 * nI l0).toInt = (r34).toInt * (nI l0).toInt := mulS3 (by omega) (by omega)); rw [e7] at e8; refine ⟨?_, fun hb => ?_⟩ <;> (try (have el := small_low (by omega) hna3 hna4 hna5 el0 hl0 hb)) <;> (have e6 : (r34).toInt = 0 ∨ (r34).toInt = 1 ∨ (r34).toInt = -1 := by omega) <;> rcases e6 with e6 | e6 | e6 <;> rw [e6] at e8 <;> omega, by rw [ht]; exact hP, hD⟩, hS.F ht⟩) hS.2.2 dX12_small_39
  · have t_13 : ((na : Nat) : Int) = 0 := toI_nne c_13 (nI_toInt (by omega)) (by decide)
    refine lv_iconst (v := 0) hx hb dX12_small_16 (by decide) ?_
    refine lv_goto (tgt := 31) hx hb dX12_small_17 (by decide) ?_
    refine lv_istore_n hx hb dX12_small_31 rfl hl (by decide) rfl (fun ls (hl : lv_has ls _ ([(3, .int 0), (2, .int (nI na)), (0, .ref h0), (1, .int (nI sn))])) => ?_)
    refine lv_aload_n hx hb dX12_small_32 rfl (lv_at hl 2 rfl) ?_
    refine lv_iload_n hx hb dX12_small_33 rfl (lv_at hl 3 rfl) ?_
    have hFc := allFree hD hS hA
    refine va_calli (va_runV (As := [.int (nI sn)]) (rest := []) ⟨hx, hb, hml, hown, hts⟩ (b_X12_sign l dC dI a k h0 vi vj vF vG sn mg hBg x (by rw [v_x]) (by first | with_reducible assumption | decide | omega | rfl | assumption) s.heap.size) (cwV 1 hts gwsRX12_small_0 rfl rfl rfl hd_yX12_sign_RX12 (by decide +kernel)) (fz_pre (va_recv hK hP (ci := 12) (q0 := 0) rfl rfl) hP hK hD) rfl rfl hl.1 rfl (lv_room (Nat.le_of_ble_eq_true rfl)) dX12_small_34 (by decide +kernel)) hS (fun q _ h => hFc q h) hFc (fun r34_1 u t9_ H locs ht hvm hw9 hB9 hz1 hk1 hS => ?_)
    have hP : va_P (dC, dI) vwCl (WR a k h0 vi vj vF vG) H := fz_P ht hB9.1
    have hD := fz_sd hP (hB9.2.weaken (fun _ q _ h => hFc q.1 h)) rfl
    have f34_1_0 := hw9
    try dsimp only at f34_1_0
    refine lv_iload_n hx hb dX12_small_37 rfl (lv_at hl 0 rfl) ?_
    refine lv_imul hx hb dX12_small_38 ?_
    refine W.widen (k := 0) (n := 0) (by decide +kernel) (by decide +kernel) ?_
    exact W.iret (v := (r34_1 * 0)) hx hb hr (fun t9_ ht hW => ⟨⟨(r34_1 * 0), (), rfl, by (try dsimp only); (have x0 : x = 0 := by (have e9 : x.natAbs = 0 := by rw [hna5, show na = 0 by omega]; rfl); omega); (have e8 : (r34_1 * 0).toInt = 0 := by rw [Int32.mul_zero]; decide); exact ⟨by omega, fun _ => by omega⟩, by rw [ht]; exact hP, hD⟩, hS.F ht⟩) hS.2.2 dX12_small_39
theorem dX12_common1_0 : decode cX12_common1 0 = .ok (.lload_n 0, 1) := dk_30 (by decide +kernel)
theorem dX12_common1_1 : decode cX12_common1 1 = .ok (.lconst 0, 1) := dk_9 (by decide +kernel)
theorem dX12_common1_2 : decode cX12_common1 2 = .ok (.lcmp, 1) := dk_148 (by decide +kernel)
theorem dX12_common1_3 : decode cX12_common1 3 = .ok (.ifCond .ge 8, 3) := dk_156 (by decide +kernel)
theorem dX12_common1_6 : decode cX12_common1 6 = .ok (.lload_n 0, 1) := dk_30 (by decide +kernel)
theorem dX12_common1_7 : decode cX12_common1 7 = .ok (.lneg, 1) := dk_117 (by decide +kernel)
theorem dX12_common1_8 : decode cX12_common1 8 = .ok (.goto 4, 3) := dk_167 (by decide +kernel)
theorem dX12_common1_11 : decode cX12_common1 11 = .ok (.lload_n 0, 1) := dk_30 (by decide +kernel)
theorem dX12_common1_12 : decode cX12_common1 12 = .ok (.lstore 4, 2) := dk_55 (by decide +kernel)
theorem dX12_common1_14 : decode cX12_common1 14 = .ok (.lload_n 2, 1) := dk_32 (by decide +kernel)
theorem dX12_common1_15 : decode cX12_common1 15 = .ok (.lconst 0, 1) := dk_9 (by decide +kernel)
theorem dX12_common1_16 : decode cX12_common1 16 = .ok (.lcmp, 1) := dk_148 (by decide +kernel)
theorem dX12_common1_17 : decode cX12_common1 17 = .ok (.ifCond .ge 8, 3) := dk_156 (by decide +kernel)
theorem dX12_common1_20 : decode cX12_common1 20 = .ok (.lload_n 2, 1) := dk_32 (by decide +kernel)
theorem dX12_common1_21 : decode cX12_common1 21 = .ok (.lneg, 1) := dk_117 (by decide +kernel)
theorem dX12_common1_22 : decode cX12_common1 22 = .ok (.goto 4, 3) := dk_167 (by decide +kernel)
theorem dX12_common1_25 : decode cX12_common1 25 = .ok (.lload_n 2, 1) := dk_32 (by decide +kernel)
theorem dX12_common1_26 : decode cX12_common1 26 = .ok (.lstore 6, 2) := dk_55 (by decide +kernel)
theorem dX12_common1_28 : decode cX12_common1 28 = .ok (.lload 6, 2) := dk_22 (by decide +kernel)
theorem dX12_common1_30 : decode cX12_common1 30 = .ok (.lconst 0, 1) := dk_9 (by decide +kernel)
theorem dX12_common1_31 : decode cX12_common1 31 = .ok (.lcmp, 1) := dk_148 (by decide +kernel)
theorem dX12_common1_32 : decode cX12_common1 32 = .ok (.ifCond .le 21, 3) := dk_158 (by decide +kernel)
theorem dX12_common1_35 : decode cX12_common1 35 = .ok (.lload 4, 2) := dk_22 (by decide +kernel)
theorem dX12_common1_37 : decode cX12_common1 37 = .ok (.lload 6, 2) := dk_22 (by decide +kernel)
theorem dX12_common1_39 : decode cX12_common1 39 = .ok (.lrem, 1) := dk_113 (by decide +kernel)
theorem dX12_common1_40 : decode cX12_common1 40 = .ok (.lstore 8, 2) := dk_55 (by decide +kernel)
theorem dX12_common1_42 : decode cX12_common1 42 = .ok (.lload 6, 2) := dk_22 (by decide +kernel)
theorem dX12_common1_44 : decode cX12_common1 44 = .ok (.lstore 4, 2) := dk_55 (by decide +kernel)
theorem dX12_common1_46 : decode cX12_common1 46 = .ok (.lload 8, 2) := dk_22 (by decide +kernel)
theorem dX12_common1_48 : decode cX12_common1 48 = .ok (.lstore 6, 2) := dk_55 (by decide +kernel)
theorem dX12_common1_50 : decode cX12_common1 50 = .ok (.goto (-22), 3) := dk_167 (by decide +kernel)
theorem dX12_common1_53 : decode cX12_common1 53 = .ok (.lload 4, 2) := dk_22 (by decide +kernel)
theorem dX12_common1_55 : decode cX12_common1 55 = .ok (.lreturn, 1) := dk_173 (by decide +kernel)
def wsRX12_common1 : List Cond := .code yX12_common1 cX12_common1 10 (some .long) :: ([])
theorem gdwsRX12_common1 : wsRX12_common1.all goodWord = true := gdC rfl (by decide +kernel : ([] : List Cond).all goodWord = true)
set_option maxHeartbeats 4000000 in
set_option maxRecDepth 100000 in
/-- common1(a, b) -/
theorem r_X12_common1 (l : Launch) (dC : Nat → ClassId) (dI : Nat → Nat → Nat) (xa : Int64) (xb : Int64) (hxa : -4611686018427387904 < xa.toInt ∧ xa.toInt < 4611686018427387904) (hxb : -4611686018427387904 < xb.toInt ∧ xb.toInt < 4611686018427387904) (sz : Nat) : Met l yX12_common1 wsRX12_common1 ({ frames := 0, cells := 0, slots := 0, locals := 0 }) (va_Pc [.long xa, .long xb] (fun U => U.heap.size = sz ∧ va_P (dC, dI) vwCl [] U.heap ∧ va_K (dC, dI) vwCl [] U ∧ va_D (fun _ => True) [])) (va_Ql (fun (r : Int64) (u : Unit) => ((r).toInt = ((Int.gcd (xa).toInt (xb).toInt : Nat) : Int))) (fun (u : Unit) t => True) (va_A [] sz)) 0 0 (va_A [] sz) := by
  refine Met.ofW (cc := cX12_common1) (maxL := 10) (ret := (some .long)) (by decide) rfl ?_
  intro p e s m args below meth c s₁ B hml hv
  obtain ⟨rfl, hsz, hP, hK, hD0⟩ := hv
  have hx := B.exec
  have hb := B.bytes
  have hr := B.returns
  have hts := atoms_spec (ws := wsRX12_common1) B.pre
  have hown : s.vm.findClass RX12 = some m.cls := findClass_of_methodNamed B.named
  have hlocks := B.notSynchronized
  subst hsz
  have hD := hD0.self (sz := s.heap.size)
  generalize hAe : va_A [] s.heap.size = A at hD ⊢
  have hA : ∀ q : Nat, s.heap.size ≤ q → A q := fun q h => by rw [← hAe]; exact Or.inr h
  have hS : va_S A s.heap s.heap [] := va_S.rf
  have hl := lv_entry ([.long xa, .long xb]) (n := 10) (Nat.le_of_ble_eq_true rfl)
  rw [lg_entry_eq]
  generalize (lg_sl ([.long xa, .long xb]) ++ List.replicate (10 - (lg_sl ([.long xa, .long xb])).length) Slot.unset).toArray = ls at hl ⊢
  have hl : lv_has ls 10 [(0, .long xa), (2, .long xb)] := hl
  refine lv_lload_n hx hb dX12_common1_0 rfl (lv_at hl 0 rfl) ?_
  refine lv_lconst (v := 0) hx hb dX12_common1_1 (by decide) ?_
  refine W.lcmp hx hb dX12_common1_2 ?_
  refine lv_if_ge (tgt := 11) hx hb dX12_common1_3 (by decide) (fun c_3 => ?_) (fun c_3 => ?_)
  · have t_3 : (xa).toInt ≥ 0 := toL_ge c_3 rfl (by decide)
    refine lv_lload_n hx hb dX12_common1_11 rfl (lv_at hl 0 rfl) ?_
    obtain ⟨n1, hn1⟩ : ∃ n1, n1 = xa.toInt.natAbs := ⟨_, rfl⟩
    refine lv_topl (fun y1 hy1 => ?_)
    obtain rfl : (lN n1) = y1 := (hy1.trans (by rw [hn1]; exact posL (by omega))).symm
    refine lv_lstore hx hb dX12_common1_12 hl (by decide) rfl (fun ls (hl : lv_has ls _ ([(4, .long (lN n1)), (0, .long xa), (2, .long xb)])) => ?_)
    refine lv_lload_n hx hb dX12_common1_14 rfl (lv_at hl 2 rfl) ?_
    refine lv_lconst (v := 0) hx hb dX12_common1_15 (by decide) ?_
    refine W.lcmp hx hb dX12_common1_16 ?_
    refine lv_if_ge (tgt := 25) hx hb dX12_common1_17 (by decide) (fun c_17 => ?_) (fun c_17 => ?_)
    · have t_17 : (xb).toInt ≥ 0 := toL_ge c_17 rfl (by decide)
      refine lv_lload_n hx hb dX12_common1_25 rfl (lv_at hl 2 rfl) ?_
      obtain ⟨n2, hn2⟩ : ∃ n2, n2 = xb.toInt.natAbs := ⟨_, rfl⟩
      refine lv_topl (fun y2 hy2 => ?_)
      obtain rfl : (lN n2) = y2 := (hy2.trans (by rw [hn2]; exact posL (by omega))).symm
      refine lv_lstore hx hb dX12_common1_26 hl (by decide) rfl (fun ls (hl : lv_has ls _ ([(6, .long (lN n2)), (4, .long (lN n1)), (0, .long xa), (2, .long xb)])) => ?_)
      have hl : lv_has _ _ ([(4, .long (lN n1)), (6, .long (lN n2))]) := lv_sub hl [1, 0] rfl
      refine (fun (loop : ∀ (n9 : Nat) (x : Nat) (y : Nat) (H : Heap) (locs : List Loc) (ls : Array Slot), (Nat.gcd x y = Int.gcd xa.toInt xb.toInt) → (x < 4611686018427387904) → (y < 4611686018427387904) →  (y < n9) → va_P (dC, dI) vwCl ([]) H → va_D A ([]) → va_S A s.heap H locs → lv_has ls 10 [(4, .long (lN x)), (6, .long (lN y))] → W p l e _ s m _ below meth c H locs 0 0 _ (F0 m 28 ls [])) => loop (n2 + 1) n1 n2 _ _ _ (by rw [hn1, hn2]; rfl) (by omega) (by omega) (by omega) hP hD hS hl) ?_
      intro n9
      induction n9 with
      | zero => intro x y H locs ls hg hx6 hy6 hf9; exact False.elim (by omega)
      | succ n9 ih28 =>
        intro x y H locs ls hg hx6 hy6 hf28 hP hD hS hl
        refine lv_lload hx hb dX12_common1_28 (lv_at hl 1 rfl) ?_
        refine lv_lconst (v := 0) hx hb dX12_common1_30 (by decide) ?_
        refine W.lcmp hx hb dX12_common1_31 ?_
        refine lv_if_le (tgt := 53) hx hb dX12_common1_32 (by decide) (fun c_32 => ?_) (fun c_32 => ?_)
        · have t_32 : ((y : Nat) : Int) ≤ 0 := toL_le c_32 (pk_lT (by omega)) (by decide)
          refine lv_lload hx hb dX12_common1_53 (lv_at hl 0 rfl) ?_
          refine W.widen (k := 0) (n := 0) (by decide +kernel) (by decide +kernel) ?_
          exact W.lret (v := (lN x)) hx hb hr (fun t9_ ht hW => ⟨⟨(lN x), (), rfl, by (try dsimp only); rw [pk_lT (by omega), ← hg, show y = 0 by omega, Nat.gcd_zero_right], trivial⟩, hS.F ht⟩) hS.2.2 dX12_common1_55
        · have t_32 : ¬ ((y : Nat) : Int) ≤ 0 := toL_nle c_32 (pk_lT (by omega)) (by decide)
          refine lv_lload hx hb dX12_common1_35 (lv_at hl 0 rfl) ?_
          refine lv_lload hx hb dX12_common1_37 (lv_at hl 1 rfl) ?_
          refine lv_lrem hx hb dX12_common1_39 (by exact lN_ne0 (by omega) (by omega)) ?_
          refine lv_topl (fun y3 hy3 => ?_)
          obtain rfl : (lN (x % y)) = y3 := (hy3.trans (lN_rem (a := x) (b := y) (by omega) (by omega) (by omega))).symm
          refine lv_lstore hx hb dX12_common1_40 hl (by decide) rfl (fun ls (hl : lv_has ls _ ([(8, .long (lN (x % y))), (4, .long (lN x)), (6, .long (lN y))])) => ?_)
          refine lv_lload hx hb dX12_common1_42 (lv_at hl 2 rfl) ?_
          refine lv_lstore hx hb dX12_common1_44 hl (by decide) rfl (fun ls (hl : lv_has ls _ ([(4, .long (lN y)), (8, .long (lN (x % y))), (6, .long (lN y))])) => ?_)
          refine lv_lload hx hb dX12_common1_46 (lv_at hl 1 rfl) ?_
          refine lv_lstore hx hb dX12_common1_48 hl (by decide) rfl (fun ls (hl : lv_has ls _ ([(6, .long (lN (x % y))), (4, .long (lN y)), (8, .long (lN (x % y)))])) => ?_)
          refine lv_goto (tgt := 28) hx hb dX12_common1_50 (by decide) ?_
          have hl : lv_has _ _ ([(4, .long (lN y)), (6, .long (lN (x % y)))]) := lv_sub hl [1, 0] rfl
          exact ih28 y (x % y) _ _ _ ((gcd_stepN x y).trans hg) (by omega) (by (have h9 := Nat.mod_lt x (show 0 < y by omega)); omega) (by (have h9 := Nat.mod_lt x (show 0 < y by omega)); omega) hP hD hS hl
    · have t_17 : ¬ (xb).toInt ≥ 0 := toL_nge c_17 rfl (by decide)
      refine lv_lload_n hx hb dX12_common1_20 rfl (lv_at hl 2 rfl) ?_
      refine lv_lneg hx hb dX12_common1_21 ?_
      refine lv_goto (tgt := 26) hx hb dX12_common1_22 (by decide) ?_
      obtain ⟨n2, hn2⟩ : ∃ n2, n2 = xb.toInt.natAbs := ⟨_, rfl⟩
      refine lv_topl (fun y4 hy4 => ?_)
      obtain rfl : (lN n2) = y4 := (hy4.trans (by rw [hn2]; exact negL (by omega) (by omega))).symm
      refine lv_lstore hx hb dX12_common1_26 hl (by decide) rfl (fun ls (hl : lv_has ls _ ([(6, .long (lN n2)), (4, .long (lN n1)), (0, .long xa), (2, .long xb)])) => ?_)
      have hl : lv_has _ _ ([(4, .long (lN n1)), (6, .long (lN n2))]) := lv_sub hl [1, 0] rfl
      refine (fun (loop : ∀ (n9 : Nat) (x : Nat) (y : Nat) (H : Heap) (locs : List Loc) (ls : Array Slot), (Nat.gcd x y = Int.gcd xa.toInt xb.toInt) → (x < 4611686018427387904) → (y < 4611686018427387904) →  (y < n9) → va_P (dC, dI) vwCl ([]) H → va_D A ([]) → va_S A s.heap H locs → lv_has ls 10 [(4, .long (lN x)), (6, .long (lN y))] → W p l e _ s m _ below meth c H locs 0 0 _ (F0 m 28 ls [])) => loop (n2 + 1) n1 n2 _ _ _ (by rw [hn1, hn2]; rfl) (by omega) (by omega) (by omega) hP hD hS hl) ?_
      intro n9
      induction n9 with
      | zero => intro x y H locs ls hg hx6 hy6 hf9; exact False.elim (by omega)
      | succ n9 ih28_1 =>
        intro x y H locs ls hg hx6 hy6 hf28_1 hP hD hS hl
        refine lv_lload hx hb dX12_common1_28 (lv_at hl 1 rfl) ?_
        refine lv_lconst (v := 0) hx hb dX12_common1_30 (by decide) ?_
        refine W.lcmp hx hb dX12_common1_31 ?_
        refine lv_if_le (tgt := 53) hx hb dX12_common1_32 (by decide) (fun c_32 => ?_) (fun c_32 => ?_)
        · have t_32 : ((y : Nat) : Int) ≤ 0 := toL_le c_32 (pk_lT (by omega)) (by decide)
          refine lv_lload hx hb dX12_common1_53 (lv_at hl 0 rfl) ?_
          refine W.widen (k := 0) (n := 0) (by decide +kernel) (by decide +kernel) ?_
          exact W.lret (v := (lN x)) hx hb hr (fun t9_ ht hW => ⟨⟨(lN x), (), rfl, by (try dsimp only); rw [pk_lT (by omega), ← hg, show y = 0 by omega, Nat.gcd_zero_right], trivial⟩, hS.F ht⟩) hS.2.2 dX12_common1_55
        · have t_32 : ¬ ((y : Nat) : Int) ≤ 0 := toL_nle c_32 (pk_lT (by omega)) (by decide)
          refine lv_lload hx hb dX12_common1_35 (lv_at hl 0 rfl) ?_
          refine lv_lload hx hb dX12_common1_37 (lv_at hl 1 rfl) ?_
          refine lv_lrem hx hb dX12_common1_39 (by exact lN_ne0 (by omega) (by omega)) ?_
          refine lv_topl (fun y5 hy5 => ?_)
          obtain rfl : (lN (x % y)) = y5 := (hy5.trans (lN_rem (a := x) (b := y) (by omega) (by omega) (by omega))).symm
          refine lv_lstore hx hb dX12_common1_40 hl (by decide) rfl (fun ls (hl : lv_has ls _ ([(8, .long (lN (x % y))), (4, .long (lN x)), (6, .long (lN y))])) => ?_)
          refine lv_lload hx hb dX12_common1_42 (lv_at hl 2 rfl) ?_
          refine lv_lstore hx hb dX12_common1_44 hl (by decide) rfl (fun ls (hl : lv_has ls _ ([(4, .long (lN y)), (8, .long (lN (x % y))), (6, .long (lN y))])) => ?_)
          refine lv_lload hx hb dX12_common1_46 (lv_at hl 1 rfl) ?_
          refine lv_lstore hx hb dX12_common1_48 hl (by decide) rfl (fun ls (hl : lv_has ls _ ([(6, .long (lN (x % y))), (4, .long (lN y)), (8, .long (lN (x % y)))])) => ?_)
          refine lv_goto (tgt := 28) hx hb dX12_common1_50 (by decide) ?_
          have hl : lv_has _ _ ([(4, .long (lN y)), (6, .long (lN (x % y)))]) := lv_sub hl [1, 0] rfl
          exact ih28_1 y (x % y) _ _ _ ((gcd_stepN x y).trans hg) (by omega) (by (have h9 := Nat.mod_lt x (show 0 < y by omega)); omega) (by (have h9 := Nat.mod_lt x (show 0 < y by omega)); omega) hP hD hS hl
  · have t_3 : ¬ (xa).toInt ≥ 0 := toL_nge c_3 rfl (by decide)
    refine lv_lload_n hx hb dX12_common1_6 rfl (lv_at hl 0 rfl) ?_
    refine lv_lneg hx hb dX12_common1_7 ?_
    refine lv_goto (tgt := 12) hx hb dX12_common1_8 (by decide) ?_
    obtain ⟨n1, hn1⟩ : ∃ n1, n1 = xa.toInt.natAbs := ⟨_, rfl⟩
    refine lv_topl (fun y6 hy6 => ?_)
    obtain rfl : (lN n1) = y6 := (hy6.trans (by rw [hn1]; exact negL (by omega) (by omega))).symm
    refine lv_lstore hx hb dX12_common1_12 hl (by decide) rfl (fun ls (hl : lv_has ls _ ([(4, .long (lN n1)), (0, .long xa), (2, .long xb)])) => ?_)
    refine lv_lload_n hx hb dX12_common1_14 rfl (lv_at hl 2 rfl) ?_
    refine lv_lconst (v := 0) hx hb dX12_common1_15 (by decide) ?_
    refine W.lcmp hx hb dX12_common1_16 ?_
    refine lv_if_ge (tgt := 25) hx hb dX12_common1_17 (by decide) (fun c_17 => ?_) (fun c_17 => ?_)
    · have t_17 : (xb).toInt ≥ 0 := toL_ge c_17 rfl (by decide)
      refine lv_lload_n hx hb dX12_common1_25 rfl (lv_at hl 2 rfl) ?_
      obtain ⟨n2, hn2⟩ : ∃ n2, n2 = xb.toInt.natAbs := ⟨_, rfl⟩
      refine lv_topl (fun y7 hy7 => ?_)
      obtain rfl : (lN n2) = y7 := (hy7.trans (by rw [hn2]; exact posL (by omega))).symm
      refine lv_lstore hx hb dX12_common1_26 hl (by decide) rfl (fun ls (hl : lv_has ls _ ([(6, .long (lN n2)), (4, .long (lN n1)), (0, .long xa), (2, .long xb)])) => ?_)
      have hl : lv_has _ _ ([(4, .long (lN n1)), (6, .long (lN n2))]) := lv_sub hl [1, 0] rfl
      refine (fun (loop : ∀ (n9 : Nat) (x : Nat) (y : Nat) (H : Heap) (locs : List Loc) (ls : Array Slot), (Nat.gcd x y = Int.gcd xa.toInt xb.toInt) → (x < 4611686018427387904) → (y < 4611686018427387904) →  (y < n9) → va_P (dC, dI) vwCl ([]) H → va_D A ([]) → va_S A s.heap H locs → lv_has ls 10 [(4, .long (lN x)), (6, .long (lN y))] → W p l e _ s m _ below meth c H locs 0 0 _ (F0 m 28 ls [])) => loop (n2 + 1) n1 n2 _ _ _ (by rw [hn1, hn2]; rfl) (by omega) (by omega) (by omega) hP hD hS hl) ?_
      intro n9
      induction n9 with
      | zero => intro x y H locs ls hg hx6 hy6 hf9; exact False.elim (by omega)
      | succ n9 ih28_2 =>
        intro x y H locs ls hg hx6 hy6 hf28_2 hP hD hS hl
        refine lv_lload hx hb dX12_common1_28 (lv_at hl 1 rfl) ?_
        refine lv_lconst (v := 0) hx hb dX12_common1_30 (by decide) ?_
        refine W.lcmp hx hb dX12_common1_31 ?_
        refine lv_if_le (tgt := 53) hx hb dX12_common1_32 (by decide) (fun c_32 => ?_) (fun c_32 => ?_)
        · have t_32 : ((y : Nat) : Int) ≤ 0 := toL_le c_32 (pk_lT (by omega)) (by decide)
          refine lv_lload hx hb dX12_common1_53 (lv_at hl 0 rfl) ?_
          refine W.widen (k := 0) (n := 0) (by decide +kernel) (by decide +kernel) ?_
          exact W.lret (v := (lN x)) hx hb hr (fun t9_ ht hW => ⟨⟨(lN x), (), rfl, by (try dsimp only); rw [pk_lT (by omega), ← hg, show y = 0 by omega, Nat.gcd_zero_right], trivial⟩, hS.F ht⟩) hS.2.2 dX12_common1_55
        · have t_32 : ¬ ((y : Nat) : Int) ≤ 0 := toL_nle c_32 (pk_lT (by omega)) (by decide)
          refine lv_lload hx hb dX12_common1_35 (lv_at hl 0 rfl) ?_
          refine lv_lload hx hb dX12_common1_37 (lv_at hl 1 rfl) ?_
          refine lv_lrem hx hb dX12_common1_39 (by exact lN_ne0 (by omega) (by omega)) ?_
          refine lv_topl (fun y8 hy8 => ?_)
          obtain rfl : (lN (x % y)) = y8 := (hy8.trans (lN_rem (a := x) (b := y) (by omega) (by omega) (by omega))).symm
          refine lv_lstore hx hb dX12_common1_40 hl (by decide) rfl (fun ls (hl : lv_has ls _ ([(8, .long (lN (x % y))), (4, .long (lN x)), (6, .long (lN y))])) => ?_)
          refine lv_lload hx hb dX12_common1_42 (lv_at hl 2 rfl) ?_
          refine lv_lstore hx hb dX12_common1_44 hl (by decide) rfl (fun ls (hl : lv_has ls _ ([(4, .long (lN y)), (8, .long (lN (x % y))), (6, .long (lN y))])) => ?_)
          refine lv_lload hx hb dX12_common1_46 (lv_at hl 1 rfl) ?_
          refine lv_lstore hx hb dX12_common1_48 hl (by decide) rfl (fun ls (hl : lv_has ls _ ([(6, .long (lN (x % y))), (4, .long (lN y)), (8, .long (lN (x % y)))])) => ?_)
          refine lv_goto (tgt := 28) hx hb dX12_common1_50 (by decide) ?_
          have hl : lv_has _ _ ([(4, .long (lN y)), (6, .long (lN (x % y)))]) := lv_sub hl [1, 0] rfl
          exact ih28_2 y (x % y) _ _ _ ((gcd_stepN x y).trans hg) (by omega) (by (have h9 := Nat.mod_lt x (show 0 < y by omega)); omega) (by (have h9 := Nat.mod_lt x (show 0 < y by omega)); omega) hP hD hS hl
    · have t_17 : ¬ (xb).toInt ≥ 0 := toL_nge c_17 rfl (by decide)
      refine lv_lload_n hx hb dX12_common1_20 rfl (lv_at hl 2 rfl) ?_
      refine lv_lneg hx hb dX12_common1_21 ?_
      refine lv_goto (tgt := 26) hx hb dX12_common1_22 (by decide) ?_
      obtain ⟨n2, hn2⟩ : ∃ n2, n2 = xb.toInt.natAbs := ⟨_, rfl⟩
      refine lv_topl (fun y9 hy9 => ?_)
      obtain rfl : (lN n2) = y9 := (hy9.trans (by rw [hn2]; exact negL (by omega) (by omega))).symm
      refine lv_lstore hx hb dX12_common1_26 hl (by decide) rfl (fun ls (hl : lv_has ls _ ([(6, .long (lN n2)), (4, .long (lN n1)), (0, .long xa), (2, .long xb)])) => ?_)
      have hl : lv_has _ _ ([(4, .long (lN n1)), (6, .long (lN n2))]) := lv_sub hl [1, 0] rfl
      refine (fun (loop : ∀ (n9 : Nat) (x : Nat) (y : Nat) (H : Heap) (locs : List Loc) (ls : Array Slot), (Nat.gcd x y = Int.gcd xa.toInt xb.toInt) → (x < 4611686018427387904) → (y < 4611686018427387904) →  (y < n9) → va_P (dC, dI) vwCl ([]) H → va_D A ([]) → va_S A s.heap H locs → lv_has ls 10 [(4, .long (lN x)), (6, .long (lN y))] → W p l e _ s m _ below meth c H locs 0 0 _ (F0 m 28 ls [])) => loop (n2 + 1) n1 n2 _ _ _ (by rw [hn1, hn2]; rfl) (by omega) (by omega) (by omega) hP hD hS hl) ?_
      intro n9
      induction n9 with
      | zero => intro x y H locs ls hg hx6 hy6 hf9; exact False.elim (by omega)
      | succ n9 ih28_3 =>
        intro x y H locs ls hg hx6 hy6 hf28_3 hP hD hS hl
        refine lv_lload hx hb dX12_common1_28 (lv_at hl 1 rfl) ?_
        refine lv_lconst (v := 0) hx hb dX12_common1_30 (by decide) ?_
        refine W.lcmp hx hb dX12_common1_31 ?_
        refine lv_if_le (tgt := 53) hx hb dX12_common1_32 (by decide) (fun c_32 => ?_) (fun c_32 => ?_)
        · have t_32 : ((y : Nat) : Int) ≤ 0 := toL_le c_32 (pk_lT (by omega)) (by decide)
          refine lv_lload hx hb dX12_common1_53 (lv_at hl 0 rfl) ?_
          refine W.widen (k := 0) (n := 0) (by decide +kernel) (by decide +kernel) ?_
          exact W.lret (v := (lN x)) hx hb hr (fun t9_ ht hW => ⟨⟨(lN x), (), rfl, by (try dsimp only); rw [pk_lT (by omega), ← hg, show y = 0 by omega, Nat.gcd_zero_right], trivial⟩, hS.F ht⟩) hS.2.2 dX12_common1_55
        · have t_32 : ¬ ((y : Nat) : Int) ≤ 0 := toL_nle c_32 (pk_lT (by omega)) (by decide)
          refine lv_lload hx hb dX12_common1_35 (lv_at hl 0 rfl) ?_
          refine lv_lload hx hb dX12_common1_37 (lv_at hl 1 rfl) ?_
          refine lv_lrem hx hb dX12_common1_39 (by exact lN_ne0 (by omega) (by omega)) ?_
          refine lv_topl (fun y10 hy10 => ?_)
          obtain rfl : (lN (x % y)) = y10 := (hy10.trans (lN_rem (a := x) (b := y) (by omega) (by omega) (by omega))).symm
          refine lv_lstore hx hb dX12_common1_40 hl (by decide) rfl (fun ls (hl : lv_has ls _ ([(8, .long (lN (x % y))), (4, .long (lN x)), (6, .long (lN y))])) => ?_)
          refine lv_lload hx hb dX12_common1_42 (lv_at hl 2 rfl) ?_
          refine lv_lstore hx hb dX12_common1_44 hl (by decide) rfl (fun ls (hl : lv_has ls _ ([(4, .long (lN y)), (8, .long (lN (x % y))), (6, .long (lN y))])) => ?_)
          refine lv_lload hx hb dX12_common1_46 (lv_at hl 1 rfl) ?_
          refine lv_lstore hx hb dX12_common1_48 hl (by decide) rfl (fun ls (hl : lv_has ls _ ([(6, .long (lN (x % y))), (4, .long (lN y)), (8, .long (lN (x % y)))])) => ?_)
          refine lv_goto (tgt := 28) hx hb dX12_common1_50 (by decide) ?_
          have hl : lv_has _ _ ([(4, .long (lN y)), (6, .long (lN (x % y)))]) := lv_sub hl [1, 0] rfl
          exact ih28_3 y (x % y) _ _ _ ((gcd_stepN x y).trans hg) (by omega) (by (have h9 := Nat.mod_lt x (show 0 < y by omega)); omega) (by (have h9 := Nat.mod_lt x (show 0 < y by omega)); omega) hP hD hS hl
end
section
theorem hd_yX12_at_RX12 : yX12_at.cls = RX12 ∧ yX12_at.cls ≠ "java/lang/invoke/MethodHandle" ∧ yX12_at.cls ≠ "java/lang/invoke/VarHandle" ∧ (parseMethodDescriptor yX12_at.desc).map (fun d => d.parameters.length) = some 2 := by decide +kernel
theorem hd_yX12_newRow_RX12 : yX12_newRow.cls = RX12 ∧ yX12_newRow.cls ≠ "java/lang/invoke/MethodHandle" ∧ yX12_newRow.cls ≠ "java/lang/invoke/VarHandle" ∧ (parseMethodDescriptor yX12_newRow.desc).map (fun d => d.parameters.length) = some 0 := by decide +kernel
theorem hd_yX12_goalRow_RX12 : yX12_goalRow.cls = RX12 ∧ yX12_goalRow.cls ≠ "java/lang/invoke/MethodHandle" ∧ yX12_goalRow.cls ≠ "java/lang/invoke/VarHandle" ∧ (parseMethodDescriptor yX12_goalRow.desc).map (fun d => d.parameters.length) = some 0 := by decide +kernel
theorem dX12_begin_0 : decode cX12_begin 0 = .ok (.aload_n 0, 1) := dk_42 (by decide +kernel)
theorem dX12_begin_1 : decode cX12_begin 1 = .ok (.iload_n 1, 1) := dk_27 (by decide +kernel)
theorem dX12_begin_2 : decode cX12_begin 2 = .ok (.iconst 1, 1) := dk_4 (by decide +kernel)
theorem dX12_begin_3 : decode cX12_begin 3 = .ok (.iadd, 1) := dk_96 (by decide +kernel)
theorem dX12_begin_4 : decode cX12_begin 4 = .ok (.putfield 396, 3) := dk_181 (by decide +kernel)
theorem dX12_begin_7 : decode cX12_begin 7 = .ok (.aload_n 0, 1) := dk_42 (by decide +kernel)
theorem dX12_begin_8 : decode cX12_begin 8 = .ok (.iconst 0, 1) := dk_3 (by decide +kernel)
theorem dX12_begin_9 : decode cX12_begin 9 = .ok (.putfield 399, 3) := dk_181 (by decide +kernel)
theorem dX12_begin_12 : decode cX12_begin 12 = .ok (.aload_n 0, 1) := dk_42 (by decide +kernel)
theorem dX12_begin_13 : decode cX12_begin 13 = .ok (.iconst 0, 1) := dk_3 (by decide +kernel)
theorem dX12_begin_14 : decode cX12_begin 14 = .ok (.putfield 402, 3) := dk_181 (by decide +kernel)
theorem dX12_begin_17 : decode cX12_begin 17 = .ok (.aload_n 0, 1) := dk_42 (by decide +kernel)
theorem dX12_begin_18 : decode cX12_begin 18 = .ok (.bipush 20, 2) := dk_16 (by decide +kernel)
theorem dX12_begin_20 : decode cX12_begin 20 = .ok (.lconst 1, 1) := dk_10 (by decide +kernel)
theorem dX12_begin_21 : decode cX12_begin 21 = .ok (.invokevirtual 369, 3) := dk_182 (by decide +kernel)
theorem dX12_begin_24 : decode cX12_begin 24 = .ok (.iconst 0, 1) := dk_3 (by decide +kernel)
theorem dX12_begin_25 : decode cX12_begin 25 = .ok (.istore_n 2, 1) := dk_61 (by decide +kernel)
theorem dX12_begin_26 : decode cX12_begin 26 = .ok (.iload_n 2, 1) := dk_28 (by decide +kernel)
theorem dX12_begin_27 : decode cX12_begin 27 = .ok (.aload_n 0, 1) := dk_42 (by decide +kernel)
theorem dX12_begin_28 : decode cX12_begin 28 = .ok (.getfield 396, 3) := dk_180 (by decide +kernel)
theorem dX12_begin_31 : decode cX12_begin 31 = .ok (.if_icmp .ge 23, 3) := dk_162 (by decide +kernel)
theorem dX12_begin_34 : decode cX12_begin 34 = .ok (.aload_n 0, 1) := dk_42 (by decide +kernel)
theorem dX12_begin_35 : decode cX12_begin 35 = .ok (.getfield 23, 3) := dk_180 (by decide +kernel)
theorem dX12_begin_38 : decode cX12_begin 38 = .ok (.iload_n 2, 1) := dk_28 (by decide +kernel)
theorem dX12_begin_39 : decode cX12_begin 39 = .ok (.iload_n 2, 1) := dk_28 (by decide +kernel)
theorem dX12_begin_40 : decode cX12_begin 40 = .ok (.iastore, 1) := dk_79 (by decide +kernel)
theorem dX12_begin_41 : decode cX12_begin 41 = .ok (.aload_n 0, 1) := dk_42 (by decide +kernel)
theorem dX12_begin_42 : decode cX12_begin 42 = .ok (.getfield 29, 3) := dk_180 (by decide +kernel)
theorem dX12_begin_45 : decode cX12_begin 45 = .ok (.iload_n 2, 1) := dk_28 (by decide +kernel)
theorem dX12_begin_46 : decode cX12_begin 46 = .ok (.iconst 0, 1) := dk_3 (by decide +kernel)
theorem dX12_begin_47 : decode cX12_begin 47 = .ok (.bastore, 1) := dk_84 (by decide +kernel)
theorem dX12_begin_48 : decode cX12_begin 48 = .ok (.iinc 2 1, 3) := dk_132 (by decide +kernel)
theorem dX12_begin_51 : decode cX12_begin 51 = .ok (.goto (-25), 3) := dk_167 (by decide +kernel)
theorem dX12_begin_54 : decode cX12_begin 54 = .ok (.return_, 1) := dk_177 (by decide +kernel)
def wsRX12_begin : List Cond := .code yX12_begin cX12_begin 3 none :: ([.fieldLink RX12 396 "OptimaWorksModel" "columns" "I", .fieldLink RX12 399 "OptimaWorksModel" "rows" "I", .fieldLink RX12 402 "OptimaWorksModel" "goals" "I", .fieldLink RX12 23 "OptimaWorksModel" "columnOf" "[I", .fieldLink RX12 29 "OptimaWorksModel" "still" "[Z"] ++ wsX120 ++ (wsV RX12 369 RX12 yX12_put wsRX12_put))
theorem iwsRX12_begin_in12 : ∀ w ∈ wsX120, w ∈ wsRX12_begin := fun _ h => List.mem_cons_of_mem _ (List.mem_append_left _ (List.mem_append_right _ h))
theorem gwsRX12_begin_0 : GoodIn wsRX12_begin (wsV RX12 369 RX12 yX12_put wsRX12_put) := goodIn_sub (fun _ h => List.mem_cons_of_mem _ (List.mem_append_right _ h)) (gdV (by decide +kernel) gdwsRX12_put)
theorem gdwsRX12_begin : wsRX12_begin.all goodWord = true := gdC rfl (gdA (gdA (by decide +kernel : ([.fieldLink RX12 396 "OptimaWorksModel" "columns" "I", .fieldLink RX12 399 "OptimaWorksModel" "rows" "I", .fieldLink RX12 402 "OptimaWorksModel" "goals" "I", .fieldLink RX12 23 "OptimaWorksModel" "columnOf" "[I", .fieldLink RX12 29 "OptimaWorksModel" "still" "[Z"] : List Cond).all goodWord = true) gdwsX120) (gdV (by decide +kernel) gdwsRX12_put))
theorem hm_r_X12_begin_0 : (.fieldLink RX12 396 "OptimaWorksModel" "columns" "I" : Cond) ∈ wsRX12_begin := by decide +kernel
set_option maxHeartbeats 4000000 in
set_option maxRecDepth 100000 in
/-- begin(things) -/
theorem r_X12_begin (l : Launch) (dC : Nat → ClassId) (dI : Nat → Nat → Nat) (a : Nat → Nat) (k : Nat → ClassId) (h0 : Nat) (vi : Nat → Int32) (vj : Nat → Int64) (vF : Nat → Nat → Int32) (vG : Nat → Nat → Int64) (n0 : Nat) (mg : Nat → Int) (hBg : Bg (vF 0) mg) (hn0 : n0 < 45) (sz : Nat) : Met l yX12_begin wsRX12_begin ({ frames := 1, cells := 0, slots := 0, locals := 27 }) (va_Pc [.ref h0, .int (nI n0)] (fun U => U.heap.size = sz ∧ va_P (dC, dI) vwCl (WR a k h0 vi vj vF vG) U.heap ∧ va_K (dC, dI) vwCl (tX12 k) U ∧ va_D (fun _ => True) (WR a k h0 vi vj vF vG))) (va_Qv (fun (u : (Nat → Int32) × (Nat → Int32) × (Nat → Int32)) => (Bg (u.1) (fT mg 20 1)) ∧ (∀ j, j < n0 + 1 → (u.2.1) j = nI j) ∧ (∀ j, j < n0 + 1 → (u.2.2) j = 0)) (fun (u : (Nat → Int32) × (Nat → Int32) × (Nat → Int32)) t => va_P (dC, dI) vwCl (WR a k h0 (fT (fT (fT vi 5 (nI (n0 + 1))) 6 0) 7 0) vj (fT (fT (fT vF 0 (u.1)) 4 (u.2.1)) 6 (u.2.2)) vG) t.heap ∧ va_D (va_A (WR a k h0 vi vj vF vG) sz) (WR a k h0 (fT (fT (fT vi 5 (nI (n0 + 1))) 6 0) 7 0) vj (fT (fT (fT vF 0 (u.1)) 4 (u.2.1)) 6 (u.2.2)) vG)) (va_A (WR a k h0 vi vj vF vG) sz)) 0 0 (va_A (WR a k h0 vi vj vF vG) sz) := by
  refine Met.ofW (cc := cX12_begin) (maxL := 3) (ret := none) (by decide) rfl ?_
  intro p e s m args below meth c s₁ B hml hv
  obtain ⟨rfl, hsz, hP, hK, hD0⟩ := hv
  have hx := B.exec
  have hb := B.bytes
  have hr := B.returns
  have hts := atoms_spec (ws := wsRX12_begin) B.pre
  have hown : s.vm.findClass RX12 = some m.cls := findClass_of_methodNamed B.named
  have hlocks := B.notSynchronized
  subst hsz
  have hD := hD0.self (sz := s.heap.size)
  generalize hAe : va_A (WR a k h0 vi vj vF vG) s.heap.size = A at hD ⊢
  have hA : ∀ q : Nat, s.heap.size ≤ q → A q := fun q h => by rw [← hAe]; exact Or.inr h
  have hS : va_S A s.heap s.heap [] := va_S.rf
  have hl := lv_entry ([.ref h0, .int (nI n0)]) (n := 3) (Nat.le_of_ble_eq_true rfl)
  rw [lg_entry_eq]
  generalize (lg_sl ([.ref h0, .int (nI n0)]) ++ List.replicate (3 - (lg_sl ([.ref h0, .int (nI n0)])).length) Slot.unset).toArray = ls at hl ⊢
  have hl : lv_has ls 3 [(0, .ref h0), (1, .int (nI n0))] := hl
  refine lv_aload_n hx hb dX12_begin_0 rfl (lv_at hl 0 rfl) ?_
  refine lv_iload_n hx hb dX12_begin_1 rfl (lv_at hl 1 rfl) ?_
  refine lv_iconst (v := 1) hx hb dX12_begin_2 (by decide) ?_
  refine lv_iadd hx hb dX12_begin_3 ?_
  refine lv_topi (fun y1 hy1 => ?_)
  obtain rfl : (nI (n0 + 1)) = y1 := (hy1.trans (nI_add n0 1)).symm
  refine va_put (D := (dC, dI)) (ci := 12) (v := .int (nI (n0 + 1))) (ty := .int) (C := RX12) (T := TX12) (N := 163) (fs := fM (vS a vi vj)) hx hb hts iwsRX12_begin_in12 tyX12 tyX12_ok nmX12 hown hK hP hD hS 0 rfl rfl 5 (by decide) (hts _ hm_r_X12_begin_0) (fun _ h9 => h9) rfl (by decide +kernel) rfl rfl (Nat.le_of_ble_eq_true rfl) dX12_begin_4 (fun H locs hP hD hS => ?_)
  have hP : va_P (dC, dI) vwCl (WR a k h0 (fT vi 5 (nI (n0 + 1))) vj vF vG) H := fz_w (WR_i 5 _ rfl) hP
  have hD : va_D A (WR a k h0 (fT vi 5 (nI (n0 + 1))) vj vF vG) := fz_wD (WR_i 5 _ rfl) hD
  refine lv_aload_n hx hb dX12_begin_7 rfl (lv_at hl 0 rfl) ?_
  refine lv_iconst (v := 0) hx hb dX12_begin_8 (by decide) ?_
  refine va_put (D := (dC, dI)) (ci := 12) (v := .int 0) (ty := .int) (C := RX12) (T := TX12) (N := 163) (fs := fM (vS a (fT vi 5 (nI (n0 + 1))) vj)) hx hb hts iwsRX12_begin_in12 tyX12 tyX12_ok nmX12 hown hK hP hD hS 0 rfl rfl 6 (by decide) (hts (.fieldLink RX12 399 "OptimaWorksModel" "rows" "I") (by decide +kernel)) (fun _ h9 => h9) rfl (by decide +kernel) rfl rfl (Nat.le_of_ble_eq_true rfl) dX12_begin_9 (fun H locs hP hD hS => ?_)
  have hP : va_P (dC, dI) vwCl (WR a k h0 (fT (fT vi 5 (nI (n0 + 1))) 6 0) vj vF vG) H := fz_w (WR_i 6 _ rfl) hP
  have hD : va_D A (WR a k h0 (fT (fT vi 5 (nI (n0 + 1))) 6 0) vj vF vG) := fz_wD (WR_i 6 _ rfl) hD
  refine lv_aload_n hx hb dX12_begin_12 rfl (lv_at hl 0 rfl) ?_
  refine lv_iconst (v := 0) hx hb dX12_begin_13 (by decide) ?_
  refine va_put (D := (dC, dI)) (ci := 12) (v := .int 0) (ty := .int) (C := RX12) (T := TX12) (N := 163) (fs := fM (vS a (fT (fT vi 5 (nI (n0 + 1))) 6 0) vj)) hx hb hts iwsRX12_begin_in12 tyX12 tyX12_ok nmX12 hown hK hP hD hS 0 rfl rfl 7 (by decide) (hts (.fieldLink RX12 402 "OptimaWorksModel" "goals" "I") (by decide +kernel)) (fun _ h9 => h9) rfl (by decide +kernel) rfl rfl (Nat.le_of_ble_eq_true rfl) dX12_begin_14 (fun H locs hP hD hS => ?_)
  have hP : va_P (dC, dI) vwCl (WR a k h0 (fT (fT (fT vi 5 (nI (n0 + 1))) 6 0) 7 0) vj vF vG) H := fz_w (WR_i 7 _ rfl) hP
  have hD : va_D A (WR a k h0 (fT (fT (fT vi 5 (nI (n0 + 1))) 6 0) 7 0) vj vF vG) := fz_wD (WR_i 7 _ rfl) hD
  refine lv_aload_n hx hb dX12_begin_17 rfl (lv_at hl 0 rfl) ?_
  refine lv_bipush (v := 20) hx hb dX12_begin_18 (by decide) ?_
  refine lv_lconst (v := 1) hx hb dX12_begin_20 (by decide) ?_
  have hFc := allFree hD hS hA
  refine va_callv (va_runV (As := [.int 20, .long 1]) (rest := []) ⟨hx, hb, hml, hown, hts⟩ (b_X12_put l dC dI a k h0 (fT (fT (fT vi 5 (nI (n0 + 1))) 6 0) 7 0) vj vF vG 20 1 1 mg hBg (by first | with_reducible assumption | decide | omega | rfl | assumption) (by decide) (by first | with_reducible assumption | decide | omega | rfl | assumption) H.size) (cwV 2 hts gwsRX12_begin_0 rfl rfl rfl hd_yX12_put_RX12 (by decide +kernel)) (fz_pre (va_recv hK hP (ci := 12) (q0 := 0) rfl rfl) hP hK hD) rfl rfl hl.1 rfl (lv_room (Nat.le_of_ble_eq_true rfl)) dX12_begin_21 (by decide +kernel)) hS (fun q _ h => hFc q h) hFc (fun g21 t9_ H locs ht hvm hw9 hB9 hz1 hk1 hS => ?_)
  have hP : va_P (dC, dI) vwCl (WR a k h0 (fT (fT (fT vi 5 (nI (n0 + 1))) 6 0) 7 0) vj (fT vF 0 g21) vG) H := fz_P ht hB9.1
  have hD := fz_sd hP (hB9.2.weaken (fun _ q _ h => hFc q.1 h)) rfl
  have f21_0 := hw9
  try dsimp only at f21_0
  refine lv_iconst (v := 0) hx hb dX12_begin_24 (by decide) ?_
  refine lv_istore_n hx hb dX12_begin_25 rfl hl (by decide) rfl (fun ls (hl : lv_has ls _ ([(2, .int 0), (0, .ref h0), (1, .int (nI n0))])) => ?_)
  have e9 : fT (fT (fT vF 0 g21) 4 (vF 4)) 6 (vF 6) = fT vF 0 g21 := Eq.trans (mv_1 rfl) (Eq.trans (id_2 rfl) (id_1 rfl))
  have hP := wr_PF e9 hP
  have hD := wr_DF e9 hD
  clear e9
  have hl : lv_has _ _ ([(2, .int (nI 0)), (0, .ref h0)]) := lv_sub hl [0, 1] rfl
  refine (fun (loop : ∀ (n9 : Nat) (i : Nat) (f4 : Nat → Int32) (f6 : Nat → Int32) (H : Heap) (locs : List Loc) (ls : Array Slot), (i ≤ n0 + 1) → (∀ j, j < i → f4 j = nI j) → (∀ j, j < i → f6 j = 0) →  (n0 + 1 < i + n9) → va_P (dC, dI) vwCl (WR a k h0 (fT (fT (fT vi 5 (nI (n0 + 1))) 6 0) 7 0) vj (fT (fT (fT vF 0 g21) 4 f4) 6 f6) vG) H → va_D A (WR a k h0 (fT (fT (fT vi 5 (nI (n0 + 1))) 6 0) 7 0) vj (fT (fT (fT vF 0 g21) 4 f4) 6 f6) vG) → va_S A s.heap H locs → lv_has ls 3 [(2, .int (nI i)), (0, .ref h0)] → W p l e _ s m _ below meth c H locs 0 0 _ (F0 m 26 ls [])) => loop (n0 + 2) 0 (vF 4) (vF 6) _ _ _ (by omega) (fun j hj => absurd hj (by omega)) (fun j hj => absurd hj (by omega)) (by omega) hP hD hS hl) ?_
  intro n9
  induction n9 with
  | zero => intro i f4 f6 H locs ls hi h4 h6 hf9; exact False.elim (by omega)
  | succ n9 ih26 =>
    intro i f4 f6 H locs ls hi h4 h6 hf26 hP hD hS hl
    refine lv_iload_n hx hb dX12_begin_26 rfl (lv_at hl 0 rfl) ?_
    refine lv_aload_n hx hb dX12_begin_27 rfl (lv_at hl 1 rfl) ?_
    refine va_get (D := (dC, dI)) (ci := 12) (v := .int (nI (n0 + 1))) (C := RX12) (T := TX12) (N := 163) (fs := fM (vS a (fT (fT (fT vi 5 (nI (n0 + 1))) 6 0) 7 0) vj)) hx hb hts iwsRX12_begin_in12 hown hK hP 0 rfl rfl 5 (by decide) (hts _ hm_r_X12_begin_0) (fun _ h9 => h9) rfl dX12_begin_28 ?_
    refine lv_icmp_ge (tgt := 54) hx hb dX12_begin_31 (by decide) (fun c_31 => ?_) (fun c_31 => ?_)
    · have t_31 : ((i : Nat) : Int) ≥ (((n0 + 1) : Nat) : Int) := toI_ge c_31 (nI_toInt (by omega)) (nI_toInt (by omega))
      refine W.widen (k := 0) (n := 0) (by decide +kernel) (by decide +kernel) ?_
      exact W.vret hx hb hr (fun t9_ ht hW => ⟨⟨(g21, f4, f6), rfl, by (try dsimp only); exact ⟨f21_0, fun j hj => h4 j (by omega), fun j hj => h6 j (by omega)⟩, by rw [ht]; exact hP, hD⟩, hS.F ht⟩) hS.2.2 dX12_begin_54
    · have t_31 : ¬ ((i : Nat) : Int) ≥ (((n0 + 1) : Nat) : Int) := toI_nge c_31 (nI_toInt (by omega)) (nI_toInt (by omega))
      refine lv_aload_n hx hb dX12_begin_34 rfl (lv_at hl 1 rfl) ?_
      refine va_get (D := (dC, dI)) (ci := 12) (v := .ref (a 4)) (C := RX12) (T := TX12) (N := 163) (fs := fM (vS a (fT (fT (fT vi 5 (nI (n0 + 1))) 6 0) 7 0) vj)) hx hb hts iwsRX12_begin_in12 hown hK hP 0 rfl rfl 8 (by decide) (hts (.fieldLink RX12 23 "OptimaWorksModel" "columnOf" "[I") (by decide +kernel)) (fun _ h9 => h9) rfl dX12_begin_35 ?_
      refine lv_iload_n hx hb dX12_begin_38 rfl (lv_at hl 0 rfl) ?_
      refine lv_iload_n hx hb dX12_begin_39 rfl (lv_at hl 0 rfl) ?_
      refine va_iast (cA := k 4) (n := 46) (f := f4) hx hb hK hP hD hS 5 4 (WR_get 4 (by decide)) (TR_get 4 (by decide)) (vp_in_nI (show i < 46 by omega) (by omega)) dX12_begin_40 (fun H locs hP hD hS => ?_)
      have e9 : fT (fT (fT vF 0 g21) 4 (upd f4 ((nI i)).toNatClampNeg (nI i))) 6 f6 = fT (fT (fT (fT vF 0 g21) 4 f4) 6 f6) 4 (upd f4 ((nI i)).toNatClampNeg (nI i)) := ((fT_sw _ _ _ (Nat.ne_of_beq_eq_false rfl)).trans (congrArg (fun g9 => fT g9 6 f6) (fT_sm _ _ _ _))).symm
      have hP := wr_PF e9 (fz_w (WR_F 4 (by decide) _ rfl) hP)
      have hD := wr_DF e9 (fz_wD (WR_F 4 (by decide) _ rfl) hD)
      clear e9
      refine lv_aload_n hx hb dX12_begin_41 rfl (lv_at hl 1 rfl) ?_
      refine va_get (D := (dC, dI)) (ci := 12) (v := .ref (a 6)) (C := RX12) (T := TX12) (N := 163) (fs := fM (vS a (fT (fT (fT vi 5 (nI (n0 + 1))) 6 0) 7 0) vj)) hx hb hts iwsRX12_begin_in12 hown hK hP 0 rfl rfl 10 (by decide) (hts (.fieldLink RX12 29 "OptimaWorksModel" "still" "[Z") (by decide +kernel)) (fun _ h9 => h9) rfl dX12_begin_42 ?_
      refine lv_iload_n hx hb dX12_begin_45 rfl (lv_at hl 0 rfl) ?_
      refine lv_iconst (v := 0) hx hb dX12_begin_46 (by decide) ?_
      refine va_zast (cA := k 6) (n := 46) (f := f6) hx hb hK hP hD hS 7 6 (WR_get 6 (by decide)) (TR_get 6 (by decide)) (vp_in_nI (show i < 46 by omega) (by omega)) dX12_begin_47 (fun H locs hP hD hS => ?_)
      have e9 : fT (fT (fT vF 0 g21) 4 (upd f4 ((nI i)).toNatClampNeg (nI i))) 6 (upd f6 ((nI i)).toNatClampNeg (vp_nar FieldType.boolean 0)) = fT (fT (fT (fT vF 0 g21) 4 (upd f4 ((nI i)).toNatClampNeg (nI i))) 6 f6) 6 (upd f6 ((nI i)).toNatClampNeg (vp_nar FieldType.boolean 0)) := (fT_sm _ _ _ _).symm
      have hP := wr_PF e9 (fz_w (WR_F 6 (by decide) _ rfl) hP)
      have hD := wr_DF e9 (fz_wD (WR_F 6 (by decide) _ rfl) hD)
      clear e9
      refine lv_iinc (v := (nI (i + 1))) hx hb dX12_begin_48 hl (k := 0) rfl (nI_add i 1) (by decide) rfl (fun ls (hl : lv_has ls _ ([(2, .int (nI (i + 1))), (0, .ref h0)])) => ?_)
      refine lv_goto (tgt := 26) hx hb dX12_begin_51 (by decide) ?_
      have hl : lv_has _ _ ([(2, .int (nI (i + 1))), (0, .ref h0)]) := lv_sub hl [0, 1] rfl
      exact ih26 (i + 1) (upd f4 ((nI i)).toNatClampNeg (nI i)) (upd f6 ((nI i)).toNatClampNeg (vp_nar FieldType.boolean 0)) _ _ _ (by omega) (fun j hj => by rw [upd_at (by omega)]; by_cases e9 : j = i; (rw [if_pos e9, e9]); (rw [if_neg e9]; exact h4 j (by omega))) (fun j hj => by rw [upd_at (by omega)]; by_cases e9 : j = i; (rw [if_pos e9]; rfl); (rw [if_neg e9]; exact h6 j (by omega))) (by omega) hP hD hS hl
theorem dX12_newRow_0 : decode cX12_newRow 0 = .ok (.aload_n 0, 1) := dk_42 (by decide +kernel)
theorem dX12_newRow_1 : decode cX12_newRow 1 = .ok (.getfield 399, 3) := dk_180 (by decide +kernel)
theorem dX12_newRow_4 : decode cX12_newRow 4 = .ok (.aload_n 0, 1) := dk_42 (by decide +kernel)
theorem dX12_newRow_5 : decode cX12_newRow 5 = .ok (.getfield 402, 3) := dk_180 (by decide +kernel)
theorem dX12_newRow_8 : decode cX12_newRow 8 = .ok (.iadd, 1) := dk_96 (by decide +kernel)
theorem dX12_newRow_9 : decode cX12_newRow 9 = .ok (.istore_n 1, 1) := dk_60 (by decide +kernel)
theorem dX12_newRow_10 : decode cX12_newRow 10 = .ok (.iconst 0, 1) := dk_3 (by decide +kernel)
theorem dX12_newRow_11 : decode cX12_newRow 11 = .ok (.istore_n 2, 1) := dk_61 (by decide +kernel)
theorem dX12_newRow_12 : decode cX12_newRow 12 = .ok (.iload_n 2, 1) := dk_28 (by decide +kernel)
theorem dX12_newRow_13 : decode cX12_newRow 13 = .ok (.aload_n 0, 1) := dk_42 (by decide +kernel)
theorem dX12_newRow_14 : decode cX12_newRow 14 = .ok (.getfield 396, 3) := dk_180 (by decide +kernel)
theorem dX12_newRow_17 : decode cX12_newRow 17 = .ok (.if_icmp .gt 20, 3) := dk_163 (by decide +kernel)
theorem dX12_newRow_20 : decode cX12_newRow 20 = .ok (.aload_n 0, 1) := dk_42 (by decide +kernel)
theorem dX12_newRow_21 : decode cX12_newRow 21 = .ok (.aload_n 0, 1) := dk_42 (by decide +kernel)
theorem dX12_newRow_22 : decode cX12_newRow 22 = .ok (.iload_n 1, 1) := dk_27 (by decide +kernel)
theorem dX12_newRow_23 : decode cX12_newRow 23 = .ok (.iload_n 2, 1) := dk_28 (by decide +kernel)
theorem dX12_newRow_24 : decode cX12_newRow 24 = .ok (.invokevirtual 405, 3) := dk_182 (by decide +kernel)
theorem dX12_newRow_27 : decode cX12_newRow 27 = .ok (.lconst 0, 1) := dk_9 (by decide +kernel)
theorem dX12_newRow_28 : decode cX12_newRow 28 = .ok (.invokevirtual 369, 3) := dk_182 (by decide +kernel)
theorem dX12_newRow_31 : decode cX12_newRow 31 = .ok (.iinc 2 1, 3) := dk_132 (by decide +kernel)
theorem dX12_newRow_34 : decode cX12_newRow 34 = .ok (.goto (-22), 3) := dk_167 (by decide +kernel)
theorem dX12_newRow_37 : decode cX12_newRow 37 = .ok (.iload_n 1, 1) := dk_27 (by decide +kernel)
theorem dX12_newRow_38 : decode cX12_newRow 38 = .ok (.ireturn, 1) := dk_172 (by decide +kernel)
def wsRX12_newRow : List Cond := .code yX12_newRow cX12_newRow 3 (some .int) :: ([.fieldLink RX12 399 "OptimaWorksModel" "rows" "I", .fieldLink RX12 402 "OptimaWorksModel" "goals" "I", .fieldLink RX12 396 "OptimaWorksModel" "columns" "I"] ++ wsX120 ++ (wsV RX12 405 RX12 yX12_at wsRX12_at) ++ (wsV RX12 369 RX12 yX12_put wsRX12_put))
theorem iwsRX12_newRow_in12 : ∀ w ∈ wsX120, w ∈ wsRX12_newRow := fun _ h => List.mem_cons_of_mem _ (List.mem_append_left _ (List.mem_append_left _ (List.mem_append_right _ h)))
theorem gwsRX12_newRow_0 : GoodIn wsRX12_newRow (wsV RX12 405 RX12 yX12_at wsRX12_at) := goodIn_sub (fun _ h => List.mem_cons_of_mem _ (List.mem_append_left _ (List.mem_append_right _ h))) (gdV (by decide +kernel) gdwsRX12_at)
theorem gwsRX12_newRow_1 : GoodIn wsRX12_newRow (wsV RX12 369 RX12 yX12_put wsRX12_put) := goodIn_sub (fun _ h => List.mem_cons_of_mem _ (List.mem_append_right _ h)) (gdV (by decide +kernel) gdwsRX12_put)
theorem gdwsRX12_newRow : wsRX12_newRow.all goodWord = true := gdC rfl (gdA (gdA (gdA (by decide +kernel : ([.fieldLink RX12 399 "OptimaWorksModel" "rows" "I", .fieldLink RX12 402 "OptimaWorksModel" "goals" "I", .fieldLink RX12 396 "OptimaWorksModel" "columns" "I"] : List Cond).all goodWord = true) gdwsX120) (gdV (by decide +kernel) gdwsRX12_at)) (gdV (by decide +kernel) gdwsRX12_put))
set_option maxHeartbeats 4000000 in
set_option maxRecDepth 100000 in
/-- newRow() -/
theorem r_X12_newRow (l : Launch) (dC : Nat → ClassId) (dI : Nat → Nat → Nat) (a : Nat → Nat) (k : Nat → ClassId) (h0 : Nat) (vi : Nat → Int32) (vj : Nat → Int64) (vF : Nat → Nat → Int32) (vG : Nat → Nat → Int64) (C : Nat) (R : Nat) (Gq : Nat) (mg : Nat → Int) (hBg : Bg (vF 0) mg) (hC : vi 5 = nI C) (hR : vi 6 = nI R) (hG : vi 7 = nI Gq) (hC45 : 0 < C ∧ C ≤ 45) (hRG : R + Gq < 60) (hsz : 30 + (R + Gq) * (C + 1) + C < 1000) (sz : Nat) : Met l yX12_newRow wsRX12_newRow ({ frames := 1, cells := 0, slots := 0, locals := 27 }) (va_Pc [.ref h0] (fun U => U.heap.size = sz ∧ va_P (dC, dI) vwCl (WR a k h0 vi vj vF vG) U.heap ∧ va_K (dC, dI) vwCl (tX12 k) U ∧ va_D (fun _ => True) (WR a k h0 vi vj vF vG))) (va_Qi (fun (r : Int32) (u : (Nat → Int32) × (Nat → Int)) => r = (nI (R + Gq)) ∧ (Bg (u.1) (u.2)) ∧ (∀ j, j ≤ C → (u.2) (30 + (R + Gq) * (C + 1) + j) = 0) ∧ (∀ q, (q < 30 + (R + Gq) * (C + 1) ∨ 30 + (R + Gq) * (C + 1) + C < q) → (u.2) q = mg q)) (fun (u : (Nat → Int32) × (Nat → Int)) t => va_P (dC, dI) vwCl (WR a k h0 vi vj (fT vF 0 (u.1)) vG) t.heap ∧ va_D (va_A (WR a k h0 vi vj vF vG) sz) (WR a k h0 vi vj (fT vF 0 (u.1)) vG)) (va_A (WR a k h0 vi vj vF vG) sz)) 0 0 (va_A (WR a k h0 vi vj vF vG) sz) := by
  refine Met.ofW (cc := cX12_newRow) (maxL := 3) (ret := (some .int)) (by decide) rfl ?_
  intro p e s m args below meth c s₁ B hml hv
  obtain ⟨rfl, hsz, hP, hK, hD0⟩ := hv
  have hx := B.exec
  have hb := B.bytes
  have hr := B.returns
  have hts := atoms_spec (ws := wsRX12_newRow) B.pre
  have hown : s.vm.findClass RX12 = some m.cls := findClass_of_methodNamed B.named
  have hlocks := B.notSynchronized
  subst hsz
  have hD := hD0.self (sz := s.heap.size)
  generalize hAe : va_A (WR a k h0 vi vj vF vG) s.heap.size = A at hD ⊢
  have hA : ∀ q : Nat, s.heap.size ≤ q → A q := fun q h => by rw [← hAe]; exact Or.inr h
  have hS : va_S A s.heap s.heap [] := va_S.rf
  have hl := lv_entry ([.ref h0]) (n := 3) (Nat.le_of_ble_eq_true rfl)
  rw [lg_entry_eq]
  generalize (lg_sl ([.ref h0]) ++ List.replicate (3 - (lg_sl ([.ref h0])).length) Slot.unset).toArray = ls at hl ⊢
  have hl : lv_has ls 3 [(0, .ref h0)] := hl
  refine lv_aload_n hx hb dX12_newRow_0 rfl (lv_at hl 0 rfl) ?_
  refine va_get (D := (dC, dI)) (ci := 12) (v := .int (vi 6)) (C := RX12) (T := TX12) (N := 163) (fs := fM (vS a vi vj)) hx hb hts iwsRX12_newRow_in12 hown hK hP 0 rfl rfl 6 (by decide) (hts (.fieldLink RX12 399 "OptimaWorksModel" "rows" "I") (by decide +kernel)) (fun _ h9 => h9) rfl dX12_newRow_1 ?_
  refine lv_topi (fun y1 hy1 => ?_)
  obtain rfl : (nI R) = y1 := (hy1.trans (hR)).symm
  refine lv_aload_n hx hb dX12_newRow_4 rfl (lv_at hl 0 rfl) ?_
  refine va_get (D := (dC, dI)) (ci := 12) (v := .int (vi 7)) (C := RX12) (T := TX12) (N := 163) (fs := fM (vS a vi vj)) hx hb hts iwsRX12_newRow_in12 hown hK hP 0 rfl rfl 7 (by decide) (hts (.fieldLink RX12 402 "OptimaWorksModel" "goals" "I") (by decide +kernel)) (fun _ h9 => h9) rfl dX12_newRow_5 ?_
  refine lv_topi (fun y2 hy2 => ?_)
  obtain rfl : (nI Gq) = y2 := (hy2.trans (hG)).symm
  refine lv_iadd hx hb dX12_newRow_8 ?_
  refine lv_topi (fun y3 hy3 => ?_)
  obtain rfl : (nI (R + Gq)) = y3 := (hy3.trans (nI_add R Gq)).symm
  refine lv_istore_n hx hb dX12_newRow_9 rfl hl (by decide) rfl (fun ls (hl : lv_has ls _ ([(1, .int (nI (R + Gq))), (0, .ref h0)])) => ?_)
  refine lv_iconst (v := 0) hx hb dX12_newRow_10 (by decide) ?_
  refine lv_istore_n hx hb dX12_newRow_11 rfl hl (by decide) rfl (fun ls (hl : lv_has ls _ ([(2, .int 0), (1, .int (nI (R + Gq))), (0, .ref h0)])) => ?_)
  have e9 : fT vF 0 (vF 0) = vF := by funext q9; by_cases h9_0 : q9 = 0; (subst h9_0; exact (fT_eq _ _ _).trans (Eq.trans (by first | with_reducible rfl | with_reducible assumption | (symm; with_reducible assumption) | rfl | assumption | (symm; assumption) | (subst_vars; rfl)) (Eq.refl _).symm)); exact (fT_ne _ _ h9_0).trans (Eq.refl _).symm
  have hP := wr_PF e9 hP
  have hD := wr_DF e9 hD
  clear e9
  have hl : lv_has _ _ ([(2, .int (nI 0)), (0, .ref h0), (1, .int (nI (R + Gq)))]) := lv_sub hl [0, 2, 1] rfl
  refine (fun (loop : ∀ (n9 : Nat) (i : Nat) (g : Nat → Int32) (m1 : Nat → Int) (H : Heap) (locs : List Loc) (ls : Array Slot), (Bg g m1) → (i ≤ C + 1) → (∀ j, j < i → m1 (30 + (R + Gq) * (C + 1) + j) = 0) → (∀ q, (q < 30 + (R + Gq) * (C + 1) ∨ 30 + (R + Gq) * (C + 1) + C < q) → m1 q = mg q) →  (C + 1 < i + n9) → va_P (dC, dI) vwCl (WR a k h0 vi vj (fT vF 0 g) vG) H → va_D A (WR a k h0 vi vj (fT vF 0 g) vG) → va_S A s.heap H locs → lv_has ls 3 [(2, .int (nI i)), (0, .ref h0), (1, .int (nI (R + Gq)))] → W p l e _ s m _ below meth c H locs 0 0 _ (F0 m 12 ls [])) => loop (C + 2) 0 (vF 0) mg _ _ _ (hBg) (by omega) (fun j hj => absurd hj (by omega)) (fun q hq => rfl) (by omega) hP hD hS hl) ?_
  intro n9
  induction n9 with
  | zero => intro i g m1 H locs ls hB1 hi hz ho hf9; exact False.elim (by omega)
  | succ n9 ih12 =>
    intro i g m1 H locs ls hB1 hi hz ho hf12 hP hD hS hl
    refine lv_iload_n hx hb dX12_newRow_12 rfl (lv_at hl 0 rfl) ?_
    refine lv_aload_n hx hb dX12_newRow_13 rfl (lv_at hl 1 rfl) ?_
    refine va_get (D := (dC, dI)) (ci := 12) (v := .int (vi 5)) (C := RX12) (T := TX12) (N := 163) (fs := fM (vS a vi vj)) hx hb hts iwsRX12_newRow_in12 hown hK hP 0 rfl rfl 5 (by decide) (hts (.fieldLink RX12 396 "OptimaWorksModel" "columns" "I") (by decide +kernel)) (fun _ h9 => h9) rfl dX12_newRow_14 ?_
    refine lv_topi (fun y4 hy4 => ?_)
    obtain rfl : (nI C) = y4 := (hy4.trans (hC)).symm
    refine lv_icmp_gt (tgt := 37) hx hb dX12_newRow_17 (by decide) (fun c_17 => ?_) (fun c_17 => ?_)
    · have t_17 : ((i : Nat) : Int) > ((C : Nat) : Int) := toI_gt c_17 (nI_toInt (by omega)) (nI_toInt (by omega))
      refine lv_iload_n hx hb dX12_newRow_37 rfl (lv_at hl 2 rfl) ?_
      refine W.widen (k := 0) (n := 0) (by decide +kernel) (by decide +kernel) ?_
      exact W.iret (v := (nI (R + Gq))) hx hb hr (fun t9_ ht hW => ⟨⟨(nI (R + Gq)), (g, m1), rfl, by (try dsimp only); exact ⟨rfl, hB1, fun j hj => hz j (by omega), ho⟩, by rw [ht]; exact hP, hD⟩, hS.F ht⟩) hS.2.2 dX12_newRow_38
    · have t_17 : ¬ ((i : Nat) : Int) > ((C : Nat) : Int) := toI_ngt c_17 (nI_toInt (by omega)) (nI_toInt (by omega))
      refine lv_aload_n hx hb dX12_newRow_20 rfl (lv_at hl 1 rfl) ?_
      refine lv_aload_n hx hb dX12_newRow_21 rfl (lv_at hl 1 rfl) ?_
      refine lv_iload_n hx hb dX12_newRow_22 rfl (lv_at hl 2 rfl) ?_
      refine lv_iload_n hx hb dX12_newRow_23 rfl (lv_at hl 0 rfl) ?_
      have hFc := allFree hD hS hA
      refine va_calli (va_runV (As := [.int (nI (R + Gq)), .int (nI i)]) (rest := [.ref h0]) ⟨hx, hb, hml, hown, hts⟩ (r_X12_at l dC dI a k h0 vi vj (fT vF 0 g) vG (R + Gq) i C (by first | with_reducible assumption | decide | omega | rfl | assumption) H.size) (cwV 2 hts gwsRX12_newRow_0 rfl rfl rfl hd_yX12_at_RX12 (by decide +kernel)) (fz_pre (va_recv hK hP (ci := 12) (q0 := 0) rfl rfl) hP hK hD) rfl rfl hl.1 rfl (lv_room (Nat.le_of_ble_eq_true rfl)) dX12_newRow_24 (by decide +kernel)) hS (fun q _ h => hFc q h) hFc (fun r24 u t9_ H locs ht hvm hw9 hB9 hz1 hk1 hS => ?_)
      have hP : va_P (dC, dI) vwCl (WR a k h0 vi vj (fT vF 0 g) vG) H := fz_P ht hB9.1
      have hD := fz_sd hP (hB9.2.weaken (fun _ q _ h => hFc q.1 h)) rfl
      obtain rfl := hw9
      refine lv_lconst (v := 0) hx hb dX12_newRow_27 (by decide) ?_
      have hFc := allFree hD hS hA
      refine va_callv (va_runV (As := [.int (nI (30 + (R + Gq) * (C + 1) + i)), .long 0]) (rest := []) ⟨hx, hb, hml, hown, hts⟩ (b_X12_put l dC dI a k h0 vi vj (fT vF 0 g) vG (30 + (R + Gq) * (C + 1) + i) 0 0 m1 hB1 (by first | with_reducible assumption | decide | omega | rfl | assumption) (by decide) (by first | with_reducible assumption | decide | omega | rfl | assumption) H.size) (cwV 2 hts gwsRX12_newRow_1 rfl rfl rfl hd_yX12_put_RX12 (by decide +kernel)) (fz_pre (va_recv hK hP (ci := 12) (q0 := 0) rfl rfl) hP hK hD) rfl rfl hl.1 rfl (lv_room (Nat.le_of_ble_eq_true rfl)) dX12_newRow_28 (by decide +kernel)) hS (fun q _ h => hFc q h) hFc (fun g28 t9_ H locs ht hvm hw9 hB9 hz1 hk1 hS => ?_)
      have e9F : fT vF 0 g28 = fT (fT vF 0 g) 0 g28 := (fT_sm _ _ _ _).symm
      have hP := wr_PF e9F (fz_P ht hB9.1)
      have hD := wr_DF e9F (hB9.2.weaken (fun _ q _ h => hFc q.1 h))
      clear e9F
      have f28_0 := hw9
      try dsimp only at f28_0
      refine lv_iinc (v := (nI (i + 1))) hx hb dX12_newRow_31 hl (k := 0) rfl (nI_add i 1) (by decide) rfl (fun ls (hl : lv_has ls _ ([(2, .int (nI (i + 1))), (0, .ref h0), (1, .int (nI (R + Gq)))])) => ?_)
      refine lv_goto (tgt := 12) hx hb dX12_newRow_34 (by decide) ?_
      have hl : lv_has _ _ ([(2, .int (nI (i + 1))), (0, .ref h0), (1, .int (nI (R + Gq)))]) := lv_sub hl [0, 1, 2] rfl
      exact ih12 (i + 1) g28 (fT m1 (30 + (R + Gq) * (C + 1) + i) 0) _ _ _ (f28_0) (by omega) (fun j hj => by by_cases e9 : j = i; (rw [e9, fT_eq]); (rw [fT_ne _ _ (by omega)]; exact hz j (by omega))) (fun q hq => by (rw [fT_ne _ _ (by omega)]); exact ho q hq) (by omega) hP hD hS hl
theorem dX12_newLine_0 : decode cX12_newLine 0 = .ok (.aload_n 0, 1) := dk_42 (by decide +kernel)
theorem dX12_newLine_1 : decode cX12_newLine 1 = .ok (.invokevirtual 408, 3) := dk_182 (by decide +kernel)
theorem dX12_newLine_4 : decode cX12_newLine 4 = .ok (.istore_n 1, 1) := dk_60 (by decide +kernel)
theorem dX12_newLine_5 : decode cX12_newLine 5 = .ok (.aload_n 0, 1) := dk_42 (by decide +kernel)
theorem dX12_newLine_6 : decode cX12_newLine 6 = .ok (.getfield 26, 3) := dk_180 (by decide +kernel)
theorem dX12_newLine_9 : decode cX12_newLine 9 = .ok (.iload_n 1, 1) := dk_27 (by decide +kernel)
theorem dX12_newLine_10 : decode cX12_newLine 10 = .ok (.aload_n 0, 1) := dk_42 (by decide +kernel)
theorem dX12_newLine_11 : decode cX12_newLine 11 = .ok (.getfield 396, 3) := dk_180 (by decide +kernel)
theorem dX12_newLine_14 : decode cX12_newLine 14 = .ok (.iload_n 1, 1) := dk_27 (by decide +kernel)
theorem dX12_newLine_15 : decode cX12_newLine 15 = .ok (.iadd, 1) := dk_96 (by decide +kernel)
theorem dX12_newLine_16 : decode cX12_newLine 16 = .ok (.iastore, 1) := dk_79 (by decide +kernel)
theorem dX12_newLine_17 : decode cX12_newLine 17 = .ok (.aload_n 0, 1) := dk_42 (by decide +kernel)
theorem dX12_newLine_18 : decode cX12_newLine 18 = .ok (.aload_n 0, 1) := dk_42 (by decide +kernel)
theorem dX12_newLine_19 : decode cX12_newLine 19 = .ok (.iload_n 1, 1) := dk_27 (by decide +kernel)
theorem dX12_newLine_20 : decode cX12_newLine 20 = .ok (.aload_n 0, 1) := dk_42 (by decide +kernel)
theorem dX12_newLine_21 : decode cX12_newLine 21 = .ok (.getfield 396, 3) := dk_180 (by decide +kernel)
theorem dX12_newLine_24 : decode cX12_newLine 24 = .ok (.iconst 1, 1) := dk_4 (by decide +kernel)
theorem dX12_newLine_25 : decode cX12_newLine 25 = .ok (.isub, 1) := dk_100 (by decide +kernel)
theorem dX12_newLine_26 : decode cX12_newLine 26 = .ok (.invokevirtual 405, 3) := dk_182 (by decide +kernel)
theorem dX12_newLine_29 : decode cX12_newLine 29 = .ok (.ldc2_w 412, 3) := dk_20 (by decide +kernel)
theorem dX12_newLine_32 : decode cX12_newLine 32 = .ok (.invokevirtual 369, 3) := dk_182 (by decide +kernel)
theorem dX12_newLine_35 : decode cX12_newLine 35 = .ok (.aload_n 0, 1) := dk_42 (by decide +kernel)
theorem dX12_newLine_36 : decode cX12_newLine 36 = .ok (.dup, 1) := dk_89 (by decide +kernel)
theorem dX12_newLine_37 : decode cX12_newLine 37 = .ok (.getfield 399, 3) := dk_180 (by decide +kernel)
theorem dX12_newLine_40 : decode cX12_newLine 40 = .ok (.iconst 1, 1) := dk_4 (by decide +kernel)
theorem dX12_newLine_41 : decode cX12_newLine 41 = .ok (.iadd, 1) := dk_96 (by decide +kernel)
theorem dX12_newLine_42 : decode cX12_newLine 42 = .ok (.putfield 399, 3) := dk_181 (by decide +kernel)
theorem dX12_newLine_45 : decode cX12_newLine 45 = .ok (.iload_n 1, 1) := dk_27 (by decide +kernel)
theorem dX12_newLine_46 : decode cX12_newLine 46 = .ok (.ireturn, 1) := dk_172 (by decide +kernel)
def wsRX12_newLine : List Cond := .code yX12_newLine cX12_newLine 2 (some .int) :: ([.fieldLink RX12 26 "OptimaWorksModel" "rowOf" "[I", .fieldLink RX12 396 "OptimaWorksModel" "columns" "I", .constantLong RX12 412 (-1), .fieldLink RX12 399 "OptimaWorksModel" "rows" "I"] ++ wsX120 ++ (wsV RX12 408 RX12 yX12_newRow wsRX12_newRow) ++ (wsV RX12 405 RX12 yX12_at wsRX12_at) ++ (wsV RX12 369 RX12 yX12_put wsRX12_put))
theorem iwsRX12_newLine_in12 : ∀ w ∈ wsX120, w ∈ wsRX12_newLine := fun _ h => List.mem_cons_of_mem _ (List.mem_append_left _ (List.mem_append_left _ (List.mem_append_left _ (List.mem_append_right _ h))))
theorem gwsRX12_newLine_0 : GoodIn wsRX12_newLine (wsV RX12 408 RX12 yX12_newRow wsRX12_newRow) := goodIn_sub (fun _ h => List.mem_cons_of_mem _ (List.mem_append_left _ (List.mem_append_left _ (List.mem_append_right _ h)))) (gdV (by decide +kernel) gdwsRX12_newRow)
theorem gwsRX12_newLine_1 : GoodIn wsRX12_newLine (wsV RX12 405 RX12 yX12_at wsRX12_at) := goodIn_sub (fun _ h => List.mem_cons_of_mem _ (List.mem_append_left _ (List.mem_append_right _ h))) (gdV (by decide +kernel) gdwsRX12_at)
theorem gwsRX12_newLine_2 : GoodIn wsRX12_newLine (wsV RX12 369 RX12 yX12_put wsRX12_put) := goodIn_sub (fun _ h => List.mem_cons_of_mem _ (List.mem_append_right _ h)) (gdV (by decide +kernel) gdwsRX12_put)
theorem gdwsRX12_newLine : wsRX12_newLine.all goodWord = true := gdC rfl (gdA (gdA (gdA (gdA (by decide +kernel : ([.fieldLink RX12 26 "OptimaWorksModel" "rowOf" "[I", .fieldLink RX12 396 "OptimaWorksModel" "columns" "I", .constantLong RX12 412 (-1), .fieldLink RX12 399 "OptimaWorksModel" "rows" "I"] : List Cond).all goodWord = true) gdwsX120) (gdV (by decide +kernel) gdwsRX12_newRow)) (gdV (by decide +kernel) gdwsRX12_at)) (gdV (by decide +kernel) gdwsRX12_put))
theorem hm_r_X12_newLine_0 : (.fieldLink RX12 396 "OptimaWorksModel" "columns" "I" : Cond) ∈ wsRX12_newLine := by decide +kernel
theorem hm_r_X12_newLine_1 : (.fieldLink RX12 399 "OptimaWorksModel" "rows" "I" : Cond) ∈ wsRX12_newLine := by decide +kernel
set_option maxHeartbeats 4000000 in
set_option maxRecDepth 100000 in
/-- newLine() -/
theorem r_X12_newLine (l : Launch) (dC : Nat → ClassId) (dI : Nat → Nat → Nat) (a : Nat → Nat) (k : Nat → ClassId) (h0 : Nat) (vi : Nat → Int32) (vj : Nat → Int64) (vF : Nat → Nat → Int32) (vG : Nat → Nat → Int64) (C : Nat) (R : Nat) (mg : Nat → Int) (hBg : Bg (vF 0) mg) (hC : vi 5 = nI C) (hR : vi 6 = nI R) (hG : vi 7 = 0) (hC45 : 0 < C ∧ C ≤ 45) (hRG : R < 59) (hsz : 30 + R * (C + 1) + C < 1000) (sz : Nat) : Met l yX12_newLine wsRX12_newLine ({ frames := 2, cells := 0, slots := 0, locals := 49 }) (va_Pc [.ref h0] (fun U => U.heap.size = sz ∧ va_P (dC, dI) vwCl (WR a k h0 vi vj vF vG) U.heap ∧ va_K (dC, dI) vwCl (tX12 k) U ∧ va_D (fun _ => True) (WR a k h0 vi vj vF vG))) (va_Qi (fun (r : Int32) (u : (Nat → Int32) × (Nat → Int)) => r = (nI R) ∧ (Bg (u.1) (u.2)) ∧ (∀ j, j ≤ C → (u.2) (30 + R * (C + 1) + j) = if j = C - 1 then -1 else 0) ∧ (∀ q, (q < 30 + R * (C + 1) ∨ 30 + R * (C + 1) + C < q) → (u.2) q = mg q)) (fun (u : (Nat → Int32) × (Nat → Int)) t => va_P (dC, dI) vwCl (WR a k h0 (fT vi 6 (nI (R + 1))) vj (fT (fT vF 0 (u.1)) 5 (upd (vF 5) (nI R).toNatClampNeg (nI (C + R)))) vG) t.heap ∧ va_D (va_A (WR a k h0 vi vj vF vG) sz) (WR a k h0 (fT vi 6 (nI (R + 1))) vj (fT (fT vF 0 (u.1)) 5 (upd (vF 5) (nI R).toNatClampNeg (nI (C + R)))) vG)) (va_A (WR a k h0 vi vj vF vG) sz)) 0 0 (va_A (WR a k h0 vi vj vF vG) sz) := by
  refine Met.ofW (cc := cX12_newLine) (maxL := 2) (ret := (some .int)) (by decide) rfl ?_
  intro p e s m args below meth c s₁ B hml hv
  obtain ⟨rfl, hsz, hP, hK, hD0⟩ := hv
  have hx := B.exec
  have hb := B.bytes
  have hr := B.returns
  have hts := atoms_spec (ws := wsRX12_newLine) B.pre
  have hown : s.vm.findClass RX12 = some m.cls := findClass_of_methodNamed B.named
  have hlocks := B.notSynchronized
  subst hsz
  have hD := hD0.self (sz := s.heap.size)
  generalize hAe : va_A (WR a k h0 vi vj vF vG) s.heap.size = A at hD ⊢
  have hA : ∀ q : Nat, s.heap.size ≤ q → A q := fun q h => by rw [← hAe]; exact Or.inr h
  have hS : va_S A s.heap s.heap [] := va_S.rf
  have hl := lv_entry ([.ref h0]) (n := 2) (Nat.le_of_ble_eq_true rfl)
  rw [lg_entry_eq]
  generalize (lg_sl ([.ref h0]) ++ List.replicate (2 - (lg_sl ([.ref h0])).length) Slot.unset).toArray = ls at hl ⊢
  have hl : lv_has ls 2 [(0, .ref h0)] := hl
  refine lv_aload_n hx hb dX12_newLine_0 rfl (lv_at hl 0 rfl) ?_
  have hFc := allFree hD hS hA
  refine va_calli (va_runV (As := []) (rest := []) ⟨hx, hb, hml, hown, hts⟩ (r_X12_newRow l dC dI a k h0 vi vj vF vG C R 0 mg hBg (by first | with_reducible assumption | decide | omega | rfl | assumption) (by first | with_reducible assumption | decide | omega | rfl | assumption) (hG.trans nI_0.symm) (by first | with_reducible assumption | decide | omega | rfl | assumption) (by first | with_reducible assumption | decide | omega | rfl | assumption) (by first | with_reducible assumption | decide | omega | rfl | assumption) s.heap.size) (cwV 0 hts gwsRX12_newLine_0 rfl rfl rfl hd_yX12_newRow_RX12 (by decide +kernel)) (fz_pre (va_recv hK hP (ci := 12) (q0 := 0) rfl rfl) hP hK hD) rfl rfl hl.1 rfl (lv_room (Nat.le_of_ble_eq_true rfl)) dX12_newLine_1 (by decide +kernel)) hS (fun q _ h => hFc q h) hFc (fun r1 u t9_ H locs ht hvm hw9 hB9 hz1 hk1 hS => ?_)
  revert u hw9 hB9
  refine fz_p2 ?_
  intro g1 m21 hw9 hB9
  try dsimp only at hw9 hB9
  have hP : va_P (dC, dI) vwCl (WR a k h0 vi vj (fT vF 0 g1) vG) H := fz_P ht hB9.1
  have hD := fz_sd hP (hB9.2.weaken (fun _ q _ h => hFc q.1 h)) rfl
  obtain ⟨rfl, f1_0, f1_1, f1_2⟩ := hw9
  rw [Nat.add_zero] at f1_1 f1_2
  refine lv_topi (fun y1 hy1 => ?_)
  obtain rfl : (nI R) = y1 := (hy1.trans (rfl)).symm
  refine lv_istore_n hx hb dX12_newLine_4 rfl hl (by decide) rfl (fun ls (hl : lv_has ls _ ([(1, .int (nI R)), (0, .ref h0)])) => ?_)
  refine lv_aload_n hx hb dX12_newLine_5 rfl (lv_at hl 1 rfl) ?_
  refine va_get (D := (dC, dI)) (ci := 12) (v := .ref (a 5)) (C := RX12) (T := TX12) (N := 163) (fs := fM (vS a vi vj)) hx hb hts iwsRX12_newLine_in12 hown hK hP 0 rfl rfl 9 (by decide) (hts (.fieldLink RX12 26 "OptimaWorksModel" "rowOf" "[I") (by decide +kernel)) (fun _ h9 => h9) rfl dX12_newLine_6 ?_
  refine lv_iload_n hx hb dX12_newLine_9 rfl (lv_at hl 0 rfl) ?_
  refine lv_aload_n hx hb dX12_newLine_10 rfl (lv_at hl 1 rfl) ?_
  refine va_get (D := (dC, dI)) (ci := 12) (v := .int (vi 5)) (C := RX12) (T := TX12) (N := 163) (fs := fM (vS a vi vj)) hx hb hts iwsRX12_newLine_in12 hown hK hP 0 rfl rfl 5 (by decide) (hts _ hm_r_X12_newLine_0) (fun _ h9 => h9) rfl dX12_newLine_11 ?_
  refine lv_topi (fun y2 hy2 => ?_)
  obtain rfl : (nI C) = y2 := (hy2.trans (hC)).symm
  refine lv_iload_n hx hb dX12_newLine_14 rfl (lv_at hl 0 rfl) ?_
  refine lv_iadd hx hb dX12_newLine_15 ?_
  refine lv_topi (fun y3 hy3 => ?_)
  obtain rfl : (nI (C + R)) = y3 := (hy3.trans (nI_add C R)).symm
  refine va_iast (cA := k 5) (n := 60) (f := (vF 5)) hx hb hK hP hD hS 6 5 (WR_get 5 (by decide)) (TR_get 5 (by decide)) (vp_in_nI (show R < 60 by omega) (by omega)) dX12_newLine_16 (fun H locs hP hD hS => ?_)
  have hP : va_P (dC, dI) vwCl (WR a k h0 vi vj (fT (fT vF 0 g1) 5 (upd (vF 5) ((nI R)).toNatClampNeg (nI (C + R)))) vG) H := fz_w (WR_F 5 (by decide) _ rfl) hP
  have hD : va_D A (WR a k h0 vi vj (fT (fT vF 0 g1) 5 (upd (vF 5) ((nI R)).toNatClampNeg (nI (C + R)))) vG) := fz_wD (WR_F 5 (by decide) _ rfl) hD
  refine lv_aload_n hx hb dX12_newLine_17 rfl (lv_at hl 1 rfl) ?_
  refine lv_aload_n hx hb dX12_newLine_18 rfl (lv_at hl 1 rfl) ?_
  refine lv_iload_n hx hb dX12_newLine_19 rfl (lv_at hl 0 rfl) ?_
  refine lv_aload_n hx hb dX12_newLine_20 rfl (lv_at hl 1 rfl) ?_
  refine va_get (D := (dC, dI)) (ci := 12) (v := .int (vi 5)) (C := RX12) (T := TX12) (N := 163) (fs := fM (vS a vi vj)) hx hb hts iwsRX12_newLine_in12 hown hK hP 0 rfl rfl 5 (by decide) (hts _ hm_r_X12_newLine_0) (fun _ h9 => h9) rfl dX12_newLine_21 ?_
  refine lv_topi (fun y4 hy4 => ?_)
  obtain rfl : (nI C) = y4 := (hy4.trans (hC)).symm
  refine lv_iconst (v := 1) hx hb dX12_newLine_24 (by decide) ?_
  refine lv_isub hx hb dX12_newLine_25 ?_
  refine lv_topi (fun y5 hy5 => ?_)
  obtain rfl : (nI (C - 1)) = y5 := (hy5.trans (pk_sub (a := C) (b := 1) (by omega))).symm
  have hFc := allFree hD hS hA
  refine va_calli (va_runV (As := [.int (nI R), .int (nI (C - 1))]) (rest := [.ref h0]) ⟨hx, hb, hml, hown, hts⟩ (r_X12_at l dC dI a k h0 vi vj (fT (fT vF 0 g1) 5 (upd (vF 5) ((nI R)).toNatClampNeg (nI (C + R)))) vG R (C - 1) C (by first | with_reducible assumption | decide | omega | rfl | assumption) H.size) (cwV 2 hts gwsRX12_newLine_1 rfl rfl rfl hd_yX12_at_RX12 (by decide +kernel)) (fz_pre (va_recv hK hP (ci := 12) (q0 := 0) rfl rfl) hP hK hD) rfl rfl hl.1 rfl (lv_room (Nat.le_of_ble_eq_true rfl)) dX12_newLine_26 (by decide +kernel)) hS (fun q _ h => hFc q h) hFc (fun r26 u t9_ H locs ht hvm hw9 hB9 hz1 hk1 hS => ?_)
  have hP : va_P (dC, dI) vwCl (WR a k h0 vi vj (fT (fT vF 0 g1) 5 (upd (vF 5) ((nI R)).toNatClampNeg (nI (C + R)))) vG) H := fz_P ht hB9.1
  have hD := fz_sd hP (hB9.2.weaken (fun _ q _ h => hFc q.1 h)) rfl
  obtain rfl := hw9
  refine lv_ldc2 (v := (-1)) hx hb hown (hts (.constantLong RX12 412 (-1)) (by decide +kernel)) dX12_newLine_29 ?_
  have hFc := allFree hD hS hA
  refine va_callv (va_runV (As := [.int (nI (30 + R * (C + 1) + (C - 1))), .long (-1)]) (rest := []) ⟨hx, hb, hml, hown, hts⟩ (b_X12_put l dC dI a k h0 vi vj (fT (fT vF 0 g1) 5 (upd (vF 5) ((nI R)).toNatClampNeg (nI (C + R)))) vG (30 + R * (C + 1) + (C - 1)) (-1) (-1) m21 f1_0 (by first | with_reducible assumption | decide | omega | rfl | assumption) (by decide) (by first | with_reducible assumption | decide | omega | rfl | assumption) H.size) (cwV 2 hts gwsRX12_newLine_2 rfl rfl rfl hd_yX12_put_RX12 (by decide +kernel)) (fz_pre (va_recv hK hP (ci := 12) (q0 := 0) rfl rfl) hP hK hD) rfl rfl hl.1 rfl (lv_room (Nat.le_of_ble_eq_true rfl)) dX12_newLine_32 (by decide +kernel)) hS (fun q _ h => hFc q h) hFc (fun g32 t9_ H locs ht hvm hw9 hB9 hz1 hk1 hS => ?_)
  have e9F : fT (fT vF 0 g32) 5 (upd (vF 5) ((nI R)).toNatClampNeg (nI (C + R))) = fT (fT (fT vF 0 g1) 5 (upd (vF 5) ((nI R)).toNatClampNeg (nI (C + R)))) 0 g32 := ((fT_sw _ _ _ (Nat.ne_of_beq_eq_false rfl)).trans (congrArg (fun g9 => fT g9 5 (upd (vF 5) ((nI R)).toNatClampNeg (nI (C + R)))) (fT_sm _ _ _ _))).symm
  have hP := wr_PF e9F (fz_P ht hB9.1)
  have hD := wr_DF e9F (hB9.2.weaken (fun _ q _ h => hFc q.1 h))
  clear e9F
  have f32_0 := hw9
  try dsimp only at f32_0
  refine lv_aload_n hx hb dX12_newLine_35 rfl (lv_at hl 1 rfl) ?_
  refine lv_dup hx hb dX12_newLine_36 rfl ?_
  refine va_get (D := (dC, dI)) (ci := 12) (v := .int (vi 6)) (C := RX12) (T := TX12) (N := 163) (fs := fM (vS a vi vj)) hx hb hts iwsRX12_newLine_in12 hown hK hP 0 rfl rfl 6 (by decide) (hts _ hm_r_X12_newLine_1) (fun _ h9 => h9) rfl dX12_newLine_37 ?_
  refine lv_topi (fun y6 hy6 => ?_)
  obtain rfl : (nI R) = y6 := (hy6.trans (hR)).symm
  refine lv_iconst (v := 1) hx hb dX12_newLine_40 (by decide) ?_
  refine lv_iadd hx hb dX12_newLine_41 ?_
  refine lv_topi (fun y7 hy7 => ?_)
  obtain rfl : (nI (R + 1)) = y7 := (hy7.trans (nI_add R 1)).symm
  refine va_put (D := (dC, dI)) (ci := 12) (v := .int (nI (R + 1))) (ty := .int) (C := RX12) (T := TX12) (N := 163) (fs := fM (vS a vi vj)) hx hb hts iwsRX12_newLine_in12 tyX12 tyX12_ok nmX12 hown hK hP hD hS 0 rfl rfl 6 (by decide) (hts _ hm_r_X12_newLine_1) (fun _ h9 => h9) rfl (by decide +kernel) rfl rfl (Nat.le_of_ble_eq_true rfl) dX12_newLine_42 (fun H locs hP hD hS => ?_)
  have hP : va_P (dC, dI) vwCl (WR a k h0 (fT vi 6 (nI (R + 1))) vj (fT (fT vF 0 g32) 5 (upd (vF 5) ((nI R)).toNatClampNeg (nI (C + R)))) vG) H := fz_w (WR_i 6 _ rfl) hP
  have hD : va_D A (WR a k h0 (fT vi 6 (nI (R + 1))) vj (fT (fT vF 0 g32) 5 (upd (vF 5) ((nI R)).toNatClampNeg (nI (C + R)))) vG) := fz_wD (WR_i 6 _ rfl) hD
  refine lv_iload_n hx hb dX12_newLine_45 rfl (lv_at hl 0 rfl) ?_
  refine W.widen (k := 0) (n := 0) (by decide +kernel) (by decide +kernel) ?_
  have e9 : fT (fT vF 0 g32) 5 (upd (vF 5) (nI R).toNatClampNeg (nI (C + R))) = fT (fT vF 0 g32) 5 (upd (vF 5) ((nI R)).toNatClampNeg (nI (C + R))) := congrArg (fT _ 5) (show upd (vF 5) (nI R).toNatClampNeg (nI (C + R)) = upd (vF 5) ((nI R)).toNatClampNeg (nI (C + R)) from (by first | with_reducible rfl | with_reducible assumption | (symm; with_reducible assumption) | rfl | assumption | (symm; assumption) | (subst_vars; rfl)))
  have hP := wr_PF e9 hP
  have hD := wr_DF e9 hD
  clear e9
  exact W.iret (v := (nI R)) hx hb hr (fun t9_ ht hW => ⟨⟨(nI R), (g32, (fT m21 (30 + R * (C + 1) + (C - 1)) (-1))), rfl, by (try dsimp only); exact ⟨rfl, f32_0, fun j hj => by by_cases e9 : j = C - 1; (rw [e9, fT_eq, if_pos rfl]); (rw [fT_ne _ _ (by omega), if_neg e9]; exact f1_1 j hj), fun q hq => by (rw [fT_ne _ _ (by omega), f1_2 _ (by omega)])⟩, by rw [ht]; exact hP, hD⟩, hS.F ht⟩) hS.2.2 dX12_newLine_46
theorem dX12_goalRow_0 : decode cX12_goalRow 0 = .ok (.aload_n 0, 1) := dk_42 (by decide +kernel)
theorem dX12_goalRow_1 : decode cX12_goalRow 1 = .ok (.invokevirtual 408, 3) := dk_182 (by decide +kernel)
theorem dX12_goalRow_4 : decode cX12_goalRow 4 = .ok (.istore_n 1, 1) := dk_60 (by decide +kernel)
theorem dX12_goalRow_5 : decode cX12_goalRow 5 = .ok (.aload_n 0, 1) := dk_42 (by decide +kernel)
theorem dX12_goalRow_6 : decode cX12_goalRow 6 = .ok (.dup, 1) := dk_89 (by decide +kernel)
theorem dX12_goalRow_7 : decode cX12_goalRow 7 = .ok (.getfield 402, 3) := dk_180 (by decide +kernel)
theorem dX12_goalRow_10 : decode cX12_goalRow 10 = .ok (.iconst 1, 1) := dk_4 (by decide +kernel)
theorem dX12_goalRow_11 : decode cX12_goalRow 11 = .ok (.iadd, 1) := dk_96 (by decide +kernel)
theorem dX12_goalRow_12 : decode cX12_goalRow 12 = .ok (.putfield 402, 3) := dk_181 (by decide +kernel)
theorem dX12_goalRow_15 : decode cX12_goalRow 15 = .ok (.iload_n 1, 1) := dk_27 (by decide +kernel)
theorem dX12_goalRow_16 : decode cX12_goalRow 16 = .ok (.ireturn, 1) := dk_172 (by decide +kernel)
def wsRX12_goalRow : List Cond := .code yX12_goalRow cX12_goalRow 2 (some .int) :: ([.fieldLink RX12 402 "OptimaWorksModel" "goals" "I"] ++ wsX120 ++ (wsV RX12 408 RX12 yX12_newRow wsRX12_newRow))
theorem iwsRX12_goalRow_in12 : ∀ w ∈ wsX120, w ∈ wsRX12_goalRow := fun _ h => List.mem_cons_of_mem _ (List.mem_append_left _ (List.mem_append_right _ h))
theorem gwsRX12_goalRow_0 : GoodIn wsRX12_goalRow (wsV RX12 408 RX12 yX12_newRow wsRX12_newRow) := goodIn_sub (fun _ h => List.mem_cons_of_mem _ (List.mem_append_right _ h)) (gdV (by decide +kernel) gdwsRX12_newRow)
theorem gdwsRX12_goalRow : wsRX12_goalRow.all goodWord = true := gdC rfl (gdA (gdA (by decide +kernel : ([.fieldLink RX12 402 "OptimaWorksModel" "goals" "I"] : List Cond).all goodWord = true) gdwsX120) (gdV (by decide +kernel) gdwsRX12_newRow))
theorem hm_r_X12_goalRow_0 : (.fieldLink RX12 402 "OptimaWorksModel" "goals" "I" : Cond) ∈ wsRX12_goalRow := by decide +kernel
set_option maxHeartbeats 4000000 in
set_option maxRecDepth 100000 in
/-- goalRow() -/
theorem r_X12_goalRow (l : Launch) (dC : Nat → ClassId) (dI : Nat → Nat → Nat) (a : Nat → Nat) (k : Nat → ClassId) (h0 : Nat) (vi : Nat → Int32) (vj : Nat → Int64) (vF : Nat → Nat → Int32) (vG : Nat → Nat → Int64) (C : Nat) (R : Nat) (Gq : Nat) (mg : Nat → Int) (hBg : Bg (vF 0) mg) (hC : vi 5 = nI C) (hR : vi 6 = nI R) (hG : vi 7 = nI Gq) (hC45 : 0 < C ∧ C ≤ 45) (hRG : R + Gq < 60) (hsz : 30 + (R + Gq) * (C + 1) + C < 1000) (sz : Nat) : Met l yX12_goalRow wsRX12_goalRow ({ frames := 2, cells := 0, slots := 0, locals := 49 }) (va_Pc [.ref h0] (fun U => U.heap.size = sz ∧ va_P (dC, dI) vwCl (WR a k h0 vi vj vF vG) U.heap ∧ va_K (dC, dI) vwCl (tX12 k) U ∧ va_D (fun _ => True) (WR a k h0 vi vj vF vG))) (va_Qi (fun (r : Int32) (u : (Nat → Int32) × (Nat → Int)) => r = (nI (R + Gq)) ∧ (Bg (u.1) (u.2)) ∧ (∀ j, j ≤ C → (u.2) (30 + (R + Gq) * (C + 1) + j) = 0) ∧ (∀ q, (q < 30 + (R + Gq) * (C + 1) ∨ 30 + (R + Gq) * (C + 1) + C < q) → (u.2) q = mg q)) (fun (u : (Nat → Int32) × (Nat → Int)) t => va_P (dC, dI) vwCl (WR a k h0 (fT vi 7 (nI (Gq + 1))) vj (fT vF 0 (u.1)) vG) t.heap ∧ va_D (va_A (WR a k h0 vi vj vF vG) sz) (WR a k h0 (fT vi 7 (nI (Gq + 1))) vj (fT vF 0 (u.1)) vG)) (va_A (WR a k h0 vi vj vF vG) sz)) 0 0 (va_A (WR a k h0 vi vj vF vG) sz) := by
  refine Met.ofW (cc := cX12_goalRow) (maxL := 2) (ret := (some .int)) (by decide) rfl ?_
  intro p e s m args below meth c s₁ B hml hv
  obtain ⟨rfl, hsz, hP, hK, hD0⟩ := hv
  have hx := B.exec
  have hb := B.bytes
  have hr := B.returns
  have hts := atoms_spec (ws := wsRX12_goalRow) B.pre
  have hown : s.vm.findClass RX12 = some m.cls := findClass_of_methodNamed B.named
  have hlocks := B.notSynchronized
  subst hsz
  have hD := hD0.self (sz := s.heap.size)
  generalize hAe : va_A (WR a k h0 vi vj vF vG) s.heap.size = A at hD ⊢
  have hA : ∀ q : Nat, s.heap.size ≤ q → A q := fun q h => by rw [← hAe]; exact Or.inr h
  have hS : va_S A s.heap s.heap [] := va_S.rf
  have hl := lv_entry ([.ref h0]) (n := 2) (Nat.le_of_ble_eq_true rfl)
  rw [lg_entry_eq]
  generalize (lg_sl ([.ref h0]) ++ List.replicate (2 - (lg_sl ([.ref h0])).length) Slot.unset).toArray = ls at hl ⊢
  have hl : lv_has ls 2 [(0, .ref h0)] := hl
  refine lv_aload_n hx hb dX12_goalRow_0 rfl (lv_at hl 0 rfl) ?_
  have hFc := allFree hD hS hA
  refine va_calli (va_runV (As := []) (rest := []) ⟨hx, hb, hml, hown, hts⟩ (r_X12_newRow l dC dI a k h0 vi vj vF vG C R Gq mg hBg (by first | with_reducible assumption | decide | omega | rfl | assumption) (by first | with_reducible assumption | decide | omega | rfl | assumption) (by first | with_reducible assumption | decide | omega | rfl | assumption) (by first | with_reducible assumption | decide | omega | rfl | assumption) (by first | with_reducible assumption | decide | omega | rfl | assumption) (by first | with_reducible assumption | decide | omega | rfl | assumption) s.heap.size) (cwV 0 hts gwsRX12_goalRow_0 rfl rfl rfl hd_yX12_newRow_RX12 (by decide +kernel)) (fz_pre (va_recv hK hP (ci := 12) (q0 := 0) rfl rfl) hP hK hD) rfl rfl hl.1 rfl (lv_room (Nat.le_of_ble_eq_true rfl)) dX12_goalRow_1 (by decide +kernel)) hS (fun q _ h => hFc q h) hFc (fun r1 u t9_ H locs ht hvm hw9 hB9 hz1 hk1 hS => ?_)
  revert u hw9 hB9
  refine fz_p2 ?_
  intro g1 m21 hw9 hB9
  try dsimp only at hw9 hB9
  have hP : va_P (dC, dI) vwCl (WR a k h0 vi vj (fT vF 0 g1) vG) H := fz_P ht hB9.1
  have hD := fz_sd hP (hB9.2.weaken (fun _ q _ h => hFc q.1 h)) rfl
  obtain ⟨rfl, f1_0, f1_1, f1_2⟩ := hw9
  refine lv_istore_n hx hb dX12_goalRow_4 rfl hl (by decide) rfl (fun ls (hl : lv_has ls _ ([(1, .int (nI (R + Gq))), (0, .ref h0)])) => ?_)
  refine lv_aload_n hx hb dX12_goalRow_5 rfl (lv_at hl 1 rfl) ?_
  refine lv_dup hx hb dX12_goalRow_6 rfl ?_
  refine va_get (D := (dC, dI)) (ci := 12) (v := .int (vi 7)) (C := RX12) (T := TX12) (N := 163) (fs := fM (vS a vi vj)) hx hb hts iwsRX12_goalRow_in12 hown hK hP 0 rfl rfl 7 (by decide) (hts _ hm_r_X12_goalRow_0) (fun _ h9 => h9) rfl dX12_goalRow_7 ?_
  refine lv_topi (fun y1 hy1 => ?_)
  obtain rfl : (nI Gq) = y1 := (hy1.trans (hG)).symm
  refine lv_iconst (v := 1) hx hb dX12_goalRow_10 (by decide) ?_
  refine lv_iadd hx hb dX12_goalRow_11 ?_
  refine lv_topi (fun y2 hy2 => ?_)
  obtain rfl : (nI (Gq + 1)) = y2 := (hy2.trans (nI_add Gq 1)).symm
  refine va_put (D := (dC, dI)) (ci := 12) (v := .int (nI (Gq + 1))) (ty := .int) (C := RX12) (T := TX12) (N := 163) (fs := fM (vS a vi vj)) hx hb hts iwsRX12_goalRow_in12 tyX12 tyX12_ok nmX12 hown hK hP hD hS 0 rfl rfl 7 (by decide) (hts _ hm_r_X12_goalRow_0) (fun _ h9 => h9) rfl (by decide +kernel) rfl rfl (Nat.le_of_ble_eq_true rfl) dX12_goalRow_12 (fun H locs hP hD hS => ?_)
  have hP : va_P (dC, dI) vwCl (WR a k h0 (fT vi 7 (nI (Gq + 1))) vj (fT vF 0 g1) vG) H := fz_w (WR_i 7 _ rfl) hP
  have hD : va_D A (WR a k h0 (fT vi 7 (nI (Gq + 1))) vj (fT vF 0 g1) vG) := fz_wD (WR_i 7 _ rfl) hD
  refine lv_iload_n hx hb dX12_goalRow_15 rfl (lv_at hl 0 rfl) ?_
  refine W.widen (k := 0) (n := 0) (by decide +kernel) (by decide +kernel) ?_
  exact W.iret (v := (nI (R + Gq))) hx hb hr (fun t9_ ht hW => ⟨⟨(nI (R + Gq)), (g1, m21), rfl, by (try dsimp only); exact ⟨rfl, f1_0, f1_1, f1_2⟩, by rw [ht]; exact hP, hD⟩, hS.F ht⟩) hS.2.2 dX12_goalRow_16
theorem dX12_start_0 : decode cX12_start 0 = .ok (.aload_n 0, 1) := dk_42 (by decide +kernel)
theorem dX12_start_1 : decode cX12_start 1 = .ok (.invokevirtual 459, 3) := dk_182 (by decide +kernel)
theorem dX12_start_4 : decode cX12_start 4 = .ok (.istore_n 1, 1) := dk_60 (by decide +kernel)
theorem dX12_start_5 : decode cX12_start 5 = .ok (.aload_n 0, 1) := dk_42 (by decide +kernel)
theorem dX12_start_6 : decode cX12_start 6 = .ok (.aload_n 0, 1) := dk_42 (by decide +kernel)
theorem dX12_start_7 : decode cX12_start 7 = .ok (.iload_n 1, 1) := dk_27 (by decide +kernel)
theorem dX12_start_8 : decode cX12_start 8 = .ok (.aload_n 0, 1) := dk_42 (by decide +kernel)
theorem dX12_start_9 : decode cX12_start 9 = .ok (.getfield 396, 3) := dk_180 (by decide +kernel)
theorem dX12_start_12 : decode cX12_start 12 = .ok (.iconst 1, 1) := dk_4 (by decide +kernel)
theorem dX12_start_13 : decode cX12_start 13 = .ok (.isub, 1) := dk_100 (by decide +kernel)
theorem dX12_start_14 : decode cX12_start 14 = .ok (.invokevirtual 405, 3) := dk_182 (by decide +kernel)
theorem dX12_start_17 : decode cX12_start 17 = .ok (.lconst 1, 1) := dk_10 (by decide +kernel)
theorem dX12_start_18 : decode cX12_start 18 = .ok (.invokevirtual 369, 3) := dk_182 (by decide +kernel)
theorem dX12_start_21 : decode cX12_start 21 = .ok (.return_, 1) := dk_177 (by decide +kernel)
def wsRX12_start : List Cond := .code yX12_start cX12_start 2 none :: ([.fieldLink RX12 396 "OptimaWorksModel" "columns" "I"] ++ wsX120 ++ (wsV RX12 459 RX12 yX12_goalRow wsRX12_goalRow) ++ (wsV RX12 405 RX12 yX12_at wsRX12_at) ++ (wsV RX12 369 RX12 yX12_put wsRX12_put))
theorem iwsRX12_start_in12 : ∀ w ∈ wsX120, w ∈ wsRX12_start := fun _ h => List.mem_cons_of_mem _ (List.mem_append_left _ (List.mem_append_left _ (List.mem_append_left _ (List.mem_append_right _ h))))
theorem gwsRX12_start_0 : GoodIn wsRX12_start (wsV RX12 459 RX12 yX12_goalRow wsRX12_goalRow) := goodIn_sub (fun _ h => List.mem_cons_of_mem _ (List.mem_append_left _ (List.mem_append_left _ (List.mem_append_right _ h)))) (gdV (by decide +kernel) gdwsRX12_goalRow)
theorem gwsRX12_start_1 : GoodIn wsRX12_start (wsV RX12 405 RX12 yX12_at wsRX12_at) := goodIn_sub (fun _ h => List.mem_cons_of_mem _ (List.mem_append_left _ (List.mem_append_right _ h))) (gdV (by decide +kernel) gdwsRX12_at)
theorem gwsRX12_start_2 : GoodIn wsRX12_start (wsV RX12 369 RX12 yX12_put wsRX12_put) := goodIn_sub (fun _ h => List.mem_cons_of_mem _ (List.mem_append_right _ h)) (gdV (by decide +kernel) gdwsRX12_put)
theorem gdwsRX12_start : wsRX12_start.all goodWord = true := gdC rfl (gdA (gdA (gdA (gdA (by decide +kernel : ([.fieldLink RX12 396 "OptimaWorksModel" "columns" "I"] : List Cond).all goodWord = true) gdwsX120) (gdV (by decide +kernel) gdwsRX12_goalRow)) (gdV (by decide +kernel) gdwsRX12_at)) (gdV (by decide +kernel) gdwsRX12_put))
set_option maxHeartbeats 4000000 in
set_option maxRecDepth 100000 in
/-- start() -/
theorem r_X12_start (l : Launch) (dC : Nat → ClassId) (dI : Nat → Nat → Nat) (a : Nat → Nat) (k : Nat → ClassId) (h0 : Nat) (vi : Nat → Int32) (vj : Nat → Int64) (vF : Nat → Nat → Int32) (vG : Nat → Nat → Int64) (C : Nat) (R : Nat) (Gq : Nat) (mg : Nat → Int) (hBg : Bg (vF 0) mg) (hC : vi 5 = nI C) (hR : vi 6 = nI R) (hG : vi 7 = nI Gq) (hC45 : 0 < C ∧ C ≤ 45) (hRG : R + Gq < 60) (hsz : 30 + (R + Gq) * (C + 1) + C < 1000) (sz : Nat) : Met l yX12_start wsRX12_start ({ frames := 3, cells := 0, slots := 0, locals := 70 }) (va_Pc [.ref h0] (fun U => U.heap.size = sz ∧ va_P (dC, dI) vwCl (WR a k h0 vi vj vF vG) U.heap ∧ va_K (dC, dI) vwCl (tX12 k) U ∧ va_D (fun _ => True) (WR a k h0 vi vj vF vG))) (va_Qv (fun (u : (Nat → Int32) × (Nat → Int)) => (Bg (u.1) (u.2)) ∧ (∀ j, j ≤ C → (u.2) (30 + (R + Gq) * (C + 1) + j) = if j = C - 1 then 1 else 0) ∧ (∀ q, (q < 30 + (R + Gq) * (C + 1) ∨ 30 + (R + Gq) * (C + 1) + C < q) → (u.2) q = mg q)) (fun (u : (Nat → Int32) × (Nat → Int)) t => va_P (dC, dI) vwCl (WR a k h0 (fT vi 7 (nI (Gq + 1))) vj (fT vF 0 (u.1)) vG) t.heap ∧ va_D (va_A (WR a k h0 vi vj vF vG) sz) (WR a k h0 (fT vi 7 (nI (Gq + 1))) vj (fT vF 0 (u.1)) vG)) (va_A (WR a k h0 vi vj vF vG) sz)) 0 0 (va_A (WR a k h0 vi vj vF vG) sz) := by
  refine Met.ofW (cc := cX12_start) (maxL := 2) (ret := none) (by decide) rfl ?_
  intro p e s m args below meth c s₁ B hml hv
  obtain ⟨rfl, hsz, hP, hK, hD0⟩ := hv
  have hx := B.exec
  have hb := B.bytes
  have hr := B.returns
  have hts := atoms_spec (ws := wsRX12_start) B.pre
  have hown : s.vm.findClass RX12 = some m.cls := findClass_of_methodNamed B.named
  have hlocks := B.notSynchronized
  subst hsz
  have hD := hD0.self (sz := s.heap.size)
  generalize hAe : va_A (WR a k h0 vi vj vF vG) s.heap.size = A at hD ⊢
  have hA : ∀ q : Nat, s.heap.size ≤ q → A q := fun q h => by rw [← hAe]; exact Or.inr h
  have hS : va_S A s.heap s.heap [] := va_S.rf
  have hl := lv_entry ([.ref h0]) (n := 2) (Nat.le_of_ble_eq_true rfl)
  rw [lg_entry_eq]
  generalize (lg_sl ([.ref h0]) ++ List.replicate (2 - (lg_sl ([.ref h0])).length) Slot.unset).toArray = ls at hl ⊢
  have hl : lv_has ls 2 [(0, .ref h0)] := hl
  refine lv_aload_n hx hb dX12_start_0 rfl (lv_at hl 0 rfl) ?_
  have hFc := allFree hD hS hA
  refine va_calli (va_runV (As := []) (rest := []) ⟨hx, hb, hml, hown, hts⟩ (r_X12_goalRow l dC dI a k h0 vi vj vF vG C R Gq mg hBg (by first | with_reducible assumption | decide | omega | rfl | assumption) (by first | with_reducible assumption | decide | omega | rfl | assumption) (by first | with_reducible assumption | decide | omega | rfl | assumption) (by first | with_reducible assumption | decide | omega | rfl | assumption) (by first | with_reducible assumption | decide | omega | rfl | assumption) (by first | with_reducible assumption | decide | omega | rfl | assumption) s.heap.size) (cwV 0 hts gwsRX12_start_0 rfl rfl rfl hd_yX12_goalRow_RX12 (by decide +kernel)) (fz_pre (va_recv hK hP (ci := 12) (q0 := 0) rfl rfl) hP hK hD) rfl rfl hl.1 rfl (lv_room (Nat.le_of_ble_eq_true rfl)) dX12_start_1 (by decide +kernel)) hS (fun q _ h => hFc q h) hFc (fun r1 u t9_ H locs ht hvm hw9 hB9 hz1 hk1 hS => ?_)
  revert u hw9 hB9
  refine fz_p2 ?_
  intro g1 m21 hw9 hB9
  try dsimp only at hw9 hB9
  have hP : va_P (dC, dI) vwCl (WR a k h0 (fT vi 7 (nI (Gq + 1))) vj (fT vF 0 g1) vG) H := fz_P ht hB9.1
  have hD := fz_sd hP (hB9.2.weaken (fun _ q _ h => hFc q.1 h)) rfl
  obtain ⟨rfl, f1_0, f1_1, f1_2⟩ := hw9
  refine lv_istore_n hx hb dX12_start_4 rfl hl (by decide) rfl (fun ls (hl : lv_has ls _ ([(1, .int (nI (R + Gq))), (0, .ref h0)])) => ?_)
  refine lv_aload_n hx hb dX12_start_5 rfl (lv_at hl 1 rfl) ?_
  refine lv_aload_n hx hb dX12_start_6 rfl (lv_at hl 1 rfl) ?_
  refine lv_iload_n hx hb dX12_start_7 rfl (lv_at hl 0 rfl) ?_
  refine lv_aload_n hx hb dX12_start_8 rfl (lv_at hl 1 rfl) ?_
  refine va_get (D := (dC, dI)) (ci := 12) (v := .int (vi 5)) (C := RX12) (T := TX12) (N := 163) (fs := fM (vS a (fT vi 7 (nI (Gq + 1))) vj)) hx hb hts iwsRX12_start_in12 hown hK hP 0 rfl rfl 5 (by decide) (hts (.fieldLink RX12 396 "OptimaWorksModel" "columns" "I") (by decide +kernel)) (fun _ h9 => h9) rfl dX12_start_9 ?_
  refine lv_topi (fun y1 hy1 => ?_)
  obtain rfl : (nI C) = y1 := (hy1.trans (hC)).symm
  refine lv_iconst (v := 1) hx hb dX12_start_12 (by decide) ?_
  refine lv_isub hx hb dX12_start_13 ?_
  refine lv_topi (fun y2 hy2 => ?_)
  obtain rfl : (nI (C - 1)) = y2 := (hy2.trans (pk_sub (a := C) (b := 1) (by omega))).symm
  have hFc := allFree hD hS hA
  refine va_calli (va_runV (As := [.int (nI (R + Gq)), .int (nI (C - 1))]) (rest := [.ref h0]) ⟨hx, hb, hml, hown, hts⟩ (r_X12_at l dC dI a k h0 (fT vi 7 (nI (Gq + 1))) vj (fT vF 0 g1) vG (R + Gq) (C - 1) C (by first | with_reducible assumption | decide | omega | rfl | assumption) H.size) (cwV 2 hts gwsRX12_start_1 rfl rfl rfl hd_yX12_at_RX12 (by decide +kernel)) (fz_pre (va_recv hK hP (ci := 12) (q0 := 0) rfl rfl) hP hK hD) rfl rfl hl.1 rfl (lv_room (Nat.le_of_ble_eq_true rfl)) dX12_start_14 (by decide +kernel)) hS (fun q _ h => hFc q h) hFc (fun r14 u t9_ H locs ht hvm hw9 hB9 hz1 hk1 hS => ?_)
  have hP : va_P (dC, dI) vwCl (WR a k h0 (fT vi 7 (nI (Gq + 1))) vj (fT vF 0 g1) vG) H := fz_P ht hB9.1
  have hD := fz_sd hP (hB9.2.weaken (fun _ q _ h => hFc q.1 h)) rfl
  obtain rfl := hw9
  refine lv_lconst (v := 1) hx hb dX12_start_17 (by decide) ?_
  have hFc := allFree hD hS hA
  refine va_callv (va_runV (As := [.int (nI (30 + (R + Gq) * (C + 1) + (C - 1))), .long 1]) (rest := []) ⟨hx, hb, hml, hown, hts⟩ (b_X12_put l dC dI a k h0 (fT vi 7 (nI (Gq + 1))) vj (fT vF 0 g1) vG (30 + (R + Gq) * (C + 1) + (C - 1)) 1 1 m21 f1_0 (by first | with_reducible assumption | decide | omega | rfl | assumption) (by decide) (by first | with_reducible assumption | decide | omega | rfl | assumption) H.size) (cwV 2 hts gwsRX12_start_2 rfl rfl rfl hd_yX12_put_RX12 (by decide +kernel)) (fz_pre (va_recv hK hP (ci := 12) (q0 := 0) rfl rfl) hP hK hD) rfl rfl hl.1 rfl (lv_room (Nat.le_of_ble_eq_true rfl)) dX12_start_18 (by decide +kernel)) hS (fun q _ h => hFc q h) hFc (fun g18 t9_ H locs ht hvm hw9 hB9 hz1 hk1 hS => ?_)
  have e9F : fT vF 0 g18 = fT (fT vF 0 g1) 0 g18 := (fT_sm _ _ _ _).symm
  have hP := wr_PF e9F (fz_P ht hB9.1)
  have hD := wr_DF e9F (hB9.2.weaken (fun _ q _ h => hFc q.1 h))
  clear e9F
  have f18_0 := hw9
  try dsimp only at f18_0
  refine W.widen (k := 0) (n := 0) (by decide +kernel) (by decide +kernel) ?_
  exact W.vret hx hb hr (fun t9_ ht hW => ⟨⟨(g18, (fT m21 (30 + (R + Gq) * (C + 1) + (C - 1)) 1)), rfl, by (try dsimp only); exact ⟨f18_0, fun j hj => by by_cases e9 : j = C - 1; (rw [e9, fT_eq, if_pos rfl]); (rw [fT_ne _ _ (by omega), if_neg e9]; exact f1_1 j hj), fun q hq => by (rw [fT_ne _ _ (by omega), f1_2 _ (by omega)])⟩, by rw [ht]; exact hP, hD⟩, hS.F ht⟩) hS.2.2 dX12_start_21
end
section
/-! how great a minor can be: unit vectors count one, the other rows by their sums -/
theorem sR_map {α β : Type} (V : α → β) (L : List α) (g : β → List β → Int) : sR (L.map V) g = sR L (fun q r => g (V q) (r.map V)) := by
  induction L generalizing g with
  | nil => rfl
  | cons x L ih =>
    simp only [List.map_cons, sR]
    rw [ih]
theorem sR_bd {α : Type} (L : List α) (f : α → List α → Int) (c : α → Nat) (h : ∀ l1 q l2, L = l1 ++ q :: l2 → (f q (l1 ++ l2)).natAbs ≤ c q) : (sR L f).natAbs ≤ (L.map c).sum := by
  induction L generalizing f with
  | nil => simp [sR]
  | cons x L ih =>
    simp only [sR, List.map_cons, List.sum_cons]
    have h1 := h [] x L rfl
    have h2 := ih (fun w r => f w (x :: r)) (fun l1 q l2 e => h (x :: l1) q l2 (by rw [e]; rfl))
    simp only [List.nil_append] at h1
    omega
theorem dT_zero (rows : List Nat) (l1 : List (Nat → Int)) (a : Nat → Int) (l2 : List (Nat → Int)) (h : ∀ t ∈ rows, a t = 0) : dT rows (l1 ++ a :: l2) = 0 := by
  have e := dT_alike rows l1 a (fun t => 0 * a t + 0 * a t) l2 (fun t ht => by rw [h t ht]; rfl)
  rw [e, dT_lin rows l1 a a 0 0 l2]
  omega
/-- how many of L are no unit vectors -/
def nonU (un : Nat → Option Nat) : List Nat → Nat
  | [] => 0
  | q :: L => (match un q with | none => 1 | some _ => 0) + nonU un L
theorem nonU_app (un : Nat → Option Nat) (l1 l2 : List Nat) : nonU un (l1 ++ l2) = nonU un l1 + nonU un l2 := by
  induction l1 with
  | nil => simp [nonU]
  | cons x l ih => simp only [List.cons_append, nonU]; rw [ih]; omega
theorem sum_one {L : List Nat} (hL : L.Nodup) (p b : Nat) : (L.map (fun q => if q = p then b else 0)).sum ≤ b := by
  induction L with
  | nil => simp
  | cons x L ih =>
    rw [List.nodup_cons] at hL
    simp only [List.map_cons, List.sum_cons]
    by_cases e : x = p
    · subst e
      rw [if_pos rfl]
      have z : (L.map (fun q => if q = x then b else 0)).sum = 0 := by
        have : L.map (fun q => if q = x then b else 0) = L.map (fun _ => 0) := List.map_congr_left (fun q hq => if_neg (fun e9 => hL.1 (by rw [← e9]; exact hq)))
        rw [this]
        clear this ih hL
        induction L with
        | nil => rfl
        | cons y L ih => simp only [List.map_cons, List.sum_cons]; omega
      omega
    · rw [if_neg e]; have := ih hL.2; omega
theorem sum_mulc (L : List Nat) (f : Nat → Nat) (c : Nat) : (L.map (fun q => f q * c)).sum = (L.map f).sum * c := by
  induction L with
  | nil => simp
  | cons x L ih => simp only [List.map_cons, List.sum_cons]; rw [ih, Nat.add_mul]
theorem sum_mid (l1 : List Nat) (q : Nat) (l2 : List Nat) (f : Nat → Nat) : ((l1 ++ l2).map f).sum ≤ ((l1 ++ q :: l2).map f).sum := by
  simp only [List.map_append, List.sum_append, List.map_cons, List.sum_cons]; omega
/-- the bound: p rows, of a sum of at most W beside the one column c, which has at most Bc -/
def bF (W Bc c p : Nat) : Nat := (1 + c * (p * Bc)) * W ^ p
theorem bF_mono {W Bc c c' p p' : Nat} (hW : 1 ≤ W) (hc : c ≤ c') (hp : p ≤ p') : bF W Bc c p ≤ bF W Bc c' p' := by
  unfold bF
  exact Nat.mul_le_mul (Nat.add_le_add_left (Nat.mul_le_mul hc (Nat.mul_le_mul_right _ hp)) _) (Nat.pow_le_pow_right hW hp)
theorem bF_step {W Bc c p S B : Nat} (hW : 1 ≤ W) (hS : S ≤ W) (hB : B ≤ Bc) : S * bF W Bc c p + c * (B * bF W Bc 0 p) ≤ bF W Bc c (p + 1) := by
  unfold bF
  rw [Nat.zero_mul, Nat.add_zero, Nat.one_mul, Nat.pow_succ]
  have h1 : S * ((1 + c * (p * Bc)) * W ^ p) ≤ W * ((1 + c * (p * Bc)) * W ^ p) := Nat.mul_le_mul_right _ hS
  have h2 : c * (B * W ^ p) ≤ c * (Bc * W ^ p) * W := by
    refine Nat.le_trans (Nat.mul_le_mul_left _ (Nat.mul_le_mul_right _ hB)) ?_
    exact Nat.le_mul_of_pos_right _ hW
  have h3 : (1 + c * ((p + 1) * Bc)) * (W ^ p * W) = W * ((1 + c * (p * Bc)) * W ^ p) + c * (Bc * W ^ p) * W := by
    rw [show 1 + c * ((p + 1) * Bc) = (1 + c * (p * Bc)) + c * Bc by rw [Nat.add_mul, Nat.one_mul, Nat.mul_add]; omega, Nat.add_mul]
    congr 1
    · rw [← Nat.mul_assoc, Nat.mul_comm]
    · rw [← Nat.mul_assoc, ← Nat.mul_assoc]
  omega
/-- how many of rows are lines -/
def nL (R : Nat) : List Nat → Nat
  | [] => 0
  | t :: l => (if t < R then 1 else 0) + nL R l
theorem sum_zero (L : List Nat) (f : Nat → Nat) (h : ∀ q ∈ L, f q = 0) : (L.map f).sum = 0 := by
  induction L with
  | nil => rfl
  | cons x L ih => simp only [List.map_cons, List.sum_cons]; rw [h x List.mem_cons_self, ih (fun q hq => h q (List.mem_cons_of_mem _ hq))]
theorem sum_add (L : List Nat) (f g : Nat → Nat) : (L.map (fun q => f q + g q)).sum = (L.map f).sum + (L.map g).sum := by
  induction L with
  | nil => rfl
  | cons x L ih => simp only [List.map_cons, List.sum_cons]; rw [ih]; omega
/-- a sum over L with one place of its own -/
theorem sum_but {L : List Nat} (hL : L.Nodup) (p : Nat) (f : Nat → Nat) (X Y : Nat) : (L.map (fun q => if q = p then X else f q * Y)).sum ≤ (L.map (fun q => if q = p then 0 else f q)).sum * Y + X := by
  have e : L.map (fun q => if q = p then X else f q * Y) = L.map (fun q => (if q = p then 0 else f q) * Y + (if q = p then X else 0)) := List.map_congr_left (fun q _ => by
    by_cases h : q = p
    · rw [if_pos h, if_pos h, if_pos h]; omega
    · rw [if_neg h, if_neg h, if_neg h]; omega)
  rw [e, sum_add, sum_mulc]
  have := sum_one hL p X
  omega
theorem dT_bd (V : Nat → Nat → Int) (un : Nat → Option Nat) (hU : ∀ q i, un q = some i → ∀ t, V q t = if t = i then 1 else 0) (W Bc GM cq R g0 : Nat) (hW : 1 ≤ W) (hG : 1 ≤ GM) (hcq : un cq = none) (hg0 : R ≤ g0) :
    ∀ (rows L : List Nat), rows.Nodup → L.Nodup → (∀ t ∈ rows, (∃ q ∈ L, un q = some t) ∨ (t < R ∧ (L.map (fun q => if q = cq then 0 else (V q t).natAbs)).sum ≤ W ∧ (V cq t).natAbs ≤ Bc) ∨ (t = g0 ∧ (L.map (fun q => (V q t).natAbs)).sum ≤ GM)) →
    (dT rows (L.map V)).natAbs ≤ bF W Bc (if cq ∈ L then 1 else 0) (min (nL R rows) (nonU un L)) * (if g0 ∈ rows then GM else 1) := by
  intro rows
  induction rows with
  | nil =>
    intro L _ _ _
    have h1 : 1 ≤ bF W Bc (if cq ∈ L then 1 else 0) (min (nL R []) (nonU un L)) := by
      unfold bF
      exact Nat.mul_le_mul (Nat.le_add_right 1 _) (Nat.one_le_pow _ _ hW)
    cases L with
    | nil => simp only [List.map_nil, dT]; simp at h1 ⊢; exact h1
    | cons x L => simp only [List.map_cons, dT]; simp
  | cons t rows ih =>
    intro L hR hL hh
    rw [List.nodup_cons] at hR
    rw [dT_cons, sR_map]
    have sub : ∀ l1 q l2, L = l1 ++ q :: l2 → (l1 ++ l2).Nodup ∧ q ∉ l1 ++ l2 := by
      intro l1 q l2 e
      rw [e] at hL
      rw [List.nodup_append] at hL ⊢
      obtain ⟨a1, a2, a3⟩ := hL
      rw [List.nodup_cons] at a2
      refine ⟨⟨a1, a2.2, fun x hx y hy => a3 x hx y (List.mem_cons_of_mem _ hy)⟩, fun hq => ?_⟩
      rcases List.mem_append.mp hq with h | h
      · exact a3 q h q List.mem_cons_self rfl
      · exact a2.1 h
    have inL : ∀ l1 q l2, L = l1 ++ q :: l2 → ∀ x, x ∈ l1 ++ l2 → x ∈ L := by
      intro l1 q l2 e x hx
      rw [e]
      rcases List.mem_append.mp hx with h | h
      · exact List.mem_append_left _ h
      · exact List.mem_append_right _ (List.mem_cons_of_mem _ h)
    have inS : ∀ l1 q l2, L = l1 ++ q :: l2 → ∀ x, x ∈ L → x ≠ q → x ∈ l1 ++ l2 := by
      intro l1 q l2 e x hx hne
      rw [e] at hx
      rcases List.mem_append.mp hx with h | h
      · exact List.mem_append_left _ h
      · rcases List.mem_cons.mp h with h | h
        · exact absurd h hne
        · exact List.mem_append_right _ h
    have down : ∀ l1 q l2, L = l1 ++ q :: l2 → (∀ i, un q = some i → i ∉ rows) → (dT rows ((l1 ++ l2).map V)).natAbs ≤ bF W Bc (if cq ∈ l1 ++ l2 then 1 else 0) (min (nL R rows) (nonU un (l1 ++ l2))) * (if g0 ∈ rows then GM else 1) := by
      intro l1 q l2 e hq
      refine ih (l1 ++ l2) hR.2 (sub l1 q l2 e).1 (fun t' ht' => ?_)
      rcases hh t' (List.mem_cons_of_mem _ ht') with ⟨q', hq', eq'⟩ | ⟨h0, h, h2⟩ | ⟨h0, h⟩
      · exact Or.inl ⟨q', inS l1 q l2 e q' hq' (fun e2 => hq t' (by rw [← e2]; exact eq') ht'), eq'⟩
      · right; left; refine ⟨h0, Nat.le_trans (sum_mid l1 q l2 _) ?_, h2⟩; rw [← e]; exact h
      · right; right; refine ⟨h0, Nat.le_trans (sum_mid l1 q l2 _) ?_⟩; rw [← e]; exact h
    have cmono : ∀ l1 q l2, L = l1 ++ q :: l2 → (if cq ∈ l1 ++ l2 then 1 else 0) ≤ (if cq ∈ L then 1 else 0) := by
      intro l1 q l2 e
      by_cases h : cq ∈ l1 ++ l2
      · rw [if_pos h, if_pos (inL l1 q l2 e cq h)]; exact Nat.le_refl _
      · rw [if_neg h]; exact Nat.zero_le _
    have gmono : (if g0 ∈ rows then GM else 1) ≤ (if g0 ∈ t :: rows then GM else 1) := by
      by_cases h1 : g0 ∈ rows
      · rw [if_pos h1, if_pos (List.mem_cons_of_mem _ h1)]; exact Nat.le_refl _
      · rw [if_neg h1]; split <;> omega
    have nmono : nL R rows ≤ nL R (t :: rows) := by simp only [nL]; omega
    by_cases hu : ∃ q ∈ L, un q = some t
    · obtain ⟨qt, hqt, eqt⟩ := hu
      refine Nat.le_trans (sR_bd L _ (fun q => if q = qt then bF W Bc (if cq ∈ L then 1 else 0) (min (nL R rows) (nonU un L)) * (if g0 ∈ rows then GM else 1) else 0) ?_) (Nat.le_trans (sum_one hL qt _) (Nat.mul_le_mul (bF_mono hW (Nat.le_refl _) (by omega)) gmono))
      intro l1 q l2 e
      by_cases e2 : q = qt
      · subst e2
        rw [if_pos rfl, hU q t eqt t, if_pos rfl, Int.one_mul]
        have hn : nonU un L = nonU un (l1 ++ l2) := by rw [e, nonU_app, nonU_app]; simp only [nonU]; rw [eqt]; simp
        rw [hn]
        refine Nat.le_trans (down l1 q l2 e (fun i hi hin => ?_)) (Nat.mul_le_mul_right _ (bF_mono hW (cmono l1 q l2 e) (Nat.le_refl _)))
        rw [eqt] at hi; injection hi with hi; exact hR.1 (by rw [hi]; exact hin)
      · rw [if_neg e2]
        obtain ⟨k1, k2, ek⟩ := List.append_of_mem (inS l1 q l2 e qt hqt (fun h => e2 h.symm))
        have z : dT rows ((l1 ++ l2).map V) = 0 := by
          rw [ek, List.map_append, List.map_cons]
          exact dT_zero rows _ _ _ (fun t' ht' => by rw [hU qt t eqt t', if_neg (fun (e9 : t' = t) => hR.1 (by rw [← e9]; exact ht'))])
        rw [z, Int.mul_zero]; exact Nat.le_refl _
    · have zero : ∀ q, q ∈ L → ∀ i, un q = some i → V q t = 0 := by
        intro q hq i hi
        rw [hU q i hi t, if_neg (fun e2 => hu ⟨q, hq, by rw [hi, e2]⟩)]
      have memq : ∀ l1 q l2, L = l1 ++ q :: l2 → q ∈ L := fun l1 q l2 e => by rw [e]; exact List.mem_append_right _ List.mem_cons_self
      have kq : ∀ l1 q l2, L = l1 ++ q :: l2 → un q = none → nonU un L = nonU un (l1 ++ l2) + 1 := by
        intro l1 q l2 e hq
        rw [e, nonU_app, nonU_app]; simp only [nonU]; rw [hq]; simp only; omega
      rcases hh t List.mem_cons_self with h | ⟨htR, h, hc⟩ | ⟨h0, h⟩
      · exact absurd h hu
      · have hgt : (if g0 ∈ rows then GM else 1) = (if g0 ∈ t :: rows then GM else 1) := by
          by_cases h1 : g0 ∈ rows
          · rw [if_pos h1, if_pos (List.mem_cons_of_mem _ h1)]
          · rw [if_neg h1, if_neg (fun h2 => by rcases List.mem_cons.mp h2 with h3 | h3 <;> first | omega | exact h1 h3)]
        rcases Nat.eq_zero_or_pos (nonU un L) with e0 | e0
        · refine Nat.le_trans (sR_bd L _ (fun _ => 0) (fun l1 q l2 e => ?_)) (by rw [sum_zero L _ (fun _ _ => rfl)]; exact Nat.zero_le _)
          cases hq : un q with
          | some i => rw [zero q (memq l1 q l2 e) i hq, Int.zero_mul]; exact Nat.le_refl _
          | none => have := kq l1 q l2 e hq; omega
        · obtain ⟨p, hp⟩ : ∃ p, p = min (nL R rows) (nonU un L - 1) := ⟨_, rfl⟩
          have hp1 : min (nL R (t :: rows)) (nonU un L) = p + 1 := by simp only [nL]; rw [if_pos htR]; omega
          rw [hp1, ← hgt]
          refine Nat.le_trans (sR_bd L _ (fun q => if q = cq then (if cq ∈ L then 1 else 0) * ((V cq t).natAbs * bF W Bc 0 p) * (if g0 ∈ rows then GM else 1) else (V q t).natAbs * (bF W Bc (if cq ∈ L then 1 else 0) p * (if g0 ∈ rows then GM else 1))) ?_) ?_
          · intro l1 q l2 e
            rw [Int.natAbs_mul]
            cases hq : un q with
            | some i =>
              rw [zero q (memq l1 q l2 e) i hq]; simp
            | none =>
              have hk := kq l1 q l2 e hq
              have hd := down l1 q l2 e (fun i hi => by rw [hq] at hi; exact absurd hi (by simp))
              have hm : min (nL R rows) (nonU un (l1 ++ l2)) = p := by omega
              rw [hm] at hd
              by_cases ec : q = cq
              · have hin : cq ∈ L := by rw [← ec]; exact memq l1 q l2 e
                have hout : cq ∉ l1 ++ l2 := by rw [← ec]; exact (sub l1 q l2 e).2
                rw [if_pos ec, if_pos hin, Nat.one_mul, Nat.mul_assoc, ec]
                rw [if_neg hout] at hd
                exact Nat.mul_le_mul_left _ hd
              · rw [if_neg ec]
                exact Nat.mul_le_mul_left _ (Nat.le_trans hd (Nat.mul_le_mul_right _ (bF_mono hW (cmono l1 q l2 e) (Nat.le_refl _))))
          · refine Nat.le_trans (sum_but hL cq (fun q => (V q t).natAbs) _ _) ?_
            have hs := bF_step (W := W) (Bc := Bc) (c := if cq ∈ L then 1 else 0) (p := p) hW h hc
            refine Nat.le_trans (Nat.le_of_eq ?_) (Nat.mul_le_mul_right (if g0 ∈ rows then GM else 1) hs)
            generalize (List.map (fun q => if q = cq then 0 else (V q t).natAbs) L).sum = S
            rw [Nat.add_mul, Nat.mul_assoc S]
      · have hn : g0 ∉ rows := by rw [← h0]; exact hR.1
        have hgt : (if g0 ∈ t :: rows then GM else 1) = GM := if_pos (by rw [h0]; exact List.mem_cons_self)
        rw [hgt]
        refine Nat.le_trans (sR_bd L _ (fun q => (V q t).natAbs * bF W Bc (if cq ∈ L then 1 else 0) (min (nL R (t :: rows)) (nonU un L))) ?_) ?_
        · intro l1 q l2 e
          rw [Int.natAbs_mul]
          cases hq : un q with
          | some i => rw [zero q (memq l1 q l2 e) i hq]; simp
          | none =>
            have hk := kq l1 q l2 e hq
            have hd := down l1 q l2 e (fun i hi => by rw [hq] at hi; exact absurd hi (by simp))
            rw [if_neg hn, Nat.mul_one] at hd
            exact Nat.mul_le_mul_left _ (Nat.le_trans hd (bF_mono hW (cmono l1 q l2 e) (by omega)))
        · rw [sum_mulc, Nat.mul_comm _ GM]
          exact Nat.mul_le_mul_right _ h
end
section
/-! a tableau as minors: labels below n are columns of a, label n + i is the i-th unit vector -/
def vL (n : Nat) (a : Nat → Nat → Int) (q : Nat) (t : Nat) : Int := if q < n then a t q else if t = q - n then 1 else 0
def uL (n : Nat) (q : Nat) : Option Nat := if q < n then none else some (q - n)
theorem uL_unit {n : Nat} {a : Nat → Nat → Int} (q i : Nat) (h : uL n q = some i) (t : Nat) : vL n a q t = if t = i then 1 else 0 := by
  unfold uL at h; unfold vL
  by_cases e : q < n
  · rw [if_pos e] at h; exact absurd h (by simp)
  · rw [if_neg e] at h ⊢; injection h with h; rw [h]
def dL (T n : Nat) (a : Nat → Nat → Int) (B : List Nat) : Int := dT (List.range' 0 T) (B.map (vL n a))
theorem set_mid (P : List Nat) (x : Nat) (Q : List Nat) (y : Nat) {k : Nat} (hk : k = P.length) : (P ++ x :: Q).set k y = P ++ y :: Q := by
  subst hk; rw [List.set_append_right _ _ (Nat.le_refl _), Nat.sub_self]; rfl
theorem set_mid2 (P : List Nat) (x : Nat) (M : List Nat) (z : Nat) (Q : List Nat) (y : Nat) {k : Nat} (hk : k = P.length + 1 + M.length) : (P ++ x :: (M ++ z :: Q)).set k y = P ++ x :: (M ++ y :: Q) := by
  have e : P ++ x :: (M ++ z :: Q) = (P ++ x :: M) ++ z :: Q := by simp
  rw [e, set_mid (P ++ x :: M) z Q y (by rw [hk]; simp; omega)]; simp
theorem two_mid {B : List Nat} {i r : Nat} (h : i < r) (hr : r < B.length) : ∃ P x M z Q, B = P ++ x :: (M ++ z :: Q) ∧ i = P.length ∧ r = P.length + 1 + M.length := by
  refine ⟨B.take i, B[i]'(by omega), (B.drop (i + 1)).take (r - i - 1), B[r], B.drop (r + 1), ?_, ?_, ?_⟩
  · have e1 : B = B.take i ++ B.drop i := (List.take_append_drop i B).symm
    have e2 : B.drop i = B[i]'(by omega) :: B.drop (i + 1) := List.drop_eq_getElem_cons (by omega)
    have e3 : B.drop (i + 1) = (B.drop (i + 1)).take (r - i - 1) ++ (B.drop (i + 1)).drop (r - i - 1) := (List.take_append_drop _ _).symm
    have e4 : (B.drop (i + 1)).drop (r - i - 1) = B[r] :: B.drop (r + 1) := by
      rw [List.drop_drop, show i + 1 + (r - i - 1) = r by omega]; exact List.drop_eq_getElem_cons hr
    rw [← e4, ← e3, ← e2]; exact e1
  · rw [List.length_take]; omega
  · rw [List.length_take, List.length_take, List.length_drop]; omega
theorem exch (T n : Nat) (a : Nat → Nat → Int) (B : List Nat) {i r c j : Nat} (hi : i < B.length) (hr : r < B.length) (hne : i ≠ r) :
    dL T n a B * dL T n a ((B.set r c).set i j) = dL T n a (B.set i j) * dL T n a (B.set r c) - dL T n a (B.set i c) * dL T n a (B.set r j) := by
  unfold dL
  rcases Nat.lt_or_gt_of_ne hne with h | h
  · obtain ⟨P, x, M, z, Q, e, h1, h2⟩ := two_mid h hr
    subst e
    rw [set_mid2 P x M z Q c h2, set_mid P x _ j h1, set_mid P x _ j h1, set_mid P x _ c h1, set_mid2 P x M z Q j h2]
    simp only [List.map_append, List.map_cons]
    exact pivot_exact _ _ _ _ _ _ _ _
  · obtain ⟨P, x, M, z, Q, e, h1, h2⟩ := two_mid h hi
    subst e
    rw [set_mid P x _ c h1, set_mid2 P c M z Q j h2, set_mid2 P x M z Q j h2, set_mid2 P x M z Q c h2, set_mid P x _ j h1]
    simp only [List.map_append, List.map_cons]
    rw [pivot_exact, Int.mul_comm (dT _ (_ ++ vL n a c :: (_ ++ vL n a z :: _))), Int.mul_comm (dT _ (_ ++ vL n a j :: (_ ++ vL n a z :: _)))]
theorem swap2L (T n : Nat) (a : Nat → Nat → Int) (B : List Nat) {i r c : Nat} (hi : i < B.length) (hr : r < B.length) (hne : i ≠ r) : dL T n a ((B.set r c).set i (B[r])) = - dL T n a (B.set i c) := by
  unfold dL
  rcases Nat.lt_or_gt_of_ne hne with h | h
  · obtain ⟨P, x, M, z, Q, e, h1, h2⟩ := two_mid h hr
    subst e
    have eg : (P ++ x :: (M ++ z :: Q))[r] = z := by
      simp [h2]
      rw [List.getElem_append_right (by omega)]
      simp [show P.length + 1 + M.length - P.length = M.length + 1 by omega]
    rw [eg, set_mid2 P x M z Q c h2, set_mid P x _ z h1, set_mid P x _ c h1]
    simp only [List.map_append, List.map_cons]
    exact dT_swap2 _ _ _ _ _ _
  · obtain ⟨P, x, M, z, Q, e, h1, h2⟩ := two_mid h hi
    subst e
    have eg : (P ++ x :: (M ++ z :: Q))[r] = x := by
      simp [h1]
    rw [eg, set_mid P x _ c h1, set_mid2 P c M z Q x h2, set_mid2 P x M z Q c h2]
    simp only [List.map_append, List.map_cons]
    rw [dT_swap2]
/-- the tableau t over the divisor D stands for the columns a: basis B, the columns' labels cl -/
def Rep (T n : Nat) (a : Nat → Nat → Int) (e D : Int) (t : Nat → Nat → Int) (B : List Nat) (cl : Nat → Nat) : Prop :=
  B.length = T ∧ (e = 1 ∨ e = -1) ∧ D = e * dL T n a B ∧ ∀ i, i < T → ∀ j, j < n → t i j = e * dL T n a (B.set i (cl j))
theorem Rep.exact {T n : Nat} {a : Nat → Nat → Int} {e D : Int} {t : Nat → Nat → Int} {B : List Nat} {cl : Nat → Nat} (h : Rep T n a e D t B cl) {r c i j : Nat} (hr : r < T) (hc : c < n) (hi : i < T) (hj : j < n) (hne : i ≠ r) :
    t i j * t r c - t i c * t r j = D * (e * dL T n a ((B.set r (cl c)).set i (cl j))) := by
  obtain ⟨h1, h2, h3, h4⟩ := h
  have hx := exch T n a B (i := i) (r := r) (c := cl c) (j := cl j) (by omega) (by omega) hne
  rw [h3, h4 i hi j hj, h4 r hr c hc, h4 i hi c hc, h4 r hr j hj]
  have ee : e * e = 1 := by rcases h2 with h | h <;> rw [h] <;> rfl
  have k : ∀ x y : Int, e * x * (e * y) = x * y := fun x y => by
    rw [Int.mul_comm e x, Int.mul_assoc, ← Int.mul_assoc e e y, ee, Int.one_mul]
  rw [k, k, k]; exact hx.symm
theorem Rep.pivot {T n : Nat} {a : Nat → Nat → Int} {e D : Int} {t t' : Nat → Nat → Int} {B : List Nat} {cl cl' : Nat → Nat} (h : Rep T n a e D t B cl) {r c : Nat} (hr : r < T) (hc : c < n) {g : Int} (hg : g = 1 ∨ g = -1) (hD : D ≠ 0)
    (e1 : t' r c = g * D) (e2 : ∀ j, j < n → j ≠ c → t' r j = g * t r j) (e3 : ∀ i, i < T → i ≠ r → t' i c = -(g * t i c))
    (e4 : ∀ i, i < T → i ≠ r → ∀ j, j < n → j ≠ c → D * t' i j = g * (t i j * t r c - t i c * t r j))
    (c1 : cl' c = B[r]'(by rw [h.1]; exact hr)) (c2 : ∀ j, j < n → j ≠ c → cl' j = cl j) :
    Rep T n a (g * e) (g * t r c) t' (B.set r (cl c)) cl' := by
  have hx := @Rep.exact T n a e D t B cl h r c
  obtain ⟨h1, h2, h3, h4⟩ := h
  have hge : g * e = 1 ∨ g * e = -1 := by rcases hg with h | h <;> rcases h2 with h' | h' <;> rw [h, h'] <;> simp
  refine ⟨by rw [List.length_set]; exact h1, hge, by rw [h4 r hr c hc, Int.mul_assoc], fun i hi j hj => ?_⟩
  by_cases ei : i = r
  · subst ei
    rw [List.set_set]
    by_cases ej : j = c
    · subst ej
      have e9 : B.set i (B[i]'(by omega)) = B := List.set_getElem_self _
      rw [e1, c1, e9, Int.mul_assoc, ← h3]
    · rw [e2 j hj ej, c2 j hj ej, h4 i hi j hj, Int.mul_assoc]
  · by_cases ej : j = c
    · subst ej
      rw [e3 i hi ei, c1, h4 i hi j hj, swap2L T n a B (by omega) (by omega) ei, Int.mul_neg, Int.mul_assoc]
    · have hh := e4 i hi ei j hj ej
      rw [hx hr hc hi hj ei] at hh
      rw [c2 j hj ej, Int.mul_assoc]
      apply Int.eq_of_mul_eq_mul_left hD
      rw [hh, Int.mul_left_comm]
def sumN : Nat → (Nat → Nat) → Nat
  | 0, _ => 0
  | n + 1, f => sumN n f + f n
theorem sum_below {L : List Nat} (hL : L.Nodup) (f : Nat → Nat) (n : Nat) : (L.map (fun q => if q < n then f q else 0)).sum ≤ sumN n f := by
  induction n with
  | zero =>
    have : L.map (fun q => if q < 0 then f q else 0) = L.map (fun _ => 0) := List.map_congr_left (fun q _ => if_neg (by omega))
    rw [this]
    clear this hL
    induction L with
    | nil => exact Nat.le_refl _
    | cons x L ih => simp only [List.map_cons, List.sum_cons]; omega
  | succ n ih =>
    have : L.map (fun q => if q < n + 1 then f q else 0) = L.map (fun q => (if q < n then f q else 0) + (if q = n then f n else 0)) := List.map_congr_left (fun q _ => by
      by_cases h1 : q < n
      · rw [if_pos (by omega), if_pos h1, if_neg (by omega)]; rfl
      · by_cases h2 : q = n
        · rw [if_pos (by omega), if_neg h1, if_pos h2, h2]; omega
        · rw [if_neg (by omega), if_neg h1, if_neg h2])
    rw [this, sum_add]
    simp only [sumN]
    have := sum_one hL n (f n)
    omega
theorem nonU_le {L : List Nat} (hL : L.Nodup) (n : Nat) : nonU (uL n) L ≤ n := by
  have h := sum_below hL (fun _ => 1) n
  have e1 : sumN n (fun _ => 1) = n := by
    clear h
    induction n with
    | zero => rfl
    | succ n ih => simp only [sumN]; omega
  have e2 : nonU (uL n) L = (L.map (fun q => if q < n then (fun _ => 1) q else 0)).sum := by
    clear h hL
    induction L with
    | nil => rfl
    | cons x L ih =>
      simp only [nonU, List.map_cons, List.sum_cons]
      rw [ih]
      unfold uL
      by_cases e : x < n
      · rw [if_pos e, if_pos e]
      · rw [if_neg e, if_neg e]
  rw [e2]; exact Nat.le_trans h (Nat.le_of_eq e1)
/-- a row's entries in what stands in L, if its unit vector doesn't -/
theorem row_sum {L : List Nat} (hL : L.Nodup) {n : Nat} {a : Nat → Nat → Int} {t : Nat} (hu : ¬ n + t ∈ L) : (L.map (fun q => (vL n a q t).natAbs)).sum ≤ sumN n (fun q => (a t q).natAbs) := by
  refine Nat.le_trans (Nat.le_of_eq ?_) (sum_below hL (fun q => (a t q).natAbs) n)
  congr 1
  refine List.map_congr_left (fun q hq => ?_)
  unfold vL
  by_cases e : q < n
  · rw [if_pos e, if_pos e]
  · rw [if_neg e, if_neg e, if_neg (fun e2 => hu (by rw [show n + t = q by omega]; exact hq))]; rfl
theorem row_but {L : List Nat} (hL : L.Nodup) {C : Nat} {a : Nat → Nat → Int} {t : Nat} (hu : ¬ C + 1 + t ∈ L) : (L.map (fun q => if q = C then 0 else (vL (C + 1) a q t).natAbs)).sum ≤ sumN C (fun q => (a t q).natAbs) := by
  refine Nat.le_trans (Nat.le_of_eq ?_) (sum_below hL (fun q => (a t q).natAbs) C)
  congr 1
  refine List.map_congr_left (fun q hq => ?_)
  unfold vL
  by_cases e : q < C
  · rw [if_neg (by omega), if_pos (by omega), if_pos e]
  · by_cases e2 : q = C
    · rw [if_pos e2, if_neg e]
    · rw [if_neg e2, if_neg e, if_neg (by omega), if_neg (fun e2 => hu (by rw [show C + 1 + t = q by omega]; exact hq))]; rfl
theorem nL_le (R T s : Nat) : nL R (List.range' s T) ≤ R - s := by
  induction T generalizing s with
  | zero => exact Nat.zero_le _
  | succ T ih => rw [List.range'_succ]; simp only [nL]; have := ih (s + 1); split <;> omega
/-- no minor is greater: W bounds a line's sum beside the last column, Bc the last column, GM a goal's sum; k of the rows or columns at most -/
theorem dL_bd {T C : Nat} {a : Nat → Nat → Int} {L : List Nat} (hL : L.Nodup) {W Bc GM R g0 k : Nat} (hW : 1 ≤ W) (hG : 1 ≤ GM) (hk : R ≤ k ∨ C + 1 ≤ k) (hg : R ≤ g0)
    (hrow : ∀ t, t < R → sumN C (fun q => (a t q).natAbs) ≤ W) (hcon : ∀ t, t < R → (a t C).natAbs ≤ Bc) (hgoal : ∀ t, R ≤ t → t < T → t ≠ g0 → C + 1 + t ∈ L) (hg0 : g0 < T → sumN (C + 1) (fun q => (a g0 q).natAbs) ≤ GM) :
    (dL T (C + 1) a L).natAbs ≤ bF W Bc 1 k * GM := by
  unfold dL
  refine Nat.le_trans (dT_bd (vL (C + 1) a) (uL (C + 1)) uL_unit W Bc GM C R g0 hW hG (by unfold uL; rw [if_pos (by omega)]) hg (List.range' 0 T) L List.nodup_range' hL (fun t ht => ?_)) (Nat.mul_le_mul (bF_mono hW (by split <;> omega) ?_) (by split <;> omega))
  · have htT : t < T := by simp [List.mem_range'] at ht; omega
    by_cases hu : C + 1 + t ∈ L
    · exact Or.inl ⟨C + 1 + t, hu, by unfold uL; rw [if_neg (by omega)]; congr 1; omega⟩
    · right
      by_cases e : t < R
      · exact Or.inl ⟨e, Nat.le_trans (row_but hL hu) (hrow t e), by unfold vL; rw [if_pos (by omega)]; exact hcon t e⟩
      · right
        have e0 : t = g0 := Classical.byContradiction fun h => hu (hgoal t (by omega) htT h)
        exact ⟨e0, Nat.le_trans (row_sum hL (a := a) hu) (by rw [e0]; exact hg0 (by omega))⟩
  · have h1 := nonU_le hL (C + 1)
    have h2 := nL_le R T 0
    omega
/-- at the start: unit vectors -/
theorem dT_units (n : Nat) (a : Nat → Nat → Int) (k s : Nat) : dT (List.range' s k) ((List.range' (n + s) k).map (vL n a)) = 1 := by
  induction k generalizing s with
  | zero => rfl
  | succ k ih =>
    rw [List.range'_succ, List.range'_succ, List.map_cons, dT_cons]
    simp only [sR]
    have e1 : vL n a (n + s) s = 1 := by unfold vL; rw [if_neg (by omega), if_pos (by omega)]
    rw [e1, Int.one_mul, show n + s + 1 = n + (s + 1) by omega, ih (s + 1)]
    have z : sR ((List.range' (n + (s + 1)) k).map (vL n a)) (fun w r => w s * dT (List.range' (s + 1) k) (vL n a (n + s) :: r)) = 0 := by
      rw [sR_map]
      have hb := sR_bd (List.range' (n + (s + 1)) k) (fun q r => vL n a q s * dT (List.range' (s + 1) k) (vL n a (n + s) :: r.map (vL n a))) (fun _ => 0) (fun l1 q l2 e => by
        have hq : q ∈ List.range' (n + (s + 1)) k := by rw [e]; exact List.mem_append_right _ List.mem_cons_self
        have hq2 : n + (s + 1) ≤ q := by simp [List.mem_range'] at hq; omega
        have : vL n a q s = 0 := by unfold vL; rw [if_neg (by omega), if_neg (by omega)]
        rw [this, Int.zero_mul]; exact Nat.le_refl _)
      have hz : ∀ L : List Nat, (L.map (fun _ => 0)).sum = 0 := fun L => by
        induction L with
        | nil => rfl
        | cons x L ih => simp only [List.map_cons, List.sum_cons]; omega
      rw [hz] at hb
      omega
    rw [z]; rfl
theorem cS_units (rows : List Nat) (v : Nat → Int) (n : Nat) (a : Nat → Nat → Int) (i : Nat) : ∀ (P Q : List Nat), (∀ q ∈ P, vL n a q i = 0) → (∀ q ∈ Q, vL n a q i = 0) → ∀ x, vL n a x i = 1 →
    cS rows v (fun w => w i) [] ((P ++ x :: Q).map (vL n a)) = dT rows (P.map (vL n a) ++ v :: Q.map (vL n a)) := by
  intro P Q hP hQ x hx
  rw [List.map_append, List.map_cons, cS_app rows v _ [] _ _ (fun w hw => by
    obtain ⟨q, hq, e⟩ := List.mem_map.mp hw
    rw [← e]; exact hP q hq)]
  simp only [List.nil_append, cS]
  rw [cS_none rows v _ _ _ (fun w hw => by
    obtain ⟨q, hq, e⟩ := List.mem_map.mp hw
    rw [← e]; exact hQ q hq), hx, Int.one_mul, Int.add_zero]
theorem Rep.init (T n : Nat) (a : Nat → Nat → Int) : Rep T n a 1 1 a (List.range' n T) (fun j => j) := by
  have hu := dT_units n a T 0
  rw [Nat.add_zero] at hu
  refine ⟨List.length_range', Or.inl rfl, by unfold dL; rw [hu]; rfl, fun i hi j hj => ?_⟩
  rw [Int.one_mul]
  unfold dL
  have hc := cramer (List.range' 0 T) (vL n a j) ((List.range' n T).map (vL n a)) i (by simp [List.mem_range']; omega)
  rw [hu, Int.one_mul] at hc
  have e0 : vL n a j i = a i j := by unfold vL; rw [if_pos hj]
  rw [← e0, hc]
  have eB : List.range' n T = List.range' n i ++ (n + i) :: List.range' (n + i + 1) (T - i - 1) := by
    rw [← List.range'_succ, List.range'_append_1]; congr 1; omega
  rw [eB, cS_units _ _ n a i _ _ (fun q hq => by
      have : q < n + i ∧ n ≤ q := by simp [List.mem_range'] at hq; omega
      unfold vL; rw [if_neg (by omega), if_neg (by omega)]) (fun q hq => by
      have : n + i + 1 ≤ q := by simp [List.mem_range'] at hq; omega
      unfold vL; rw [if_neg (by omega), if_neg (by omega)]) (n + i) (by unfold vL; rw [if_neg (by omega), if_pos (by omega)])]
  rw [set_mid _ _ _ j (by rw [List.length_range']), List.map_append, List.map_cons]
end
section
/-! a tableau's exchange as the program reckons it; labels as functions -/
theorem pl_lt {C T i j : Nat} (hi : i < T) (hj : j ≤ C) : i * (C + 1) + j < T * (C + 1) := by
  have h : (i + 1) * (C + 1) ≤ T * (C + 1) := Nat.mul_le_mul_right _ hi
  rw [Nat.succ_mul] at h; omega
theorem pl_inj {C i j k l : Nat} (hj : j ≤ C) (hl : l ≤ C) (h : i * (C + 1) + j = k * (C + 1) + l) : i = k ∧ j = l := by
  have e : i = k := by
    rcases Nat.lt_trichotomy i k with h1 | h1 | h1
    · have h2 : (i + 1) * (C + 1) ≤ k * (C + 1) := Nat.mul_le_mul_right _ h1
      rw [Nat.succ_mul] at h2; omega
    · exact h1
    · have h2 : (k + 1) * (C + 1) ≤ i * (C + 1) := Nat.mul_le_mul_right _ h1
      rw [Nat.succ_mul] at h2; omega
  subst e; omega
def nvT (r c : Nat) (g : Int) (t : Nat → Nat → Int) (D : Int) : Nat → Nat → Int := fun i j => if i = r then (if j = c then g * D else g * t r j) else if j = c then -(g * t i c) else g * ((t i j * t r c - t i c * t r j).tdiv D)
def uP (f : Nat → Nat) (r x : Nat) : Nat → Nat := fun i => if i = r then x else f i
theorem map_set (f : Nat → Nat) (T r x : Nat) : ((List.range T).map f).set r x = (List.range T).map (uP f r x) := by
  apply List.ext_getElem
  · simp
  · intro i h1 h2
    simp only [List.length_set, List.length_map, List.length_range] at h1
    rw [List.getElem_set, List.getElem_map, List.getElem_map, List.getElem_range]
    unfold uP
    by_cases e : r = i
    · rw [if_pos e, if_pos e.symm]
    · rw [if_neg e, if_neg (fun h => e h.symm)]
def RepF (T n : Nat) (a : Nat → Nat → Int) (D : Int) (t : Nat → Nat → Int) (rl cl : Nat → Nat) : Prop := ∃ e, Rep T n a e D t ((List.range T).map rl) cl
theorem RepF.exact {T n : Nat} {a : Nat → Nat → Int} {D : Int} {t : Nat → Nat → Int} {rl cl : Nat → Nat} (h : RepF T n a D t rl cl) {r c i j : Nat} (hr : r < T) (hc : c < n) (hi : i < T) (hj : j < n) (hne : i ≠ r) : ∃ q, t i j * t r c - t i c * t r j = D * q := by
  obtain ⟨e, h⟩ := h
  exact ⟨_, h.exact hr hc hi hj hne⟩
theorem nv_exact {D X : Int} (hD : D ≠ 0) {q : Int} (h : X = D * q) (g : Int) : D * (g * X.tdiv D) = g * X := by
  rw [h, Int.mul_tdiv_cancel_left _ hD, Int.mul_left_comm]
theorem RepF.next {T n : Nat} {a : Nat → Nat → Int} {D : Int} {t : Nat → Nat → Int} {rl cl : Nat → Nat} (h : RepF T n a D t rl cl) {r c : Nat} (hr : r < T) (hc : c < n) {g : Int} (hg : g = 1 ∨ g = -1) (hD : D ≠ 0) :
    RepF T n a (g * t r c) (nvT r c g t D) (uP rl r (cl c)) (uP cl c (rl r)) := by
  have hx := @RepF.exact T n a D t rl cl h r c
  obtain ⟨e, h⟩ := h
  refine ⟨g * e, ?_⟩
  rw [← map_set]
  refine Rep.pivot h hr hc hg hD ?_ ?_ ?_ ?_ ?_ ?_
  · unfold nvT; rw [if_pos rfl, if_pos rfl]
  · intro j _ hj; unfold nvT; rw [if_pos rfl, if_neg hj]
  · intro i _ hi; unfold nvT; rw [if_neg hi, if_pos rfl]
  · intro i hi hne j hj hjc
    unfold nvT
    rw [if_neg hne, if_neg hjc]
    obtain ⟨q, hq⟩ := hx hr hc hi hj hne
    exact nv_exact hD hq g
  · unfold uP; rw [if_pos rfl, List.getElem_map, List.getElem_range]
  · intro j _ hj; unfold uP; rw [if_neg hj]
theorem RepF.piv {T n : Nat} {a : Nat → Nat → Int} {D : Int} {t : Nat → Nat → Int} {rl cl : Nat → Nat} (h : RepF T n a D t rl cl) {r c : Nat} (hr : r < T) (hc : c < n) {g : Int} (hg : g = 1 ∨ g = -1) (hD : 0 < D) (hp : 0 < g * t r c) :
    Piv T n (t, D, rl, cl) (nvT r c g t D, g * t r c, uP rl r (cl c), uP cl c (rl r)) r c g := by
  refine ⟨hr, hc, by rcases hg with h | h <;> rw [h] <;> rfl, hD, hp, rfl, ?_, ?_, ?_, ?_, ?_, ?_, ?_, ?_⟩
  · show nvT r c g t D r c = _; unfold nvT; rw [if_pos rfl, if_pos rfl]
  · intro j _ hj; show nvT r c g t D r j = _; unfold nvT; rw [if_pos rfl, if_neg hj]
  · intro i _ hi; show nvT r c g t D i c = _; unfold nvT; rw [if_neg hi, if_pos rfl]
  · intro i hi hne j hj hjc
    show D * nvT r c g t D i j = _
    unfold nvT
    rw [if_neg hne, if_neg hjc]
    obtain ⟨q, hq⟩ := h.exact hr hc hi hj hne
    exact nv_exact (by omega) hq g
  · show uP rl r (cl c) r = _; unfold uP; rw [if_pos rfl]
  · intro i _ hi; show uP rl r (cl c) i = _; unfold uP; rw [if_neg hi]
  · show uP cl c (rl r) c = _; unfold uP; rw [if_pos rfl]
  · intro j _ hj; show uP cl c (rl r) j = _; unfold uP; rw [if_neg hj]
theorem nodup_map {T : Nat} {f : Nat → Nat} (h : ∀ i k, i < T → k < T → f i = f k → i = k) : ((List.range T).map f).Nodup := by
  rw [List.nodup_iff_pairwise_ne, List.pairwise_map]
  refine List.Pairwise.imp_of_mem ?_ (List.nodup_iff_pairwise_ne.mp (List.nodup_range (n := T)))
  intro i k hi hk hne e
  exact hne (h i k (List.mem_range.mp hi) (List.mem_range.mp hk) e)
theorem RepF.bd {T C R : Nat} {a : Nat → Nat → Int} {D : Int} {t : Nat → Nat → Int} {rl cl : Nat → Nat} (h : RepF T (C + 1) a D t rl cl) (hL : Lb T (C + 1) (t, D, rl, cl)) (hgl : ∀ i, R ≤ i → i < T → rl i = C + 1 + i) {W Bc GM k : Nat} (hW : 1 ≤ W) (hG : 1 ≤ GM) (hk : R ≤ k ∨ C + 1 ≤ k)
    (hrow : ∀ i, i < R → sumN C (fun q => (a i q).natAbs) ≤ W) (hcon : ∀ i, i < R → (a i C).natAbs ≤ Bc) (hall : ∀ i, R ≤ i → i < T → sumN (C + 1) (fun q => (a i q).natAbs) ≤ GM) (hRT : R ≤ T) :
    D.natAbs ≤ bF W Bc 1 k * 1 ∧ ∀ i, i < T → ∀ j, j < C + 1 → (t i j).natAbs ≤ bF W Bc 1 k * (if i < R then 1 else GM) := by
  obtain ⟨e, h1, h2, h3, h4⟩ := h
  obtain ⟨l1, l2, l3⟩ := hL
  have he : ∀ x : Int, (e * x).natAbs = x.natAbs := fun x => by rcases h2 with h | h <;> rw [h] <;> omega
  constructor
  · rw [h3, he]
    refine dL_bd (g0 := T) (GM := 1) (nodup_map l1) hW (Nat.le_refl _) hk hRT hrow hcon (fun s h5 h6 _ => ?_) (fun h => absurd h (by omega))
    exact List.mem_map.mpr ⟨s, List.mem_range.mpr h6, hgl s h5 h6⟩
  · intro i hi j hj
    have nd : ((List.range T).map (uP rl i (cl j))).Nodup := nodup_map (by
      intro x y hx hy hxy
      unfold uP at hxy
      by_cases e1 : x = i <;> by_cases e2 : y = i
      · omega
      · rw [if_pos e1, if_neg e2] at hxy; exact absurd hxy.symm (l3 y j hy hj)
      · rw [if_neg e1, if_pos e2] at hxy; exact absurd hxy (l3 x j hx hj)
      · rw [if_neg e1, if_neg e2] at hxy; exact l1 x y hx hy hxy)
    have mem : ∀ s, R ≤ s → s < T → s ≠ i → C + 1 + s ∈ (List.range T).map (uP rl i (cl j)) := fun s h5 h6 h7 => by
      refine List.mem_map.mpr ⟨s, List.mem_range.mpr h6, ?_⟩
      unfold uP; rw [if_neg h7]; exact hgl s h5 h6
    rw [h4 i hi j hj, he, map_set]
    by_cases hiR : i < R
    · rw [if_pos hiR]
      exact dL_bd (g0 := T) (GM := 1) nd hW (Nat.le_refl _) hk hRT hrow hcon (fun s h5 h6 _ => mem s h5 h6 (by omega)) (fun h => absurd h (by omega))
    · rw [if_neg hiR]
      exact dL_bd (g0 := i) nd hW hG hk (by omega) hrow hcon mem (fun _ => hall i (by omega) hi)
theorem RepF.init (T n : Nat) (a : Nat → Nat → Int) : RepF T n a 1 a (fun i => n + i) (fun j => j) := by
  refine ⟨1, ?_⟩
  have e : (List.range T).map (fun i => n + i) = List.range' n T := by
    rw [List.range'_eq_map_range]
  rw [e]; exact Rep.init T n a
/-- the tableau (t, D) with labels rl, cl belongs to the columns a: T rows, R of them lines, C columns and the numbers alone -/
def SxF (C R T : Nat) (a : Nat → Nat → Int) (t : Nat → Nat → Int) (D : Int) (rl cl : Nat → Nat) : Prop :=
  RepF T (C + 1) a D t rl cl ∧ 0 < D ∧ Lb T (C + 1) (t, D, rl, cl) ∧ (∀ x, Sys T (C + 1) (t, D, rl, cl) x → Sys T (C + 1) (a, 1, fun i => C + 1 + i, fun j => j) x) ∧ (∀ i, R ≤ i → i < T → rl i = C + 1 + i) ∧ cl C = C ∧ (∀ i, i < T → rl i < C + 1 + T) ∧ ∀ j, j ≤ C → cl j < C + 1 + T
theorem SxF.init (C R T : Nat) (a : Nat → Nat → Int) : SxF C R T a a 1 (fun i => C + 1 + i) (fun j => j) := by
  refine ⟨RepF.init T (C + 1) a, by decide, ⟨fun i k _ _ h => ?_, fun j k _ _ h => h, fun i j _ hj h => ?_⟩, fun x h => h, fun i _ _ => rfl, rfl, fun i hi => ?_, fun j hj => ?_⟩
  · have h : C + 1 + i = C + 1 + k := h
    omega
  · have h : C + 1 + i = j := h
    omega
  · show C + 1 + i < _; omega
  · show j < _; omega
theorem SxF.next {C R T : Nat} {a t : Nat → Nat → Int} {D : Int} {rl cl : Nat → Nat} (h : SxF C R T a t D rl cl) {r c : Nat} (hr : r < R) (hRT : R ≤ T) (hc : c < C) {g : Int} (hg : g = 1 ∨ g = -1) (hp : 0 < g * t r c) :
    SxF C R T a (nvT r c g t D) (g * t r c) (uP rl r (cl c)) (uP cl c (rl r)) ∧ Piv T (C + 1) (t, D, rl, cl) (nvT r c g t D, g * t r c, uP rl r (cl c), uP cl c (rl r)) r c g := by
  obtain ⟨h1, h2, h3, h4, h5, h6, h7, h8⟩ := h
  have hP := h1.piv (show r < T by omega) (show c < C + 1 by omega) hg h2 hp
  refine ⟨⟨h1.next (by omega) (by omega) hg (by omega), hp, hP.lb h3, fun x hx => h4 x (hP.symm.sys hx), fun i hi hT => ?_, ?_, fun i hi => ?_, fun j hj => ?_⟩, hP⟩
  · unfold uP; rw [if_neg (by omega)]; exact h5 i hi hT
  · unfold uP; rw [if_neg (by omega)]; exact h6
  · unfold uP; split
    · exact h8 c (by omega)
    · exact h7 i hi
  · unfold uP; split
    · exact h7 r (by omega)
    · exact h8 j hj
theorem SxF.exact {C R T : Nat} {a t : Nat → Nat → Int} {D : Int} {rl cl : Nat → Nat} (h : SxF C R T a t D rl cl) {r c i j : Nat} (hr : r < T) (hc : c ≤ C) (hi : i < T) (hj : j ≤ C) (hne : i ≠ r) : ∃ q, t i j * t r c - t i c * t r j = D * q := h.1.exact hr (by omega) hi (by omega) hne
theorem SxF.bd {C R T : Nat} {a t : Nat → Nat → Int} {D : Int} {rl cl : Nat → Nat} (h : SxF C R T a t D rl cl) {W Bc GM k : Nat} (hW : 1 ≤ W) (hG : 1 ≤ GM) (hk : R ≤ k ∨ C + 1 ≤ k)
    (hrow : ∀ i, i < R → sumN C (fun q => (a i q).natAbs) ≤ W) (hcon : ∀ i, i < R → (a i C).natAbs ≤ Bc) (hall : ∀ i, R ≤ i → i < T → sumN (C + 1) (fun q => (a i q).natAbs) ≤ GM) (hRT : R ≤ T) :
    D.natAbs ≤ bF W Bc 1 k ∧ ∀ i, i < T → ∀ j, j ≤ C → (t i j).natAbs ≤ bF W Bc 1 k * (if i < R then 1 else GM) := by
  have hb := h.1.bd h.2.2.1 (fun i h1 h2 => h.2.2.2.2.1 i h1 h2) hW hG hk hrow hcon hall hRT
  exact ⟨by have := hb.1; omega, fun i hi j hj => hb.2 i hi j (by omega)⟩
/-- the basic solution -/
theorem basic {C R T : Nat} {a t : Nat → Nat → Int} {D : Int} {rl cl : Nat → Nat} (h : SxF C R T a t D rl cl) : ∃ x : Nat → Int, Sys T (C + 1) (a, 1, fun i => C + 1 + i, fun j => j) x ∧ x C = -D ∧ (∀ j, j < C → x (cl j) = 0) ∧ ∀ i, i < T → x (rl i) = t i C := by
  obtain ⟨h1, h2, ⟨l1, l2, l3⟩, h4, h5, h6, h7, h8⟩ := h
  obtain ⟨x, xC, xr, xc⟩ : ∃ x : Nat → Int, x C = -D ∧ (∀ i, i < T → x (rl i) = t i C) ∧ ∀ j, j < C → x (cl j) = 0 := by
    refine ⟨fun q => if q = C then -D else @dite Int (∃ i, i < T ∧ rl i = q) (Classical.propDecidable _) (fun h => t (Classical.choose h) C) (fun _ => 0), if_pos rfl, fun i hi => ?_, fun j hj => ?_⟩
    · have hne : rl i ≠ C := by rw [← h6]; exact l3 i C hi (by omega)
      dsimp only
      rw [if_neg hne]
      have hex : ∃ k, k < T ∧ rl k = rl i := ⟨i, hi, rfl⟩
      rw [dif_pos hex]
      have hs := Classical.choose_spec hex
      rw [l1 _ i hs.1 hi hs.2]
    · have hne : cl j ≠ C := fun e => by
        have := l2 j C (by omega) (by omega) (by show cl j = cl C; rw [e, h6])
        omega
      dsimp only
      rw [if_neg hne, dif_neg]
      intro ⟨i, hi, e⟩
      exact l3 i j hi (by omega) e
  refine ⟨x, h4 _ (fun i hi => ?_), xC, xc, xr⟩
  show D * x (rl i) + iS (C + 1) (fun j => t i j * x (cl j)) = 0
  rw [xr i hi, iS_one (c := C) (by omega) (fun j hj hne => by rw [xc j (by omega), Int.mul_zero]), h6, xC, Int.mul_neg, Int.mul_comm D]; omega
/-- the help's row and the goal's: their numbers are each other's negatives; and the goal's is nought while the help stands over a column -/
theorem help_row {C R T : Nat} {a t : Nat → Nat → Int} {D : Int} {rl cl : Nat → Nat} (h : SxF C R T a t D rl cl) (hC : 0 < C) (hRT : R < T) (ha : ∀ j, j ≤ C → a R j = if j = C - 1 then 1 else 0) {i : Nat} (hi : i < T) (hl : rl i = C - 1) : t R C + t i C = 0 := by
  obtain ⟨x, hx, x1, x2, x3⟩ := basic h
  have hR := hx R (by omega)
  have e : (1 : Int) * x (C + 1 + R) + iS (C + 1) (fun j => a R j * x j) = 0 := hR
  rw [iS_one (c := C - 1) (by omega) (fun j hj hne => by rw [ha j (by omega), if_neg hne, Int.zero_mul]), ha (C - 1) (by omega), if_pos rfl, Int.one_mul, Int.one_mul] at e
  have e1 := x3 R hRT
  rw [h.2.2.2.2.1 R (Nat.le_refl _) hRT] at e1
  have e2 := x3 i hi
  rw [hl] at e2
  omega
end
section
/-- the tableau in big -/
def TabN (C T : Nat) (m : Nat → Int) (t : Nat → Nat → Int) (D : Int) : Prop := (∀ i, i < T → ∀ j, j ≤ C → m (30 + i * (C + 1) + j) = t i j) ∧ m 20 = D
/-- the tableau in fast -/
def TabQ (C T : Nat) (F : Nat → Int64) (qd : Int64) (t : Nat → Nat → Int) (D : Int) : Prop := (∀ p, p < T * (C + 1) → -2147483648 < (F p).toInt ∧ (F p).toInt < 2147483648) ∧ (∀ i, i < T → ∀ j, j ≤ C → (F (i * (C + 1) + j)).toInt = t i j) ∧ qd.toInt = D ∧ D < 2147483648
def Tab (q : Int32) (C T : Nat) (m : Nat → Int) (F : Nat → Int64) (qd : Int64) (t : Nat → Nat → Int) (D : Int) : Prop := (q = 0 ∧ TabN C T m t D) ∨ (q = 1 ∧ TabQ C T F qd t D)
theorem Tab.n {q : Int32} {C T : Nat} {m : Nat → Int} {F : Nat → Int64} {qd : Int64} {t : Nat → Nat → Int} {D : Int} (h : Tab q C T m F qd t D) (hq : q = 0) : TabN C T m t D := by
  rcases h with h | h
  · exact h.2
  · exact absurd (h.1.symm.trans hq) (by decide)
theorem Tab.q {q : Int32} {C T : Nat} {m : Nat → Int} {F : Nat → Int64} {qd : Int64} {t : Nat → Nat → Int} {D : Int} (h : Tab q C T m F qd t D) (hq : ¬ q = 0) : q = 1 ∧ TabQ C T F qd t D := by
  rcases h with h | h
  · exact absurd h.1 hq
  · exact h
theorem TabN.frame {C T : Nat} {m m2 : Nat → Int} {t : Nat → Nat → Int} {D : Int} (h : TabN C T m t D) (e : ∀ p, (p = 20 ∨ 30 ≤ p) → m2 p = m p) : TabN C T m2 t D :=
  ⟨fun i hi j hj => (e _ (Or.inr (by omega))).trans (h.1 i hi j hj), (e 20 (Or.inl rfl)).trans h.2⟩
theorem Tab.frame {q : Int32} {C T : Nat} {m m2 : Nat → Int} {F : Nat → Int64} {qd : Int64} {t : Nat → Nat → Int} {D : Int} (h : Tab q C T m F qd t D) (e : ∀ p, (p = 20 ∨ 30 ≤ p) → m2 p = m p) : Tab q C T m2 F qd t D := by
  rcases h with h | h
  · exact Or.inl ⟨h.1, h.2.frame e⟩
  · exact Or.inr h
theorem mulQ {x y : Int64} (hx : -2147483648 < x.toInt ∧ x.toInt < 2147483648) (hy : -2147483648 < y.toInt ∧ y.toInt < 2147483648) : (x * y).toInt = x.toInt * y.toInt ∧ -4611686014132420609 ≤ x.toInt * y.toInt ∧ x.toInt * y.toInt ≤ 4611686014132420609 := by
  have h1 : (x.toInt * y.toInt).natAbs ≤ 2147483647 * 2147483647 := by
    rw [Int.natAbs_mul]; exact Nat.mul_le_mul (by omega) (by omega)
  have h2 : -4611686014132420609 ≤ x.toInt * y.toInt ∧ x.toInt * y.toInt ≤ 4611686014132420609 := by omega
  refine ⟨?_, h2⟩
  rw [Int64.toInt_mul]
  exact Int.bmod_eq_of_le (by omega) (by omega)
theorem mul_bd {x y k : Nat} (hx : x < 2 ^ k) (hy : y < 2 ^ k) (h : k ≤ 294) : x * y < 2 ^ 588 := by
  have h1 : x * y < 2 ^ k * 2 ^ k := Nat.mul_lt_mul'' hx hy
  rw [← Nat.pow_add] at h1
  exact Nat.lt_of_lt_of_le h1 (Nat.pow_le_pow_right (by decide) (by omega))
end
section
theorem hd_yX12_place1_RX12 : yX12_place1.cls = RX12 ∧ yX12_place1.cls ≠ "java/lang/invoke/MethodHandle" ∧ yX12_place1.cls ≠ "java/lang/invoke/VarHandle" ∧ (parseMethodDescriptor yX12_place1.desc).map (fun d => d.parameters.length) = some 2 := by decide +kernel
theorem hd_yX12_worth_RX12 : yX12_worth.cls = RX12 ∧ yX12_worth.cls ≠ "java/lang/invoke/MethodHandle" ∧ yX12_worth.cls ≠ "java/lang/invoke/VarHandle" ∧ (parseMethodDescriptor yX12_worth.desc).map (fun d => d.parameters.length) = some 1 := by decide +kernel
theorem dX12_signAt_0 : decode cX12_signAt 0 = .ok (.aload_n 0, 1) := dk_42 (by decide +kernel)
theorem dX12_signAt_1 : decode cX12_signAt 1 = .ok (.getfield 414, 3) := dk_180 (by decide +kernel)
theorem dX12_signAt_4 : decode cX12_signAt 4 = .ok (.ifCond .ne 14, 3) := dk_154 (by decide +kernel)
theorem dX12_signAt_7 : decode cX12_signAt 7 = .ok (.aload_n 0, 1) := dk_42 (by decide +kernel)
theorem dX12_signAt_8 : decode cX12_signAt 8 = .ok (.aload_n 0, 1) := dk_42 (by decide +kernel)
theorem dX12_signAt_9 : decode cX12_signAt 9 = .ok (.iload_n 1, 1) := dk_27 (by decide +kernel)
theorem dX12_signAt_10 : decode cX12_signAt 10 = .ok (.iload_n 2, 1) := dk_28 (by decide +kernel)
theorem dX12_signAt_11 : decode cX12_signAt 11 = .ok (.invokevirtual 405, 3) := dk_182 (by decide +kernel)
theorem dX12_signAt_14 : decode cX12_signAt 14 = .ok (.invokevirtual 353, 3) := dk_182 (by decide +kernel)
theorem dX12_signAt_17 : decode cX12_signAt 17 = .ok (.ireturn, 1) := dk_172 (by decide +kernel)
theorem dX12_signAt_18 : decode cX12_signAt 18 = .ok (.aload_n 0, 1) := dk_42 (by decide +kernel)
theorem dX12_signAt_19 : decode cX12_signAt 19 = .ok (.getfield 33, 3) := dk_180 (by decide +kernel)
theorem dX12_signAt_22 : decode cX12_signAt 22 = .ok (.aload_n 0, 1) := dk_42 (by decide +kernel)
theorem dX12_signAt_23 : decode cX12_signAt 23 = .ok (.iload_n 1, 1) := dk_27 (by decide +kernel)
theorem dX12_signAt_24 : decode cX12_signAt 24 = .ok (.iload_n 2, 1) := dk_28 (by decide +kernel)
theorem dX12_signAt_25 : decode cX12_signAt 25 = .ok (.invokevirtual 430, 3) := dk_182 (by decide +kernel)
theorem dX12_signAt_28 : decode cX12_signAt 28 = .ok (.laload, 1) := dk_47 (by decide +kernel)
theorem dX12_signAt_29 : decode cX12_signAt 29 = .ok (.lstore_n 3, 1) := dk_66 (by decide +kernel)
theorem dX12_signAt_30 : decode cX12_signAt 30 = .ok (.lload_n 3, 1) := dk_33 (by decide +kernel)
theorem dX12_signAt_31 : decode cX12_signAt 31 = .ok (.lconst 0, 1) := dk_9 (by decide +kernel)
theorem dX12_signAt_32 : decode cX12_signAt 32 = .ok (.lcmp, 1) := dk_148 (by decide +kernel)
theorem dX12_signAt_33 : decode cX12_signAt 33 = .ok (.ifCond .ge 7, 3) := dk_156 (by decide +kernel)
theorem dX12_signAt_36 : decode cX12_signAt 36 = .ok (.iconst (-1), 1) := dk_2 (by decide +kernel)
theorem dX12_signAt_37 : decode cX12_signAt 37 = .ok (.goto 14, 3) := dk_167 (by decide +kernel)
theorem dX12_signAt_40 : decode cX12_signAt 40 = .ok (.lload_n 3, 1) := dk_33 (by decide +kernel)
theorem dX12_signAt_41 : decode cX12_signAt 41 = .ok (.lconst 0, 1) := dk_9 (by decide +kernel)
theorem dX12_signAt_42 : decode cX12_signAt 42 = .ok (.lcmp, 1) := dk_148 (by decide +kernel)
theorem dX12_signAt_43 : decode cX12_signAt 43 = .ok (.ifCond .le 7, 3) := dk_158 (by decide +kernel)
theorem dX12_signAt_46 : decode cX12_signAt 46 = .ok (.iconst 1, 1) := dk_4 (by decide +kernel)
theorem dX12_signAt_47 : decode cX12_signAt 47 = .ok (.goto 4, 3) := dk_167 (by decide +kernel)
theorem dX12_signAt_50 : decode cX12_signAt 50 = .ok (.iconst 0, 1) := dk_3 (by decide +kernel)
theorem dX12_signAt_51 : decode cX12_signAt 51 = .ok (.ireturn, 1) := dk_172 (by decide +kernel)
def wsRX12_signAt : List Cond := .code yX12_signAt cX12_signAt 5 (some .int) :: ([.fieldLink RX12 414 "OptimaWorksModel" "quick" "Z", .fieldLink RX12 33 "OptimaWorksModel" "fast" "[J"] ++ wsX120 ++ (wsV RX12 430 RX12 yX12_place1 wsRX12_place1) ++ (wsV RX12 405 RX12 yX12_at wsRX12_at) ++ (wsV RX12 353 RX12 yX12_sign wsRX12_sign))
theorem iwsRX12_signAt_in12 : ∀ w ∈ wsX120, w ∈ wsRX12_signAt := fun _ h => List.mem_cons_of_mem _ (List.mem_append_left _ (List.mem_append_left _ (List.mem_append_left _ (List.mem_append_right _ h))))
theorem gwsRX12_signAt_0 : GoodIn wsRX12_signAt (wsV RX12 430 RX12 yX12_place1 wsRX12_place1) := goodIn_sub (fun _ h => List.mem_cons_of_mem _ (List.mem_append_left _ (List.mem_append_left _ (List.mem_append_right _ h)))) (gdV (by decide +kernel) gdwsRX12_place1)
theorem gwsRX12_signAt_1 : GoodIn wsRX12_signAt (wsV RX12 405 RX12 yX12_at wsRX12_at) := goodIn_sub (fun _ h => List.mem_cons_of_mem _ (List.mem_append_left _ (List.mem_append_right _ h))) (gdV (by decide +kernel) gdwsRX12_at)
theorem gwsRX12_signAt_2 : GoodIn wsRX12_signAt (wsV RX12 353 RX12 yX12_sign wsRX12_sign) := goodIn_sub (fun _ h => List.mem_cons_of_mem _ (List.mem_append_right _ h)) (gdV (by decide +kernel) gdwsRX12_sign)
theorem gdwsRX12_signAt : wsRX12_signAt.all goodWord = true := gdC rfl (gdA (gdA (gdA (gdA (by decide +kernel : ([.fieldLink RX12 414 "OptimaWorksModel" "quick" "Z", .fieldLink RX12 33 "OptimaWorksModel" "fast" "[J"] : List Cond).all goodWord = true) gdwsX120) (gdV (by decide +kernel) gdwsRX12_place1)) (gdV (by decide +kernel) gdwsRX12_at)) (gdV (by decide +kernel) gdwsRX12_sign))
set_option maxHeartbeats 4000000 in
set_option maxRecDepth 100000 in
/-- signAt(row, column) -/
theorem r_X12_signAt (l : Launch) (dC : Nat → ClassId) (dI : Nat → Nat → Nat) (a : Nat → Nat) (k : Nat → ClassId) (h0 : Nat) (vi : Nat → Int32) (vj : Nat → Int64) (vF : Nat → Nat → Int32) (vG : Nat → Nat → Int64) (rn : Nat) (cn : Nat) (C : Nat) (T : Nat) (t : Nat → Nat → Int) (D : Int) (mg : Nat → Int) (hBg : Bg (vF 0) mg) (hC : vi 5 = nI C) (hT : Tab (vi 11) C T mg (vG 7) (vj 12) t D) (hC45 : 0 < C ∧ C ≤ 45) (hT60 : T < 60) (hsz : T * (C + 1) ≤ 970) (hrn : rn < T) (hcn : cn ≤ C) (sz : Nat) : Met l yX12_signAt wsRX12_signAt ({ frames := 1, cells := 0, slots := 0, locals := 22 }) (va_Pc [.ref h0, .int (nI rn), .int (nI cn)] (fun U => U.heap.size = sz ∧ va_P (dC, dI) vwCl (WR a k h0 vi vj vF vG) U.heap ∧ va_K (dC, dI) vwCl (tX12 k) U ∧ va_D (fun _ => True) (WR a k h0 vi vj vF vG))) (va_Qi (fun (r : Int32) (u : Unit) => (((r).toInt = 0 ∧ t rn cn = 0) ∨ ((r).toInt = 1 ∧ 0 < t rn cn) ∨ ((r).toInt = -1 ∧ t rn cn < 0))) (fun (u : Unit) t => va_P (dC, dI) vwCl (WR a k h0 vi vj vF vG) t.heap ∧ va_D (va_A (WR a k h0 vi vj vF vG) sz) (WR a k h0 vi vj vF vG)) (va_A (WR a k h0 vi vj vF vG) sz)) 0 0 (va_A (WR a k h0 vi vj vF vG) sz) := by
  refine Met.ofW (cc := cX12_signAt) (maxL := 5) (ret := (some .int)) (by decide) rfl ?_
  intro p e s m args below meth c s₁ B hml hv
  obtain ⟨rfl, hsz, hP, hK, hD0⟩ := hv
  have hx := B.exec
  have hb := B.bytes
  have hr := B.returns
  have hts := atoms_spec (ws := wsRX12_signAt) B.pre
  have hown : s.vm.findClass RX12 = some m.cls := findClass_of_methodNamed B.named
  have hlocks := B.notSynchronized
  subst hsz
  have hD := hD0.self (sz := s.heap.size)
  generalize hAe : va_A (WR a k h0 vi vj vF vG) s.heap.size = A at hD ⊢
  have hA : ∀ q : Nat, s.heap.size ≤ q → A q := fun q h => by rw [← hAe]; exact Or.inr h
  have hS : va_S A s.heap s.heap [] := va_S.rf
  have hl := lv_entry ([.ref h0, .int (nI rn), .int (nI cn)]) (n := 5) (Nat.le_of_ble_eq_true rfl)
  rw [lg_entry_eq]
  generalize (lg_sl ([.ref h0, .int (nI rn), .int (nI cn)]) ++ List.replicate (5 - (lg_sl ([.ref h0, .int (nI rn), .int (nI cn)])).length) Slot.unset).toArray = ls at hl ⊢
  have hl : lv_has ls 5 [(0, .ref h0), (1, .int (nI rn)), (2, .int (nI cn))] := hl
  have hpl := pl_lt hrn hcn
  refine lv_aload_n hx hb dX12_signAt_0 rfl (lv_at hl 0 rfl) ?_
  refine va_get (D := (dC, dI)) (ci := 12) (v := .int (vi 11)) (C := RX12) (T := TX12) (N := 163) (fs := fM (vS a vi vj)) hx hb hts iwsRX12_signAt_in12 hown hK hP 0 rfl rfl 11 (by decide) (hts (.fieldLink RX12 414 "OptimaWorksModel" "quick" "Z") (by decide +kernel)) (fun _ h9 => h9) rfl dX12_signAt_1 ?_
  refine lv_if_ne (tgt := 18) hx hb dX12_signAt_4 (by decide) (fun c_4 => ?_) (fun c_4 => ?_)
  · have t_4 : ((vi 11)).toInt ≠ 0 := toI_ne c_4 rfl (by decide)
    refine lv_aload_n hx hb dX12_signAt_18 rfl (lv_at hl 0 rfl) ?_
    refine va_get (D := (dC, dI)) (ci := 12) (v := .ref (a 7)) (C := RX12) (T := TX12) (N := 163) (fs := fM (vS a vi vj)) hx hb hts iwsRX12_signAt_in12 hown hK hP 0 rfl rfl 13 (by decide) (hts (.fieldLink RX12 33 "OptimaWorksModel" "fast" "[J") (by decide +kernel)) (fun _ h9 => h9) rfl dX12_signAt_19 ?_
    refine lv_aload_n hx hb dX12_signAt_22 rfl (lv_at hl 0 rfl) ?_
    refine lv_iload_n hx hb dX12_signAt_23 rfl (lv_at hl 1 rfl) ?_
    refine lv_iload_n hx hb dX12_signAt_24 rfl (lv_at hl 2 rfl) ?_
    have hFc := allFree hD hS hA
    refine va_calli (va_runV (As := [.int (nI rn), .int (nI cn)]) (rest := [.ref (a 7)]) ⟨hx, hb, hml, hown, hts⟩ (r_X12_place1 l dC dI a k h0 vi vj vF vG rn cn C (by first | with_reducible assumption | decide | omega | rfl | assumption) s.heap.size) (cwV 2 hts gwsRX12_signAt_0 rfl rfl rfl hd_yX12_place1_RX12 (by decide +kernel)) (fz_pre (va_recv hK hP (ci := 12) (q0 := 0) rfl rfl) hP hK hD) rfl rfl hl.1 rfl (lv_room (Nat.le_of_ble_eq_true rfl)) dX12_signAt_25 (by decide +kernel)) hS (fun q _ h => hFc q h) hFc (fun r25 u t9_ H locs ht hvm hw9 hB9 hz1 hk1 hS => ?_)
    have hP : va_P (dC, dI) vwCl (WR a k h0 vi vj vF vG) H := fz_P ht hB9.1
    have hD := fz_sd hP (hB9.2.weaken (fun _ q _ h => hFc q.1 h)) rfl
    obtain rfl := hw9
    refine va_lald (cA := k 7) (n := 1000) (f := (vG 7)) hx hb hK hP 8 7 (WR_get 7 (by decide)) (TR_get 7 (by decide)) (vp_in_nI (show (rn * (C + 1) + cn) < 1000 by omega) (by omega)) dX12_signAt_28 ?_
    refine lv_topl (fun y1 hy1 => ?_)
    obtain rfl : ((vG 7) (rn * (C + 1) + cn)) = y1 := (hy1.trans (by rw [nI_clamp (by omega)])).symm
    refine lv_lstore_n hx hb dX12_signAt_29 rfl hl (by decide) rfl (fun ls (hl : lv_has ls _ ([(3, .long ((vG 7) (rn * (C + 1) + cn))), (0, .ref h0), (1, .int (nI rn)), (2, .int (nI cn))])) => ?_)
    refine lv_lload_n hx hb dX12_signAt_30 rfl (lv_at hl 0 rfl) ?_
    refine lv_lconst (v := 0) hx hb dX12_signAt_31 (by decide) ?_
    refine W.lcmp hx hb dX12_signAt_32 ?_
    refine lv_if_ge (tgt := 40) hx hb dX12_signAt_33 (by decide) (fun c_33 => ?_) (fun c_33 => ?_)
    · have t_33 : (((vG 7) (rn * (C + 1) + cn))).toInt ≥ 0 := toL_ge c_33 rfl (by decide)
      refine lv_lload_n hx hb dX12_signAt_40 rfl (lv_at hl 0 rfl) ?_
      refine lv_lconst (v := 0) hx hb dX12_signAt_41 (by decide) ?_
      refine W.lcmp hx hb dX12_signAt_42 ?_
      refine lv_if_le (tgt := 50) hx hb dX12_signAt_43 (by decide) (fun c_43 => ?_) (fun c_43 => ?_)
      · have t_43 : (((vG 7) (rn * (C + 1) + cn))).toInt ≤ 0 := toL_le c_43 rfl (by decide)
        refine lv_iconst (v := 0) hx hb dX12_signAt_50 (by decide) ?_
        refine W.widen (k := 0) (n := 0) (by decide +kernel) (by decide +kernel) ?_
        exact W.iret (v := 0) hx hb hr (fun t9_ ht hW => ⟨⟨0, (), rfl, by (try dsimp only); (have hQ := (hT.q c_4).2); (have e9 := hQ.2.1 rn hrn cn hcn); (have z0 : (0 : Int32).toInt = 0 := by decide); (have z1 : (1 : Int32).toInt = 1 := by decide); (have z2 : (-1 : Int32).toInt = -1 := by decide); omega, by rw [ht]; exact hP, hD⟩, hS.F ht⟩) hS.2.2 dX12_signAt_51
      · have t_43 : ¬ (((vG 7) (rn * (C + 1) + cn))).toInt ≤ 0 := toL_nle c_43 rfl (by decide)
        refine lv_iconst (v := 1) hx hb dX12_signAt_46 (by decide) ?_
        refine lv_goto (tgt := 51) hx hb dX12_signAt_47 (by decide) ?_
        refine W.widen (k := 0) (n := 0) (by decide +kernel) (by decide +kernel) ?_
        exact W.iret (v := 1) hx hb hr (fun t9_ ht hW => ⟨⟨1, (), rfl, by (try dsimp only); (have hQ := (hT.q c_4).2); (have e9 := hQ.2.1 rn hrn cn hcn); (have z0 : (0 : Int32).toInt = 0 := by decide); (have z1 : (1 : Int32).toInt = 1 := by decide); (have z2 : (-1 : Int32).toInt = -1 := by decide); omega, by rw [ht]; exact hP, hD⟩, hS.F ht⟩) hS.2.2 dX12_signAt_51
    · have t_33 : ¬ (((vG 7) (rn * (C + 1) + cn))).toInt ≥ 0 := toL_nge c_33 rfl (by decide)
      refine lv_iconst (v := (-1)) hx hb dX12_signAt_36 (by decide) ?_
      refine lv_goto (tgt := 51) hx hb dX12_signAt_37 (by decide) ?_
      refine W.widen (k := 0) (n := 0) (by decide +kernel) (by decide +kernel) ?_
      exact W.iret (v := (-1)) hx hb hr (fun t9_ ht hW => ⟨⟨(-1), (), rfl, by (try dsimp only); (have hQ := (hT.q c_4).2); (have e9 := hQ.2.1 rn hrn cn hcn); (have z0 : (0 : Int32).toInt = 0 := by decide); (have z1 : (1 : Int32).toInt = 1 := by decide); (have z2 : (-1 : Int32).toInt = -1 := by decide); omega, by rw [ht]; exact hP, hD⟩, hS.F ht⟩) hS.2.2 dX12_signAt_51
  · have t_4 : ((vi 11)).toInt = 0 := toI_nne c_4 rfl (by decide)
    refine lv_aload_n hx hb dX12_signAt_7 rfl (lv_at hl 0 rfl) ?_
    refine lv_aload_n hx hb dX12_signAt_8 rfl (lv_at hl 0 rfl) ?_
    refine lv_iload_n hx hb dX12_signAt_9 rfl (lv_at hl 1 rfl) ?_
    refine lv_iload_n hx hb dX12_signAt_10 rfl (lv_at hl 2 rfl) ?_
    have hFc := allFree hD hS hA
    refine va_calli (va_runV (As := [.int (nI rn), .int (nI cn)]) (rest := [.ref h0]) ⟨hx, hb, hml, hown, hts⟩ (r_X12_at l dC dI a k h0 vi vj vF vG rn cn C (by first | with_reducible assumption | decide | omega | rfl | assumption) s.heap.size) (cwV 2 hts gwsRX12_signAt_1 rfl rfl rfl hd_yX12_at_RX12 (by decide +kernel)) (fz_pre (va_recv hK hP (ci := 12) (q0 := 0) rfl rfl) hP hK hD) rfl rfl hl.1 rfl (lv_room (Nat.le_of_ble_eq_true rfl)) dX12_signAt_11 (by decide +kernel)) hS (fun q _ h => hFc q h) hFc (fun r11 u t9_ H locs ht hvm hw9 hB9 hz1 hk1 hS => ?_)
    have hP : va_P (dC, dI) vwCl (WR a k h0 vi vj vF vG) H := fz_P ht hB9.1
    have hD := fz_sd hP (hB9.2.weaken (fun _ q _ h => hFc q.1 h)) rfl
    obtain rfl := hw9
    have hFc := allFree hD hS hA
    refine va_calli (va_runV (As := [.int (nI (30 + rn * (C + 1) + cn))]) (rest := []) ⟨hx, hb, hml, hown, hts⟩ (b_X12_sign l dC dI a k h0 vi vj vF vG (30 + rn * (C + 1) + cn) mg hBg (mg (30 + rn * (C + 1) + cn)) rfl (by first | with_reducible assumption | decide | omega | rfl | assumption) H.size) (cwV 1 hts gwsRX12_signAt_2 rfl rfl rfl hd_yX12_sign_RX12 (by decide +kernel)) (fz_pre (va_recv hK hP (ci := 12) (q0 := 0) rfl rfl) hP hK hD) rfl rfl hl.1 rfl (lv_room (Nat.le_of_ble_eq_true rfl)) dX12_signAt_14 (by decide +kernel)) hS (fun q _ h => hFc q h) hFc (fun r14 u t9_ H locs ht hvm hw9 hB9 hz1 hk1 hS => ?_)
    have hP : va_P (dC, dI) vwCl (WR a k h0 vi vj vF vG) H := fz_P ht hB9.1
    have hD := fz_sd hP (hB9.2.weaken (fun _ q _ h => hFc q.1 h)) rfl
    have f14_0 := hw9
    try dsimp only at f14_0
    refine W.widen (k := 0) (n := 0) (by decide +kernel) (by decide +kernel) ?_
    exact W.iret (v := r14) hx hb hr (fun t9_ ht hW => ⟨⟨r14, (), rfl, by (try dsimp only); (have hN := hT.n c_4); (have e9 := hN.1 rn hrn cn hcn); (have f9 := f14_0); omega, by rw [ht]; exact hP, hD⟩, hS.F ht⟩) hS.2.2 dX12_signAt_17
theorem dX12_lies_0 : decode cX12_lies 0 = .ok (.aload_n 0, 1) := dk_42 (by decide +kernel)
theorem dX12_lies_1 : decode cX12_lies 1 = .ok (.getfield 414, 3) := dk_180 (by decide +kernel)
theorem dX12_lies_4 : decode cX12_lies 4 = .ok (.ifCond .eq 85, 3) := dk_153 (by decide +kernel)
theorem dX12_lies_7 : decode cX12_lies 7 = .ok (.aload_n 0, 1) := dk_42 (by decide +kernel)
theorem dX12_lies_8 : decode cX12_lies 8 = .ok (.getfield 33, 3) := dk_180 (by decide +kernel)
theorem dX12_lies_11 : decode cX12_lies 11 = .ok (.aload_n 0, 1) := dk_42 (by decide +kernel)
theorem dX12_lies_12 : decode cX12_lies 12 = .ok (.iload_n 1, 1) := dk_27 (by decide +kernel)
theorem dX12_lies_13 : decode cX12_lies 13 = .ok (.aload_n 0, 1) := dk_42 (by decide +kernel)
theorem dX12_lies_14 : decode cX12_lies 14 = .ok (.getfield 396, 3) := dk_180 (by decide +kernel)
theorem dX12_lies_17 : decode cX12_lies 17 = .ok (.invokevirtual 430, 3) := dk_182 (by decide +kernel)
theorem dX12_lies_20 : decode cX12_lies 20 = .ok (.laload, 1) := dk_47 (by decide +kernel)
theorem dX12_lies_21 : decode cX12_lies 21 = .ok (.aload_n 0, 1) := dk_42 (by decide +kernel)
theorem dX12_lies_22 : decode cX12_lies 22 = .ok (.getfield 33, 3) := dk_180 (by decide +kernel)
theorem dX12_lies_25 : decode cX12_lies 25 = .ok (.aload_n 0, 1) := dk_42 (by decide +kernel)
theorem dX12_lies_26 : decode cX12_lies 26 = .ok (.iload_n 2, 1) := dk_28 (by decide +kernel)
theorem dX12_lies_27 : decode cX12_lies 27 = .ok (.iload_n 3, 1) := dk_29 (by decide +kernel)
theorem dX12_lies_28 : decode cX12_lies 28 = .ok (.invokevirtual 430, 3) := dk_182 (by decide +kernel)
theorem dX12_lies_31 : decode cX12_lies 31 = .ok (.laload, 1) := dk_47 (by decide +kernel)
theorem dX12_lies_32 : decode cX12_lies 32 = .ok (.lmul, 1) := dk_105 (by decide +kernel)
theorem dX12_lies_33 : decode cX12_lies 33 = .ok (.lstore 4, 2) := dk_55 (by decide +kernel)
theorem dX12_lies_35 : decode cX12_lies 35 = .ok (.aload_n 0, 1) := dk_42 (by decide +kernel)
theorem dX12_lies_36 : decode cX12_lies 36 = .ok (.getfield 33, 3) := dk_180 (by decide +kernel)
theorem dX12_lies_39 : decode cX12_lies 39 = .ok (.aload_n 0, 1) := dk_42 (by decide +kernel)
theorem dX12_lies_40 : decode cX12_lies 40 = .ok (.iload_n 2, 1) := dk_28 (by decide +kernel)
theorem dX12_lies_41 : decode cX12_lies 41 = .ok (.aload_n 0, 1) := dk_42 (by decide +kernel)
theorem dX12_lies_42 : decode cX12_lies 42 = .ok (.getfield 396, 3) := dk_180 (by decide +kernel)
theorem dX12_lies_45 : decode cX12_lies 45 = .ok (.invokevirtual 430, 3) := dk_182 (by decide +kernel)
theorem dX12_lies_48 : decode cX12_lies 48 = .ok (.laload, 1) := dk_47 (by decide +kernel)
theorem dX12_lies_49 : decode cX12_lies 49 = .ok (.aload_n 0, 1) := dk_42 (by decide +kernel)
theorem dX12_lies_50 : decode cX12_lies 50 = .ok (.getfield 33, 3) := dk_180 (by decide +kernel)
theorem dX12_lies_53 : decode cX12_lies 53 = .ok (.aload_n 0, 1) := dk_42 (by decide +kernel)
theorem dX12_lies_54 : decode cX12_lies 54 = .ok (.iload_n 1, 1) := dk_27 (by decide +kernel)
theorem dX12_lies_55 : decode cX12_lies 55 = .ok (.iload_n 3, 1) := dk_29 (by decide +kernel)
theorem dX12_lies_56 : decode cX12_lies 56 = .ok (.invokevirtual 430, 3) := dk_182 (by decide +kernel)
theorem dX12_lies_59 : decode cX12_lies 59 = .ok (.laload, 1) := dk_47 (by decide +kernel)
theorem dX12_lies_60 : decode cX12_lies 60 = .ok (.lmul, 1) := dk_105 (by decide +kernel)
theorem dX12_lies_61 : decode cX12_lies 61 = .ok (.lstore 6, 2) := dk_55 (by decide +kernel)
theorem dX12_lies_63 : decode cX12_lies 63 = .ok (.lload 4, 2) := dk_22 (by decide +kernel)
theorem dX12_lies_65 : decode cX12_lies 65 = .ok (.lload 6, 2) := dk_22 (by decide +kernel)
theorem dX12_lies_67 : decode cX12_lies 67 = .ok (.lcmp, 1) := dk_148 (by decide +kernel)
theorem dX12_lies_68 : decode cX12_lies 68 = .ok (.ifCond .ge 7, 3) := dk_156 (by decide +kernel)
theorem dX12_lies_71 : decode cX12_lies 71 = .ok (.iconst (-1), 1) := dk_2 (by decide +kernel)
theorem dX12_lies_72 : decode cX12_lies 72 = .ok (.goto 16, 3) := dk_167 (by decide +kernel)
theorem dX12_lies_75 : decode cX12_lies 75 = .ok (.lload 4, 2) := dk_22 (by decide +kernel)
theorem dX12_lies_77 : decode cX12_lies 77 = .ok (.lload 6, 2) := dk_22 (by decide +kernel)
theorem dX12_lies_79 : decode cX12_lies 79 = .ok (.lcmp, 1) := dk_148 (by decide +kernel)
theorem dX12_lies_80 : decode cX12_lies 80 = .ok (.ifCond .le 7, 3) := dk_158 (by decide +kernel)
theorem dX12_lies_83 : decode cX12_lies 83 = .ok (.iconst 1, 1) := dk_4 (by decide +kernel)
theorem dX12_lies_84 : decode cX12_lies 84 = .ok (.goto 4, 3) := dk_167 (by decide +kernel)
theorem dX12_lies_87 : decode cX12_lies 87 = .ok (.iconst 0, 1) := dk_3 (by decide +kernel)
theorem dX12_lies_88 : decode cX12_lies 88 = .ok (.ireturn, 1) := dk_172 (by decide +kernel)
theorem dX12_lies_89 : decode cX12_lies 89 = .ok (.aload_n 0, 1) := dk_42 (by decide +kernel)
theorem dX12_lies_90 : decode cX12_lies 90 = .ok (.bipush 22, 2) := dk_16 (by decide +kernel)
theorem dX12_lies_92 : decode cX12_lies 92 = .ok (.aload_n 0, 1) := dk_42 (by decide +kernel)
theorem dX12_lies_93 : decode cX12_lies 93 = .ok (.iload_n 1, 1) := dk_27 (by decide +kernel)
theorem dX12_lies_94 : decode cX12_lies 94 = .ok (.aload_n 0, 1) := dk_42 (by decide +kernel)
theorem dX12_lies_95 : decode cX12_lies 95 = .ok (.getfield 396, 3) := dk_180 (by decide +kernel)
theorem dX12_lies_98 : decode cX12_lies 98 = .ok (.invokevirtual 405, 3) := dk_182 (by decide +kernel)
theorem dX12_lies_101 : decode cX12_lies 101 = .ok (.aload_n 0, 1) := dk_42 (by decide +kernel)
theorem dX12_lies_102 : decode cX12_lies 102 = .ok (.iload_n 2, 1) := dk_28 (by decide +kernel)
theorem dX12_lies_103 : decode cX12_lies 103 = .ok (.iload_n 3, 1) := dk_29 (by decide +kernel)
theorem dX12_lies_104 : decode cX12_lies 104 = .ok (.invokevirtual 405, 3) := dk_182 (by decide +kernel)
theorem dX12_lies_107 : decode cX12_lies 107 = .ok (.invokevirtual 390, 3) := dk_182 (by decide +kernel)
theorem dX12_lies_110 : decode cX12_lies 110 = .ok (.aload_n 0, 1) := dk_42 (by decide +kernel)
theorem dX12_lies_111 : decode cX12_lies 111 = .ok (.bipush 23, 2) := dk_16 (by decide +kernel)
theorem dX12_lies_113 : decode cX12_lies 113 = .ok (.aload_n 0, 1) := dk_42 (by decide +kernel)
theorem dX12_lies_114 : decode cX12_lies 114 = .ok (.iload_n 2, 1) := dk_28 (by decide +kernel)
theorem dX12_lies_115 : decode cX12_lies 115 = .ok (.aload_n 0, 1) := dk_42 (by decide +kernel)
theorem dX12_lies_116 : decode cX12_lies 116 = .ok (.getfield 396, 3) := dk_180 (by decide +kernel)
theorem dX12_lies_119 : decode cX12_lies 119 = .ok (.invokevirtual 405, 3) := dk_182 (by decide +kernel)
theorem dX12_lies_122 : decode cX12_lies 122 = .ok (.aload_n 0, 1) := dk_42 (by decide +kernel)
theorem dX12_lies_123 : decode cX12_lies 123 = .ok (.iload_n 1, 1) := dk_27 (by decide +kernel)
theorem dX12_lies_124 : decode cX12_lies 124 = .ok (.iload_n 3, 1) := dk_29 (by decide +kernel)
theorem dX12_lies_125 : decode cX12_lies 125 = .ok (.invokevirtual 405, 3) := dk_182 (by decide +kernel)
theorem dX12_lies_128 : decode cX12_lies 128 = .ok (.invokevirtual 390, 3) := dk_182 (by decide +kernel)
theorem dX12_lies_131 : decode cX12_lies 131 = .ok (.aload_n 0, 1) := dk_42 (by decide +kernel)
theorem dX12_lies_132 : decode cX12_lies 132 = .ok (.bipush 22, 2) := dk_16 (by decide +kernel)
theorem dX12_lies_134 : decode cX12_lies 134 = .ok (.bipush 23, 2) := dk_16 (by decide +kernel)
theorem dX12_lies_136 : decode cX12_lies 136 = .ok (.invokevirtual 393, 3) := dk_182 (by decide +kernel)
theorem dX12_lies_139 : decode cX12_lies 139 = .ok (.ireturn, 1) := dk_172 (by decide +kernel)
def wsRX12_lies : List Cond := .code yX12_lies cX12_lies 8 (some .int) :: ([.fieldLink RX12 414 "OptimaWorksModel" "quick" "Z", .fieldLink RX12 396 "OptimaWorksModel" "columns" "I", .fieldLink RX12 33 "OptimaWorksModel" "fast" "[J"] ++ wsX120 ++ (wsV RX12 405 RX12 yX12_at wsRX12_at) ++ (wsV RX12 390 RX12 yX12_times wsRX12_times) ++ (wsV RX12 393 RX12 yX12_compare wsRX12_compare) ++ (wsV RX12 430 RX12 yX12_place1 wsRX12_place1))
theorem iwsRX12_lies_in12 : ∀ w ∈ wsX120, w ∈ wsRX12_lies := fun _ h => List.mem_cons_of_mem _ (List.mem_append_left _ (List.mem_append_left _ (List.mem_append_left _ (List.mem_append_left _ (List.mem_append_right _ h)))))
theorem gwsRX12_lies_0 : GoodIn wsRX12_lies (wsV RX12 405 RX12 yX12_at wsRX12_at) := goodIn_sub (fun _ h => List.mem_cons_of_mem _ (List.mem_append_left _ (List.mem_append_left _ (List.mem_append_left _ (List.mem_append_right _ h))))) (gdV (by decide +kernel) gdwsRX12_at)
theorem gwsRX12_lies_1 : GoodIn wsRX12_lies (wsV RX12 390 RX12 yX12_times wsRX12_times) := goodIn_sub (fun _ h => List.mem_cons_of_mem _ (List.mem_append_left _ (List.mem_append_left _ (List.mem_append_right _ h)))) (gdV (by decide +kernel) gdwsRX12_times)
theorem gwsRX12_lies_2 : GoodIn wsRX12_lies (wsV RX12 393 RX12 yX12_compare wsRX12_compare) := goodIn_sub (fun _ h => List.mem_cons_of_mem _ (List.mem_append_left _ (List.mem_append_right _ h))) (gdV (by decide +kernel) gdwsRX12_compare)
theorem gwsRX12_lies_3 : GoodIn wsRX12_lies (wsV RX12 430 RX12 yX12_place1 wsRX12_place1) := goodIn_sub (fun _ h => List.mem_cons_of_mem _ (List.mem_append_right _ h)) (gdV (by decide +kernel) gdwsRX12_place1)
theorem gdwsRX12_lies : wsRX12_lies.all goodWord = true := gdC rfl (gdA (gdA (gdA (gdA (gdA (by decide +kernel : ([.fieldLink RX12 414 "OptimaWorksModel" "quick" "Z", .fieldLink RX12 396 "OptimaWorksModel" "columns" "I", .fieldLink RX12 33 "OptimaWorksModel" "fast" "[J"] : List Cond).all goodWord = true) gdwsX120) (gdV (by decide +kernel) gdwsRX12_at)) (gdV (by decide +kernel) gdwsRX12_times)) (gdV (by decide +kernel) gdwsRX12_compare)) (gdV (by decide +kernel) gdwsRX12_place1))
theorem hm_r_X12_lies_0 : (.fieldLink RX12 396 "OptimaWorksModel" "columns" "I" : Cond) ∈ wsRX12_lies := by decide +kernel
theorem hm_r_X12_lies_1 : (.fieldLink RX12 33 "OptimaWorksModel" "fast" "[J" : Cond) ∈ wsRX12_lies := by decide +kernel
set_option maxHeartbeats 4000000 in
set_option maxRecDepth 100000 in
/-- lies(i, k, c) -/
theorem r_X12_lies (l : Launch) (dC : Nat → ClassId) (dI : Nat → Nat → Nat) (a : Nat → Nat) (k : Nat → ClassId) (h0 : Nat) (vi : Nat → Int32) (vj : Nat → Int64) (vF : Nat → Nat → Int32) (vG : Nat → Nat → Int64) (rn : Nat) (kn : Nat) (cn : Nat) (C : Nat) (T : Nat) (t : Nat → Nat → Int) (D : Int) (mg : Nat → Int) (hBg : Bg (vF 0) mg) (hC : vi 5 = nI C) (hT : Tab (vi 11) C T mg (vG 7) (vj 12) t D) (hC45 : 0 < C ∧ C ≤ 45) (hT60 : T < 60) (hsz : T * (C + 1) ≤ 970) (hrn : rn < T) (hkn : kn < T) (hcn : cn ≤ C) (hbd : ∀ i, i < T → ∀ j, j ≤ C → (t i j).natAbs < 2 ^ 294) (sz : Nat) : Met l yX12_lies wsRX12_lies ({ frames := 2, cells := 0, slots := 0, locals := 59 }) (va_Pc [.ref h0, .int (nI rn), .int (nI kn), .int (nI cn)] (fun U => U.heap.size = sz ∧ va_P (dC, dI) vwCl (WR a k h0 vi vj vF vG) U.heap ∧ va_K (dC, dI) vwCl (tX12 k) U ∧ va_D (fun _ => True) (WR a k h0 vi vj vF vG))) (va_Qi (fun (r : Int32) (u : (Nat → Int32) × (Nat → Int64) × (Nat → Int)) => (Bg (u.1) (u.2.2)) ∧ (∀ q, q ≠ 22 → q ≠ 23 → (u.2.2) q = mg q) ∧ (((r).toInt < 0 ∧ t rn C * t kn cn < t kn C * t rn cn) ∨ ((r).toInt = 0 ∧ t rn C * t kn cn = t kn C * t rn cn) ∨ (0 < (r).toInt ∧ t kn C * t rn cn < t rn C * t kn cn))) (fun (u : (Nat → Int32) × (Nat → Int64) × (Nat → Int)) t => va_P (dC, dI) vwCl (WR a k h0 vi vj (fT vF 0 (u.1)) (fT vG 1 (u.2.1))) t.heap ∧ va_D (va_A (WR a k h0 vi vj vF vG) sz) (WR a k h0 vi vj (fT vF 0 (u.1)) (fT vG 1 (u.2.1)))) (va_A (WR a k h0 vi vj vF vG) sz)) 0 0 (va_A (WR a k h0 vi vj vF vG) sz) := by
  refine Met.ofW (cc := cX12_lies) (maxL := 8) (ret := (some .int)) (by decide) rfl ?_
  intro p e s m args below meth c s₁ B hml hv
  obtain ⟨rfl, hsz, hP, hK, hD0⟩ := hv
  have hx := B.exec
  have hb := B.bytes
  have hr := B.returns
  have hts := atoms_spec (ws := wsRX12_lies) B.pre
  have hown : s.vm.findClass RX12 = some m.cls := findClass_of_methodNamed B.named
  have hlocks := B.notSynchronized
  subst hsz
  have hD := hD0.self (sz := s.heap.size)
  generalize hAe : va_A (WR a k h0 vi vj vF vG) s.heap.size = A at hD ⊢
  have hA : ∀ q : Nat, s.heap.size ≤ q → A q := fun q h => by rw [← hAe]; exact Or.inr h
  have hS : va_S A s.heap s.heap [] := va_S.rf
  have hl := lv_entry ([.ref h0, .int (nI rn), .int (nI kn), .int (nI cn)]) (n := 8) (Nat.le_of_ble_eq_true rfl)
  rw [lg_entry_eq]
  generalize (lg_sl ([.ref h0, .int (nI rn), .int (nI kn), .int (nI cn)]) ++ List.replicate (8 - (lg_sl ([.ref h0, .int (nI rn), .int (nI kn), .int (nI cn)])).length) Slot.unset).toArray = ls at hl ⊢
  have hl : lv_has ls 8 [(0, .ref h0), (1, .int (nI rn)), (2, .int (nI kn)), (3, .int (nI cn))] := hl
  have hpl1 := pl_lt hrn (Nat.le_refl C)
  have hpl2 := pl_lt hkn hcn
  have hpl3 := pl_lt hkn (Nat.le_refl C)
  have hpl4 := pl_lt hrn hcn
  refine lv_aload_n hx hb dX12_lies_0 rfl (lv_at hl 0 rfl) ?_
  refine va_get (D := (dC, dI)) (ci := 12) (v := .int (vi 11)) (C := RX12) (T := TX12) (N := 163) (fs := fM (vS a vi vj)) hx hb hts iwsRX12_lies_in12 hown hK hP 0 rfl rfl 11 (by decide) (hts (.fieldLink RX12 414 "OptimaWorksModel" "quick" "Z") (by decide +kernel)) (fun _ h9 => h9) rfl dX12_lies_1 ?_
  refine lv_if_eq (tgt := 89) hx hb dX12_lies_4 (by decide) (fun c_4 => ?_) (fun c_4 => ?_)
  · have t_4 : ((vi 11)).toInt = 0 := toI_eq c_4 rfl (by decide)
    refine lv_aload_n hx hb dX12_lies_89 rfl (lv_at hl 0 rfl) ?_
    refine lv_bipush (v := 22) hx hb dX12_lies_90 (by decide) ?_
    refine lv_aload_n hx hb dX12_lies_92 rfl (lv_at hl 0 rfl) ?_
    refine lv_iload_n hx hb dX12_lies_93 rfl (lv_at hl 1 rfl) ?_
    refine lv_aload_n hx hb dX12_lies_94 rfl (lv_at hl 0 rfl) ?_
    refine va_get (D := (dC, dI)) (ci := 12) (v := .int (vi 5)) (C := RX12) (T := TX12) (N := 163) (fs := fM (vS a vi vj)) hx hb hts iwsRX12_lies_in12 hown hK hP 0 rfl rfl 5 (by decide) (hts _ hm_r_X12_lies_0) (fun _ h9 => h9) rfl dX12_lies_95 ?_
    refine lv_topi (fun y1 hy1 => ?_)
    obtain rfl : (nI C) = y1 := (hy1.trans (hC)).symm
    have hFc := allFree hD hS hA
    refine va_calli (va_runV (As := [.int (nI rn), .int (nI C)]) (rest := [.int 22, .ref h0]) ⟨hx, hb, hml, hown, hts⟩ (r_X12_at l dC dI a k h0 vi vj vF vG rn C C (by first | with_reducible assumption | decide | omega | rfl | assumption) s.heap.size) (cwV 2 hts gwsRX12_lies_0 rfl rfl rfl hd_yX12_at_RX12 (by decide +kernel)) (fz_pre (va_recv hK hP (ci := 12) (q0 := 0) rfl rfl) hP hK hD) rfl rfl hl.1 rfl (lv_room (Nat.le_of_ble_eq_true rfl)) dX12_lies_98 (by decide +kernel)) hS (fun q _ h => hFc q h) hFc (fun r98 u t9_ H locs ht hvm hw9 hB9 hz1 hk1 hS => ?_)
    have hP : va_P (dC, dI) vwCl (WR a k h0 vi vj vF vG) H := fz_P ht hB9.1
    have hD := fz_sd hP (hB9.2.weaken (fun _ q _ h => hFc q.1 h)) rfl
    obtain rfl := hw9
    refine lv_aload_n hx hb dX12_lies_101 rfl (lv_at hl 0 rfl) ?_
    refine lv_iload_n hx hb dX12_lies_102 rfl (lv_at hl 2 rfl) ?_
    refine lv_iload_n hx hb dX12_lies_103 rfl (lv_at hl 3 rfl) ?_
    have hFc := allFree hD hS hA
    refine va_calli (va_runV (As := [.int (nI kn), .int (nI cn)]) (rest := [.int (nI (30 + rn * (C + 1) + C)), .int 22, .ref h0]) ⟨hx, hb, hml, hown, hts⟩ (r_X12_at l dC dI a k h0 vi vj vF vG kn cn C (by first | with_reducible assumption | decide | omega | rfl | assumption) H.size) (cwV 2 hts gwsRX12_lies_0 rfl rfl rfl hd_yX12_at_RX12 (by decide +kernel)) (fz_pre (va_recv hK hP (ci := 12) (q0 := 0) rfl rfl) hP hK hD) rfl rfl hl.1 rfl (lv_room (Nat.le_of_ble_eq_true rfl)) dX12_lies_104 (by decide +kernel)) hS (fun q _ h => hFc q h) hFc (fun r104 u t9_ H locs ht hvm hw9 hB9 hz1 hk1 hS => ?_)
    have hP : va_P (dC, dI) vwCl (WR a k h0 vi vj vF vG) H := fz_P ht hB9.1
    have hD := fz_sd hP (hB9.2.weaken (fun _ q _ h => hFc q.1 h)) rfl
    obtain rfl := hw9
    have hFc := allFree hD hS hA
    refine va_callv (va_runV (As := [.int 22, .int (nI (30 + rn * (C + 1) + C)), .int (nI (30 + kn * (C + 1) + cn))]) (rest := []) ⟨hx, hb, hml, hown, hts⟩ (b_X12_times l dC dI a k h0 vi vj vF vG 22 (30 + rn * (C + 1) + C) (30 + kn * (C + 1) + cn) mg hBg (mg (30 + rn * (C + 1) + C)) (mg (30 + kn * (C + 1) + cn)) rfl rfl (by first | with_reducible assumption | decide | omega | rfl | assumption) (by first | with_reducible assumption | decide | omega | rfl | assumption) (by first | with_reducible assumption | decide | omega | rfl | assumption) (by (have hN := hT.n c_4); rw [hN.1 rn (by omega) C (by omega), hN.1 kn (by omega) cn (by omega)]; exact mul_bd (hbd rn (by omega) C (by omega)) (hbd kn (by omega) cn (by omega)) (by decide)) H.size) (cwV 3 hts gwsRX12_lies_1 rfl rfl rfl hd_yX12_times_RX12 (by decide +kernel)) (fz_pre (va_recv hK hP (ci := 12) (q0 := 0) rfl rfl) hP hK hD) rfl rfl hl.1 rfl (lv_room (Nat.le_of_ble_eq_true rfl)) dX12_lies_107 (by decide +kernel)) hS (fun q _ h => hFc q h) hFc (fun u t9_ H locs ht hvm hw9 hB9 hz1 hk1 hS => ?_)
    revert u hw9 hB9
    refine fz_p2 ?_
    intro g107 gs107 hw9 hB9
    try dsimp only at hw9 hB9
    have hP : va_P (dC, dI) vwCl (WR a k h0 vi vj (fT vF 0 g107) (fT vG 1 gs107)) H := fz_P ht hB9.1
    have hD := fz_sd hP (hB9.2.weaken (fun _ q _ h => hFc q.1 h)) rfl
    have f107_0 := hw9
    try dsimp only at f107_0
    refine lv_aload_n hx hb dX12_lies_110 rfl (lv_at hl 0 rfl) ?_
    refine lv_bipush (v := 23) hx hb dX12_lies_111 (by decide) ?_
    refine lv_aload_n hx hb dX12_lies_113 rfl (lv_at hl 0 rfl) ?_
    refine lv_iload_n hx hb dX12_lies_114 rfl (lv_at hl 2 rfl) ?_
    refine lv_aload_n hx hb dX12_lies_115 rfl (lv_at hl 0 rfl) ?_
    refine va_get (D := (dC, dI)) (ci := 12) (v := .int (vi 5)) (C := RX12) (T := TX12) (N := 163) (fs := fM (vS a vi vj)) hx hb hts iwsRX12_lies_in12 hown hK hP 0 rfl rfl 5 (by decide) (hts _ hm_r_X12_lies_0) (fun _ h9 => h9) rfl dX12_lies_116 ?_
    refine lv_topi (fun y2 hy2 => ?_)
    obtain rfl : (nI C) = y2 := (hy2.trans (hC)).symm
    have hFc := allFree hD hS hA
    refine va_calli (va_runV (As := [.int (nI kn), .int (nI C)]) (rest := [.int 23, .ref h0]) ⟨hx, hb, hml, hown, hts⟩ (r_X12_at l dC dI a k h0 vi vj (fT vF 0 g107) (fT vG 1 gs107) kn C C (by first | with_reducible assumption | decide | omega | rfl | assumption) H.size) (cwV 2 hts gwsRX12_lies_0 rfl rfl rfl hd_yX12_at_RX12 (by decide +kernel)) (fz_pre (va_recv hK hP (ci := 12) (q0 := 0) rfl rfl) hP hK hD) rfl rfl hl.1 rfl (lv_room (Nat.le_of_ble_eq_true rfl)) dX12_lies_119 (by decide +kernel)) hS (fun q _ h => hFc q h) hFc (fun r119 u t9_ H locs ht hvm hw9 hB9 hz1 hk1 hS => ?_)
    have hP : va_P (dC, dI) vwCl (WR a k h0 vi vj (fT vF 0 g107) (fT vG 1 gs107)) H := fz_P ht hB9.1
    have hD := fz_sd hP (hB9.2.weaken (fun _ q _ h => hFc q.1 h)) rfl
    obtain rfl := hw9
    refine lv_aload_n hx hb dX12_lies_122 rfl (lv_at hl 0 rfl) ?_
    refine lv_iload_n hx hb dX12_lies_123 rfl (lv_at hl 1 rfl) ?_
    refine lv_iload_n hx hb dX12_lies_124 rfl (lv_at hl 3 rfl) ?_
    have hFc := allFree hD hS hA
    refine va_calli (va_runV (As := [.int (nI rn), .int (nI cn)]) (rest := [.int (nI (30 + kn * (C + 1) + C)), .int 23, .ref h0]) ⟨hx, hb, hml, hown, hts⟩ (r_X12_at l dC dI a k h0 vi vj (fT vF 0 g107) (fT vG 1 gs107) rn cn C (by first | with_reducible assumption | decide | omega | rfl | assumption) H.size) (cwV 2 hts gwsRX12_lies_0 rfl rfl rfl hd_yX12_at_RX12 (by decide +kernel)) (fz_pre (va_recv hK hP (ci := 12) (q0 := 0) rfl rfl) hP hK hD) rfl rfl hl.1 rfl (lv_room (Nat.le_of_ble_eq_true rfl)) dX12_lies_125 (by decide +kernel)) hS (fun q _ h => hFc q h) hFc (fun r125 u t9_ H locs ht hvm hw9 hB9 hz1 hk1 hS => ?_)
    have hP : va_P (dC, dI) vwCl (WR a k h0 vi vj (fT vF 0 g107) (fT vG 1 gs107)) H := fz_P ht hB9.1
    have hD := fz_sd hP (hB9.2.weaken (fun _ q _ h => hFc q.1 h)) rfl
    obtain rfl := hw9
    have hFc := allFree hD hS hA
    refine va_callv (va_runV (As := [.int 23, .int (nI (30 + kn * (C + 1) + C)), .int (nI (30 + rn * (C + 1) + cn))]) (rest := []) ⟨hx, hb, hml, hown, hts⟩ (b_X12_times l dC dI a k h0 vi vj (fT vF 0 g107) (fT vG 1 gs107) 23 (30 + kn * (C + 1) + C) (30 + rn * (C + 1) + cn) (fT mg 22 ((mg (30 + rn * (C + 1) + C)) * (mg (30 + kn * (C + 1) + cn)))) f107_0 (mg (30 + kn * (C + 1) + C)) (mg (30 + rn * (C + 1) + cn)) (by rw [fT_ne _ _ (by omega)]) (by rw [fT_ne _ _ (by omega)]) (by first | with_reducible assumption | decide | omega | rfl | assumption) (by first | with_reducible assumption | decide | omega | rfl | assumption) (by first | with_reducible assumption | decide | omega | rfl | assumption) (by (have hN := hT.n c_4); rw [hN.1 kn (by omega) C (by omega), hN.1 rn (by omega) cn (by omega)]; exact mul_bd (hbd kn (by omega) C (by omega)) (hbd rn (by omega) cn (by omega)) (by decide)) H.size) (cwV 3 hts gwsRX12_lies_1 rfl rfl rfl hd_yX12_times_RX12 (by decide +kernel)) (fz_pre (va_recv hK hP (ci := 12) (q0 := 0) rfl rfl) hP hK hD) rfl rfl hl.1 rfl (lv_room (Nat.le_of_ble_eq_true rfl)) dX12_lies_128 (by decide +kernel)) hS (fun q _ h => hFc q h) hFc (fun u t9_ H locs ht hvm hw9 hB9 hz1 hk1 hS => ?_)
    revert u hw9 hB9
    refine fz_p2 ?_
    intro g128 gs128 hw9 hB9
    try dsimp only at hw9 hB9
    have e9F : fT vF 0 g128 = fT (fT vF 0 g107) 0 g128 := (fT_sm _ _ _ _).symm
    have e9G : fT vG 1 gs128 = fT (fT vG 1 gs107) 1 gs128 := (fT_sm _ _ _ _).symm
    have hP := wr_PG e9G (wr_PF e9F (fz_P ht hB9.1))
    have hD := wr_DG e9G (wr_DF e9F (hB9.2.weaken (fun _ q _ h => hFc q.1 h)))
    clear e9F e9G
    have f128_0 := hw9
    try dsimp only at f128_0
    refine lv_aload_n hx hb dX12_lies_131 rfl (lv_at hl 0 rfl) ?_
    refine lv_bipush (v := 22) hx hb dX12_lies_132 (by decide) ?_
    refine lv_bipush (v := 23) hx hb dX12_lies_134 (by decide) ?_
    have hFc := allFree hD hS hA
    refine va_calli (va_runV (As := [.int 22, .int 23]) (rest := []) ⟨hx, hb, hml, hown, hts⟩ (b_X12_compare l dC dI a k h0 vi vj (fT vF 0 g128) (fT vG 1 gs128) 22 23 (fT (fT mg 22 ((mg (30 + rn * (C + 1) + C)) * (mg (30 + kn * (C + 1) + cn)))) 23 ((mg (30 + kn * (C + 1) + C)) * (mg (30 + rn * (C + 1) + cn)))) f128_0 ((mg (30 + rn * (C + 1) + C)) * (mg (30 + kn * (C + 1) + cn))) ((mg (30 + kn * (C + 1) + C)) * (mg (30 + rn * (C + 1) + cn))) (by rw [fT_ne _ _ (by omega), fT_eq]) (by rw [fT_eq]) (by first | with_reducible assumption | decide | omega | rfl | assumption) (by first | with_reducible assumption | decide | omega | rfl | assumption) H.size) (cwV 2 hts gwsRX12_lies_2 rfl rfl rfl hd_yX12_compare_RX12 (by decide +kernel)) (fz_pre (va_recv hK hP (ci := 12) (q0 := 0) rfl rfl) hP hK hD) rfl rfl hl.1 rfl (lv_room (Nat.le_of_ble_eq_true rfl)) dX12_lies_136 (by decide +kernel)) hS (fun q _ h => hFc q h) hFc (fun r136 u t9_ H locs ht hvm hw9 hB9 hz1 hk1 hS => ?_)
    have hP : va_P (dC, dI) vwCl (WR a k h0 vi vj (fT vF 0 g128) (fT vG 1 gs128)) H := fz_P ht hB9.1
    have hD := fz_sd hP (hB9.2.weaken (fun _ q _ h => hFc q.1 h)) rfl
    have f136_0 := hw9
    try dsimp only at f136_0
    refine W.widen (k := 0) (n := 0) (by decide +kernel) (by decide +kernel) ?_
    exact W.iret (v := r136) hx hb hr (fun t9_ ht hW => ⟨⟨r136, (g128, gs128, (fT (fT mg 22 ((mg (30 + rn * (C + 1) + C)) * (mg (30 + kn * (C + 1) + cn)))) 23 ((mg (30 + kn * (C + 1) + C)) * (mg (30 + rn * (C + 1) + cn))))), rfl, by (try dsimp only); (have hN := hT.n c_4); (have q1 := hN.1 rn (by omega) C (by omega)); (have q2 := hN.1 kn (by omega) cn (by omega)); (have q3 := hN.1 kn (by omega) C (by omega)); (have q4 := hN.1 rn (by omega) cn (by omega)); (have f9 := f136_0); rw [q1, q2, q3, q4] at f9; exact ⟨f128_0, fun q h1 h2 => by (rw [fT_ne _ _ (by omega), fT_ne _ _ (by omega)]), f9⟩, by rw [ht]; exact hP, hD⟩, hS.F ht⟩) hS.2.2 dX12_lies_139
  · have t_4 : ¬ ((vi 11)).toInt = 0 := toI_neq c_4 rfl (by decide)
    refine lv_aload_n hx hb dX12_lies_7 rfl (lv_at hl 0 rfl) ?_
    refine va_get (D := (dC, dI)) (ci := 12) (v := .ref (a 7)) (C := RX12) (T := TX12) (N := 163) (fs := fM (vS a vi vj)) hx hb hts iwsRX12_lies_in12 hown hK hP 0 rfl rfl 13 (by decide) (hts _ hm_r_X12_lies_1) (fun _ h9 => h9) rfl dX12_lies_8 ?_
    refine lv_aload_n hx hb dX12_lies_11 rfl (lv_at hl 0 rfl) ?_
    refine lv_iload_n hx hb dX12_lies_12 rfl (lv_at hl 1 rfl) ?_
    refine lv_aload_n hx hb dX12_lies_13 rfl (lv_at hl 0 rfl) ?_
    refine va_get (D := (dC, dI)) (ci := 12) (v := .int (vi 5)) (C := RX12) (T := TX12) (N := 163) (fs := fM (vS a vi vj)) hx hb hts iwsRX12_lies_in12 hown hK hP 0 rfl rfl 5 (by decide) (hts _ hm_r_X12_lies_0) (fun _ h9 => h9) rfl dX12_lies_14 ?_
    refine lv_topi (fun y3 hy3 => ?_)
    obtain rfl : (nI C) = y3 := (hy3.trans (hC)).symm
    have hFc := allFree hD hS hA
    refine va_calli (va_runV (As := [.int (nI rn), .int (nI C)]) (rest := [.ref (a 7)]) ⟨hx, hb, hml, hown, hts⟩ (r_X12_place1 l dC dI a k h0 vi vj vF vG rn C C (by first | with_reducible assumption | decide | omega | rfl | assumption) s.heap.size) (cwV 2 hts gwsRX12_lies_3 rfl rfl rfl hd_yX12_place1_RX12 (by decide +kernel)) (fz_pre (va_recv hK hP (ci := 12) (q0 := 0) rfl rfl) hP hK hD) rfl rfl hl.1 rfl (lv_room (Nat.le_of_ble_eq_true rfl)) dX12_lies_17 (by decide +kernel)) hS (fun q _ h => hFc q h) hFc (fun r17 u t9_ H locs ht hvm hw9 hB9 hz1 hk1 hS => ?_)
    have hP : va_P (dC, dI) vwCl (WR a k h0 vi vj vF vG) H := fz_P ht hB9.1
    have hD := fz_sd hP (hB9.2.weaken (fun _ q _ h => hFc q.1 h)) rfl
    obtain rfl := hw9
    refine va_lald (cA := k 7) (n := 1000) (f := (vG 7)) hx hb hK hP 8 7 (WR_get 7 (by decide)) (TR_get 7 (by decide)) (vp_in_nI (show (rn * (C + 1) + C) < 1000 by omega) (by omega)) dX12_lies_20 ?_
    refine lv_topl (fun y4 hy4 => ?_)
    obtain rfl : ((vG 7) (rn * (C + 1) + C)) = y4 := (hy4.trans (by rw [nI_clamp (by omega)])).symm
    refine lv_aload_n hx hb dX12_lies_21 rfl (lv_at hl 0 rfl) ?_
    refine va_get (D := (dC, dI)) (ci := 12) (v := .ref (a 7)) (C := RX12) (T := TX12) (N := 163) (fs := fM (vS a vi vj)) hx hb hts iwsRX12_lies_in12 hown hK hP 0 rfl rfl 13 (by decide) (hts _ hm_r_X12_lies_1) (fun _ h9 => h9) rfl dX12_lies_22 ?_
    refine lv_aload_n hx hb dX12_lies_25 rfl (lv_at hl 0 rfl) ?_
    refine lv_iload_n hx hb dX12_lies_26 rfl (lv_at hl 2 rfl) ?_
    refine lv_iload_n hx hb dX12_lies_27 rfl (lv_at hl 3 rfl) ?_
    have hFc := allFree hD hS hA
    refine va_calli (va_runV (As := [.int (nI kn), .int (nI cn)]) (rest := [.ref (a 7), .long ((vG 7) (rn * (C + 1) + C))]) ⟨hx, hb, hml, hown, hts⟩ (r_X12_place1 l dC dI a k h0 vi vj vF vG kn cn C (by first | with_reducible assumption | decide | omega | rfl | assumption) H.size) (cwV 2 hts gwsRX12_lies_3 rfl rfl rfl hd_yX12_place1_RX12 (by decide +kernel)) (fz_pre (va_recv hK hP (ci := 12) (q0 := 0) rfl rfl) hP hK hD) rfl rfl hl.1 rfl (lv_room (Nat.le_of_ble_eq_true rfl)) dX12_lies_28 (by decide +kernel)) hS (fun q _ h => hFc q h) hFc (fun r28 u t9_ H locs ht hvm hw9 hB9 hz1 hk1 hS => ?_)
    have hP : va_P (dC, dI) vwCl (WR a k h0 vi vj vF vG) H := fz_P ht hB9.1
    have hD := fz_sd hP (hB9.2.weaken (fun _ q _ h => hFc q.1 h)) rfl
    obtain rfl := hw9
    refine va_lald (cA := k 7) (n := 1000) (f := (vG 7)) hx hb hK hP 8 7 (WR_get 7 (by decide)) (TR_get 7 (by decide)) (vp_in_nI (show (kn * (C + 1) + cn) < 1000 by omega) (by omega)) dX12_lies_31 ?_
    refine lv_topl (fun y5 hy5 => ?_)
    obtain rfl : ((vG 7) (kn * (C + 1) + cn)) = y5 := (hy5.trans (by rw [nI_clamp (by omega)])).symm
    refine lv_lmul hx hb dX12_lies_32 ?_
    refine lv_lstore hx hb dX12_lies_33 hl (by decide) rfl (fun ls (hl : lv_has ls _ ([(4, .long (((vG 7) (rn * (C + 1) + C)) * ((vG 7) (kn * (C + 1) + cn)))), (0, .ref h0), (1, .int (nI rn)), (2, .int (nI kn)), (3, .int (nI cn))])) => ?_)
    refine lv_aload_n hx hb dX12_lies_35 rfl (lv_at hl 1 rfl) ?_
    refine va_get (D := (dC, dI)) (ci := 12) (v := .ref (a 7)) (C := RX12) (T := TX12) (N := 163) (fs := fM (vS a vi vj)) hx hb hts iwsRX12_lies_in12 hown hK hP 0 rfl rfl 13 (by decide) (hts _ hm_r_X12_lies_1) (fun _ h9 => h9) rfl dX12_lies_36 ?_
    refine lv_aload_n hx hb dX12_lies_39 rfl (lv_at hl 1 rfl) ?_
    refine lv_iload_n hx hb dX12_lies_40 rfl (lv_at hl 3 rfl) ?_
    refine lv_aload_n hx hb dX12_lies_41 rfl (lv_at hl 1 rfl) ?_
    refine va_get (D := (dC, dI)) (ci := 12) (v := .int (vi 5)) (C := RX12) (T := TX12) (N := 163) (fs := fM (vS a vi vj)) hx hb hts iwsRX12_lies_in12 hown hK hP 0 rfl rfl 5 (by decide) (hts _ hm_r_X12_lies_0) (fun _ h9 => h9) rfl dX12_lies_42 ?_
    refine lv_topi (fun y6 hy6 => ?_)
    obtain rfl : (nI C) = y6 := (hy6.trans (hC)).symm
    have hFc := allFree hD hS hA
    refine va_calli (va_runV (As := [.int (nI kn), .int (nI C)]) (rest := [.ref (a 7)]) ⟨hx, hb, hml, hown, hts⟩ (r_X12_place1 l dC dI a k h0 vi vj vF vG kn C C (by first | with_reducible assumption | decide | omega | rfl | assumption) H.size) (cwV 2 hts gwsRX12_lies_3 rfl rfl rfl hd_yX12_place1_RX12 (by decide +kernel)) (fz_pre (va_recv hK hP (ci := 12) (q0 := 0) rfl rfl) hP hK hD) rfl rfl hl.1 rfl (lv_room (Nat.le_of_ble_eq_true rfl)) dX12_lies_45 (by decide +kernel)) hS (fun q _ h => hFc q h) hFc (fun r45 u t9_ H locs ht hvm hw9 hB9 hz1 hk1 hS => ?_)
    have hP : va_P (dC, dI) vwCl (WR a k h0 vi vj vF vG) H := fz_P ht hB9.1
    have hD := fz_sd hP (hB9.2.weaken (fun _ q _ h => hFc q.1 h)) rfl
    obtain rfl := hw9
    refine va_lald (cA := k 7) (n := 1000) (f := (vG 7)) hx hb hK hP 8 7 (WR_get 7 (by decide)) (TR_get 7 (by decide)) (vp_in_nI (show (kn * (C + 1) + C) < 1000 by omega) (by omega)) dX12_lies_48 ?_
    refine lv_topl (fun y7 hy7 => ?_)
    obtain rfl : ((vG 7) (kn * (C + 1) + C)) = y7 := (hy7.trans (by rw [nI_clamp (by omega)])).symm
    refine lv_aload_n hx hb dX12_lies_49 rfl (lv_at hl 1 rfl) ?_
    refine va_get (D := (dC, dI)) (ci := 12) (v := .ref (a 7)) (C := RX12) (T := TX12) (N := 163) (fs := fM (vS a vi vj)) hx hb hts iwsRX12_lies_in12 hown hK hP 0 rfl rfl 13 (by decide) (hts _ hm_r_X12_lies_1) (fun _ h9 => h9) rfl dX12_lies_50 ?_
    refine lv_aload_n hx hb dX12_lies_53 rfl (lv_at hl 1 rfl) ?_
    refine lv_iload_n hx hb dX12_lies_54 rfl (lv_at hl 2 rfl) ?_
    refine lv_iload_n hx hb dX12_lies_55 rfl (lv_at hl 4 rfl) ?_
    have hFc := allFree hD hS hA
    refine va_calli (va_runV (As := [.int (nI rn), .int (nI cn)]) (rest := [.ref (a 7), .long ((vG 7) (kn * (C + 1) + C))]) ⟨hx, hb, hml, hown, hts⟩ (r_X12_place1 l dC dI a k h0 vi vj vF vG rn cn C (by first | with_reducible assumption | decide | omega | rfl | assumption) H.size) (cwV 2 hts gwsRX12_lies_3 rfl rfl rfl hd_yX12_place1_RX12 (by decide +kernel)) (fz_pre (va_recv hK hP (ci := 12) (q0 := 0) rfl rfl) hP hK hD) rfl rfl hl.1 rfl (lv_room (Nat.le_of_ble_eq_true rfl)) dX12_lies_56 (by decide +kernel)) hS (fun q _ h => hFc q h) hFc (fun r56 u t9_ H locs ht hvm hw9 hB9 hz1 hk1 hS => ?_)
    have hP : va_P (dC, dI) vwCl (WR a k h0 vi vj vF vG) H := fz_P ht hB9.1
    have hD := fz_sd hP (hB9.2.weaken (fun _ q _ h => hFc q.1 h)) rfl
    obtain rfl := hw9
    refine va_lald (cA := k 7) (n := 1000) (f := (vG 7)) hx hb hK hP 8 7 (WR_get 7 (by decide)) (TR_get 7 (by decide)) (vp_in_nI (show (rn * (C + 1) + cn) < 1000 by omega) (by omega)) dX12_lies_59 ?_
    refine lv_topl (fun y8 hy8 => ?_)
    obtain rfl : ((vG 7) (rn * (C + 1) + cn)) = y8 := (hy8.trans (by rw [nI_clamp (by omega)])).symm
    refine lv_lmul hx hb dX12_lies_60 ?_
    refine lv_lstore hx hb dX12_lies_61 hl (by decide) rfl (fun ls (hl : lv_has ls _ ([(6, .long (((vG 7) (kn * (C + 1) + C)) * ((vG 7) (rn * (C + 1) + cn)))), (4, .long (((vG 7) (rn * (C + 1) + C)) * ((vG 7) (kn * (C + 1) + cn)))), (0, .ref h0), (1, .int (nI rn)), (2, .int (nI kn)), (3, .int (nI cn))])) => ?_)
    refine lv_lload hx hb dX12_lies_63 (lv_at hl 1 rfl) ?_
    refine lv_lload hx hb dX12_lies_65 (lv_at hl 0 rfl) ?_
    refine W.lcmp hx hb dX12_lies_67 ?_
    refine lv_if_ge (tgt := 75) hx hb dX12_lies_68 (by decide) (fun c_68 => ?_) (fun c_68 => ?_)
    · have t_68 : ((((vG 7) (rn * (C + 1) + C)) * ((vG 7) (kn * (C + 1) + cn)))).toInt ≥ ((((vG 7) (kn * (C + 1) + C)) * ((vG 7) (rn * (C + 1) + cn)))).toInt := toL_ge c_68 rfl rfl
      refine lv_lload hx hb dX12_lies_75 (lv_at hl 1 rfl) ?_
      refine lv_lload hx hb dX12_lies_77 (lv_at hl 0 rfl) ?_
      refine W.lcmp hx hb dX12_lies_79 ?_
      refine lv_if_le (tgt := 87) hx hb dX12_lies_80 (by decide) (fun c_80 => ?_) (fun c_80 => ?_)
      · have t_80 : ((((vG 7) (rn * (C + 1) + C)) * ((vG 7) (kn * (C + 1) + cn)))).toInt ≤ ((((vG 7) (kn * (C + 1) + C)) * ((vG 7) (rn * (C + 1) + cn)))).toInt := toL_le c_80 rfl rfl
        refine lv_iconst (v := 0) hx hb dX12_lies_87 (by decide) ?_
        refine W.widen (k := 0) (n := 0) (by decide +kernel) (by decide +kernel) ?_
        have e9 : fT vF 0 (vF 0) = vF := fT_id _ _ (rfl)
        have hP := wr_PF e9 hP
        have hD := wr_DF e9 hD
        clear e9
        have e9 : fT vG 1 (vG 1) = vG := fT_id _ _ (rfl)
        have hP := wr_PG e9 hP
        have hD := wr_DG e9 hD
        clear e9
        exact W.iret (v := 0) hx hb hr (fun t9_ ht hW => ⟨⟨0, ((vF 0), (vG 1), mg), rfl, by (try dsimp only); (have hQ := (hT.q c_4).2); (have q1 := hQ.2.1 rn (by omega) C (by omega)); (have q1b := hQ.1 (rn * (C + 1) + C) (pl_lt (by omega) (by omega))); (have q2 := hQ.2.1 kn (by omega) cn (by omega)); (have q2b := hQ.1 (kn * (C + 1) + cn) (pl_lt (by omega) (by omega))); (have q3 := hQ.2.1 kn (by omega) C (by omega)); (have q3b := hQ.1 (kn * (C + 1) + C) (pl_lt (by omega) (by omega))); (have q4 := hQ.2.1 rn (by omega) cn (by omega)); (have q4b := hQ.1 (rn * (C + 1) + cn) (pl_lt (by omega) (by omega))); (have m1 := (mulQ q1b q2b).1); (have m2 := (mulQ q3b q4b).1); rw [q1, q2] at m1; rw [q3, q4] at m2; (have z0 : (0 : Int32).toInt = 0 := by decide); (have z1 : (1 : Int32).toInt = 1 := by decide); (have z2 : (-1 : Int32).toInt = -1 := by decide); refine ⟨hBg, fun q h1 h2 => rfl, ?_⟩; omega, by rw [ht]; exact hP, hD⟩, hS.F ht⟩) hS.2.2 dX12_lies_88
      · have t_80 : ¬ ((((vG 7) (rn * (C + 1) + C)) * ((vG 7) (kn * (C + 1) + cn)))).toInt ≤ ((((vG 7) (kn * (C + 1) + C)) * ((vG 7) (rn * (C + 1) + cn)))).toInt := toL_nle c_80 rfl rfl
        refine lv_iconst (v := 1) hx hb dX12_lies_83 (by decide) ?_
        refine lv_goto (tgt := 88) hx hb dX12_lies_84 (by decide) ?_
        refine W.widen (k := 0) (n := 0) (by decide +kernel) (by decide +kernel) ?_
        have e9 : fT vF 0 (vF 0) = vF := fT_id _ _ (rfl)
        have hP := wr_PF e9 hP
        have hD := wr_DF e9 hD
        clear e9
        have e9 : fT vG 1 (vG 1) = vG := fT_id _ _ (rfl)
        have hP := wr_PG e9 hP
        have hD := wr_DG e9 hD
        clear e9
        exact W.iret (v := 1) hx hb hr (fun t9_ ht hW => ⟨⟨1, ((vF 0), (vG 1), mg), rfl, by (try dsimp only); (have hQ := (hT.q c_4).2); (have q1 := hQ.2.1 rn (by omega) C (by omega)); (have q1b := hQ.1 (rn * (C + 1) + C) (pl_lt (by omega) (by omega))); (have q2 := hQ.2.1 kn (by omega) cn (by omega)); (have q2b := hQ.1 (kn * (C + 1) + cn) (pl_lt (by omega) (by omega))); (have q3 := hQ.2.1 kn (by omega) C (by omega)); (have q3b := hQ.1 (kn * (C + 1) + C) (pl_lt (by omega) (by omega))); (have q4 := hQ.2.1 rn (by omega) cn (by omega)); (have q4b := hQ.1 (rn * (C + 1) + cn) (pl_lt (by omega) (by omega))); (have m1 := (mulQ q1b q2b).1); (have m2 := (mulQ q3b q4b).1); rw [q1, q2] at m1; rw [q3, q4] at m2; (have z0 : (0 : Int32).toInt = 0 := by decide); (have z1 : (1 : Int32).toInt = 1 := by decide); (have z2 : (-1 : Int32).toInt = -1 := by decide); refine ⟨hBg, fun q h1 h2 => rfl, ?_⟩; omega, by rw [ht]; exact hP, hD⟩, hS.F ht⟩) hS.2.2 dX12_lies_88
    · have t_68 : ¬ ((((vG 7) (rn * (C + 1) + C)) * ((vG 7) (kn * (C + 1) + cn)))).toInt ≥ ((((vG 7) (kn * (C + 1) + C)) * ((vG 7) (rn * (C + 1) + cn)))).toInt := toL_nge c_68 rfl rfl
      refine lv_iconst (v := (-1)) hx hb dX12_lies_71 (by decide) ?_
      refine lv_goto (tgt := 88) hx hb dX12_lies_72 (by decide) ?_
      refine W.widen (k := 0) (n := 0) (by decide +kernel) (by decide +kernel) ?_
      have e9 : fT vF 0 (vF 0) = vF := fT_id _ _ (rfl)
      have hP := wr_PF e9 hP
      have hD := wr_DF e9 hD
      clear e9
      have e9 : fT vG 1 (vG 1) = vG := fT_id _ _ (rfl)
      have hP := wr_PG e9 hP
      have hD := wr_DG e9 hD
      clear e9
      exact W.iret (v := (-1)) hx hb hr (fun t9_ ht hW => ⟨⟨(-1), ((vF 0), (vG 1), mg), rfl, by (try dsimp only); (have hQ := (hT.q c_4).2); (have q1 := hQ.2.1 rn (by omega) C (by omega)); (have q1b := hQ.1 (rn * (C + 1) + C) (pl_lt (by omega) (by omega))); (have q2 := hQ.2.1 kn (by omega) cn (by omega)); (have q2b := hQ.1 (kn * (C + 1) + cn) (pl_lt (by omega) (by omega))); (have q3 := hQ.2.1 kn (by omega) C (by omega)); (have q3b := hQ.1 (kn * (C + 1) + C) (pl_lt (by omega) (by omega))); (have q4 := hQ.2.1 rn (by omega) cn (by omega)); (have q4b := hQ.1 (rn * (C + 1) + cn) (pl_lt (by omega) (by omega))); (have m1 := (mulQ q1b q2b).1); (have m2 := (mulQ q3b q4b).1); rw [q1, q2] at m1; rw [q3, q4] at m2; (have z0 : (0 : Int32).toInt = 0 := by decide); (have z1 : (1 : Int32).toInt = 1 := by decide); (have z2 : (-1 : Int32).toInt = -1 := by decide); refine ⟨hBg, fun q h1 h2 => rfl, ?_⟩; omega, by rw [ht]; exact hP, hD⟩, hS.F ht⟩) hS.2.2 dX12_lies_88
theorem dX12_hasten_0 : decode cX12_hasten 0 = .ok (.aload_n 0, 1) := dk_42 (by decide +kernel)
theorem dX12_hasten_1 : decode cX12_hasten 1 = .ok (.iconst 1, 1) := dk_4 (by decide +kernel)
theorem dX12_hasten_2 : decode cX12_hasten 2 = .ok (.putfield 414, 3) := dk_181 (by decide +kernel)
theorem dX12_hasten_5 : decode cX12_hasten 5 = .ok (.aload_n 0, 1) := dk_42 (by decide +kernel)
theorem dX12_hasten_6 : decode cX12_hasten 6 = .ok (.getfield 399, 3) := dk_180 (by decide +kernel)
theorem dX12_hasten_9 : decode cX12_hasten 9 = .ok (.aload_n 0, 1) := dk_42 (by decide +kernel)
theorem dX12_hasten_10 : decode cX12_hasten 10 = .ok (.getfield 402, 3) := dk_180 (by decide +kernel)
theorem dX12_hasten_13 : decode cX12_hasten 13 = .ok (.iadd, 1) := dk_96 (by decide +kernel)
theorem dX12_hasten_14 : decode cX12_hasten 14 = .ok (.aload_n 0, 1) := dk_42 (by decide +kernel)
theorem dX12_hasten_15 : decode cX12_hasten 15 = .ok (.getfield 396, 3) := dk_180 (by decide +kernel)
theorem dX12_hasten_18 : decode cX12_hasten 18 = .ok (.iconst 1, 1) := dk_4 (by decide +kernel)
theorem dX12_hasten_19 : decode cX12_hasten 19 = .ok (.iadd, 1) := dk_96 (by decide +kernel)
theorem dX12_hasten_20 : decode cX12_hasten 20 = .ok (.imul, 1) := dk_104 (by decide +kernel)
theorem dX12_hasten_21 : decode cX12_hasten 21 = .ok (.istore_n 1, 1) := dk_60 (by decide +kernel)
theorem dX12_hasten_22 : decode cX12_hasten 22 = .ok (.iconst 0, 1) := dk_3 (by decide +kernel)
theorem dX12_hasten_23 : decode cX12_hasten 23 = .ok (.istore_n 2, 1) := dk_61 (by decide +kernel)
theorem dX12_hasten_24 : decode cX12_hasten 24 = .ok (.iload_n 2, 1) := dk_28 (by decide +kernel)
theorem dX12_hasten_25 : decode cX12_hasten 25 = .ok (.iload_n 1, 1) := dk_27 (by decide +kernel)
theorem dX12_hasten_26 : decode cX12_hasten 26 = .ok (.if_icmp .ge 65, 3) := dk_162 (by decide +kernel)
theorem dX12_hasten_29 : decode cX12_hasten 29 = .ok (.aload_n 0, 1) := dk_42 (by decide +kernel)
theorem dX12_hasten_30 : decode cX12_hasten 30 = .ok (.getfield 414, 3) := dk_180 (by decide +kernel)
theorem dX12_hasten_33 : decode cX12_hasten 33 = .ok (.ifCond .eq 58, 3) := dk_153 (by decide +kernel)
theorem dX12_hasten_36 : decode cX12_hasten 36 = .ok (.aload_n 0, 1) := dk_42 (by decide +kernel)
theorem dX12_hasten_37 : decode cX12_hasten 37 = .ok (.getfield 33, 3) := dk_180 (by decide +kernel)
theorem dX12_hasten_40 : decode cX12_hasten 40 = .ok (.iload_n 2, 1) := dk_28 (by decide +kernel)
theorem dX12_hasten_41 : decode cX12_hasten 41 = .ok (.aload_n 0, 1) := dk_42 (by decide +kernel)
theorem dX12_hasten_42 : decode cX12_hasten 42 = .ok (.bipush 30, 2) := dk_16 (by decide +kernel)
theorem dX12_hasten_44 : decode cX12_hasten 44 = .ok (.iload_n 2, 1) := dk_28 (by decide +kernel)
theorem dX12_hasten_45 : decode cX12_hasten 45 = .ok (.iadd, 1) := dk_96 (by decide +kernel)
theorem dX12_hasten_46 : decode cX12_hasten 46 = .ok (.invokevirtual 418, 3) := dk_182 (by decide +kernel)
theorem dX12_hasten_49 : decode cX12_hasten 49 = .ok (.lastore, 1) := dk_80 (by decide +kernel)
theorem dX12_hasten_50 : decode cX12_hasten 50 = .ok (.aload_n 0, 1) := dk_42 (by decide +kernel)
theorem dX12_hasten_51 : decode cX12_hasten 51 = .ok (.aload_n 0, 1) := dk_42 (by decide +kernel)
theorem dX12_hasten_52 : decode cX12_hasten 52 = .ok (.getfield 33, 3) := dk_180 (by decide +kernel)
theorem dX12_hasten_55 : decode cX12_hasten 55 = .ok (.iload_n 2, 1) := dk_28 (by decide +kernel)
theorem dX12_hasten_56 : decode cX12_hasten 56 = .ok (.laload, 1) := dk_47 (by decide +kernel)
theorem dX12_hasten_57 : decode cX12_hasten 57 = .ok (.ldc2_w 422, 3) := dk_20 (by decide +kernel)
theorem dX12_hasten_60 : decode cX12_hasten 60 = .ok (.lcmp, 1) := dk_148 (by decide +kernel)
theorem dX12_hasten_61 : decode cX12_hasten 61 = .ok (.ifCond .ge 20, 3) := dk_156 (by decide +kernel)
theorem dX12_hasten_64 : decode cX12_hasten 64 = .ok (.aload_n 0, 1) := dk_42 (by decide +kernel)
theorem dX12_hasten_65 : decode cX12_hasten 65 = .ok (.getfield 33, 3) := dk_180 (by decide +kernel)
theorem dX12_hasten_68 : decode cX12_hasten 68 = .ok (.iload_n 2, 1) := dk_28 (by decide +kernel)
theorem dX12_hasten_69 : decode cX12_hasten 69 = .ok (.laload, 1) := dk_47 (by decide +kernel)
theorem dX12_hasten_70 : decode cX12_hasten 70 = .ok (.ldc2_w 424, 3) := dk_20 (by decide +kernel)
theorem dX12_hasten_73 : decode cX12_hasten 73 = .ok (.lcmp, 1) := dk_148 (by decide +kernel)
theorem dX12_hasten_74 : decode cX12_hasten 74 = .ok (.ifCond .le 7, 3) := dk_158 (by decide +kernel)
theorem dX12_hasten_77 : decode cX12_hasten 77 = .ok (.iconst 1, 1) := dk_4 (by decide +kernel)
theorem dX12_hasten_78 : decode cX12_hasten 78 = .ok (.goto 4, 3) := dk_167 (by decide +kernel)
theorem dX12_hasten_81 : decode cX12_hasten 81 = .ok (.iconst 0, 1) := dk_3 (by decide +kernel)
theorem dX12_hasten_82 : decode cX12_hasten 82 = .ok (.putfield 414, 3) := dk_181 (by decide +kernel)
theorem dX12_hasten_85 : decode cX12_hasten 85 = .ok (.iinc 2 1, 3) := dk_132 (by decide +kernel)
theorem dX12_hasten_88 : decode cX12_hasten 88 = .ok (.goto (-64), 3) := dk_167 (by decide +kernel)
theorem dX12_hasten_91 : decode cX12_hasten 91 = .ok (.aload_n 0, 1) := dk_42 (by decide +kernel)
theorem dX12_hasten_92 : decode cX12_hasten 92 = .ok (.lconst 1, 1) := dk_10 (by decide +kernel)
theorem dX12_hasten_93 : decode cX12_hasten 93 = .ok (.putfield 426, 3) := dk_181 (by decide +kernel)
theorem dX12_hasten_96 : decode cX12_hasten 96 = .ok (.return_, 1) := dk_177 (by decide +kernel)
def wsRX12_hasten : List Cond := .code yX12_hasten cX12_hasten 3 none :: ([.fieldLink RX12 414 "OptimaWorksModel" "quick" "Z", .fieldLink RX12 399 "OptimaWorksModel" "rows" "I", .fieldLink RX12 402 "OptimaWorksModel" "goals" "I", .fieldLink RX12 396 "OptimaWorksModel" "columns" "I", .fieldLink RX12 426 "OptimaWorksModel" "quickDivisor" "J", .fieldLink RX12 33 "OptimaWorksModel" "fast" "[J", .constantLong RX12 422 2147483648, .constantLong RX12 424 (-2147483648)] ++ wsX120 ++ (wsV RX12 418 RX12 yX12_worth wsRX12_worth))
theorem iwsRX12_hasten_in12 : ∀ w ∈ wsX120, w ∈ wsRX12_hasten := fun _ h => List.mem_cons_of_mem _ (List.mem_append_left _ (List.mem_append_right _ h))
theorem gwsRX12_hasten_0 : GoodIn wsRX12_hasten (wsV RX12 418 RX12 yX12_worth wsRX12_worth) := goodIn_sub (fun _ h => List.mem_cons_of_mem _ (List.mem_append_right _ h)) (gdV (by decide +kernel) gdwsRX12_worth)
theorem gdwsRX12_hasten : wsRX12_hasten.all goodWord = true := gdC rfl (gdA (gdA (by decide +kernel : ([.fieldLink RX12 414 "OptimaWorksModel" "quick" "Z", .fieldLink RX12 399 "OptimaWorksModel" "rows" "I", .fieldLink RX12 402 "OptimaWorksModel" "goals" "I", .fieldLink RX12 396 "OptimaWorksModel" "columns" "I", .fieldLink RX12 426 "OptimaWorksModel" "quickDivisor" "J", .fieldLink RX12 33 "OptimaWorksModel" "fast" "[J", .constantLong RX12 422 2147483648, .constantLong RX12 424 (-2147483648)] : List Cond).all goodWord = true) gdwsX120) (gdV (by decide +kernel) gdwsRX12_worth))
theorem hm_r_X12_hasten_0 : (.fieldLink RX12 414 "OptimaWorksModel" "quick" "Z" : Cond) ∈ wsRX12_hasten := by decide +kernel
theorem hm_r_X12_hasten_1 : (.fieldLink RX12 426 "OptimaWorksModel" "quickDivisor" "J" : Cond) ∈ wsRX12_hasten := by decide +kernel
theorem hm_r_X12_hasten_2 : (.fieldLink RX12 33 "OptimaWorksModel" "fast" "[J" : Cond) ∈ wsRX12_hasten := by decide +kernel
set_option maxHeartbeats 4000000 in
set_option maxRecDepth 100000 in
/-- hasten() -/
theorem r_X12_hasten (l : Launch) (dC : Nat → ClassId) (dI : Nat → Nat → Nat) (a : Nat → Nat) (k : Nat → ClassId) (h0 : Nat) (vi : Nat → Int32) (vj : Nat → Int64) (vF : Nat → Nat → Int32) (vG : Nat → Nat → Int64) (C : Nat) (R : Nat) (Gq : Nat) (t : Nat → Nat → Int) (mg : Nat → Int) (hBg : Bg (vF 0) mg) (hC : vi 5 = nI C) (hR : vi 6 = nI R) (hG : vi 7 = nI Gq) (hC45 : 0 < C ∧ C ≤ 45) (hT60 : R + Gq < 60) (hsz : (R + Gq) * (C + 1) ≤ 970) (hN : TabN C (R + Gq) mg t 1) (sz : Nat) : Met l yX12_hasten wsRX12_hasten ({ frames := 2, cells := 0, slots := 0, locals := 45 }) (va_Pc [.ref h0] (fun U => U.heap.size = sz ∧ va_P (dC, dI) vwCl (WR a k h0 vi vj vF vG) U.heap ∧ va_K (dC, dI) vwCl (tX12 k) U ∧ va_D (fun _ => True) (WR a k h0 vi vj vF vG))) (va_Qv (fun (u : (Int32) × (Nat → Int64)) => (Tab (u.1) C (R + Gq) mg (u.2) (1 : Int64) t 1)) (fun (u : (Int32) × (Nat → Int64)) t => va_P (dC, dI) vwCl (WR a k h0 (fT vi 11 (u.1)) (fT vj 12 1) vF (fT vG 7 (u.2))) t.heap ∧ va_D (va_A (WR a k h0 vi vj vF vG) sz) (WR a k h0 (fT vi 11 (u.1)) (fT vj 12 1) vF (fT vG 7 (u.2)))) (va_A (WR a k h0 vi vj vF vG) sz)) 0 0 (va_A (WR a k h0 vi vj vF vG) sz) := by
  refine Met.ofW (cc := cX12_hasten) (maxL := 3) (ret := none) (by decide) rfl ?_
  intro p e s m args below meth c s₁ B hml hv
  obtain ⟨rfl, hsz, hP, hK, hD0⟩ := hv
  have hx := B.exec
  have hb := B.bytes
  have hr := B.returns
  have hts := atoms_spec (ws := wsRX12_hasten) B.pre
  have hown : s.vm.findClass RX12 = some m.cls := findClass_of_methodNamed B.named
  have hlocks := B.notSynchronized
  subst hsz
  have hD := hD0.self (sz := s.heap.size)
  generalize hAe : va_A (WR a k h0 vi vj vF vG) s.heap.size = A at hD ⊢
  have hA : ∀ q : Nat, s.heap.size ≤ q → A q := fun q h => by rw [← hAe]; exact Or.inr h
  have hS : va_S A s.heap s.heap [] := va_S.rf
  have hl := lv_entry ([.ref h0]) (n := 3) (Nat.le_of_ble_eq_true rfl)
  rw [lg_entry_eq]
  generalize (lg_sl ([.ref h0]) ++ List.replicate (3 - (lg_sl ([.ref h0])).length) Slot.unset).toArray = ls at hl ⊢
  have hl : lv_has ls 3 [(0, .ref h0)] := hl
  refine lv_aload_n hx hb dX12_hasten_0 rfl (lv_at hl 0 rfl) ?_
  refine lv_iconst (v := 1) hx hb dX12_hasten_1 (by decide) ?_
  refine va_put (D := (dC, dI)) (ci := 12) (v := .int 1) (ty := .boolean) (C := RX12) (T := TX12) (N := 163) (fs := fM (vS a vi vj)) hx hb hts iwsRX12_hasten_in12 tyX12 tyX12_ok nmX12 hown hK hP hD hS 0 rfl rfl 11 (by decide) (hts _ hm_r_X12_hasten_0) (fun _ h9 => h9) rfl (by decide +kernel) rfl rfl (Nat.le_of_ble_eq_true rfl) dX12_hasten_2 (fun H locs hP hD hS => ?_)
  have hP : va_P (dC, dI) vwCl (WR a k h0 (fT vi 11 1) vj vF vG) H := fz_w (WR_i 11 _ rfl) hP
  have hD : va_D A (WR a k h0 (fT vi 11 1) vj vF vG) := fz_wD (WR_i 11 _ rfl) hD
  refine lv_aload_n hx hb dX12_hasten_5 rfl (lv_at hl 0 rfl) ?_
  refine va_get (D := (dC, dI)) (ci := 12) (v := .int (vi 6)) (C := RX12) (T := TX12) (N := 163) (fs := fM (vS a (fT vi 11 1) vj)) hx hb hts iwsRX12_hasten_in12 hown hK hP 0 rfl rfl 6 (by decide) (hts (.fieldLink RX12 399 "OptimaWorksModel" "rows" "I") (by decide +kernel)) (fun _ h9 => h9) rfl dX12_hasten_6 ?_
  refine lv_topi (fun y1 hy1 => ?_)
  obtain rfl : (nI R) = y1 := (hy1.trans (hR)).symm
  refine lv_aload_n hx hb dX12_hasten_9 rfl (lv_at hl 0 rfl) ?_
  refine va_get (D := (dC, dI)) (ci := 12) (v := .int (vi 7)) (C := RX12) (T := TX12) (N := 163) (fs := fM (vS a (fT vi 11 1) vj)) hx hb hts iwsRX12_hasten_in12 hown hK hP 0 rfl rfl 7 (by decide) (hts (.fieldLink RX12 402 "OptimaWorksModel" "goals" "I") (by decide +kernel)) (fun _ h9 => h9) rfl dX12_hasten_10 ?_
  refine lv_topi (fun y2 hy2 => ?_)
  obtain rfl : (nI Gq) = y2 := (hy2.trans (hG)).symm
  refine lv_iadd hx hb dX12_hasten_13 ?_
  refine lv_topi (fun y3 hy3 => ?_)
  obtain rfl : (nI (R + Gq)) = y3 := (hy3.trans (nI_add R Gq)).symm
  refine lv_aload_n hx hb dX12_hasten_14 rfl (lv_at hl 0 rfl) ?_
  refine va_get (D := (dC, dI)) (ci := 12) (v := .int (vi 5)) (C := RX12) (T := TX12) (N := 163) (fs := fM (vS a (fT vi 11 1) vj)) hx hb hts iwsRX12_hasten_in12 hown hK hP 0 rfl rfl 5 (by decide) (hts (.fieldLink RX12 396 "OptimaWorksModel" "columns" "I") (by decide +kernel)) (fun _ h9 => h9) rfl dX12_hasten_15 ?_
  refine lv_topi (fun y4 hy4 => ?_)
  obtain rfl : (nI C) = y4 := (hy4.trans (hC)).symm
  refine lv_iconst (v := 1) hx hb dX12_hasten_18 (by decide) ?_
  refine lv_iadd hx hb dX12_hasten_19 ?_
  refine lv_topi (fun y5 hy5 => ?_)
  obtain rfl : (nI (C + 1)) = y5 := (hy5.trans (nI_add C 1)).symm
  refine lv_imul hx hb dX12_hasten_20 ?_
  refine lv_topi (fun y6 hy6 => ?_)
  obtain rfl : (nI ((R + Gq) * (C + 1))) = y6 := (hy6.trans (pk_mul (R + Gq) (C + 1))).symm
  refine lv_istore_n hx hb dX12_hasten_21 rfl hl (by decide) rfl (fun ls (hl : lv_has ls _ ([(1, .int (nI ((R + Gq) * (C + 1)))), (0, .ref h0)])) => ?_)
  refine lv_iconst (v := 0) hx hb dX12_hasten_22 (by decide) ?_
  refine lv_istore_n hx hb dX12_hasten_23 rfl hl (by decide) rfl (fun ls (hl : lv_has ls _ ([(2, .int 0), (1, .int (nI ((R + Gq) * (C + 1)))), (0, .ref h0)])) => ?_)
  have e9 : fT vG 7 (vG 7) = vG := by funext q9; by_cases h9_7 : q9 = 7; (subst h9_7; exact (fT_eq _ _ _).trans (Eq.trans (by first | with_reducible rfl | with_reducible assumption | (symm; with_reducible assumption) | rfl | assumption | (symm; assumption) | (subst_vars; rfl)) (Eq.refl _).symm)); exact (fT_ne _ _ h9_7).trans (Eq.refl _).symm
  have hP := wr_PG e9 hP
  have hD := wr_DG e9 hD
  clear e9
  have hl : lv_has _ _ ([(2, .int (nI 0)), (0, .ref h0), (1, .int (nI ((R + Gq) * (C + 1))))]) := lv_sub hl [0, 2, 1] rfl
  refine (fun (loop : ∀ (n9 : Nat) (i : Nat) (qk : Int32) (F : Nat → Int64) (H : Heap) (locs : List Loc) (ls : Array Slot), (i ≤ (R + Gq) * (C + 1)) → ((qk = 1 ∧ ∀ p, p < i → (F p).toInt = mg (30 + p) ∧ -2147483648 < mg (30 + p) ∧ mg (30 + p) < 2147483648) ∨ qk = 0) →  ((R + Gq) * (C + 1) < i + n9) → va_P (dC, dI) vwCl (WR a k h0 (fT vi 11 qk) vj vF (fT vG 7 F)) H → va_D A (WR a k h0 (fT vi 11 qk) vj vF (fT vG 7 F)) → va_S A s.heap H locs → lv_has ls 3 [(2, .int (nI i)), (0, .ref h0), (1, .int (nI ((R + Gq) * (C + 1))))] → W p l e _ s m _ below meth c H locs 0 0 _ (F0 m 24 ls [])) => loop ((R + Gq) * (C + 1) + 1) 0 1 (vG 7) _ _ _ (by omega) (Or.inl ⟨rfl, fun p hp => absurd hp (by omega)⟩) (by omega) hP hD hS hl) ?_
  intro n9
  induction n9 with
  | zero => intro i qk F H locs ls hi hq hf9; exact False.elim (by omega)
  | succ n9 ih24 =>
    intro i qk F H locs ls hi hq hf24 hP hD hS hl
    refine lv_iload_n hx hb dX12_hasten_24 rfl (lv_at hl 0 rfl) ?_
    refine lv_iload_n hx hb dX12_hasten_25 rfl (lv_at hl 2 rfl) ?_
    refine lv_icmp_ge (tgt := 91) hx hb dX12_hasten_26 (by decide) (fun c_26 => ?_) (fun c_26 => ?_)
    · have t_26 : ((i : Nat) : Int) ≥ ((((R + Gq) * (C + 1)) : Nat) : Int) := toI_ge c_26 (nI_toInt (by omega)) (nI_toInt (by omega))
      refine lv_aload_n hx hb dX12_hasten_91 rfl (lv_at hl 1 rfl) ?_
      refine lv_lconst (v := 1) hx hb dX12_hasten_92 (by decide) ?_
      refine va_put (D := (dC, dI)) (ci := 12) (v := .long 1) (ty := .long) (C := RX12) (T := TX12) (N := 163) (fs := fM (vS a (fT vi 11 qk) vj)) hx hb hts iwsRX12_hasten_in12 tyX12 tyX12_ok nmX12 hown hK hP hD hS 0 rfl rfl 12 (by decide) (hts _ hm_r_X12_hasten_1) (fun _ h9 => h9) rfl (by decide +kernel) rfl rfl (Nat.le_of_ble_eq_true rfl) dX12_hasten_93 (fun H locs hP hD hS => ?_)
      have hP : va_P (dC, dI) vwCl (WR a k h0 (fT vi 11 qk) (fT vj 12 1) vF (fT vG 7 F)) H := fz_w (WR_l 12 _ rfl) hP
      have hD : va_D A (WR a k h0 (fT vi 11 qk) (fT vj 12 1) vF (fT vG 7 F)) := fz_wD (WR_l 12 _ rfl) hD
      refine W.widen (k := 0) (n := 0) (by decide +kernel) (by decide +kernel) ?_
      exact W.vret hx hb hr (fun t9_ ht hW => ⟨⟨(qk, F), rfl, by (try dsimp only); rcases hq with ⟨h1, h2⟩ | h1; (exact Or.inr ⟨h1, fun p hp => by (have h3 := h2 p (by omega)); omega, fun i2 hi2 j2 hj2 => by (have h3 := h2 (i2 * (C + 1) + j2) (by (have := pl_lt hi2 hj2); omega)); rw [h3.1, ← Nat.add_assoc]; exact hN.1 i2 hi2 j2 hj2, by decide, by decide⟩); (exact Or.inl ⟨h1, hN⟩), by rw [ht]; exact hP, hD⟩, hS.F ht⟩) hS.2.2 dX12_hasten_96
    · have t_26 : ¬ ((i : Nat) : Int) ≥ ((((R + Gq) * (C + 1)) : Nat) : Int) := toI_nge c_26 (nI_toInt (by omega)) (nI_toInt (by omega))
      refine lv_aload_n hx hb dX12_hasten_29 rfl (lv_at hl 1 rfl) ?_
      refine va_get (D := (dC, dI)) (ci := 12) (v := .int qk) (C := RX12) (T := TX12) (N := 163) (fs := fM (vS a (fT vi 11 qk) vj)) hx hb hts iwsRX12_hasten_in12 hown hK hP 0 rfl rfl 11 (by decide) (hts _ hm_r_X12_hasten_0) (fun _ h9 => h9) rfl dX12_hasten_30 ?_
      refine lv_if_eq (tgt := 91) hx hb dX12_hasten_33 (by decide) (fun c_33 => ?_) (fun c_33 => ?_)
      · have t_33 : (qk).toInt = 0 := toI_eq c_33 rfl (by decide)
        refine lv_aload_n hx hb dX12_hasten_91 rfl (lv_at hl 1 rfl) ?_
        refine lv_lconst (v := 1) hx hb dX12_hasten_92 (by decide) ?_
        refine va_put (D := (dC, dI)) (ci := 12) (v := .long 1) (ty := .long) (C := RX12) (T := TX12) (N := 163) (fs := fM (vS a (fT vi 11 qk) vj)) hx hb hts iwsRX12_hasten_in12 tyX12 tyX12_ok nmX12 hown hK hP hD hS 0 rfl rfl 12 (by decide) (hts _ hm_r_X12_hasten_1) (fun _ h9 => h9) rfl (by decide +kernel) rfl rfl (Nat.le_of_ble_eq_true rfl) dX12_hasten_93 (fun H locs hP hD hS => ?_)
        have hP : va_P (dC, dI) vwCl (WR a k h0 (fT vi 11 qk) (fT vj 12 1) vF (fT vG 7 F)) H := fz_w (WR_l 12 _ rfl) hP
        have hD : va_D A (WR a k h0 (fT vi 11 qk) (fT vj 12 1) vF (fT vG 7 F)) := fz_wD (WR_l 12 _ rfl) hD
        refine W.widen (k := 0) (n := 0) (by decide +kernel) (by decide +kernel) ?_
        exact W.vret hx hb hr (fun t9_ ht hW => ⟨⟨(qk, F), rfl, by (try dsimp only); exact Or.inl ⟨c_33, hN⟩, by rw [ht]; exact hP, hD⟩, hS.F ht⟩) hS.2.2 dX12_hasten_96
      · have t_33 : ¬ (qk).toInt = 0 := toI_neq c_33 rfl (by decide)
        refine lv_aload_n hx hb dX12_hasten_36 rfl (lv_at hl 1 rfl) ?_
        refine va_get (D := (dC, dI)) (ci := 12) (v := .ref (a 7)) (C := RX12) (T := TX12) (N := 163) (fs := fM (vS a (fT vi 11 qk) vj)) hx hb hts iwsRX12_hasten_in12 hown hK hP 0 rfl rfl 13 (by decide) (hts _ hm_r_X12_hasten_2) (fun _ h9 => h9) rfl dX12_hasten_37 ?_
        refine lv_iload_n hx hb dX12_hasten_40 rfl (lv_at hl 0 rfl) ?_
        refine lv_aload_n hx hb dX12_hasten_41 rfl (lv_at hl 1 rfl) ?_
        refine lv_bipush (v := 30) hx hb dX12_hasten_42 (by decide) ?_
        refine lv_iload_n hx hb dX12_hasten_44 rfl (lv_at hl 0 rfl) ?_
        refine lv_iadd hx hb dX12_hasten_45 ?_
        refine lv_topi (fun y7 hy7 => ?_)
        obtain rfl : (nI (30 + i)) = y7 := (hy7.trans (nI_add 30 i)).symm
        have hFc := allFree hD hS hA
        refine va_calll (va_runV (As := [.int (nI (30 + i))]) (rest := [.int (nI i), .ref (a 7)]) ⟨hx, hb, hml, hown, hts⟩ (r_X12_worth l dC dI a k h0 (fT vi 11 qk) vj vF (fT vG 7 F) (30 + i) mg hBg (mg (30 + i)) rfl (by first | with_reducible assumption | decide | omega | rfl | assumption) H.size) (cwV 1 hts gwsRX12_hasten_0 rfl rfl rfl hd_yX12_worth_RX12 (by decide +kernel)) (fz_pre (va_recv hK hP (ci := 12) (q0 := 0) rfl rfl) hP hK hD) rfl rfl hl.1 rfl (lv_room (Nat.le_of_ble_eq_true rfl)) dX12_hasten_46 (by decide +kernel)) hS (fun q _ h => hFc q h) hFc (fun r46 u t9_ H locs ht hvm hw9 hB9 hz1 hk1 hS => ?_)
        have hP : va_P (dC, dI) vwCl (WR a k h0 (fT vi 11 qk) vj vF (fT vG 7 F)) H := fz_P ht hB9.1
        have hD := fz_sd hP (hB9.2.weaken (fun _ q _ h => hFc q.1 h)) rfl
        have f46_0 := hw9
        try dsimp only at f46_0
        refine va_last (cA := k 7) (n := 1000) (f := F) hx hb hK hP hD hS 8 7 (WR_get 7 (by decide)) (TR_get 7 (by decide)) (vp_in_nI (show i < 1000 by omega) (by omega)) dX12_hasten_49 (fun H locs hP hD hS => ?_)
        have e9 : fT vG 7 (vp_updL F ((nI i)).toNatClampNeg r46) = fT (fT vG 7 F) 7 (vp_updL F ((nI i)).toNatClampNeg r46) := (fT_sm _ _ _ _).symm
        have hP := wr_PG e9 (fz_w (WR_G 7 (by decide) _ rfl) hP)
        have hD := wr_DG e9 (fz_wD (WR_G 7 (by decide) _ rfl) hD)
        clear e9
        refine lv_aload_n hx hb dX12_hasten_50 rfl (lv_at hl 1 rfl) ?_
        refine lv_aload_n hx hb dX12_hasten_51 rfl (lv_at hl 1 rfl) ?_
        refine va_get (D := (dC, dI)) (ci := 12) (v := .ref (a 7)) (C := RX12) (T := TX12) (N := 163) (fs := fM (vS a (fT vi 11 qk) vj)) hx hb hts iwsRX12_hasten_in12 hown hK hP 0 rfl rfl 13 (by decide) (hts _ hm_r_X12_hasten_2) (fun _ h9 => h9) rfl dX12_hasten_52 ?_
        refine lv_iload_n hx hb dX12_hasten_55 rfl (lv_at hl 0 rfl) ?_
        refine va_lald (cA := k 7) (n := 1000) (f := (vp_updL F ((nI i)).toNatClampNeg r46)) hx hb hK hP 8 7 (WR_get 7 (by decide)) (TR_get 7 (by decide)) (vp_in_nI (show i < 1000 by omega) (by omega)) dX12_hasten_56 ?_
        refine lv_topl (fun y8 hy8 => ?_)
        obtain rfl : ((vp_updL F ((nI i)).toNatClampNeg r46) i) = y8 := (hy8.trans (by rw [nI_clamp (by omega)])).symm
        refine lv_topl (fun y9 hy9 => ?_)
        obtain rfl : r46 = y9 := (hy9.trans (by rw [updL_at (by omega), if_pos rfl])).symm
        refine lv_ldc2 (v := 2147483648) hx hb hown (hts (.constantLong RX12 422 2147483648) (by decide +kernel)) dX12_hasten_57 ?_
        refine W.lcmp hx hb dX12_hasten_60 ?_
        refine lv_if_ge (tgt := 81) hx hb dX12_hasten_61 (by decide) (fun c_61 => ?_) (fun c_61 => ?_)
        · have t_61 : (r46).toInt ≥ 2147483648 := toL_ge c_61 rfl (by decide)
          refine lv_iconst (v := 0) hx hb dX12_hasten_81 (by decide) ?_
          refine va_put (D := (dC, dI)) (ci := 12) (v := .int 0) (ty := .boolean) (C := RX12) (T := TX12) (N := 163) (fs := fM (vS a (fT vi 11 qk) vj)) hx hb hts iwsRX12_hasten_in12 tyX12 tyX12_ok nmX12 hown hK hP hD hS 0 rfl rfl 11 (by decide) (hts _ hm_r_X12_hasten_0) (fun _ h9 => h9) rfl (by decide +kernel) rfl rfl (Nat.le_of_ble_eq_true rfl) dX12_hasten_82 (fun H locs hP hD hS => ?_)
          have e9 : fT vi 11 0 = fT (fT vi 11 qk) 11 0 := (fT_sm _ _ _ _).symm
          have hP := wr_Pi e9 (fz_w (WR_i 11 _ rfl) hP)
          have hD := wr_Di e9 (fz_wD (WR_i 11 _ rfl) hD)
          clear e9
          refine lv_iinc (v := (nI (i + 1))) hx hb dX12_hasten_85 hl (k := 0) rfl (nI_add i 1) (by decide) rfl (fun ls (hl : lv_has ls _ ([(2, .int (nI (i + 1))), (0, .ref h0), (1, .int (nI ((R + Gq) * (C + 1))))])) => ?_)
          refine lv_goto (tgt := 24) hx hb dX12_hasten_88 (by decide) ?_
          have hl : lv_has _ _ ([(2, .int (nI (i + 1))), (0, .ref h0), (1, .int (nI ((R + Gq) * (C + 1))))]) := lv_sub hl [0, 1, 2] rfl
          exact ih24 (i + 1) 0 (vp_updL F ((nI i)).toNatClampNeg r46) _ _ _ (by omega) (Or.inr rfl) (by omega) hP hD hS hl
        · have t_61 : ¬ (r46).toInt ≥ 2147483648 := toL_nge c_61 rfl (by decide)
          refine lv_aload_n hx hb dX12_hasten_64 rfl (lv_at hl 1 rfl) ?_
          refine va_get (D := (dC, dI)) (ci := 12) (v := .ref (a 7)) (C := RX12) (T := TX12) (N := 163) (fs := fM (vS a (fT vi 11 qk) vj)) hx hb hts iwsRX12_hasten_in12 hown hK hP 0 rfl rfl 13 (by decide) (hts _ hm_r_X12_hasten_2) (fun _ h9 => h9) rfl dX12_hasten_65 ?_
          refine lv_iload_n hx hb dX12_hasten_68 rfl (lv_at hl 0 rfl) ?_
          refine va_lald (cA := k 7) (n := 1000) (f := (vp_updL F ((nI i)).toNatClampNeg r46)) hx hb hK hP 8 7 (WR_get 7 (by decide)) (TR_get 7 (by decide)) (vp_in_nI (show i < 1000 by omega) (by omega)) dX12_hasten_69 ?_
          refine lv_topl (fun y10 hy10 => ?_)
          obtain rfl : ((vp_updL F ((nI i)).toNatClampNeg r46) i) = y10 := (hy10.trans (by rw [nI_clamp (by omega)])).symm
          refine lv_topl (fun y11 hy11 => ?_)
          obtain rfl : r46 = y11 := (hy11.trans (by rw [updL_at (by omega), if_pos rfl])).symm
          refine lv_ldc2 (v := (-2147483648)) hx hb hown (hts (.constantLong RX12 424 (-2147483648)) (by decide +kernel)) dX12_hasten_70 ?_
          refine W.lcmp hx hb dX12_hasten_73 ?_
          refine lv_if_le (tgt := 81) hx hb dX12_hasten_74 (by decide) (fun c_74 => ?_) (fun c_74 => ?_)
          · have t_74 : (r46).toInt ≤ -2147483648 := toL_le c_74 rfl (by decide)
            refine lv_iconst (v := 0) hx hb dX12_hasten_81 (by decide) ?_
            refine va_put (D := (dC, dI)) (ci := 12) (v := .int 0) (ty := .boolean) (C := RX12) (T := TX12) (N := 163) (fs := fM (vS a (fT vi 11 qk) vj)) hx hb hts iwsRX12_hasten_in12 tyX12 tyX12_ok nmX12 hown hK hP hD hS 0 rfl rfl 11 (by decide) (hts _ hm_r_X12_hasten_0) (fun _ h9 => h9) rfl (by decide +kernel) rfl rfl (Nat.le_of_ble_eq_true rfl) dX12_hasten_82 (fun H locs hP hD hS => ?_)
            have e9 : fT vi 11 0 = fT (fT vi 11 qk) 11 0 := (fT_sm _ _ _ _).symm
            have hP := wr_Pi e9 (fz_w (WR_i 11 _ rfl) hP)
            have hD := wr_Di e9 (fz_wD (WR_i 11 _ rfl) hD)
            clear e9
            refine lv_iinc (v := (nI (i + 1))) hx hb dX12_hasten_85 hl (k := 0) rfl (nI_add i 1) (by decide) rfl (fun ls (hl : lv_has ls _ ([(2, .int (nI (i + 1))), (0, .ref h0), (1, .int (nI ((R + Gq) * (C + 1))))])) => ?_)
            refine lv_goto (tgt := 24) hx hb dX12_hasten_88 (by decide) ?_
            have hl : lv_has _ _ ([(2, .int (nI (i + 1))), (0, .ref h0), (1, .int (nI ((R + Gq) * (C + 1))))]) := lv_sub hl [0, 1, 2] rfl
            exact ih24 (i + 1) 0 (vp_updL F ((nI i)).toNatClampNeg r46) _ _ _ (by omega) (Or.inr rfl) (by omega) hP hD hS hl
          · have t_74 : ¬ (r46).toInt ≤ -2147483648 := toL_nle c_74 rfl (by decide)
            refine lv_iconst (v := 1) hx hb dX12_hasten_77 (by decide) ?_
            refine lv_goto (tgt := 82) hx hb dX12_hasten_78 (by decide) ?_
            refine va_put (D := (dC, dI)) (ci := 12) (v := .int 1) (ty := .boolean) (C := RX12) (T := TX12) (N := 163) (fs := fM (vS a (fT vi 11 qk) vj)) hx hb hts iwsRX12_hasten_in12 tyX12 tyX12_ok nmX12 hown hK hP hD hS 0 rfl rfl 11 (by decide) (hts _ hm_r_X12_hasten_0) (fun _ h9 => h9) rfl (by decide +kernel) rfl rfl (Nat.le_of_ble_eq_true rfl) dX12_hasten_82 (fun H locs hP hD hS => ?_)
            have e9 : fT vi 11 1 = fT (fT vi 11 qk) 11 1 := (fT_sm _ _ _ _).symm
            have hP := wr_Pi e9 (fz_w (WR_i 11 _ rfl) hP)
            have hD := wr_Di e9 (fz_wD (WR_i 11 _ rfl) hD)
            clear e9
            refine lv_iinc (v := (nI (i + 1))) hx hb dX12_hasten_85 hl (k := 0) rfl (nI_add i 1) (by decide) rfl (fun ls (hl : lv_has ls _ ([(2, .int (nI (i + 1))), (0, .ref h0), (1, .int (nI ((R + Gq) * (C + 1))))])) => ?_)
            refine lv_goto (tgt := 24) hx hb dX12_hasten_88 (by decide) ?_
            have hl : lv_has _ _ ([(2, .int (nI (i + 1))), (0, .ref h0), (1, .int (nI ((R + Gq) * (C + 1))))]) := lv_sub hl [0, 1, 2] rfl
            exact ih24 (i + 1) 1 (vp_updL F ((nI i)).toNatClampNeg r46) _ _ _ (by omega) (Or.inl ⟨rfl, fun p hp => by rw [updL_at (by omega)]; by_cases e9 : p = i; (rw [if_pos e9, e9]; (have z9 := f46_0); omega); (rw [if_neg e9]; exact (hq.resolve_right (fun h => c_33 h)).2 p (by omega))⟩) (by omega) hP hD hS hl
theorem dX12_spill_0 : decode cX12_spill 0 = .ok (.aload_n 0, 1) := dk_42 (by decide +kernel)
theorem dX12_spill_1 : decode cX12_spill 1 = .ok (.getfield 414, 3) := dk_180 (by decide +kernel)
theorem dX12_spill_4 : decode cX12_spill 4 = .ok (.ifCond .ne 4, 3) := dk_154 (by decide +kernel)
theorem dX12_spill_7 : decode cX12_spill 7 = .ok (.return_, 1) := dk_177 (by decide +kernel)
theorem dX12_spill_8 : decode cX12_spill 8 = .ok (.aload_n 0, 1) := dk_42 (by decide +kernel)
theorem dX12_spill_9 : decode cX12_spill 9 = .ok (.iconst 0, 1) := dk_3 (by decide +kernel)
theorem dX12_spill_10 : decode cX12_spill 10 = .ok (.putfield 414, 3) := dk_181 (by decide +kernel)
theorem dX12_spill_13 : decode cX12_spill 13 = .ok (.aload_n 0, 1) := dk_42 (by decide +kernel)
theorem dX12_spill_14 : decode cX12_spill 14 = .ok (.getfield 399, 3) := dk_180 (by decide +kernel)
theorem dX12_spill_17 : decode cX12_spill 17 = .ok (.aload_n 0, 1) := dk_42 (by decide +kernel)
theorem dX12_spill_18 : decode cX12_spill 18 = .ok (.getfield 402, 3) := dk_180 (by decide +kernel)
theorem dX12_spill_21 : decode cX12_spill 21 = .ok (.iadd, 1) := dk_96 (by decide +kernel)
theorem dX12_spill_22 : decode cX12_spill 22 = .ok (.aload_n 0, 1) := dk_42 (by decide +kernel)
theorem dX12_spill_23 : decode cX12_spill 23 = .ok (.getfield 396, 3) := dk_180 (by decide +kernel)
theorem dX12_spill_26 : decode cX12_spill 26 = .ok (.iconst 1, 1) := dk_4 (by decide +kernel)
theorem dX12_spill_27 : decode cX12_spill 27 = .ok (.iadd, 1) := dk_96 (by decide +kernel)
theorem dX12_spill_28 : decode cX12_spill 28 = .ok (.imul, 1) := dk_104 (by decide +kernel)
theorem dX12_spill_29 : decode cX12_spill 29 = .ok (.istore_n 1, 1) := dk_60 (by decide +kernel)
theorem dX12_spill_30 : decode cX12_spill 30 = .ok (.iconst 0, 1) := dk_3 (by decide +kernel)
theorem dX12_spill_31 : decode cX12_spill 31 = .ok (.istore_n 2, 1) := dk_61 (by decide +kernel)
theorem dX12_spill_32 : decode cX12_spill 32 = .ok (.iload_n 2, 1) := dk_28 (by decide +kernel)
theorem dX12_spill_33 : decode cX12_spill 33 = .ok (.iload_n 1, 1) := dk_27 (by decide +kernel)
theorem dX12_spill_34 : decode cX12_spill 34 = .ok (.if_icmp .ge 23, 3) := dk_162 (by decide +kernel)
theorem dX12_spill_37 : decode cX12_spill 37 = .ok (.aload_n 0, 1) := dk_42 (by decide +kernel)
theorem dX12_spill_38 : decode cX12_spill 38 = .ok (.bipush 30, 2) := dk_16 (by decide +kernel)
theorem dX12_spill_40 : decode cX12_spill 40 = .ok (.iload_n 2, 1) := dk_28 (by decide +kernel)
theorem dX12_spill_41 : decode cX12_spill 41 = .ok (.iadd, 1) := dk_96 (by decide +kernel)
theorem dX12_spill_42 : decode cX12_spill 42 = .ok (.aload_n 0, 1) := dk_42 (by decide +kernel)
theorem dX12_spill_43 : decode cX12_spill 43 = .ok (.getfield 33, 3) := dk_180 (by decide +kernel)
theorem dX12_spill_46 : decode cX12_spill 46 = .ok (.iload_n 2, 1) := dk_28 (by decide +kernel)
theorem dX12_spill_47 : decode cX12_spill 47 = .ok (.laload, 1) := dk_47 (by decide +kernel)
theorem dX12_spill_48 : decode cX12_spill 48 = .ok (.invokevirtual 369, 3) := dk_182 (by decide +kernel)
theorem dX12_spill_51 : decode cX12_spill 51 = .ok (.iinc 2 1, 3) := dk_132 (by decide +kernel)
theorem dX12_spill_54 : decode cX12_spill 54 = .ok (.goto (-22), 3) := dk_167 (by decide +kernel)
theorem dX12_spill_57 : decode cX12_spill 57 = .ok (.aload_n 0, 1) := dk_42 (by decide +kernel)
theorem dX12_spill_58 : decode cX12_spill 58 = .ok (.bipush 20, 2) := dk_16 (by decide +kernel)
theorem dX12_spill_60 : decode cX12_spill 60 = .ok (.aload_n 0, 1) := dk_42 (by decide +kernel)
theorem dX12_spill_61 : decode cX12_spill 61 = .ok (.getfield 426, 3) := dk_180 (by decide +kernel)
theorem dX12_spill_64 : decode cX12_spill 64 = .ok (.invokevirtual 369, 3) := dk_182 (by decide +kernel)
theorem dX12_spill_67 : decode cX12_spill 67 = .ok (.return_, 1) := dk_177 (by decide +kernel)
def wsRX12_spill : List Cond := .code yX12_spill cX12_spill 3 none :: ([.fieldLink RX12 414 "OptimaWorksModel" "quick" "Z", .fieldLink RX12 399 "OptimaWorksModel" "rows" "I", .fieldLink RX12 402 "OptimaWorksModel" "goals" "I", .fieldLink RX12 396 "OptimaWorksModel" "columns" "I", .fieldLink RX12 426 "OptimaWorksModel" "quickDivisor" "J", .fieldLink RX12 33 "OptimaWorksModel" "fast" "[J"] ++ wsX120 ++ (wsV RX12 369 RX12 yX12_put wsRX12_put))
theorem iwsRX12_spill_in12 : ∀ w ∈ wsX120, w ∈ wsRX12_spill := fun _ h => List.mem_cons_of_mem _ (List.mem_append_left _ (List.mem_append_right _ h))
theorem gwsRX12_spill_0 : GoodIn wsRX12_spill (wsV RX12 369 RX12 yX12_put wsRX12_put) := goodIn_sub (fun _ h => List.mem_cons_of_mem _ (List.mem_append_right _ h)) (gdV (by decide +kernel) gdwsRX12_put)
theorem gdwsRX12_spill : wsRX12_spill.all goodWord = true := gdC rfl (gdA (gdA (by decide +kernel : ([.fieldLink RX12 414 "OptimaWorksModel" "quick" "Z", .fieldLink RX12 399 "OptimaWorksModel" "rows" "I", .fieldLink RX12 402 "OptimaWorksModel" "goals" "I", .fieldLink RX12 396 "OptimaWorksModel" "columns" "I", .fieldLink RX12 426 "OptimaWorksModel" "quickDivisor" "J", .fieldLink RX12 33 "OptimaWorksModel" "fast" "[J"] : List Cond).all goodWord = true) gdwsX120) (gdV (by decide +kernel) gdwsRX12_put))
theorem hm_r_X12_spill_0 : (.fieldLink RX12 414 "OptimaWorksModel" "quick" "Z" : Cond) ∈ wsRX12_spill := by decide +kernel
set_option maxHeartbeats 4000000 in
set_option maxRecDepth 100000 in
/-- spill() -/
theorem r_X12_spill (l : Launch) (dC : Nat → ClassId) (dI : Nat → Nat → Nat) (a : Nat → Nat) (k : Nat → ClassId) (h0 : Nat) (vi : Nat → Int32) (vj : Nat → Int64) (vF : Nat → Nat → Int32) (vG : Nat → Nat → Int64) (C : Nat) (R : Nat) (Gq : Nat) (t : Nat → Nat → Int) (D : Int) (mg : Nat → Int) (hBg : Bg (vF 0) mg) (hC : vi 5 = nI C) (hR : vi 6 = nI R) (hG : vi 7 = nI Gq) (hC45 : 0 < C ∧ C ≤ 45) (hT60 : R + Gq < 60) (hsz : (R + Gq) * (C + 1) ≤ 970) (hT : Tab (vi 11) C (R + Gq) mg (vG 7) (vj 12) t D) (hDp : 0 < D) (sz : Nat) : Met l yX12_spill wsRX12_spill ({ frames := 1, cells := 0, slots := 0, locals := 27 }) (va_Pc [.ref h0] (fun U => U.heap.size = sz ∧ va_P (dC, dI) vwCl (WR a k h0 vi vj vF vG) U.heap ∧ va_K (dC, dI) vwCl (tX12 k) U ∧ va_D (fun _ => True) (WR a k h0 vi vj vF vG))) (va_Qv (fun (u : (Nat → Int32) × (Nat → Int)) => (Bg (u.1) (u.2)) ∧ (TabN C (R + Gq) (u.2) t D) ∧ (∀ q, q ≠ 20 → (q < 30 ∨ 30 + (R + Gq) * (C + 1) ≤ q) → (u.2) q = mg q)) (fun (u : (Nat → Int32) × (Nat → Int)) t => va_P (dC, dI) vwCl (WR a k h0 (fT vi 11 0) vj (fT vF 0 (u.1)) vG) t.heap ∧ va_D (va_A (WR a k h0 vi vj vF vG) sz) (WR a k h0 (fT vi 11 0) vj (fT vF 0 (u.1)) vG)) (va_A (WR a k h0 vi vj vF vG) sz)) 0 0 (va_A (WR a k h0 vi vj vF vG) sz) := by
  refine Met.ofW (cc := cX12_spill) (maxL := 3) (ret := none) (by decide) rfl ?_
  intro p e s m args below meth c s₁ B hml hv
  obtain ⟨rfl, hsz, hP, hK, hD0⟩ := hv
  have hx := B.exec
  have hb := B.bytes
  have hr := B.returns
  have hts := atoms_spec (ws := wsRX12_spill) B.pre
  have hown : s.vm.findClass RX12 = some m.cls := findClass_of_methodNamed B.named
  have hlocks := B.notSynchronized
  subst hsz
  have hD := hD0.self (sz := s.heap.size)
  generalize hAe : va_A (WR a k h0 vi vj vF vG) s.heap.size = A at hD ⊢
  have hA : ∀ q : Nat, s.heap.size ≤ q → A q := fun q h => by rw [← hAe]; exact Or.inr h
  have hS : va_S A s.heap s.heap [] := va_S.rf
  have hl := lv_entry ([.ref h0]) (n := 3) (Nat.le_of_ble_eq_true rfl)
  rw [lg_entry_eq]
  generalize (lg_sl ([.ref h0]) ++ List.replicate (3 - (lg_sl ([.ref h0])).length) Slot.unset).toArray = ls at hl ⊢
  have hl : lv_has ls 3 [(0, .ref h0)] := hl
  refine lv_aload_n hx hb dX12_spill_0 rfl (lv_at hl 0 rfl) ?_
  refine va_get (D := (dC, dI)) (ci := 12) (v := .int (vi 11)) (C := RX12) (T := TX12) (N := 163) (fs := fM (vS a vi vj)) hx hb hts iwsRX12_spill_in12 hown hK hP 0 rfl rfl 11 (by decide) (hts _ hm_r_X12_spill_0) (fun _ h9 => h9) rfl dX12_spill_1 ?_
  refine lv_if_ne (tgt := 8) hx hb dX12_spill_4 (by decide) (fun c_4 => ?_) (fun c_4 => ?_)
  · have t_4 : ((vi 11)).toInt ≠ 0 := toI_ne c_4 rfl (by decide)
    have hQ := (hT.q c_4).2
    refine lv_aload_n hx hb dX12_spill_8 rfl (lv_at hl 0 rfl) ?_
    refine lv_iconst (v := 0) hx hb dX12_spill_9 (by decide) ?_
    refine va_put (D := (dC, dI)) (ci := 12) (v := .int 0) (ty := .boolean) (C := RX12) (T := TX12) (N := 163) (fs := fM (vS a vi vj)) hx hb hts iwsRX12_spill_in12 tyX12 tyX12_ok nmX12 hown hK hP hD hS 0 rfl rfl 11 (by decide) (hts _ hm_r_X12_spill_0) (fun _ h9 => h9) rfl (by decide +kernel) rfl rfl (Nat.le_of_ble_eq_true rfl) dX12_spill_10 (fun H locs hP hD hS => ?_)
    have hP : va_P (dC, dI) vwCl (WR a k h0 (fT vi 11 0) vj vF vG) H := fz_w (WR_i 11 _ rfl) hP
    have hD : va_D A (WR a k h0 (fT vi 11 0) vj vF vG) := fz_wD (WR_i 11 _ rfl) hD
    refine lv_aload_n hx hb dX12_spill_13 rfl (lv_at hl 0 rfl) ?_
    refine va_get (D := (dC, dI)) (ci := 12) (v := .int (vi 6)) (C := RX12) (T := TX12) (N := 163) (fs := fM (vS a (fT vi 11 0) vj)) hx hb hts iwsRX12_spill_in12 hown hK hP 0 rfl rfl 6 (by decide) (hts (.fieldLink RX12 399 "OptimaWorksModel" "rows" "I") (by decide +kernel)) (fun _ h9 => h9) rfl dX12_spill_14 ?_
    refine lv_topi (fun y1 hy1 => ?_)
    obtain rfl : (nI R) = y1 := (hy1.trans (hR)).symm
    refine lv_aload_n hx hb dX12_spill_17 rfl (lv_at hl 0 rfl) ?_
    refine va_get (D := (dC, dI)) (ci := 12) (v := .int (vi 7)) (C := RX12) (T := TX12) (N := 163) (fs := fM (vS a (fT vi 11 0) vj)) hx hb hts iwsRX12_spill_in12 hown hK hP 0 rfl rfl 7 (by decide) (hts (.fieldLink RX12 402 "OptimaWorksModel" "goals" "I") (by decide +kernel)) (fun _ h9 => h9) rfl dX12_spill_18 ?_
    refine lv_topi (fun y2 hy2 => ?_)
    obtain rfl : (nI Gq) = y2 := (hy2.trans (hG)).symm
    refine lv_iadd hx hb dX12_spill_21 ?_
    refine lv_topi (fun y3 hy3 => ?_)
    obtain rfl : (nI (R + Gq)) = y3 := (hy3.trans (nI_add R Gq)).symm
    refine lv_aload_n hx hb dX12_spill_22 rfl (lv_at hl 0 rfl) ?_
    refine va_get (D := (dC, dI)) (ci := 12) (v := .int (vi 5)) (C := RX12) (T := TX12) (N := 163) (fs := fM (vS a (fT vi 11 0) vj)) hx hb hts iwsRX12_spill_in12 hown hK hP 0 rfl rfl 5 (by decide) (hts (.fieldLink RX12 396 "OptimaWorksModel" "columns" "I") (by decide +kernel)) (fun _ h9 => h9) rfl dX12_spill_23 ?_
    refine lv_topi (fun y4 hy4 => ?_)
    obtain rfl : (nI C) = y4 := (hy4.trans (hC)).symm
    refine lv_iconst (v := 1) hx hb dX12_spill_26 (by decide) ?_
    refine lv_iadd hx hb dX12_spill_27 ?_
    refine lv_topi (fun y5 hy5 => ?_)
    obtain rfl : (nI (C + 1)) = y5 := (hy5.trans (nI_add C 1)).symm
    refine lv_imul hx hb dX12_spill_28 ?_
    refine lv_topi (fun y6 hy6 => ?_)
    obtain rfl : (nI ((R + Gq) * (C + 1))) = y6 := (hy6.trans (pk_mul (R + Gq) (C + 1))).symm
    refine lv_istore_n hx hb dX12_spill_29 rfl hl (by decide) rfl (fun ls (hl : lv_has ls _ ([(1, .int (nI ((R + Gq) * (C + 1)))), (0, .ref h0)])) => ?_)
    refine lv_iconst (v := 0) hx hb dX12_spill_30 (by decide) ?_
    refine lv_istore_n hx hb dX12_spill_31 rfl hl (by decide) rfl (fun ls (hl : lv_has ls _ ([(2, .int 0), (1, .int (nI ((R + Gq) * (C + 1)))), (0, .ref h0)])) => ?_)
    have e9 : fT vF 0 (vF 0) = vF := by funext q9; by_cases h9_0 : q9 = 0; (subst h9_0; exact (fT_eq _ _ _).trans (Eq.trans (by first | with_reducible rfl | with_reducible assumption | (symm; with_reducible assumption) | rfl | assumption | (symm; assumption) | (subst_vars; rfl)) (Eq.refl _).symm)); exact (fT_ne _ _ h9_0).trans (Eq.refl _).symm
    have hP := wr_PF e9 hP
    have hD := wr_DF e9 hD
    clear e9
    have hl : lv_has _ _ ([(2, .int (nI 0)), (0, .ref h0), (1, .int (nI ((R + Gq) * (C + 1))))]) := lv_sub hl [0, 2, 1] rfl
    refine (fun (loop : ∀ (n9 : Nat) (i : Nat) (g : Nat → Int32) (m1 : Nat → Int) (H : Heap) (locs : List Loc) (ls : Array Slot), (Bg g m1) → (i ≤ (R + Gq) * (C + 1)) → (∀ p, p < i → m1 (30 + p) = (vG 7 p).toInt) → (∀ q, (q < 30 ∨ 30 + i ≤ q) → m1 q = mg q) →  ((R + Gq) * (C + 1) < i + n9) → va_P (dC, dI) vwCl (WR a k h0 (fT vi 11 0) vj (fT vF 0 g) vG) H → va_D A (WR a k h0 (fT vi 11 0) vj (fT vF 0 g) vG) → va_S A s.heap H locs → lv_has ls 3 [(2, .int (nI i)), (0, .ref h0), (1, .int (nI ((R + Gq) * (C + 1))))] → W p l e _ s m _ below meth c H locs 0 0 _ (F0 m 32 ls [])) => loop ((R + Gq) * (C + 1) + 1) 0 (vF 0) mg _ _ _ (hBg) (by omega) (fun p hp => absurd hp (by omega)) (fun q hq => rfl) (by omega) hP hD hS hl) ?_
    intro n9
    induction n9 with
    | zero => intro i g m1 H locs ls hB1 hi hz ho hf9; exact False.elim (by omega)
    | succ n9 ih32 =>
      intro i g m1 H locs ls hB1 hi hz ho hf32 hP hD hS hl
      refine lv_iload_n hx hb dX12_spill_32 rfl (lv_at hl 0 rfl) ?_
      refine lv_iload_n hx hb dX12_spill_33 rfl (lv_at hl 2 rfl) ?_
      refine lv_icmp_ge (tgt := 57) hx hb dX12_spill_34 (by decide) (fun c_34 => ?_) (fun c_34 => ?_)
      · have t_34 : ((i : Nat) : Int) ≥ ((((R + Gq) * (C + 1)) : Nat) : Int) := toI_ge c_34 (nI_toInt (by omega)) (nI_toInt (by omega))
        refine lv_aload_n hx hb dX12_spill_57 rfl (lv_at hl 1 rfl) ?_
        refine lv_bipush (v := 20) hx hb dX12_spill_58 (by decide) ?_
        refine lv_aload_n hx hb dX12_spill_60 rfl (lv_at hl 1 rfl) ?_
        refine va_get (D := (dC, dI)) (ci := 12) (v := .long (vj 12)) (C := RX12) (T := TX12) (N := 163) (fs := fM (vS a (fT vi 11 0) vj)) hx hb hts iwsRX12_spill_in12 hown hK hP 0 rfl rfl 12 (by decide) (hts (.fieldLink RX12 426 "OptimaWorksModel" "quickDivisor" "J") (by decide +kernel)) (fun _ h9 => h9) rfl dX12_spill_61 ?_
        have hFc := allFree hD hS hA
        refine va_callv (va_runV (As := [.int 20, .long (vj 12)]) (rest := []) ⟨hx, hb, hml, hown, hts⟩ (b_X12_put l dC dI a k h0 (fT vi 11 0) vj (fT vF 0 g) vG 20 (vj 12) (((vj 12)).toInt) m1 hB1 (by first | with_reducible assumption | decide | omega | rfl | assumption) rfl (by (have h9 := hQ.2.2.1); show -9223372036854775808 < (vj 12).toInt; (have hD9 := hDp); omega) H.size) (cwV 2 hts gwsRX12_spill_0 rfl rfl rfl hd_yX12_put_RX12 (by decide +kernel)) (fz_pre (va_recv hK hP (ci := 12) (q0 := 0) rfl rfl) hP hK hD) rfl rfl hl.1 rfl (lv_room (Nat.le_of_ble_eq_true rfl)) dX12_spill_64 (by decide +kernel)) hS (fun q _ h => hFc q h) hFc (fun g64 t9_ H locs ht hvm hw9 hB9 hz1 hk1 hS => ?_)
        have e9F : fT vF 0 g64 = fT (fT vF 0 g) 0 g64 := (fT_sm _ _ _ _).symm
        have hP := wr_PF e9F (fz_P ht hB9.1)
        have hD := wr_DF e9F (hB9.2.weaken (fun _ q _ h => hFc q.1 h))
        clear e9F
        have f64_0 := hw9
        try dsimp only at f64_0
        refine W.widen (k := 0) (n := 0) (by decide +kernel) (by decide +kernel) ?_
        exact W.vret hx hb hr (fun t9_ ht hW => ⟨⟨(g64, (fT m1 20 (((vj 12)).toInt))), rfl, by (try dsimp only); exact ⟨f64_0, ⟨fun i2 hi2 j2 hj2 => by (have h9 := pl_lt hi2 hj2); rw [fT_ne _ _ (by omega), Nat.add_assoc, hz _ (by omega)]; exact hQ.2.1 i2 hi2 j2 hj2, by rw [fT_eq]; exact hQ.2.2.1⟩, fun q h1 h2 => by rw [fT_ne _ _ h1]; exact ho q (by omega)⟩, by rw [ht]; exact hP, hD⟩, hS.F ht⟩) hS.2.2 dX12_spill_67
      · have t_34 : ¬ ((i : Nat) : Int) ≥ ((((R + Gq) * (C + 1)) : Nat) : Int) := toI_nge c_34 (nI_toInt (by omega)) (nI_toInt (by omega))
        refine lv_aload_n hx hb dX12_spill_37 rfl (lv_at hl 1 rfl) ?_
        refine lv_bipush (v := 30) hx hb dX12_spill_38 (by decide) ?_
        refine lv_iload_n hx hb dX12_spill_40 rfl (lv_at hl 0 rfl) ?_
        refine lv_iadd hx hb dX12_spill_41 ?_
        refine lv_topi (fun y7 hy7 => ?_)
        obtain rfl : (nI (30 + i)) = y7 := (hy7.trans (nI_add 30 i)).symm
        refine lv_aload_n hx hb dX12_spill_42 rfl (lv_at hl 1 rfl) ?_
        refine va_get (D := (dC, dI)) (ci := 12) (v := .ref (a 7)) (C := RX12) (T := TX12) (N := 163) (fs := fM (vS a (fT vi 11 0) vj)) hx hb hts iwsRX12_spill_in12 hown hK hP 0 rfl rfl 13 (by decide) (hts (.fieldLink RX12 33 "OptimaWorksModel" "fast" "[J") (by decide +kernel)) (fun _ h9 => h9) rfl dX12_spill_43 ?_
        refine lv_iload_n hx hb dX12_spill_46 rfl (lv_at hl 0 rfl) ?_
        refine va_lald (cA := k 7) (n := 1000) (f := (vG 7)) hx hb hK hP 8 7 (WR_get 7 (by decide)) (TR_get 7 (by decide)) (vp_in_nI (show i < 1000 by omega) (by omega)) dX12_spill_47 ?_
        refine lv_topl (fun y8 hy8 => ?_)
        obtain rfl : ((vG 7) i) = y8 := (hy8.trans (by rw [nI_clamp (by omega)])).symm
        have hFc := allFree hD hS hA
        refine va_callv (va_runV (As := [.int (nI (30 + i)), .long ((vG 7) i)]) (rest := []) ⟨hx, hb, hml, hown, hts⟩ (b_X12_put l dC dI a k h0 (fT vi 11 0) vj (fT vF 0 g) vG (30 + i) ((vG 7) i) ((((vG 7) i)).toInt) m1 hB1 (by first | with_reducible assumption | decide | omega | rfl | assumption) rfl (by (have h9 := hQ.1 i (by omega)); show -9223372036854775808 < (vG 7 i).toInt; omega) H.size) (cwV 2 hts gwsRX12_spill_0 rfl rfl rfl hd_yX12_put_RX12 (by decide +kernel)) (fz_pre (va_recv hK hP (ci := 12) (q0 := 0) rfl rfl) hP hK hD) rfl rfl hl.1 rfl (lv_room (Nat.le_of_ble_eq_true rfl)) dX12_spill_48 (by decide +kernel)) hS (fun q _ h => hFc q h) hFc (fun g48 t9_ H locs ht hvm hw9 hB9 hz1 hk1 hS => ?_)
        have e9F : fT vF 0 g48 = fT (fT vF 0 g) 0 g48 := (fT_sm _ _ _ _).symm
        have hP := wr_PF e9F (fz_P ht hB9.1)
        have hD := wr_DF e9F (hB9.2.weaken (fun _ q _ h => hFc q.1 h))
        clear e9F
        have f48_0 := hw9
        try dsimp only at f48_0
        refine lv_iinc (v := (nI (i + 1))) hx hb dX12_spill_51 hl (k := 0) rfl (nI_add i 1) (by decide) rfl (fun ls (hl : lv_has ls _ ([(2, .int (nI (i + 1))), (0, .ref h0), (1, .int (nI ((R + Gq) * (C + 1))))])) => ?_)
        refine lv_goto (tgt := 32) hx hb dX12_spill_54 (by decide) ?_
        have hl : lv_has _ _ ([(2, .int (nI (i + 1))), (0, .ref h0), (1, .int (nI ((R + Gq) * (C + 1))))]) := lv_sub hl [0, 1, 2] rfl
        exact ih32 (i + 1) g48 (fT m1 (30 + i) ((((vG 7) i)).toInt)) _ _ _ (f48_0) (by omega) (fun p hp => by by_cases e9 : p = i; (rw [e9, fT_eq]); (rw [fT_ne _ _ (by omega)]; exact hz p (by omega))) (fun q hq => by (rw [fT_ne _ _ (by omega)]); exact ho q (by omega)) (by omega) hP hD hS hl
  · have t_4 : ((vi 11)).toInt = 0 := toI_nne c_4 rfl (by decide)
    refine W.widen (k := 0) (n := 0) (by decide +kernel) (by decide +kernel) ?_
    have e9 : fT vi 11 0 = vi := by funext q9; by_cases h9_11 : q9 = 11; (subst h9_11; exact (fT_eq _ _ _).trans (Eq.trans (by first | with_reducible rfl | with_reducible assumption | (symm; with_reducible assumption) | rfl | assumption | (symm; assumption) | (subst_vars; rfl)) (Eq.refl _).symm)); exact (fT_ne _ _ h9_11).trans (Eq.refl _).symm
    have hP := wr_Pi e9 hP
    have hD := wr_Di e9 hD
    clear e9
    have e9 : fT vF 0 (vF 0) = vF := fT_id _ _ (rfl)
    have hP := wr_PF e9 hP
    have hD := wr_DF e9 hD
    clear e9
    exact W.vret hx hb hr (fun t9_ ht hW => ⟨⟨((vF 0), mg), rfl, by (try dsimp only); exact ⟨hBg, hT.n c_4, fun q h1 h2 => rfl⟩, by rw [ht]; exact hP, hD⟩, hS.F ht⟩) hS.2.2 dX12_spill_7
end
section
theorem if_congr {α : Type} {b c : Prop} [Decidable b] [Decidable c] {x y u v : α} (hc : b ↔ c) (ht : x = u) (he : y = v) : (if b then x else y) = (if c then u else v) := by
  by_cases h : b
  · rw [if_pos h, if_pos (hc.mp h)]; exact ht
  · rw [if_neg h, if_neg (fun h2 => h (hc.mpr h2))]; exact he
def sgI (x : Int) : Int := if x < 0 then -1 else 1
theorem sgI_or (x : Int) : sgI x = 1 ∨ sgI x = -1 := by unfold sgI; split <;> simp
theorem sgI_pos {x : Int} (h : x ≠ 0) : 0 < sgI x * x := by unfold sgI; split <;> omega
theorem sgI_n {x : Int} (h : x < 0) : sgI x = -1 := if_pos h
theorem sgI_p {x : Int} (h : ¬ x < 0) : sgI x = 1 := if_neg h
theorem nv_in (r c : Nat) (g : Int) (t : Nat → Nat → Int) (D : Int) {i j : Nat} (hi : i ≠ r) (hj : j ≠ c) : nvT r c g t D i j = g * ((t i j * t r c + -1 * (t i c * t r j)).tdiv D) := by
  unfold nvT; rw [if_neg hi, if_neg hj]; congr 2; omega
theorem nv_col (r c : Nat) (g : Int) (t : Nat → Nat → Int) (D : Int) {i : Nat} (hi : i ≠ r) : nvT r c g t D i c = -(g * t i c) := by
  unfold nvT; rw [if_neg hi, if_pos rfl]
theorem nv_row (r c : Nat) (g : Int) (t : Nat → Nat → Int) (D : Int) {j : Nat} (hj : j ≠ c) : nvT r c g t D r j = g * t r j := by
  unfold nvT; rw [if_pos rfl, if_neg hj]
theorem nv_piv (r c : Nat) (g : Int) (t : Nat → Nat → Int) (D : Int) : nvT r c g t D r c = g * D := by
  unfold nvT; rw [if_pos rfl, if_pos rfl]
theorem div64 {x y : Int64} (hx : -9223372036854775808 < x.toInt) (hy : 0 < y.toInt) : (x / y).toInt = x.toInt.tdiv y.toInt ∧ -9223372036854775808 < (x / y).toInt := by
  have h1 : (x.toInt.tdiv y.toInt).natAbs ≤ x.toInt.natAbs := by rw [Int.natAbs_tdiv]; exact Nat.div_le_self _ _
  have h2 := Int64.toInt_lt x
  have h3 : (x / y).toInt = x.toInt.tdiv y.toInt := by
    rw [Int64.toInt_div]; exact Int.bmod_eq_of_le (by omega) (by omega)
  exact ⟨h3, by rw [h3]; omega⟩
theorem one64 (x : Int64) : ((1 : Int64) * x).toInt = x.toInt := by rw [Int64.one_mul]
theorem mone64 {x : Int64} (hx : -9223372036854775808 < x.toInt) : ((-1 : Int64) * x).toInt = -x.toInt := by
  have h2 := Int64.toInt_lt x
  rw [show ((-1 : Int64) * x) = -x from by rw [Int64.neg_mul, Int64.one_mul], Int64.toInt_neg]
  exact Int.bmod_eq_of_le (by omega) (by omega)
theorem sub64 {x y : Int64} (hx : -4611686018427387904 ≤ x.toInt ∧ x.toInt ≤ 4611686018427387903) (hy : -4611686018427387903 ≤ y.toInt ∧ y.toInt ≤ 4611686018427387904) : (x - y).toInt = x.toInt - y.toInt := by
  rw [Int64.toInt_sub]; exact Int.bmod_eq_of_le (by omega) (by omega)
theorem ne0_64 {x : Int64} (h : 0 < x.toInt) : ¬ x = 0 := fun e => by rw [e] at h; exact absurd h (by decide)
theorem add_bd {x y : Int} (hx : x.natAbs < 2 ^ 588) (hy : y.natAbs < 2 ^ 588) {h : Int} (hh : h = 1 ∨ h = -1) : (x + h * y).natAbs < 2 ^ 616 := by
  have h1 : (x + h * y).natAbs ≤ x.natAbs + y.natAbs := by rcases hh with e | e <;> rw [e] <;> omega
  have h2 : (2 : Nat) ^ 588 + 2 ^ 588 ≤ 2 ^ 616 := by rw [← Nat.two_mul, Nat.mul_comm, ← Nat.pow_succ]; exact Nat.pow_le_pow_right (by decide) (by decide)
  omega
theorem mulabs_bd {x y : Int} {k : Nat} (hx : x.natAbs < 2 ^ k) (hy : y.natAbs < 2 ^ k) (h : k ≤ 294) : (x * y).natAbs < 2 ^ 588 := by rw [Int.natAbs_mul]; exact mul_bd hx hy h
end
section
theorem hd_yX12_exchange_RX12 : yX12_exchange.cls = RX12 ∧ yX12_exchange.cls ≠ "java/lang/invoke/MethodHandle" ∧ yX12_exchange.cls ≠ "java/lang/invoke/VarHandle" ∧ (parseMethodDescriptor yX12_exchange.desc).map (fun d => d.parameters.length) = some 2 := by decide +kernel
theorem dX12_pivotsQuick_0 : decode cX12_pivotsQuick 0 = .ok (.aload_n 0, 1) := dk_42 (by decide +kernel)
theorem dX12_pivotsQuick_1 : decode cX12_pivotsQuick 1 = .ok (.getfield 33, 3) := dk_180 (by decide +kernel)
theorem dX12_pivotsQuick_4 : decode cX12_pivotsQuick 4 = .ok (.aload_n 0, 1) := dk_42 (by decide +kernel)
theorem dX12_pivotsQuick_5 : decode cX12_pivotsQuick 5 = .ok (.iload_n 1, 1) := dk_27 (by decide +kernel)
theorem dX12_pivotsQuick_6 : decode cX12_pivotsQuick 6 = .ok (.iload_n 2, 1) := dk_28 (by decide +kernel)
theorem dX12_pivotsQuick_7 : decode cX12_pivotsQuick 7 = .ok (.invokevirtual 430, 3) := dk_182 (by decide +kernel)
theorem dX12_pivotsQuick_10 : decode cX12_pivotsQuick 10 = .ok (.laload, 1) := dk_47 (by decide +kernel)
theorem dX12_pivotsQuick_11 : decode cX12_pivotsQuick 11 = .ok (.lstore_n 3, 1) := dk_66 (by decide +kernel)
theorem dX12_pivotsQuick_12 : decode cX12_pivotsQuick 12 = .ok (.lload_n 3, 1) := dk_33 (by decide +kernel)
theorem dX12_pivotsQuick_13 : decode cX12_pivotsQuick 13 = .ok (.lconst 0, 1) := dk_9 (by decide +kernel)
theorem dX12_pivotsQuick_14 : decode cX12_pivotsQuick 14 = .ok (.lcmp, 1) := dk_148 (by decide +kernel)
theorem dX12_pivotsQuick_15 : decode cX12_pivotsQuick 15 = .ok (.ifCond .ge 7, 3) := dk_156 (by decide +kernel)
theorem dX12_pivotsQuick_18 : decode cX12_pivotsQuick 18 = .ok (.iconst (-1), 1) := dk_2 (by decide +kernel)
theorem dX12_pivotsQuick_19 : decode cX12_pivotsQuick 19 = .ok (.goto 4, 3) := dk_167 (by decide +kernel)
theorem dX12_pivotsQuick_22 : decode cX12_pivotsQuick 22 = .ok (.iconst 1, 1) := dk_4 (by decide +kernel)
theorem dX12_pivotsQuick_23 : decode cX12_pivotsQuick 23 = .ok (.istore 5, 2) := dk_54 (by decide +kernel)
theorem dX12_pivotsQuick_25 : decode cX12_pivotsQuick 25 = .ok (.iconst 0, 1) := dk_3 (by decide +kernel)
theorem dX12_pivotsQuick_26 : decode cX12_pivotsQuick 26 = .ok (.istore 6, 2) := dk_54 (by decide +kernel)
theorem dX12_pivotsQuick_28 : decode cX12_pivotsQuick 28 = .ok (.iload 6, 2) := dk_21 (by decide +kernel)
theorem dX12_pivotsQuick_30 : decode cX12_pivotsQuick 30 = .ok (.aload_n 0, 1) := dk_42 (by decide +kernel)
theorem dX12_pivotsQuick_31 : decode cX12_pivotsQuick 31 = .ok (.getfield 399, 3) := dk_180 (by decide +kernel)
theorem dX12_pivotsQuick_34 : decode cX12_pivotsQuick 34 = .ok (.aload_n 0, 1) := dk_42 (by decide +kernel)
theorem dX12_pivotsQuick_35 : decode cX12_pivotsQuick 35 = .ok (.getfield 402, 3) := dk_180 (by decide +kernel)
theorem dX12_pivotsQuick_38 : decode cX12_pivotsQuick 38 = .ok (.iadd, 1) := dk_96 (by decide +kernel)
theorem dX12_pivotsQuick_39 : decode cX12_pivotsQuick 39 = .ok (.if_icmp .ge 166, 3) := dk_162 (by decide +kernel)
theorem dX12_pivotsQuick_42 : decode cX12_pivotsQuick 42 = .ok (.iconst 0, 1) := dk_3 (by decide +kernel)
theorem dX12_pivotsQuick_43 : decode cX12_pivotsQuick 43 = .ok (.istore 7, 2) := dk_54 (by decide +kernel)
theorem dX12_pivotsQuick_45 : decode cX12_pivotsQuick 45 = .ok (.iload 7, 2) := dk_21 (by decide +kernel)
theorem dX12_pivotsQuick_47 : decode cX12_pivotsQuick 47 = .ok (.aload_n 0, 1) := dk_42 (by decide +kernel)
theorem dX12_pivotsQuick_48 : decode cX12_pivotsQuick 48 = .ok (.getfield 396, 3) := dk_180 (by decide +kernel)
theorem dX12_pivotsQuick_51 : decode cX12_pivotsQuick 51 = .ok (.if_icmp .gt 148, 3) := dk_163 (by decide +kernel)
theorem dX12_pivotsQuick_54 : decode cX12_pivotsQuick 54 = .ok (.aload_n 0, 1) := dk_42 (by decide +kernel)
theorem dX12_pivotsQuick_55 : decode cX12_pivotsQuick 55 = .ok (.getfield 33, 3) := dk_180 (by decide +kernel)
theorem dX12_pivotsQuick_58 : decode cX12_pivotsQuick 58 = .ok (.aload_n 0, 1) := dk_42 (by decide +kernel)
theorem dX12_pivotsQuick_59 : decode cX12_pivotsQuick 59 = .ok (.iload 6, 2) := dk_21 (by decide +kernel)
theorem dX12_pivotsQuick_61 : decode cX12_pivotsQuick 61 = .ok (.iload 7, 2) := dk_21 (by decide +kernel)
theorem dX12_pivotsQuick_63 : decode cX12_pivotsQuick 63 = .ok (.invokevirtual 430, 3) := dk_182 (by decide +kernel)
theorem dX12_pivotsQuick_66 : decode cX12_pivotsQuick 66 = .ok (.laload, 1) := dk_47 (by decide +kernel)
theorem dX12_pivotsQuick_67 : decode cX12_pivotsQuick 67 = .ok (.lstore 8, 2) := dk_55 (by decide +kernel)
theorem dX12_pivotsQuick_69 : decode cX12_pivotsQuick 69 = .ok (.iload 6, 2) := dk_21 (by decide +kernel)
theorem dX12_pivotsQuick_71 : decode cX12_pivotsQuick 71 = .ok (.iload_n 1, 1) := dk_27 (by decide +kernel)
theorem dX12_pivotsQuick_72 : decode cX12_pivotsQuick 72 = .ok (.if_icmp .ne 29, 3) := dk_160 (by decide +kernel)
theorem dX12_pivotsQuick_75 : decode cX12_pivotsQuick 75 = .ok (.iload 7, 2) := dk_21 (by decide +kernel)
theorem dX12_pivotsQuick_77 : decode cX12_pivotsQuick 77 = .ok (.iload_n 2, 1) := dk_28 (by decide +kernel)
theorem dX12_pivotsQuick_78 : decode cX12_pivotsQuick 78 = .ok (.if_icmp .ne 14, 3) := dk_160 (by decide +kernel)
theorem dX12_pivotsQuick_81 : decode cX12_pivotsQuick 81 = .ok (.iload 5, 2) := dk_21 (by decide +kernel)
theorem dX12_pivotsQuick_83 : decode cX12_pivotsQuick 83 = .ok (.i2l, 1) := dk_133 (by decide +kernel)
theorem dX12_pivotsQuick_84 : decode cX12_pivotsQuick 84 = .ok (.aload_n 0, 1) := dk_42 (by decide +kernel)
theorem dX12_pivotsQuick_85 : decode cX12_pivotsQuick 85 = .ok (.getfield 426, 3) := dk_180 (by decide +kernel)
theorem dX12_pivotsQuick_88 : decode cX12_pivotsQuick 88 = .ok (.lmul, 1) := dk_105 (by decide +kernel)
theorem dX12_pivotsQuick_89 : decode cX12_pivotsQuick 89 = .ok (.goto 67, 3) := dk_167 (by decide +kernel)
theorem dX12_pivotsQuick_92 : decode cX12_pivotsQuick 92 = .ok (.iload 5, 2) := dk_21 (by decide +kernel)
theorem dX12_pivotsQuick_94 : decode cX12_pivotsQuick 94 = .ok (.i2l, 1) := dk_133 (by decide +kernel)
theorem dX12_pivotsQuick_95 : decode cX12_pivotsQuick 95 = .ok (.lload 8, 2) := dk_22 (by decide +kernel)
theorem dX12_pivotsQuick_97 : decode cX12_pivotsQuick 97 = .ok (.lmul, 1) := dk_105 (by decide +kernel)
theorem dX12_pivotsQuick_98 : decode cX12_pivotsQuick 98 = .ok (.goto 58, 3) := dk_167 (by decide +kernel)
theorem dX12_pivotsQuick_101 : decode cX12_pivotsQuick 101 = .ok (.iload 7, 2) := dk_21 (by decide +kernel)
theorem dX12_pivotsQuick_103 : decode cX12_pivotsQuick 103 = .ok (.iload_n 2, 1) := dk_28 (by decide +kernel)
theorem dX12_pivotsQuick_104 : decode cX12_pivotsQuick 104 = .ok (.if_icmp .ne 13, 3) := dk_160 (by decide +kernel)
theorem dX12_pivotsQuick_107 : decode cX12_pivotsQuick 107 = .ok (.iload 5, 2) := dk_21 (by decide +kernel)
theorem dX12_pivotsQuick_109 : decode cX12_pivotsQuick 109 = .ok (.ineg, 1) := dk_116 (by decide +kernel)
theorem dX12_pivotsQuick_110 : decode cX12_pivotsQuick 110 = .ok (.i2l, 1) := dk_133 (by decide +kernel)
theorem dX12_pivotsQuick_111 : decode cX12_pivotsQuick 111 = .ok (.lload 8, 2) := dk_22 (by decide +kernel)
theorem dX12_pivotsQuick_113 : decode cX12_pivotsQuick 113 = .ok (.lmul, 1) := dk_105 (by decide +kernel)
theorem dX12_pivotsQuick_114 : decode cX12_pivotsQuick 114 = .ok (.goto 42, 3) := dk_167 (by decide +kernel)
theorem dX12_pivotsQuick_117 : decode cX12_pivotsQuick 117 = .ok (.iload 5, 2) := dk_21 (by decide +kernel)
theorem dX12_pivotsQuick_119 : decode cX12_pivotsQuick 119 = .ok (.i2l, 1) := dk_133 (by decide +kernel)
theorem dX12_pivotsQuick_120 : decode cX12_pivotsQuick 120 = .ok (.lload 8, 2) := dk_22 (by decide +kernel)
theorem dX12_pivotsQuick_122 : decode cX12_pivotsQuick 122 = .ok (.lload_n 3, 1) := dk_33 (by decide +kernel)
theorem dX12_pivotsQuick_123 : decode cX12_pivotsQuick 123 = .ok (.lmul, 1) := dk_105 (by decide +kernel)
theorem dX12_pivotsQuick_124 : decode cX12_pivotsQuick 124 = .ok (.aload_n 0, 1) := dk_42 (by decide +kernel)
theorem dX12_pivotsQuick_125 : decode cX12_pivotsQuick 125 = .ok (.getfield 33, 3) := dk_180 (by decide +kernel)
theorem dX12_pivotsQuick_128 : decode cX12_pivotsQuick 128 = .ok (.aload_n 0, 1) := dk_42 (by decide +kernel)
theorem dX12_pivotsQuick_129 : decode cX12_pivotsQuick 129 = .ok (.iload 6, 2) := dk_21 (by decide +kernel)
theorem dX12_pivotsQuick_131 : decode cX12_pivotsQuick 131 = .ok (.iload_n 2, 1) := dk_28 (by decide +kernel)
theorem dX12_pivotsQuick_132 : decode cX12_pivotsQuick 132 = .ok (.invokevirtual 430, 3) := dk_182 (by decide +kernel)
theorem dX12_pivotsQuick_135 : decode cX12_pivotsQuick 135 = .ok (.laload, 1) := dk_47 (by decide +kernel)
theorem dX12_pivotsQuick_136 : decode cX12_pivotsQuick 136 = .ok (.aload_n 0, 1) := dk_42 (by decide +kernel)
theorem dX12_pivotsQuick_137 : decode cX12_pivotsQuick 137 = .ok (.getfield 33, 3) := dk_180 (by decide +kernel)
theorem dX12_pivotsQuick_140 : decode cX12_pivotsQuick 140 = .ok (.aload_n 0, 1) := dk_42 (by decide +kernel)
theorem dX12_pivotsQuick_141 : decode cX12_pivotsQuick 141 = .ok (.iload_n 1, 1) := dk_27 (by decide +kernel)
theorem dX12_pivotsQuick_142 : decode cX12_pivotsQuick 142 = .ok (.iload 7, 2) := dk_21 (by decide +kernel)
theorem dX12_pivotsQuick_144 : decode cX12_pivotsQuick 144 = .ok (.invokevirtual 430, 3) := dk_182 (by decide +kernel)
theorem dX12_pivotsQuick_147 : decode cX12_pivotsQuick 147 = .ok (.laload, 1) := dk_47 (by decide +kernel)
theorem dX12_pivotsQuick_148 : decode cX12_pivotsQuick 148 = .ok (.lmul, 1) := dk_105 (by decide +kernel)
theorem dX12_pivotsQuick_149 : decode cX12_pivotsQuick 149 = .ok (.lsub, 1) := dk_101 (by decide +kernel)
theorem dX12_pivotsQuick_150 : decode cX12_pivotsQuick 150 = .ok (.aload_n 0, 1) := dk_42 (by decide +kernel)
theorem dX12_pivotsQuick_151 : decode cX12_pivotsQuick 151 = .ok (.getfield 426, 3) := dk_180 (by decide +kernel)
theorem dX12_pivotsQuick_154 : decode cX12_pivotsQuick 154 = .ok (.ldiv, 1) := dk_109 (by decide +kernel)
theorem dX12_pivotsQuick_155 : decode cX12_pivotsQuick 155 = .ok (.lmul, 1) := dk_105 (by decide +kernel)
theorem dX12_pivotsQuick_156 : decode cX12_pivotsQuick 156 = .ok (.lstore 10, 2) := dk_55 (by decide +kernel)
theorem dX12_pivotsQuick_158 : decode cX12_pivotsQuick 158 = .ok (.lload 10, 2) := dk_22 (by decide +kernel)
theorem dX12_pivotsQuick_160 : decode cX12_pivotsQuick 160 = .ok (.ldc2_w 422, 3) := dk_20 (by decide +kernel)
theorem dX12_pivotsQuick_163 : decode cX12_pivotsQuick 163 = .ok (.lcmp, 1) := dk_148 (by decide +kernel)
theorem dX12_pivotsQuick_164 : decode cX12_pivotsQuick 164 = .ok (.ifCond .ge 12, 3) := dk_156 (by decide +kernel)
theorem dX12_pivotsQuick_167 : decode cX12_pivotsQuick 167 = .ok (.lload 10, 2) := dk_22 (by decide +kernel)
theorem dX12_pivotsQuick_169 : decode cX12_pivotsQuick 169 = .ok (.ldc2_w 424, 3) := dk_20 (by decide +kernel)
theorem dX12_pivotsQuick_172 : decode cX12_pivotsQuick 172 = .ok (.lcmp, 1) := dk_148 (by decide +kernel)
theorem dX12_pivotsQuick_173 : decode cX12_pivotsQuick 173 = .ok (.ifCond .gt 5, 3) := dk_157 (by decide +kernel)
theorem dX12_pivotsQuick_176 : decode cX12_pivotsQuick 176 = .ok (.iconst 0, 1) := dk_3 (by decide +kernel)
theorem dX12_pivotsQuick_177 : decode cX12_pivotsQuick 177 = .ok (.ireturn, 1) := dk_172 (by decide +kernel)
theorem dX12_pivotsQuick_178 : decode cX12_pivotsQuick 178 = .ok (.aload_n 0, 1) := dk_42 (by decide +kernel)
theorem dX12_pivotsQuick_179 : decode cX12_pivotsQuick 179 = .ok (.getfield 36, 3) := dk_180 (by decide +kernel)
theorem dX12_pivotsQuick_182 : decode cX12_pivotsQuick 182 = .ok (.aload_n 0, 1) := dk_42 (by decide +kernel)
theorem dX12_pivotsQuick_183 : decode cX12_pivotsQuick 183 = .ok (.iload 6, 2) := dk_21 (by decide +kernel)
theorem dX12_pivotsQuick_185 : decode cX12_pivotsQuick 185 = .ok (.iload 7, 2) := dk_21 (by decide +kernel)
theorem dX12_pivotsQuick_187 : decode cX12_pivotsQuick 187 = .ok (.invokevirtual 430, 3) := dk_182 (by decide +kernel)
theorem dX12_pivotsQuick_190 : decode cX12_pivotsQuick 190 = .ok (.lload 10, 2) := dk_22 (by decide +kernel)
theorem dX12_pivotsQuick_192 : decode cX12_pivotsQuick 192 = .ok (.lastore, 1) := dk_80 (by decide +kernel)
theorem dX12_pivotsQuick_193 : decode cX12_pivotsQuick 193 = .ok (.iinc 7 1, 3) := dk_132 (by decide +kernel)
theorem dX12_pivotsQuick_196 : decode cX12_pivotsQuick 196 = .ok (.goto (-151), 3) := dk_167 (by decide +kernel)
theorem dX12_pivotsQuick_199 : decode cX12_pivotsQuick 199 = .ok (.iinc 6 1, 3) := dk_132 (by decide +kernel)
theorem dX12_pivotsQuick_202 : decode cX12_pivotsQuick 202 = .ok (.goto (-174), 3) := dk_167 (by decide +kernel)
theorem dX12_pivotsQuick_205 : decode cX12_pivotsQuick 205 = .ok (.aload_n 0, 1) := dk_42 (by decide +kernel)
theorem dX12_pivotsQuick_206 : decode cX12_pivotsQuick 206 = .ok (.getfield 399, 3) := dk_180 (by decide +kernel)
theorem dX12_pivotsQuick_209 : decode cX12_pivotsQuick 209 = .ok (.aload_n 0, 1) := dk_42 (by decide +kernel)
theorem dX12_pivotsQuick_210 : decode cX12_pivotsQuick 210 = .ok (.getfield 402, 3) := dk_180 (by decide +kernel)
theorem dX12_pivotsQuick_213 : decode cX12_pivotsQuick 213 = .ok (.iadd, 1) := dk_96 (by decide +kernel)
theorem dX12_pivotsQuick_214 : decode cX12_pivotsQuick 214 = .ok (.aload_n 0, 1) := dk_42 (by decide +kernel)
theorem dX12_pivotsQuick_215 : decode cX12_pivotsQuick 215 = .ok (.getfield 396, 3) := dk_180 (by decide +kernel)
theorem dX12_pivotsQuick_218 : decode cX12_pivotsQuick 218 = .ok (.iconst 1, 1) := dk_4 (by decide +kernel)
theorem dX12_pivotsQuick_219 : decode cX12_pivotsQuick 219 = .ok (.iadd, 1) := dk_96 (by decide +kernel)
theorem dX12_pivotsQuick_220 : decode cX12_pivotsQuick 220 = .ok (.imul, 1) := dk_104 (by decide +kernel)
theorem dX12_pivotsQuick_221 : decode cX12_pivotsQuick 221 = .ok (.istore 6, 2) := dk_54 (by decide +kernel)
theorem dX12_pivotsQuick_223 : decode cX12_pivotsQuick 223 = .ok (.iconst 0, 1) := dk_3 (by decide +kernel)
theorem dX12_pivotsQuick_224 : decode cX12_pivotsQuick 224 = .ok (.istore 7, 2) := dk_54 (by decide +kernel)
theorem dX12_pivotsQuick_226 : decode cX12_pivotsQuick 226 = .ok (.iload 7, 2) := dk_21 (by decide +kernel)
theorem dX12_pivotsQuick_228 : decode cX12_pivotsQuick 228 = .ok (.iload 6, 2) := dk_21 (by decide +kernel)
theorem dX12_pivotsQuick_230 : decode cX12_pivotsQuick 230 = .ok (.if_icmp .ge 23, 3) := dk_162 (by decide +kernel)
theorem dX12_pivotsQuick_233 : decode cX12_pivotsQuick 233 = .ok (.aload_n 0, 1) := dk_42 (by decide +kernel)
theorem dX12_pivotsQuick_234 : decode cX12_pivotsQuick 234 = .ok (.getfield 33, 3) := dk_180 (by decide +kernel)
theorem dX12_pivotsQuick_237 : decode cX12_pivotsQuick 237 = .ok (.iload 7, 2) := dk_21 (by decide +kernel)
theorem dX12_pivotsQuick_239 : decode cX12_pivotsQuick 239 = .ok (.aload_n 0, 1) := dk_42 (by decide +kernel)
theorem dX12_pivotsQuick_240 : decode cX12_pivotsQuick 240 = .ok (.getfield 36, 3) := dk_180 (by decide +kernel)
theorem dX12_pivotsQuick_243 : decode cX12_pivotsQuick 243 = .ok (.iload 7, 2) := dk_21 (by decide +kernel)
theorem dX12_pivotsQuick_245 : decode cX12_pivotsQuick 245 = .ok (.laload, 1) := dk_47 (by decide +kernel)
theorem dX12_pivotsQuick_246 : decode cX12_pivotsQuick 246 = .ok (.lastore, 1) := dk_80 (by decide +kernel)
theorem dX12_pivotsQuick_247 : decode cX12_pivotsQuick 247 = .ok (.iinc 7 1, 3) := dk_132 (by decide +kernel)
theorem dX12_pivotsQuick_250 : decode cX12_pivotsQuick 250 = .ok (.goto (-24), 3) := dk_167 (by decide +kernel)
theorem dX12_pivotsQuick_253 : decode cX12_pivotsQuick 253 = .ok (.aload_n 0, 1) := dk_42 (by decide +kernel)
theorem dX12_pivotsQuick_254 : decode cX12_pivotsQuick 254 = .ok (.iload 5, 2) := dk_21 (by decide +kernel)
theorem dX12_pivotsQuick_256 : decode cX12_pivotsQuick 256 = .ok (.i2l, 1) := dk_133 (by decide +kernel)
theorem dX12_pivotsQuick_257 : decode cX12_pivotsQuick 257 = .ok (.lload_n 3, 1) := dk_33 (by decide +kernel)
theorem dX12_pivotsQuick_258 : decode cX12_pivotsQuick 258 = .ok (.lmul, 1) := dk_105 (by decide +kernel)
theorem dX12_pivotsQuick_259 : decode cX12_pivotsQuick 259 = .ok (.putfield 426, 3) := dk_181 (by decide +kernel)
theorem dX12_pivotsQuick_262 : decode cX12_pivotsQuick 262 = .ok (.aload_n 0, 1) := dk_42 (by decide +kernel)
theorem dX12_pivotsQuick_263 : decode cX12_pivotsQuick 263 = .ok (.iload_n 1, 1) := dk_27 (by decide +kernel)
theorem dX12_pivotsQuick_264 : decode cX12_pivotsQuick 264 = .ok (.iload_n 2, 1) := dk_28 (by decide +kernel)
theorem dX12_pivotsQuick_265 : decode cX12_pivotsQuick 265 = .ok (.invokevirtual 433, 3) := dk_182 (by decide +kernel)
theorem dX12_pivotsQuick_268 : decode cX12_pivotsQuick 268 = .ok (.iconst 1, 1) := dk_4 (by decide +kernel)
theorem dX12_pivotsQuick_269 : decode cX12_pivotsQuick 269 = .ok (.ireturn, 1) := dk_172 (by decide +kernel)
def wsRX12_pivotsQuick : List Cond := .code yX12_pivotsQuick cX12_pivotsQuick 12 (some .boolean) :: ([.fieldLink RX12 33 "OptimaWorksModel" "fast" "[J", .fieldLink RX12 399 "OptimaWorksModel" "rows" "I", .fieldLink RX12 402 "OptimaWorksModel" "goals" "I", .fieldLink RX12 396 "OptimaWorksModel" "columns" "I", .fieldLink RX12 426 "OptimaWorksModel" "quickDivisor" "J", .fieldLink RX12 36 "OptimaWorksModel" "later" "[J", .constantLong RX12 422 2147483648, .constantLong RX12 424 (-2147483648)] ++ wsX120 ++ (wsV RX12 430 RX12 yX12_place1 wsRX12_place1) ++ (wsV RX12 433 RX12 yX12_exchange wsRX12_exchange))
theorem iwsRX12_pivotsQuick_in12 : ∀ w ∈ wsX120, w ∈ wsRX12_pivotsQuick := fun _ h => List.mem_cons_of_mem _ (List.mem_append_left _ (List.mem_append_left _ (List.mem_append_right _ h)))
theorem gwsRX12_pivotsQuick_0 : GoodIn wsRX12_pivotsQuick (wsV RX12 430 RX12 yX12_place1 wsRX12_place1) := goodIn_sub (fun _ h => List.mem_cons_of_mem _ (List.mem_append_left _ (List.mem_append_right _ h))) (gdV (by decide +kernel) gdwsRX12_place1)
theorem gwsRX12_pivotsQuick_1 : GoodIn wsRX12_pivotsQuick (wsV RX12 433 RX12 yX12_exchange wsRX12_exchange) := goodIn_sub (fun _ h => List.mem_cons_of_mem _ (List.mem_append_right _ h)) (gdV (by decide +kernel) gdwsRX12_exchange)
theorem gdwsRX12_pivotsQuick : wsRX12_pivotsQuick.all goodWord = true := gdC rfl (gdA (gdA (gdA (by decide +kernel : ([.fieldLink RX12 33 "OptimaWorksModel" "fast" "[J", .fieldLink RX12 399 "OptimaWorksModel" "rows" "I", .fieldLink RX12 402 "OptimaWorksModel" "goals" "I", .fieldLink RX12 396 "OptimaWorksModel" "columns" "I", .fieldLink RX12 426 "OptimaWorksModel" "quickDivisor" "J", .fieldLink RX12 36 "OptimaWorksModel" "later" "[J", .constantLong RX12 422 2147483648, .constantLong RX12 424 (-2147483648)] : List Cond).all goodWord = true) gdwsX120) (gdV (by decide +kernel) gdwsRX12_place1)) (gdV (by decide +kernel) gdwsRX12_exchange))
theorem hm_r_X12_pivotsQuick_0 : (.fieldLink RX12 33 "OptimaWorksModel" "fast" "[J" : Cond) ∈ wsRX12_pivotsQuick := by decide +kernel
theorem hm_r_X12_pivotsQuick_1 : (.fieldLink RX12 399 "OptimaWorksModel" "rows" "I" : Cond) ∈ wsRX12_pivotsQuick := by decide +kernel
theorem hm_r_X12_pivotsQuick_2 : (.fieldLink RX12 402 "OptimaWorksModel" "goals" "I" : Cond) ∈ wsRX12_pivotsQuick := by decide +kernel
theorem hm_r_X12_pivotsQuick_3 : (.fieldLink RX12 396 "OptimaWorksModel" "columns" "I" : Cond) ∈ wsRX12_pivotsQuick := by decide +kernel
theorem hm_r_X12_pivotsQuick_4 : (.fieldLink RX12 426 "OptimaWorksModel" "quickDivisor" "J" : Cond) ∈ wsRX12_pivotsQuick := by decide +kernel
theorem hm_r_X12_pivotsQuick_5 : (.fieldLink RX12 36 "OptimaWorksModel" "later" "[J" : Cond) ∈ wsRX12_pivotsQuick := by decide +kernel
theorem hm_r_X12_pivotsQuick_6 : (.constantLong RX12 422 2147483648 : Cond) ∈ wsRX12_pivotsQuick := by decide +kernel
theorem hm_r_X12_pivotsQuick_7 : (.constantLong RX12 424 (-2147483648) : Cond) ∈ wsRX12_pivotsQuick := by decide +kernel
set_option maxHeartbeats 4000000 in
set_option maxRecDepth 100000 in
/-- pivotsQuick(r, c) -/
theorem r_X12_pivotsQuick (l : Launch) (dC : Nat → ClassId) (dI : Nat → Nat → Nat) (a : Nat → Nat) (k : Nat → ClassId) (h0 : Nat) (vi : Nat → Int32) (vj : Nat → Int64) (vF : Nat → Nat → Int32) (vG : Nat → Nat → Int64) (rn : Nat) (cn : Nat) (C : Nat) (R : Nat) (Gq : Nat) (t : Nat → Nat → Int) (D : Int) (hC : vi 5 = nI C) (hR : vi 6 = nI R) (hG : vi 7 = nI Gq) (hC45 : 0 < C ∧ C ≤ 45) (hT60 : R + Gq < 60) (hsz : (R + Gq) * (C + 1) ≤ 970) (hQ : TabQ C (R + Gq) (vG 7) (vj 12) t D) (hrn : rn < R) (hcn : cn < C) (hDp : 0 < D) (hp0 : t rn cn ≠ 0) (sz : Nat) : Met l yX12_pivotsQuick wsRX12_pivotsQuick ({ frames := 1, cells := 0, slots := 0, locals := 23 }) (va_Pc [.ref h0, .int (nI rn), .int (nI cn)] (fun U => U.heap.size = sz ∧ va_P (dC, dI) vwCl (WR a k h0 vi vj vF vG) U.heap ∧ va_K (dC, dI) vwCl (tX12 k) U ∧ va_D (fun _ => True) (WR a k h0 vi vj vF vG))) (va_Qi (fun (r : Int32) (u : (Int64) × (Nat → Int64) × (Nat → Int64) × (Nat → Int32) × (Nat → Int32)) => (r = 0 ∧ (u.2.1) = (vG 7) ∧ (u.1) = (vj 12) ∧ (u.2.2.2.1) = (vF 4) ∧ (u.2.2.2.2) = (vF 5)) ∨ (r = 1 ∧ (TabQ C (R + Gq) (u.2.1) (u.1) (nvT rn cn (sgI (t rn cn)) t D) ((sgI (t rn cn)) * t rn cn)) ∧ (u.2.2.2.1) = (upd (vF 4) (nI cn).toNatClampNeg (vF 5 rn)) ∧ (u.2.2.2.2) = (upd (vF 5) (nI rn).toNatClampNeg (vF 4 cn)))) (fun (u : (Int64) × (Nat → Int64) × (Nat → Int64) × (Nat → Int32) × (Nat → Int32)) t => va_P (dC, dI) vwCl (WR a k h0 vi (fT vj 12 (u.1)) (fT (fT vF 4 (u.2.2.2.1)) 5 (u.2.2.2.2)) (fT (fT vG 8 (u.2.2.1)) 7 (u.2.1))) t.heap ∧ va_D (va_A (WR a k h0 vi vj vF vG) sz) (WR a k h0 vi (fT vj 12 (u.1)) (fT (fT vF 4 (u.2.2.2.1)) 5 (u.2.2.2.2)) (fT (fT vG 8 (u.2.2.1)) 7 (u.2.1)))) (va_A (WR a k h0 vi vj vF vG) sz)) 0 0 (va_A (WR a k h0 vi vj vF vG) sz) := by
  refine Met.ofW (cc := cX12_pivotsQuick) (maxL := 12) (ret := (some .boolean)) (by decide) rfl ?_
  intro p e s m args below meth c s₁ B hml hv
  obtain ⟨rfl, hsz, hP, hK, hD0⟩ := hv
  have hx := B.exec
  have hb := B.bytes
  have hr := B.returns
  have hts := atoms_spec (ws := wsRX12_pivotsQuick) B.pre
  have hown : s.vm.findClass RX12 = some m.cls := findClass_of_methodNamed B.named
  have hlocks := B.notSynchronized
  subst hsz
  have hD := hD0.self (sz := s.heap.size)
  generalize hAe : va_A (WR a k h0 vi vj vF vG) s.heap.size = A at hD ⊢
  have hA : ∀ q : Nat, s.heap.size ≤ q → A q := fun q h => by rw [← hAe]; exact Or.inr h
  have hS : va_S A s.heap s.heap [] := va_S.rf
  have hl := lv_entry ([.ref h0, .int (nI rn), .int (nI cn)]) (n := 12) (Nat.le_of_ble_eq_true rfl)
  rw [lg_entry_eq]
  generalize (lg_sl ([.ref h0, .int (nI rn), .int (nI cn)]) ++ List.replicate (12 - (lg_sl ([.ref h0, .int (nI rn), .int (nI cn)])).length) Slot.unset).toArray = ls at hl ⊢
  have hl : lv_has ls 12 [(0, .ref h0), (1, .int (nI rn)), (2, .int (nI cn))] := hl
  have hpr := pl_lt (C := C) (show rn < R + Gq by omega) (show cn ≤ C by omega)
  have ep0 := hQ.2.1 rn (by omega) cn (by omega)
  refine lv_aload_n hx hb dX12_pivotsQuick_0 rfl (lv_at hl 0 rfl) ?_
  refine va_get (D := (dC, dI)) (ci := 12) (v := .ref (a 7)) (C := RX12) (T := TX12) (N := 163) (fs := fM (vS a vi vj)) hx hb hts iwsRX12_pivotsQuick_in12 hown hK hP 0 rfl rfl 13 (by decide) (hts _ hm_r_X12_pivotsQuick_0) (fun _ h9 => h9) rfl dX12_pivotsQuick_1 ?_
  refine lv_aload_n hx hb dX12_pivotsQuick_4 rfl (lv_at hl 0 rfl) ?_
  refine lv_iload_n hx hb dX12_pivotsQuick_5 rfl (lv_at hl 1 rfl) ?_
  refine lv_iload_n hx hb dX12_pivotsQuick_6 rfl (lv_at hl 2 rfl) ?_
  have hFc := allFree hD hS hA
  refine va_calli (va_runV (As := [.int (nI rn), .int (nI cn)]) (rest := [.ref (a 7)]) ⟨hx, hb, hml, hown, hts⟩ (r_X12_place1 l dC dI a k h0 vi vj vF vG rn cn C (by first | with_reducible assumption | decide | omega | rfl | assumption) s.heap.size) (cwV 2 hts gwsRX12_pivotsQuick_0 rfl rfl rfl hd_yX12_place1_RX12 (by decide +kernel)) (fz_pre (va_recv hK hP (ci := 12) (q0 := 0) rfl rfl) hP hK hD) rfl rfl hl.1 rfl (lv_room (Nat.le_of_ble_eq_true rfl)) dX12_pivotsQuick_7 (by decide +kernel)) hS (fun q _ h => hFc q h) hFc (fun r7 u t9_ H locs ht hvm hw9 hB9 hz1 hk1 hS => ?_)
  have hP : va_P (dC, dI) vwCl (WR a k h0 vi vj vF vG) H := fz_P ht hB9.1
  have hD := fz_sd hP (hB9.2.weaken (fun _ q _ h => hFc q.1 h)) rfl
  obtain rfl := hw9
  refine va_lald (cA := k 7) (n := 1000) (f := (vG 7)) hx hb hK hP 8 7 (WR_get 7 (by decide)) (TR_get 7 (by decide)) (vp_in_nI (show (rn * (C + 1) + cn) < 1000 by omega) (by omega)) dX12_pivotsQuick_10 ?_
  refine lv_topl (fun y1 hy1 => ?_)
  obtain rfl : ((vG 7) (rn * (C + 1) + cn)) = y1 := (hy1.trans (by rw [nI_clamp (by omega)])).symm
  refine lv_lstore_n hx hb dX12_pivotsQuick_11 rfl hl (by decide) rfl (fun ls (hl : lv_has ls _ ([(3, .long ((vG 7) (rn * (C + 1) + cn))), (0, .ref h0), (1, .int (nI rn)), (2, .int (nI cn))])) => ?_)
  refine lv_lload_n hx hb dX12_pivotsQuick_12 rfl (lv_at hl 0 rfl) ?_
  refine lv_lconst (v := 0) hx hb dX12_pivotsQuick_13 (by decide) ?_
  refine W.lcmp hx hb dX12_pivotsQuick_14 ?_
  refine lv_if_ge (tgt := 22) hx hb dX12_pivotsQuick_15 (by decide) (fun c_15 => ?_) (fun c_15 => ?_)
  · have t_15 : (((vG 7) (rn * (C + 1) + cn))).toInt ≥ 0 := toL_ge c_15 rfl (by decide)
    refine lv_iconst (v := 1) hx hb dX12_pivotsQuick_22 (by decide) ?_
    refine lv_istore hx hb dX12_pivotsQuick_23 hl (by decide) rfl (fun ls (hl : lv_has ls _ ([(5, .int 1), (3, .long ((vG 7) (rn * (C + 1) + cn))), (0, .ref h0), (1, .int (nI rn)), (2, .int (nI cn))])) => ?_)
    refine lv_iconst (v := 0) hx hb dX12_pivotsQuick_25 (by decide) ?_
    refine lv_istore hx hb dX12_pivotsQuick_26 hl (by decide) rfl (fun ls (hl : lv_has ls _ ([(6, .int 0), (5, .int 1), (3, .long ((vG 7) (rn * (C + 1) + cn))), (0, .ref h0), (1, .int (nI rn)), (2, .int (nI cn))])) => ?_)
    have e9 : fT vG 8 (vG 8) = vG := by funext q9; by_cases h9_8 : q9 = 8; (subst h9_8; exact (fT_eq _ _ _).trans (Eq.trans (by first | with_reducible rfl | with_reducible assumption | (symm; with_reducible assumption) | rfl | assumption | (symm; assumption) | (subst_vars; rfl)) (Eq.refl _).symm)); exact (fT_ne _ _ h9_8).trans (Eq.refl _).symm
    have hP := wr_PG e9 hP
    have hD := wr_DG e9 hD
    clear e9
    have hl : lv_has _ _ ([(0, .ref h0), (1, .int (nI rn)), (2, .int (nI cn)), (3, .long ((vG 7) (rn * (C + 1) + cn))), (5, .int 1), (6, .int (nI 0))]) := lv_sub hl [3, 4, 5, 2, 1, 0] rfl
    refine (fun (loop : ∀ (n9 : Nat) (i : Nat) (L8 : Nat → Int64) (H : Heap) (locs : List Loc) (ls : Array Slot), (i ≤ R + Gq) → (∀ p, p < i * (C + 1) → -2147483648 < (L8 p).toInt ∧ (L8 p).toInt < 2147483648) → (∀ i2 j2, i2 < R + Gq → j2 ≤ C → i2 * (C + 1) + j2 < i * (C + 1) → (L8 (i2 * (C + 1) + j2)).toInt = nvT rn cn (sgI (t rn cn)) t D i2 j2) →  (R + Gq < i + n9) → va_P (dC, dI) vwCl (WR a k h0 vi vj vF (fT vG 8 L8)) H → va_D A (WR a k h0 vi vj vF (fT vG 8 L8)) → va_S A s.heap H locs → lv_has ls 12 [(0, .ref h0), (1, .int (nI rn)), (2, .int (nI cn)), (3, .long ((vG 7) (rn * (C + 1) + cn))), (5, .int 1), (6, .int (nI i))] → W p l e _ s m _ below meth c H locs 0 0 _ (F0 m 28 ls [])) => loop (R + Gq + 1) 0 (vG 8) _ _ _ (by omega) (fun p hp => absurd hp (by rw [Nat.zero_mul]; omega)) (fun i2 j2 h1 h2 h3 => absurd h3 (by rw [Nat.zero_mul]; omega)) (by omega) hP hD hS hl) ?_
    intro n9
    induction n9 with
    | zero => intro i L8 H locs ls hi hbq hv hf9; exact False.elim (by omega)
    | succ n9 ih28 =>
      intro i L8 H locs ls hi hbq hv hf28 hP hD hS hl
      refine lv_iload hx hb dX12_pivotsQuick_28 (lv_at hl 5 rfl) ?_
      refine lv_aload_n hx hb dX12_pivotsQuick_30 rfl (lv_at hl 0 rfl) ?_
      refine va_get (D := (dC, dI)) (ci := 12) (v := .int (vi 6)) (C := RX12) (T := TX12) (N := 163) (fs := fM (vS a vi vj)) hx hb hts iwsRX12_pivotsQuick_in12 hown hK hP 0 rfl rfl 6 (by decide) (hts _ hm_r_X12_pivotsQuick_1) (fun _ h9 => h9) rfl dX12_pivotsQuick_31 ?_
      refine lv_topi (fun y2 hy2 => ?_)
      obtain rfl : (nI R) = y2 := (hy2.trans (hR)).symm
      refine lv_aload_n hx hb dX12_pivotsQuick_34 rfl (lv_at hl 0 rfl) ?_
      refine va_get (D := (dC, dI)) (ci := 12) (v := .int (vi 7)) (C := RX12) (T := TX12) (N := 163) (fs := fM (vS a vi vj)) hx hb hts iwsRX12_pivotsQuick_in12 hown hK hP 0 rfl rfl 7 (by decide) (hts _ hm_r_X12_pivotsQuick_2) (fun _ h9 => h9) rfl dX12_pivotsQuick_35 ?_
      refine lv_topi (fun y3 hy3 => ?_)
      obtain rfl : (nI Gq) = y3 := (hy3.trans (hG)).symm
      refine lv_iadd hx hb dX12_pivotsQuick_38 ?_
      refine lv_topi (fun y4 hy4 => ?_)
      obtain rfl : (nI (R + Gq)) = y4 := (hy4.trans (nI_add R Gq)).symm
      refine lv_icmp_ge (tgt := 205) hx hb dX12_pivotsQuick_39 (by decide) (fun c_39 => ?_) (fun c_39 => ?_)
      · have t_39 : ((i : Nat) : Int) ≥ (((R + Gq) : Nat) : Int) := toI_ge c_39 (nI_toInt (by omega)) (nI_toInt (by omega))
        refine lv_aload_n hx hb dX12_pivotsQuick_205 rfl (lv_at hl 0 rfl) ?_
        refine va_get (D := (dC, dI)) (ci := 12) (v := .int (vi 6)) (C := RX12) (T := TX12) (N := 163) (fs := fM (vS a vi vj)) hx hb hts iwsRX12_pivotsQuick_in12 hown hK hP 0 rfl rfl 6 (by decide) (hts _ hm_r_X12_pivotsQuick_1) (fun _ h9 => h9) rfl dX12_pivotsQuick_206 ?_
        refine lv_topi (fun y5 hy5 => ?_)
        obtain rfl : (nI R) = y5 := (hy5.trans (hR)).symm
        refine lv_aload_n hx hb dX12_pivotsQuick_209 rfl (lv_at hl 0 rfl) ?_
        refine va_get (D := (dC, dI)) (ci := 12) (v := .int (vi 7)) (C := RX12) (T := TX12) (N := 163) (fs := fM (vS a vi vj)) hx hb hts iwsRX12_pivotsQuick_in12 hown hK hP 0 rfl rfl 7 (by decide) (hts _ hm_r_X12_pivotsQuick_2) (fun _ h9 => h9) rfl dX12_pivotsQuick_210 ?_
        refine lv_topi (fun y6 hy6 => ?_)
        obtain rfl : (nI Gq) = y6 := (hy6.trans (hG)).symm
        refine lv_iadd hx hb dX12_pivotsQuick_213 ?_
        refine lv_topi (fun y7 hy7 => ?_)
        obtain rfl : (nI (R + Gq)) = y7 := (hy7.trans (nI_add R Gq)).symm
        refine lv_aload_n hx hb dX12_pivotsQuick_214 rfl (lv_at hl 0 rfl) ?_
        refine va_get (D := (dC, dI)) (ci := 12) (v := .int (vi 5)) (C := RX12) (T := TX12) (N := 163) (fs := fM (vS a vi vj)) hx hb hts iwsRX12_pivotsQuick_in12 hown hK hP 0 rfl rfl 5 (by decide) (hts _ hm_r_X12_pivotsQuick_3) (fun _ h9 => h9) rfl dX12_pivotsQuick_215 ?_
        refine lv_topi (fun y8 hy8 => ?_)
        obtain rfl : (nI C) = y8 := (hy8.trans (hC)).symm
        refine lv_iconst (v := 1) hx hb dX12_pivotsQuick_218 (by decide) ?_
        refine lv_iadd hx hb dX12_pivotsQuick_219 ?_
        refine lv_topi (fun y9 hy9 => ?_)
        obtain rfl : (nI (C + 1)) = y9 := (hy9.trans (nI_add C 1)).symm
        refine lv_imul hx hb dX12_pivotsQuick_220 ?_
        refine lv_topi (fun y10 hy10 => ?_)
        obtain rfl : (nI ((R + Gq) * (C + 1))) = y10 := (hy10.trans (pk_mul (R + Gq) (C + 1))).symm
        refine lv_istore hx hb dX12_pivotsQuick_221 hl (by decide) rfl (fun ls (hl : lv_has ls _ ([(6, .int (nI ((R + Gq) * (C + 1)))), (0, .ref h0), (1, .int (nI rn)), (2, .int (nI cn)), (3, .long ((vG 7) (rn * (C + 1) + cn))), (5, .int 1)])) => ?_)
        refine lv_iconst (v := 0) hx hb dX12_pivotsQuick_223 (by decide) ?_
        refine lv_istore hx hb dX12_pivotsQuick_224 hl (by decide) rfl (fun ls (hl : lv_has ls _ ([(7, .int 0), (6, .int (nI ((R + Gq) * (C + 1)))), (0, .ref h0), (1, .int (nI rn)), (2, .int (nI cn)), (3, .long ((vG 7) (rn * (C + 1) + cn))), (5, .int 1)])) => ?_)
        have e9 : fT (fT vG 8 L8) 7 (vG 7) = fT vG 8 L8 := by funext q9; by_cases h9_8 : q9 = 8; (subst h9_8; exact ((fT_ne _ _ (Nat.ne_of_beq_eq_false rfl)).trans (fT_eq _ _ _)).trans (Eq.trans (by first | with_reducible rfl | with_reducible assumption | (symm; with_reducible assumption) | rfl | assumption | (symm; assumption) | (subst_vars; rfl)) (fT_eq _ _ _).symm)); by_cases h9_7 : q9 = 7; (subst h9_7; exact (fT_eq _ _ _).trans (Eq.trans (by first | with_reducible rfl | with_reducible assumption | (symm; with_reducible assumption) | rfl | assumption | (symm; assumption) | (subst_vars; rfl)) (fT_ne _ _ (Nat.ne_of_beq_eq_false rfl)).symm)); exact ((fT_ne _ _ h9_7).trans (fT_ne _ _ h9_8)).trans (fT_ne _ _ h9_8).symm
        have hP := wr_PG e9 hP
        have hD := wr_DG e9 hD
        clear e9
        have hl : lv_has _ _ ([(0, .ref h0), (1, .int (nI rn)), (2, .int (nI cn)), (3, .long ((vG 7) (rn * (C + 1) + cn))), (5, .int 1), (7, .int (nI 0)), (6, .int (nI ((R + Gq) * (C + 1))))]) := lv_sub hl [2, 3, 4, 5, 6, 0, 1] rfl
        refine (fun (loop : ∀ (n9 : Nat) (k2 : Nat) (F : Nat → Int64) (H : Heap) (locs : List Loc) (ls : Array Slot), (k2 ≤ (R + Gq) * (C + 1)) → (∀ p, p < k2 → F p = L8 p) →  ((R + Gq) * (C + 1) < k2 + n9) → va_P (dC, dI) vwCl (WR a k h0 vi vj vF (fT (fT vG 8 L8) 7 F)) H → va_D A (WR a k h0 vi vj vF (fT (fT vG 8 L8) 7 F)) → va_S A s.heap H locs → lv_has ls 12 [(0, .ref h0), (1, .int (nI rn)), (2, .int (nI cn)), (3, .long ((vG 7) (rn * (C + 1) + cn))), (5, .int 1), (7, .int (nI k2)), (6, .int (nI ((R + Gq) * (C + 1))))] → W p l e _ s m _ below meth c H locs 0 0 _ (F0 m 226 ls [])) => loop ((R + Gq) * (C + 1) + 1) 0 (vG 7) _ _ _ (by omega) (fun p hp => absurd hp (by omega)) (by omega) hP hD hS hl) ?_
        intro n9
        induction n9 with
        | zero => intro k2 F H locs ls hk2 hF hf9; exact False.elim (by omega)
        | succ n9 ih226_1 =>
          intro k2 F H locs ls hk2 hF hf226_1 hP hD hS hl
          refine lv_iload hx hb dX12_pivotsQuick_226 (lv_at hl 5 rfl) ?_
          refine lv_iload hx hb dX12_pivotsQuick_228 (lv_at hl 6 rfl) ?_
          refine lv_icmp_ge (tgt := 253) hx hb dX12_pivotsQuick_230 (by decide) (fun c_230 => ?_) (fun c_230 => ?_)
          · have t_230 : ((k2 : Nat) : Int) ≥ ((((R + Gq) * (C + 1)) : Nat) : Int) := toI_ge c_230 (nI_toInt (by omega)) (nI_toInt (by omega))
            refine lv_aload_n hx hb dX12_pivotsQuick_253 rfl (lv_at hl 0 rfl) ?_
            refine lv_iload hx hb dX12_pivotsQuick_254 (lv_at hl 4 rfl) ?_
            refine lv_i2l hx hb dX12_pivotsQuick_256 rfl ?_
            refine lv_topl (fun y11 hy11 => ?_)
            obtain rfl : 1 = y11 := (hy11.trans (by decide)).symm
            refine lv_lload_n hx hb dX12_pivotsQuick_257 rfl (lv_at hl 3 rfl) ?_
            refine lv_lmul hx hb dX12_pivotsQuick_258 ?_
            refine va_put (D := (dC, dI)) (ci := 12) (v := .long (1 * ((vG 7) (rn * (C + 1) + cn)))) (ty := .long) (C := RX12) (T := TX12) (N := 163) (fs := fM (vS a vi vj)) hx hb hts iwsRX12_pivotsQuick_in12 tyX12 tyX12_ok nmX12 hown hK hP hD hS 0 rfl rfl 12 (by decide) (hts _ hm_r_X12_pivotsQuick_4) (fun _ h9 => h9) rfl (by decide +kernel) rfl rfl (Nat.le_of_ble_eq_true rfl) dX12_pivotsQuick_259 (fun H locs hP hD hS => ?_)
            have hP : va_P (dC, dI) vwCl (WR a k h0 vi (fT vj 12 (1 * ((vG 7) (rn * (C + 1) + cn)))) vF (fT (fT vG 8 L8) 7 F)) H := fz_w (WR_l 12 _ rfl) hP
            have hD : va_D A (WR a k h0 vi (fT vj 12 (1 * ((vG 7) (rn * (C + 1) + cn)))) vF (fT (fT vG 8 L8) 7 F)) := fz_wD (WR_l 12 _ rfl) hD
            refine lv_aload_n hx hb dX12_pivotsQuick_262 rfl (lv_at hl 0 rfl) ?_
            refine lv_iload_n hx hb dX12_pivotsQuick_263 rfl (lv_at hl 1 rfl) ?_
            refine lv_iload_n hx hb dX12_pivotsQuick_264 rfl (lv_at hl 2 rfl) ?_
            have hFc := allFree hD hS hA
            refine va_callv (va_runV (As := [.int (nI rn), .int (nI cn)]) (rest := []) ⟨hx, hb, hml, hown, hts⟩ (r_X12_exchange l dC dI a k h0 vi (fT vj 12 (1 * ((vG 7) (rn * (C + 1) + cn)))) vF (fT (fT vG 8 L8) 7 F) rn cn (by first | with_reducible assumption | decide | omega | rfl | assumption) (by first | with_reducible assumption | decide | omega | rfl | assumption) H.size) (cwV 2 hts gwsRX12_pivotsQuick_1 rfl rfl rfl hd_yX12_exchange_RX12 (by decide +kernel)) (fz_pre (va_recv hK hP (ci := 12) (q0 := 0) rfl rfl) hP hK hD) rfl rfl hl.1 rfl (lv_room (Nat.le_of_ble_eq_true rfl)) dX12_pivotsQuick_265 (by decide +kernel)) hS (fun q _ h => hFc q h) hFc (fun u t9_ H locs ht hvm hw9 hB9 hz1 hk1 hS => ?_)
            have hP : va_P (dC, dI) vwCl (WR a k h0 vi (fT vj 12 (1 * ((vG 7) (rn * (C + 1) + cn)))) (fT (fT vF 4 (upd (vF 4) (nI cn).toNatClampNeg ((vF 5) rn))) 5 (upd (vF 5) (nI rn).toNatClampNeg ((vF 4) cn))) (fT (fT vG 8 L8) 7 F)) H := fz_P ht hB9.1
            have hD := fz_sd hP (hB9.2.weaken (fun _ q _ h => hFc q.1 h)) rfl
            refine lv_iconst (v := 1) hx hb dX12_pivotsQuick_268 (by decide) ?_
            refine W.widen (k := 0) (n := 0) (by decide +kernel) (by decide +kernel) ?_
            exact W.zret (v := 1) hx hb hr rfl (fun t9_ ht hW => ⟨⟨1, ((1 * ((vG 7) (rn * (C + 1) + cn))), F, L8, (upd (vF 4) (nI cn).toNatClampNeg ((vF 5) rn)), (upd (vF 5) (nI rn).toNatClampNeg ((vF 4) cn))), rfl, by (try dsimp only); exact Or.inr ⟨rfl, ⟨fun p hp => by rw [hF p (by omega)]; exact hbq p (by rw [show i = R + Gq by omega]; exact hp), fun i2 hi2 j2 hj2 => by (have h9 := pl_lt hi2 hj2); rw [hF _ (by omega)]; exact hv i2 j2 hi2 hj2 (by rw [show i = R + Gq by omega]; exact h9), by (have bp := hQ.1 (rn * (C + 1) + cn) (pl_lt (by omega) (by omega))); (have ep := hQ.2.1 rn (by omega) cn (by omega)); rw [one64, sgI_p (x := t rn cn) (by omega), ep]; omega, by (have bp := hQ.1 (rn * (C + 1) + cn) (pl_lt (by omega) (by omega))); (have ep := hQ.2.1 rn (by omega) cn (by omega)); rw [sgI_p (x := t rn cn) (by omega)]; omega⟩, rfl, rfl⟩, by rw [ht]; exact hP, hD⟩, hS.F ht⟩) hS.2.2 dX12_pivotsQuick_269
          · have t_230 : ¬ ((k2 : Nat) : Int) ≥ ((((R + Gq) * (C + 1)) : Nat) : Int) := toI_nge c_230 (nI_toInt (by omega)) (nI_toInt (by omega))
            refine lv_aload_n hx hb dX12_pivotsQuick_233 rfl (lv_at hl 0 rfl) ?_
            refine va_get (D := (dC, dI)) (ci := 12) (v := .ref (a 7)) (C := RX12) (T := TX12) (N := 163) (fs := fM (vS a vi vj)) hx hb hts iwsRX12_pivotsQuick_in12 hown hK hP 0 rfl rfl 13 (by decide) (hts _ hm_r_X12_pivotsQuick_0) (fun _ h9 => h9) rfl dX12_pivotsQuick_234 ?_
            refine lv_iload hx hb dX12_pivotsQuick_237 (lv_at hl 5 rfl) ?_
            refine lv_aload_n hx hb dX12_pivotsQuick_239 rfl (lv_at hl 0 rfl) ?_
            refine va_get (D := (dC, dI)) (ci := 12) (v := .ref (a 8)) (C := RX12) (T := TX12) (N := 163) (fs := fM (vS a vi vj)) hx hb hts iwsRX12_pivotsQuick_in12 hown hK hP 0 rfl rfl 14 (by decide) (hts _ hm_r_X12_pivotsQuick_5) (fun _ h9 => h9) rfl dX12_pivotsQuick_240 ?_
            refine lv_iload hx hb dX12_pivotsQuick_243 (lv_at hl 5 rfl) ?_
            refine va_lald (cA := k 8) (n := 1000) (f := L8) hx hb hK hP 9 8 (WR_get 8 (by decide)) (TR_get 8 (by decide)) (vp_in_nI (show k2 < 1000 by omega) (by omega)) dX12_pivotsQuick_245 ?_
            refine lv_topl (fun y12 hy12 => ?_)
            obtain rfl : (L8 k2) = y12 := (hy12.trans (by rw [nI_clamp (by omega)])).symm
            refine va_last (cA := k 7) (n := 1000) (f := F) hx hb hK hP hD hS 8 7 (WR_get 7 (by decide)) (TR_get 7 (by decide)) (vp_in_nI (show k2 < 1000 by omega) (by omega)) dX12_pivotsQuick_246 (fun H locs hP hD hS => ?_)
            have e9 : fT (fT vG 8 L8) 7 (vp_updL F ((nI k2)).toNatClampNeg (L8 k2)) = fT (fT (fT vG 8 L8) 7 F) 7 (vp_updL F ((nI k2)).toNatClampNeg (L8 k2)) := (fT_sm _ _ _ _).symm
            have hP := wr_PG e9 (fz_w (WR_G 7 (by decide) _ rfl) hP)
            have hD := wr_DG e9 (fz_wD (WR_G 7 (by decide) _ rfl) hD)
            clear e9
            refine lv_iinc (v := (nI (k2 + 1))) hx hb dX12_pivotsQuick_247 hl (k := 5) rfl (nI_add k2 1) (by decide) rfl (fun ls (hl : lv_has ls _ ([(7, .int (nI (k2 + 1))), (0, .ref h0), (1, .int (nI rn)), (2, .int (nI cn)), (3, .long ((vG 7) (rn * (C + 1) + cn))), (5, .int 1), (6, .int (nI ((R + Gq) * (C + 1))))])) => ?_)
            refine lv_goto (tgt := 226) hx hb dX12_pivotsQuick_250 (by decide) ?_
            have hl : lv_has _ _ ([(0, .ref h0), (1, .int (nI rn)), (2, .int (nI cn)), (3, .long ((vG 7) (rn * (C + 1) + cn))), (5, .int 1), (7, .int (nI (k2 + 1))), (6, .int (nI ((R + Gq) * (C + 1))))]) := lv_sub hl [1, 2, 3, 4, 5, 0, 6] rfl
            exact ih226_1 (k2 + 1) (vp_updL F ((nI k2)).toNatClampNeg (L8 k2)) _ _ _ (by omega) (fun p hp => by rw [updL_at (by omega)]; by_cases e9 : p = k2; (rw [if_pos e9, e9]); (rw [if_neg e9]; exact hF p (by omega))) (by omega) hP hD hS hl
      · have t_39 : ¬ ((i : Nat) : Int) ≥ (((R + Gq) : Nat) : Int) := toI_nge c_39 (nI_toInt (by omega)) (nI_toInt (by omega))
        refine lv_iconst (v := 0) hx hb dX12_pivotsQuick_42 (by decide) ?_
        refine lv_istore hx hb dX12_pivotsQuick_43 hl (by decide) rfl (fun ls (hl : lv_has ls _ ([(7, .int 0), (0, .ref h0), (1, .int (nI rn)), (2, .int (nI cn)), (3, .long ((vG 7) (rn * (C + 1) + cn))), (5, .int 1), (6, .int (nI i))])) => ?_)
        have hl : lv_has _ _ ([(0, .ref h0), (1, .int (nI rn)), (2, .int (nI cn)), (3, .long ((vG 7) (rn * (C + 1) + cn))), (5, .int 1), (6, .int (nI i)), (7, .int (nI 0))]) := lv_sub hl [1, 2, 3, 4, 5, 6, 0] rfl
        refine (fun (loop : ∀ (n9 : Nat) (j : Nat) (L8 : Nat → Int64) (H : Heap) (locs : List Loc) (ls : Array Slot), (j ≤ C + 1) → (∀ p, p < i * (C + 1) + j → -2147483648 < (L8 p).toInt ∧ (L8 p).toInt < 2147483648) → (∀ i2 j2, i2 < R + Gq → j2 ≤ C → i2 * (C + 1) + j2 < i * (C + 1) + j → (L8 (i2 * (C + 1) + j2)).toInt = nvT rn cn (sgI (t rn cn)) t D i2 j2) →  (C + 1 < j + n9) → va_P (dC, dI) vwCl (WR a k h0 vi vj vF (fT vG 8 L8)) H → va_D A (WR a k h0 vi vj vF (fT vG 8 L8)) → va_S A s.heap H locs → lv_has ls 12 [(0, .ref h0), (1, .int (nI rn)), (2, .int (nI cn)), (3, .long ((vG 7) (rn * (C + 1) + cn))), (5, .int 1), (6, .int (nI i)), (7, .int (nI j))] → W p l e _ s m _ below meth c H locs 0 0 _ (F0 m 45 ls [])) => loop (C + 2) 0 L8 _ _ _ (by omega) (hbq) (hv) (by omega) hP hD hS hl) ?_
        intro n9
        induction n9 with
        | zero => intro j L8 H locs ls hj hb2 hv2 hf9; exact False.elim (by omega)
        | succ n9 ih45_2 =>
          intro j L8 H locs ls hj hb2 hv2 hf45_2 hP hD hS hl
          refine lv_iload hx hb dX12_pivotsQuick_45 (lv_at hl 6 rfl) ?_
          refine lv_aload_n hx hb dX12_pivotsQuick_47 rfl (lv_at hl 0 rfl) ?_
          refine va_get (D := (dC, dI)) (ci := 12) (v := .int (vi 5)) (C := RX12) (T := TX12) (N := 163) (fs := fM (vS a vi vj)) hx hb hts iwsRX12_pivotsQuick_in12 hown hK hP 0 rfl rfl 5 (by decide) (hts _ hm_r_X12_pivotsQuick_3) (fun _ h9 => h9) rfl dX12_pivotsQuick_48 ?_
          refine lv_topi (fun y13 hy13 => ?_)
          obtain rfl : (nI C) = y13 := (hy13.trans (hC)).symm
          refine lv_icmp_gt (tgt := 199) hx hb dX12_pivotsQuick_51 (by decide) (fun c_51 => ?_) (fun c_51 => ?_)
          · have t_51 : ((j : Nat) : Int) > ((C : Nat) : Int) := toI_gt c_51 (nI_toInt (by omega)) (nI_toInt (by omega))
            refine lv_iinc (v := (nI (i + 1))) hx hb dX12_pivotsQuick_199 hl (k := 5) rfl (nI_add i 1) (by decide) rfl (fun ls (hl : lv_has ls _ ([(6, .int (nI (i + 1))), (0, .ref h0), (1, .int (nI rn)), (2, .int (nI cn)), (3, .long ((vG 7) (rn * (C + 1) + cn))), (5, .int 1), (7, .int (nI j))])) => ?_)
            refine lv_goto (tgt := 28) hx hb dX12_pivotsQuick_202 (by decide) ?_
            have hl : lv_has _ _ ([(0, .ref h0), (1, .int (nI rn)), (2, .int (nI cn)), (3, .long ((vG 7) (rn * (C + 1) + cn))), (5, .int 1), (6, .int (nI (i + 1)))]) := lv_sub hl [1, 2, 3, 4, 5, 0] rfl
            exact ih28 (i + 1) L8 _ _ _ (by omega) (by (have e9 : (i + 1) * (C + 1) = i * (C + 1) + j := by rw [Nat.succ_mul]; omega); rw [e9]; exact hb2) (by (have e9 : (i + 1) * (C + 1) = i * (C + 1) + j := by rw [Nat.succ_mul]; omega); rw [e9]; exact hv2) (by omega) hP hD hS hl
          · have t_51 : ¬ ((j : Nat) : Int) > ((C : Nat) : Int) := toI_ngt c_51 (nI_toInt (by omega)) (nI_toInt (by omega))
            have hij9 := pl_lt (C := C) (show i < R + Gq by omega) (show j ≤ C by omega)
            refine lv_aload_n hx hb dX12_pivotsQuick_54 rfl (lv_at hl 0 rfl) ?_
            refine va_get (D := (dC, dI)) (ci := 12) (v := .ref (a 7)) (C := RX12) (T := TX12) (N := 163) (fs := fM (vS a vi vj)) hx hb hts iwsRX12_pivotsQuick_in12 hown hK hP 0 rfl rfl 13 (by decide) (hts _ hm_r_X12_pivotsQuick_0) (fun _ h9 => h9) rfl dX12_pivotsQuick_55 ?_
            refine lv_aload_n hx hb dX12_pivotsQuick_58 rfl (lv_at hl 0 rfl) ?_
            refine lv_iload hx hb dX12_pivotsQuick_59 (lv_at hl 5 rfl) ?_
            refine lv_iload hx hb dX12_pivotsQuick_61 (lv_at hl 6 rfl) ?_
            have hFc := allFree hD hS hA
            refine va_calli (va_runV (As := [.int (nI i), .int (nI j)]) (rest := [.ref (a 7)]) ⟨hx, hb, hml, hown, hts⟩ (r_X12_place1 l dC dI a k h0 vi vj vF (fT vG 8 L8) i j C (by first | with_reducible assumption | decide | omega | rfl | assumption) H.size) (cwV 2 hts gwsRX12_pivotsQuick_0 rfl rfl rfl hd_yX12_place1_RX12 (by decide +kernel)) (fz_pre (va_recv hK hP (ci := 12) (q0 := 0) rfl rfl) hP hK hD) rfl rfl hl.1 rfl (lv_room (Nat.le_of_ble_eq_true rfl)) dX12_pivotsQuick_63 (by decide +kernel)) hS (fun q _ h => hFc q h) hFc (fun r63 u t9_ H locs ht hvm hw9 hB9 hz1 hk1 hS => ?_)
            have hP : va_P (dC, dI) vwCl (WR a k h0 vi vj vF (fT vG 8 L8)) H := fz_P ht hB9.1
            have hD := fz_sd hP (hB9.2.weaken (fun _ q _ h => hFc q.1 h)) rfl
            obtain rfl := hw9
            refine va_lald (cA := k 7) (n := 1000) (f := (vG 7)) hx hb hK hP 8 7 (WR_get 7 (by decide)) (TR_get 7 (by decide)) (vp_in_nI (show (i * (C + 1) + j) < 1000 by omega) (by omega)) dX12_pivotsQuick_66 ?_
            refine lv_topl (fun y14 hy14 => ?_)
            obtain rfl : ((vG 7) (i * (C + 1) + j)) = y14 := (hy14.trans (by rw [nI_clamp (by omega)])).symm
            refine lv_lstore hx hb dX12_pivotsQuick_67 hl (by decide) rfl (fun ls (hl : lv_has ls _ ([(8, .long ((vG 7) (i * (C + 1) + j))), (0, .ref h0), (1, .int (nI rn)), (2, .int (nI cn)), (3, .long ((vG 7) (rn * (C + 1) + cn))), (5, .int 1), (6, .int (nI i)), (7, .int (nI j))])) => ?_)
            refine lv_iload hx hb dX12_pivotsQuick_69 (lv_at hl 6 rfl) ?_
            refine lv_iload_n hx hb dX12_pivotsQuick_71 rfl (lv_at hl 2 rfl) ?_
            refine lv_icmp_ne (tgt := 101) hx hb dX12_pivotsQuick_72 (by decide) (fun c_72 => ?_) (fun c_72 => ?_)
            · have t_72 : ((i : Nat) : Int) ≠ ((rn : Nat) : Int) := toI_ne c_72 (nI_toInt (by omega)) (nI_toInt (by omega))
              refine lv_iload hx hb dX12_pivotsQuick_101 (lv_at hl 7 rfl) ?_
              refine lv_iload_n hx hb dX12_pivotsQuick_103 rfl (lv_at hl 3 rfl) ?_
              refine lv_icmp_ne (tgt := 117) hx hb dX12_pivotsQuick_104 (by decide) (fun c_104 => ?_) (fun c_104 => ?_)
              · have t_104 : ((j : Nat) : Int) ≠ ((cn : Nat) : Int) := toI_ne c_104 (nI_toInt (by omega)) (nI_toInt (by omega))
                have hy9 := pl_lt (C := C) (show i < R + Gq by omega) (show cn ≤ C by omega)
                have hz9 := pl_lt (C := C) (show rn < R + Gq by omega) (show j ≤ C by omega)
                refine lv_iload hx hb dX12_pivotsQuick_117 (lv_at hl 5 rfl) ?_
                refine lv_i2l hx hb dX12_pivotsQuick_119 rfl ?_
                refine lv_topl (fun y15 hy15 => ?_)
                obtain rfl : 1 = y15 := (hy15.trans (by decide)).symm
                refine lv_lload hx hb dX12_pivotsQuick_120 (lv_at hl 0 rfl) ?_
                refine lv_lload_n hx hb dX12_pivotsQuick_122 rfl (lv_at hl 4 rfl) ?_
                refine lv_lmul hx hb dX12_pivotsQuick_123 ?_
                refine lv_aload_n hx hb dX12_pivotsQuick_124 rfl (lv_at hl 1 rfl) ?_
                refine va_get (D := (dC, dI)) (ci := 12) (v := .ref (a 7)) (C := RX12) (T := TX12) (N := 163) (fs := fM (vS a vi vj)) hx hb hts iwsRX12_pivotsQuick_in12 hown hK hP 0 rfl rfl 13 (by decide) (hts _ hm_r_X12_pivotsQuick_0) (fun _ h9 => h9) rfl dX12_pivotsQuick_125 ?_
                refine lv_aload_n hx hb dX12_pivotsQuick_128 rfl (lv_at hl 1 rfl) ?_
                refine lv_iload hx hb dX12_pivotsQuick_129 (lv_at hl 6 rfl) ?_
                refine lv_iload_n hx hb dX12_pivotsQuick_131 rfl (lv_at hl 3 rfl) ?_
                have hFc := allFree hD hS hA
                refine va_calli (va_runV (As := [.int (nI i), .int (nI cn)]) (rest := [.ref (a 7), .long (((vG 7) (i * (C + 1) + j)) * ((vG 7) (rn * (C + 1) + cn))), .long 1]) ⟨hx, hb, hml, hown, hts⟩ (r_X12_place1 l dC dI a k h0 vi vj vF (fT vG 8 L8) i cn C (by first | with_reducible assumption | decide | omega | rfl | assumption) H.size) (cwV 2 hts gwsRX12_pivotsQuick_0 rfl rfl rfl hd_yX12_place1_RX12 (by decide +kernel)) (fz_pre (va_recv hK hP (ci := 12) (q0 := 0) rfl rfl) hP hK hD) rfl rfl hl.1 rfl (lv_room (Nat.le_of_ble_eq_true rfl)) dX12_pivotsQuick_132 (by decide +kernel)) hS (fun q _ h => hFc q h) hFc (fun r132 u t9_ H locs ht hvm hw9 hB9 hz1 hk1 hS => ?_)
                have hP : va_P (dC, dI) vwCl (WR a k h0 vi vj vF (fT vG 8 L8)) H := fz_P ht hB9.1
                have hD := fz_sd hP (hB9.2.weaken (fun _ q _ h => hFc q.1 h)) rfl
                obtain rfl := hw9
                refine va_lald (cA := k 7) (n := 1000) (f := (vG 7)) hx hb hK hP 8 7 (WR_get 7 (by decide)) (TR_get 7 (by decide)) (vp_in_nI (show (i * (C + 1) + cn) < 1000 by omega) (by omega)) dX12_pivotsQuick_135 ?_
                refine lv_topl (fun y16 hy16 => ?_)
                obtain rfl : ((vG 7) (i * (C + 1) + cn)) = y16 := (hy16.trans (by rw [nI_clamp (by omega)])).symm
                refine lv_aload_n hx hb dX12_pivotsQuick_136 rfl (lv_at hl 1 rfl) ?_
                refine va_get (D := (dC, dI)) (ci := 12) (v := .ref (a 7)) (C := RX12) (T := TX12) (N := 163) (fs := fM (vS a vi vj)) hx hb hts iwsRX12_pivotsQuick_in12 hown hK hP 0 rfl rfl 13 (by decide) (hts _ hm_r_X12_pivotsQuick_0) (fun _ h9 => h9) rfl dX12_pivotsQuick_137 ?_
                refine lv_aload_n hx hb dX12_pivotsQuick_140 rfl (lv_at hl 1 rfl) ?_
                refine lv_iload_n hx hb dX12_pivotsQuick_141 rfl (lv_at hl 2 rfl) ?_
                refine lv_iload hx hb dX12_pivotsQuick_142 (lv_at hl 7 rfl) ?_
                have hFc := allFree hD hS hA
                refine va_calli (va_runV (As := [.int (nI rn), .int (nI j)]) (rest := [.ref (a 7), .long ((vG 7) (i * (C + 1) + cn)), .long (((vG 7) (i * (C + 1) + j)) * ((vG 7) (rn * (C + 1) + cn))), .long 1]) ⟨hx, hb, hml, hown, hts⟩ (r_X12_place1 l dC dI a k h0 vi vj vF (fT vG 8 L8) rn j C (by first | with_reducible assumption | decide | omega | rfl | assumption) H.size) (cwV 2 hts gwsRX12_pivotsQuick_0 rfl rfl rfl hd_yX12_place1_RX12 (by decide +kernel)) (fz_pre (va_recv hK hP (ci := 12) (q0 := 0) rfl rfl) hP hK hD) rfl rfl hl.1 rfl (lv_room (Nat.le_of_ble_eq_true rfl)) dX12_pivotsQuick_144 (by decide +kernel)) hS (fun q _ h => hFc q h) hFc (fun r144 u t9_ H locs ht hvm hw9 hB9 hz1 hk1 hS => ?_)
                have hP : va_P (dC, dI) vwCl (WR a k h0 vi vj vF (fT vG 8 L8)) H := fz_P ht hB9.1
                have hD := fz_sd hP (hB9.2.weaken (fun _ q _ h => hFc q.1 h)) rfl
                obtain rfl := hw9
                refine va_lald (cA := k 7) (n := 1000) (f := (vG 7)) hx hb hK hP 8 7 (WR_get 7 (by decide)) (TR_get 7 (by decide)) (vp_in_nI (show (rn * (C + 1) + j) < 1000 by omega) (by omega)) dX12_pivotsQuick_147 ?_
                refine lv_topl (fun y17 hy17 => ?_)
                obtain rfl : ((vG 7) (rn * (C + 1) + j)) = y17 := (hy17.trans (by rw [nI_clamp (by omega)])).symm
                refine lv_lmul hx hb dX12_pivotsQuick_148 ?_
                refine lv_lsub hx hb dX12_pivotsQuick_149 ?_
                refine lv_aload_n hx hb dX12_pivotsQuick_150 rfl (lv_at hl 1 rfl) ?_
                refine va_get (D := (dC, dI)) (ci := 12) (v := .long (vj 12)) (C := RX12) (T := TX12) (N := 163) (fs := fM (vS a vi vj)) hx hb hts iwsRX12_pivotsQuick_in12 hown hK hP 0 rfl rfl 12 (by decide) (hts _ hm_r_X12_pivotsQuick_4) (fun _ h9 => h9) rfl dX12_pivotsQuick_151 ?_
                refine lv_ldiv hx hb dX12_pivotsQuick_154 (by exact ne0_64 (by rw [hQ.2.2.1]; exact hDp)) ?_
                refine lv_lmul hx hb dX12_pivotsQuick_155 ?_
                have hij := pl_lt (C := C) (show i < R + Gq by omega) (show j ≤ C by omega)
                have bx := hQ.1 (i * (C + 1) + j) hij
                have ex := hQ.2.1 i (by omega) j (by omega)
                have gx := sgI_p (x := t rn cn) (by omega)
                have bp := hQ.1 (rn * (C + 1) + cn) (pl_lt (by omega) (by omega))
                have ep := hQ.2.1 rn (by omega) cn (by omega)
                have by9 := hQ.1 (i * (C + 1) + cn) (pl_lt (by omega) (by omega))
                have ey := hQ.2.1 i (by omega) cn (by omega)
                have bz := hQ.1 (rn * (C + 1) + j) (pl_lt (by omega) (by omega))
                have ez := hQ.2.1 rn (by omega) j (by omega)
                have q1 := mulQ bx bp
                have q2 := mulQ by9 bz
                have q3 : (vG 7 (i * (C + 1) + j) * vG 7 (rn * (C + 1) + cn) - vG 7 (i * (C + 1) + cn) * vG 7 (rn * (C + 1) + j)).toInt = (vG 7 (i * (C + 1) + j)).toInt * (vG 7 (rn * (C + 1) + cn)).toInt - (vG 7 (i * (C + 1) + cn)).toInt * (vG 7 (rn * (C + 1) + j)).toInt := by rw [sub64 (by omega) (by omega), q1.1, q2.1]
                have q4 := div64 (x := (vG 7 (i * (C + 1) + j) * vG 7 (rn * (C + 1) + cn) - vG 7 (i * (C + 1) + cn) * vG 7 (rn * (C + 1) + j))) (y := vj 12) (by omega) (by rw [hQ.2.2.1]; exact hDp)
                have ev : ((1 * (((((vG 7) (i * (C + 1) + j)) * ((vG 7) (rn * (C + 1) + cn))) - (((vG 7) (i * (C + 1) + cn)) * ((vG 7) (rn * (C + 1) + j)))) / (vj 12)))).toInt = nvT rn cn (sgI (t rn cn)) t D i j := by rw [nv_in _ _ _ _ _ (by omega) (by omega), gx, one64, q4.1, q3, hQ.2.2.1, ex, ep, ey, ez, Int.sub_eq_add_neg, Int.neg_mul, Int.one_mul]; rw [Int.one_mul]
                obtain ⟨vv, hvv⟩ : ∃ vv, vv = ((1 * (((((vG 7) (i * (C + 1) + j)) * ((vG 7) (rn * (C + 1) + cn))) - (((vG 7) (i * (C + 1) + cn)) * ((vG 7) (rn * (C + 1) + j)))) / (vj 12))) : Int64) := ⟨_, rfl⟩
                rw [← hvv] at ev
                refine lv_topl (fun y18 hy18 => ?_)
                obtain rfl : vv = y18 := (hy18.trans (hvv.symm)).symm
                refine lv_lstore hx hb dX12_pivotsQuick_156 hl (by decide) rfl (fun ls (hl : lv_has ls _ ([(10, .long vv), (8, .long ((vG 7) (i * (C + 1) + j))), (0, .ref h0), (1, .int (nI rn)), (2, .int (nI cn)), (3, .long ((vG 7) (rn * (C + 1) + cn))), (5, .int 1), (6, .int (nI i)), (7, .int (nI j))])) => ?_)
                refine lv_lload hx hb dX12_pivotsQuick_158 (lv_at hl 0 rfl) ?_
                refine lv_ldc2 (v := 2147483648) hx hb hown (hts _ hm_r_X12_pivotsQuick_6) dX12_pivotsQuick_160 ?_
                refine W.lcmp hx hb dX12_pivotsQuick_163 ?_
                refine lv_if_ge (tgt := 176) hx hb dX12_pivotsQuick_164 (by decide) (fun c_164 => ?_) (fun c_164 => ?_)
                · have t_164 : (vv).toInt ≥ 2147483648 := toL_ge c_164 rfl (by decide)
                  refine lv_iconst (v := 0) hx hb dX12_pivotsQuick_176 (by decide) ?_
                  refine W.widen (k := 0) (n := 0) (by decide +kernel) (by decide +kernel) ?_
                  have e9 : fT vj 12 (vj 12) = vj := fT_id _ _ (rfl)
                  have hP := wr_Pj e9 hP
                  have hD := wr_Dj e9 hD
                  clear e9
                  have e9 : fT (fT vF 4 (vF 4)) 5 (vF 5) = vF := (fT_id _ _ (fT_ne _ _ (Nat.ne_of_beq_eq_false rfl))).trans (fT_id _ _ (rfl))
                  have hP := wr_PF e9 hP
                  have hD := wr_DF e9 hD
                  clear e9
                  have e9 : fT (fT vG 8 L8) 7 (vG 7) = fT vG 8 L8 := fT_id _ _ (fT_ne _ _ (Nat.ne_of_beq_eq_false rfl))
                  have hP := wr_PG e9 hP
                  have hD := wr_DG e9 hD
                  clear e9
                  exact W.zret (v := 0) hx hb hr rfl (fun t9_ ht hW => ⟨⟨0, ((vj 12), (vG 7), L8, (vF 4), (vF 5)), rfl, by (try dsimp only); exact Or.inl ⟨rfl, rfl, rfl, rfl, rfl⟩, by rw [ht]; exact hP, hD⟩, hS.F ht⟩) hS.2.2 dX12_pivotsQuick_177
                · have t_164 : ¬ (vv).toInt ≥ 2147483648 := toL_nge c_164 rfl (by decide)
                  refine lv_lload hx hb dX12_pivotsQuick_167 (lv_at hl 0 rfl) ?_
                  refine lv_ldc2 (v := (-2147483648)) hx hb hown (hts _ hm_r_X12_pivotsQuick_7) dX12_pivotsQuick_169 ?_
                  refine W.lcmp hx hb dX12_pivotsQuick_172 ?_
                  refine lv_if_gt (tgt := 178) hx hb dX12_pivotsQuick_173 (by decide) (fun c_173 => ?_) (fun c_173 => ?_)
                  · have t_173 : (vv).toInt > -2147483648 := toL_gt c_173 rfl (by decide)
                    refine lv_aload_n hx hb dX12_pivotsQuick_178 rfl (lv_at hl 2 rfl) ?_
                    refine va_get (D := (dC, dI)) (ci := 12) (v := .ref (a 8)) (C := RX12) (T := TX12) (N := 163) (fs := fM (vS a vi vj)) hx hb hts iwsRX12_pivotsQuick_in12 hown hK hP 0 rfl rfl 14 (by decide) (hts _ hm_r_X12_pivotsQuick_5) (fun _ h9 => h9) rfl dX12_pivotsQuick_179 ?_
                    refine lv_aload_n hx hb dX12_pivotsQuick_182 rfl (lv_at hl 2 rfl) ?_
                    refine lv_iload hx hb dX12_pivotsQuick_183 (lv_at hl 7 rfl) ?_
                    refine lv_iload hx hb dX12_pivotsQuick_185 (lv_at hl 8 rfl) ?_
                    have hFc := allFree hD hS hA
                    refine va_calli (va_runV (As := [.int (nI i), .int (nI j)]) (rest := [.ref (a 8)]) ⟨hx, hb, hml, hown, hts⟩ (r_X12_place1 l dC dI a k h0 vi vj vF (fT vG 8 L8) i j C (by first | with_reducible assumption | decide | omega | rfl | assumption) H.size) (cwV 2 hts gwsRX12_pivotsQuick_0 rfl rfl rfl hd_yX12_place1_RX12 (by decide +kernel)) (fz_pre (va_recv hK hP (ci := 12) (q0 := 0) rfl rfl) hP hK hD) rfl rfl hl.1 rfl (lv_room (Nat.le_of_ble_eq_true rfl)) dX12_pivotsQuick_187 (by decide +kernel)) hS (fun q _ h => hFc q h) hFc (fun r187 u t9_ H locs ht hvm hw9 hB9 hz1 hk1 hS => ?_)
                    have hP : va_P (dC, dI) vwCl (WR a k h0 vi vj vF (fT vG 8 L8)) H := fz_P ht hB9.1
                    have hD := fz_sd hP (hB9.2.weaken (fun _ q _ h => hFc q.1 h)) rfl
                    obtain rfl := hw9
                    refine lv_lload hx hb dX12_pivotsQuick_190 (lv_at hl 0 rfl) ?_
                    refine va_last (cA := k 8) (n := 1000) (f := L8) hx hb hK hP hD hS 9 8 (WR_get 8 (by decide)) (TR_get 8 (by decide)) (vp_in_nI (show (i * (C + 1) + j) < 1000 by omega) (by omega)) dX12_pivotsQuick_192 (fun H locs hP hD hS => ?_)
                    have e9 : fT vG 8 (vp_updL L8 ((nI (i * (C + 1) + j))).toNatClampNeg vv) = fT (fT vG 8 L8) 8 (vp_updL L8 ((nI (i * (C + 1) + j))).toNatClampNeg vv) := (fT_sm _ _ _ _).symm
                    have hP := wr_PG e9 (fz_w (WR_G 8 (by decide) _ rfl) hP)
                    have hD := wr_DG e9 (fz_wD (WR_G 8 (by decide) _ rfl) hD)
                    clear e9
                    refine lv_iinc (v := (nI (j + 1))) hx hb dX12_pivotsQuick_193 hl (k := 8) rfl (nI_add j 1) (by decide) rfl (fun ls (hl : lv_has ls _ ([(7, .int (nI (j + 1))), (10, .long vv), (8, .long ((vG 7) (i * (C + 1) + j))), (0, .ref h0), (1, .int (nI rn)), (2, .int (nI cn)), (3, .long ((vG 7) (rn * (C + 1) + cn))), (5, .int 1), (6, .int (nI i))])) => ?_)
                    refine lv_goto (tgt := 45) hx hb dX12_pivotsQuick_196 (by decide) ?_
                    have hl : lv_has _ _ ([(0, .ref h0), (1, .int (nI rn)), (2, .int (nI cn)), (3, .long ((vG 7) (rn * (C + 1) + cn))), (5, .int 1), (6, .int (nI i)), (7, .int (nI (j + 1)))]) := lv_sub hl [3, 4, 5, 6, 7, 8, 0] rfl
                    exact ih45_2 (j + 1) (vp_updL L8 ((nI (i * (C + 1) + j))).toNatClampNeg vv) _ _ _ (by omega) (fun p hp => by rw [updL_at (by omega)]; by_cases e9 : p = i * (C + 1) + j; (rw [if_pos e9]; omega); (rw [if_neg e9]; exact hb2 p (by omega))) (fun i2 j2 h1 h2 h3 => by rw [updL_at (by omega)]; by_cases e9 : i2 * (C + 1) + j2 = i * (C + 1) + j; (rw [if_pos e9, (pl_inj h2 (by omega) e9).1, (pl_inj h2 (by omega) e9).2]; exact ev); (rw [if_neg e9]; exact hv2 i2 j2 h1 h2 (by omega))) (by omega) hP hD hS hl
                  · have t_173 : ¬ (vv).toInt > -2147483648 := toL_ngt c_173 rfl (by decide)
                    refine lv_iconst (v := 0) hx hb dX12_pivotsQuick_176 (by decide) ?_
                    refine W.widen (k := 0) (n := 0) (by decide +kernel) (by decide +kernel) ?_
                    have e9 : fT vj 12 (vj 12) = vj := fT_id _ _ (rfl)
                    have hP := wr_Pj e9 hP
                    have hD := wr_Dj e9 hD
                    clear e9
                    have e9 : fT (fT vF 4 (vF 4)) 5 (vF 5) = vF := (fT_id _ _ (fT_ne _ _ (Nat.ne_of_beq_eq_false rfl))).trans (fT_id _ _ (rfl))
                    have hP := wr_PF e9 hP
                    have hD := wr_DF e9 hD
                    clear e9
                    have e9 : fT (fT vG 8 L8) 7 (vG 7) = fT vG 8 L8 := fT_id _ _ (fT_ne _ _ (Nat.ne_of_beq_eq_false rfl))
                    have hP := wr_PG e9 hP
                    have hD := wr_DG e9 hD
                    clear e9
                    exact W.zret (v := 0) hx hb hr rfl (fun t9_ ht hW => ⟨⟨0, ((vj 12), (vG 7), L8, (vF 4), (vF 5)), rfl, by (try dsimp only); exact Or.inl ⟨rfl, rfl, rfl, rfl, rfl⟩, by rw [ht]; exact hP, hD⟩, hS.F ht⟩) hS.2.2 dX12_pivotsQuick_177
              · have t_104 : ((j : Nat) : Int) = ((cn : Nat) : Int) := toI_nne c_104 (nI_toInt (by omega)) (nI_toInt (by omega))
                refine lv_iload hx hb dX12_pivotsQuick_107 (lv_at hl 5 rfl) ?_
                refine lv_ineg hx hb dX12_pivotsQuick_109 ?_
                refine lv_i2l hx hb dX12_pivotsQuick_110 rfl ?_
                refine lv_topl (fun y19 hy19 => ?_)
                obtain rfl : (-1) = y19 := (hy19.trans (by decide)).symm
                refine lv_lload hx hb dX12_pivotsQuick_111 (lv_at hl 0 rfl) ?_
                refine lv_lmul hx hb dX12_pivotsQuick_113 ?_
                refine lv_goto (tgt := 156) hx hb dX12_pivotsQuick_114 (by decide) ?_
                have hij := pl_lt (C := C) (show i < R + Gq by omega) (show j ≤ C by omega)
                have bx := hQ.1 (i * (C + 1) + j) hij
                have ex := hQ.2.1 i (by omega) j (by omega)
                have gx := sgI_p (x := t rn cn) (by omega)
                have ej : j = cn := by omega
                have ev : (((-1) * ((vG 7) (i * (C + 1) + j)))).toInt = nvT rn cn (sgI (t rn cn)) t D i j := by (have m9 := mone64 (x := vG 7 (i * (C + 1) + j)) (by omega)); rw [ej, nv_col _ _ _ _ _ (by omega), gx]; rw [ej] at m9 ex; omega
                obtain ⟨vv, hvv⟩ : ∃ vv, vv = (((-1) * ((vG 7) (i * (C + 1) + j))) : Int64) := ⟨_, rfl⟩
                rw [← hvv] at ev
                refine lv_topl (fun y20 hy20 => ?_)
                obtain rfl : vv = y20 := (hy20.trans (hvv.symm)).symm
                refine lv_lstore hx hb dX12_pivotsQuick_156 hl (by decide) rfl (fun ls (hl : lv_has ls _ ([(10, .long vv), (8, .long ((vG 7) (i * (C + 1) + j))), (0, .ref h0), (1, .int (nI rn)), (2, .int (nI cn)), (3, .long ((vG 7) (rn * (C + 1) + cn))), (5, .int 1), (6, .int (nI i)), (7, .int (nI j))])) => ?_)
                refine lv_lload hx hb dX12_pivotsQuick_158 (lv_at hl 0 rfl) ?_
                refine lv_ldc2 (v := 2147483648) hx hb hown (hts _ hm_r_X12_pivotsQuick_6) dX12_pivotsQuick_160 ?_
                refine W.lcmp hx hb dX12_pivotsQuick_163 ?_
                refine lv_if_ge (tgt := 176) hx hb dX12_pivotsQuick_164 (by decide) (fun c_164 => ?_) (fun c_164 => ?_)
                · have t_164 : (vv).toInt ≥ 2147483648 := toL_ge c_164 rfl (by decide)
                  refine lv_iconst (v := 0) hx hb dX12_pivotsQuick_176 (by decide) ?_
                  refine W.widen (k := 0) (n := 0) (by decide +kernel) (by decide +kernel) ?_
                  have e9 : fT vj 12 (vj 12) = vj := fT_id _ _ (rfl)
                  have hP := wr_Pj e9 hP
                  have hD := wr_Dj e9 hD
                  clear e9
                  have e9 : fT (fT vF 4 (vF 4)) 5 (vF 5) = vF := (fT_id _ _ (fT_ne _ _ (Nat.ne_of_beq_eq_false rfl))).trans (fT_id _ _ (rfl))
                  have hP := wr_PF e9 hP
                  have hD := wr_DF e9 hD
                  clear e9
                  have e9 : fT (fT vG 8 L8) 7 (vG 7) = fT vG 8 L8 := fT_id _ _ (fT_ne _ _ (Nat.ne_of_beq_eq_false rfl))
                  have hP := wr_PG e9 hP
                  have hD := wr_DG e9 hD
                  clear e9
                  exact W.zret (v := 0) hx hb hr rfl (fun t9_ ht hW => ⟨⟨0, ((vj 12), (vG 7), L8, (vF 4), (vF 5)), rfl, by (try dsimp only); exact Or.inl ⟨rfl, rfl, rfl, rfl, rfl⟩, by rw [ht]; exact hP, hD⟩, hS.F ht⟩) hS.2.2 dX12_pivotsQuick_177
                · have t_164 : ¬ (vv).toInt ≥ 2147483648 := toL_nge c_164 rfl (by decide)
                  refine lv_lload hx hb dX12_pivotsQuick_167 (lv_at hl 0 rfl) ?_
                  refine lv_ldc2 (v := (-2147483648)) hx hb hown (hts _ hm_r_X12_pivotsQuick_7) dX12_pivotsQuick_169 ?_
                  refine W.lcmp hx hb dX12_pivotsQuick_172 ?_
                  refine lv_if_gt (tgt := 178) hx hb dX12_pivotsQuick_173 (by decide) (fun c_173 => ?_) (fun c_173 => ?_)
                  · have t_173 : (vv).toInt > -2147483648 := toL_gt c_173 rfl (by decide)
                    refine lv_aload_n hx hb dX12_pivotsQuick_178 rfl (lv_at hl 2 rfl) ?_
                    refine va_get (D := (dC, dI)) (ci := 12) (v := .ref (a 8)) (C := RX12) (T := TX12) (N := 163) (fs := fM (vS a vi vj)) hx hb hts iwsRX12_pivotsQuick_in12 hown hK hP 0 rfl rfl 14 (by decide) (hts _ hm_r_X12_pivotsQuick_5) (fun _ h9 => h9) rfl dX12_pivotsQuick_179 ?_
                    refine lv_aload_n hx hb dX12_pivotsQuick_182 rfl (lv_at hl 2 rfl) ?_
                    refine lv_iload hx hb dX12_pivotsQuick_183 (lv_at hl 7 rfl) ?_
                    refine lv_iload hx hb dX12_pivotsQuick_185 (lv_at hl 8 rfl) ?_
                    have hFc := allFree hD hS hA
                    refine va_calli (va_runV (As := [.int (nI i), .int (nI j)]) (rest := [.ref (a 8)]) ⟨hx, hb, hml, hown, hts⟩ (r_X12_place1 l dC dI a k h0 vi vj vF (fT vG 8 L8) i j C (by first | with_reducible assumption | decide | omega | rfl | assumption) H.size) (cwV 2 hts gwsRX12_pivotsQuick_0 rfl rfl rfl hd_yX12_place1_RX12 (by decide +kernel)) (fz_pre (va_recv hK hP (ci := 12) (q0 := 0) rfl rfl) hP hK hD) rfl rfl hl.1 rfl (lv_room (Nat.le_of_ble_eq_true rfl)) dX12_pivotsQuick_187 (by decide +kernel)) hS (fun q _ h => hFc q h) hFc (fun r187_1 u t9_ H locs ht hvm hw9 hB9 hz1 hk1 hS => ?_)
                    have hP : va_P (dC, dI) vwCl (WR a k h0 vi vj vF (fT vG 8 L8)) H := fz_P ht hB9.1
                    have hD := fz_sd hP (hB9.2.weaken (fun _ q _ h => hFc q.1 h)) rfl
                    obtain rfl := hw9
                    refine lv_lload hx hb dX12_pivotsQuick_190 (lv_at hl 0 rfl) ?_
                    refine va_last (cA := k 8) (n := 1000) (f := L8) hx hb hK hP hD hS 9 8 (WR_get 8 (by decide)) (TR_get 8 (by decide)) (vp_in_nI (show (i * (C + 1) + j) < 1000 by omega) (by omega)) dX12_pivotsQuick_192 (fun H locs hP hD hS => ?_)
                    have e9 : fT vG 8 (vp_updL L8 ((nI (i * (C + 1) + j))).toNatClampNeg vv) = fT (fT vG 8 L8) 8 (vp_updL L8 ((nI (i * (C + 1) + j))).toNatClampNeg vv) := (fT_sm _ _ _ _).symm
                    have hP := wr_PG e9 (fz_w (WR_G 8 (by decide) _ rfl) hP)
                    have hD := wr_DG e9 (fz_wD (WR_G 8 (by decide) _ rfl) hD)
                    clear e9
                    refine lv_iinc (v := (nI (j + 1))) hx hb dX12_pivotsQuick_193 hl (k := 8) rfl (nI_add j 1) (by decide) rfl (fun ls (hl : lv_has ls _ ([(7, .int (nI (j + 1))), (10, .long vv), (8, .long ((vG 7) (i * (C + 1) + j))), (0, .ref h0), (1, .int (nI rn)), (2, .int (nI cn)), (3, .long ((vG 7) (rn * (C + 1) + cn))), (5, .int 1), (6, .int (nI i))])) => ?_)
                    refine lv_goto (tgt := 45) hx hb dX12_pivotsQuick_196 (by decide) ?_
                    have hl : lv_has _ _ ([(0, .ref h0), (1, .int (nI rn)), (2, .int (nI cn)), (3, .long ((vG 7) (rn * (C + 1) + cn))), (5, .int 1), (6, .int (nI i)), (7, .int (nI (j + 1)))]) := lv_sub hl [3, 4, 5, 6, 7, 8, 0] rfl
                    exact ih45_2 (j + 1) (vp_updL L8 ((nI (i * (C + 1) + j))).toNatClampNeg vv) _ _ _ (by omega) (fun p hp => by rw [updL_at (by omega)]; by_cases e9 : p = i * (C + 1) + j; (rw [if_pos e9]; omega); (rw [if_neg e9]; exact hb2 p (by omega))) (fun i2 j2 h1 h2 h3 => by rw [updL_at (by omega)]; by_cases e9 : i2 * (C + 1) + j2 = i * (C + 1) + j; (rw [if_pos e9, (pl_inj h2 (by omega) e9).1, (pl_inj h2 (by omega) e9).2]; exact ev); (rw [if_neg e9]; exact hv2 i2 j2 h1 h2 (by omega))) (by omega) hP hD hS hl
                  · have t_173 : ¬ (vv).toInt > -2147483648 := toL_ngt c_173 rfl (by decide)
                    refine lv_iconst (v := 0) hx hb dX12_pivotsQuick_176 (by decide) ?_
                    refine W.widen (k := 0) (n := 0) (by decide +kernel) (by decide +kernel) ?_
                    have e9 : fT vj 12 (vj 12) = vj := fT_id _ _ (rfl)
                    have hP := wr_Pj e9 hP
                    have hD := wr_Dj e9 hD
                    clear e9
                    have e9 : fT (fT vF 4 (vF 4)) 5 (vF 5) = vF := (fT_id _ _ (fT_ne _ _ (Nat.ne_of_beq_eq_false rfl))).trans (fT_id _ _ (rfl))
                    have hP := wr_PF e9 hP
                    have hD := wr_DF e9 hD
                    clear e9
                    have e9 : fT (fT vG 8 L8) 7 (vG 7) = fT vG 8 L8 := fT_id _ _ (fT_ne _ _ (Nat.ne_of_beq_eq_false rfl))
                    have hP := wr_PG e9 hP
                    have hD := wr_DG e9 hD
                    clear e9
                    exact W.zret (v := 0) hx hb hr rfl (fun t9_ ht hW => ⟨⟨0, ((vj 12), (vG 7), L8, (vF 4), (vF 5)), rfl, by (try dsimp only); exact Or.inl ⟨rfl, rfl, rfl, rfl, rfl⟩, by rw [ht]; exact hP, hD⟩, hS.F ht⟩) hS.2.2 dX12_pivotsQuick_177
            · have t_72 : ((i : Nat) : Int) = ((rn : Nat) : Int) := toI_nne c_72 (nI_toInt (by omega)) (nI_toInt (by omega))
              refine lv_iload hx hb dX12_pivotsQuick_75 (lv_at hl 7 rfl) ?_
              refine lv_iload_n hx hb dX12_pivotsQuick_77 rfl (lv_at hl 3 rfl) ?_
              refine lv_icmp_ne (tgt := 92) hx hb dX12_pivotsQuick_78 (by decide) (fun c_78 => ?_) (fun c_78 => ?_)
              · have t_78 : ((j : Nat) : Int) ≠ ((cn : Nat) : Int) := toI_ne c_78 (nI_toInt (by omega)) (nI_toInt (by omega))
                refine lv_iload hx hb dX12_pivotsQuick_92 (lv_at hl 5 rfl) ?_
                refine lv_i2l hx hb dX12_pivotsQuick_94 rfl ?_
                refine lv_topl (fun y21 hy21 => ?_)
                obtain rfl : 1 = y21 := (hy21.trans (by decide)).symm
                refine lv_lload hx hb dX12_pivotsQuick_95 (lv_at hl 0 rfl) ?_
                refine lv_lmul hx hb dX12_pivotsQuick_97 ?_
                refine lv_goto (tgt := 156) hx hb dX12_pivotsQuick_98 (by decide) ?_
                have hij := pl_lt (C := C) (show i < R + Gq by omega) (show j ≤ C by omega)
                have bx := hQ.1 (i * (C + 1) + j) hij
                have ex := hQ.2.1 i (by omega) j (by omega)
                have gx := sgI_p (x := t rn cn) (by omega)
                have ei : i = rn := by omega
                have ev : ((1 * ((vG 7) (i * (C + 1) + j)))).toInt = nvT rn cn (sgI (t rn cn)) t D i j := by (have m9 := one64 (vG 7 (i * (C + 1) + j))); rw [ei, nv_row _ _ _ _ _ (by omega), gx]; rw [ei] at m9 ex; omega
                obtain ⟨vv, hvv⟩ : ∃ vv, vv = ((1 * ((vG 7) (i * (C + 1) + j))) : Int64) := ⟨_, rfl⟩
                rw [← hvv] at ev
                refine lv_topl (fun y22 hy22 => ?_)
                obtain rfl : vv = y22 := (hy22.trans (hvv.symm)).symm
                refine lv_lstore hx hb dX12_pivotsQuick_156 hl (by decide) rfl (fun ls (hl : lv_has ls _ ([(10, .long vv), (8, .long ((vG 7) (i * (C + 1) + j))), (0, .ref h0), (1, .int (nI rn)), (2, .int (nI cn)), (3, .long ((vG 7) (rn * (C + 1) + cn))), (5, .int 1), (6, .int (nI i)), (7, .int (nI j))])) => ?_)
                refine lv_lload hx hb dX12_pivotsQuick_158 (lv_at hl 0 rfl) ?_
                refine lv_ldc2 (v := 2147483648) hx hb hown (hts _ hm_r_X12_pivotsQuick_6) dX12_pivotsQuick_160 ?_
                refine W.lcmp hx hb dX12_pivotsQuick_163 ?_
                refine lv_if_ge (tgt := 176) hx hb dX12_pivotsQuick_164 (by decide) (fun c_164 => ?_) (fun c_164 => ?_)
                · have t_164 : (vv).toInt ≥ 2147483648 := toL_ge c_164 rfl (by decide)
                  refine lv_iconst (v := 0) hx hb dX12_pivotsQuick_176 (by decide) ?_
                  refine W.widen (k := 0) (n := 0) (by decide +kernel) (by decide +kernel) ?_
                  have e9 : fT vj 12 (vj 12) = vj := fT_id _ _ (rfl)
                  have hP := wr_Pj e9 hP
                  have hD := wr_Dj e9 hD
                  clear e9
                  have e9 : fT (fT vF 4 (vF 4)) 5 (vF 5) = vF := (fT_id _ _ (fT_ne _ _ (Nat.ne_of_beq_eq_false rfl))).trans (fT_id _ _ (rfl))
                  have hP := wr_PF e9 hP
                  have hD := wr_DF e9 hD
                  clear e9
                  have e9 : fT (fT vG 8 L8) 7 (vG 7) = fT vG 8 L8 := fT_id _ _ (fT_ne _ _ (Nat.ne_of_beq_eq_false rfl))
                  have hP := wr_PG e9 hP
                  have hD := wr_DG e9 hD
                  clear e9
                  exact W.zret (v := 0) hx hb hr rfl (fun t9_ ht hW => ⟨⟨0, ((vj 12), (vG 7), L8, (vF 4), (vF 5)), rfl, by (try dsimp only); exact Or.inl ⟨rfl, rfl, rfl, rfl, rfl⟩, by rw [ht]; exact hP, hD⟩, hS.F ht⟩) hS.2.2 dX12_pivotsQuick_177
                · have t_164 : ¬ (vv).toInt ≥ 2147483648 := toL_nge c_164 rfl (by decide)
                  refine lv_lload hx hb dX12_pivotsQuick_167 (lv_at hl 0 rfl) ?_
                  refine lv_ldc2 (v := (-2147483648)) hx hb hown (hts _ hm_r_X12_pivotsQuick_7) dX12_pivotsQuick_169 ?_
                  refine W.lcmp hx hb dX12_pivotsQuick_172 ?_
                  refine lv_if_gt (tgt := 178) hx hb dX12_pivotsQuick_173 (by decide) (fun c_173 => ?_) (fun c_173 => ?_)
                  · have t_173 : (vv).toInt > -2147483648 := toL_gt c_173 rfl (by decide)
                    refine lv_aload_n hx hb dX12_pivotsQuick_178 rfl (lv_at hl 2 rfl) ?_
                    refine va_get (D := (dC, dI)) (ci := 12) (v := .ref (a 8)) (C := RX12) (T := TX12) (N := 163) (fs := fM (vS a vi vj)) hx hb hts iwsRX12_pivotsQuick_in12 hown hK hP 0 rfl rfl 14 (by decide) (hts _ hm_r_X12_pivotsQuick_5) (fun _ h9 => h9) rfl dX12_pivotsQuick_179 ?_
                    refine lv_aload_n hx hb dX12_pivotsQuick_182 rfl (lv_at hl 2 rfl) ?_
                    refine lv_iload hx hb dX12_pivotsQuick_183 (lv_at hl 7 rfl) ?_
                    refine lv_iload hx hb dX12_pivotsQuick_185 (lv_at hl 8 rfl) ?_
                    have hFc := allFree hD hS hA
                    refine va_calli (va_runV (As := [.int (nI i), .int (nI j)]) (rest := [.ref (a 8)]) ⟨hx, hb, hml, hown, hts⟩ (r_X12_place1 l dC dI a k h0 vi vj vF (fT vG 8 L8) i j C (by first | with_reducible assumption | decide | omega | rfl | assumption) H.size) (cwV 2 hts gwsRX12_pivotsQuick_0 rfl rfl rfl hd_yX12_place1_RX12 (by decide +kernel)) (fz_pre (va_recv hK hP (ci := 12) (q0 := 0) rfl rfl) hP hK hD) rfl rfl hl.1 rfl (lv_room (Nat.le_of_ble_eq_true rfl)) dX12_pivotsQuick_187 (by decide +kernel)) hS (fun q _ h => hFc q h) hFc (fun r187_2 u t9_ H locs ht hvm hw9 hB9 hz1 hk1 hS => ?_)
                    have hP : va_P (dC, dI) vwCl (WR a k h0 vi vj vF (fT vG 8 L8)) H := fz_P ht hB9.1
                    have hD := fz_sd hP (hB9.2.weaken (fun _ q _ h => hFc q.1 h)) rfl
                    obtain rfl := hw9
                    refine lv_lload hx hb dX12_pivotsQuick_190 (lv_at hl 0 rfl) ?_
                    refine va_last (cA := k 8) (n := 1000) (f := L8) hx hb hK hP hD hS 9 8 (WR_get 8 (by decide)) (TR_get 8 (by decide)) (vp_in_nI (show (i * (C + 1) + j) < 1000 by omega) (by omega)) dX12_pivotsQuick_192 (fun H locs hP hD hS => ?_)
                    have e9 : fT vG 8 (vp_updL L8 ((nI (i * (C + 1) + j))).toNatClampNeg vv) = fT (fT vG 8 L8) 8 (vp_updL L8 ((nI (i * (C + 1) + j))).toNatClampNeg vv) := (fT_sm _ _ _ _).symm
                    have hP := wr_PG e9 (fz_w (WR_G 8 (by decide) _ rfl) hP)
                    have hD := wr_DG e9 (fz_wD (WR_G 8 (by decide) _ rfl) hD)
                    clear e9
                    refine lv_iinc (v := (nI (j + 1))) hx hb dX12_pivotsQuick_193 hl (k := 8) rfl (nI_add j 1) (by decide) rfl (fun ls (hl : lv_has ls _ ([(7, .int (nI (j + 1))), (10, .long vv), (8, .long ((vG 7) (i * (C + 1) + j))), (0, .ref h0), (1, .int (nI rn)), (2, .int (nI cn)), (3, .long ((vG 7) (rn * (C + 1) + cn))), (5, .int 1), (6, .int (nI i))])) => ?_)
                    refine lv_goto (tgt := 45) hx hb dX12_pivotsQuick_196 (by decide) ?_
                    have hl : lv_has _ _ ([(0, .ref h0), (1, .int (nI rn)), (2, .int (nI cn)), (3, .long ((vG 7) (rn * (C + 1) + cn))), (5, .int 1), (6, .int (nI i)), (7, .int (nI (j + 1)))]) := lv_sub hl [3, 4, 5, 6, 7, 8, 0] rfl
                    exact ih45_2 (j + 1) (vp_updL L8 ((nI (i * (C + 1) + j))).toNatClampNeg vv) _ _ _ (by omega) (fun p hp => by rw [updL_at (by omega)]; by_cases e9 : p = i * (C + 1) + j; (rw [if_pos e9]; omega); (rw [if_neg e9]; exact hb2 p (by omega))) (fun i2 j2 h1 h2 h3 => by rw [updL_at (by omega)]; by_cases e9 : i2 * (C + 1) + j2 = i * (C + 1) + j; (rw [if_pos e9, (pl_inj h2 (by omega) e9).1, (pl_inj h2 (by omega) e9).2]; exact ev); (rw [if_neg e9]; exact hv2 i2 j2 h1 h2 (by omega))) (by omega) hP hD hS hl
                  · have t_173 : ¬ (vv).toInt > -2147483648 := toL_ngt c_173 rfl (by decide)
                    refine lv_iconst (v := 0) hx hb dX12_pivotsQuick_176 (by decide) ?_
                    refine W.widen (k := 0) (n := 0) (by decide +kernel) (by decide +kernel) ?_
                    have e9 : fT vj 12 (vj 12) = vj := fT_id _ _ (rfl)
                    have hP := wr_Pj e9 hP
                    have hD := wr_Dj e9 hD
                    clear e9
                    have e9 : fT (fT vF 4 (vF 4)) 5 (vF 5) = vF := (fT_id _ _ (fT_ne _ _ (Nat.ne_of_beq_eq_false rfl))).trans (fT_id _ _ (rfl))
                    have hP := wr_PF e9 hP
                    have hD := wr_DF e9 hD
                    clear e9
                    have e9 : fT (fT vG 8 L8) 7 (vG 7) = fT vG 8 L8 := fT_id _ _ (fT_ne _ _ (Nat.ne_of_beq_eq_false rfl))
                    have hP := wr_PG e9 hP
                    have hD := wr_DG e9 hD
                    clear e9
                    exact W.zret (v := 0) hx hb hr rfl (fun t9_ ht hW => ⟨⟨0, ((vj 12), (vG 7), L8, (vF 4), (vF 5)), rfl, by (try dsimp only); exact Or.inl ⟨rfl, rfl, rfl, rfl, rfl⟩, by rw [ht]; exact hP, hD⟩, hS.F ht⟩) hS.2.2 dX12_pivotsQuick_177
              · have t_78 : ((j : Nat) : Int) = ((cn : Nat) : Int) := toI_nne c_78 (nI_toInt (by omega)) (nI_toInt (by omega))
                refine lv_iload hx hb dX12_pivotsQuick_81 (lv_at hl 5 rfl) ?_
                refine lv_i2l hx hb dX12_pivotsQuick_83 rfl ?_
                refine lv_topl (fun y23 hy23 => ?_)
                obtain rfl : 1 = y23 := (hy23.trans (by decide)).symm
                refine lv_aload_n hx hb dX12_pivotsQuick_84 rfl (lv_at hl 1 rfl) ?_
                refine va_get (D := (dC, dI)) (ci := 12) (v := .long (vj 12)) (C := RX12) (T := TX12) (N := 163) (fs := fM (vS a vi vj)) hx hb hts iwsRX12_pivotsQuick_in12 hown hK hP 0 rfl rfl 12 (by decide) (hts _ hm_r_X12_pivotsQuick_4) (fun _ h9 => h9) rfl dX12_pivotsQuick_85 ?_
                refine lv_lmul hx hb dX12_pivotsQuick_88 ?_
                refine lv_goto (tgt := 156) hx hb dX12_pivotsQuick_89 (by decide) ?_
                have hij := pl_lt (C := C) (show i < R + Gq by omega) (show j ≤ C by omega)
                have bx := hQ.1 (i * (C + 1) + j) hij
                have ex := hQ.2.1 i (by omega) j (by omega)
                have gx := sgI_p (x := t rn cn) (by omega)
                have ei : i = rn := by omega
                have ej : j = cn := by omega
                have ev : ((1 * (vj 12))).toInt = nvT rn cn (sgI (t rn cn)) t D i j := by rw [ei, ej, nv_piv, gx]; (have e8 := hQ.2.2.1); (have m9 := one64 (vj 12)); omega
                obtain ⟨vv, hvv⟩ : ∃ vv, vv = ((1 * (vj 12)) : Int64) := ⟨_, rfl⟩
                rw [← hvv] at ev
                refine lv_topl (fun y24 hy24 => ?_)
                obtain rfl : vv = y24 := (hy24.trans (hvv.symm)).symm
                refine lv_lstore hx hb dX12_pivotsQuick_156 hl (by decide) rfl (fun ls (hl : lv_has ls _ ([(10, .long vv), (8, .long ((vG 7) (i * (C + 1) + j))), (0, .ref h0), (1, .int (nI rn)), (2, .int (nI cn)), (3, .long ((vG 7) (rn * (C + 1) + cn))), (5, .int 1), (6, .int (nI i)), (7, .int (nI j))])) => ?_)
                refine lv_lload hx hb dX12_pivotsQuick_158 (lv_at hl 0 rfl) ?_
                refine lv_ldc2 (v := 2147483648) hx hb hown (hts _ hm_r_X12_pivotsQuick_6) dX12_pivotsQuick_160 ?_
                refine W.lcmp hx hb dX12_pivotsQuick_163 ?_
                refine lv_if_ge (tgt := 176) hx hb dX12_pivotsQuick_164 (by decide) (fun c_164 => ?_) (fun c_164 => ?_)
                · have t_164 : (vv).toInt ≥ 2147483648 := toL_ge c_164 rfl (by decide)
                  refine lv_iconst (v := 0) hx hb dX12_pivotsQuick_176 (by decide) ?_
                  refine W.widen (k := 0) (n := 0) (by decide +kernel) (by decide +kernel) ?_
                  have e9 : fT vj 12 (vj 12) = vj := fT_id _ _ (rfl)
                  have hP := wr_Pj e9 hP
                  have hD := wr_Dj e9 hD
                  clear e9
                  have e9 : fT (fT vF 4 (vF 4)) 5 (vF 5) = vF := (fT_id _ _ (fT_ne _ _ (Nat.ne_of_beq_eq_false rfl))).trans (fT_id _ _ (rfl))
                  have hP := wr_PF e9 hP
                  have hD := wr_DF e9 hD
                  clear e9
                  have e9 : fT (fT vG 8 L8) 7 (vG 7) = fT vG 8 L8 := fT_id _ _ (fT_ne _ _ (Nat.ne_of_beq_eq_false rfl))
                  have hP := wr_PG e9 hP
                  have hD := wr_DG e9 hD
                  clear e9
                  exact W.zret (v := 0) hx hb hr rfl (fun t9_ ht hW => ⟨⟨0, ((vj 12), (vG 7), L8, (vF 4), (vF 5)), rfl, by (try dsimp only); exact Or.inl ⟨rfl, rfl, rfl, rfl, rfl⟩, by rw [ht]; exact hP, hD⟩, hS.F ht⟩) hS.2.2 dX12_pivotsQuick_177
                · have t_164 : ¬ (vv).toInt ≥ 2147483648 := toL_nge c_164 rfl (by decide)
                  refine lv_lload hx hb dX12_pivotsQuick_167 (lv_at hl 0 rfl) ?_
                  refine lv_ldc2 (v := (-2147483648)) hx hb hown (hts _ hm_r_X12_pivotsQuick_7) dX12_pivotsQuick_169 ?_
                  refine W.lcmp hx hb dX12_pivotsQuick_172 ?_
                  refine lv_if_gt (tgt := 178) hx hb dX12_pivotsQuick_173 (by decide) (fun c_173 => ?_) (fun c_173 => ?_)
                  · have t_173 : (vv).toInt > -2147483648 := toL_gt c_173 rfl (by decide)
                    refine lv_aload_n hx hb dX12_pivotsQuick_178 rfl (lv_at hl 2 rfl) ?_
                    refine va_get (D := (dC, dI)) (ci := 12) (v := .ref (a 8)) (C := RX12) (T := TX12) (N := 163) (fs := fM (vS a vi vj)) hx hb hts iwsRX12_pivotsQuick_in12 hown hK hP 0 rfl rfl 14 (by decide) (hts _ hm_r_X12_pivotsQuick_5) (fun _ h9 => h9) rfl dX12_pivotsQuick_179 ?_
                    refine lv_aload_n hx hb dX12_pivotsQuick_182 rfl (lv_at hl 2 rfl) ?_
                    refine lv_iload hx hb dX12_pivotsQuick_183 (lv_at hl 7 rfl) ?_
                    refine lv_iload hx hb dX12_pivotsQuick_185 (lv_at hl 8 rfl) ?_
                    have hFc := allFree hD hS hA
                    refine va_calli (va_runV (As := [.int (nI i), .int (nI j)]) (rest := [.ref (a 8)]) ⟨hx, hb, hml, hown, hts⟩ (r_X12_place1 l dC dI a k h0 vi vj vF (fT vG 8 L8) i j C (by first | with_reducible assumption | decide | omega | rfl | assumption) H.size) (cwV 2 hts gwsRX12_pivotsQuick_0 rfl rfl rfl hd_yX12_place1_RX12 (by decide +kernel)) (fz_pre (va_recv hK hP (ci := 12) (q0 := 0) rfl rfl) hP hK hD) rfl rfl hl.1 rfl (lv_room (Nat.le_of_ble_eq_true rfl)) dX12_pivotsQuick_187 (by decide +kernel)) hS (fun q _ h => hFc q h) hFc (fun r187_3 u t9_ H locs ht hvm hw9 hB9 hz1 hk1 hS => ?_)
                    have hP : va_P (dC, dI) vwCl (WR a k h0 vi vj vF (fT vG 8 L8)) H := fz_P ht hB9.1
                    have hD := fz_sd hP (hB9.2.weaken (fun _ q _ h => hFc q.1 h)) rfl
                    obtain rfl := hw9
                    refine lv_lload hx hb dX12_pivotsQuick_190 (lv_at hl 0 rfl) ?_
                    refine va_last (cA := k 8) (n := 1000) (f := L8) hx hb hK hP hD hS 9 8 (WR_get 8 (by decide)) (TR_get 8 (by decide)) (vp_in_nI (show (i * (C + 1) + j) < 1000 by omega) (by omega)) dX12_pivotsQuick_192 (fun H locs hP hD hS => ?_)
                    have e9 : fT vG 8 (vp_updL L8 ((nI (i * (C + 1) + j))).toNatClampNeg vv) = fT (fT vG 8 L8) 8 (vp_updL L8 ((nI (i * (C + 1) + j))).toNatClampNeg vv) := (fT_sm _ _ _ _).symm
                    have hP := wr_PG e9 (fz_w (WR_G 8 (by decide) _ rfl) hP)
                    have hD := wr_DG e9 (fz_wD (WR_G 8 (by decide) _ rfl) hD)
                    clear e9
                    refine lv_iinc (v := (nI (j + 1))) hx hb dX12_pivotsQuick_193 hl (k := 8) rfl (nI_add j 1) (by decide) rfl (fun ls (hl : lv_has ls _ ([(7, .int (nI (j + 1))), (10, .long vv), (8, .long ((vG 7) (i * (C + 1) + j))), (0, .ref h0), (1, .int (nI rn)), (2, .int (nI cn)), (3, .long ((vG 7) (rn * (C + 1) + cn))), (5, .int 1), (6, .int (nI i))])) => ?_)
                    refine lv_goto (tgt := 45) hx hb dX12_pivotsQuick_196 (by decide) ?_
                    have hl : lv_has _ _ ([(0, .ref h0), (1, .int (nI rn)), (2, .int (nI cn)), (3, .long ((vG 7) (rn * (C + 1) + cn))), (5, .int 1), (6, .int (nI i)), (7, .int (nI (j + 1)))]) := lv_sub hl [3, 4, 5, 6, 7, 8, 0] rfl
                    exact ih45_2 (j + 1) (vp_updL L8 ((nI (i * (C + 1) + j))).toNatClampNeg vv) _ _ _ (by omega) (fun p hp => by rw [updL_at (by omega)]; by_cases e9 : p = i * (C + 1) + j; (rw [if_pos e9]; omega); (rw [if_neg e9]; exact hb2 p (by omega))) (fun i2 j2 h1 h2 h3 => by rw [updL_at (by omega)]; by_cases e9 : i2 * (C + 1) + j2 = i * (C + 1) + j; (rw [if_pos e9, (pl_inj h2 (by omega) e9).1, (pl_inj h2 (by omega) e9).2]; exact ev); (rw [if_neg e9]; exact hv2 i2 j2 h1 h2 (by omega))) (by omega) hP hD hS hl
                  · have t_173 : ¬ (vv).toInt > -2147483648 := toL_ngt c_173 rfl (by decide)
                    refine lv_iconst (v := 0) hx hb dX12_pivotsQuick_176 (by decide) ?_
                    refine W.widen (k := 0) (n := 0) (by decide +kernel) (by decide +kernel) ?_
                    have e9 : fT vj 12 (vj 12) = vj := fT_id _ _ (rfl)
                    have hP := wr_Pj e9 hP
                    have hD := wr_Dj e9 hD
                    clear e9
                    have e9 : fT (fT vF 4 (vF 4)) 5 (vF 5) = vF := (fT_id _ _ (fT_ne _ _ (Nat.ne_of_beq_eq_false rfl))).trans (fT_id _ _ (rfl))
                    have hP := wr_PF e9 hP
                    have hD := wr_DF e9 hD
                    clear e9
                    have e9 : fT (fT vG 8 L8) 7 (vG 7) = fT vG 8 L8 := fT_id _ _ (fT_ne _ _ (Nat.ne_of_beq_eq_false rfl))
                    have hP := wr_PG e9 hP
                    have hD := wr_DG e9 hD
                    clear e9
                    exact W.zret (v := 0) hx hb hr rfl (fun t9_ ht hW => ⟨⟨0, ((vj 12), (vG 7), L8, (vF 4), (vF 5)), rfl, by (try dsimp only); exact Or.inl ⟨rfl, rfl, rfl, rfl, rfl⟩, by rw [ht]; exact hP, hD⟩, hS.F ht⟩) hS.2.2 dX12_pivotsQuick_177
  · have t_15 : ¬ (((vG 7) (rn * (C + 1) + cn))).toInt ≥ 0 := toL_nge c_15 rfl (by decide)
    refine lv_iconst (v := (-1)) hx hb dX12_pivotsQuick_18 (by decide) ?_
    refine lv_goto (tgt := 23) hx hb dX12_pivotsQuick_19 (by decide) ?_
    refine lv_istore hx hb dX12_pivotsQuick_23 hl (by decide) rfl (fun ls (hl : lv_has ls _ ([(5, .int (-1)), (3, .long ((vG 7) (rn * (C + 1) + cn))), (0, .ref h0), (1, .int (nI rn)), (2, .int (nI cn))])) => ?_)
    refine lv_iconst (v := 0) hx hb dX12_pivotsQuick_25 (by decide) ?_
    refine lv_istore hx hb dX12_pivotsQuick_26 hl (by decide) rfl (fun ls (hl : lv_has ls _ ([(6, .int 0), (5, .int (-1)), (3, .long ((vG 7) (rn * (C + 1) + cn))), (0, .ref h0), (1, .int (nI rn)), (2, .int (nI cn))])) => ?_)
    have e9 : fT vG 8 (vG 8) = vG := by funext q9; by_cases h9_8 : q9 = 8; (subst h9_8; exact (fT_eq _ _ _).trans (Eq.trans (by first | with_reducible rfl | with_reducible assumption | (symm; with_reducible assumption) | rfl | assumption | (symm; assumption) | (subst_vars; rfl)) (Eq.refl _).symm)); exact (fT_ne _ _ h9_8).trans (Eq.refl _).symm
    have hP := wr_PG e9 hP
    have hD := wr_DG e9 hD
    clear e9
    have hl : lv_has _ _ ([(0, .ref h0), (1, .int (nI rn)), (2, .int (nI cn)), (3, .long ((vG 7) (rn * (C + 1) + cn))), (5, .int (-1)), (6, .int (nI 0))]) := lv_sub hl [3, 4, 5, 2, 1, 0] rfl
    refine (fun (loop : ∀ (n9 : Nat) (i : Nat) (L8 : Nat → Int64) (H : Heap) (locs : List Loc) (ls : Array Slot), (i ≤ R + Gq) → (∀ p, p < i * (C + 1) → -2147483648 < (L8 p).toInt ∧ (L8 p).toInt < 2147483648) → (∀ i2 j2, i2 < R + Gq → j2 ≤ C → i2 * (C + 1) + j2 < i * (C + 1) → (L8 (i2 * (C + 1) + j2)).toInt = nvT rn cn (sgI (t rn cn)) t D i2 j2) →  (R + Gq < i + n9) → va_P (dC, dI) vwCl (WR a k h0 vi vj vF (fT vG 8 L8)) H → va_D A (WR a k h0 vi vj vF (fT vG 8 L8)) → va_S A s.heap H locs → lv_has ls 12 [(0, .ref h0), (1, .int (nI rn)), (2, .int (nI cn)), (3, .long ((vG 7) (rn * (C + 1) + cn))), (5, .int (-1)), (6, .int (nI i))] → W p l e _ s m _ below meth c H locs 0 0 _ (F0 m 28 ls [])) => loop (R + Gq + 1) 0 (vG 8) _ _ _ (by omega) (fun p hp => absurd hp (by rw [Nat.zero_mul]; omega)) (fun i2 j2 h1 h2 h3 => absurd h3 (by rw [Nat.zero_mul]; omega)) (by omega) hP hD hS hl) ?_
    intro n9
    induction n9 with
    | zero => intro i L8 H locs ls hi hbq hv hf9; exact False.elim (by omega)
    | succ n9 ih28_3 =>
      intro i L8 H locs ls hi hbq hv hf28_3 hP hD hS hl
      refine lv_iload hx hb dX12_pivotsQuick_28 (lv_at hl 5 rfl) ?_
      refine lv_aload_n hx hb dX12_pivotsQuick_30 rfl (lv_at hl 0 rfl) ?_
      refine va_get (D := (dC, dI)) (ci := 12) (v := .int (vi 6)) (C := RX12) (T := TX12) (N := 163) (fs := fM (vS a vi vj)) hx hb hts iwsRX12_pivotsQuick_in12 hown hK hP 0 rfl rfl 6 (by decide) (hts _ hm_r_X12_pivotsQuick_1) (fun _ h9 => h9) rfl dX12_pivotsQuick_31 ?_
      refine lv_topi (fun y25 hy25 => ?_)
      obtain rfl : (nI R) = y25 := (hy25.trans (hR)).symm
      refine lv_aload_n hx hb dX12_pivotsQuick_34 rfl (lv_at hl 0 rfl) ?_
      refine va_get (D := (dC, dI)) (ci := 12) (v := .int (vi 7)) (C := RX12) (T := TX12) (N := 163) (fs := fM (vS a vi vj)) hx hb hts iwsRX12_pivotsQuick_in12 hown hK hP 0 rfl rfl 7 (by decide) (hts _ hm_r_X12_pivotsQuick_2) (fun _ h9 => h9) rfl dX12_pivotsQuick_35 ?_
      refine lv_topi (fun y26 hy26 => ?_)
      obtain rfl : (nI Gq) = y26 := (hy26.trans (hG)).symm
      refine lv_iadd hx hb dX12_pivotsQuick_38 ?_
      refine lv_topi (fun y27 hy27 => ?_)
      obtain rfl : (nI (R + Gq)) = y27 := (hy27.trans (nI_add R Gq)).symm
      refine lv_icmp_ge (tgt := 205) hx hb dX12_pivotsQuick_39 (by decide) (fun c_39 => ?_) (fun c_39 => ?_)
      · have t_39 : ((i : Nat) : Int) ≥ (((R + Gq) : Nat) : Int) := toI_ge c_39 (nI_toInt (by omega)) (nI_toInt (by omega))
        refine lv_aload_n hx hb dX12_pivotsQuick_205 rfl (lv_at hl 0 rfl) ?_
        refine va_get (D := (dC, dI)) (ci := 12) (v := .int (vi 6)) (C := RX12) (T := TX12) (N := 163) (fs := fM (vS a vi vj)) hx hb hts iwsRX12_pivotsQuick_in12 hown hK hP 0 rfl rfl 6 (by decide) (hts _ hm_r_X12_pivotsQuick_1) (fun _ h9 => h9) rfl dX12_pivotsQuick_206 ?_
        refine lv_topi (fun y28 hy28 => ?_)
        obtain rfl : (nI R) = y28 := (hy28.trans (hR)).symm
        refine lv_aload_n hx hb dX12_pivotsQuick_209 rfl (lv_at hl 0 rfl) ?_
        refine va_get (D := (dC, dI)) (ci := 12) (v := .int (vi 7)) (C := RX12) (T := TX12) (N := 163) (fs := fM (vS a vi vj)) hx hb hts iwsRX12_pivotsQuick_in12 hown hK hP 0 rfl rfl 7 (by decide) (hts _ hm_r_X12_pivotsQuick_2) (fun _ h9 => h9) rfl dX12_pivotsQuick_210 ?_
        refine lv_topi (fun y29 hy29 => ?_)
        obtain rfl : (nI Gq) = y29 := (hy29.trans (hG)).symm
        refine lv_iadd hx hb dX12_pivotsQuick_213 ?_
        refine lv_topi (fun y30 hy30 => ?_)
        obtain rfl : (nI (R + Gq)) = y30 := (hy30.trans (nI_add R Gq)).symm
        refine lv_aload_n hx hb dX12_pivotsQuick_214 rfl (lv_at hl 0 rfl) ?_
        refine va_get (D := (dC, dI)) (ci := 12) (v := .int (vi 5)) (C := RX12) (T := TX12) (N := 163) (fs := fM (vS a vi vj)) hx hb hts iwsRX12_pivotsQuick_in12 hown hK hP 0 rfl rfl 5 (by decide) (hts _ hm_r_X12_pivotsQuick_3) (fun _ h9 => h9) rfl dX12_pivotsQuick_215 ?_
        refine lv_topi (fun y31 hy31 => ?_)
        obtain rfl : (nI C) = y31 := (hy31.trans (hC)).symm
        refine lv_iconst (v := 1) hx hb dX12_pivotsQuick_218 (by decide) ?_
        refine lv_iadd hx hb dX12_pivotsQuick_219 ?_
        refine lv_topi (fun y32 hy32 => ?_)
        obtain rfl : (nI (C + 1)) = y32 := (hy32.trans (nI_add C 1)).symm
        refine lv_imul hx hb dX12_pivotsQuick_220 ?_
        refine lv_topi (fun y33 hy33 => ?_)
        obtain rfl : (nI ((R + Gq) * (C + 1))) = y33 := (hy33.trans (pk_mul (R + Gq) (C + 1))).symm
        refine lv_istore hx hb dX12_pivotsQuick_221 hl (by decide) rfl (fun ls (hl : lv_has ls _ ([(6, .int (nI ((R + Gq) * (C + 1)))), (0, .ref h0), (1, .int (nI rn)), (2, .int (nI cn)), (3, .long ((vG 7) (rn * (C + 1) + cn))), (5, .int (-1))])) => ?_)
        refine lv_iconst (v := 0) hx hb dX12_pivotsQuick_223 (by decide) ?_
        refine lv_istore hx hb dX12_pivotsQuick_224 hl (by decide) rfl (fun ls (hl : lv_has ls _ ([(7, .int 0), (6, .int (nI ((R + Gq) * (C + 1)))), (0, .ref h0), (1, .int (nI rn)), (2, .int (nI cn)), (3, .long ((vG 7) (rn * (C + 1) + cn))), (5, .int (-1))])) => ?_)
        have e9 : fT (fT vG 8 L8) 7 (vG 7) = fT vG 8 L8 := by funext q9; by_cases h9_8 : q9 = 8; (subst h9_8; exact ((fT_ne _ _ (Nat.ne_of_beq_eq_false rfl)).trans (fT_eq _ _ _)).trans (Eq.trans (by first | with_reducible rfl | with_reducible assumption | (symm; with_reducible assumption) | rfl | assumption | (symm; assumption) | (subst_vars; rfl)) (fT_eq _ _ _).symm)); by_cases h9_7 : q9 = 7; (subst h9_7; exact (fT_eq _ _ _).trans (Eq.trans (by first | with_reducible rfl | with_reducible assumption | (symm; with_reducible assumption) | rfl | assumption | (symm; assumption) | (subst_vars; rfl)) (fT_ne _ _ (Nat.ne_of_beq_eq_false rfl)).symm)); exact ((fT_ne _ _ h9_7).trans (fT_ne _ _ h9_8)).trans (fT_ne _ _ h9_8).symm
        have hP := wr_PG e9 hP
        have hD := wr_DG e9 hD
        clear e9
        have hl : lv_has _ _ ([(0, .ref h0), (1, .int (nI rn)), (2, .int (nI cn)), (3, .long ((vG 7) (rn * (C + 1) + cn))), (5, .int (-1)), (7, .int (nI 0)), (6, .int (nI ((R + Gq) * (C + 1))))]) := lv_sub hl [2, 3, 4, 5, 6, 0, 1] rfl
        refine (fun (loop : ∀ (n9 : Nat) (k2 : Nat) (F : Nat → Int64) (H : Heap) (locs : List Loc) (ls : Array Slot), (k2 ≤ (R + Gq) * (C + 1)) → (∀ p, p < k2 → F p = L8 p) →  ((R + Gq) * (C + 1) < k2 + n9) → va_P (dC, dI) vwCl (WR a k h0 vi vj vF (fT (fT vG 8 L8) 7 F)) H → va_D A (WR a k h0 vi vj vF (fT (fT vG 8 L8) 7 F)) → va_S A s.heap H locs → lv_has ls 12 [(0, .ref h0), (1, .int (nI rn)), (2, .int (nI cn)), (3, .long ((vG 7) (rn * (C + 1) + cn))), (5, .int (-1)), (7, .int (nI k2)), (6, .int (nI ((R + Gq) * (C + 1))))] → W p l e _ s m _ below meth c H locs 0 0 _ (F0 m 226 ls [])) => loop ((R + Gq) * (C + 1) + 1) 0 (vG 7) _ _ _ (by omega) (fun p hp => absurd hp (by omega)) (by omega) hP hD hS hl) ?_
        intro n9
        induction n9 with
        | zero => intro k2 F H locs ls hk2 hF hf9; exact False.elim (by omega)
        | succ n9 ih226_4 =>
          intro k2 F H locs ls hk2 hF hf226_4 hP hD hS hl
          refine lv_iload hx hb dX12_pivotsQuick_226 (lv_at hl 5 rfl) ?_
          refine lv_iload hx hb dX12_pivotsQuick_228 (lv_at hl 6 rfl) ?_
          refine lv_icmp_ge (tgt := 253) hx hb dX12_pivotsQuick_230 (by decide) (fun c_230 => ?_) (fun c_230 => ?_)
          · have t_230 : ((k2 : Nat) : Int) ≥ ((((R + Gq) * (C + 1)) : Nat) : Int) := toI_ge c_230 (nI_toInt (by omega)) (nI_toInt (by omega))
            refine lv_aload_n hx hb dX12_pivotsQuick_253 rfl (lv_at hl 0 rfl) ?_
            refine lv_iload hx hb dX12_pivotsQuick_254 (lv_at hl 4 rfl) ?_
            refine lv_i2l hx hb dX12_pivotsQuick_256 rfl ?_
            refine lv_topl (fun y34 hy34 => ?_)
            obtain rfl : (-1) = y34 := (hy34.trans (by decide)).symm
            refine lv_lload_n hx hb dX12_pivotsQuick_257 rfl (lv_at hl 3 rfl) ?_
            refine lv_lmul hx hb dX12_pivotsQuick_258 ?_
            refine va_put (D := (dC, dI)) (ci := 12) (v := .long ((-1) * ((vG 7) (rn * (C + 1) + cn)))) (ty := .long) (C := RX12) (T := TX12) (N := 163) (fs := fM (vS a vi vj)) hx hb hts iwsRX12_pivotsQuick_in12 tyX12 tyX12_ok nmX12 hown hK hP hD hS 0 rfl rfl 12 (by decide) (hts _ hm_r_X12_pivotsQuick_4) (fun _ h9 => h9) rfl (by decide +kernel) rfl rfl (Nat.le_of_ble_eq_true rfl) dX12_pivotsQuick_259 (fun H locs hP hD hS => ?_)
            have hP : va_P (dC, dI) vwCl (WR a k h0 vi (fT vj 12 ((-1) * ((vG 7) (rn * (C + 1) + cn)))) vF (fT (fT vG 8 L8) 7 F)) H := fz_w (WR_l 12 _ rfl) hP
            have hD : va_D A (WR a k h0 vi (fT vj 12 ((-1) * ((vG 7) (rn * (C + 1) + cn)))) vF (fT (fT vG 8 L8) 7 F)) := fz_wD (WR_l 12 _ rfl) hD
            refine lv_aload_n hx hb dX12_pivotsQuick_262 rfl (lv_at hl 0 rfl) ?_
            refine lv_iload_n hx hb dX12_pivotsQuick_263 rfl (lv_at hl 1 rfl) ?_
            refine lv_iload_n hx hb dX12_pivotsQuick_264 rfl (lv_at hl 2 rfl) ?_
            have hFc := allFree hD hS hA
            refine va_callv (va_runV (As := [.int (nI rn), .int (nI cn)]) (rest := []) ⟨hx, hb, hml, hown, hts⟩ (r_X12_exchange l dC dI a k h0 vi (fT vj 12 ((-1) * ((vG 7) (rn * (C + 1) + cn)))) vF (fT (fT vG 8 L8) 7 F) rn cn (by first | with_reducible assumption | decide | omega | rfl | assumption) (by first | with_reducible assumption | decide | omega | rfl | assumption) H.size) (cwV 2 hts gwsRX12_pivotsQuick_1 rfl rfl rfl hd_yX12_exchange_RX12 (by decide +kernel)) (fz_pre (va_recv hK hP (ci := 12) (q0 := 0) rfl rfl) hP hK hD) rfl rfl hl.1 rfl (lv_room (Nat.le_of_ble_eq_true rfl)) dX12_pivotsQuick_265 (by decide +kernel)) hS (fun q _ h => hFc q h) hFc (fun u t9_ H locs ht hvm hw9 hB9 hz1 hk1 hS => ?_)
            have hP : va_P (dC, dI) vwCl (WR a k h0 vi (fT vj 12 ((-1) * ((vG 7) (rn * (C + 1) + cn)))) (fT (fT vF 4 (upd (vF 4) (nI cn).toNatClampNeg ((vF 5) rn))) 5 (upd (vF 5) (nI rn).toNatClampNeg ((vF 4) cn))) (fT (fT vG 8 L8) 7 F)) H := fz_P ht hB9.1
            have hD := fz_sd hP (hB9.2.weaken (fun _ q _ h => hFc q.1 h)) rfl
            refine lv_iconst (v := 1) hx hb dX12_pivotsQuick_268 (by decide) ?_
            refine W.widen (k := 0) (n := 0) (by decide +kernel) (by decide +kernel) ?_
            exact W.zret (v := 1) hx hb hr rfl (fun t9_ ht hW => ⟨⟨1, (((-1) * ((vG 7) (rn * (C + 1) + cn))), F, L8, (upd (vF 4) (nI cn).toNatClampNeg ((vF 5) rn)), (upd (vF 5) (nI rn).toNatClampNeg ((vF 4) cn))), rfl, by (try dsimp only); exact Or.inr ⟨rfl, ⟨fun p hp => by rw [hF p (by omega)]; exact hbq p (by rw [show i = R + Gq by omega]; exact hp), fun i2 hi2 j2 hj2 => by (have h9 := pl_lt hi2 hj2); rw [hF _ (by omega)]; exact hv i2 j2 hi2 hj2 (by rw [show i = R + Gq by omega]; exact h9), by (have bp := hQ.1 (rn * (C + 1) + cn) (pl_lt (by omega) (by omega))); (have ep := hQ.2.1 rn (by omega) cn (by omega)); rw [mone64 (by omega), sgI_n (x := t rn cn) (by omega), ep]; omega, by (have bp := hQ.1 (rn * (C + 1) + cn) (pl_lt (by omega) (by omega))); (have ep := hQ.2.1 rn (by omega) cn (by omega)); rw [sgI_n (x := t rn cn) (by omega)]; omega⟩, rfl, rfl⟩, by rw [ht]; exact hP, hD⟩, hS.F ht⟩) hS.2.2 dX12_pivotsQuick_269
          · have t_230 : ¬ ((k2 : Nat) : Int) ≥ ((((R + Gq) * (C + 1)) : Nat) : Int) := toI_nge c_230 (nI_toInt (by omega)) (nI_toInt (by omega))
            refine lv_aload_n hx hb dX12_pivotsQuick_233 rfl (lv_at hl 0 rfl) ?_
            refine va_get (D := (dC, dI)) (ci := 12) (v := .ref (a 7)) (C := RX12) (T := TX12) (N := 163) (fs := fM (vS a vi vj)) hx hb hts iwsRX12_pivotsQuick_in12 hown hK hP 0 rfl rfl 13 (by decide) (hts _ hm_r_X12_pivotsQuick_0) (fun _ h9 => h9) rfl dX12_pivotsQuick_234 ?_
            refine lv_iload hx hb dX12_pivotsQuick_237 (lv_at hl 5 rfl) ?_
            refine lv_aload_n hx hb dX12_pivotsQuick_239 rfl (lv_at hl 0 rfl) ?_
            refine va_get (D := (dC, dI)) (ci := 12) (v := .ref (a 8)) (C := RX12) (T := TX12) (N := 163) (fs := fM (vS a vi vj)) hx hb hts iwsRX12_pivotsQuick_in12 hown hK hP 0 rfl rfl 14 (by decide) (hts _ hm_r_X12_pivotsQuick_5) (fun _ h9 => h9) rfl dX12_pivotsQuick_240 ?_
            refine lv_iload hx hb dX12_pivotsQuick_243 (lv_at hl 5 rfl) ?_
            refine va_lald (cA := k 8) (n := 1000) (f := L8) hx hb hK hP 9 8 (WR_get 8 (by decide)) (TR_get 8 (by decide)) (vp_in_nI (show k2 < 1000 by omega) (by omega)) dX12_pivotsQuick_245 ?_
            refine lv_topl (fun y35 hy35 => ?_)
            obtain rfl : (L8 k2) = y35 := (hy35.trans (by rw [nI_clamp (by omega)])).symm
            refine va_last (cA := k 7) (n := 1000) (f := F) hx hb hK hP hD hS 8 7 (WR_get 7 (by decide)) (TR_get 7 (by decide)) (vp_in_nI (show k2 < 1000 by omega) (by omega)) dX12_pivotsQuick_246 (fun H locs hP hD hS => ?_)
            have e9 : fT (fT vG 8 L8) 7 (vp_updL F ((nI k2)).toNatClampNeg (L8 k2)) = fT (fT (fT vG 8 L8) 7 F) 7 (vp_updL F ((nI k2)).toNatClampNeg (L8 k2)) := (fT_sm _ _ _ _).symm
            have hP := wr_PG e9 (fz_w (WR_G 7 (by decide) _ rfl) hP)
            have hD := wr_DG e9 (fz_wD (WR_G 7 (by decide) _ rfl) hD)
            clear e9
            refine lv_iinc (v := (nI (k2 + 1))) hx hb dX12_pivotsQuick_247 hl (k := 5) rfl (nI_add k2 1) (by decide) rfl (fun ls (hl : lv_has ls _ ([(7, .int (nI (k2 + 1))), (0, .ref h0), (1, .int (nI rn)), (2, .int (nI cn)), (3, .long ((vG 7) (rn * (C + 1) + cn))), (5, .int (-1)), (6, .int (nI ((R + Gq) * (C + 1))))])) => ?_)
            refine lv_goto (tgt := 226) hx hb dX12_pivotsQuick_250 (by decide) ?_
            have hl : lv_has _ _ ([(0, .ref h0), (1, .int (nI rn)), (2, .int (nI cn)), (3, .long ((vG 7) (rn * (C + 1) + cn))), (5, .int (-1)), (7, .int (nI (k2 + 1))), (6, .int (nI ((R + Gq) * (C + 1))))]) := lv_sub hl [1, 2, 3, 4, 5, 0, 6] rfl
            exact ih226_4 (k2 + 1) (vp_updL F ((nI k2)).toNatClampNeg (L8 k2)) _ _ _ (by omega) (fun p hp => by rw [updL_at (by omega)]; by_cases e9 : p = k2; (rw [if_pos e9, e9]); (rw [if_neg e9]; exact hF p (by omega))) (by omega) hP hD hS hl
      · have t_39 : ¬ ((i : Nat) : Int) ≥ (((R + Gq) : Nat) : Int) := toI_nge c_39 (nI_toInt (by omega)) (nI_toInt (by omega))
        refine lv_iconst (v := 0) hx hb dX12_pivotsQuick_42 (by decide) ?_
        refine lv_istore hx hb dX12_pivotsQuick_43 hl (by decide) rfl (fun ls (hl : lv_has ls _ ([(7, .int 0), (0, .ref h0), (1, .int (nI rn)), (2, .int (nI cn)), (3, .long ((vG 7) (rn * (C + 1) + cn))), (5, .int (-1)), (6, .int (nI i))])) => ?_)
        have hl : lv_has _ _ ([(0, .ref h0), (1, .int (nI rn)), (2, .int (nI cn)), (3, .long ((vG 7) (rn * (C + 1) + cn))), (5, .int (-1)), (6, .int (nI i)), (7, .int (nI 0))]) := lv_sub hl [1, 2, 3, 4, 5, 6, 0] rfl
        refine (fun (loop : ∀ (n9 : Nat) (j : Nat) (L8 : Nat → Int64) (H : Heap) (locs : List Loc) (ls : Array Slot), (j ≤ C + 1) → (∀ p, p < i * (C + 1) + j → -2147483648 < (L8 p).toInt ∧ (L8 p).toInt < 2147483648) → (∀ i2 j2, i2 < R + Gq → j2 ≤ C → i2 * (C + 1) + j2 < i * (C + 1) + j → (L8 (i2 * (C + 1) + j2)).toInt = nvT rn cn (sgI (t rn cn)) t D i2 j2) →  (C + 1 < j + n9) → va_P (dC, dI) vwCl (WR a k h0 vi vj vF (fT vG 8 L8)) H → va_D A (WR a k h0 vi vj vF (fT vG 8 L8)) → va_S A s.heap H locs → lv_has ls 12 [(0, .ref h0), (1, .int (nI rn)), (2, .int (nI cn)), (3, .long ((vG 7) (rn * (C + 1) + cn))), (5, .int (-1)), (6, .int (nI i)), (7, .int (nI j))] → W p l e _ s m _ below meth c H locs 0 0 _ (F0 m 45 ls [])) => loop (C + 2) 0 L8 _ _ _ (by omega) (hbq) (hv) (by omega) hP hD hS hl) ?_
        intro n9
        induction n9 with
        | zero => intro j L8 H locs ls hj hb2 hv2 hf9; exact False.elim (by omega)
        | succ n9 ih45_5 =>
          intro j L8 H locs ls hj hb2 hv2 hf45_5 hP hD hS hl
          refine lv_iload hx hb dX12_pivotsQuick_45 (lv_at hl 6 rfl) ?_
          refine lv_aload_n hx hb dX12_pivotsQuick_47 rfl (lv_at hl 0 rfl) ?_
          refine va_get (D := (dC, dI)) (ci := 12) (v := .int (vi 5)) (C := RX12) (T := TX12) (N := 163) (fs := fM (vS a vi vj)) hx hb hts iwsRX12_pivotsQuick_in12 hown hK hP 0 rfl rfl 5 (by decide) (hts _ hm_r_X12_pivotsQuick_3) (fun _ h9 => h9) rfl dX12_pivotsQuick_48 ?_
          refine lv_topi (fun y36 hy36 => ?_)
          obtain rfl : (nI C) = y36 := (hy36.trans (hC)).symm
          refine lv_icmp_gt (tgt := 199) hx hb dX12_pivotsQuick_51 (by decide) (fun c_51 => ?_) (fun c_51 => ?_)
          · have t_51 : ((j : Nat) : Int) > ((C : Nat) : Int) := toI_gt c_51 (nI_toInt (by omega)) (nI_toInt (by omega))
            refine lv_iinc (v := (nI (i + 1))) hx hb dX12_pivotsQuick_199 hl (k := 5) rfl (nI_add i 1) (by decide) rfl (fun ls (hl : lv_has ls _ ([(6, .int (nI (i + 1))), (0, .ref h0), (1, .int (nI rn)), (2, .int (nI cn)), (3, .long ((vG 7) (rn * (C + 1) + cn))), (5, .int (-1)), (7, .int (nI j))])) => ?_)
            refine lv_goto (tgt := 28) hx hb dX12_pivotsQuick_202 (by decide) ?_
            have hl : lv_has _ _ ([(0, .ref h0), (1, .int (nI rn)), (2, .int (nI cn)), (3, .long ((vG 7) (rn * (C + 1) + cn))), (5, .int (-1)), (6, .int (nI (i + 1)))]) := lv_sub hl [1, 2, 3, 4, 5, 0] rfl
            exact ih28_3 (i + 1) L8 _ _ _ (by omega) (by (have e9 : (i + 1) * (C + 1) = i * (C + 1) + j := by rw [Nat.succ_mul]; omega); rw [e9]; exact hb2) (by (have e9 : (i + 1) * (C + 1) = i * (C + 1) + j := by rw [Nat.succ_mul]; omega); rw [e9]; exact hv2) (by omega) hP hD hS hl
          · have t_51 : ¬ ((j : Nat) : Int) > ((C : Nat) : Int) := toI_ngt c_51 (nI_toInt (by omega)) (nI_toInt (by omega))
            have hij9 := pl_lt (C := C) (show i < R + Gq by omega) (show j ≤ C by omega)
            refine lv_aload_n hx hb dX12_pivotsQuick_54 rfl (lv_at hl 0 rfl) ?_
            refine va_get (D := (dC, dI)) (ci := 12) (v := .ref (a 7)) (C := RX12) (T := TX12) (N := 163) (fs := fM (vS a vi vj)) hx hb hts iwsRX12_pivotsQuick_in12 hown hK hP 0 rfl rfl 13 (by decide) (hts _ hm_r_X12_pivotsQuick_0) (fun _ h9 => h9) rfl dX12_pivotsQuick_55 ?_
            refine lv_aload_n hx hb dX12_pivotsQuick_58 rfl (lv_at hl 0 rfl) ?_
            refine lv_iload hx hb dX12_pivotsQuick_59 (lv_at hl 5 rfl) ?_
            refine lv_iload hx hb dX12_pivotsQuick_61 (lv_at hl 6 rfl) ?_
            have hFc := allFree hD hS hA
            refine va_calli (va_runV (As := [.int (nI i), .int (nI j)]) (rest := [.ref (a 7)]) ⟨hx, hb, hml, hown, hts⟩ (r_X12_place1 l dC dI a k h0 vi vj vF (fT vG 8 L8) i j C (by first | with_reducible assumption | decide | omega | rfl | assumption) H.size) (cwV 2 hts gwsRX12_pivotsQuick_0 rfl rfl rfl hd_yX12_place1_RX12 (by decide +kernel)) (fz_pre (va_recv hK hP (ci := 12) (q0 := 0) rfl rfl) hP hK hD) rfl rfl hl.1 rfl (lv_room (Nat.le_of_ble_eq_true rfl)) dX12_pivotsQuick_63 (by decide +kernel)) hS (fun q _ h => hFc q h) hFc (fun r63_1 u t9_ H locs ht hvm hw9 hB9 hz1 hk1 hS => ?_)
            have hP : va_P (dC, dI) vwCl (WR a k h0 vi vj vF (fT vG 8 L8)) H := fz_P ht hB9.1
            have hD := fz_sd hP (hB9.2.weaken (fun _ q _ h => hFc q.1 h)) rfl
            obtain rfl := hw9
            refine va_lald (cA := k 7) (n := 1000) (f := (vG 7)) hx hb hK hP 8 7 (WR_get 7 (by decide)) (TR_get 7 (by decide)) (vp_in_nI (show (i * (C + 1) + j) < 1000 by omega) (by omega)) dX12_pivotsQuick_66 ?_
            refine lv_topl (fun y37 hy37 => ?_)
            obtain rfl : ((vG 7) (i * (C + 1) + j)) = y37 := (hy37.trans (by rw [nI_clamp (by omega)])).symm
            refine lv_lstore hx hb dX12_pivotsQuick_67 hl (by decide) rfl (fun ls (hl : lv_has ls _ ([(8, .long ((vG 7) (i * (C + 1) + j))), (0, .ref h0), (1, .int (nI rn)), (2, .int (nI cn)), (3, .long ((vG 7) (rn * (C + 1) + cn))), (5, .int (-1)), (6, .int (nI i)), (7, .int (nI j))])) => ?_)
            refine lv_iload hx hb dX12_pivotsQuick_69 (lv_at hl 6 rfl) ?_
            refine lv_iload_n hx hb dX12_pivotsQuick_71 rfl (lv_at hl 2 rfl) ?_
            refine lv_icmp_ne (tgt := 101) hx hb dX12_pivotsQuick_72 (by decide) (fun c_72 => ?_) (fun c_72 => ?_)
            · have t_72 : ((i : Nat) : Int) ≠ ((rn : Nat) : Int) := toI_ne c_72 (nI_toInt (by omega)) (nI_toInt (by omega))
              refine lv_iload hx hb dX12_pivotsQuick_101 (lv_at hl 7 rfl) ?_
              refine lv_iload_n hx hb dX12_pivotsQuick_103 rfl (lv_at hl 3 rfl) ?_
              refine lv_icmp_ne (tgt := 117) hx hb dX12_pivotsQuick_104 (by decide) (fun c_104 => ?_) (fun c_104 => ?_)
              · have t_104 : ((j : Nat) : Int) ≠ ((cn : Nat) : Int) := toI_ne c_104 (nI_toInt (by omega)) (nI_toInt (by omega))
                have hy9 := pl_lt (C := C) (show i < R + Gq by omega) (show cn ≤ C by omega)
                have hz9 := pl_lt (C := C) (show rn < R + Gq by omega) (show j ≤ C by omega)
                refine lv_iload hx hb dX12_pivotsQuick_117 (lv_at hl 5 rfl) ?_
                refine lv_i2l hx hb dX12_pivotsQuick_119 rfl ?_
                refine lv_topl (fun y38 hy38 => ?_)
                obtain rfl : (-1) = y38 := (hy38.trans (by decide)).symm
                refine lv_lload hx hb dX12_pivotsQuick_120 (lv_at hl 0 rfl) ?_
                refine lv_lload_n hx hb dX12_pivotsQuick_122 rfl (lv_at hl 4 rfl) ?_
                refine lv_lmul hx hb dX12_pivotsQuick_123 ?_
                refine lv_aload_n hx hb dX12_pivotsQuick_124 rfl (lv_at hl 1 rfl) ?_
                refine va_get (D := (dC, dI)) (ci := 12) (v := .ref (a 7)) (C := RX12) (T := TX12) (N := 163) (fs := fM (vS a vi vj)) hx hb hts iwsRX12_pivotsQuick_in12 hown hK hP 0 rfl rfl 13 (by decide) (hts _ hm_r_X12_pivotsQuick_0) (fun _ h9 => h9) rfl dX12_pivotsQuick_125 ?_
                refine lv_aload_n hx hb dX12_pivotsQuick_128 rfl (lv_at hl 1 rfl) ?_
                refine lv_iload hx hb dX12_pivotsQuick_129 (lv_at hl 6 rfl) ?_
                refine lv_iload_n hx hb dX12_pivotsQuick_131 rfl (lv_at hl 3 rfl) ?_
                have hFc := allFree hD hS hA
                refine va_calli (va_runV (As := [.int (nI i), .int (nI cn)]) (rest := [.ref (a 7), .long (((vG 7) (i * (C + 1) + j)) * ((vG 7) (rn * (C + 1) + cn))), .long (-1)]) ⟨hx, hb, hml, hown, hts⟩ (r_X12_place1 l dC dI a k h0 vi vj vF (fT vG 8 L8) i cn C (by first | with_reducible assumption | decide | omega | rfl | assumption) H.size) (cwV 2 hts gwsRX12_pivotsQuick_0 rfl rfl rfl hd_yX12_place1_RX12 (by decide +kernel)) (fz_pre (va_recv hK hP (ci := 12) (q0 := 0) rfl rfl) hP hK hD) rfl rfl hl.1 rfl (lv_room (Nat.le_of_ble_eq_true rfl)) dX12_pivotsQuick_132 (by decide +kernel)) hS (fun q _ h => hFc q h) hFc (fun r132_1 u t9_ H locs ht hvm hw9 hB9 hz1 hk1 hS => ?_)
                have hP : va_P (dC, dI) vwCl (WR a k h0 vi vj vF (fT vG 8 L8)) H := fz_P ht hB9.1
                have hD := fz_sd hP (hB9.2.weaken (fun _ q _ h => hFc q.1 h)) rfl
                obtain rfl := hw9
                refine va_lald (cA := k 7) (n := 1000) (f := (vG 7)) hx hb hK hP 8 7 (WR_get 7 (by decide)) (TR_get 7 (by decide)) (vp_in_nI (show (i * (C + 1) + cn) < 1000 by omega) (by omega)) dX12_pivotsQuick_135 ?_
                refine lv_topl (fun y39 hy39 => ?_)
                obtain rfl : ((vG 7) (i * (C + 1) + cn)) = y39 := (hy39.trans (by rw [nI_clamp (by omega)])).symm
                refine lv_aload_n hx hb dX12_pivotsQuick_136 rfl (lv_at hl 1 rfl) ?_
                refine va_get (D := (dC, dI)) (ci := 12) (v := .ref (a 7)) (C := RX12) (T := TX12) (N := 163) (fs := fM (vS a vi vj)) hx hb hts iwsRX12_pivotsQuick_in12 hown hK hP 0 rfl rfl 13 (by decide) (hts _ hm_r_X12_pivotsQuick_0) (fun _ h9 => h9) rfl dX12_pivotsQuick_137 ?_
                refine lv_aload_n hx hb dX12_pivotsQuick_140 rfl (lv_at hl 1 rfl) ?_
                refine lv_iload_n hx hb dX12_pivotsQuick_141 rfl (lv_at hl 2 rfl) ?_
                refine lv_iload hx hb dX12_pivotsQuick_142 (lv_at hl 7 rfl) ?_
                have hFc := allFree hD hS hA
                refine va_calli (va_runV (As := [.int (nI rn), .int (nI j)]) (rest := [.ref (a 7), .long ((vG 7) (i * (C + 1) + cn)), .long (((vG 7) (i * (C + 1) + j)) * ((vG 7) (rn * (C + 1) + cn))), .long (-1)]) ⟨hx, hb, hml, hown, hts⟩ (r_X12_place1 l dC dI a k h0 vi vj vF (fT vG 8 L8) rn j C (by first | with_reducible assumption | decide | omega | rfl | assumption) H.size) (cwV 2 hts gwsRX12_pivotsQuick_0 rfl rfl rfl hd_yX12_place1_RX12 (by decide +kernel)) (fz_pre (va_recv hK hP (ci := 12) (q0 := 0) rfl rfl) hP hK hD) rfl rfl hl.1 rfl (lv_room (Nat.le_of_ble_eq_true rfl)) dX12_pivotsQuick_144 (by decide +kernel)) hS (fun q _ h => hFc q h) hFc (fun r144_1 u t9_ H locs ht hvm hw9 hB9 hz1 hk1 hS => ?_)
                have hP : va_P (dC, dI) vwCl (WR a k h0 vi vj vF (fT vG 8 L8)) H := fz_P ht hB9.1
                have hD := fz_sd hP (hB9.2.weaken (fun _ q _ h => hFc q.1 h)) rfl
                obtain rfl := hw9
                refine va_lald (cA := k 7) (n := 1000) (f := (vG 7)) hx hb hK hP 8 7 (WR_get 7 (by decide)) (TR_get 7 (by decide)) (vp_in_nI (show (rn * (C + 1) + j) < 1000 by omega) (by omega)) dX12_pivotsQuick_147 ?_
                refine lv_topl (fun y40 hy40 => ?_)
                obtain rfl : ((vG 7) (rn * (C + 1) + j)) = y40 := (hy40.trans (by rw [nI_clamp (by omega)])).symm
                refine lv_lmul hx hb dX12_pivotsQuick_148 ?_
                refine lv_lsub hx hb dX12_pivotsQuick_149 ?_
                refine lv_aload_n hx hb dX12_pivotsQuick_150 rfl (lv_at hl 1 rfl) ?_
                refine va_get (D := (dC, dI)) (ci := 12) (v := .long (vj 12)) (C := RX12) (T := TX12) (N := 163) (fs := fM (vS a vi vj)) hx hb hts iwsRX12_pivotsQuick_in12 hown hK hP 0 rfl rfl 12 (by decide) (hts _ hm_r_X12_pivotsQuick_4) (fun _ h9 => h9) rfl dX12_pivotsQuick_151 ?_
                refine lv_ldiv hx hb dX12_pivotsQuick_154 (by exact ne0_64 (by rw [hQ.2.2.1]; exact hDp)) ?_
                refine lv_lmul hx hb dX12_pivotsQuick_155 ?_
                have hij := pl_lt (C := C) (show i < R + Gq by omega) (show j ≤ C by omega)
                have bx := hQ.1 (i * (C + 1) + j) hij
                have ex := hQ.2.1 i (by omega) j (by omega)
                have gx := sgI_n (x := t rn cn) (by omega)
                have bp := hQ.1 (rn * (C + 1) + cn) (pl_lt (by omega) (by omega))
                have ep := hQ.2.1 rn (by omega) cn (by omega)
                have by9 := hQ.1 (i * (C + 1) + cn) (pl_lt (by omega) (by omega))
                have ey := hQ.2.1 i (by omega) cn (by omega)
                have bz := hQ.1 (rn * (C + 1) + j) (pl_lt (by omega) (by omega))
                have ez := hQ.2.1 rn (by omega) j (by omega)
                have q1 := mulQ bx bp
                have q2 := mulQ by9 bz
                have q3 : (vG 7 (i * (C + 1) + j) * vG 7 (rn * (C + 1) + cn) - vG 7 (i * (C + 1) + cn) * vG 7 (rn * (C + 1) + j)).toInt = (vG 7 (i * (C + 1) + j)).toInt * (vG 7 (rn * (C + 1) + cn)).toInt - (vG 7 (i * (C + 1) + cn)).toInt * (vG 7 (rn * (C + 1) + j)).toInt := by rw [sub64 (by omega) (by omega), q1.1, q2.1]
                have q4 := div64 (x := (vG 7 (i * (C + 1) + j) * vG 7 (rn * (C + 1) + cn) - vG 7 (i * (C + 1) + cn) * vG 7 (rn * (C + 1) + j))) (y := vj 12) (by omega) (by rw [hQ.2.2.1]; exact hDp)
                have ev : (((-1) * (((((vG 7) (i * (C + 1) + j)) * ((vG 7) (rn * (C + 1) + cn))) - (((vG 7) (i * (C + 1) + cn)) * ((vG 7) (rn * (C + 1) + j)))) / (vj 12)))).toInt = nvT rn cn (sgI (t rn cn)) t D i j := by rw [nv_in _ _ _ _ _ (by omega) (by omega), gx, mone64 (by omega), q4.1, q3, hQ.2.2.1, ex, ep, ey, ez, Int.sub_eq_add_neg, Int.neg_mul, Int.one_mul]; rw [Int.neg_mul, Int.one_mul]
                obtain ⟨vv, hvv⟩ : ∃ vv, vv = (((-1) * (((((vG 7) (i * (C + 1) + j)) * ((vG 7) (rn * (C + 1) + cn))) - (((vG 7) (i * (C + 1) + cn)) * ((vG 7) (rn * (C + 1) + j)))) / (vj 12))) : Int64) := ⟨_, rfl⟩
                rw [← hvv] at ev
                refine lv_topl (fun y41 hy41 => ?_)
                obtain rfl : vv = y41 := (hy41.trans (hvv.symm)).symm
                refine lv_lstore hx hb dX12_pivotsQuick_156 hl (by decide) rfl (fun ls (hl : lv_has ls _ ([(10, .long vv), (8, .long ((vG 7) (i * (C + 1) + j))), (0, .ref h0), (1, .int (nI rn)), (2, .int (nI cn)), (3, .long ((vG 7) (rn * (C + 1) + cn))), (5, .int (-1)), (6, .int (nI i)), (7, .int (nI j))])) => ?_)
                refine lv_lload hx hb dX12_pivotsQuick_158 (lv_at hl 0 rfl) ?_
                refine lv_ldc2 (v := 2147483648) hx hb hown (hts _ hm_r_X12_pivotsQuick_6) dX12_pivotsQuick_160 ?_
                refine W.lcmp hx hb dX12_pivotsQuick_163 ?_
                refine lv_if_ge (tgt := 176) hx hb dX12_pivotsQuick_164 (by decide) (fun c_164 => ?_) (fun c_164 => ?_)
                · have t_164 : (vv).toInt ≥ 2147483648 := toL_ge c_164 rfl (by decide)
                  refine lv_iconst (v := 0) hx hb dX12_pivotsQuick_176 (by decide) ?_
                  refine W.widen (k := 0) (n := 0) (by decide +kernel) (by decide +kernel) ?_
                  have e9 : fT vj 12 (vj 12) = vj := fT_id _ _ (rfl)
                  have hP := wr_Pj e9 hP
                  have hD := wr_Dj e9 hD
                  clear e9
                  have e9 : fT (fT vF 4 (vF 4)) 5 (vF 5) = vF := (fT_id _ _ (fT_ne _ _ (Nat.ne_of_beq_eq_false rfl))).trans (fT_id _ _ (rfl))
                  have hP := wr_PF e9 hP
                  have hD := wr_DF e9 hD
                  clear e9
                  have e9 : fT (fT vG 8 L8) 7 (vG 7) = fT vG 8 L8 := fT_id _ _ (fT_ne _ _ (Nat.ne_of_beq_eq_false rfl))
                  have hP := wr_PG e9 hP
                  have hD := wr_DG e9 hD
                  clear e9
                  exact W.zret (v := 0) hx hb hr rfl (fun t9_ ht hW => ⟨⟨0, ((vj 12), (vG 7), L8, (vF 4), (vF 5)), rfl, by (try dsimp only); exact Or.inl ⟨rfl, rfl, rfl, rfl, rfl⟩, by rw [ht]; exact hP, hD⟩, hS.F ht⟩) hS.2.2 dX12_pivotsQuick_177
                · have t_164 : ¬ (vv).toInt ≥ 2147483648 := toL_nge c_164 rfl (by decide)
                  refine lv_lload hx hb dX12_pivotsQuick_167 (lv_at hl 0 rfl) ?_
                  refine lv_ldc2 (v := (-2147483648)) hx hb hown (hts _ hm_r_X12_pivotsQuick_7) dX12_pivotsQuick_169 ?_
                  refine W.lcmp hx hb dX12_pivotsQuick_172 ?_
                  refine lv_if_gt (tgt := 178) hx hb dX12_pivotsQuick_173 (by decide) (fun c_173 => ?_) (fun c_173 => ?_)
                  · have t_173 : (vv).toInt > -2147483648 := toL_gt c_173 rfl (by decide)
                    refine lv_aload_n hx hb dX12_pivotsQuick_178 rfl (lv_at hl 2 rfl) ?_
                    refine va_get (D := (dC, dI)) (ci := 12) (v := .ref (a 8)) (C := RX12) (T := TX12) (N := 163) (fs := fM (vS a vi vj)) hx hb hts iwsRX12_pivotsQuick_in12 hown hK hP 0 rfl rfl 14 (by decide) (hts _ hm_r_X12_pivotsQuick_5) (fun _ h9 => h9) rfl dX12_pivotsQuick_179 ?_
                    refine lv_aload_n hx hb dX12_pivotsQuick_182 rfl (lv_at hl 2 rfl) ?_
                    refine lv_iload hx hb dX12_pivotsQuick_183 (lv_at hl 7 rfl) ?_
                    refine lv_iload hx hb dX12_pivotsQuick_185 (lv_at hl 8 rfl) ?_
                    have hFc := allFree hD hS hA
                    refine va_calli (va_runV (As := [.int (nI i), .int (nI j)]) (rest := [.ref (a 8)]) ⟨hx, hb, hml, hown, hts⟩ (r_X12_place1 l dC dI a k h0 vi vj vF (fT vG 8 L8) i j C (by first | with_reducible assumption | decide | omega | rfl | assumption) H.size) (cwV 2 hts gwsRX12_pivotsQuick_0 rfl rfl rfl hd_yX12_place1_RX12 (by decide +kernel)) (fz_pre (va_recv hK hP (ci := 12) (q0 := 0) rfl rfl) hP hK hD) rfl rfl hl.1 rfl (lv_room (Nat.le_of_ble_eq_true rfl)) dX12_pivotsQuick_187 (by decide +kernel)) hS (fun q _ h => hFc q h) hFc (fun r187_4 u t9_ H locs ht hvm hw9 hB9 hz1 hk1 hS => ?_)
                    have hP : va_P (dC, dI) vwCl (WR a k h0 vi vj vF (fT vG 8 L8)) H := fz_P ht hB9.1
                    have hD := fz_sd hP (hB9.2.weaken (fun _ q _ h => hFc q.1 h)) rfl
                    obtain rfl := hw9
                    refine lv_lload hx hb dX12_pivotsQuick_190 (lv_at hl 0 rfl) ?_
                    refine va_last (cA := k 8) (n := 1000) (f := L8) hx hb hK hP hD hS 9 8 (WR_get 8 (by decide)) (TR_get 8 (by decide)) (vp_in_nI (show (i * (C + 1) + j) < 1000 by omega) (by omega)) dX12_pivotsQuick_192 (fun H locs hP hD hS => ?_)
                    have e9 : fT vG 8 (vp_updL L8 ((nI (i * (C + 1) + j))).toNatClampNeg vv) = fT (fT vG 8 L8) 8 (vp_updL L8 ((nI (i * (C + 1) + j))).toNatClampNeg vv) := (fT_sm _ _ _ _).symm
                    have hP := wr_PG e9 (fz_w (WR_G 8 (by decide) _ rfl) hP)
                    have hD := wr_DG e9 (fz_wD (WR_G 8 (by decide) _ rfl) hD)
                    clear e9
                    refine lv_iinc (v := (nI (j + 1))) hx hb dX12_pivotsQuick_193 hl (k := 8) rfl (nI_add j 1) (by decide) rfl (fun ls (hl : lv_has ls _ ([(7, .int (nI (j + 1))), (10, .long vv), (8, .long ((vG 7) (i * (C + 1) + j))), (0, .ref h0), (1, .int (nI rn)), (2, .int (nI cn)), (3, .long ((vG 7) (rn * (C + 1) + cn))), (5, .int (-1)), (6, .int (nI i))])) => ?_)
                    refine lv_goto (tgt := 45) hx hb dX12_pivotsQuick_196 (by decide) ?_
                    have hl : lv_has _ _ ([(0, .ref h0), (1, .int (nI rn)), (2, .int (nI cn)), (3, .long ((vG 7) (rn * (C + 1) + cn))), (5, .int (-1)), (6, .int (nI i)), (7, .int (nI (j + 1)))]) := lv_sub hl [3, 4, 5, 6, 7, 8, 0] rfl
                    exact ih45_5 (j + 1) (vp_updL L8 ((nI (i * (C + 1) + j))).toNatClampNeg vv) _ _ _ (by omega) (fun p hp => by rw [updL_at (by omega)]; by_cases e9 : p = i * (C + 1) + j; (rw [if_pos e9]; omega); (rw [if_neg e9]; exact hb2 p (by omega))) (fun i2 j2 h1 h2 h3 => by rw [updL_at (by omega)]; by_cases e9 : i2 * (C + 1) + j2 = i * (C + 1) + j; (rw [if_pos e9, (pl_inj h2 (by omega) e9).1, (pl_inj h2 (by omega) e9).2]; exact ev); (rw [if_neg e9]; exact hv2 i2 j2 h1 h2 (by omega))) (by omega) hP hD hS hl
                  · have t_173 : ¬ (vv).toInt > -2147483648 := toL_ngt c_173 rfl (by decide)
                    refine lv_iconst (v := 0) hx hb dX12_pivotsQuick_176 (by decide) ?_
                    refine W.widen (k := 0) (n := 0) (by decide +kernel) (by decide +kernel) ?_
                    have e9 : fT vj 12 (vj 12) = vj := fT_id _ _ (rfl)
                    have hP := wr_Pj e9 hP
                    have hD := wr_Dj e9 hD
                    clear e9
                    have e9 : fT (fT vF 4 (vF 4)) 5 (vF 5) = vF := (fT_id _ _ (fT_ne _ _ (Nat.ne_of_beq_eq_false rfl))).trans (fT_id _ _ (rfl))
                    have hP := wr_PF e9 hP
                    have hD := wr_DF e9 hD
                    clear e9
                    have e9 : fT (fT vG 8 L8) 7 (vG 7) = fT vG 8 L8 := fT_id _ _ (fT_ne _ _ (Nat.ne_of_beq_eq_false rfl))
                    have hP := wr_PG e9 hP
                    have hD := wr_DG e9 hD
                    clear e9
                    exact W.zret (v := 0) hx hb hr rfl (fun t9_ ht hW => ⟨⟨0, ((vj 12), (vG 7), L8, (vF 4), (vF 5)), rfl, by (try dsimp only); exact Or.inl ⟨rfl, rfl, rfl, rfl, rfl⟩, by rw [ht]; exact hP, hD⟩, hS.F ht⟩) hS.2.2 dX12_pivotsQuick_177
              · have t_104 : ((j : Nat) : Int) = ((cn : Nat) : Int) := toI_nne c_104 (nI_toInt (by omega)) (nI_toInt (by omega))
                refine lv_iload hx hb dX12_pivotsQuick_107 (lv_at hl 5 rfl) ?_
                refine lv_ineg hx hb dX12_pivotsQuick_109 ?_
                refine lv_i2l hx hb dX12_pivotsQuick_110 rfl ?_
                refine lv_lload hx hb dX12_pivotsQuick_111 (lv_at hl 0 rfl) ?_
                refine lv_lmul hx hb dX12_pivotsQuick_113 ?_
                refine lv_goto (tgt := 156) hx hb dX12_pivotsQuick_114 (by decide) ?_
                have hij := pl_lt (C := C) (show i < R + Gq by omega) (show j ≤ C by omega)
                have bx := hQ.1 (i * (C + 1) + j) hij
                have ex := hQ.2.1 i (by omega) j (by omega)
                have gx := sgI_n (x := t rn cn) (by omega)
                have ej : j = cn := by omega
                have ev : ((((-(-1))).toInt64 * ((vG 7) (i * (C + 1) + j)))).toInt = nvT rn cn (sgI (t rn cn)) t D i j := by show ((1 : Int64) * vG 7 (i * (C + 1) + j)).toInt = _; (have m9 := one64 (vG 7 (i * (C + 1) + j))); rw [ej, nv_col _ _ _ _ _ (by omega), gx]; rw [ej] at m9 ex; omega
                obtain ⟨vv, hvv⟩ : ∃ vv, vv = ((((-(-1))).toInt64 * ((vG 7) (i * (C + 1) + j))) : Int64) := ⟨_, rfl⟩
                rw [← hvv] at ev
                refine lv_topl (fun y42 hy42 => ?_)
                obtain rfl : vv = y42 := (hy42.trans (hvv.symm)).symm
                refine lv_lstore hx hb dX12_pivotsQuick_156 hl (by decide) rfl (fun ls (hl : lv_has ls _ ([(10, .long vv), (8, .long ((vG 7) (i * (C + 1) + j))), (0, .ref h0), (1, .int (nI rn)), (2, .int (nI cn)), (3, .long ((vG 7) (rn * (C + 1) + cn))), (5, .int (-1)), (6, .int (nI i)), (7, .int (nI j))])) => ?_)
                refine lv_lload hx hb dX12_pivotsQuick_158 (lv_at hl 0 rfl) ?_
                refine lv_ldc2 (v := 2147483648) hx hb hown (hts _ hm_r_X12_pivotsQuick_6) dX12_pivotsQuick_160 ?_
                refine W.lcmp hx hb dX12_pivotsQuick_163 ?_
                refine lv_if_ge (tgt := 176) hx hb dX12_pivotsQuick_164 (by decide) (fun c_164 => ?_) (fun c_164 => ?_)
                · have t_164 : (vv).toInt ≥ 2147483648 := toL_ge c_164 rfl (by decide)
                  refine lv_iconst (v := 0) hx hb dX12_pivotsQuick_176 (by decide) ?_
                  refine W.widen (k := 0) (n := 0) (by decide +kernel) (by decide +kernel) ?_
                  have e9 : fT vj 12 (vj 12) = vj := fT_id _ _ (rfl)
                  have hP := wr_Pj e9 hP
                  have hD := wr_Dj e9 hD
                  clear e9
                  have e9 : fT (fT vF 4 (vF 4)) 5 (vF 5) = vF := (fT_id _ _ (fT_ne _ _ (Nat.ne_of_beq_eq_false rfl))).trans (fT_id _ _ (rfl))
                  have hP := wr_PF e9 hP
                  have hD := wr_DF e9 hD
                  clear e9
                  have e9 : fT (fT vG 8 L8) 7 (vG 7) = fT vG 8 L8 := fT_id _ _ (fT_ne _ _ (Nat.ne_of_beq_eq_false rfl))
                  have hP := wr_PG e9 hP
                  have hD := wr_DG e9 hD
                  clear e9
                  exact W.zret (v := 0) hx hb hr rfl (fun t9_ ht hW => ⟨⟨0, ((vj 12), (vG 7), L8, (vF 4), (vF 5)), rfl, by (try dsimp only); exact Or.inl ⟨rfl, rfl, rfl, rfl, rfl⟩, by rw [ht]; exact hP, hD⟩, hS.F ht⟩) hS.2.2 dX12_pivotsQuick_177
                · have t_164 : ¬ (vv).toInt ≥ 2147483648 := toL_nge c_164 rfl (by decide)
                  refine lv_lload hx hb dX12_pivotsQuick_167 (lv_at hl 0 rfl) ?_
                  refine lv_ldc2 (v := (-2147483648)) hx hb hown (hts _ hm_r_X12_pivotsQuick_7) dX12_pivotsQuick_169 ?_
                  refine W.lcmp hx hb dX12_pivotsQuick_172 ?_
                  refine lv_if_gt (tgt := 178) hx hb dX12_pivotsQuick_173 (by decide) (fun c_173 => ?_) (fun c_173 => ?_)
                  · have t_173 : (vv).toInt > -2147483648 := toL_gt c_173 rfl (by decide)
                    refine lv_aload_n hx hb dX12_pivotsQuick_178 rfl (lv_at hl 2 rfl) ?_
                    refine va_get (D := (dC, dI)) (ci := 12) (v := .ref (a 8)) (C := RX12) (T := TX12) (N := 163) (fs := fM (vS a vi vj)) hx hb hts iwsRX12_pivotsQuick_in12 hown hK hP 0 rfl rfl 14 (by decide) (hts _ hm_r_X12_pivotsQuick_5) (fun _ h9 => h9) rfl dX12_pivotsQuick_179 ?_
                    refine lv_aload_n hx hb dX12_pivotsQuick_182 rfl (lv_at hl 2 rfl) ?_
                    refine lv_iload hx hb dX12_pivotsQuick_183 (lv_at hl 7 rfl) ?_
                    refine lv_iload hx hb dX12_pivotsQuick_185 (lv_at hl 8 rfl) ?_
                    have hFc := allFree hD hS hA
                    refine va_calli (va_runV (As := [.int (nI i), .int (nI j)]) (rest := [.ref (a 8)]) ⟨hx, hb, hml, hown, hts⟩ (r_X12_place1 l dC dI a k h0 vi vj vF (fT vG 8 L8) i j C (by first | with_reducible assumption | decide | omega | rfl | assumption) H.size) (cwV 2 hts gwsRX12_pivotsQuick_0 rfl rfl rfl hd_yX12_place1_RX12 (by decide +kernel)) (fz_pre (va_recv hK hP (ci := 12) (q0 := 0) rfl rfl) hP hK hD) rfl rfl hl.1 rfl (lv_room (Nat.le_of_ble_eq_true rfl)) dX12_pivotsQuick_187 (by decide +kernel)) hS (fun q _ h => hFc q h) hFc (fun r187_5 u t9_ H locs ht hvm hw9 hB9 hz1 hk1 hS => ?_)
                    have hP : va_P (dC, dI) vwCl (WR a k h0 vi vj vF (fT vG 8 L8)) H := fz_P ht hB9.1
                    have hD := fz_sd hP (hB9.2.weaken (fun _ q _ h => hFc q.1 h)) rfl
                    obtain rfl := hw9
                    refine lv_lload hx hb dX12_pivotsQuick_190 (lv_at hl 0 rfl) ?_
                    refine va_last (cA := k 8) (n := 1000) (f := L8) hx hb hK hP hD hS 9 8 (WR_get 8 (by decide)) (TR_get 8 (by decide)) (vp_in_nI (show (i * (C + 1) + j) < 1000 by omega) (by omega)) dX12_pivotsQuick_192 (fun H locs hP hD hS => ?_)
                    have e9 : fT vG 8 (vp_updL L8 ((nI (i * (C + 1) + j))).toNatClampNeg vv) = fT (fT vG 8 L8) 8 (vp_updL L8 ((nI (i * (C + 1) + j))).toNatClampNeg vv) := (fT_sm _ _ _ _).symm
                    have hP := wr_PG e9 (fz_w (WR_G 8 (by decide) _ rfl) hP)
                    have hD := wr_DG e9 (fz_wD (WR_G 8 (by decide) _ rfl) hD)
                    clear e9
                    refine lv_iinc (v := (nI (j + 1))) hx hb dX12_pivotsQuick_193 hl (k := 8) rfl (nI_add j 1) (by decide) rfl (fun ls (hl : lv_has ls _ ([(7, .int (nI (j + 1))), (10, .long vv), (8, .long ((vG 7) (i * (C + 1) + j))), (0, .ref h0), (1, .int (nI rn)), (2, .int (nI cn)), (3, .long ((vG 7) (rn * (C + 1) + cn))), (5, .int (-1)), (6, .int (nI i))])) => ?_)
                    refine lv_goto (tgt := 45) hx hb dX12_pivotsQuick_196 (by decide) ?_
                    have hl : lv_has _ _ ([(0, .ref h0), (1, .int (nI rn)), (2, .int (nI cn)), (3, .long ((vG 7) (rn * (C + 1) + cn))), (5, .int (-1)), (6, .int (nI i)), (7, .int (nI (j + 1)))]) := lv_sub hl [3, 4, 5, 6, 7, 8, 0] rfl
                    exact ih45_5 (j + 1) (vp_updL L8 ((nI (i * (C + 1) + j))).toNatClampNeg vv) _ _ _ (by omega) (fun p hp => by rw [updL_at (by omega)]; by_cases e9 : p = i * (C + 1) + j; (rw [if_pos e9]; omega); (rw [if_neg e9]; exact hb2 p (by omega))) (fun i2 j2 h1 h2 h3 => by rw [updL_at (by omega)]; by_cases e9 : i2 * (C + 1) + j2 = i * (C + 1) + j; (rw [if_pos e9, (pl_inj h2 (by omega) e9).1, (pl_inj h2 (by omega) e9).2]; exact ev); (rw [if_neg e9]; exact hv2 i2 j2 h1 h2 (by omega))) (by omega) hP hD hS hl
                  · have t_173 : ¬ (vv).toInt > -2147483648 := toL_ngt c_173 rfl (by decide)
                    refine lv_iconst (v := 0) hx hb dX12_pivotsQuick_176 (by decide) ?_
                    refine W.widen (k := 0) (n := 0) (by decide +kernel) (by decide +kernel) ?_
                    have e9 : fT vj 12 (vj 12) = vj := fT_id _ _ (rfl)
                    have hP := wr_Pj e9 hP
                    have hD := wr_Dj e9 hD
                    clear e9
                    have e9 : fT (fT vF 4 (vF 4)) 5 (vF 5) = vF := (fT_id _ _ (fT_ne _ _ (Nat.ne_of_beq_eq_false rfl))).trans (fT_id _ _ (rfl))
                    have hP := wr_PF e9 hP
                    have hD := wr_DF e9 hD
                    clear e9
                    have e9 : fT (fT vG 8 L8) 7 (vG 7) = fT vG 8 L8 := fT_id _ _ (fT_ne _ _ (Nat.ne_of_beq_eq_false rfl))
                    have hP := wr_PG e9 hP
                    have hD := wr_DG e9 hD
                    clear e9
                    exact W.zret (v := 0) hx hb hr rfl (fun t9_ ht hW => ⟨⟨0, ((vj 12), (vG 7), L8, (vF 4), (vF 5)), rfl, by (try dsimp only); exact Or.inl ⟨rfl, rfl, rfl, rfl, rfl⟩, by rw [ht]; exact hP, hD⟩, hS.F ht⟩) hS.2.2 dX12_pivotsQuick_177
            · have t_72 : ((i : Nat) : Int) = ((rn : Nat) : Int) := toI_nne c_72 (nI_toInt (by omega)) (nI_toInt (by omega))
              refine lv_iload hx hb dX12_pivotsQuick_75 (lv_at hl 7 rfl) ?_
              refine lv_iload_n hx hb dX12_pivotsQuick_77 rfl (lv_at hl 3 rfl) ?_
              refine lv_icmp_ne (tgt := 92) hx hb dX12_pivotsQuick_78 (by decide) (fun c_78 => ?_) (fun c_78 => ?_)
              · have t_78 : ((j : Nat) : Int) ≠ ((cn : Nat) : Int) := toI_ne c_78 (nI_toInt (by omega)) (nI_toInt (by omega))
                refine lv_iload hx hb dX12_pivotsQuick_92 (lv_at hl 5 rfl) ?_
                refine lv_i2l hx hb dX12_pivotsQuick_94 rfl ?_
                refine lv_topl (fun y43 hy43 => ?_)
                obtain rfl : (-1) = y43 := (hy43.trans (by decide)).symm
                refine lv_lload hx hb dX12_pivotsQuick_95 (lv_at hl 0 rfl) ?_
                refine lv_lmul hx hb dX12_pivotsQuick_97 ?_
                refine lv_goto (tgt := 156) hx hb dX12_pivotsQuick_98 (by decide) ?_
                have hij := pl_lt (C := C) (show i < R + Gq by omega) (show j ≤ C by omega)
                have bx := hQ.1 (i * (C + 1) + j) hij
                have ex := hQ.2.1 i (by omega) j (by omega)
                have gx := sgI_n (x := t rn cn) (by omega)
                have ei : i = rn := by omega
                have ev : (((-1) * ((vG 7) (i * (C + 1) + j)))).toInt = nvT rn cn (sgI (t rn cn)) t D i j := by (have m9 := mone64 (x := vG 7 (i * (C + 1) + j)) (by omega)); rw [ei, nv_row _ _ _ _ _ (by omega), gx]; rw [ei] at m9 ex; omega
                obtain ⟨vv, hvv⟩ : ∃ vv, vv = (((-1) * ((vG 7) (i * (C + 1) + j))) : Int64) := ⟨_, rfl⟩
                rw [← hvv] at ev
                refine lv_topl (fun y44 hy44 => ?_)
                obtain rfl : vv = y44 := (hy44.trans (hvv.symm)).symm
                refine lv_lstore hx hb dX12_pivotsQuick_156 hl (by decide) rfl (fun ls (hl : lv_has ls _ ([(10, .long vv), (8, .long ((vG 7) (i * (C + 1) + j))), (0, .ref h0), (1, .int (nI rn)), (2, .int (nI cn)), (3, .long ((vG 7) (rn * (C + 1) + cn))), (5, .int (-1)), (6, .int (nI i)), (7, .int (nI j))])) => ?_)
                refine lv_lload hx hb dX12_pivotsQuick_158 (lv_at hl 0 rfl) ?_
                refine lv_ldc2 (v := 2147483648) hx hb hown (hts _ hm_r_X12_pivotsQuick_6) dX12_pivotsQuick_160 ?_
                refine W.lcmp hx hb dX12_pivotsQuick_163 ?_
                refine lv_if_ge (tgt := 176) hx hb dX12_pivotsQuick_164 (by decide) (fun c_164 => ?_) (fun c_164 => ?_)
                · have t_164 : (vv).toInt ≥ 2147483648 := toL_ge c_164 rfl (by decide)
                  refine lv_iconst (v := 0) hx hb dX12_pivotsQuick_176 (by decide) ?_
                  refine W.widen (k := 0) (n := 0) (by decide +kernel) (by decide +kernel) ?_
                  have e9 : fT vj 12 (vj 12) = vj := fT_id _ _ (rfl)
                  have hP := wr_Pj e9 hP
                  have hD := wr_Dj e9 hD
                  clear e9
                  have e9 : fT (fT vF 4 (vF 4)) 5 (vF 5) = vF := (fT_id _ _ (fT_ne _ _ (Nat.ne_of_beq_eq_false rfl))).trans (fT_id _ _ (rfl))
                  have hP := wr_PF e9 hP
                  have hD := wr_DF e9 hD
                  clear e9
                  have e9 : fT (fT vG 8 L8) 7 (vG 7) = fT vG 8 L8 := fT_id _ _ (fT_ne _ _ (Nat.ne_of_beq_eq_false rfl))
                  have hP := wr_PG e9 hP
                  have hD := wr_DG e9 hD
                  clear e9
                  exact W.zret (v := 0) hx hb hr rfl (fun t9_ ht hW => ⟨⟨0, ((vj 12), (vG 7), L8, (vF 4), (vF 5)), rfl, by (try dsimp only); exact Or.inl ⟨rfl, rfl, rfl, rfl, rfl⟩, by rw [ht]; exact hP, hD⟩, hS.F ht⟩) hS.2.2 dX12_pivotsQuick_177
                · have t_164 : ¬ (vv).toInt ≥ 2147483648 := toL_nge c_164 rfl (by decide)
                  refine lv_lload hx hb dX12_pivotsQuick_167 (lv_at hl 0 rfl) ?_
                  refine lv_ldc2 (v := (-2147483648)) hx hb hown (hts _ hm_r_X12_pivotsQuick_7) dX12_pivotsQuick_169 ?_
                  refine W.lcmp hx hb dX12_pivotsQuick_172 ?_
                  refine lv_if_gt (tgt := 178) hx hb dX12_pivotsQuick_173 (by decide) (fun c_173 => ?_) (fun c_173 => ?_)
                  · have t_173 : (vv).toInt > -2147483648 := toL_gt c_173 rfl (by decide)
                    refine lv_aload_n hx hb dX12_pivotsQuick_178 rfl (lv_at hl 2 rfl) ?_
                    refine va_get (D := (dC, dI)) (ci := 12) (v := .ref (a 8)) (C := RX12) (T := TX12) (N := 163) (fs := fM (vS a vi vj)) hx hb hts iwsRX12_pivotsQuick_in12 hown hK hP 0 rfl rfl 14 (by decide) (hts _ hm_r_X12_pivotsQuick_5) (fun _ h9 => h9) rfl dX12_pivotsQuick_179 ?_
                    refine lv_aload_n hx hb dX12_pivotsQuick_182 rfl (lv_at hl 2 rfl) ?_
                    refine lv_iload hx hb dX12_pivotsQuick_183 (lv_at hl 7 rfl) ?_
                    refine lv_iload hx hb dX12_pivotsQuick_185 (lv_at hl 8 rfl) ?_
                    have hFc := allFree hD hS hA
                    refine va_calli (va_runV (As := [.int (nI i), .int (nI j)]) (rest := [.ref (a 8)]) ⟨hx, hb, hml, hown, hts⟩ (r_X12_place1 l dC dI a k h0 vi vj vF (fT vG 8 L8) i j C (by first | with_reducible assumption | decide | omega | rfl | assumption) H.size) (cwV 2 hts gwsRX12_pivotsQuick_0 rfl rfl rfl hd_yX12_place1_RX12 (by decide +kernel)) (fz_pre (va_recv hK hP (ci := 12) (q0 := 0) rfl rfl) hP hK hD) rfl rfl hl.1 rfl (lv_room (Nat.le_of_ble_eq_true rfl)) dX12_pivotsQuick_187 (by decide +kernel)) hS (fun q _ h => hFc q h) hFc (fun r187_6 u t9_ H locs ht hvm hw9 hB9 hz1 hk1 hS => ?_)
                    have hP : va_P (dC, dI) vwCl (WR a k h0 vi vj vF (fT vG 8 L8)) H := fz_P ht hB9.1
                    have hD := fz_sd hP (hB9.2.weaken (fun _ q _ h => hFc q.1 h)) rfl
                    obtain rfl := hw9
                    refine lv_lload hx hb dX12_pivotsQuick_190 (lv_at hl 0 rfl) ?_
                    refine va_last (cA := k 8) (n := 1000) (f := L8) hx hb hK hP hD hS 9 8 (WR_get 8 (by decide)) (TR_get 8 (by decide)) (vp_in_nI (show (i * (C + 1) + j) < 1000 by omega) (by omega)) dX12_pivotsQuick_192 (fun H locs hP hD hS => ?_)
                    have e9 : fT vG 8 (vp_updL L8 ((nI (i * (C + 1) + j))).toNatClampNeg vv) = fT (fT vG 8 L8) 8 (vp_updL L8 ((nI (i * (C + 1) + j))).toNatClampNeg vv) := (fT_sm _ _ _ _).symm
                    have hP := wr_PG e9 (fz_w (WR_G 8 (by decide) _ rfl) hP)
                    have hD := wr_DG e9 (fz_wD (WR_G 8 (by decide) _ rfl) hD)
                    clear e9
                    refine lv_iinc (v := (nI (j + 1))) hx hb dX12_pivotsQuick_193 hl (k := 8) rfl (nI_add j 1) (by decide) rfl (fun ls (hl : lv_has ls _ ([(7, .int (nI (j + 1))), (10, .long vv), (8, .long ((vG 7) (i * (C + 1) + j))), (0, .ref h0), (1, .int (nI rn)), (2, .int (nI cn)), (3, .long ((vG 7) (rn * (C + 1) + cn))), (5, .int (-1)), (6, .int (nI i))])) => ?_)
                    refine lv_goto (tgt := 45) hx hb dX12_pivotsQuick_196 (by decide) ?_
                    have hl : lv_has _ _ ([(0, .ref h0), (1, .int (nI rn)), (2, .int (nI cn)), (3, .long ((vG 7) (rn * (C + 1) + cn))), (5, .int (-1)), (6, .int (nI i)), (7, .int (nI (j + 1)))]) := lv_sub hl [3, 4, 5, 6, 7, 8, 0] rfl
                    exact ih45_5 (j + 1) (vp_updL L8 ((nI (i * (C + 1) + j))).toNatClampNeg vv) _ _ _ (by omega) (fun p hp => by rw [updL_at (by omega)]; by_cases e9 : p = i * (C + 1) + j; (rw [if_pos e9]; omega); (rw [if_neg e9]; exact hb2 p (by omega))) (fun i2 j2 h1 h2 h3 => by rw [updL_at (by omega)]; by_cases e9 : i2 * (C + 1) + j2 = i * (C + 1) + j; (rw [if_pos e9, (pl_inj h2 (by omega) e9).1, (pl_inj h2 (by omega) e9).2]; exact ev); (rw [if_neg e9]; exact hv2 i2 j2 h1 h2 (by omega))) (by omega) hP hD hS hl
                  · have t_173 : ¬ (vv).toInt > -2147483648 := toL_ngt c_173 rfl (by decide)
                    refine lv_iconst (v := 0) hx hb dX12_pivotsQuick_176 (by decide) ?_
                    refine W.widen (k := 0) (n := 0) (by decide +kernel) (by decide +kernel) ?_
                    have e9 : fT vj 12 (vj 12) = vj := fT_id _ _ (rfl)
                    have hP := wr_Pj e9 hP
                    have hD := wr_Dj e9 hD
                    clear e9
                    have e9 : fT (fT vF 4 (vF 4)) 5 (vF 5) = vF := (fT_id _ _ (fT_ne _ _ (Nat.ne_of_beq_eq_false rfl))).trans (fT_id _ _ (rfl))
                    have hP := wr_PF e9 hP
                    have hD := wr_DF e9 hD
                    clear e9
                    have e9 : fT (fT vG 8 L8) 7 (vG 7) = fT vG 8 L8 := fT_id _ _ (fT_ne _ _ (Nat.ne_of_beq_eq_false rfl))
                    have hP := wr_PG e9 hP
                    have hD := wr_DG e9 hD
                    clear e9
                    exact W.zret (v := 0) hx hb hr rfl (fun t9_ ht hW => ⟨⟨0, ((vj 12), (vG 7), L8, (vF 4), (vF 5)), rfl, by (try dsimp only); exact Or.inl ⟨rfl, rfl, rfl, rfl, rfl⟩, by rw [ht]; exact hP, hD⟩, hS.F ht⟩) hS.2.2 dX12_pivotsQuick_177
              · have t_78 : ((j : Nat) : Int) = ((cn : Nat) : Int) := toI_nne c_78 (nI_toInt (by omega)) (nI_toInt (by omega))
                refine lv_iload hx hb dX12_pivotsQuick_81 (lv_at hl 5 rfl) ?_
                refine lv_i2l hx hb dX12_pivotsQuick_83 rfl ?_
                refine lv_topl (fun y45 hy45 => ?_)
                obtain rfl : (-1) = y45 := (hy45.trans (by decide)).symm
                refine lv_aload_n hx hb dX12_pivotsQuick_84 rfl (lv_at hl 1 rfl) ?_
                refine va_get (D := (dC, dI)) (ci := 12) (v := .long (vj 12)) (C := RX12) (T := TX12) (N := 163) (fs := fM (vS a vi vj)) hx hb hts iwsRX12_pivotsQuick_in12 hown hK hP 0 rfl rfl 12 (by decide) (hts _ hm_r_X12_pivotsQuick_4) (fun _ h9 => h9) rfl dX12_pivotsQuick_85 ?_
                refine lv_lmul hx hb dX12_pivotsQuick_88 ?_
                refine lv_goto (tgt := 156) hx hb dX12_pivotsQuick_89 (by decide) ?_
                have hij := pl_lt (C := C) (show i < R + Gq by omega) (show j ≤ C by omega)
                have bx := hQ.1 (i * (C + 1) + j) hij
                have ex := hQ.2.1 i (by omega) j (by omega)
                have gx := sgI_n (x := t rn cn) (by omega)
                have ei : i = rn := by omega
                have ej : j = cn := by omega
                have ev : (((-1) * (vj 12))).toInt = nvT rn cn (sgI (t rn cn)) t D i j := by rw [ei, ej, nv_piv, gx]; (have e8 := hQ.2.2.1); (have m9 := mone64 (x := vj 12) (by omega)); omega
                obtain ⟨vv, hvv⟩ : ∃ vv, vv = (((-1) * (vj 12)) : Int64) := ⟨_, rfl⟩
                rw [← hvv] at ev
                refine lv_topl (fun y46 hy46 => ?_)
                obtain rfl : vv = y46 := (hy46.trans (hvv.symm)).symm
                refine lv_lstore hx hb dX12_pivotsQuick_156 hl (by decide) rfl (fun ls (hl : lv_has ls _ ([(10, .long vv), (8, .long ((vG 7) (i * (C + 1) + j))), (0, .ref h0), (1, .int (nI rn)), (2, .int (nI cn)), (3, .long ((vG 7) (rn * (C + 1) + cn))), (5, .int (-1)), (6, .int (nI i)), (7, .int (nI j))])) => ?_)
                refine lv_lload hx hb dX12_pivotsQuick_158 (lv_at hl 0 rfl) ?_
                refine lv_ldc2 (v := 2147483648) hx hb hown (hts _ hm_r_X12_pivotsQuick_6) dX12_pivotsQuick_160 ?_
                refine W.lcmp hx hb dX12_pivotsQuick_163 ?_
                refine lv_if_ge (tgt := 176) hx hb dX12_pivotsQuick_164 (by decide) (fun c_164 => ?_) (fun c_164 => ?_)
                · have t_164 : (vv).toInt ≥ 2147483648 := toL_ge c_164 rfl (by decide)
                  refine lv_iconst (v := 0) hx hb dX12_pivotsQuick_176 (by decide) ?_
                  refine W.widen (k := 0) (n := 0) (by decide +kernel) (by decide +kernel) ?_
                  have e9 : fT vj 12 (vj 12) = vj := fT_id _ _ (rfl)
                  have hP := wr_Pj e9 hP
                  have hD := wr_Dj e9 hD
                  clear e9
                  have e9 : fT (fT vF 4 (vF 4)) 5 (vF 5) = vF := (fT_id _ _ (fT_ne _ _ (Nat.ne_of_beq_eq_false rfl))).trans (fT_id _ _ (rfl))
                  have hP := wr_PF e9 hP
                  have hD := wr_DF e9 hD
                  clear e9
                  have e9 : fT (fT vG 8 L8) 7 (vG 7) = fT vG 8 L8 := fT_id _ _ (fT_ne _ _ (Nat.ne_of_beq_eq_false rfl))
                  have hP := wr_PG e9 hP
                  have hD := wr_DG e9 hD
                  clear e9
                  exact W.zret (v := 0) hx hb hr rfl (fun t9_ ht hW => ⟨⟨0, ((vj 12), (vG 7), L8, (vF 4), (vF 5)), rfl, by (try dsimp only); exact Or.inl ⟨rfl, rfl, rfl, rfl, rfl⟩, by rw [ht]; exact hP, hD⟩, hS.F ht⟩) hS.2.2 dX12_pivotsQuick_177
                · have t_164 : ¬ (vv).toInt ≥ 2147483648 := toL_nge c_164 rfl (by decide)
                  refine lv_lload hx hb dX12_pivotsQuick_167 (lv_at hl 0 rfl) ?_
                  refine lv_ldc2 (v := (-2147483648)) hx hb hown (hts _ hm_r_X12_pivotsQuick_7) dX12_pivotsQuick_169 ?_
                  refine W.lcmp hx hb dX12_pivotsQuick_172 ?_
                  refine lv_if_gt (tgt := 178) hx hb dX12_pivotsQuick_173 (by decide) (fun c_173 => ?_) (fun c_173 => ?_)
                  · have t_173 : (vv).toInt > -2147483648 := toL_gt c_173 rfl (by decide)
                    refine lv_aload_n hx hb dX12_pivotsQuick_178 rfl (lv_at hl 2 rfl) ?_
                    refine va_get (D := (dC, dI)) (ci := 12) (v := .ref (a 8)) (C := RX12) (T := TX12) (N := 163) (fs := fM (vS a vi vj)) hx hb hts iwsRX12_pivotsQuick_in12 hown hK hP 0 rfl rfl 14 (by decide) (hts _ hm_r_X12_pivotsQuick_5) (fun _ h9 => h9) rfl dX12_pivotsQuick_179 ?_
                    refine lv_aload_n hx hb dX12_pivotsQuick_182 rfl (lv_at hl 2 rfl) ?_
                    refine lv_iload hx hb dX12_pivotsQuick_183 (lv_at hl 7 rfl) ?_
                    refine lv_iload hx hb dX12_pivotsQuick_185 (lv_at hl 8 rfl) ?_
                    have hFc := allFree hD hS hA
                    refine va_calli (va_runV (As := [.int (nI i), .int (nI j)]) (rest := [.ref (a 8)]) ⟨hx, hb, hml, hown, hts⟩ (r_X12_place1 l dC dI a k h0 vi vj vF (fT vG 8 L8) i j C (by first | with_reducible assumption | decide | omega | rfl | assumption) H.size) (cwV 2 hts gwsRX12_pivotsQuick_0 rfl rfl rfl hd_yX12_place1_RX12 (by decide +kernel)) (fz_pre (va_recv hK hP (ci := 12) (q0 := 0) rfl rfl) hP hK hD) rfl rfl hl.1 rfl (lv_room (Nat.le_of_ble_eq_true rfl)) dX12_pivotsQuick_187 (by decide +kernel)) hS (fun q _ h => hFc q h) hFc (fun r187_7 u t9_ H locs ht hvm hw9 hB9 hz1 hk1 hS => ?_)
                    have hP : va_P (dC, dI) vwCl (WR a k h0 vi vj vF (fT vG 8 L8)) H := fz_P ht hB9.1
                    have hD := fz_sd hP (hB9.2.weaken (fun _ q _ h => hFc q.1 h)) rfl
                    obtain rfl := hw9
                    refine lv_lload hx hb dX12_pivotsQuick_190 (lv_at hl 0 rfl) ?_
                    refine va_last (cA := k 8) (n := 1000) (f := L8) hx hb hK hP hD hS 9 8 (WR_get 8 (by decide)) (TR_get 8 (by decide)) (vp_in_nI (show (i * (C + 1) + j) < 1000 by omega) (by omega)) dX12_pivotsQuick_192 (fun H locs hP hD hS => ?_)
                    have e9 : fT vG 8 (vp_updL L8 ((nI (i * (C + 1) + j))).toNatClampNeg vv) = fT (fT vG 8 L8) 8 (vp_updL L8 ((nI (i * (C + 1) + j))).toNatClampNeg vv) := (fT_sm _ _ _ _).symm
                    have hP := wr_PG e9 (fz_w (WR_G 8 (by decide) _ rfl) hP)
                    have hD := wr_DG e9 (fz_wD (WR_G 8 (by decide) _ rfl) hD)
                    clear e9
                    refine lv_iinc (v := (nI (j + 1))) hx hb dX12_pivotsQuick_193 hl (k := 8) rfl (nI_add j 1) (by decide) rfl (fun ls (hl : lv_has ls _ ([(7, .int (nI (j + 1))), (10, .long vv), (8, .long ((vG 7) (i * (C + 1) + j))), (0, .ref h0), (1, .int (nI rn)), (2, .int (nI cn)), (3, .long ((vG 7) (rn * (C + 1) + cn))), (5, .int (-1)), (6, .int (nI i))])) => ?_)
                    refine lv_goto (tgt := 45) hx hb dX12_pivotsQuick_196 (by decide) ?_
                    have hl : lv_has _ _ ([(0, .ref h0), (1, .int (nI rn)), (2, .int (nI cn)), (3, .long ((vG 7) (rn * (C + 1) + cn))), (5, .int (-1)), (6, .int (nI i)), (7, .int (nI (j + 1)))]) := lv_sub hl [3, 4, 5, 6, 7, 8, 0] rfl
                    exact ih45_5 (j + 1) (vp_updL L8 ((nI (i * (C + 1) + j))).toNatClampNeg vv) _ _ _ (by omega) (fun p hp => by rw [updL_at (by omega)]; by_cases e9 : p = i * (C + 1) + j; (rw [if_pos e9]; omega); (rw [if_neg e9]; exact hb2 p (by omega))) (fun i2 j2 h1 h2 h3 => by rw [updL_at (by omega)]; by_cases e9 : i2 * (C + 1) + j2 = i * (C + 1) + j; (rw [if_pos e9, (pl_inj h2 (by omega) e9).1, (pl_inj h2 (by omega) e9).2]; exact ev); (rw [if_neg e9]; exact hv2 i2 j2 h1 h2 (by omega))) (by omega) hP hD hS hl
                  · have t_173 : ¬ (vv).toInt > -2147483648 := toL_ngt c_173 rfl (by decide)
                    refine lv_iconst (v := 0) hx hb dX12_pivotsQuick_176 (by decide) ?_
                    refine W.widen (k := 0) (n := 0) (by decide +kernel) (by decide +kernel) ?_
                    have e9 : fT vj 12 (vj 12) = vj := fT_id _ _ (rfl)
                    have hP := wr_Pj e9 hP
                    have hD := wr_Dj e9 hD
                    clear e9
                    have e9 : fT (fT vF 4 (vF 4)) 5 (vF 5) = vF := (fT_id _ _ (fT_ne _ _ (Nat.ne_of_beq_eq_false rfl))).trans (fT_id _ _ (rfl))
                    have hP := wr_PF e9 hP
                    have hD := wr_DF e9 hD
                    clear e9
                    have e9 : fT (fT vG 8 L8) 7 (vG 7) = fT vG 8 L8 := fT_id _ _ (fT_ne _ _ (Nat.ne_of_beq_eq_false rfl))
                    have hP := wr_PG e9 hP
                    have hD := wr_DG e9 hD
                    clear e9
                    exact W.zret (v := 0) hx hb hr rfl (fun t9_ ht hW => ⟨⟨0, ((vj 12), (vG 7), L8, (vF 4), (vF 5)), rfl, by (try dsimp only); exact Or.inl ⟨rfl, rfl, rfl, rfl, rfl⟩, by rw [ht]; exact hP, hD⟩, hS.F ht⟩) hS.2.2 dX12_pivotsQuick_177
end
section
theorem hd_yX12_pivotsQuick_RX12 : yX12_pivotsQuick.cls = RX12 ∧ yX12_pivotsQuick.cls ≠ "java/lang/invoke/MethodHandle" ∧ yX12_pivotsQuick.cls ≠ "java/lang/invoke/VarHandle" ∧ (parseMethodDescriptor yX12_pivotsQuick.desc).map (fun d => d.parameters.length) = some 2 := by decide +kernel
theorem hd_yX12_spill_RX12 : yX12_spill.cls = RX12 ∧ yX12_spill.cls ≠ "java/lang/invoke/MethodHandle" ∧ yX12_spill.cls ≠ "java/lang/invoke/VarHandle" ∧ (parseMethodDescriptor yX12_spill.desc).map (fun d => d.parameters.length) = some 0 := by decide +kernel
theorem hd_yX12_add_RX12 : yX12_add.cls = RX12 ∧ yX12_add.cls ≠ "java/lang/invoke/MethodHandle" ∧ yX12_add.cls ≠ "java/lang/invoke/VarHandle" ∧ (parseMethodDescriptor yX12_add.desc).map (fun d => d.parameters.length) = some 4 := by decide +kernel
theorem dX12_pivot_0 : decode cX12_pivot 0 = .ok (.aload_n 0, 1) := dk_42 (by decide +kernel)
theorem dX12_pivot_1 : decode cX12_pivot 1 = .ok (.getfield 414, 3) := dk_180 (by decide +kernel)
theorem dX12_pivot_4 : decode cX12_pivot 4 = .ok (.ifCond .eq 13, 3) := dk_153 (by decide +kernel)
theorem dX12_pivot_7 : decode cX12_pivot 7 = .ok (.aload_n 0, 1) := dk_42 (by decide +kernel)
theorem dX12_pivot_8 : decode cX12_pivot 8 = .ok (.iload_n 1, 1) := dk_27 (by decide +kernel)
theorem dX12_pivot_9 : decode cX12_pivot 9 = .ok (.iload_n 2, 1) := dk_28 (by decide +kernel)
theorem dX12_pivot_10 : decode cX12_pivot 10 = .ok (.invokevirtual 436, 3) := dk_182 (by decide +kernel)
theorem dX12_pivot_13 : decode cX12_pivot 13 = .ok (.ifCond .eq 4, 3) := dk_153 (by decide +kernel)
theorem dX12_pivot_16 : decode cX12_pivot 16 = .ok (.return_, 1) := dk_177 (by decide +kernel)
theorem dX12_pivot_17 : decode cX12_pivot 17 = .ok (.aload_n 0, 1) := dk_42 (by decide +kernel)
theorem dX12_pivot_18 : decode cX12_pivot 18 = .ok (.invokevirtual 440, 3) := dk_182 (by decide +kernel)
theorem dX12_pivot_21 : decode cX12_pivot 21 = .ok (.aload_n 0, 1) := dk_42 (by decide +kernel)
theorem dX12_pivot_22 : decode cX12_pivot 22 = .ok (.iload_n 1, 1) := dk_27 (by decide +kernel)
theorem dX12_pivot_23 : decode cX12_pivot 23 = .ok (.iload_n 2, 1) := dk_28 (by decide +kernel)
theorem dX12_pivot_24 : decode cX12_pivot 24 = .ok (.invokevirtual 405, 3) := dk_182 (by decide +kernel)
theorem dX12_pivot_27 : decode cX12_pivot 27 = .ok (.istore_n 3, 1) := dk_62 (by decide +kernel)
theorem dX12_pivot_28 : decode cX12_pivot 28 = .ok (.aload_n 0, 1) := dk_42 (by decide +kernel)
theorem dX12_pivot_29 : decode cX12_pivot 29 = .ok (.iload_n 3, 1) := dk_29 (by decide +kernel)
theorem dX12_pivot_30 : decode cX12_pivot 30 = .ok (.invokevirtual 353, 3) := dk_182 (by decide +kernel)
theorem dX12_pivot_33 : decode cX12_pivot 33 = .ok (.istore 4, 2) := dk_54 (by decide +kernel)
theorem dX12_pivot_35 : decode cX12_pivot 35 = .ok (.aload_n 0, 1) := dk_42 (by decide +kernel)
theorem dX12_pivot_36 : decode cX12_pivot 36 = .ok (.bipush 21, 2) := dk_16 (by decide +kernel)
theorem dX12_pivot_38 : decode cX12_pivot 38 = .ok (.iload_n 3, 1) := dk_29 (by decide +kernel)
theorem dX12_pivot_39 : decode cX12_pivot 39 = .ok (.invokevirtual 365, 3) := dk_182 (by decide +kernel)
theorem dX12_pivot_42 : decode cX12_pivot 42 = .ok (.iconst 0, 1) := dk_3 (by decide +kernel)
theorem dX12_pivot_43 : decode cX12_pivot 43 = .ok (.istore 5, 2) := dk_54 (by decide +kernel)
theorem dX12_pivot_45 : decode cX12_pivot 45 = .ok (.iload 5, 2) := dk_21 (by decide +kernel)
theorem dX12_pivot_47 : decode cX12_pivot 47 = .ok (.aload_n 0, 1) := dk_42 (by decide +kernel)
theorem dX12_pivot_48 : decode cX12_pivot 48 = .ok (.getfield 399, 3) := dk_180 (by decide +kernel)
theorem dX12_pivot_51 : decode cX12_pivot 51 = .ok (.aload_n 0, 1) := dk_42 (by decide +kernel)
theorem dX12_pivot_52 : decode cX12_pivot 52 = .ok (.getfield 402, 3) := dk_180 (by decide +kernel)
theorem dX12_pivot_55 : decode cX12_pivot 55 = .ok (.iadd, 1) := dk_96 (by decide +kernel)
theorem dX12_pivot_56 : decode cX12_pivot 56 = .ok (.if_icmp .ge 151, 3) := dk_162 (by decide +kernel)
theorem dX12_pivot_59 : decode cX12_pivot 59 = .ok (.iload 5, 2) := dk_21 (by decide +kernel)
theorem dX12_pivot_61 : decode cX12_pivot 61 = .ok (.iload_n 1, 1) := dk_27 (by decide +kernel)
theorem dX12_pivot_62 : decode cX12_pivot 62 = .ok (.if_icmp .ne 6, 3) := dk_160 (by decide +kernel)
theorem dX12_pivot_65 : decode cX12_pivot 65 = .ok (.goto 136, 3) := dk_167 (by decide +kernel)
theorem dX12_pivot_68 : decode cX12_pivot 68 = .ok (.iconst 0, 1) := dk_3 (by decide +kernel)
theorem dX12_pivot_69 : decode cX12_pivot 69 = .ok (.istore 6, 2) := dk_54 (by decide +kernel)
theorem dX12_pivot_71 : decode cX12_pivot 71 = .ok (.iload 6, 2) := dk_21 (by decide +kernel)
theorem dX12_pivot_73 : decode cX12_pivot 73 = .ok (.aload_n 0, 1) := dk_42 (by decide +kernel)
theorem dX12_pivot_74 : decode cX12_pivot 74 = .ok (.getfield 396, 3) := dk_180 (by decide +kernel)
theorem dX12_pivot_77 : decode cX12_pivot 77 = .ok (.if_icmp .gt 108, 3) := dk_163 (by decide +kernel)
theorem dX12_pivot_80 : decode cX12_pivot 80 = .ok (.iload 6, 2) := dk_21 (by decide +kernel)
theorem dX12_pivot_82 : decode cX12_pivot 82 = .ok (.iload_n 2, 1) := dk_28 (by decide +kernel)
theorem dX12_pivot_83 : decode cX12_pivot 83 = .ok (.if_icmp .ne 6, 3) := dk_160 (by decide +kernel)
theorem dX12_pivot_86 : decode cX12_pivot 86 = .ok (.goto 93, 3) := dk_167 (by decide +kernel)
theorem dX12_pivot_89 : decode cX12_pivot 89 = .ok (.aload_n 0, 1) := dk_42 (by decide +kernel)
theorem dX12_pivot_90 : decode cX12_pivot 90 = .ok (.bipush 22, 2) := dk_16 (by decide +kernel)
theorem dX12_pivot_92 : decode cX12_pivot 92 = .ok (.aload_n 0, 1) := dk_42 (by decide +kernel)
theorem dX12_pivot_93 : decode cX12_pivot 93 = .ok (.iload 5, 2) := dk_21 (by decide +kernel)
theorem dX12_pivot_95 : decode cX12_pivot 95 = .ok (.iload 6, 2) := dk_21 (by decide +kernel)
theorem dX12_pivot_97 : decode cX12_pivot 97 = .ok (.invokevirtual 405, 3) := dk_182 (by decide +kernel)
theorem dX12_pivot_100 : decode cX12_pivot 100 = .ok (.bipush 21, 2) := dk_16 (by decide +kernel)
theorem dX12_pivot_102 : decode cX12_pivot 102 = .ok (.invokevirtual 390, 3) := dk_182 (by decide +kernel)
theorem dX12_pivot_105 : decode cX12_pivot 105 = .ok (.aload_n 0, 1) := dk_42 (by decide +kernel)
theorem dX12_pivot_106 : decode cX12_pivot 106 = .ok (.bipush 23, 2) := dk_16 (by decide +kernel)
theorem dX12_pivot_108 : decode cX12_pivot 108 = .ok (.aload_n 0, 1) := dk_42 (by decide +kernel)
theorem dX12_pivot_109 : decode cX12_pivot 109 = .ok (.iload 5, 2) := dk_21 (by decide +kernel)
theorem dX12_pivot_111 : decode cX12_pivot 111 = .ok (.iload_n 2, 1) := dk_28 (by decide +kernel)
theorem dX12_pivot_112 : decode cX12_pivot 112 = .ok (.invokevirtual 405, 3) := dk_182 (by decide +kernel)
theorem dX12_pivot_115 : decode cX12_pivot 115 = .ok (.aload_n 0, 1) := dk_42 (by decide +kernel)
theorem dX12_pivot_116 : decode cX12_pivot 116 = .ok (.iload_n 1, 1) := dk_27 (by decide +kernel)
theorem dX12_pivot_117 : decode cX12_pivot 117 = .ok (.iload 6, 2) := dk_21 (by decide +kernel)
theorem dX12_pivot_119 : decode cX12_pivot 119 = .ok (.invokevirtual 405, 3) := dk_182 (by decide +kernel)
theorem dX12_pivot_122 : decode cX12_pivot 122 = .ok (.invokevirtual 390, 3) := dk_182 (by decide +kernel)
theorem dX12_pivot_125 : decode cX12_pivot 125 = .ok (.aload_n 0, 1) := dk_42 (by decide +kernel)
theorem dX12_pivot_126 : decode cX12_pivot 126 = .ok (.bipush 24, 2) := dk_16 (by decide +kernel)
theorem dX12_pivot_128 : decode cX12_pivot 128 = .ok (.bipush 22, 2) := dk_16 (by decide +kernel)
theorem dX12_pivot_130 : decode cX12_pivot 130 = .ok (.bipush 23, 2) := dk_16 (by decide +kernel)
theorem dX12_pivot_132 : decode cX12_pivot 132 = .ok (.iconst (-1), 1) := dk_2 (by decide +kernel)
theorem dX12_pivot_133 : decode cX12_pivot 133 = .ok (.invokevirtual 443, 3) := dk_182 (by decide +kernel)
theorem dX12_pivot_136 : decode cX12_pivot 136 = .ok (.aload_n 0, 1) := dk_42 (by decide +kernel)
theorem dX12_pivot_137 : decode cX12_pivot 137 = .ok (.bipush 25, 2) := dk_16 (by decide +kernel)
theorem dX12_pivot_139 : decode cX12_pivot 139 = .ok (.bipush 26, 2) := dk_16 (by decide +kernel)
theorem dX12_pivot_141 : decode cX12_pivot 141 = .ok (.bipush 24, 2) := dk_16 (by decide +kernel)
theorem dX12_pivot_143 : decode cX12_pivot 143 = .ok (.bipush 20, 2) := dk_16 (by decide +kernel)
theorem dX12_pivot_145 : decode cX12_pivot 145 = .ok (.invokevirtual 383, 3) := dk_182 (by decide +kernel)
theorem dX12_pivot_148 : decode cX12_pivot 148 = .ok (.aload_n 0, 1) := dk_42 (by decide +kernel)
theorem dX12_pivot_149 : decode cX12_pivot 149 = .ok (.aload_n 0, 1) := dk_42 (by decide +kernel)
theorem dX12_pivot_150 : decode cX12_pivot 150 = .ok (.iload 5, 2) := dk_21 (by decide +kernel)
theorem dX12_pivot_152 : decode cX12_pivot 152 = .ok (.iload 6, 2) := dk_21 (by decide +kernel)
theorem dX12_pivot_154 : decode cX12_pivot 154 = .ok (.invokevirtual 405, 3) := dk_182 (by decide +kernel)
theorem dX12_pivot_157 : decode cX12_pivot 157 = .ok (.bipush 25, 2) := dk_16 (by decide +kernel)
theorem dX12_pivot_159 : decode cX12_pivot 159 = .ok (.invokevirtual 365, 3) := dk_182 (by decide +kernel)
theorem dX12_pivot_162 : decode cX12_pivot 162 = .ok (.iload 4, 2) := dk_21 (by decide +kernel)
theorem dX12_pivot_164 : decode cX12_pivot 164 = .ok (.ifCond .ge 15, 3) := dk_156 (by decide +kernel)
theorem dX12_pivot_167 : decode cX12_pivot 167 = .ok (.aload_n 0, 1) := dk_42 (by decide +kernel)
theorem dX12_pivot_168 : decode cX12_pivot 168 = .ok (.aload_n 0, 1) := dk_42 (by decide +kernel)
theorem dX12_pivot_169 : decode cX12_pivot 169 = .ok (.iload 5, 2) := dk_21 (by decide +kernel)
theorem dX12_pivot_171 : decode cX12_pivot 171 = .ok (.iload 6, 2) := dk_21 (by decide +kernel)
theorem dX12_pivot_173 : decode cX12_pivot 173 = .ok (.invokevirtual 405, 3) := dk_182 (by decide +kernel)
theorem dX12_pivot_176 : decode cX12_pivot 176 = .ok (.invokevirtual 379, 3) := dk_182 (by decide +kernel)
theorem dX12_pivot_179 : decode cX12_pivot 179 = .ok (.iinc 6 1, 3) := dk_132 (by decide +kernel)
theorem dX12_pivot_182 : decode cX12_pivot 182 = .ok (.goto (-111), 3) := dk_167 (by decide +kernel)
theorem dX12_pivot_185 : decode cX12_pivot 185 = .ok (.iload 4, 2) := dk_21 (by decide +kernel)
theorem dX12_pivot_187 : decode cX12_pivot 187 = .ok (.ifCond .le 14, 3) := dk_158 (by decide +kernel)
theorem dX12_pivot_190 : decode cX12_pivot 190 = .ok (.aload_n 0, 1) := dk_42 (by decide +kernel)
theorem dX12_pivot_191 : decode cX12_pivot 191 = .ok (.aload_n 0, 1) := dk_42 (by decide +kernel)
theorem dX12_pivot_192 : decode cX12_pivot 192 = .ok (.iload 5, 2) := dk_21 (by decide +kernel)
theorem dX12_pivot_194 : decode cX12_pivot 194 = .ok (.iload_n 2, 1) := dk_28 (by decide +kernel)
theorem dX12_pivot_195 : decode cX12_pivot 195 = .ok (.invokevirtual 405, 3) := dk_182 (by decide +kernel)
theorem dX12_pivot_198 : decode cX12_pivot 198 = .ok (.invokevirtual 379, 3) := dk_182 (by decide +kernel)
theorem dX12_pivot_201 : decode cX12_pivot 201 = .ok (.iinc 5 1, 3) := dk_132 (by decide +kernel)
theorem dX12_pivot_204 : decode cX12_pivot 204 = .ok (.goto (-159), 3) := dk_167 (by decide +kernel)
theorem dX12_pivot_207 : decode cX12_pivot 207 = .ok (.iconst 0, 1) := dk_3 (by decide +kernel)
theorem dX12_pivot_208 : decode cX12_pivot 208 = .ok (.istore 5, 2) := dk_54 (by decide +kernel)
theorem dX12_pivot_210 : decode cX12_pivot 210 = .ok (.iload 5, 2) := dk_21 (by decide +kernel)
theorem dX12_pivot_212 : decode cX12_pivot 212 = .ok (.aload_n 0, 1) := dk_42 (by decide +kernel)
theorem dX12_pivot_213 : decode cX12_pivot 213 = .ok (.getfield 396, 3) := dk_180 (by decide +kernel)
theorem dX12_pivot_216 : decode cX12_pivot 216 = .ok (.if_icmp .gt 31, 3) := dk_163 (by decide +kernel)
theorem dX12_pivot_219 : decode cX12_pivot 219 = .ok (.iload 4, 2) := dk_21 (by decide +kernel)
theorem dX12_pivot_221 : decode cX12_pivot 221 = .ok (.ifCond .ge 26, 3) := dk_156 (by decide +kernel)
theorem dX12_pivot_224 : decode cX12_pivot 224 = .ok (.iload 5, 2) := dk_21 (by decide +kernel)
theorem dX12_pivot_226 : decode cX12_pivot 226 = .ok (.iload_n 2, 1) := dk_28 (by decide +kernel)
theorem dX12_pivot_227 : decode cX12_pivot 227 = .ok (.if_icmp .eq 14, 3) := dk_159 (by decide +kernel)
theorem dX12_pivot_230 : decode cX12_pivot 230 = .ok (.aload_n 0, 1) := dk_42 (by decide +kernel)
theorem dX12_pivot_231 : decode cX12_pivot 231 = .ok (.aload_n 0, 1) := dk_42 (by decide +kernel)
theorem dX12_pivot_232 : decode cX12_pivot 232 = .ok (.iload_n 1, 1) := dk_27 (by decide +kernel)
theorem dX12_pivot_233 : decode cX12_pivot 233 = .ok (.iload 5, 2) := dk_21 (by decide +kernel)
theorem dX12_pivot_235 : decode cX12_pivot 235 = .ok (.invokevirtual 405, 3) := dk_182 (by decide +kernel)
theorem dX12_pivot_238 : decode cX12_pivot 238 = .ok (.invokevirtual 379, 3) := dk_182 (by decide +kernel)
theorem dX12_pivot_241 : decode cX12_pivot 241 = .ok (.iinc 5 1, 3) := dk_132 (by decide +kernel)
theorem dX12_pivot_244 : decode cX12_pivot 244 = .ok (.goto (-34), 3) := dk_167 (by decide +kernel)
theorem dX12_pivot_247 : decode cX12_pivot 247 = .ok (.aload_n 0, 1) := dk_42 (by decide +kernel)
theorem dX12_pivot_248 : decode cX12_pivot 248 = .ok (.iload_n 3, 1) := dk_29 (by decide +kernel)
theorem dX12_pivot_249 : decode cX12_pivot 249 = .ok (.bipush 20, 2) := dk_16 (by decide +kernel)
theorem dX12_pivot_251 : decode cX12_pivot 251 = .ok (.invokevirtual 365, 3) := dk_182 (by decide +kernel)
theorem dX12_pivot_254 : decode cX12_pivot 254 = .ok (.iload 4, 2) := dk_21 (by decide +kernel)
theorem dX12_pivot_256 : decode cX12_pivot 256 = .ok (.ifCond .ge 8, 3) := dk_156 (by decide +kernel)
theorem dX12_pivot_259 : decode cX12_pivot 259 = .ok (.aload_n 0, 1) := dk_42 (by decide +kernel)
theorem dX12_pivot_260 : decode cX12_pivot 260 = .ok (.iload_n 3, 1) := dk_29 (by decide +kernel)
theorem dX12_pivot_261 : decode cX12_pivot 261 = .ok (.invokevirtual 379, 3) := dk_182 (by decide +kernel)
theorem dX12_pivot_264 : decode cX12_pivot 264 = .ok (.aload_n 0, 1) := dk_42 (by decide +kernel)
theorem dX12_pivot_265 : decode cX12_pivot 265 = .ok (.bipush 20, 2) := dk_16 (by decide +kernel)
theorem dX12_pivot_267 : decode cX12_pivot 267 = .ok (.bipush 21, 2) := dk_16 (by decide +kernel)
theorem dX12_pivot_269 : decode cX12_pivot 269 = .ok (.invokevirtual 365, 3) := dk_182 (by decide +kernel)
theorem dX12_pivot_272 : decode cX12_pivot 272 = .ok (.iload 4, 2) := dk_21 (by decide +kernel)
theorem dX12_pivot_274 : decode cX12_pivot 274 = .ok (.ifCond .ge 9, 3) := dk_156 (by decide +kernel)
theorem dX12_pivot_277 : decode cX12_pivot 277 = .ok (.aload_n 0, 1) := dk_42 (by decide +kernel)
theorem dX12_pivot_278 : decode cX12_pivot 278 = .ok (.bipush 20, 2) := dk_16 (by decide +kernel)
theorem dX12_pivot_280 : decode cX12_pivot 280 = .ok (.invokevirtual 379, 3) := dk_182 (by decide +kernel)
theorem dX12_pivot_283 : decode cX12_pivot 283 = .ok (.aload_n 0, 1) := dk_42 (by decide +kernel)
theorem dX12_pivot_284 : decode cX12_pivot 284 = .ok (.iload_n 1, 1) := dk_27 (by decide +kernel)
theorem dX12_pivot_285 : decode cX12_pivot 285 = .ok (.iload_n 2, 1) := dk_28 (by decide +kernel)
theorem dX12_pivot_286 : decode cX12_pivot 286 = .ok (.invokevirtual 433, 3) := dk_182 (by decide +kernel)
theorem dX12_pivot_289 : decode cX12_pivot 289 = .ok (.return_, 1) := dk_177 (by decide +kernel)
def wsRX12_pivot : List Cond := .code yX12_pivot cX12_pivot 7 none :: ([.fieldLink RX12 414 "OptimaWorksModel" "quick" "Z", .fieldLink RX12 399 "OptimaWorksModel" "rows" "I", .fieldLink RX12 402 "OptimaWorksModel" "goals" "I", .fieldLink RX12 396 "OptimaWorksModel" "columns" "I"] ++ wsX120 ++ (wsV RX12 436 RX12 yX12_pivotsQuick wsRX12_pivotsQuick) ++ (wsV RX12 440 RX12 yX12_spill wsRX12_spill) ++ (wsV RX12 405 RX12 yX12_at wsRX12_at) ++ (wsV RX12 353 RX12 yX12_sign wsRX12_sign) ++ (wsV RX12 365 RX12 yX12_copy wsRX12_copy) ++ (wsV RX12 379 RX12 yX12_turn wsRX12_turn) ++ (wsV RX12 433 RX12 yX12_exchange wsRX12_exchange) ++ (wsV RX12 390 RX12 yX12_times wsRX12_times) ++ (wsV RX12 443 RX12 yX12_add wsRX12_add) ++ (wsV RX12 383 RX12 yX12_divide wsRX12_divide))
theorem iwsRX12_pivot_in12 : ∀ w ∈ wsX120, w ∈ wsRX12_pivot := fun _ h => List.mem_cons_of_mem _ (List.mem_append_left _ (List.mem_append_left _ (List.mem_append_left _ (List.mem_append_left _ (List.mem_append_left _ (List.mem_append_left _ (List.mem_append_left _ (List.mem_append_left _ (List.mem_append_left _ (List.mem_append_left _ (List.mem_append_right _ h)))))))))))
theorem gwsRX12_pivot_0 : GoodIn wsRX12_pivot (wsV RX12 436 RX12 yX12_pivotsQuick wsRX12_pivotsQuick) := goodIn_sub (fun _ h => List.mem_cons_of_mem _ (List.mem_append_left _ (List.mem_append_left _ (List.mem_append_left _ (List.mem_append_left _ (List.mem_append_left _ (List.mem_append_left _ (List.mem_append_left _ (List.mem_append_left _ (List.mem_append_left _ (List.mem_append_right _ h))))))))))) (gdV (by decide +kernel) gdwsRX12_pivotsQuick)
theorem gwsRX12_pivot_1 : GoodIn wsRX12_pivot (wsV RX12 440 RX12 yX12_spill wsRX12_spill) := goodIn_sub (fun _ h => List.mem_cons_of_mem _ (List.mem_append_left _ (List.mem_append_left _ (List.mem_append_left _ (List.mem_append_left _ (List.mem_append_left _ (List.mem_append_left _ (List.mem_append_left _ (List.mem_append_left _ (List.mem_append_right _ h)))))))))) (gdV (by decide +kernel) gdwsRX12_spill)
theorem gwsRX12_pivot_2 : GoodIn wsRX12_pivot (wsV RX12 405 RX12 yX12_at wsRX12_at) := goodIn_sub (fun _ h => List.mem_cons_of_mem _ (List.mem_append_left _ (List.mem_append_left _ (List.mem_append_left _ (List.mem_append_left _ (List.mem_append_left _ (List.mem_append_left _ (List.mem_append_left _ (List.mem_append_right _ h))))))))) (gdV (by decide +kernel) gdwsRX12_at)
theorem gwsRX12_pivot_3 : GoodIn wsRX12_pivot (wsV RX12 353 RX12 yX12_sign wsRX12_sign) := goodIn_sub (fun _ h => List.mem_cons_of_mem _ (List.mem_append_left _ (List.mem_append_left _ (List.mem_append_left _ (List.mem_append_left _ (List.mem_append_left _ (List.mem_append_left _ (List.mem_append_right _ h)))))))) (gdV (by decide +kernel) gdwsRX12_sign)
theorem gwsRX12_pivot_4 : GoodIn wsRX12_pivot (wsV RX12 365 RX12 yX12_copy wsRX12_copy) := goodIn_sub (fun _ h => List.mem_cons_of_mem _ (List.mem_append_left _ (List.mem_append_left _ (List.mem_append_left _ (List.mem_append_left _ (List.mem_append_left _ (List.mem_append_right _ h))))))) (gdV (by decide +kernel) gdwsRX12_copy)
theorem gwsRX12_pivot_5 : GoodIn wsRX12_pivot (wsV RX12 379 RX12 yX12_turn wsRX12_turn) := goodIn_sub (fun _ h => List.mem_cons_of_mem _ (List.mem_append_left _ (List.mem_append_left _ (List.mem_append_left _ (List.mem_append_left _ (List.mem_append_right _ h)))))) (gdV (by decide +kernel) gdwsRX12_turn)
theorem gwsRX12_pivot_6 : GoodIn wsRX12_pivot (wsV RX12 433 RX12 yX12_exchange wsRX12_exchange) := goodIn_sub (fun _ h => List.mem_cons_of_mem _ (List.mem_append_left _ (List.mem_append_left _ (List.mem_append_left _ (List.mem_append_right _ h))))) (gdV (by decide +kernel) gdwsRX12_exchange)
theorem gwsRX12_pivot_7 : GoodIn wsRX12_pivot (wsV RX12 390 RX12 yX12_times wsRX12_times) := goodIn_sub (fun _ h => List.mem_cons_of_mem _ (List.mem_append_left _ (List.mem_append_left _ (List.mem_append_right _ h)))) (gdV (by decide +kernel) gdwsRX12_times)
theorem gwsRX12_pivot_8 : GoodIn wsRX12_pivot (wsV RX12 443 RX12 yX12_add wsRX12_add) := goodIn_sub (fun _ h => List.mem_cons_of_mem _ (List.mem_append_left _ (List.mem_append_right _ h))) (gdV (by decide +kernel) gdwsRX12_add)
theorem gwsRX12_pivot_9 : GoodIn wsRX12_pivot (wsV RX12 383 RX12 yX12_divide wsRX12_divide) := goodIn_sub (fun _ h => List.mem_cons_of_mem _ (List.mem_append_right _ h)) (gdV (by decide +kernel) gdwsRX12_divide)
theorem gdwsRX12_pivot : wsRX12_pivot.all goodWord = true := gdC rfl (gdA (gdA (gdA (gdA (gdA (gdA (gdA (gdA (gdA (gdA (gdA (by decide +kernel : ([.fieldLink RX12 414 "OptimaWorksModel" "quick" "Z", .fieldLink RX12 399 "OptimaWorksModel" "rows" "I", .fieldLink RX12 402 "OptimaWorksModel" "goals" "I", .fieldLink RX12 396 "OptimaWorksModel" "columns" "I"] : List Cond).all goodWord = true) gdwsX120) (gdV (by decide +kernel) gdwsRX12_pivotsQuick)) (gdV (by decide +kernel) gdwsRX12_spill)) (gdV (by decide +kernel) gdwsRX12_at)) (gdV (by decide +kernel) gdwsRX12_sign)) (gdV (by decide +kernel) gdwsRX12_copy)) (gdV (by decide +kernel) gdwsRX12_turn)) (gdV (by decide +kernel) gdwsRX12_exchange)) (gdV (by decide +kernel) gdwsRX12_times)) (gdV (by decide +kernel) gdwsRX12_add)) (gdV (by decide +kernel) gdwsRX12_divide))
theorem hm_r_X12_pivot_0 : (.fieldLink RX12 396 "OptimaWorksModel" "columns" "I" : Cond) ∈ wsRX12_pivot := by decide +kernel
set_option maxHeartbeats 4000000 in
set_option maxRecDepth 100000 in
/-- pivot(r, c) -/
theorem r_X12_pivot (l : Launch) (dC : Nat → ClassId) (dI : Nat → Nat → Nat) (a : Nat → Nat) (k : Nat → ClassId) (h0 : Nat) (vi : Nat → Int32) (vj : Nat → Int64) (vF : Nat → Nat → Int32) (vG : Nat → Nat → Int64) (rn : Nat) (cn : Nat) (C : Nat) (R : Nat) (Gq : Nat) (t : Nat → Nat → Int) (D : Int) (mg : Nat → Int) (hBg : Bg (vF 0) mg) (hC : vi 5 = nI C) (hR : vi 6 = nI R) (hG : vi 7 = nI Gq) (hC45 : 0 < C ∧ C ≤ 45) (hT60 : R + Gq < 60) (hsz : (R + Gq) * (C + 1) ≤ 970) (hT : Tab (vi 11) C (R + Gq) mg (vG 7) (vj 12) t D) (hrn : rn < R) (hcn : cn < C) (hDp : 0 < D) (hp0 : t rn cn ≠ 0) (hbd : ∀ i, i < R + Gq → ∀ j, j ≤ C → (t i j).natAbs < 2 ^ 294) (sz : Nat) : Met l yX12_pivot wsRX12_pivot ({ frames := 2, cells := 0, slots := 0, locals := 63 }) (va_Pc [.ref h0, .int (nI rn), .int (nI cn)] (fun U => U.heap.size = sz ∧ va_P (dC, dI) vwCl (WR a k h0 vi vj vF vG) U.heap ∧ va_K (dC, dI) vwCl (tX12 k) U ∧ va_D (fun _ => True) (WR a k h0 vi vj vF vG))) (va_Qv (fun (u : (Nat → Int32) × (Nat → Int32) × (Nat → Int32) × (Nat → Int64) × (Int32) × (Int64) × (Nat → Int64) × (Nat → Int64) × (Nat → Int)) => (Bg (u.1) (u.2.2.2.2.2.2.2.2)) ∧ (Tab (u.2.2.2.2.1) C (R + Gq) (u.2.2.2.2.2.2.2.2) (u.2.2.2.2.2.2.1) (u.2.2.2.2.2.1) (nvT rn cn (sgI (t rn cn)) t D) ((sgI (t rn cn)) * t rn cn)) ∧ (∀ q, (q < 20 ∨ (26 < q ∧ q < 30) ∨ 30 + (R + Gq) * (C + 1) ≤ q) → (u.2.2.2.2.2.2.2.2) q = mg q)) (fun (u : (Nat → Int32) × (Nat → Int32) × (Nat → Int32) × (Nat → Int64) × (Int32) × (Int64) × (Nat → Int64) × (Nat → Int64) × (Nat → Int)) t => va_P (dC, dI) vwCl (WR a k h0 (fT vi 11 (u.2.2.2.2.1)) (fT vj 12 (u.2.2.2.2.2.1)) (fT (fT (fT (fT (fT vF 0 (u.1)) 2 (u.2.1)) 3 (u.2.2.1)) 4 (upd (vF 4) (nI cn).toNatClampNeg (vF 5 rn))) 5 (upd (vF 5) (nI rn).toNatClampNeg (vF 4 cn))) (fT (fT (fT vG 8 (u.2.2.2.2.2.2.2.1)) 7 (u.2.2.2.2.2.2.1)) 1 (u.2.2.2.1))) t.heap ∧ va_D (va_A (WR a k h0 vi vj vF vG) sz) (WR a k h0 (fT vi 11 (u.2.2.2.2.1)) (fT vj 12 (u.2.2.2.2.2.1)) (fT (fT (fT (fT (fT vF 0 (u.1)) 2 (u.2.1)) 3 (u.2.2.1)) 4 (upd (vF 4) (nI cn).toNatClampNeg (vF 5 rn))) 5 (upd (vF 5) (nI rn).toNatClampNeg (vF 4 cn))) (fT (fT (fT vG 8 (u.2.2.2.2.2.2.2.1)) 7 (u.2.2.2.2.2.2.1)) 1 (u.2.2.2.1)))) (va_A (WR a k h0 vi vj vF vG) sz)) 0 0 (va_A (WR a k h0 vi vj vF vG) sz) := by
  refine Met.ofW (cc := cX12_pivot) (maxL := 7) (ret := none) (by decide) rfl ?_
  intro p e s m args below meth c s₁ B hml hv
  obtain ⟨rfl, hsz, hP, hK, hD0⟩ := hv
  have hx := B.exec
  have hb := B.bytes
  have hr := B.returns
  have hts := atoms_spec (ws := wsRX12_pivot) B.pre
  have hown : s.vm.findClass RX12 = some m.cls := findClass_of_methodNamed B.named
  have hlocks := B.notSynchronized
  subst hsz
  have hD := hD0.self (sz := s.heap.size)
  generalize hAe : va_A (WR a k h0 vi vj vF vG) s.heap.size = A at hD ⊢
  have hA : ∀ q : Nat, s.heap.size ≤ q → A q := fun q h => by rw [← hAe]; exact Or.inr h
  have hS : va_S A s.heap s.heap [] := va_S.rf
  have hl := lv_entry ([.ref h0, .int (nI rn), .int (nI cn)]) (n := 7) (Nat.le_of_ble_eq_true rfl)
  rw [lg_entry_eq]
  generalize (lg_sl ([.ref h0, .int (nI rn), .int (nI cn)]) ++ List.replicate (7 - (lg_sl ([.ref h0, .int (nI rn), .int (nI cn)])).length) Slot.unset).toArray = ls at hl ⊢
  have hl : lv_has ls 7 [(0, .ref h0), (1, .int (nI rn)), (2, .int (nI cn))] := hl
  have hprc := pl_lt (C := C) (show rn < R + Gq by omega) (show cn ≤ C by omega)
  refine lv_aload_n hx hb dX12_pivot_0 rfl (lv_at hl 0 rfl) ?_
  refine va_get (D := (dC, dI)) (ci := 12) (v := .int (vi 11)) (C := RX12) (T := TX12) (N := 163) (fs := fM (vS a vi vj)) hx hb hts iwsRX12_pivot_in12 hown hK hP 0 rfl rfl 11 (by decide) (hts (.fieldLink RX12 414 "OptimaWorksModel" "quick" "Z") (by decide +kernel)) (fun _ h9 => h9) rfl dX12_pivot_1 ?_
  refine W.cut (pc := 17) (fun H locs ls stk => ∃ (L80 : Nat → Int64),  stk = [] ∧ va_P (dC, dI) vwCl (WR a k h0 vi vj vF (fT vG 8 L80)) H ∧ va_D A (WR a k h0 vi vj vF (fT vG 8 L80)) ∧ va_S A s.heap H locs ∧ lv_has ls 7 [(0, .ref h0), (1, .int (nI rn)), (2, .int (nI cn))]) (fun join1 => ?_) ?_
  · refine lv_if_eq (tgt := 17) hx hb dX12_pivot_4 (by decide) (fun c_4 => ?_) (fun c_4 => ?_)
    · have t_4 : ((vi 11)).toInt = 0 := toI_eq c_4 rfl (by decide)
      have e9 : fT vG 8 (vG 8) = vG := by funext q9; by_cases h9_8 : q9 = 8; (subst h9_8; exact (fT_eq _ _ _).trans (Eq.trans (by first | with_reducible rfl | with_reducible assumption | (symm; with_reducible assumption) | rfl | assumption | (symm; assumption) | (subst_vars; rfl)) (Eq.refl _).symm)); exact (fT_ne _ _ h9_8).trans (Eq.refl _).symm
      have hP := wr_PG e9 hP
      have hD := wr_DG e9 hD
      clear e9
      have hl : lv_has _ _ ([(0, .ref h0), (1, .int (nI rn)), (2, .int (nI cn))]) := lv_sub hl [0, 1, 2] rfl
      exact join1 _ _ _ _ ⟨(vG 8), rfl, hP, hD, hS, hl⟩
    · have t_4 : ¬ ((vi 11)).toInt = 0 := toI_neq c_4 rfl (by decide)
      refine lv_aload_n hx hb dX12_pivot_7 rfl (lv_at hl 0 rfl) ?_
      refine lv_iload_n hx hb dX12_pivot_8 rfl (lv_at hl 1 rfl) ?_
      refine lv_iload_n hx hb dX12_pivot_9 rfl (lv_at hl 2 rfl) ?_
      have hFc := allFree hD hS hA
      refine va_calli (va_runV (As := [.int (nI rn), .int (nI cn)]) (rest := []) ⟨hx, hb, hml, hown, hts⟩ (r_X12_pivotsQuick l dC dI a k h0 vi vj vF vG rn cn C R Gq t D (by first | with_reducible assumption | decide | omega | rfl | assumption) (by first | with_reducible assumption | decide | omega | rfl | assumption) (by first | with_reducible assumption | decide | omega | rfl | assumption) (by first | with_reducible assumption | decide | omega | rfl | assumption) (by first | with_reducible assumption | decide | omega | rfl | assumption) (by first | with_reducible assumption | decide | omega | rfl | assumption) ((hT.q c_4).2) (by first | with_reducible assumption | decide | omega | rfl | assumption) (by first | with_reducible assumption | decide | omega | rfl | assumption) (by first | with_reducible assumption | decide | omega | rfl | assumption) (by first | with_reducible assumption | decide | omega | rfl | assumption) s.heap.size) (cwV 2 hts gwsRX12_pivot_0 rfl rfl rfl hd_yX12_pivotsQuick_RX12 (by decide +kernel)) (fz_pre (va_recv hK hP (ci := 12) (q0 := 0) rfl rfl) hP hK hD) rfl rfl hl.1 rfl (lv_room (Nat.le_of_ble_eq_true rfl)) dX12_pivot_10 (by decide +kernel)) hS (fun q _ h => hFc q h) hFc (fun r10 u t9_ H locs ht hvm hw9 hB9 hz1 hk1 hS => ?_)
      revert u hw9 hB9
      refine fz_p5 ?_
      intro qd10 F10 L810 f410 f510 hw9 hB9
      try dsimp only at hw9 hB9
      have hP : va_P (dC, dI) vwCl (WR a k h0 vi (fT vj 12 qd10) (fT (fT vF 4 f410) 5 f510) (fT (fT vG 8 L810) 7 F10)) H := fz_P ht hB9.1
      have hD := fz_sd hP (hB9.2.weaken (fun _ q _ h => hFc q.1 h)) rfl
      rcases hw9 with ⟨rfl, rfl, rfl, rfl, rfl⟩ | ⟨rfl, f10_0, rfl, rfl⟩
      · refine lv_if_eq (tgt := 17) hx hb dX12_pivot_13 (by decide) (fun _ => ?_) (fun c9 => absurd (by decide) c9)
        have e9 : vj = fT vj 12 (vj 12) := by funext q9; by_cases h9_12 : q9 = 12; (subst h9_12; exact (Eq.refl _).trans (Eq.trans (by first | with_reducible rfl | with_reducible assumption | (symm; with_reducible assumption) | rfl | assumption | (symm; assumption) | (subst_vars; rfl)) (fT_eq _ _ _).symm)); exact (Eq.refl _).trans (fT_ne _ _ h9_12).symm
        have hP := wr_Pj e9 hP
        have hD := wr_Dj e9 hD
        clear e9
        have e9 : vF = fT (fT vF 4 (vF 4)) 5 (vF 5) := by funext q9; by_cases h9_4 : q9 = 4; (subst h9_4; exact (Eq.refl _).trans (Eq.trans (by first | with_reducible rfl | with_reducible assumption | (symm; with_reducible assumption) | rfl | assumption | (symm; assumption) | (subst_vars; rfl)) ((fT_ne _ _ (Nat.ne_of_beq_eq_false rfl)).trans (fT_eq _ _ _)).symm)); by_cases h9_5 : q9 = 5; (subst h9_5; exact (Eq.refl _).trans (Eq.trans (by first | with_reducible rfl | with_reducible assumption | (symm; with_reducible assumption) | rfl | assumption | (symm; assumption) | (subst_vars; rfl)) (fT_eq _ _ _).symm)); exact (Eq.refl _).trans ((fT_ne _ _ h9_5).trans (fT_ne _ _ h9_4)).symm
        have hP := wr_PF e9 hP
        have hD := wr_DF e9 hD
        clear e9
        have e9 : fT vG 8 L810 = fT (fT vG 8 L810) 7 (vG 7) := by funext q9; by_cases h9_8 : q9 = 8; (subst h9_8; exact (fT_eq _ _ _).trans (Eq.trans (by first | with_reducible rfl | with_reducible assumption | (symm; with_reducible assumption) | rfl | assumption | (symm; assumption) | (subst_vars; rfl)) ((fT_ne _ _ (Nat.ne_of_beq_eq_false rfl)).trans (fT_eq _ _ _)).symm)); by_cases h9_7 : q9 = 7; (subst h9_7; exact (fT_ne _ _ (Nat.ne_of_beq_eq_false rfl)).trans (Eq.trans (by first | with_reducible rfl | with_reducible assumption | (symm; with_reducible assumption) | rfl | assumption | (symm; assumption) | (subst_vars; rfl)) (fT_eq _ _ _).symm)); exact (fT_ne _ _ h9_8).trans ((fT_ne _ _ h9_7).trans (fT_ne _ _ h9_8)).symm
        have hP := wr_PG e9 hP
        have hD := wr_DG e9 hD
        clear e9
        have hl : lv_has _ _ ([(0, .ref h0), (1, .int (nI rn)), (2, .int (nI cn))]) := lv_sub hl [0, 1, 2] rfl
        exact join1 _ _ _ _ ⟨L810, rfl, hP, hD, hS, hl⟩
      · refine lv_if_eq (tgt := 17) hx hb dX12_pivot_13 (by decide) (fun c9 => absurd c9 (by decide)) (fun _ => ?_)
        refine W.widen (k := 0) (n := 0) (by decide +kernel) (by decide +kernel) ?_
        have e9 : fT vi 11 (vi 11) = vi := fT_id _ _ (rfl)
        have hP := wr_Pi e9 hP
        have hD := wr_Di e9 hD
        clear e9
        have e9 : fT (fT (fT (fT (fT vF 0 (vF 0)) 2 (vF 2)) 3 (vF 3)) 4 (upd (vF 4) (nI cn).toNatClampNeg (vF 5 rn))) 5 (upd (vF 5) (nI rn).toNatClampNeg (vF 4 cn)) = fT (fT vF 4 (upd (vF 4) (nI cn).toNatClampNeg (vF 5 rn))) 5 (upd (vF 5) (nI rn).toNatClampNeg (vF 4 cn)) := Eq.trans (mv_4 rfl) (Eq.trans (id_4 rfl) (Eq.trans (mv_3 rfl) (Eq.trans (id_3 rfl) (Eq.trans (mv_2 rfl) (id_2 rfl)))))
        have hP := wr_PF e9 hP
        have hD := wr_DF e9 hD
        clear e9
        have e9 : fT (fT (fT vG 8 L810) 7 F10) 1 (vG 1) = fT (fT vG 8 L810) 7 F10 := fT_id _ _ ((fT_ne _ _ (Nat.ne_of_beq_eq_false rfl)).trans (fT_ne _ _ (Nat.ne_of_beq_eq_false rfl)))
        have hP := wr_PG e9 hP
        have hD := wr_DG e9 hD
        clear e9
        exact W.vret hx hb hr (fun t9_ ht hW => ⟨⟨((vF 0), (vF 2), (vF 3), (vG 1), (vi 11), qd10, F10, L810, mg), rfl, by (try dsimp only); exact ⟨hBg, Or.inr ⟨(hT.q c_4).1, f10_0⟩, fun q h => rfl⟩, by rw [ht]; exact hP, hD⟩, hS.F ht⟩) hS.2.2 dX12_pivot_16
  · rintro H locs ls stk ⟨L80, rfl, hP, hD, hS, hl⟩
    refine lv_aload_n hx hb dX12_pivot_17 rfl (lv_at hl 0 rfl) ?_
    have hFc := allFree hD hS hA
    refine va_callv (va_runV (As := []) (rest := []) ⟨hx, hb, hml, hown, hts⟩ (r_X12_spill l dC dI a k h0 vi vj vF (fT vG 8 L80) C R Gq t D mg hBg (by first | with_reducible assumption | decide | omega | rfl | assumption) (by first | with_reducible assumption | decide | omega | rfl | assumption) (by first | with_reducible assumption | decide | omega | rfl | assumption) (by first | with_reducible assumption | decide | omega | rfl | assumption) (by first | with_reducible assumption | decide | omega | rfl | assumption) (by first | with_reducible assumption | decide | omega | rfl | assumption) (hT) (by first | with_reducible assumption | decide | omega | rfl | assumption) H.size) (cwV 0 hts gwsRX12_pivot_1 rfl rfl rfl hd_yX12_spill_RX12 (by decide +kernel)) (fz_pre (va_recv hK hP (ci := 12) (q0 := 0) rfl rfl) hP hK hD) rfl rfl hl.1 rfl (lv_room (Nat.le_of_ble_eq_true rfl)) dX12_pivot_18 (by decide +kernel)) hS (fun q _ h => hFc q h) hFc (fun u t9_ H locs ht hvm hw9 hB9 hz1 hk1 hS => ?_)
    revert u hw9 hB9
    refine fz_p2 ?_
    intro g18 m218 hw9 hB9
    try dsimp only at hw9 hB9
    have hP : va_P (dC, dI) vwCl (WR a k h0 (fT vi 11 0) vj (fT vF 0 g18) (fT vG 8 L80)) H := fz_P ht hB9.1
    have hD := fz_sd hP (hB9.2.weaken (fun _ q _ h => hFc q.1 h)) rfl
    revert hw9
    refine fz_a3 ?_
    intro f18_0 f18_1 f18_2
    refine lv_aload_n hx hb dX12_pivot_21 rfl (lv_at hl 0 rfl) ?_
    refine lv_iload_n hx hb dX12_pivot_22 rfl (lv_at hl 1 rfl) ?_
    refine lv_iload_n hx hb dX12_pivot_23 rfl (lv_at hl 2 rfl) ?_
    have hFc := allFree hD hS hA
    refine va_calli (va_runV (As := [.int (nI rn), .int (nI cn)]) (rest := []) ⟨hx, hb, hml, hown, hts⟩ (r_X12_at l dC dI a k h0 (fT vi 11 0) vj (fT vF 0 g18) (fT vG 8 L80) rn cn C (by first | with_reducible assumption | decide | omega | rfl | assumption) H.size) (cwV 2 hts gwsRX12_pivot_2 rfl rfl rfl hd_yX12_at_RX12 (by decide +kernel)) (fz_pre (va_recv hK hP (ci := 12) (q0 := 0) rfl rfl) hP hK hD) rfl rfl hl.1 rfl (lv_room (Nat.le_of_ble_eq_true rfl)) dX12_pivot_24 (by decide +kernel)) hS (fun q _ h => hFc q h) hFc (fun r24 u t9_ H locs ht hvm hw9 hB9 hz1 hk1 hS => ?_)
    have hP : va_P (dC, dI) vwCl (WR a k h0 (fT vi 11 0) vj (fT vF 0 g18) (fT vG 8 L80)) H := fz_P ht hB9.1
    have hD := fz_sd hP (hB9.2.weaken (fun _ q _ h => hFc q.1 h)) rfl
    obtain rfl := hw9
    refine lv_istore_n hx hb dX12_pivot_27 rfl hl (by decide) rfl (fun ls (hl : lv_has ls _ ([(3, .int (nI (30 + rn * (C + 1) + cn))), (0, .ref h0), (1, .int (nI rn)), (2, .int (nI cn))])) => ?_)
    refine lv_aload_n hx hb dX12_pivot_28 rfl (lv_at hl 1 rfl) ?_
    refine lv_iload_n hx hb dX12_pivot_29 rfl (lv_at hl 0 rfl) ?_
    have hFc := allFree hD hS hA
    refine va_calli (va_runV (As := [.int (nI (30 + rn * (C + 1) + cn))]) (rest := []) ⟨hx, hb, hml, hown, hts⟩ (b_X12_sign l dC dI a k h0 (fT vi 11 0) vj (fT vF 0 g18) (fT vG 8 L80) (30 + rn * (C + 1) + cn) m218 f18_0 (t rn cn) (by rw [(f18_1.1 rn (by omega) cn (by omega))]) (by first | with_reducible assumption | decide | omega | rfl | assumption) H.size) (cwV 1 hts gwsRX12_pivot_3 rfl rfl rfl hd_yX12_sign_RX12 (by decide +kernel)) (fz_pre (va_recv hK hP (ci := 12) (q0 := 0) rfl rfl) hP hK hD) rfl rfl hl.1 rfl (lv_room (Nat.le_of_ble_eq_true rfl)) dX12_pivot_30 (by decide +kernel)) hS (fun q _ h => hFc q h) hFc (fun r30 u t9_ H locs ht hvm hw9 hB9 hz1 hk1 hS => ?_)
    have hP : va_P (dC, dI) vwCl (WR a k h0 (fT vi 11 0) vj (fT vF 0 g18) (fT vG 8 L80)) H := fz_P ht hB9.1
    have hD := fz_sd hP (hB9.2.weaken (fun _ q _ h => hFc q.1 h)) rfl
    have f30_0 := hw9
    try dsimp only at f30_0
    refine lv_istore hx hb dX12_pivot_33 hl (by decide) rfl (fun ls (hl : lv_has ls _ ([(4, .int r30), (3, .int (nI (30 + rn * (C + 1) + cn))), (0, .ref h0), (1, .int (nI rn)), (2, .int (nI cn))])) => ?_)
    have hgs : ((r30).toInt = 1 ∧ (sgI (t rn cn)) = 1) ∨ ((r30).toInt = -1 ∧ (sgI (t rn cn)) = -1) := by rcases f30_0 with h9 | h9 | h9; (exact absurd h9.2 hp0); (exact Or.inl ⟨h9.1, sgI_p (by omega)⟩); (exact Or.inr ⟨h9.1, sgI_n (by omega)⟩)
    refine lv_aload_n hx hb dX12_pivot_35 rfl (lv_at hl 2 rfl) ?_
    refine lv_bipush (v := 21) hx hb dX12_pivot_36 (by decide) ?_
    refine lv_iload_n hx hb dX12_pivot_38 rfl (lv_at hl 1 rfl) ?_
    have hFc := allFree hD hS hA
    refine va_callv (va_runV (As := [.int 21, .int (nI (30 + rn * (C + 1) + cn))]) (rest := []) ⟨hx, hb, hml, hown, hts⟩ (b_X12_copy l dC dI a k h0 (fT vi 11 0) vj (fT vF 0 g18) (fT vG 8 L80) 21 (30 + rn * (C + 1) + cn) m218 f18_0 (t rn cn) (by rw [(f18_1.1 rn (by omega) cn (by omega))]) (by first | with_reducible assumption | decide | omega | rfl | assumption) (by first | with_reducible assumption | decide | omega | rfl | assumption) (by first | with_reducible assumption | decide | omega | rfl | assumption) H.size) (cwV 2 hts gwsRX12_pivot_4 rfl rfl rfl hd_yX12_copy_RX12 (by decide +kernel)) (fz_pre (va_recv hK hP (ci := 12) (q0 := 0) rfl rfl) hP hK hD) rfl rfl hl.1 rfl (lv_room (Nat.le_of_ble_eq_true rfl)) dX12_pivot_39 (by decide +kernel)) hS (fun q _ h => hFc q h) hFc (fun g39 t9_ H locs ht hvm hw9 hB9 hz1 hk1 hS => ?_)
    have e9F : fT vF 0 g39 = fT (fT vF 0 g18) 0 g39 := (fT_sm _ _ _ _).symm
    have hP := wr_PF e9F (fz_P ht hB9.1)
    have hD := wr_DF e9F (hB9.2.weaken (fun _ q _ h => hFc q.1 h))
    clear e9F
    have f39_0 := hw9
    try dsimp only at f39_0
    refine lv_iconst (v := 0) hx hb dX12_pivot_42 (by decide) ?_
    refine lv_istore hx hb dX12_pivot_43 hl (by decide) rfl (fun ls (hl : lv_has ls _ ([(5, .int 0), (4, .int r30), (3, .int (nI (30 + rn * (C + 1) + cn))), (0, .ref h0), (1, .int (nI rn)), (2, .int (nI cn))])) => ?_)
    have e9 : fT (fT (fT vF 0 g39) 2 (vF 2)) 3 (vF 3) = fT vF 0 g39 := Eq.trans (mv_1 rfl) (Eq.trans (id_2 rfl) (id_1 rfl))
    have hP := wr_PF e9 hP
    have hD := wr_DF e9 hD
    clear e9
    have e9 : fT (fT vG 8 L80) 1 (vG 1) = fT vG 8 L80 := by funext q9; by_cases h9_8 : q9 = 8; (subst h9_8; exact ((fT_ne _ _ (Nat.ne_of_beq_eq_false rfl)).trans (fT_eq _ _ _)).trans (Eq.trans (by first | with_reducible rfl | with_reducible assumption | (symm; with_reducible assumption) | rfl | assumption | (symm; assumption) | (subst_vars; rfl)) (fT_eq _ _ _).symm)); by_cases h9_1 : q9 = 1; (subst h9_1; exact (fT_eq _ _ _).trans (Eq.trans (by first | with_reducible rfl | with_reducible assumption | (symm; with_reducible assumption) | rfl | assumption | (symm; assumption) | (subst_vars; rfl)) (fT_ne _ _ (Nat.ne_of_beq_eq_false rfl)).symm)); exact ((fT_ne _ _ h9_1).trans (fT_ne _ _ h9_8)).trans (fT_ne _ _ h9_8).symm
    have hP := wr_PG e9 hP
    have hD := wr_DG e9 hD
    clear e9
    have hl : lv_has _ _ ([(0, .ref h0), (1, .int (nI rn)), (2, .int (nI cn)), (3, .int (nI (30 + rn * (C + 1) + cn))), (4, .int r30), (5, .int (nI 0))]) := lv_sub hl [3, 4, 5, 2, 1, 0] rfl
    refine (fun (loop : ∀ (n9 : Nat) (i : Nat) (g1 : Nat → Int32) (f21 : Nat → Int32) (f31 : Nat → Int32) (gs1 : Nat → Int64) (m1 : Nat → Int) (H : Heap) (locs : List Loc) (ls : Array Slot), (Bg g1 m1) → (m1 21 = (t rn cn)) → (m1 20 = D) → (i ≤ R + Gq) → (∀ i2, i2 < (R + Gq) → ∀ j2, j2 ≤ C → m1 (30 + i2 * (C + 1) + j2) = if i2 < i ∧ i2 ≠ rn then nvT rn cn (sgI (t rn cn)) t D i2 j2 else t i2 j2) → (∀ q, (q < 20 ∨ (26 < q ∧ q < 30) ∨ 30 + (R + Gq) * (C + 1) ≤ q) → m1 q = mg q) →  (R + Gq < i + n9) → va_P (dC, dI) vwCl (WR a k h0 (fT vi 11 0) vj (fT (fT (fT vF 0 g1) 2 f21) 3 f31) (fT (fT vG 8 L80) 1 gs1)) H → va_D A (WR a k h0 (fT vi 11 0) vj (fT (fT (fT vF 0 g1) 2 f21) 3 f31) (fT (fT vG 8 L80) 1 gs1)) → va_S A s.heap H locs → lv_has ls 7 [(0, .ref h0), (1, .int (nI rn)), (2, .int (nI cn)), (3, .int (nI (30 + rn * (C + 1) + cn))), (4, .int r30), (5, .int (nI i))] → W p l e _ s m _ below meth c H locs 0 0 _ (F0 m 45 ls [])) => loop (R + Gq + 1) 0 g39 (vF 2) (vF 3) (vG 1) (fT m218 21 (t rn cn)) _ _ _ (f39_0) ((by rw [fT_eq])) ((by rw [fT_ne _ _ (by omega), f18_1.2])) (by omega) (fun i2 hi2 j2 hj2 => by rw [fT_ne _ _ (by omega), f18_1.1 i2 hi2 j2 hj2, if_neg (by omega)]) (fun q hq => by (rw [fT_ne _ _ (by omega), f18_2 _ (by omega) (by omega)])) (by omega) hP hD hS hl) ?_
    intro n9
    induction n9 with
    | zero => intro i g1 f21 f31 gs1 m1 H locs ls hB1 h21 h20 hi htab ho hf9; exact False.elim (by omega)
    | succ n9 ih45 =>
      intro i g1 f21 f31 gs1 m1 H locs ls hB1 h21 h20 hi htab ho hf45 hP hD hS hl
      refine lv_iload hx hb dX12_pivot_45 (lv_at hl 5 rfl) ?_
      refine lv_aload_n hx hb dX12_pivot_47 rfl (lv_at hl 0 rfl) ?_
      refine va_get (D := (dC, dI)) (ci := 12) (v := .int (vi 6)) (C := RX12) (T := TX12) (N := 163) (fs := fM (vS a (fT vi 11 0) vj)) hx hb hts iwsRX12_pivot_in12 hown hK hP 0 rfl rfl 6 (by decide) (hts (.fieldLink RX12 399 "OptimaWorksModel" "rows" "I") (by decide +kernel)) (fun _ h9 => h9) rfl dX12_pivot_48 ?_
      refine lv_topi (fun y1 hy1 => ?_)
      obtain rfl : (nI R) = y1 := (hy1.trans (hR)).symm
      refine lv_aload_n hx hb dX12_pivot_51 rfl (lv_at hl 0 rfl) ?_
      refine va_get (D := (dC, dI)) (ci := 12) (v := .int (vi 7)) (C := RX12) (T := TX12) (N := 163) (fs := fM (vS a (fT vi 11 0) vj)) hx hb hts iwsRX12_pivot_in12 hown hK hP 0 rfl rfl 7 (by decide) (hts (.fieldLink RX12 402 "OptimaWorksModel" "goals" "I") (by decide +kernel)) (fun _ h9 => h9) rfl dX12_pivot_52 ?_
      refine lv_topi (fun y2 hy2 => ?_)
      obtain rfl : (nI Gq) = y2 := (hy2.trans (hG)).symm
      refine lv_iadd hx hb dX12_pivot_55 ?_
      refine lv_topi (fun y3 hy3 => ?_)
      obtain rfl : (nI (R + Gq)) = y3 := (hy3.trans (nI_add R Gq)).symm
      refine lv_icmp_ge (tgt := 207) hx hb dX12_pivot_56 (by decide) (fun c_56 => ?_) (fun c_56 => ?_)
      · have t_56 : ((i : Nat) : Int) ≥ (((R + Gq) : Nat) : Int) := toI_ge c_56 (nI_toInt (by omega)) (nI_toInt (by omega))
        refine lv_iconst (v := 0) hx hb dX12_pivot_207 (by decide) ?_
        refine lv_istore hx hb dX12_pivot_208 hl (by decide) rfl (fun ls (hl : lv_has ls _ ([(5, .int 0), (0, .ref h0), (1, .int (nI rn)), (2, .int (nI cn)), (3, .int (nI (30 + rn * (C + 1) + cn))), (4, .int r30)])) => ?_)
        have hl : lv_has _ _ ([(0, .ref h0), (1, .int (nI rn)), (2, .int (nI cn)), (3, .int (nI (30 + rn * (C + 1) + cn))), (4, .int r30), (5, .int (nI 0))]) := lv_sub hl [1, 2, 3, 4, 5, 0] rfl
        refine (fun (loop : ∀ (n9 : Nat) (j : Nat) (g5 : Nat → Int32) (m5 : Nat → Int) (H : Heap) (locs : List Loc) (ls : Array Slot), (Bg g5 m5) → (m5 21 = (t rn cn)) → (m5 20 = D) → (j ≤ C + 1) → (j = 0 ∨ (sgI (t rn cn)) = -1) → (∀ i2, i2 < (R + Gq) → ∀ j2, j2 ≤ C → m5 (30 + i2 * (C + 1) + j2) = if i2 = rn then (if j2 < j ∧ j2 ≠ cn then (sgI (t rn cn)) * t rn j2 else t rn j2) else nvT rn cn (sgI (t rn cn)) t D i2 j2) → (∀ q, (q < 20 ∨ (26 < q ∧ q < 30) ∨ 30 + (R + Gq) * (C + 1) ≤ q) → m5 q = mg q) →  (C + 1 < j + n9) → va_P (dC, dI) vwCl (WR a k h0 (fT vi 11 0) vj (fT (fT (fT vF 0 g5) 2 f21) 3 f31) (fT (fT vG 8 L80) 1 gs1)) H → va_D A (WR a k h0 (fT vi 11 0) vj (fT (fT (fT vF 0 g5) 2 f21) 3 f31) (fT (fT vG 8 L80) 1 gs1)) → va_S A s.heap H locs → lv_has ls 7 [(0, .ref h0), (1, .int (nI rn)), (2, .int (nI cn)), (3, .int (nI (30 + rn * (C + 1) + cn))), (4, .int r30), (5, .int (nI j))] → W p l e _ s m _ below meth c H locs 0 0 _ (F0 m 210 ls [])) => loop (C + 2) 0 g1 m1 _ _ _ (hB1) ((by rw [h21])) ((by rw [h20])) (by omega) (Or.inl rfl) (fun i2 hi2 j2 hj2 => by rw [htab i2 hi2 j2 hj2]; by_cases e9 : i2 = rn; (rw [if_neg (by omega), if_pos e9, if_neg (by omega), e9]); (rw [if_pos (by omega), if_neg e9])) (ho) (by omega) hP hD hS hl) ?_
        intro n9
        induction n9 with
        | zero => intro j g5 m5 H locs ls hB5 h21c h20c hj5 hj0 htab5 ho5 hf9; exact False.elim (by omega)
        | succ n9 ih210_1 =>
          intro j g5 m5 H locs ls hB5 h21c h20c hj5 hj0 htab5 ho5 hf210_1 hP hD hS hl
          refine lv_iload hx hb dX12_pivot_210 (lv_at hl 5 rfl) ?_
          refine lv_aload_n hx hb dX12_pivot_212 rfl (lv_at hl 0 rfl) ?_
          refine va_get (D := (dC, dI)) (ci := 12) (v := .int (vi 5)) (C := RX12) (T := TX12) (N := 163) (fs := fM (vS a (fT vi 11 0) vj)) hx hb hts iwsRX12_pivot_in12 hown hK hP 0 rfl rfl 5 (by decide) (hts _ hm_r_X12_pivot_0) (fun _ h9 => h9) rfl dX12_pivot_213 ?_
          refine lv_topi (fun y4 hy4 => ?_)
          obtain rfl : (nI C) = y4 := (hy4.trans (hC)).symm
          refine lv_icmp_gt (tgt := 247) hx hb dX12_pivot_216 (by decide) (fun c_216 => ?_) (fun c_216 => ?_)
          · have t_216 : ((j : Nat) : Int) > ((C : Nat) : Int) := toI_gt c_216 (nI_toInt (by omega)) (nI_toInt (by omega))
            refine lv_aload_n hx hb dX12_pivot_247 rfl (lv_at hl 0 rfl) ?_
            refine lv_iload_n hx hb dX12_pivot_248 rfl (lv_at hl 3 rfl) ?_
            refine lv_bipush (v := 20) hx hb dX12_pivot_249 (by decide) ?_
            have hFc := allFree hD hS hA
            refine va_callv (va_runV (As := [.int (nI (30 + rn * (C + 1) + cn)), .int 20]) (rest := []) ⟨hx, hb, hml, hown, hts⟩ (b_X12_copy l dC dI a k h0 (fT vi 11 0) vj (fT (fT (fT vF 0 g5) 2 f21) 3 f31) (fT (fT vG 8 L80) 1 gs1) (30 + rn * (C + 1) + cn) 20 m5 hB5 D (by rw [h20c]) (by first | with_reducible assumption | decide | omega | rfl | assumption) (by first | with_reducible assumption | decide | omega | rfl | assumption) (by first | with_reducible assumption | decide | omega | rfl | assumption) H.size) (cwV 2 hts gwsRX12_pivot_4 rfl rfl rfl hd_yX12_copy_RX12 (by decide +kernel)) (fz_pre (va_recv hK hP (ci := 12) (q0 := 0) rfl rfl) hP hK hD) rfl rfl hl.1 rfl (lv_room (Nat.le_of_ble_eq_true rfl)) dX12_pivot_251 (by decide +kernel)) hS (fun q _ h => hFc q h) hFc (fun g251 t9_ H locs ht hvm hw9 hB9 hz1 hk1 hS => ?_)
            have e9F : fT (fT (fT vF 0 g251) 2 f21) 3 f31 = fT (fT (fT (fT vF 0 g5) 2 f21) 3 f31) 0 g251 := ((fT_sw _ _ _ (Nat.ne_of_beq_eq_false rfl)).trans (congrArg (fun g9 => fT g9 3 f31) ((fT_sw _ _ _ (Nat.ne_of_beq_eq_false rfl)).trans (congrArg (fun g9 => fT g9 2 f21) (fT_sm _ _ _ _))))).symm
            have hP := wr_PF e9F (fz_P ht hB9.1)
            have hD := wr_DF e9F (hB9.2.weaken (fun _ q _ h => hFc q.1 h))
            clear e9F
            have f251_0 := hw9
            try dsimp only at f251_0
            refine lv_iload hx hb dX12_pivot_254 (lv_at hl 4 rfl) ?_
            refine lv_if_ge (tgt := 264) hx hb dX12_pivot_256 (by decide) (fun c9 => False.elim (by have t9 : (r30).toInt ≥ 0 := toI_ge c9 rfl (by decide); omega)) (fun c_256 => ?_)
            have t_256 : ¬ (r30).toInt ≥ 0 := toI_nge c_256 rfl (by decide)
            refine lv_aload_n hx hb dX12_pivot_259 rfl (lv_at hl 0 rfl) ?_
            refine lv_iload_n hx hb dX12_pivot_260 rfl (lv_at hl 3 rfl) ?_
            have hFc := allFree hD hS hA
            refine va_callv (va_runV (As := [.int (nI (30 + rn * (C + 1) + cn))]) (rest := []) ⟨hx, hb, hml, hown, hts⟩ (b_X12_turn l dC dI a k h0 (fT vi 11 0) vj (fT (fT (fT vF 0 g251) 2 f21) 3 f31) (fT (fT vG 8 L80) 1 gs1) (30 + rn * (C + 1) + cn) (fT m5 (30 + rn * (C + 1) + cn) D) f251_0 D (by rw [fT_eq]) (by first | with_reducible assumption | decide | omega | rfl | assumption) H.size) (cwV 1 hts gwsRX12_pivot_5 rfl rfl rfl hd_yX12_turn_RX12 (by decide +kernel)) (fz_pre (va_recv hK hP (ci := 12) (q0 := 0) rfl rfl) hP hK hD) rfl rfl hl.1 rfl (lv_room (Nat.le_of_ble_eq_true rfl)) dX12_pivot_261 (by decide +kernel)) hS (fun q _ h => hFc q h) hFc (fun u t9_ H locs ht hvm hw9 hB9 hz1 hk1 hS => ?_)
            have e9F : fT (fT (fT vF 0 (upd g251 (nI (24 * (30 + rn * (C + 1) + cn))).toNatClampNeg (-(g251 (24 * (30 + rn * (C + 1) + cn)))))) 2 f21) 3 f31 = fT (fT (fT (fT vF 0 g251) 2 f21) 3 f31) 0 (upd g251 (nI (24 * (30 + rn * (C + 1) + cn))).toNatClampNeg (-(g251 (24 * (30 + rn * (C + 1) + cn))))) := ((fT_sw _ _ _ (Nat.ne_of_beq_eq_false rfl)).trans (congrArg (fun g9 => fT g9 3 f31) ((fT_sw _ _ _ (Nat.ne_of_beq_eq_false rfl)).trans (congrArg (fun g9 => fT g9 2 f21) (fT_sm _ _ _ _))))).symm
            have hP := wr_PF e9F (fz_P ht hB9.1)
            have hD := wr_DF e9F (hB9.2.weaken (fun _ q _ h => hFc q.1 h))
            clear e9F
            have f261_0 := hw9
            try dsimp only at f261_0
            have f261_0 : Bg (upd g251 (nI (24 * (30 + rn * (C + 1) + cn))).toNatClampNeg (-(g251 (24 * (30 + rn * (C + 1) + cn))))) (fT (fT m5 (30 + rn * (C + 1) + cn) D) (30 + rn * (C + 1) + cn) (-D)) := f261_0
            refine lv_aload_n hx hb dX12_pivot_264 rfl (lv_at hl 0 rfl) ?_
            refine lv_bipush (v := 20) hx hb dX12_pivot_265 (by decide) ?_
            refine lv_bipush (v := 21) hx hb dX12_pivot_267 (by decide) ?_
            have hFc := allFree hD hS hA
            refine va_callv (va_runV (As := [.int 20, .int 21]) (rest := []) ⟨hx, hb, hml, hown, hts⟩ (b_X12_copy l dC dI a k h0 (fT vi 11 0) vj (fT (fT (fT vF 0 (upd g251 (nI (24 * (30 + rn * (C + 1) + cn))).toNatClampNeg (-(g251 (24 * (30 + rn * (C + 1) + cn)))))) 2 f21) 3 f31) (fT (fT vG 8 L80) 1 gs1) 20 21 (fT (fT m5 (30 + rn * (C + 1) + cn) D) (30 + rn * (C + 1) + cn) (-D)) f261_0 (t rn cn) (by rw [fT_ne _ _ (by omega), fT_ne _ _ (by omega), h21c]) (by first | with_reducible assumption | decide | omega | rfl | assumption) (by first | with_reducible assumption | decide | omega | rfl | assumption) (by first | with_reducible assumption | decide | omega | rfl | assumption) H.size) (cwV 2 hts gwsRX12_pivot_4 rfl rfl rfl hd_yX12_copy_RX12 (by decide +kernel)) (fz_pre (va_recv hK hP (ci := 12) (q0 := 0) rfl rfl) hP hK hD) rfl rfl hl.1 rfl (lv_room (Nat.le_of_ble_eq_true rfl)) dX12_pivot_269 (by decide +kernel)) hS (fun q _ h => hFc q h) hFc (fun g269 t9_ H locs ht hvm hw9 hB9 hz1 hk1 hS => ?_)
            have e9F : fT (fT (fT vF 0 g269) 2 f21) 3 f31 = fT (fT (fT (fT vF 0 (upd g251 (nI (24 * (30 + rn * (C + 1) + cn))).toNatClampNeg (-(g251 (24 * (30 + rn * (C + 1) + cn)))))) 2 f21) 3 f31) 0 g269 := ((fT_sw _ _ _ (Nat.ne_of_beq_eq_false rfl)).trans (congrArg (fun g9 => fT g9 3 f31) ((fT_sw _ _ _ (Nat.ne_of_beq_eq_false rfl)).trans (congrArg (fun g9 => fT g9 2 f21) (fT_sm _ _ _ _))))).symm
            have hP := wr_PF e9F (fz_P ht hB9.1)
            have hD := wr_DF e9F (hB9.2.weaken (fun _ q _ h => hFc q.1 h))
            clear e9F
            have f269_0 := hw9
            try dsimp only at f269_0
            refine lv_iload hx hb dX12_pivot_272 (lv_at hl 4 rfl) ?_
            refine lv_if_ge (tgt := 283) hx hb dX12_pivot_274 (by decide) (fun c9 => False.elim (by have t9 : (r30).toInt ≥ 0 := toI_ge c9 rfl (by decide); omega)) (fun c_274 => ?_)
            have t_274 : ¬ (r30).toInt ≥ 0 := toI_nge c_274 rfl (by decide)
            refine lv_aload_n hx hb dX12_pivot_277 rfl (lv_at hl 0 rfl) ?_
            refine lv_bipush (v := 20) hx hb dX12_pivot_278 (by decide) ?_
            have hFc := allFree hD hS hA
            refine va_callv (va_runV (As := [.int 20]) (rest := []) ⟨hx, hb, hml, hown, hts⟩ (b_X12_turn l dC dI a k h0 (fT vi 11 0) vj (fT (fT (fT vF 0 g269) 2 f21) 3 f31) (fT (fT vG 8 L80) 1 gs1) 20 (fT (fT (fT m5 (30 + rn * (C + 1) + cn) D) (30 + rn * (C + 1) + cn) (-D)) 20 (t rn cn)) f269_0 (t rn cn) (by rw [fT_eq]) (by first | with_reducible assumption | decide | omega | rfl | assumption) H.size) (cwV 1 hts gwsRX12_pivot_5 rfl rfl rfl hd_yX12_turn_RX12 (by decide +kernel)) (fz_pre (va_recv hK hP (ci := 12) (q0 := 0) rfl rfl) hP hK hD) rfl rfl hl.1 rfl (lv_room (Nat.le_of_ble_eq_true rfl)) dX12_pivot_280 (by decide +kernel)) hS (fun q _ h => hFc q h) hFc (fun u t9_ H locs ht hvm hw9 hB9 hz1 hk1 hS => ?_)
            have e9F : fT (fT (fT vF 0 (upd g269 (nI (24 * 20)).toNatClampNeg (-(g269 (24 * 20))))) 2 f21) 3 f31 = fT (fT (fT (fT vF 0 g269) 2 f21) 3 f31) 0 (upd g269 (nI (24 * 20)).toNatClampNeg (-(g269 (24 * 20)))) := ((fT_sw _ _ _ (Nat.ne_of_beq_eq_false rfl)).trans (congrArg (fun g9 => fT g9 3 f31) ((fT_sw _ _ _ (Nat.ne_of_beq_eq_false rfl)).trans (congrArg (fun g9 => fT g9 2 f21) (fT_sm _ _ _ _))))).symm
            have hP := wr_PF e9F (fz_P ht hB9.1)
            have hD := wr_DF e9F (hB9.2.weaken (fun _ q _ h => hFc q.1 h))
            clear e9F
            have f280_0 := hw9
            try dsimp only at f280_0
            have f280_0 : Bg (upd g269 (nI (24 * 20)).toNatClampNeg (-(g269 (24 * 20)))) (fT (fT (fT (fT m5 (30 + rn * (C + 1) + cn) D) (30 + rn * (C + 1) + cn) (-D)) 20 (t rn cn)) 20 (-(t rn cn))) := f280_0
            refine lv_aload_n hx hb dX12_pivot_283 rfl (lv_at hl 0 rfl) ?_
            refine lv_iload_n hx hb dX12_pivot_284 rfl (lv_at hl 1 rfl) ?_
            refine lv_iload_n hx hb dX12_pivot_285 rfl (lv_at hl 2 rfl) ?_
            have hFc := allFree hD hS hA
            refine va_callv (va_runV (As := [.int (nI rn), .int (nI cn)]) (rest := []) ⟨hx, hb, hml, hown, hts⟩ (r_X12_exchange l dC dI a k h0 (fT vi 11 0) vj (fT (fT (fT vF 0 (upd g269 (nI (24 * 20)).toNatClampNeg (-(g269 (24 * 20))))) 2 f21) 3 f31) (fT (fT vG 8 L80) 1 gs1) rn cn (by first | with_reducible assumption | decide | omega | rfl | assumption) (by first | with_reducible assumption | decide | omega | rfl | assumption) H.size) (cwV 2 hts gwsRX12_pivot_6 rfl rfl rfl hd_yX12_exchange_RX12 (by decide +kernel)) (fz_pre (va_recv hK hP (ci := 12) (q0 := 0) rfl rfl) hP hK hD) rfl rfl hl.1 rfl (lv_room (Nat.le_of_ble_eq_true rfl)) dX12_pivot_286 (by decide +kernel)) hS (fun q _ h => hFc q h) hFc (fun u t9_ H locs ht hvm hw9 hB9 hz1 hk1 hS => ?_)
            have hP : va_P (dC, dI) vwCl (WR a k h0 (fT vi 11 0) vj (fT (fT (fT (fT (fT vF 0 (upd g269 (nI (24 * 20)).toNatClampNeg (-(g269 (24 * 20))))) 2 f21) 3 f31) 4 (upd (vF 4) (nI cn).toNatClampNeg ((vF 5) rn))) 5 (upd (vF 5) (nI rn).toNatClampNeg ((vF 4) cn))) (fT (fT vG 8 L80) 1 gs1)) H := fz_P ht hB9.1
            have hD := fz_sd hP (hB9.2.weaken (fun _ q _ h => hFc q.1 h)) rfl
            refine W.widen (k := 0) (n := 0) (by decide +kernel) (by decide +kernel) ?_
            have e9 : fT vj 12 (vj 12) = vj := fT_id _ _ (rfl)
            have hP := wr_Pj e9 hP
            have hD := wr_Dj e9 hD
            clear e9
            have e9 : fT (fT (fT (fT (fT vF 0 (upd g269 (nI (24 * 20)).toNatClampNeg (-(g269 (24 * 20))))) 2 f21) 3 f31) 4 (upd (vF 4) (nI cn).toNatClampNeg (vF 5 rn))) 5 (upd (vF 5) (nI rn).toNatClampNeg (vF 4 cn)) = fT (fT (fT (fT (fT vF 0 (upd g269 (nI (24 * 20)).toNatClampNeg (-(g269 (24 * 20))))) 2 f21) 3 f31) 4 (upd (vF 4) (nI cn).toNatClampNeg ((vF 5) rn))) 5 (upd (vF 5) (nI rn).toNatClampNeg ((vF 4) cn)) := Eq.trans (mv_1 rfl) (Eq.trans (congrArg (fT _ 4) (show upd (vF 4) (nI cn).toNatClampNeg (vF 5 rn) = upd (vF 4) (nI cn).toNatClampNeg ((vF 5) rn) from (by first | with_reducible rfl | with_reducible assumption | (symm; with_reducible assumption) | rfl | assumption | (symm; assumption) | (subst_vars; rfl)))) (Eq.trans (mv_1 rfl) (congrArg (fT _ 5) (show upd (vF 5) (nI rn).toNatClampNeg (vF 4 cn) = upd (vF 5) (nI rn).toNatClampNeg ((vF 4) cn) from (by first | with_reducible rfl | with_reducible assumption | (symm; with_reducible assumption) | rfl | assumption | (symm; assumption) | (subst_vars; rfl))))))
            have hP := wr_PF e9 hP
            have hD := wr_DF e9 hD
            clear e9
            have e9 : fT (fT (fT vG 8 L80) 7 (vG 7)) 1 gs1 = fT (fT vG 8 L80) 1 gs1 := Eq.trans (mv_1 rfl) (id_2 rfl)
            have hP := wr_PG e9 hP
            have hD := wr_DG e9 hD
            clear e9
            exact W.vret hx hb hr (fun t9_ ht hW => ⟨⟨((upd g269 (nI (24 * 20)).toNatClampNeg (-(g269 (24 * 20)))), f21, f31, gs1, 0, (vj 12), (vG 7), L80, (fT (fT (fT (fT m5 (30 + rn * (C + 1) + cn) D) (30 + rn * (C + 1) + cn) (-D)) 20 (t rn cn)) 20 (-(t rn cn)))), rfl, by (try dsimp only); exact ⟨f280_0, Or.inl ⟨rfl, ⟨fun i2 hi2 j2 hj2 => by (have gx : (sgI (t rn cn)) = -1 := by omega); (rw [fT_ne _ _ (by omega), fT_ne _ _ (by omega)]); by_cases e9 : i2 = rn ∧ j2 = cn; (rw [e9.1, e9.2, fT_eq, nv_piv, gx]; omega); ((have n9 : 30 + i2 * (C + 1) + j2 ≠ 30 + rn * (C + 1) + cn := fun h => e9 (pl_inj hj2 (by omega) (by omega))); rw [fT_ne _ _ n9, fT_ne _ _ n9, htab5 i2 hi2 j2 hj2]; by_cases e8 : i2 = rn; (rw [if_pos e8, e8, nv_row _ _ _ _ _ (by omega), gx]; split <;> omega); (rw [if_neg e8])), by (have gx : (sgI (t rn cn)) = -1 := by omega); rw [fT_eq, gx]; omega⟩⟩, fun q hq => by (rw [fT_ne _ _ (by omega), fT_ne _ _ (by omega), fT_ne _ _ (by omega), fT_ne _ _ (by omega)]); exact ho5 q hq⟩, by rw [ht]; exact hP, hD⟩, hS.F ht⟩) hS.2.2 dX12_pivot_289
          · have t_216 : ¬ ((j : Nat) : Int) > ((C : Nat) : Int) := toI_ngt c_216 (nI_toInt (by omega)) (nI_toInt (by omega))
            refine lv_iload hx hb dX12_pivot_219 (lv_at hl 4 rfl) ?_
            refine lv_if_ge (tgt := 247) hx hb dX12_pivot_221 (by decide) (fun c_221 => ?_) (fun c_221 => ?_)
            · have t_221 : (r30).toInt ≥ 0 := toI_ge c_221 rfl (by decide)
              refine lv_aload_n hx hb dX12_pivot_247 rfl (lv_at hl 0 rfl) ?_
              refine lv_iload_n hx hb dX12_pivot_248 rfl (lv_at hl 3 rfl) ?_
              refine lv_bipush (v := 20) hx hb dX12_pivot_249 (by decide) ?_
              have hFc := allFree hD hS hA
              refine va_callv (va_runV (As := [.int (nI (30 + rn * (C + 1) + cn)), .int 20]) (rest := []) ⟨hx, hb, hml, hown, hts⟩ (b_X12_copy l dC dI a k h0 (fT vi 11 0) vj (fT (fT (fT vF 0 g5) 2 f21) 3 f31) (fT (fT vG 8 L80) 1 gs1) (30 + rn * (C + 1) + cn) 20 m5 hB5 D (by rw [h20c]) (by first | with_reducible assumption | decide | omega | rfl | assumption) (by first | with_reducible assumption | decide | omega | rfl | assumption) (by first | with_reducible assumption | decide | omega | rfl | assumption) H.size) (cwV 2 hts gwsRX12_pivot_4 rfl rfl rfl hd_yX12_copy_RX12 (by decide +kernel)) (fz_pre (va_recv hK hP (ci := 12) (q0 := 0) rfl rfl) hP hK hD) rfl rfl hl.1 rfl (lv_room (Nat.le_of_ble_eq_true rfl)) dX12_pivot_251 (by decide +kernel)) hS (fun q _ h => hFc q h) hFc (fun g251_1 t9_ H locs ht hvm hw9 hB9 hz1 hk1 hS => ?_)
              have e9F : fT (fT (fT vF 0 g251_1) 2 f21) 3 f31 = fT (fT (fT (fT vF 0 g5) 2 f21) 3 f31) 0 g251_1 := ((fT_sw _ _ _ (Nat.ne_of_beq_eq_false rfl)).trans (congrArg (fun g9 => fT g9 3 f31) ((fT_sw _ _ _ (Nat.ne_of_beq_eq_false rfl)).trans (congrArg (fun g9 => fT g9 2 f21) (fT_sm _ _ _ _))))).symm
              have hP := wr_PF e9F (fz_P ht hB9.1)
              have hD := wr_DF e9F (hB9.2.weaken (fun _ q _ h => hFc q.1 h))
              clear e9F
              have f251_1_0 := hw9
              try dsimp only at f251_1_0
              refine lv_iload hx hb dX12_pivot_254 (lv_at hl 4 rfl) ?_
              refine lv_if_ge (tgt := 264) hx hb dX12_pivot_256 (by decide) (fun c_256 => ?_) (fun c9 => False.elim (by have t9 : ¬ (r30).toInt ≥ 0 := toI_nge c9 rfl (by decide); omega))
              have t_256 : (r30).toInt ≥ 0 := toI_ge c_256 rfl (by decide)
              refine lv_aload_n hx hb dX12_pivot_264 rfl (lv_at hl 0 rfl) ?_
              refine lv_bipush (v := 20) hx hb dX12_pivot_265 (by decide) ?_
              refine lv_bipush (v := 21) hx hb dX12_pivot_267 (by decide) ?_
              have hFc := allFree hD hS hA
              refine va_callv (va_runV (As := [.int 20, .int 21]) (rest := []) ⟨hx, hb, hml, hown, hts⟩ (b_X12_copy l dC dI a k h0 (fT vi 11 0) vj (fT (fT (fT vF 0 g251_1) 2 f21) 3 f31) (fT (fT vG 8 L80) 1 gs1) 20 21 (fT m5 (30 + rn * (C + 1) + cn) D) f251_1_0 (t rn cn) (by rw [fT_ne _ _ (by omega), h21c]) (by first | with_reducible assumption | decide | omega | rfl | assumption) (by first | with_reducible assumption | decide | omega | rfl | assumption) (by first | with_reducible assumption | decide | omega | rfl | assumption) H.size) (cwV 2 hts gwsRX12_pivot_4 rfl rfl rfl hd_yX12_copy_RX12 (by decide +kernel)) (fz_pre (va_recv hK hP (ci := 12) (q0 := 0) rfl rfl) hP hK hD) rfl rfl hl.1 rfl (lv_room (Nat.le_of_ble_eq_true rfl)) dX12_pivot_269 (by decide +kernel)) hS (fun q _ h => hFc q h) hFc (fun g269_1 t9_ H locs ht hvm hw9 hB9 hz1 hk1 hS => ?_)
              have e9F : fT (fT (fT vF 0 g269_1) 2 f21) 3 f31 = fT (fT (fT (fT vF 0 g251_1) 2 f21) 3 f31) 0 g269_1 := ((fT_sw _ _ _ (Nat.ne_of_beq_eq_false rfl)).trans (congrArg (fun g9 => fT g9 3 f31) ((fT_sw _ _ _ (Nat.ne_of_beq_eq_false rfl)).trans (congrArg (fun g9 => fT g9 2 f21) (fT_sm _ _ _ _))))).symm
              have hP := wr_PF e9F (fz_P ht hB9.1)
              have hD := wr_DF e9F (hB9.2.weaken (fun _ q _ h => hFc q.1 h))
              clear e9F
              have f269_1_0 := hw9
              try dsimp only at f269_1_0
              refine lv_iload hx hb dX12_pivot_272 (lv_at hl 4 rfl) ?_
              refine lv_if_ge (tgt := 283) hx hb dX12_pivot_274 (by decide) (fun c_274 => ?_) (fun c9 => False.elim (by have t9 : ¬ (r30).toInt ≥ 0 := toI_nge c9 rfl (by decide); omega))
              have t_274 : (r30).toInt ≥ 0 := toI_ge c_274 rfl (by decide)
              refine lv_aload_n hx hb dX12_pivot_283 rfl (lv_at hl 0 rfl) ?_
              refine lv_iload_n hx hb dX12_pivot_284 rfl (lv_at hl 1 rfl) ?_
              refine lv_iload_n hx hb dX12_pivot_285 rfl (lv_at hl 2 rfl) ?_
              have hFc := allFree hD hS hA
              refine va_callv (va_runV (As := [.int (nI rn), .int (nI cn)]) (rest := []) ⟨hx, hb, hml, hown, hts⟩ (r_X12_exchange l dC dI a k h0 (fT vi 11 0) vj (fT (fT (fT vF 0 g269_1) 2 f21) 3 f31) (fT (fT vG 8 L80) 1 gs1) rn cn (by first | with_reducible assumption | decide | omega | rfl | assumption) (by first | with_reducible assumption | decide | omega | rfl | assumption) H.size) (cwV 2 hts gwsRX12_pivot_6 rfl rfl rfl hd_yX12_exchange_RX12 (by decide +kernel)) (fz_pre (va_recv hK hP (ci := 12) (q0 := 0) rfl rfl) hP hK hD) rfl rfl hl.1 rfl (lv_room (Nat.le_of_ble_eq_true rfl)) dX12_pivot_286 (by decide +kernel)) hS (fun q _ h => hFc q h) hFc (fun u t9_ H locs ht hvm hw9 hB9 hz1 hk1 hS => ?_)
              have hP : va_P (dC, dI) vwCl (WR a k h0 (fT vi 11 0) vj (fT (fT (fT (fT (fT vF 0 g269_1) 2 f21) 3 f31) 4 (upd (vF 4) (nI cn).toNatClampNeg ((vF 5) rn))) 5 (upd (vF 5) (nI rn).toNatClampNeg ((vF 4) cn))) (fT (fT vG 8 L80) 1 gs1)) H := fz_P ht hB9.1
              have hD := fz_sd hP (hB9.2.weaken (fun _ q _ h => hFc q.1 h)) rfl
              refine W.widen (k := 0) (n := 0) (by decide +kernel) (by decide +kernel) ?_
              have e9 : fT vj 12 (vj 12) = vj := fT_id _ _ (rfl)
              have hP := wr_Pj e9 hP
              have hD := wr_Dj e9 hD
              clear e9
              have e9 : fT (fT (fT (fT (fT vF 0 g269_1) 2 f21) 3 f31) 4 (upd (vF 4) (nI cn).toNatClampNeg (vF 5 rn))) 5 (upd (vF 5) (nI rn).toNatClampNeg (vF 4 cn)) = fT (fT (fT (fT (fT vF 0 g269_1) 2 f21) 3 f31) 4 (upd (vF 4) (nI cn).toNatClampNeg ((vF 5) rn))) 5 (upd (vF 5) (nI rn).toNatClampNeg ((vF 4) cn)) := Eq.trans (mv_1 rfl) (Eq.trans (congrArg (fT _ 4) (show upd (vF 4) (nI cn).toNatClampNeg (vF 5 rn) = upd (vF 4) (nI cn).toNatClampNeg ((vF 5) rn) from (by first | with_reducible rfl | with_reducible assumption | (symm; with_reducible assumption) | rfl | assumption | (symm; assumption) | (subst_vars; rfl)))) (Eq.trans (mv_1 rfl) (congrArg (fT _ 5) (show upd (vF 5) (nI rn).toNatClampNeg (vF 4 cn) = upd (vF 5) (nI rn).toNatClampNeg ((vF 4) cn) from (by first | with_reducible rfl | with_reducible assumption | (symm; with_reducible assumption) | rfl | assumption | (symm; assumption) | (subst_vars; rfl))))))
              have hP := wr_PF e9 hP
              have hD := wr_DF e9 hD
              clear e9
              have e9 : fT (fT (fT vG 8 L80) 7 (vG 7)) 1 gs1 = fT (fT vG 8 L80) 1 gs1 := Eq.trans (mv_1 rfl) (id_2 rfl)
              have hP := wr_PG e9 hP
              have hD := wr_DG e9 hD
              clear e9
              exact W.vret hx hb hr (fun t9_ ht hW => ⟨⟨(g269_1, f21, f31, gs1, 0, (vj 12), (vG 7), L80, (fT (fT m5 (30 + rn * (C + 1) + cn) D) 20 (t rn cn))), rfl, by (try dsimp only); exact ⟨f269_1_0, Or.inl ⟨rfl, ⟨fun i2 hi2 j2 hj2 => by (have gx : (sgI (t rn cn)) = 1 := by omega); (rw [fT_ne _ _ (by omega)]); by_cases e9 : i2 = rn ∧ j2 = cn; (rw [e9.1, e9.2, fT_eq, nv_piv, gx]; omega); ((have n9 : 30 + i2 * (C + 1) + j2 ≠ 30 + rn * (C + 1) + cn := fun h => e9 (pl_inj hj2 (by omega) (by omega))); rw [fT_ne _ _ n9, htab5 i2 hi2 j2 hj2]; by_cases e8 : i2 = rn; (rw [if_pos e8, e8, nv_row _ _ _ _ _ (by omega), gx]; split <;> omega); (rw [if_neg e8])), by (have gx : (sgI (t rn cn)) = 1 := by omega); rw [fT_eq, gx]; omega⟩⟩, fun q hq => by (rw [fT_ne _ _ (by omega), fT_ne _ _ (by omega)]); exact ho5 q hq⟩, by rw [ht]; exact hP, hD⟩, hS.F ht⟩) hS.2.2 dX12_pivot_289
            · have t_221 : ¬ (r30).toInt ≥ 0 := toI_nge c_221 rfl (by decide)
              refine lv_iload hx hb dX12_pivot_224 (lv_at hl 5 rfl) ?_
              refine lv_iload_n hx hb dX12_pivot_226 rfl (lv_at hl 2 rfl) ?_
              refine lv_icmp_eq (tgt := 241) hx hb dX12_pivot_227 (by decide) (fun c_227 => ?_) (fun c_227 => ?_)
              · have t_227 : ((j : Nat) : Int) = ((cn : Nat) : Int) := toI_eq c_227 (nI_toInt (by omega)) (nI_toInt (by omega))
                refine lv_iinc (v := (nI (j + 1))) hx hb dX12_pivot_241 hl (k := 5) rfl (nI_add j 1) (by decide) rfl (fun ls (hl : lv_has ls _ ([(5, .int (nI (j + 1))), (0, .ref h0), (1, .int (nI rn)), (2, .int (nI cn)), (3, .int (nI (30 + rn * (C + 1) + cn))), (4, .int r30)])) => ?_)
                refine lv_goto (tgt := 210) hx hb dX12_pivot_244 (by decide) ?_
                have hl : lv_has _ _ ([(0, .ref h0), (1, .int (nI rn)), (2, .int (nI cn)), (3, .int (nI (30 + rn * (C + 1) + cn))), (4, .int r30), (5, .int (nI (j + 1)))]) := lv_sub hl [1, 2, 3, 4, 5, 0] rfl
                exact ih210_1 (j + 1) g5 m5 _ _ _ (hB5) ((by rw [h21c])) ((by rw [h20c])) (by omega) (by omega) (fun i2 hi2 j2 hj2 => by rw [htab5 i2 hi2 j2 hj2]; exact if_congr Iff.rfl (if_congr (by omega) rfl rfl) rfl) (ho5) (by omega) hP hD hS hl
              · have t_227 : ¬ ((j : Nat) : Int) = ((cn : Nat) : Int) := toI_neq c_227 (nI_toInt (by omega)) (nI_toInt (by omega))
                have hprj := pl_lt (C := C) (show rn < R + Gq by omega) (show j ≤ C by omega)
                refine lv_aload_n hx hb dX12_pivot_230 rfl (lv_at hl 0 rfl) ?_
                refine lv_aload_n hx hb dX12_pivot_231 rfl (lv_at hl 0 rfl) ?_
                refine lv_iload_n hx hb dX12_pivot_232 rfl (lv_at hl 1 rfl) ?_
                refine lv_iload hx hb dX12_pivot_233 (lv_at hl 5 rfl) ?_
                have hFc := allFree hD hS hA
                refine va_calli (va_runV (As := [.int (nI rn), .int (nI j)]) (rest := [.ref h0]) ⟨hx, hb, hml, hown, hts⟩ (r_X12_at l dC dI a k h0 (fT vi 11 0) vj (fT (fT (fT vF 0 g5) 2 f21) 3 f31) (fT (fT vG 8 L80) 1 gs1) rn j C (by first | with_reducible assumption | decide | omega | rfl | assumption) H.size) (cwV 2 hts gwsRX12_pivot_2 rfl rfl rfl hd_yX12_at_RX12 (by decide +kernel)) (fz_pre (va_recv hK hP (ci := 12) (q0 := 0) rfl rfl) hP hK hD) rfl rfl hl.1 rfl (lv_room (Nat.le_of_ble_eq_true rfl)) dX12_pivot_235 (by decide +kernel)) hS (fun q _ h => hFc q h) hFc (fun r235 u t9_ H locs ht hvm hw9 hB9 hz1 hk1 hS => ?_)
                have hP : va_P (dC, dI) vwCl (WR a k h0 (fT vi 11 0) vj (fT (fT (fT vF 0 g5) 2 f21) 3 f31) (fT (fT vG 8 L80) 1 gs1)) H := fz_P ht hB9.1
                have hD := fz_sd hP (hB9.2.weaken (fun _ q _ h => hFc q.1 h)) rfl
                obtain rfl := hw9
                have hFc := allFree hD hS hA
                refine va_callv (va_runV (As := [.int (nI (30 + rn * (C + 1) + j))]) (rest := []) ⟨hx, hb, hml, hown, hts⟩ (b_X12_turn l dC dI a k h0 (fT vi 11 0) vj (fT (fT (fT vF 0 g5) 2 f21) 3 f31) (fT (fT vG 8 L80) 1 gs1) (30 + rn * (C + 1) + j) m5 hB5 (t rn j) (by rw [((htab5 rn (by omega) j (by omega)).trans ((if_pos rfl).trans (if_neg (by omega))))]) (by first | with_reducible assumption | decide | omega | rfl | assumption) H.size) (cwV 1 hts gwsRX12_pivot_5 rfl rfl rfl hd_yX12_turn_RX12 (by decide +kernel)) (fz_pre (va_recv hK hP (ci := 12) (q0 := 0) rfl rfl) hP hK hD) rfl rfl hl.1 rfl (lv_room (Nat.le_of_ble_eq_true rfl)) dX12_pivot_238 (by decide +kernel)) hS (fun q _ h => hFc q h) hFc (fun u t9_ H locs ht hvm hw9 hB9 hz1 hk1 hS => ?_)
                have e9F : fT (fT (fT vF 0 (upd g5 (nI (24 * (30 + rn * (C + 1) + j))).toNatClampNeg (-(g5 (24 * (30 + rn * (C + 1) + j)))))) 2 f21) 3 f31 = fT (fT (fT (fT vF 0 g5) 2 f21) 3 f31) 0 (upd g5 (nI (24 * (30 + rn * (C + 1) + j))).toNatClampNeg (-(g5 (24 * (30 + rn * (C + 1) + j))))) := ((fT_sw _ _ _ (Nat.ne_of_beq_eq_false rfl)).trans (congrArg (fun g9 => fT g9 3 f31) ((fT_sw _ _ _ (Nat.ne_of_beq_eq_false rfl)).trans (congrArg (fun g9 => fT g9 2 f21) (fT_sm _ _ _ _))))).symm
                have hP := wr_PF e9F (fz_P ht hB9.1)
                have hD := wr_DF e9F (hB9.2.weaken (fun _ q _ h => hFc q.1 h))
                clear e9F
                have f238_0 := hw9
                try dsimp only at f238_0
                have f238_0 : Bg (upd g5 (nI (24 * (30 + rn * (C + 1) + j))).toNatClampNeg (-(g5 (24 * (30 + rn * (C + 1) + j))))) (fT m5 (30 + rn * (C + 1) + j) (-(t rn j))) := f238_0
                refine lv_iinc (v := (nI (j + 1))) hx hb dX12_pivot_241 hl (k := 5) rfl (nI_add j 1) (by decide) rfl (fun ls (hl : lv_has ls _ ([(5, .int (nI (j + 1))), (0, .ref h0), (1, .int (nI rn)), (2, .int (nI cn)), (3, .int (nI (30 + rn * (C + 1) + cn))), (4, .int r30)])) => ?_)
                refine lv_goto (tgt := 210) hx hb dX12_pivot_244 (by decide) ?_
                have hl : lv_has _ _ ([(0, .ref h0), (1, .int (nI rn)), (2, .int (nI cn)), (3, .int (nI (30 + rn * (C + 1) + cn))), (4, .int r30), (5, .int (nI (j + 1)))]) := lv_sub hl [1, 2, 3, 4, 5, 0] rfl
                exact ih210_1 (j + 1) (upd g5 (nI (24 * (30 + rn * (C + 1) + j))).toNatClampNeg (-(g5 (24 * (30 + rn * (C + 1) + j))))) (fT m5 (30 + rn * (C + 1) + j) (-(t rn j))) _ _ _ (f238_0) ((by rw [fT_ne _ _ (by omega), h21c])) ((by rw [fT_ne _ _ (by omega), h20c])) (by omega) (by omega) (fun i2 hi2 j2 hj2 => by by_cases e9 : i2 = rn ∧ j2 = j; ((have gx : (sgI (t rn cn)) = -1 := by omega); rw [e9.1, e9.2, fT_eq, if_pos rfl, if_pos (by omega), gx]; omega); ((have n9 : 30 + i2 * (C + 1) + j2 ≠ 30 + rn * (C + 1) + j := fun h => e9 (pl_inj hj2 (by omega) (by omega))); rw [fT_ne _ _ n9, htab5 i2 hi2 j2 hj2]; by_cases e8 : i2 = rn; (rw [if_pos e8, if_pos e8]; exact if_congr (by omega) rfl rfl); (rw [if_neg e8, if_neg e8]))) (fun q hq => by (rw [fT_ne _ _ (by omega)]); exact ho5 q hq) (by omega) hP hD hS hl
      · have t_56 : ¬ ((i : Nat) : Int) ≥ (((R + Gq) : Nat) : Int) := toI_nge c_56 (nI_toInt (by omega)) (nI_toInt (by omega))
        refine lv_iload hx hb dX12_pivot_59 (lv_at hl 5 rfl) ?_
        refine lv_iload_n hx hb dX12_pivot_61 rfl (lv_at hl 1 rfl) ?_
        refine lv_icmp_ne (tgt := 68) hx hb dX12_pivot_62 (by decide) (fun c_62 => ?_) (fun c_62 => ?_)
        · have t_62 : ((i : Nat) : Int) ≠ ((rn : Nat) : Int) := toI_ne c_62 (nI_toInt (by omega)) (nI_toInt (by omega))
          refine lv_iconst (v := 0) hx hb dX12_pivot_68 (by decide) ?_
          refine lv_istore hx hb dX12_pivot_69 hl (by decide) rfl (fun ls (hl : lv_has ls _ ([(6, .int 0), (0, .ref h0), (1, .int (nI rn)), (2, .int (nI cn)), (3, .int (nI (30 + rn * (C + 1) + cn))), (4, .int r30), (5, .int (nI i))])) => ?_)
          have hl : lv_has _ _ ([(0, .ref h0), (1, .int (nI rn)), (2, .int (nI cn)), (3, .int (nI (30 + rn * (C + 1) + cn))), (4, .int r30), (5, .int (nI i)), (6, .int (nI 0))]) := lv_sub hl [1, 2, 3, 4, 5, 6, 0] rfl
          refine (fun (loop : ∀ (n9 : Nat) (j : Nat) (g3 : Nat → Int32) (f23 : Nat → Int32) (f33 : Nat → Int32) (gs3 : Nat → Int64) (m3 : Nat → Int) (H : Heap) (locs : List Loc) (ls : Array Slot), (Bg g3 m3) → (m3 21 = (t rn cn)) → (m3 20 = D) → (j ≤ C + 1) → (∀ i2, i2 < (R + Gq) → ∀ j2, j2 ≤ C → m3 (30 + i2 * (C + 1) + j2) = if (i2 < i ∧ i2 ≠ rn) ∨ (i2 = i ∧ j2 < j ∧ j2 ≠ cn) then nvT rn cn (sgI (t rn cn)) t D i2 j2 else t i2 j2) → (∀ q, (q < 20 ∨ (26 < q ∧ q < 30) ∨ 30 + (R + Gq) * (C + 1) ≤ q) → m3 q = mg q) →  (C + 1 < j + n9) → va_P (dC, dI) vwCl (WR a k h0 (fT vi 11 0) vj (fT (fT (fT vF 0 g3) 2 f23) 3 f33) (fT (fT vG 8 L80) 1 gs3)) H → va_D A (WR a k h0 (fT vi 11 0) vj (fT (fT (fT vF 0 g3) 2 f23) 3 f33) (fT (fT vG 8 L80) 1 gs3)) → va_S A s.heap H locs → lv_has ls 7 [(0, .ref h0), (1, .int (nI rn)), (2, .int (nI cn)), (3, .int (nI (30 + rn * (C + 1) + cn))), (4, .int r30), (5, .int (nI i)), (6, .int (nI j))] → W p l e _ s m _ below meth c H locs 0 0 _ (F0 m 71 ls [])) => loop (C + 2) 0 g1 f21 f31 gs1 m1 _ _ _ (hB1) ((by rw [h21])) ((by rw [h20])) (by omega) (fun i2 hi2 j2 hj2 => by rw [htab i2 hi2 j2 hj2]; exact if_congr (by omega) rfl rfl) (ho) (by omega) hP hD hS hl) ?_
          intro n9
          induction n9 with
          | zero => intro j g3 f23 f33 gs3 m3 H locs ls hB3 h21b h20b hj htab2 ho3 hf9; exact False.elim (by omega)
          | succ n9 ih71_2 =>
            intro j g3 f23 f33 gs3 m3 H locs ls hB3 h21b h20b hj htab2 ho3 hf71_2 hP hD hS hl
            refine lv_iload hx hb dX12_pivot_71 (lv_at hl 6 rfl) ?_
            refine lv_aload_n hx hb dX12_pivot_73 rfl (lv_at hl 0 rfl) ?_
            refine va_get (D := (dC, dI)) (ci := 12) (v := .int (vi 5)) (C := RX12) (T := TX12) (N := 163) (fs := fM (vS a (fT vi 11 0) vj)) hx hb hts iwsRX12_pivot_in12 hown hK hP 0 rfl rfl 5 (by decide) (hts _ hm_r_X12_pivot_0) (fun _ h9 => h9) rfl dX12_pivot_74 ?_
            refine lv_topi (fun y5 hy5 => ?_)
            obtain rfl : (nI C) = y5 := (hy5.trans (hC)).symm
            refine lv_icmp_gt (tgt := 185) hx hb dX12_pivot_77 (by decide) (fun c_77 => ?_) (fun c_77 => ?_)
            · have t_77 : ((j : Nat) : Int) > ((C : Nat) : Int) := toI_gt c_77 (nI_toInt (by omega)) (nI_toInt (by omega))
              refine lv_iload hx hb dX12_pivot_185 (lv_at hl 4 rfl) ?_
              refine lv_if_le (tgt := 201) hx hb dX12_pivot_187 (by decide) (fun c_187 => ?_) (fun c_187 => ?_)
              · have t_187 : (r30).toInt ≤ 0 := toI_le c_187 rfl (by decide)
                refine lv_iinc (v := (nI (i + 1))) hx hb dX12_pivot_201 hl (k := 5) rfl (nI_add i 1) (by decide) rfl (fun ls (hl : lv_has ls _ ([(5, .int (nI (i + 1))), (0, .ref h0), (1, .int (nI rn)), (2, .int (nI cn)), (3, .int (nI (30 + rn * (C + 1) + cn))), (4, .int r30), (6, .int (nI j))])) => ?_)
                refine lv_goto (tgt := 45) hx hb dX12_pivot_204 (by decide) ?_
                have hl : lv_has _ _ ([(0, .ref h0), (1, .int (nI rn)), (2, .int (nI cn)), (3, .int (nI (30 + rn * (C + 1) + cn))), (4, .int r30), (5, .int (nI (i + 1)))]) := lv_sub hl [1, 2, 3, 4, 5, 0] rfl
                exact ih45 (i + 1) g3 f23 f33 gs3 m3 _ _ _ (hB3) ((by rw [h21b])) ((by rw [h20b])) (by omega) (fun i2 hi2 j2 hj2 => by by_cases e9 : i2 = i ∧ j2 = cn; ((have gx : (sgI (t rn cn)) = -1 := by omega); rw [htab2 i2 hi2 j2 hj2, e9.1, e9.2, if_neg (by omega), if_pos (by omega), nv_col _ _ _ _ _ (by omega), gx]; omega); (rw [htab2 i2 hi2 j2 hj2]; exact if_congr (by omega) rfl rfl)) (fun q hq => by skip; exact ho3 q hq) (by omega) hP hD hS hl
              · have t_187 : ¬ (r30).toInt ≤ 0 := toI_nle c_187 rfl (by decide)
                have hpic := pl_lt (C := C) (show i < R + Gq by omega) (show cn ≤ C by omega)
                refine lv_aload_n hx hb dX12_pivot_190 rfl (lv_at hl 0 rfl) ?_
                refine lv_aload_n hx hb dX12_pivot_191 rfl (lv_at hl 0 rfl) ?_
                refine lv_iload hx hb dX12_pivot_192 (lv_at hl 5 rfl) ?_
                refine lv_iload_n hx hb dX12_pivot_194 rfl (lv_at hl 2 rfl) ?_
                have hFc := allFree hD hS hA
                refine va_calli (va_runV (As := [.int (nI i), .int (nI cn)]) (rest := [.ref h0]) ⟨hx, hb, hml, hown, hts⟩ (r_X12_at l dC dI a k h0 (fT vi 11 0) vj (fT (fT (fT vF 0 g3) 2 f23) 3 f33) (fT (fT vG 8 L80) 1 gs3) i cn C (by first | with_reducible assumption | decide | omega | rfl | assumption) H.size) (cwV 2 hts gwsRX12_pivot_2 rfl rfl rfl hd_yX12_at_RX12 (by decide +kernel)) (fz_pre (va_recv hK hP (ci := 12) (q0 := 0) rfl rfl) hP hK hD) rfl rfl hl.1 rfl (lv_room (Nat.le_of_ble_eq_true rfl)) dX12_pivot_195 (by decide +kernel)) hS (fun q _ h => hFc q h) hFc (fun r195 u t9_ H locs ht hvm hw9 hB9 hz1 hk1 hS => ?_)
                have hP : va_P (dC, dI) vwCl (WR a k h0 (fT vi 11 0) vj (fT (fT (fT vF 0 g3) 2 f23) 3 f33) (fT (fT vG 8 L80) 1 gs3)) H := fz_P ht hB9.1
                have hD := fz_sd hP (hB9.2.weaken (fun _ q _ h => hFc q.1 h)) rfl
                obtain rfl := hw9
                have hFc := allFree hD hS hA
                refine va_callv (va_runV (As := [.int (nI (30 + i * (C + 1) + cn))]) (rest := []) ⟨hx, hb, hml, hown, hts⟩ (b_X12_turn l dC dI a k h0 (fT vi 11 0) vj (fT (fT (fT vF 0 g3) 2 f23) 3 f33) (fT (fT vG 8 L80) 1 gs3) (30 + i * (C + 1) + cn) m3 hB3 (t i cn) (by rw [((htab2 i (by omega) cn (by omega)).trans (if_neg (by omega)))]) (by first | with_reducible assumption | decide | omega | rfl | assumption) H.size) (cwV 1 hts gwsRX12_pivot_5 rfl rfl rfl hd_yX12_turn_RX12 (by decide +kernel)) (fz_pre (va_recv hK hP (ci := 12) (q0 := 0) rfl rfl) hP hK hD) rfl rfl hl.1 rfl (lv_room (Nat.le_of_ble_eq_true rfl)) dX12_pivot_198 (by decide +kernel)) hS (fun q _ h => hFc q h) hFc (fun u t9_ H locs ht hvm hw9 hB9 hz1 hk1 hS => ?_)
                have e9F : fT (fT (fT vF 0 (upd g3 (nI (24 * (30 + i * (C + 1) + cn))).toNatClampNeg (-(g3 (24 * (30 + i * (C + 1) + cn)))))) 2 f23) 3 f33 = fT (fT (fT (fT vF 0 g3) 2 f23) 3 f33) 0 (upd g3 (nI (24 * (30 + i * (C + 1) + cn))).toNatClampNeg (-(g3 (24 * (30 + i * (C + 1) + cn))))) := ((fT_sw _ _ _ (Nat.ne_of_beq_eq_false rfl)).trans (congrArg (fun g9 => fT g9 3 f33) ((fT_sw _ _ _ (Nat.ne_of_beq_eq_false rfl)).trans (congrArg (fun g9 => fT g9 2 f23) (fT_sm _ _ _ _))))).symm
                have hP := wr_PF e9F (fz_P ht hB9.1)
                have hD := wr_DF e9F (hB9.2.weaken (fun _ q _ h => hFc q.1 h))
                clear e9F
                have f198_0 := hw9
                try dsimp only at f198_0
                have f198_0 : Bg (upd g3 (nI (24 * (30 + i * (C + 1) + cn))).toNatClampNeg (-(g3 (24 * (30 + i * (C + 1) + cn))))) (fT m3 (30 + i * (C + 1) + cn) (-(t i cn))) := f198_0
                refine lv_iinc (v := (nI (i + 1))) hx hb dX12_pivot_201 hl (k := 5) rfl (nI_add i 1) (by decide) rfl (fun ls (hl : lv_has ls _ ([(5, .int (nI (i + 1))), (0, .ref h0), (1, .int (nI rn)), (2, .int (nI cn)), (3, .int (nI (30 + rn * (C + 1) + cn))), (4, .int r30), (6, .int (nI j))])) => ?_)
                refine lv_goto (tgt := 45) hx hb dX12_pivot_204 (by decide) ?_
                have hl : lv_has _ _ ([(0, .ref h0), (1, .int (nI rn)), (2, .int (nI cn)), (3, .int (nI (30 + rn * (C + 1) + cn))), (4, .int r30), (5, .int (nI (i + 1)))]) := lv_sub hl [1, 2, 3, 4, 5, 0] rfl
                exact ih45 (i + 1) (upd g3 (nI (24 * (30 + i * (C + 1) + cn))).toNatClampNeg (-(g3 (24 * (30 + i * (C + 1) + cn))))) f23 f33 gs3 (fT m3 (30 + i * (C + 1) + cn) (-(t i cn))) _ _ _ (f198_0) ((by rw [fT_ne _ _ (by omega), h21b])) ((by rw [fT_ne _ _ (by omega), h20b])) (by omega) (fun i2 hi2 j2 hj2 => by by_cases e9 : i2 = i ∧ j2 = cn; ((have gx : (sgI (t rn cn)) = 1 := by omega); rw [e9.1, e9.2, fT_eq, if_pos (by omega), nv_col _ _ _ _ _ (by omega), gx]; omega); ((have n9 : 30 + i2 * (C + 1) + j2 ≠ 30 + i * (C + 1) + cn := fun h => e9 (pl_inj hj2 (by omega) (by omega))); rw [fT_ne _ _ n9, htab2 i2 hi2 j2 hj2]; exact if_congr (by omega) rfl rfl)) (fun q hq => by (rw [fT_ne _ _ (by omega)]); exact ho3 q hq) (by omega) hP hD hS hl
            · have t_77 : ¬ ((j : Nat) : Int) > ((C : Nat) : Int) := toI_ngt c_77 (nI_toInt (by omega)) (nI_toInt (by omega))
              refine lv_iload hx hb dX12_pivot_80 (lv_at hl 6 rfl) ?_
              refine lv_iload_n hx hb dX12_pivot_82 rfl (lv_at hl 2 rfl) ?_
              refine lv_icmp_ne (tgt := 89) hx hb dX12_pivot_83 (by decide) (fun c_83 => ?_) (fun c_83 => ?_)
              · have t_83 : ((j : Nat) : Int) ≠ ((cn : Nat) : Int) := toI_ne c_83 (nI_toInt (by omega)) (nI_toInt (by omega))
                have hpij := pl_lt (C := C) (show i < R + Gq by omega) (show j ≤ C by omega)
                have hpic := pl_lt (C := C) (show i < R + Gq by omega) (show cn ≤ C by omega)
                have hprj := pl_lt (C := C) (show rn < R + Gq by omega) (show j ≤ C by omega)
                refine lv_aload_n hx hb dX12_pivot_89 rfl (lv_at hl 0 rfl) ?_
                refine lv_bipush (v := 22) hx hb dX12_pivot_90 (by decide) ?_
                refine lv_aload_n hx hb dX12_pivot_92 rfl (lv_at hl 0 rfl) ?_
                refine lv_iload hx hb dX12_pivot_93 (lv_at hl 5 rfl) ?_
                refine lv_iload hx hb dX12_pivot_95 (lv_at hl 6 rfl) ?_
                have hFc := allFree hD hS hA
                refine va_calli (va_runV (As := [.int (nI i), .int (nI j)]) (rest := [.int 22, .ref h0]) ⟨hx, hb, hml, hown, hts⟩ (r_X12_at l dC dI a k h0 (fT vi 11 0) vj (fT (fT (fT vF 0 g3) 2 f23) 3 f33) (fT (fT vG 8 L80) 1 gs3) i j C (by first | with_reducible assumption | decide | omega | rfl | assumption) H.size) (cwV 2 hts gwsRX12_pivot_2 rfl rfl rfl hd_yX12_at_RX12 (by decide +kernel)) (fz_pre (va_recv hK hP (ci := 12) (q0 := 0) rfl rfl) hP hK hD) rfl rfl hl.1 rfl (lv_room (Nat.le_of_ble_eq_true rfl)) dX12_pivot_97 (by decide +kernel)) hS (fun q _ h => hFc q h) hFc (fun r97 u t9_ H locs ht hvm hw9 hB9 hz1 hk1 hS => ?_)
                have hP : va_P (dC, dI) vwCl (WR a k h0 (fT vi 11 0) vj (fT (fT (fT vF 0 g3) 2 f23) 3 f33) (fT (fT vG 8 L80) 1 gs3)) H := fz_P ht hB9.1
                have hD := fz_sd hP (hB9.2.weaken (fun _ q _ h => hFc q.1 h)) rfl
                obtain rfl := hw9
                refine lv_bipush (v := 21) hx hb dX12_pivot_100 (by decide) ?_
                have hFc := allFree hD hS hA
                refine va_callv (va_runV (As := [.int 22, .int (nI (30 + i * (C + 1) + j)), .int 21]) (rest := []) ⟨hx, hb, hml, hown, hts⟩ (b_X12_times l dC dI a k h0 (fT vi 11 0) vj (fT (fT (fT vF 0 g3) 2 f23) 3 f33) (fT (fT vG 8 L80) 1 gs3) 22 (30 + i * (C + 1) + j) 21 m3 hB3 (t i j) (t rn cn) (by rw [((htab2 i (by omega) j (by omega)).trans (if_neg (by omega)))]) (by rw [h21b]) (by first | with_reducible assumption | decide | omega | rfl | assumption) (by first | with_reducible assumption | decide | omega | rfl | assumption) (by first | with_reducible assumption | decide | omega | rfl | assumption) (mul_bd (hbd i (by omega) j (by omega)) (hbd rn (by omega) cn (by omega)) (by decide)) H.size) (cwV 3 hts gwsRX12_pivot_7 rfl rfl rfl hd_yX12_times_RX12 (by decide +kernel)) (fz_pre (va_recv hK hP (ci := 12) (q0 := 0) rfl rfl) hP hK hD) rfl rfl hl.1 rfl (lv_room (Nat.le_of_ble_eq_true rfl)) dX12_pivot_102 (by decide +kernel)) hS (fun q _ h => hFc q h) hFc (fun u t9_ H locs ht hvm hw9 hB9 hz1 hk1 hS => ?_)
                revert u hw9 hB9
                refine fz_p2 ?_
                intro g102 gs102 hw9 hB9
                try dsimp only at hw9 hB9
                have e9F : fT (fT (fT vF 0 g102) 2 f23) 3 f33 = fT (fT (fT (fT vF 0 g3) 2 f23) 3 f33) 0 g102 := ((fT_sw _ _ _ (Nat.ne_of_beq_eq_false rfl)).trans (congrArg (fun g9 => fT g9 3 f33) ((fT_sw _ _ _ (Nat.ne_of_beq_eq_false rfl)).trans (congrArg (fun g9 => fT g9 2 f23) (fT_sm _ _ _ _))))).symm
                have e9G : fT (fT vG 8 L80) 1 gs102 = fT (fT (fT vG 8 L80) 1 gs3) 1 gs102 := (fT_sm _ _ _ _).symm
                have hP := wr_PG e9G (wr_PF e9F (fz_P ht hB9.1))
                have hD := wr_DG e9G (wr_DF e9F (hB9.2.weaken (fun _ q _ h => hFc q.1 h)))
                clear e9F e9G
                have f102_0 := hw9
                try dsimp only at f102_0
                refine lv_aload_n hx hb dX12_pivot_105 rfl (lv_at hl 0 rfl) ?_
                refine lv_bipush (v := 23) hx hb dX12_pivot_106 (by decide) ?_
                refine lv_aload_n hx hb dX12_pivot_108 rfl (lv_at hl 0 rfl) ?_
                refine lv_iload hx hb dX12_pivot_109 (lv_at hl 5 rfl) ?_
                refine lv_iload_n hx hb dX12_pivot_111 rfl (lv_at hl 2 rfl) ?_
                have hFc := allFree hD hS hA
                refine va_calli (va_runV (As := [.int (nI i), .int (nI cn)]) (rest := [.int 23, .ref h0]) ⟨hx, hb, hml, hown, hts⟩ (r_X12_at l dC dI a k h0 (fT vi 11 0) vj (fT (fT (fT vF 0 g102) 2 f23) 3 f33) (fT (fT vG 8 L80) 1 gs102) i cn C (by first | with_reducible assumption | decide | omega | rfl | assumption) H.size) (cwV 2 hts gwsRX12_pivot_2 rfl rfl rfl hd_yX12_at_RX12 (by decide +kernel)) (fz_pre (va_recv hK hP (ci := 12) (q0 := 0) rfl rfl) hP hK hD) rfl rfl hl.1 rfl (lv_room (Nat.le_of_ble_eq_true rfl)) dX12_pivot_112 (by decide +kernel)) hS (fun q _ h => hFc q h) hFc (fun r112 u t9_ H locs ht hvm hw9 hB9 hz1 hk1 hS => ?_)
                have hP : va_P (dC, dI) vwCl (WR a k h0 (fT vi 11 0) vj (fT (fT (fT vF 0 g102) 2 f23) 3 f33) (fT (fT vG 8 L80) 1 gs102)) H := fz_P ht hB9.1
                have hD := fz_sd hP (hB9.2.weaken (fun _ q _ h => hFc q.1 h)) rfl
                obtain rfl := hw9
                refine lv_aload_n hx hb dX12_pivot_115 rfl (lv_at hl 0 rfl) ?_
                refine lv_iload_n hx hb dX12_pivot_116 rfl (lv_at hl 1 rfl) ?_
                refine lv_iload hx hb dX12_pivot_117 (lv_at hl 6 rfl) ?_
                have hFc := allFree hD hS hA
                refine va_calli (va_runV (As := [.int (nI rn), .int (nI j)]) (rest := [.int (nI (30 + i * (C + 1) + cn)), .int 23, .ref h0]) ⟨hx, hb, hml, hown, hts⟩ (r_X12_at l dC dI a k h0 (fT vi 11 0) vj (fT (fT (fT vF 0 g102) 2 f23) 3 f33) (fT (fT vG 8 L80) 1 gs102) rn j C (by first | with_reducible assumption | decide | omega | rfl | assumption) H.size) (cwV 2 hts gwsRX12_pivot_2 rfl rfl rfl hd_yX12_at_RX12 (by decide +kernel)) (fz_pre (va_recv hK hP (ci := 12) (q0 := 0) rfl rfl) hP hK hD) rfl rfl hl.1 rfl (lv_room (Nat.le_of_ble_eq_true rfl)) dX12_pivot_119 (by decide +kernel)) hS (fun q _ h => hFc q h) hFc (fun r119 u t9_ H locs ht hvm hw9 hB9 hz1 hk1 hS => ?_)
                have hP : va_P (dC, dI) vwCl (WR a k h0 (fT vi 11 0) vj (fT (fT (fT vF 0 g102) 2 f23) 3 f33) (fT (fT vG 8 L80) 1 gs102)) H := fz_P ht hB9.1
                have hD := fz_sd hP (hB9.2.weaken (fun _ q _ h => hFc q.1 h)) rfl
                obtain rfl := hw9
                have hFc := allFree hD hS hA
                refine va_callv (va_runV (As := [.int 23, .int (nI (30 + i * (C + 1) + cn)), .int (nI (30 + rn * (C + 1) + j))]) (rest := []) ⟨hx, hb, hml, hown, hts⟩ (b_X12_times l dC dI a k h0 (fT vi 11 0) vj (fT (fT (fT vF 0 g102) 2 f23) 3 f33) (fT (fT vG 8 L80) 1 gs102) 23 (30 + i * (C + 1) + cn) (30 + rn * (C + 1) + j) (fT m3 22 ((t i j) * (t rn cn))) f102_0 (t i cn) (t rn j) (by rw [fT_ne _ _ (by omega), ((htab2 i (by omega) cn (by omega)).trans (if_neg (by omega)))]) (by rw [fT_ne _ _ (by omega), ((htab2 rn (by omega) j (by omega)).trans (if_neg (by omega)))]) (by first | with_reducible assumption | decide | omega | rfl | assumption) (by first | with_reducible assumption | decide | omega | rfl | assumption) (by first | with_reducible assumption | decide | omega | rfl | assumption) (mul_bd (hbd i (by omega) cn (by omega)) (hbd rn (by omega) j (by omega)) (by decide)) H.size) (cwV 3 hts gwsRX12_pivot_7 rfl rfl rfl hd_yX12_times_RX12 (by decide +kernel)) (fz_pre (va_recv hK hP (ci := 12) (q0 := 0) rfl rfl) hP hK hD) rfl rfl hl.1 rfl (lv_room (Nat.le_of_ble_eq_true rfl)) dX12_pivot_122 (by decide +kernel)) hS (fun q _ h => hFc q h) hFc (fun u t9_ H locs ht hvm hw9 hB9 hz1 hk1 hS => ?_)
                revert u hw9 hB9
                refine fz_p2 ?_
                intro g122 gs122 hw9 hB9
                try dsimp only at hw9 hB9
                have e9F : fT (fT (fT vF 0 g122) 2 f23) 3 f33 = fT (fT (fT (fT vF 0 g102) 2 f23) 3 f33) 0 g122 := ((fT_sw _ _ _ (Nat.ne_of_beq_eq_false rfl)).trans (congrArg (fun g9 => fT g9 3 f33) ((fT_sw _ _ _ (Nat.ne_of_beq_eq_false rfl)).trans (congrArg (fun g9 => fT g9 2 f23) (fT_sm _ _ _ _))))).symm
                have e9G : fT (fT vG 8 L80) 1 gs122 = fT (fT (fT vG 8 L80) 1 gs102) 1 gs122 := (fT_sm _ _ _ _).symm
                have hP := wr_PG e9G (wr_PF e9F (fz_P ht hB9.1))
                have hD := wr_DG e9G (wr_DF e9F (hB9.2.weaken (fun _ q _ h => hFc q.1 h)))
                clear e9F e9G
                have f122_0 := hw9
                try dsimp only at f122_0
                refine lv_aload_n hx hb dX12_pivot_125 rfl (lv_at hl 0 rfl) ?_
                refine lv_bipush (v := 24) hx hb dX12_pivot_126 (by decide) ?_
                refine lv_bipush (v := 22) hx hb dX12_pivot_128 (by decide) ?_
                refine lv_bipush (v := 23) hx hb dX12_pivot_130 (by decide) ?_
                refine lv_iconst (v := (-1)) hx hb dX12_pivot_132 (by decide) ?_
                have hFc := allFree hD hS hA
                refine va_callv (va_runV (As := [.int 24, .int 22, .int 23, .int (-1)]) (rest := []) ⟨hx, hb, hml, hown, hts⟩ (b_X12_add l dC dI a k h0 (fT vi 11 0) vj (fT (fT (fT vF 0 g122) 2 f23) 3 f33) (fT (fT vG 8 L80) 1 gs122) 24 (-1) (-1) 22 23 (fT (fT m3 22 ((t i j) * (t rn cn))) 23 ((t i cn) * (t rn j))) f122_0 ((t i j) * (t rn cn)) ((t i cn) * (t rn j)) (by rw [fT_ne _ _ (by omega), fT_eq]) (by rw [fT_eq]) (by first | with_reducible assumption | decide | omega | rfl | assumption) (by first | with_reducible assumption | decide | omega | rfl | assumption) (by first | with_reducible assumption | decide | omega | rfl | assumption) (Or.inr ⟨rfl, rfl⟩) (add_bd (mulabs_bd (hbd i (by omega) j (by omega)) (hbd rn (by omega) cn (by omega)) (by decide)) (mulabs_bd (hbd i (by omega) cn (by omega)) (hbd rn (by omega) j (by omega)) (by decide)) (Or.inr rfl)) H.size) (cwV 4 hts gwsRX12_pivot_8 rfl rfl rfl hd_yX12_add_RX12 (by decide +kernel)) (fz_pre (va_recv hK hP (ci := 12) (q0 := 0) rfl rfl) hP hK hD) rfl rfl hl.1 rfl (lv_room (Nat.le_of_ble_eq_true rfl)) dX12_pivot_133 (by decide +kernel)) hS (fun q _ h => hFc q h) hFc (fun u t9_ H locs ht hvm hw9 hB9 hz1 hk1 hS => ?_)
                revert u hw9 hB9
                refine fz_p2 ?_
                intro g133 gs133 hw9 hB9
                try dsimp only at hw9 hB9
                have e9F : fT (fT (fT vF 0 g133) 2 f23) 3 f33 = fT (fT (fT (fT vF 0 g122) 2 f23) 3 f33) 0 g133 := ((fT_sw _ _ _ (Nat.ne_of_beq_eq_false rfl)).trans (congrArg (fun g9 => fT g9 3 f33) ((fT_sw _ _ _ (Nat.ne_of_beq_eq_false rfl)).trans (congrArg (fun g9 => fT g9 2 f23) (fT_sm _ _ _ _))))).symm
                have e9G : fT (fT vG 8 L80) 1 gs133 = fT (fT (fT vG 8 L80) 1 gs122) 1 gs133 := (fT_sm _ _ _ _).symm
                have hP := wr_PG e9G (wr_PF e9F (fz_P ht hB9.1))
                have hD := wr_DG e9G (wr_DF e9F (hB9.2.weaken (fun _ q _ h => hFc q.1 h)))
                clear e9F e9G
                have f133_0 := hw9
                try dsimp only at f133_0
                refine lv_aload_n hx hb dX12_pivot_136 rfl (lv_at hl 0 rfl) ?_
                refine lv_bipush (v := 25) hx hb dX12_pivot_137 (by decide) ?_
                refine lv_bipush (v := 26) hx hb dX12_pivot_139 (by decide) ?_
                refine lv_bipush (v := 24) hx hb dX12_pivot_141 (by decide) ?_
                refine lv_bipush (v := 20) hx hb dX12_pivot_143 (by decide) ?_
                have hFc := allFree hD hS hA
                refine va_callv (va_runV (As := [.int 25, .int 26, .int 24, .int 20]) (rest := []) ⟨hx, hb, hml, hown, hts⟩ (b_X12_divide l dC dI a k h0 (fT vi 11 0) vj (fT (fT (fT vF 0 g133) 2 f23) 3 f33) (fT (fT vG 8 L80) 1 gs133) 25 26 24 20 (fT (fT (fT m3 22 ((t i j) * (t rn cn))) 23 ((t i cn) * (t rn j))) 24 (((t i j) * (t rn cn)) + (-1) * ((t i cn) * (t rn j)))) f133_0 (((t i j) * (t rn cn)) + (-1) * ((t i cn) * (t rn j))) D (by rw [fT_eq]) (by rw [fT_ne _ _ (by omega), fT_ne _ _ (by omega), fT_ne _ _ (by omega), h20b]) (by first | with_reducible assumption | decide | omega | rfl | assumption) (by first | with_reducible assumption | decide | omega | rfl | assumption) (by first | with_reducible assumption | decide | omega | rfl | assumption) (by first | with_reducible assumption | decide | omega | rfl | assumption) (by first | with_reducible assumption | decide | omega | rfl | assumption) (by first | with_reducible assumption | decide | omega | rfl | assumption) (by first | with_reducible assumption | decide | omega | rfl | assumption) H.size) (cwV 4 hts gwsRX12_pivot_9 rfl rfl rfl hd_yX12_divide_RX12 (by decide +kernel)) (fz_pre (va_recv hK hP (ci := 12) (q0 := 0) rfl rfl) hP hK hD) rfl rfl hl.1 rfl (lv_room (Nat.le_of_ble_eq_true rfl)) dX12_pivot_145 (by decide +kernel)) hS (fun q _ h => hFc q h) hFc (fun u t9_ H locs ht hvm hw9 hB9 hz1 hk1 hS => ?_)
                revert u hw9 hB9
                refine fz_p4 ?_
                intro g145 f2w145 f3w145 gs145 hw9 hB9
                try dsimp only at hw9 hB9
                have e9F : fT (fT (fT vF 0 g145) 2 f2w145) 3 f3w145 = fT (fT (fT (fT (fT (fT vF 0 g133) 2 f23) 3 f33) 2 f2w145) 3 f3w145) 0 g145 := ((congrArg (fun g9 => fT (fT g9 3 f3w145) 0 g145) ((fT_sw _ _ _ (Nat.ne_of_beq_eq_false rfl)).trans (congrArg (fun g9 => fT g9 3 f33) (fT_sm _ _ _ _)))).trans ((congrArg (fun g9 => fT g9 0 g145) (fT_sm _ _ _ _)).trans ((fT_sw _ _ _ (Nat.ne_of_beq_eq_false rfl)).trans (congrArg (fun g9 => fT g9 3 f3w145) ((fT_sw _ _ _ (Nat.ne_of_beq_eq_false rfl)).trans (congrArg (fun g9 => fT g9 2 f2w145) (fT_sm _ _ _ _))))))).symm
                have e9G : fT (fT vG 8 L80) 1 gs145 = fT (fT (fT vG 8 L80) 1 gs133) 1 gs145 := (fT_sm _ _ _ _).symm
                have hP := wr_PG e9G (wr_PF e9F (fz_P ht hB9.1))
                have hD := wr_DG e9G (wr_DF e9F (hB9.2.weaken (fun _ q _ h => hFc q.1 h)))
                clear e9F e9G
                have f145_0 := hw9
                try dsimp only at f145_0
                refine lv_aload_n hx hb dX12_pivot_148 rfl (lv_at hl 0 rfl) ?_
                refine lv_aload_n hx hb dX12_pivot_149 rfl (lv_at hl 0 rfl) ?_
                refine lv_iload hx hb dX12_pivot_150 (lv_at hl 5 rfl) ?_
                refine lv_iload hx hb dX12_pivot_152 (lv_at hl 6 rfl) ?_
                have hFc := allFree hD hS hA
                refine va_calli (va_runV (As := [.int (nI i), .int (nI j)]) (rest := [.ref h0]) ⟨hx, hb, hml, hown, hts⟩ (r_X12_at l dC dI a k h0 (fT vi 11 0) vj (fT (fT (fT vF 0 g145) 2 f2w145) 3 f3w145) (fT (fT vG 8 L80) 1 gs145) i j C (by first | with_reducible assumption | decide | omega | rfl | assumption) H.size) (cwV 2 hts gwsRX12_pivot_2 rfl rfl rfl hd_yX12_at_RX12 (by decide +kernel)) (fz_pre (va_recv hK hP (ci := 12) (q0 := 0) rfl rfl) hP hK hD) rfl rfl hl.1 rfl (lv_room (Nat.le_of_ble_eq_true rfl)) dX12_pivot_154 (by decide +kernel)) hS (fun q _ h => hFc q h) hFc (fun r154 u t9_ H locs ht hvm hw9 hB9 hz1 hk1 hS => ?_)
                have hP : va_P (dC, dI) vwCl (WR a k h0 (fT vi 11 0) vj (fT (fT (fT vF 0 g145) 2 f2w145) 3 f3w145) (fT (fT vG 8 L80) 1 gs145)) H := fz_P ht hB9.1
                have hD := fz_sd hP (hB9.2.weaken (fun _ q _ h => hFc q.1 h)) rfl
                obtain rfl := hw9
                refine lv_bipush (v := 25) hx hb dX12_pivot_157 (by decide) ?_
                have hFc := allFree hD hS hA
                refine va_callv (va_runV (As := [.int (nI (30 + i * (C + 1) + j)), .int 25]) (rest := []) ⟨hx, hb, hml, hown, hts⟩ (b_X12_copy l dC dI a k h0 (fT vi 11 0) vj (fT (fT (fT vF 0 g145) 2 f2w145) 3 f3w145) (fT (fT vG 8 L80) 1 gs145) (30 + i * (C + 1) + j) 25 (fT (fT (fT (fT (fT m3 22 ((t i j) * (t rn cn))) 23 ((t i cn) * (t rn j))) 24 (((t i j) * (t rn cn)) + (-1) * ((t i cn) * (t rn j)))) 25 (((((t i j) * (t rn cn)) + (-1) * ((t i cn) * (t rn j)))).tdiv D)) 26 (((((t i j) * (t rn cn)) + (-1) * ((t i cn) * (t rn j)))).tmod D)) f145_0 (((((t i j) * (t rn cn)) + (-1) * ((t i cn) * (t rn j)))).tdiv D) (by rw [fT_ne _ _ (by omega), fT_eq]) (by first | with_reducible assumption | decide | omega | rfl | assumption) (by first | with_reducible assumption | decide | omega | rfl | assumption) (by first | with_reducible assumption | decide | omega | rfl | assumption) H.size) (cwV 2 hts gwsRX12_pivot_4 rfl rfl rfl hd_yX12_copy_RX12 (by decide +kernel)) (fz_pre (va_recv hK hP (ci := 12) (q0 := 0) rfl rfl) hP hK hD) rfl rfl hl.1 rfl (lv_room (Nat.le_of_ble_eq_true rfl)) dX12_pivot_159 (by decide +kernel)) hS (fun q _ h => hFc q h) hFc (fun g159 t9_ H locs ht hvm hw9 hB9 hz1 hk1 hS => ?_)
                have e9F : fT (fT (fT vF 0 g159) 2 f2w145) 3 f3w145 = fT (fT (fT (fT vF 0 g145) 2 f2w145) 3 f3w145) 0 g159 := ((fT_sw _ _ _ (Nat.ne_of_beq_eq_false rfl)).trans (congrArg (fun g9 => fT g9 3 f3w145) ((fT_sw _ _ _ (Nat.ne_of_beq_eq_false rfl)).trans (congrArg (fun g9 => fT g9 2 f2w145) (fT_sm _ _ _ _))))).symm
                have hP := wr_PF e9F (fz_P ht hB9.1)
                have hD := wr_DF e9F (hB9.2.weaken (fun _ q _ h => hFc q.1 h))
                clear e9F
                have f159_0 := hw9
                try dsimp only at f159_0
                refine lv_iload hx hb dX12_pivot_162 (lv_at hl 4 rfl) ?_
                refine lv_if_ge (tgt := 179) hx hb dX12_pivot_164 (by decide) (fun c_164 => ?_) (fun c_164 => ?_)
                · have t_164 : (r30).toInt ≥ 0 := toI_ge c_164 rfl (by decide)
                  refine lv_iinc (v := (nI (j + 1))) hx hb dX12_pivot_179 hl (k := 6) rfl (nI_add j 1) (by decide) rfl (fun ls (hl : lv_has ls _ ([(6, .int (nI (j + 1))), (0, .ref h0), (1, .int (nI rn)), (2, .int (nI cn)), (3, .int (nI (30 + rn * (C + 1) + cn))), (4, .int r30), (5, .int (nI i))])) => ?_)
                  refine lv_goto (tgt := 71) hx hb dX12_pivot_182 (by decide) ?_
                  have hl : lv_has _ _ ([(0, .ref h0), (1, .int (nI rn)), (2, .int (nI cn)), (3, .int (nI (30 + rn * (C + 1) + cn))), (4, .int r30), (5, .int (nI i)), (6, .int (nI (j + 1)))]) := lv_sub hl [1, 2, 3, 4, 5, 6, 0] rfl
                  exact ih71_2 (j + 1) g159 f2w145 f3w145 gs145 (fT (fT (fT (fT (fT (fT m3 22 ((t i j) * (t rn cn))) 23 ((t i cn) * (t rn j))) 24 (((t i j) * (t rn cn)) + (-1) * ((t i cn) * (t rn j)))) 25 (((((t i j) * (t rn cn)) + (-1) * ((t i cn) * (t rn j)))).tdiv D)) 26 (((((t i j) * (t rn cn)) + (-1) * ((t i cn) * (t rn j)))).tmod D)) (30 + i * (C + 1) + j) (((((t i j) * (t rn cn)) + (-1) * ((t i cn) * (t rn j)))).tdiv D)) _ _ _ (f159_0) ((by rw [fT_ne _ _ (by omega), fT_ne _ _ (by omega), fT_ne _ _ (by omega), fT_ne _ _ (by omega), fT_ne _ _ (by omega), fT_ne _ _ (by omega), h21b])) ((by rw [fT_ne _ _ (by omega), fT_ne _ _ (by omega), fT_ne _ _ (by omega), fT_ne _ _ (by omega), fT_ne _ _ (by omega), fT_ne _ _ (by omega), h20b])) (by omega) (fun i2 hi2 j2 hj2 => by by_cases e9 : i2 = i ∧ j2 = j; ((have gx : (sgI (t rn cn)) = 1 := by omega); rw [e9.1, e9.2, fT_eq, if_pos (by omega), nv_in _ _ _ _ _ (by omega) (by omega), gx]; omega); ((have n9 : 30 + i2 * (C + 1) + j2 ≠ 30 + i * (C + 1) + j := fun h => e9 (pl_inj hj2 (by omega) (by omega))); rw [fT_ne _ _ n9, fT_ne _ _ (by omega), fT_ne _ _ (by omega), fT_ne _ _ (by omega), fT_ne _ _ (by omega), fT_ne _ _ (by omega), htab2 i2 hi2 j2 hj2]; exact if_congr (by omega) rfl rfl)) (fun q hq => by (rw [fT_ne _ _ (by omega), fT_ne _ _ (by omega), fT_ne _ _ (by omega), fT_ne _ _ (by omega), fT_ne _ _ (by omega), fT_ne _ _ (by omega)]); exact ho3 q hq) (by omega) hP hD hS hl
                · have t_164 : ¬ (r30).toInt ≥ 0 := toI_nge c_164 rfl (by decide)
                  refine lv_aload_n hx hb dX12_pivot_167 rfl (lv_at hl 0 rfl) ?_
                  refine lv_aload_n hx hb dX12_pivot_168 rfl (lv_at hl 0 rfl) ?_
                  refine lv_iload hx hb dX12_pivot_169 (lv_at hl 5 rfl) ?_
                  refine lv_iload hx hb dX12_pivot_171 (lv_at hl 6 rfl) ?_
                  have hFc := allFree hD hS hA
                  refine va_calli (va_runV (As := [.int (nI i), .int (nI j)]) (rest := [.ref h0]) ⟨hx, hb, hml, hown, hts⟩ (r_X12_at l dC dI a k h0 (fT vi 11 0) vj (fT (fT (fT vF 0 g159) 2 f2w145) 3 f3w145) (fT (fT vG 8 L80) 1 gs145) i j C (by first | with_reducible assumption | decide | omega | rfl | assumption) H.size) (cwV 2 hts gwsRX12_pivot_2 rfl rfl rfl hd_yX12_at_RX12 (by decide +kernel)) (fz_pre (va_recv hK hP (ci := 12) (q0 := 0) rfl rfl) hP hK hD) rfl rfl hl.1 rfl (lv_room (Nat.le_of_ble_eq_true rfl)) dX12_pivot_173 (by decide +kernel)) hS (fun q _ h => hFc q h) hFc (fun r173 u t9_ H locs ht hvm hw9 hB9 hz1 hk1 hS => ?_)
                  have hP : va_P (dC, dI) vwCl (WR a k h0 (fT vi 11 0) vj (fT (fT (fT vF 0 g159) 2 f2w145) 3 f3w145) (fT (fT vG 8 L80) 1 gs145)) H := fz_P ht hB9.1
                  have hD := fz_sd hP (hB9.2.weaken (fun _ q _ h => hFc q.1 h)) rfl
                  obtain rfl := hw9
                  have hFc := allFree hD hS hA
                  refine va_callv (va_runV (As := [.int (nI (30 + i * (C + 1) + j))]) (rest := []) ⟨hx, hb, hml, hown, hts⟩ (b_X12_turn l dC dI a k h0 (fT vi 11 0) vj (fT (fT (fT vF 0 g159) 2 f2w145) 3 f3w145) (fT (fT vG 8 L80) 1 gs145) (30 + i * (C + 1) + j) (fT (fT (fT (fT (fT (fT m3 22 ((t i j) * (t rn cn))) 23 ((t i cn) * (t rn j))) 24 (((t i j) * (t rn cn)) + (-1) * ((t i cn) * (t rn j)))) 25 (((((t i j) * (t rn cn)) + (-1) * ((t i cn) * (t rn j)))).tdiv D)) 26 (((((t i j) * (t rn cn)) + (-1) * ((t i cn) * (t rn j)))).tmod D)) (30 + i * (C + 1) + j) (((((t i j) * (t rn cn)) + (-1) * ((t i cn) * (t rn j)))).tdiv D)) f159_0 (((((t i j) * (t rn cn)) + (-1) * ((t i cn) * (t rn j)))).tdiv D) (by rw [fT_eq]) (by first | with_reducible assumption | decide | omega | rfl | assumption) H.size) (cwV 1 hts gwsRX12_pivot_5 rfl rfl rfl hd_yX12_turn_RX12 (by decide +kernel)) (fz_pre (va_recv hK hP (ci := 12) (q0 := 0) rfl rfl) hP hK hD) rfl rfl hl.1 rfl (lv_room (Nat.le_of_ble_eq_true rfl)) dX12_pivot_176 (by decide +kernel)) hS (fun q _ h => hFc q h) hFc (fun u t9_ H locs ht hvm hw9 hB9 hz1 hk1 hS => ?_)
                  have e9F : fT (fT (fT vF 0 (upd g159 (nI (24 * (30 + i * (C + 1) + j))).toNatClampNeg (-(g159 (24 * (30 + i * (C + 1) + j)))))) 2 f2w145) 3 f3w145 = fT (fT (fT (fT vF 0 g159) 2 f2w145) 3 f3w145) 0 (upd g159 (nI (24 * (30 + i * (C + 1) + j))).toNatClampNeg (-(g159 (24 * (30 + i * (C + 1) + j))))) := ((fT_sw _ _ _ (Nat.ne_of_beq_eq_false rfl)).trans (congrArg (fun g9 => fT g9 3 f3w145) ((fT_sw _ _ _ (Nat.ne_of_beq_eq_false rfl)).trans (congrArg (fun g9 => fT g9 2 f2w145) (fT_sm _ _ _ _))))).symm
                  have hP := wr_PF e9F (fz_P ht hB9.1)
                  have hD := wr_DF e9F (hB9.2.weaken (fun _ q _ h => hFc q.1 h))
                  clear e9F
                  have f176_0 := hw9
                  try dsimp only at f176_0
                  have f176_0 : Bg (upd g159 (nI (24 * (30 + i * (C + 1) + j))).toNatClampNeg (-(g159 (24 * (30 + i * (C + 1) + j))))) (fT (fT (fT (fT (fT (fT (fT m3 22 ((t i j) * (t rn cn))) 23 ((t i cn) * (t rn j))) 24 (((t i j) * (t rn cn)) + (-1) * ((t i cn) * (t rn j)))) 25 (((((t i j) * (t rn cn)) + (-1) * ((t i cn) * (t rn j)))).tdiv D)) 26 (((((t i j) * (t rn cn)) + (-1) * ((t i cn) * (t rn j)))).tmod D)) (30 + i * (C + 1) + j) (((((t i j) * (t rn cn)) + (-1) * ((t i cn) * (t rn j)))).tdiv D)) (30 + i * (C + 1) + j) (-(((((t i j) * (t rn cn)) + (-1) * ((t i cn) * (t rn j)))).tdiv D))) := f176_0
                  refine lv_iinc (v := (nI (j + 1))) hx hb dX12_pivot_179 hl (k := 6) rfl (nI_add j 1) (by decide) rfl (fun ls (hl : lv_has ls _ ([(6, .int (nI (j + 1))), (0, .ref h0), (1, .int (nI rn)), (2, .int (nI cn)), (3, .int (nI (30 + rn * (C + 1) + cn))), (4, .int r30), (5, .int (nI i))])) => ?_)
                  refine lv_goto (tgt := 71) hx hb dX12_pivot_182 (by decide) ?_
                  have hl : lv_has _ _ ([(0, .ref h0), (1, .int (nI rn)), (2, .int (nI cn)), (3, .int (nI (30 + rn * (C + 1) + cn))), (4, .int r30), (5, .int (nI i)), (6, .int (nI (j + 1)))]) := lv_sub hl [1, 2, 3, 4, 5, 6, 0] rfl
                  exact ih71_2 (j + 1) (upd g159 (nI (24 * (30 + i * (C + 1) + j))).toNatClampNeg (-(g159 (24 * (30 + i * (C + 1) + j))))) f2w145 f3w145 gs145 (fT (fT (fT (fT (fT (fT (fT m3 22 ((t i j) * (t rn cn))) 23 ((t i cn) * (t rn j))) 24 (((t i j) * (t rn cn)) + (-1) * ((t i cn) * (t rn j)))) 25 (((((t i j) * (t rn cn)) + (-1) * ((t i cn) * (t rn j)))).tdiv D)) 26 (((((t i j) * (t rn cn)) + (-1) * ((t i cn) * (t rn j)))).tmod D)) (30 + i * (C + 1) + j) (((((t i j) * (t rn cn)) + (-1) * ((t i cn) * (t rn j)))).tdiv D)) (30 + i * (C + 1) + j) (-(((((t i j) * (t rn cn)) + (-1) * ((t i cn) * (t rn j)))).tdiv D))) _ _ _ (f176_0) ((by rw [fT_ne _ _ (by omega), fT_ne _ _ (by omega), fT_ne _ _ (by omega), fT_ne _ _ (by omega), fT_ne _ _ (by omega), fT_ne _ _ (by omega), fT_ne _ _ (by omega), h21b])) ((by rw [fT_ne _ _ (by omega), fT_ne _ _ (by omega), fT_ne _ _ (by omega), fT_ne _ _ (by omega), fT_ne _ _ (by omega), fT_ne _ _ (by omega), fT_ne _ _ (by omega), h20b])) (by omega) (fun i2 hi2 j2 hj2 => by by_cases e9 : i2 = i ∧ j2 = j; ((have gx : (sgI (t rn cn)) = -1 := by omega); rw [e9.1, e9.2, fT_eq, if_pos (by omega), nv_in _ _ _ _ _ (by omega) (by omega), gx]; omega); ((have n9 : 30 + i2 * (C + 1) + j2 ≠ 30 + i * (C + 1) + j := fun h => e9 (pl_inj hj2 (by omega) (by omega))); rw [fT_ne _ _ n9, fT_ne _ _ n9, fT_ne _ _ (by omega), fT_ne _ _ (by omega), fT_ne _ _ (by omega), fT_ne _ _ (by omega), fT_ne _ _ (by omega), htab2 i2 hi2 j2 hj2]; exact if_congr (by omega) rfl rfl)) (fun q hq => by (rw [fT_ne _ _ (by omega), fT_ne _ _ (by omega), fT_ne _ _ (by omega), fT_ne _ _ (by omega), fT_ne _ _ (by omega), fT_ne _ _ (by omega), fT_ne _ _ (by omega)]); exact ho3 q hq) (by omega) hP hD hS hl
              · have t_83 : ((j : Nat) : Int) = ((cn : Nat) : Int) := toI_nne c_83 (nI_toInt (by omega)) (nI_toInt (by omega))
                refine lv_goto (tgt := 179) hx hb dX12_pivot_86 (by decide) ?_
                refine lv_iinc (v := (nI (j + 1))) hx hb dX12_pivot_179 hl (k := 6) rfl (nI_add j 1) (by decide) rfl (fun ls (hl : lv_has ls _ ([(6, .int (nI (j + 1))), (0, .ref h0), (1, .int (nI rn)), (2, .int (nI cn)), (3, .int (nI (30 + rn * (C + 1) + cn))), (4, .int r30), (5, .int (nI i))])) => ?_)
                refine lv_goto (tgt := 71) hx hb dX12_pivot_182 (by decide) ?_
                have hl : lv_has _ _ ([(0, .ref h0), (1, .int (nI rn)), (2, .int (nI cn)), (3, .int (nI (30 + rn * (C + 1) + cn))), (4, .int r30), (5, .int (nI i)), (6, .int (nI (j + 1)))]) := lv_sub hl [1, 2, 3, 4, 5, 6, 0] rfl
                exact ih71_2 (j + 1) g3 f23 f33 gs3 m3 _ _ _ (hB3) ((by rw [h21b])) ((by rw [h20b])) (by omega) (fun i2 hi2 j2 hj2 => by rw [htab2 i2 hi2 j2 hj2]; exact if_congr (by omega) rfl rfl) (ho3) (by omega) hP hD hS hl
        · have t_62 : ((i : Nat) : Int) = ((rn : Nat) : Int) := toI_nne c_62 (nI_toInt (by omega)) (nI_toInt (by omega))
          refine lv_goto (tgt := 201) hx hb dX12_pivot_65 (by decide) ?_
          refine lv_iinc (v := (nI (i + 1))) hx hb dX12_pivot_201 hl (k := 5) rfl (nI_add i 1) (by decide) rfl (fun ls (hl : lv_has ls _ ([(5, .int (nI (i + 1))), (0, .ref h0), (1, .int (nI rn)), (2, .int (nI cn)), (3, .int (nI (30 + rn * (C + 1) + cn))), (4, .int r30)])) => ?_)
          refine lv_goto (tgt := 45) hx hb dX12_pivot_204 (by decide) ?_
          have hl : lv_has _ _ ([(0, .ref h0), (1, .int (nI rn)), (2, .int (nI cn)), (3, .int (nI (30 + rn * (C + 1) + cn))), (4, .int r30), (5, .int (nI (i + 1)))]) := lv_sub hl [1, 2, 3, 4, 5, 0] rfl
          exact ih45 (i + 1) g1 f21 f31 gs1 m1 _ _ _ (hB1) ((by rw [h21])) ((by rw [h20])) (by omega) (fun i2 hi2 j2 hj2 => by rw [htab i2 hi2 j2 hj2]; exact if_congr (by omega) rfl rfl) (ho) (by omega) hP hD hS hl
end
section
theorem ratio {a b d x y z : Int} (hx : 0 < x) (hy : 0 < y) (hz : 0 < z) (h1 : a * y ≤ b * x) (h2 : b * z ≤ d * y) : a * z ≤ d * x ∧ ((a * y < b * x ∨ b * z < d * y) → a * z < d * x) := by
  have e1 : a * y * z ≤ b * x * z := Int.mul_le_mul_of_nonneg_right h1 (by omega)
  have e2 : b * z * x ≤ d * y * x := Int.mul_le_mul_of_nonneg_right h2 (by omega)
  have k1 : b * x * z = b * z * x := by rw [Int.mul_assoc, Int.mul_comm x z, ← Int.mul_assoc]
  have k2 : a * y * z = a * z * y := by rw [Int.mul_assoc, Int.mul_comm y z, ← Int.mul_assoc]
  have k3 : d * y * x = d * x * y := by rw [Int.mul_assoc, Int.mul_comm y x, ← Int.mul_assoc]
  refine ⟨Int.le_of_mul_le_mul_right (by omega : a * z * y ≤ d * x * y) hy, fun h => ?_⟩
  rcases h with h | h
  · have e3 : a * y * z < b * x * z := Int.mul_lt_mul_of_pos_right h hz
    exact Int.lt_of_mul_lt_mul_right (by omega : a * z * y < d * x * y) (by omega)
  · have e3 : b * z * x < d * y * x := Int.mul_lt_mul_of_pos_right h hx
    exact Int.lt_of_mul_lt_mul_right (by omega : a * z * y < d * x * y) (by omega)
/-- b is the best of the rows below k -/
def Bst (t : Nat → Nat → Int) (C c : Nat) (lab : Nat → Nat) (k b : Nat) : Prop := 0 < t b c ∧ ∀ i, i < k → 0 < t i c → t b C * t i c < t i C * t b c ∨ (t b C * t i c = t i C * t b c ∧ lab b ≤ lab i)
theorem Bst.skip {t : Nat → Nat → Int} {C c : Nat} {lab : Nat → Nat} {k b : Nat} (h : Bst t C c lab k b) (hk : t k c ≤ 0) : Bst t C c lab (k + 1) b :=
  ⟨h.1, fun i hi hp => by
    by_cases e : i = k
    · subst e; omega
    · exact h.2 i (by omega) hp⟩
theorem Bst.keep {t : Nat → Nat → Int} {C c : Nat} {lab : Nat → Nat} {k b : Nat} (h : Bst t C c lab k b) (hk : t b C * t k c < t k C * t b c ∨ (t b C * t k c = t k C * t b c ∧ lab b ≤ lab k)) : Bst t C c lab (k + 1) b :=
  ⟨h.1, fun i hi hp => by
    by_cases e : i = k
    · subst e; exact hk
    · exact h.2 i (by omega) hp⟩
theorem Bst.first {t : Nat → Nat → Int} {C c : Nat} {lab : Nat → Nat} {k : Nat} (h : ∀ i, i < k → t i c ≤ 0) (hk : 0 < t k c) : Bst t C c lab (k + 1) k :=
  ⟨hk, fun i hi hp => by
    by_cases e : i = k
    · subst e; exact Or.inr ⟨rfl, Nat.le_refl _⟩
    · have := h i (by omega); omega⟩
theorem Bst.new {t : Nat → Nat → Int} {C c : Nat} {lab : Nat → Nat} {k b : Nat} (h : Bst t C c lab k b) (hp : 0 < t k c) (hk : t k C * t b c < t b C * t k c ∨ (t k C * t b c = t b C * t k c ∧ lab k ≤ lab b)) : Bst t C c lab (k + 1) k :=
  ⟨hp, fun i hi hpi => by
    by_cases e : i = k
    · subst e; exact Or.inr ⟨rfl, Nat.le_refl _⟩
    · have h1 := h.2 i (by omega) hpi
      have r := ratio (a := t k C) (b := t b C) (d := t i C) (x := t k c) (y := t b c) (z := t i c) hp h.1 hpi (by omega) (by omega)
      rcases hk with hk | hk
      · exact Or.inl (r.2 (Or.inl hk))
      · rcases h1 with h1 | h1
        · exact Or.inl (r.2 (Or.inr h1))
        · have r1 := r.1
          rcases Int.lt_or_eq_of_le r1 with h2 | h2
          · exact Or.inl h2
          · exact Or.inr ⟨h2, by omega⟩⟩
def gl (C q : Nat) : Nat := if q < C then q else q + 1
theorem gl_le {C p q : Nat} (h : p ≤ q) : gl C p ≤ gl C q := by unfold gl; split <;> split <;> omega
theorem gl_inj {C p q : Nat} (h : gl C p = gl C q) : p = q := by unfold gl at h; split at h <;> split at h <;> omega
theorem gl_ne (C q : Nat) : gl C q ≠ C := by unfold gl; split <;> omega
/-- the labels that the program holds: those of rows and columns -/
def rlF (C R : Nat) (f : Nat → Int32) : Nat → Nat := fun i => if i < R then gl C (f i).toNatClampNeg else C + 1 + i
def clF (C : Nat) (f : Nat → Int32) : Nat → Nat := fun j => if j < C then gl C (f j).toNatClampNeg else C
def Sx (C R T : Nat) (a t : Nat → Nat → Int) (D : Int) (f4 f5 : Nat → Int32) : Prop := SxF C R T a t D (rlF C R f5) (clF C f4) ∧ (∀ j, j < C → ∃ q, q < C + T ∧ f4 j = nI q) ∧ ∀ i, i < R → ∃ q, q < C + T ∧ f5 i = nI q
theorem Sx.next {C R T : Nat} {a t : Nat → Nat → Int} {D : Int} {f4 f5 : Nat → Int32} (h : Sx C R T a t D f4 f5) {r c : Nat} (hr : r < R) (hRT : R ≤ T) (hc : c < C) (hT : T < 60) (hC : C ≤ 45) {g : Int} (hg : g = 1 ∨ g = -1) (hp : 0 < g * t r c) :
    Sx C R T a (nvT r c g t D) (g * t r c) (upd f4 (nI c).toNatClampNeg (f5 r)) (upd f5 (nI r).toNatClampNeg (f4 c)) ∧ Piv T (C + 1) (t, D, rlF C R f5, clF C f4) (nvT r c g t D, g * t r c, rlF C R (upd f5 (nI r).toNatClampNeg (f4 c)), clF C (upd f4 (nI c).toNatClampNeg (f5 r))) r c g := by
  obtain ⟨h1, h2, h3⟩ := h
  have e1 : rlF C R (upd f5 (nI r).toNatClampNeg (f4 c)) = uP (rlF C R f5) r (clF C f4 c) := by
    funext i
    unfold rlF uP clF
    rw [upd_at (by omega)]
    by_cases e : i = r
    · rw [if_pos (by omega), if_pos e, if_pos e, if_pos hc]
    · rw [if_neg e, if_neg e]
  have e2 : clF C (upd f4 (nI c).toNatClampNeg (f5 r)) = uP (clF C f4) c (rlF C R f5 r) := by
    funext j
    unfold rlF uP clF
    rw [upd_at (by omega)]
    by_cases e : j = c
    · rw [if_pos (by omega), if_pos e, if_pos e, if_pos hr]
    · rw [if_neg e, if_neg e]
  have hn := h1.next hr hRT hc hg hp
  rw [e1, e2]
  unfold Sx
  rw [e1, e2]
  refine ⟨⟨hn.1, fun j hj => ?_, fun i hi => ?_⟩, hn.2⟩
  · rw [upd_at (by omega)]; split
    · exact h3 r hr
    · exact h2 j hj
  · rw [upd_at (by omega)]; split
    · exact h2 c hc
    · exact h3 i hi
/-- every tableau that belongs to a stays small -/
def Small (C R T : Nat) (a : Nat → Nat → Int) : Prop := ∀ t D rl cl, SxF C R T a t D rl cl → D.natAbs < 2 ^ 294 ∧ ∀ i, i < T → ∀ j, j ≤ C → (t i j).natAbs < 2 ^ 294
end
section
theorem hd_yX12_signAt_RX12 : yX12_signAt.cls = RX12 ∧ yX12_signAt.cls ≠ "java/lang/invoke/MethodHandle" ∧ yX12_signAt.cls ≠ "java/lang/invoke/VarHandle" ∧ (parseMethodDescriptor yX12_signAt.desc).map (fun d => d.parameters.length) = some 2 := by decide +kernel
theorem hd_yX12_lies_RX12 : yX12_lies.cls = RX12 ∧ yX12_lies.cls ≠ "java/lang/invoke/MethodHandle" ∧ yX12_lies.cls ≠ "java/lang/invoke/VarHandle" ∧ (parseMethodDescriptor yX12_lies.desc).map (fun d => d.parameters.length) = some 3 := by decide +kernel
theorem dX12_leaving_0 : decode cX12_leaving 0 = .ok (.iconst (-1), 1) := dk_2 (by decide +kernel)
theorem dX12_leaving_1 : decode cX12_leaving 1 = .ok (.istore_n 2, 1) := dk_61 (by decide +kernel)
theorem dX12_leaving_2 : decode cX12_leaving 2 = .ok (.iconst 0, 1) := dk_3 (by decide +kernel)
theorem dX12_leaving_3 : decode cX12_leaving 3 = .ok (.istore_n 3, 1) := dk_62 (by decide +kernel)
theorem dX12_leaving_4 : decode cX12_leaving 4 = .ok (.iload_n 3, 1) := dk_29 (by decide +kernel)
theorem dX12_leaving_5 : decode cX12_leaving 5 = .ok (.aload_n 0, 1) := dk_42 (by decide +kernel)
theorem dX12_leaving_6 : decode cX12_leaving 6 = .ok (.getfield 399, 3) := dk_180 (by decide +kernel)
theorem dX12_leaving_9 : decode cX12_leaving 9 = .ok (.if_icmp .ge 67, 3) := dk_162 (by decide +kernel)
theorem dX12_leaving_12 : decode cX12_leaving 12 = .ok (.aload_n 0, 1) := dk_42 (by decide +kernel)
theorem dX12_leaving_13 : decode cX12_leaving 13 = .ok (.iload_n 3, 1) := dk_29 (by decide +kernel)
theorem dX12_leaving_14 : decode cX12_leaving 14 = .ok (.iload_n 1, 1) := dk_27 (by decide +kernel)
theorem dX12_leaving_15 : decode cX12_leaving 15 = .ok (.invokevirtual 446, 3) := dk_182 (by decide +kernel)
theorem dX12_leaving_18 : decode cX12_leaving 18 = .ok (.ifCond .gt 6, 3) := dk_157 (by decide +kernel)
theorem dX12_leaving_21 : decode cX12_leaving 21 = .ok (.goto 49, 3) := dk_167 (by decide +kernel)
theorem dX12_leaving_24 : decode cX12_leaving 24 = .ok (.iload_n 2, 1) := dk_28 (by decide +kernel)
theorem dX12_leaving_25 : decode cX12_leaving 25 = .ok (.iconst (-1), 1) := dk_2 (by decide +kernel)
theorem dX12_leaving_26 : decode cX12_leaving 26 = .ok (.if_icmp .ne 8, 3) := dk_160 (by decide +kernel)
theorem dX12_leaving_29 : decode cX12_leaving 29 = .ok (.iload_n 3, 1) := dk_29 (by decide +kernel)
theorem dX12_leaving_30 : decode cX12_leaving 30 = .ok (.istore_n 2, 1) := dk_61 (by decide +kernel)
theorem dX12_leaving_31 : decode cX12_leaving 31 = .ok (.goto 39, 3) := dk_167 (by decide +kernel)
theorem dX12_leaving_34 : decode cX12_leaving 34 = .ok (.aload_n 0, 1) := dk_42 (by decide +kernel)
theorem dX12_leaving_35 : decode cX12_leaving 35 = .ok (.iload_n 3, 1) := dk_29 (by decide +kernel)
theorem dX12_leaving_36 : decode cX12_leaving 36 = .ok (.iload_n 2, 1) := dk_28 (by decide +kernel)
theorem dX12_leaving_37 : decode cX12_leaving 37 = .ok (.iload_n 1, 1) := dk_27 (by decide +kernel)
theorem dX12_leaving_38 : decode cX12_leaving 38 = .ok (.invokevirtual 449, 3) := dk_182 (by decide +kernel)
theorem dX12_leaving_41 : decode cX12_leaving 41 = .ok (.istore 4, 2) := dk_54 (by decide +kernel)
theorem dX12_leaving_43 : decode cX12_leaving 43 = .ok (.iload 4, 2) := dk_21 (by decide +kernel)
theorem dX12_leaving_45 : decode cX12_leaving 45 = .ok (.ifCond .lt 23, 3) := dk_155 (by decide +kernel)
theorem dX12_leaving_48 : decode cX12_leaving 48 = .ok (.iload 4, 2) := dk_21 (by decide +kernel)
theorem dX12_leaving_50 : decode cX12_leaving 50 = .ok (.ifCond .ne 20, 3) := dk_154 (by decide +kernel)
theorem dX12_leaving_53 : decode cX12_leaving 53 = .ok (.aload_n 0, 1) := dk_42 (by decide +kernel)
theorem dX12_leaving_54 : decode cX12_leaving 54 = .ok (.getfield 26, 3) := dk_180 (by decide +kernel)
theorem dX12_leaving_57 : decode cX12_leaving 57 = .ok (.iload_n 3, 1) := dk_29 (by decide +kernel)
theorem dX12_leaving_58 : decode cX12_leaving 58 = .ok (.iaload, 1) := dk_46 (by decide +kernel)
theorem dX12_leaving_59 : decode cX12_leaving 59 = .ok (.aload_n 0, 1) := dk_42 (by decide +kernel)
theorem dX12_leaving_60 : decode cX12_leaving 60 = .ok (.getfield 26, 3) := dk_180 (by decide +kernel)
theorem dX12_leaving_63 : decode cX12_leaving 63 = .ok (.iload_n 2, 1) := dk_28 (by decide +kernel)
theorem dX12_leaving_64 : decode cX12_leaving 64 = .ok (.iaload, 1) := dk_46 (by decide +kernel)
theorem dX12_leaving_65 : decode cX12_leaving 65 = .ok (.if_icmp .ge 5, 3) := dk_162 (by decide +kernel)
theorem dX12_leaving_68 : decode cX12_leaving 68 = .ok (.iload_n 3, 1) := dk_29 (by decide +kernel)
theorem dX12_leaving_69 : decode cX12_leaving 69 = .ok (.istore_n 2, 1) := dk_61 (by decide +kernel)
theorem dX12_leaving_70 : decode cX12_leaving 70 = .ok (.iinc 3 1, 3) := dk_132 (by decide +kernel)
theorem dX12_leaving_73 : decode cX12_leaving 73 = .ok (.goto (-69), 3) := dk_167 (by decide +kernel)
theorem dX12_leaving_76 : decode cX12_leaving 76 = .ok (.iload_n 2, 1) := dk_28 (by decide +kernel)
theorem dX12_leaving_77 : decode cX12_leaving 77 = .ok (.ireturn, 1) := dk_172 (by decide +kernel)
def wsRX12_leaving : List Cond := .code yX12_leaving cX12_leaving 5 (some .int) :: ([.fieldLink RX12 399 "OptimaWorksModel" "rows" "I", .fieldLink RX12 26 "OptimaWorksModel" "rowOf" "[I"] ++ wsX120 ++ (wsV RX12 446 RX12 yX12_signAt wsRX12_signAt) ++ (wsV RX12 449 RX12 yX12_lies wsRX12_lies))
theorem iwsRX12_leaving_in12 : ∀ w ∈ wsX120, w ∈ wsRX12_leaving := fun _ h => List.mem_cons_of_mem _ (List.mem_append_left _ (List.mem_append_left _ (List.mem_append_right _ h)))
theorem gwsRX12_leaving_0 : GoodIn wsRX12_leaving (wsV RX12 446 RX12 yX12_signAt wsRX12_signAt) := goodIn_sub (fun _ h => List.mem_cons_of_mem _ (List.mem_append_left _ (List.mem_append_right _ h))) (gdV (by decide +kernel) gdwsRX12_signAt)
theorem gwsRX12_leaving_1 : GoodIn wsRX12_leaving (wsV RX12 449 RX12 yX12_lies wsRX12_lies) := goodIn_sub (fun _ h => List.mem_cons_of_mem _ (List.mem_append_right _ h)) (gdV (by decide +kernel) gdwsRX12_lies)
theorem gdwsRX12_leaving : wsRX12_leaving.all goodWord = true := gdC rfl (gdA (gdA (gdA (by decide +kernel : ([.fieldLink RX12 399 "OptimaWorksModel" "rows" "I", .fieldLink RX12 26 "OptimaWorksModel" "rowOf" "[I"] : List Cond).all goodWord = true) gdwsX120) (gdV (by decide +kernel) gdwsRX12_signAt)) (gdV (by decide +kernel) gdwsRX12_lies))
theorem hm_r_X12_leaving_0 : (.fieldLink RX12 26 "OptimaWorksModel" "rowOf" "[I" : Cond) ∈ wsRX12_leaving := by decide +kernel
set_option maxHeartbeats 4000000 in
set_option maxRecDepth 100000 in
/-- leaving(c) -/
theorem r_X12_leaving (l : Launch) (dC : Nat → ClassId) (dI : Nat → Nat → Nat) (a : Nat → Nat) (k : Nat → ClassId) (h0 : Nat) (vi : Nat → Int32) (vj : Nat → Int64) (vF : Nat → Nat → Int32) (vG : Nat → Nat → Int64) (cn : Nat) (lr : Nat → Nat) (C : Nat) (R : Nat) (Gq : Nat) (t : Nat → Nat → Int) (D : Int) (mg : Nat → Int) (hBg : Bg (vF 0) mg) (hC : vi 5 = nI C) (hR : vi 6 = nI R) (hG : vi 7 = nI Gq) (hC45 : 0 < C ∧ C ≤ 45) (hT60 : R + Gq < 60) (hsz : (R + Gq) * (C + 1) ≤ 970) (hT : Tab (vi 11) C (R + Gq) mg (vG 7) (vj 12) t D) (hcn : cn ≤ C) (hbd : ∀ i, i < R + Gq → ∀ j, j ≤ C → (t i j).natAbs < 2 ^ 294) (hlr : ∀ i, i < R → lr i < 200 ∧ vF 5 i = nI (lr i)) (sz : Nat) : Met l yX12_leaving wsRX12_leaving ({ frames := 3, cells := 0, slots := 0, locals := 86 }) (va_Pc [.ref h0, .int (nI cn)] (fun U => U.heap.size = sz ∧ va_P (dC, dI) vwCl (WR a k h0 vi vj vF vG) U.heap ∧ va_K (dC, dI) vwCl (tX12 k) U ∧ va_D (fun _ => True) (WR a k h0 vi vj vF vG))) (va_Qi (fun (r : Int32) (u : (Nat → Int32) × (Nat → Int64) × (Nat → Int) × (Nat)) => (r = (-1) ∧ (Bg (u.1) (u.2.2.1)) ∧ (∀ q, q ≠ 22 → q ≠ 23 → (u.2.2.1) q = mg q) ∧ (∀ i, i < R → t i cn ≤ 0)) ∨ (r = (nI (u.2.2.2)) ∧ (Bg (u.1) (u.2.2.1)) ∧ (∀ q, q ≠ 22 → q ≠ 23 → (u.2.2.1) q = mg q) ∧ ((u.2.2.2) < R) ∧ (Bst t C cn lr R (u.2.2.2)))) (fun (u : (Nat → Int32) × (Nat → Int64) × (Nat → Int) × (Nat)) t => va_P (dC, dI) vwCl (WR a k h0 vi vj (fT vF 0 (u.1)) (fT vG 1 (u.2.1))) t.heap ∧ va_D (va_A (WR a k h0 vi vj vF vG) sz) (WR a k h0 vi vj (fT vF 0 (u.1)) (fT vG 1 (u.2.1)))) (va_A (WR a k h0 vi vj vF vG) sz)) 0 0 (va_A (WR a k h0 vi vj vF vG) sz) := by
  refine Met.ofW (cc := cX12_leaving) (maxL := 5) (ret := (some .int)) (by decide) rfl ?_
  intro p e s m args below meth c s₁ B hml hv
  obtain ⟨rfl, hsz, hP, hK, hD0⟩ := hv
  have hx := B.exec
  have hb := B.bytes
  have hr := B.returns
  have hts := atoms_spec (ws := wsRX12_leaving) B.pre
  have hown : s.vm.findClass RX12 = some m.cls := findClass_of_methodNamed B.named
  have hlocks := B.notSynchronized
  subst hsz
  have hD := hD0.self (sz := s.heap.size)
  generalize hAe : va_A (WR a k h0 vi vj vF vG) s.heap.size = A at hD ⊢
  have hA : ∀ q : Nat, s.heap.size ≤ q → A q := fun q h => by rw [← hAe]; exact Or.inr h
  have hS : va_S A s.heap s.heap [] := va_S.rf
  have hl := lv_entry ([.ref h0, .int (nI cn)]) (n := 5) (Nat.le_of_ble_eq_true rfl)
  rw [lg_entry_eq]
  generalize (lg_sl ([.ref h0, .int (nI cn)]) ++ List.replicate (5 - (lg_sl ([.ref h0, .int (nI cn)])).length) Slot.unset).toArray = ls at hl ⊢
  have hl : lv_has ls 5 [(0, .ref h0), (1, .int (nI cn))] := hl
  refine lv_iconst (v := (-1)) hx hb dX12_leaving_0 (by decide) ?_
  refine lv_istore_n hx hb dX12_leaving_1 rfl hl (by decide) rfl (fun ls (hl : lv_has ls _ ([(2, .int (-1)), (0, .ref h0), (1, .int (nI cn))])) => ?_)
  refine lv_iconst (v := 0) hx hb dX12_leaving_2 (by decide) ?_
  refine lv_istore_n hx hb dX12_leaving_3 rfl hl (by decide) rfl (fun ls (hl : lv_has ls _ ([(3, .int 0), (2, .int (-1)), (0, .ref h0), (1, .int (nI cn))])) => ?_)
  have e9 : fT vF 0 (vF 0) = vF := by funext q9; by_cases h9_0 : q9 = 0; (subst h9_0; exact (fT_eq _ _ _).trans (Eq.trans (by first | with_reducible rfl | with_reducible assumption | (symm; with_reducible assumption) | rfl | assumption | (symm; assumption) | (subst_vars; rfl)) (Eq.refl _).symm)); exact (fT_ne _ _ h9_0).trans (Eq.refl _).symm
  have hP := wr_PF e9 hP
  have hD := wr_DF e9 hD
  clear e9
  have e9 : fT vG 1 (vG 1) = vG := by funext q9; by_cases h9_1 : q9 = 1; (subst h9_1; exact (fT_eq _ _ _).trans (Eq.trans (by first | with_reducible rfl | with_reducible assumption | (symm; with_reducible assumption) | rfl | assumption | (symm; assumption) | (subst_vars; rfl)) (Eq.refl _).symm)); exact (fT_ne _ _ h9_1).trans (Eq.refl _).symm
  have hP := wr_PG e9 hP
  have hD := wr_DG e9 hD
  clear e9
  have hl : lv_has _ _ ([(0, .ref h0), (1, .int (nI cn)), (2, .int (-1)), (3, .int (nI 0))]) := lv_sub hl [2, 3, 1, 0] rfl
  refine (fun (loop : ∀ (n9 : Nat) (i : Nat) (bq : Int32) (bb : Nat) (g1 : Nat → Int32) (gs1 : Nat → Int64) (m1 : Nat → Int) (H : Heap) (locs : List Loc) (ls : Array Slot), (Bg g1 m1) → (i ≤ R) → (Tab (vi 11) C (R + Gq) m1 (vG 7) (vj 12) t D) → (∀ q, q ≠ 22 → q ≠ 23 → m1 q = mg q) → ((bq = -1 ∧ ∀ i2, i2 < i → t i2 cn ≤ 0) ∨ (bq = nI bb ∧ bb < i ∧ Bst t C cn lr i bb)) →  (R < i + n9) → va_P (dC, dI) vwCl (WR a k h0 vi vj (fT vF 0 g1) (fT vG 1 gs1)) H → va_D A (WR a k h0 vi vj (fT vF 0 g1) (fT vG 1 gs1)) → va_S A s.heap H locs → lv_has ls 5 [(0, .ref h0), (1, .int (nI cn)), (2, .int bq), (3, .int (nI i))] → W p l e _ s m _ below meth c H locs 0 0 _ (F0 m 4 ls [])) => loop (R + 1) 0 (-1) 0 (vF 0) (vG 1) mg _ _ _ (hBg) (by omega) (hT) (fun q _ _ => rfl) (Or.inl ⟨rfl, fun i2 h2 => absurd h2 (by omega)⟩) (by omega) hP hD hS hl) ?_
  intro n9
  induction n9 with
  | zero => intro i bq bb g1 gs1 m1 H locs ls hB1 hi hT1 ho hbs hf9; exact False.elim (by omega)
  | succ n9 ih4 =>
    intro i bq bb g1 gs1 m1 H locs ls hB1 hi hT1 ho hbs hf4 hP hD hS hl
    refine lv_iload_n hx hb dX12_leaving_4 rfl (lv_at hl 3 rfl) ?_
    refine lv_aload_n hx hb dX12_leaving_5 rfl (lv_at hl 0 rfl) ?_
    refine va_get (D := (dC, dI)) (ci := 12) (v := .int (vi 6)) (C := RX12) (T := TX12) (N := 163) (fs := fM (vS a vi vj)) hx hb hts iwsRX12_leaving_in12 hown hK hP 0 rfl rfl 6 (by decide) (hts (.fieldLink RX12 399 "OptimaWorksModel" "rows" "I") (by decide +kernel)) (fun _ h9 => h9) rfl dX12_leaving_6 ?_
    refine lv_topi (fun y1 hy1 => ?_)
    obtain rfl : (nI R) = y1 := (hy1.trans (hR)).symm
    refine lv_icmp_ge (tgt := 76) hx hb dX12_leaving_9 (by decide) (fun c_9 => ?_) (fun c_9 => ?_)
    · have t_9 : ((i : Nat) : Int) ≥ ((R : Nat) : Int) := toI_ge c_9 (nI_toInt (by omega)) (nI_toInt (by omega))
      refine lv_iload_n hx hb dX12_leaving_76 rfl (lv_at hl 2 rfl) ?_
      refine W.widen (k := 0) (n := 0) (by decide +kernel) (by decide +kernel) ?_
      exact W.iret (v := bq) hx hb hr (fun t9_ ht hW => ⟨⟨bq, (g1, gs1, m1, bb), rfl, by (try dsimp only); (have ei : i = R := by omega); rcases hbs with ⟨h1, h2⟩ | ⟨h1, h2, h3⟩; (exact Or.inl ⟨h1, hB1, ho, fun i2 hi2 => h2 i2 (by omega)⟩); (exact Or.inr ⟨h1, hB1, ho, by omega, by rw [ei] at h3; exact h3⟩), by rw [ht]; exact hP, hD⟩, hS.F ht⟩) hS.2.2 dX12_leaving_77
    · have t_9 : ¬ ((i : Nat) : Int) ≥ ((R : Nat) : Int) := toI_nge c_9 (nI_toInt (by omega)) (nI_toInt (by omega))
      refine lv_aload_n hx hb dX12_leaving_12 rfl (lv_at hl 0 rfl) ?_
      refine lv_iload_n hx hb dX12_leaving_13 rfl (lv_at hl 3 rfl) ?_
      refine lv_iload_n hx hb dX12_leaving_14 rfl (lv_at hl 1 rfl) ?_
      have hFc := allFree hD hS hA
      refine va_calli (va_runV (As := [.int (nI i), .int (nI cn)]) (rest := []) ⟨hx, hb, hml, hown, hts⟩ (r_X12_signAt l dC dI a k h0 vi vj (fT vF 0 g1) (fT vG 1 gs1) i cn C (R + Gq) t D m1 hB1 (by first | with_reducible assumption | decide | omega | rfl | assumption) (hT1) (by first | with_reducible assumption | decide | omega | rfl | assumption) (by first | with_reducible assumption | decide | omega | rfl | assumption) (by first | with_reducible assumption | decide | omega | rfl | assumption) (by first | with_reducible assumption | decide | omega | rfl | assumption) (by first | with_reducible assumption | decide | omega | rfl | assumption) H.size) (cwV 2 hts gwsRX12_leaving_0 rfl rfl rfl hd_yX12_signAt_RX12 (by decide +kernel)) (fz_pre (va_recv hK hP (ci := 12) (q0 := 0) rfl rfl) hP hK hD) rfl rfl hl.1 rfl (lv_room (Nat.le_of_ble_eq_true rfl)) dX12_leaving_15 (by decide +kernel)) hS (fun q _ h => hFc q h) hFc (fun r15 u t9_ H locs ht hvm hw9 hB9 hz1 hk1 hS => ?_)
      have hP : va_P (dC, dI) vwCl (WR a k h0 vi vj (fT vF 0 g1) (fT vG 1 gs1)) H := fz_P ht hB9.1
      have hD := fz_sd hP (hB9.2.weaken (fun _ q _ h => hFc q.1 h)) rfl
      have f15_0 := hw9
      try dsimp only at f15_0
      refine lv_if_gt (tgt := 24) hx hb dX12_leaving_18 (by decide) (fun c_18 => ?_) (fun c_18 => ?_)
      · have t_18 : (r15).toInt > 0 := toI_gt c_18 rfl (by decide)
        refine lv_iload_n hx hb dX12_leaving_24 rfl (lv_at hl 2 rfl) ?_
        refine lv_iconst (v := (-1)) hx hb dX12_leaving_25 (by decide) ?_
        refine lv_icmp_ne (tgt := 34) hx hb dX12_leaving_26 (by decide) (fun c_26 => ?_) (fun c_26 => ?_)
        · have t_26 : (bq).toInt ≠ -1 := toI_ne c_26 rfl (by decide)
          obtain ⟨h1b, h2b, h3b⟩ := hbs.resolve_left (fun h => c_26 h.1)
          subst h1b
          refine lv_aload_n hx hb dX12_leaving_34 rfl (lv_at hl 0 rfl) ?_
          refine lv_iload_n hx hb dX12_leaving_35 rfl (lv_at hl 3 rfl) ?_
          refine lv_iload_n hx hb dX12_leaving_36 rfl (lv_at hl 2 rfl) ?_
          refine lv_iload_n hx hb dX12_leaving_37 rfl (lv_at hl 1 rfl) ?_
          have hFc := allFree hD hS hA
          refine va_calli (va_runV (As := [.int (nI i), .int (nI bb), .int (nI cn)]) (rest := []) ⟨hx, hb, hml, hown, hts⟩ (r_X12_lies l dC dI a k h0 vi vj (fT vF 0 g1) (fT vG 1 gs1) i bb cn C (R + Gq) t D m1 hB1 (by first | with_reducible assumption | decide | omega | rfl | assumption) (hT1) (by first | with_reducible assumption | decide | omega | rfl | assumption) (by first | with_reducible assumption | decide | omega | rfl | assumption) (by first | with_reducible assumption | decide | omega | rfl | assumption) (by first | with_reducible assumption | decide | omega | rfl | assumption) (by first | with_reducible assumption | decide | omega | rfl | assumption) (by first | with_reducible assumption | decide | omega | rfl | assumption) (hbd) H.size) (cwV 3 hts gwsRX12_leaving_1 rfl rfl rfl hd_yX12_lies_RX12 (by decide +kernel)) (fz_pre (va_recv hK hP (ci := 12) (q0 := 0) rfl rfl) hP hK hD) rfl rfl hl.1 rfl (lv_room (Nat.le_of_ble_eq_true rfl)) dX12_leaving_38 (by decide +kernel)) hS (fun q _ h => hFc q h) hFc (fun r38 u t9_ H locs ht hvm hw9 hB9 hz1 hk1 hS => ?_)
          revert u hw9 hB9
          refine fz_p3 ?_
          intro g38 gs38 m238 hw9 hB9
          try dsimp only at hw9 hB9
          have e9F : fT vF 0 g38 = fT (fT vF 0 g1) 0 g38 := (fT_sm _ _ _ _).symm
          have e9G : fT vG 1 gs38 = fT (fT vG 1 gs1) 1 gs38 := (fT_sm _ _ _ _).symm
          have hP := wr_PG e9G (wr_PF e9F (fz_P ht hB9.1))
          have hD := wr_DG e9G (wr_DF e9F (hB9.2.weaken (fun _ q _ h => hFc q.1 h)))
          clear e9F e9G
          revert hw9
          refine fz_a3 ?_
          intro f38_0 f38_1 f38_2
          refine lv_istore hx hb dX12_leaving_41 hl (by decide) rfl (fun ls (hl : lv_has ls _ ([(4, .int r38), (0, .ref h0), (1, .int (nI cn)), (2, .int (nI bb)), (3, .int (nI i))])) => ?_)
          refine lv_iload hx hb dX12_leaving_43 (lv_at hl 0 rfl) ?_
          refine lv_if_lt (tgt := 68) hx hb dX12_leaving_45 (by decide) (fun c_45 => ?_) (fun c_45 => ?_)
          · have t_45 : (r38).toInt < 0 := toI_lt c_45 rfl (by decide)
            refine lv_iload_n hx hb dX12_leaving_68 rfl (lv_at hl 4 rfl) ?_
            refine lv_istore_n hx hb dX12_leaving_69 rfl hl (by decide) rfl (fun ls (hl : lv_has ls _ ([(2, .int (nI i)), (4, .int r38), (0, .ref h0), (1, .int (nI cn)), (3, .int (nI i))])) => ?_)
            refine lv_iinc (v := (nI (i + 1))) hx hb dX12_leaving_70 hl (k := 4) rfl (nI_add i 1) (by decide) rfl (fun ls (hl : lv_has ls _ ([(3, .int (nI (i + 1))), (2, .int (nI i)), (4, .int r38), (0, .ref h0), (1, .int (nI cn))])) => ?_)
            refine lv_goto (tgt := 4) hx hb dX12_leaving_73 (by decide) ?_
            have hl : lv_has _ _ ([(0, .ref h0), (1, .int (nI cn)), (2, .int (nI i)), (3, .int (nI (i + 1)))]) := lv_sub hl [3, 4, 1, 0] rfl
            exact ih4 (i + 1) (nI i) i g38 gs38 m238 _ _ _ (f38_0) (by omega) (hT1.frame (fun p hp => f38_1 p (by omega) (by omega))) (fun q h1 h2 => by (rw [f38_1 _ (by omega) (by omega)]); exact ho q h1 h2) (Or.inr ⟨rfl, by omega, h3b.new (by omega) (by (have fl := f38_2); omega)⟩) (by omega) hP hD hS hl
          · have t_45 : ¬ (r38).toInt < 0 := toI_nlt c_45 rfl (by decide)
            refine lv_iload hx hb dX12_leaving_48 (lv_at hl 0 rfl) ?_
            refine lv_if_ne (tgt := 70) hx hb dX12_leaving_50 (by decide) (fun c_50 => ?_) (fun c_50 => ?_)
            · have t_50 : (r38).toInt ≠ 0 := toI_ne c_50 rfl (by decide)
              refine lv_iinc (v := (nI (i + 1))) hx hb dX12_leaving_70 hl (k := 4) rfl (nI_add i 1) (by decide) rfl (fun ls (hl : lv_has ls _ ([(3, .int (nI (i + 1))), (4, .int r38), (0, .ref h0), (1, .int (nI cn)), (2, .int (nI bb))])) => ?_)
              refine lv_goto (tgt := 4) hx hb dX12_leaving_73 (by decide) ?_
              have hl : lv_has _ _ ([(0, .ref h0), (1, .int (nI cn)), (2, .int (nI bb)), (3, .int (nI (i + 1)))]) := lv_sub hl [2, 3, 4, 0] rfl
              exact ih4 (i + 1) (nI bb) bb g38 gs38 m238 _ _ _ (f38_0) (by omega) (hT1.frame (fun p hp => f38_1 p (by omega) (by omega))) (fun q h1 h2 => by (rw [f38_1 _ (by omega) (by omega)]); exact ho q h1 h2) (Or.inr ⟨rfl, by omega, h3b.keep (by (have fl := f38_2); omega)⟩) (by omega) hP hD hS hl
            · have t_50 : (r38).toInt = 0 := toI_nne c_50 rfl (by decide)
              have l1 := (hlr i (by omega)).1
              have l2 := (hlr bb (by omega)).1
              refine lv_aload_n hx hb dX12_leaving_53 rfl (lv_at hl 1 rfl) ?_
              refine va_get (D := (dC, dI)) (ci := 12) (v := .ref (a 5)) (C := RX12) (T := TX12) (N := 163) (fs := fM (vS a vi vj)) hx hb hts iwsRX12_leaving_in12 hown hK hP 0 rfl rfl 9 (by decide) (hts _ hm_r_X12_leaving_0) (fun _ h9 => h9) rfl dX12_leaving_54 ?_
              refine lv_iload_n hx hb dX12_leaving_57 rfl (lv_at hl 4 rfl) ?_
              refine va_iald (cA := k 5) (n := 60) (f := (vF 5)) hx hb hK hP 6 5 (WR_get 5 (by decide)) (TR_get 5 (by decide)) (vp_in_nI (show i < 60 by omega) (by omega)) dX12_leaving_58 ?_
              refine lv_topi (fun y2 hy2 => ?_)
              obtain rfl : ((vF 5) i) = y2 := (hy2.trans (by rw [nI_clamp (by omega)])).symm
              refine lv_topi (fun y3 hy3 => ?_)
              obtain rfl : (nI (lr i)) = y3 := (hy3.trans ((hlr i (by omega)).2)).symm
              refine lv_aload_n hx hb dX12_leaving_59 rfl (lv_at hl 1 rfl) ?_
              refine va_get (D := (dC, dI)) (ci := 12) (v := .ref (a 5)) (C := RX12) (T := TX12) (N := 163) (fs := fM (vS a vi vj)) hx hb hts iwsRX12_leaving_in12 hown hK hP 0 rfl rfl 9 (by decide) (hts _ hm_r_X12_leaving_0) (fun _ h9 => h9) rfl dX12_leaving_60 ?_
              refine lv_iload_n hx hb dX12_leaving_63 rfl (lv_at hl 3 rfl) ?_
              refine va_iald (cA := k 5) (n := 60) (f := (vF 5)) hx hb hK hP 6 5 (WR_get 5 (by decide)) (TR_get 5 (by decide)) (vp_in_nI (show bb < 60 by omega) (by omega)) dX12_leaving_64 ?_
              refine lv_topi (fun y4 hy4 => ?_)
              obtain rfl : ((vF 5) bb) = y4 := (hy4.trans (by rw [nI_clamp (by omega)])).symm
              refine lv_topi (fun y5 hy5 => ?_)
              obtain rfl : (nI (lr bb)) = y5 := (hy5.trans ((hlr bb (by omega)).2)).symm
              refine lv_icmp_ge (tgt := 70) hx hb dX12_leaving_65 (by decide) (fun c_65 => ?_) (fun c_65 => ?_)
              · have t_65 : (((lr i) : Nat) : Int) ≥ (((lr bb) : Nat) : Int) := toI_ge c_65 (nI_toInt (by omega)) (nI_toInt (by omega))
                refine lv_iinc (v := (nI (i + 1))) hx hb dX12_leaving_70 hl (k := 4) rfl (nI_add i 1) (by decide) rfl (fun ls (hl : lv_has ls _ ([(3, .int (nI (i + 1))), (4, .int r38), (0, .ref h0), (1, .int (nI cn)), (2, .int (nI bb))])) => ?_)
                refine lv_goto (tgt := 4) hx hb dX12_leaving_73 (by decide) ?_
                have hl : lv_has _ _ ([(0, .ref h0), (1, .int (nI cn)), (2, .int (nI bb)), (3, .int (nI (i + 1)))]) := lv_sub hl [2, 3, 4, 0] rfl
                exact ih4 (i + 1) (nI bb) bb g38 gs38 m238 _ _ _ (f38_0) (by omega) (hT1.frame (fun p hp => f38_1 p (by omega) (by omega))) (fun q h1 h2 => by (rw [f38_1 _ (by omega) (by omega)]); exact ho q h1 h2) (Or.inr ⟨rfl, by omega, h3b.keep (by (have fl := f38_2); omega)⟩) (by omega) hP hD hS hl
              · have t_65 : ¬ (((lr i) : Nat) : Int) ≥ (((lr bb) : Nat) : Int) := toI_nge c_65 (nI_toInt (by omega)) (nI_toInt (by omega))
                refine lv_iload_n hx hb dX12_leaving_68 rfl (lv_at hl 4 rfl) ?_
                refine lv_istore_n hx hb dX12_leaving_69 rfl hl (by decide) rfl (fun ls (hl : lv_has ls _ ([(2, .int (nI i)), (4, .int r38), (0, .ref h0), (1, .int (nI cn)), (3, .int (nI i))])) => ?_)
                refine lv_iinc (v := (nI (i + 1))) hx hb dX12_leaving_70 hl (k := 4) rfl (nI_add i 1) (by decide) rfl (fun ls (hl : lv_has ls _ ([(3, .int (nI (i + 1))), (2, .int (nI i)), (4, .int r38), (0, .ref h0), (1, .int (nI cn))])) => ?_)
                refine lv_goto (tgt := 4) hx hb dX12_leaving_73 (by decide) ?_
                have hl : lv_has _ _ ([(0, .ref h0), (1, .int (nI cn)), (2, .int (nI i)), (3, .int (nI (i + 1)))]) := lv_sub hl [3, 4, 1, 0] rfl
                exact ih4 (i + 1) (nI i) i g38 gs38 m238 _ _ _ (f38_0) (by omega) (hT1.frame (fun p hp => f38_1 p (by omega) (by omega))) (fun q h1 h2 => by (rw [f38_1 _ (by omega) (by omega)]); exact ho q h1 h2) (Or.inr ⟨rfl, by omega, h3b.new (by omega) (by (have fl := f38_2); omega)⟩) (by omega) hP hD hS hl
        · have t_26 : (bq).toInt = -1 := toI_nne c_26 rfl (by decide)
          refine lv_iload_n hx hb dX12_leaving_29 rfl (lv_at hl 3 rfl) ?_
          refine lv_istore_n hx hb dX12_leaving_30 rfl hl (by decide) rfl (fun ls (hl : lv_has ls _ ([(2, .int (nI i)), (0, .ref h0), (1, .int (nI cn)), (3, .int (nI i))])) => ?_)
          refine lv_goto (tgt := 70) hx hb dX12_leaving_31 (by decide) ?_
          refine lv_iinc (v := (nI (i + 1))) hx hb dX12_leaving_70 hl (k := 3) rfl (nI_add i 1) (by decide) rfl (fun ls (hl : lv_has ls _ ([(3, .int (nI (i + 1))), (2, .int (nI i)), (0, .ref h0), (1, .int (nI cn))])) => ?_)
          refine lv_goto (tgt := 4) hx hb dX12_leaving_73 (by decide) ?_
          have hl : lv_has _ _ ([(0, .ref h0), (1, .int (nI cn)), (2, .int (nI i)), (3, .int (nI (i + 1)))]) := lv_sub hl [2, 3, 1, 0] rfl
          exact ih4 (i + 1) (nI i) i g1 gs1 m1 _ _ _ (hB1) (by omega) (hT1) (ho) (by (have h1 : ∀ i2, i2 < i → t i2 cn ≤ 0 := by rcases hbs with ⟨h1, h2⟩ | ⟨h1, h2, h3⟩; (exact h2); (exfalso; (have h9 := nI_toInt (n := bb) (by omega)); rw [← h1, c_26] at h9; (have h8 : ((-1 : Int32)).toInt = -1 := by decide); omega)); exact Or.inr ⟨rfl, by omega, Bst.first h1 (by omega)⟩) (by omega) hP hD hS hl
      · have t_18 : ¬ (r15).toInt > 0 := toI_ngt c_18 rfl (by decide)
        refine lv_goto (tgt := 70) hx hb dX12_leaving_21 (by decide) ?_
        refine lv_iinc (v := (nI (i + 1))) hx hb dX12_leaving_70 hl (k := 3) rfl (nI_add i 1) (by decide) rfl (fun ls (hl : lv_has ls _ ([(3, .int (nI (i + 1))), (0, .ref h0), (1, .int (nI cn)), (2, .int bq)])) => ?_)
        refine lv_goto (tgt := 4) hx hb dX12_leaving_73 (by decide) ?_
        have hl : lv_has _ _ ([(0, .ref h0), (1, .int (nI cn)), (2, .int bq), (3, .int (nI (i + 1)))]) := lv_sub hl [1, 2, 3, 0] rfl
        exact ih4 (i + 1) bq bb g1 gs1 m1 _ _ _ (hB1) (by omega) (hT1) (ho) (by rcases hbs with ⟨h1, h2⟩ | ⟨h1, h2, h3⟩; (exact Or.inl ⟨h1, fun i2 hi2 => by by_cases e9 : i2 = i; (rw [e9]; omega); (exact h2 i2 (by omega))⟩); (exact Or.inr ⟨h1, by omega, h3.skip (by omega)⟩)) (by omega) hP hD hS hl
end
section
theorem Sx.c4 {C R T : Nat} {a t : Nat → Nat → Int} {D : Int} {f4 f5 : Nat → Int32} (h : Sx C R T a t D f4 f5) (hC : C ≤ 45) (hT : T < 60) {j : Nat} (hj : j < C) : f4 j = nI (f4 j).toNatClampNeg ∧ (f4 j).toNatClampNeg < C + T := by
  obtain ⟨q, h1, h2⟩ := h.2.1 j hj
  rw [h2, nI_clamp (by omega)]; exact ⟨rfl, h1⟩
theorem Sx.r5 {C R T : Nat} {a t : Nat → Nat → Int} {D : Int} {f4 f5 : Nat → Int32} (h : Sx C R T a t D f4 f5) (hC : C ≤ 45) (hT : T < 60) {i : Nat} (hi : i < R) : f5 i = nI (f5 i).toNatClampNeg ∧ (f5 i).toNatClampNeg < C + T := by
  obtain ⟨q, h1, h2⟩ := h.2.2 i hi
  rw [h2, nI_clamp (by omega)]; exact ⟨rfl, h1⟩
/-- the labels that are held still -/
def stS (C : Nat) (f6 f4 : Nat → Int32) (q : Nat) : Prop := q = C ∨ ∃ k, k < C ∧ f6 k ≠ 0 ∧ clF C f4 k = q
theorem Sx.step {C R T gn : Nat} {a t : Nat → Nat → Int} {D : Int} {f4 f5 f6 f40 : Nat → Int32} (h : Sx C R T a t D f4 f5) (hsm : Small C R T a) (hRg : R ≤ gn) (hgT : gn < T) (hT60 : T < 60) (hC45 : C ≤ 45) (hG : ∀ i, i < R → 0 ≤ t i C)
    (hst : ∀ k, k < C → f6 k ≠ 0 → f4 k = f40 k) {c r : Nat} (hc : c < C) (h6 : f6 c = 0) (hneg : t gn c < 0) (hleast : ∀ k, k < C → f6 k = 0 → t gn k < 0 → (f4 c).toNatClampNeg ≤ (f4 k).toNatClampNeg) (hr : r < R) (hb : Bst t C c (fun i => (f5 i).toNatClampNeg) R r) :
    Sx C R T a (nvT r c (sgI (t r c)) t D) (sgI (t r c) * t r c) (upd f4 (nI c).toNatClampNeg (f5 r)) (upd f5 (nI r).toNatClampNeg (f4 c)) ∧ (∀ i, i < R → 0 ≤ nvT r c (sgI (t r c)) t D i C) ∧ (∀ k, k < C → f6 k ≠ 0 → upd f4 (nI c).toNatClampNeg (f5 r) k = f40 k) ∧
    ∀ N, Ends R T (C + 1) C gn (stS C f6 f40) 200 (2 ^ 294) N (t, D, rlF C R f5, clF C f4) → ∃ N1, N = N1 + 1 ∧ Ends R T (C + 1) C gn (stS C f6 f40) 200 (2 ^ 294) N1 (nvT r c (sgI (t r c)) t D, sgI (t r c) * t r c, rlF C R (upd f5 (nI r).toNatClampNeg (f4 c)), clF C (upd f4 (nI c).toNatClampNeg (f5 r))) := by
  have hp : t r c ≠ 0 := by have := hb.1; omega
  obtain ⟨hS, hP⟩ := h.next hr (by omega) hc hT60 hC45 (sgI_or _) (sgI_pos hp)
  have hS1 := h.1
  have hLb := hS1.2.2.1
  have hcl : ∀ k, k < C → clF C f4 k = gl C (f4 k).toNatClampNeg := fun k hk => by unfold clF; rw [if_pos hk]
  have hrl : ∀ i, i < R → rlF C R f5 i = gl C (f5 i).toNatClampNeg := fun i hi => by unfold rlF; rw [if_pos hi]
  have hsame : ∀ k, k < C → f6 k ≠ 0 → clF C f40 k = clF C f4 k := fun k hk h6k => by unfold clF; rw [if_pos hk, if_pos hk, hst k hk h6k]
  have hRul : Rul R T (C + 1) C gn (stS C f6 f40) (t, D, rlF C R f5, clF C f4) r c := by
    refine ⟨hr, by omega, by omega, hb.1, hneg, ?_, ?_, ?_⟩
    · rintro (e | ⟨k, hk, h6k, e⟩)
      · have e : clF C f4 c = C := e
        rw [hcl c hc] at e; exact gl_ne C _ e
      · rw [hsame k hk h6k] at e
        have := hLb.2.1 k c (by omega) (by omega) e
        subst this; exact h6k h6
    · intro k hk hns hn
      show clF C f4 c ≤ clF C f4 k
      by_cases ek : k = C
      · subst ek; exact absurd (Or.inl (hS1.2.2.2.2.2.1)) hns
      · have hkC : k < C := by omega
        have h6k : f6 k = 0 := Classical.byContradiction fun h9 => hns (Or.inr ⟨k, hkC, h9, hsame k hkC h9⟩)
        rw [hcl c hc, hcl k hkC]
        exact gl_le (hleast k hkC h6k hn)
    · intro i hi hpi
      show t r C * t i c < t i C * t r c ∨ (t r C * t i c = t i C * t r c ∧ rlF C R f5 r ≤ rlF C R f5 i)
      rcases hb.2 i hi hpi with h9 | ⟨h9, h8⟩
      · exact Or.inl h9
      · exact Or.inr ⟨h9, by rw [hrl r hr, hrl i hi]; exact gl_le h8⟩
  have hEx : Exc R T (C + 1) C gn (stS C f6 f40) (t, D, rlF C R f5, clF C f4) (nvT r c (sgI (t r c)) t D, sgI (t r c) * t r c, rlF C R (upd f5 (nI r).toNatClampNeg (f4 c)), clF C (upd f4 (nI c).toNatClampNeg (f5 r))) (clF C f4 c) (rlF C R f5 r) false :=
    ⟨r, c, _, hP, hRul, fun h9 => absurd h9 (by decide), rfl, rfl⟩
  have hGd : Gd R T (C + 1) C (t, D, rlF C R f5, clF C f4) := ⟨hLb, hS1.2.1, hG⟩
  have hGd2 := hEx.gd (by omega) (by omega) hGd
  have hsmall := hsm _ _ _ _ hS1
  have hb1 := hsmall.2 gn hgT C (Nat.le_refl _)
  have hOk : Okay R T (C + 1) C gn (stS C f6 f40) (2 ^ 294) (t, D, rlF C R f5, clF C f4) := by
    refine ⟨by omega, by omega, hRg, hgT, hGd, ?_, ?_, ?_, ?_⟩
    · rintro q (e | ⟨k, hk, h6k, e⟩)
      · exact ⟨C, by omega, by rw [e]; exact hS1.2.2.2.2.2.1⟩
      · exact ⟨k, by omega, by rw [← e]; exact (hsame k hk h6k).symm⟩
    · have := hsmall.1
      show D ≤ ((2 ^ 294 : Nat) : Int); omega
    · show t gn C ≤ ((2 ^ 294 : Nat) : Int); omega
    · show -((2 ^ 294 : Nat) : Int) ≤ t gn C; omega
  refine ⟨hS, hGd2.2.2, fun k hk h6k => ?_, fun N hE => ?_⟩
  · rw [upd_at (by omega), if_neg (fun e => h6k (by rw [e]; exact h6))]; exact hst k hk h6k
  · have hpos := hE.pos hOk
    obtain ⟨N1, rfl⟩ : ∃ N1, N = N1 + 1 := ⟨N - 1, by omega⟩
    refine ⟨N1, rfl, hE.next hOk hEx ?_ ?_⟩
    · have := hS1.2.2.2.2.2.2.2 c (by omega); omega
    · have := hS1.2.2.2.2.2.2.1 r (by omega); omega
end

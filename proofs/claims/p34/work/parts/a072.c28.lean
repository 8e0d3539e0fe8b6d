theorem dX12_put1_0 : decode cX12_put1 0 = .ok (.lload_n 3, 1) := dk_33 (by decide +kernel)
theorem dX12_put1_1 : decode cX12_put1 1 = .ok (.lload 5, 2) := dk_22 (by decide +kernel)
theorem dX12_put1_3 : decode cX12_put1 3 = .ok (.invokestatic 626, 3) := dk_184 (by decide +kernel)
theorem dX12_put1_6 : decode cX12_put1 6 = .ok (.lstore 8, 2) := dk_55 (by decide +kernel)
theorem dX12_put1_8 : decode cX12_put1 8 = .ok (.lload 8, 2) := dk_22 (by decide +kernel)
theorem dX12_put1_10 : decode cX12_put1 10 = .ok (.lconst 0, 1) := dk_9 (by decide +kernel)
theorem dX12_put1_11 : decode cX12_put1 11 = .ok (.lcmp, 1) := dk_148 (by decide +kernel)
theorem dX12_put1_12 : decode cX12_put1 12 = .ok (.ifCond .ne 7, 3) := dk_154 (by decide +kernel)
theorem dX12_put1_19 : decode cX12_put1 19 = .ok (.lload_n 3, 1) := dk_33 (by decide +kernel)
theorem dX12_put1_20 : decode cX12_put1 20 = .ok (.lload 8, 2) := dk_22 (by decide +kernel)
theorem dX12_put1_22 : decode cX12_put1 22 = .ok (.ldiv, 1) := dk_109 (by decide +kernel)
theorem dX12_put1_23 : decode cX12_put1 23 = .ok (.lstore 10, 2) := dk_55 (by decide +kernel)
theorem dX12_put1_25 : decode cX12_put1 25 = .ok (.lload 8, 2) := dk_22 (by decide +kernel)
theorem dX12_put1_27 : decode cX12_put1 27 = .ok (.lconst 0, 1) := dk_9 (by decide +kernel)
theorem dX12_put1_28 : decode cX12_put1 28 = .ok (.lcmp, 1) := dk_148 (by decide +kernel)
theorem dX12_put1_29 : decode cX12_put1 29 = .ok (.ifCond .ne 7, 3) := dk_154 (by decide +kernel)
theorem dX12_put1_36 : decode cX12_put1 36 = .ok (.lload 5, 2) := dk_22 (by decide +kernel)
theorem dX12_put1_38 : decode cX12_put1 38 = .ok (.lload 8, 2) := dk_22 (by decide +kernel)
theorem dX12_put1_40 : decode cX12_put1 40 = .ok (.ldiv, 1) := dk_109 (by decide +kernel)
theorem dX12_put1_41 : decode cX12_put1 41 = .ok (.lstore 12, 2) := dk_55 (by decide +kernel)
theorem dX12_put1_43 : decode cX12_put1 43 = .ok (.lload 12, 2) := dk_22 (by decide +kernel)
theorem dX12_put1_45 : decode cX12_put1 45 = .ok (.lconst 0, 1) := dk_9 (by decide +kernel)
theorem dX12_put1_46 : decode cX12_put1 46 = .ok (.lcmp, 1) := dk_148 (by decide +kernel)
theorem dX12_put1_47 : decode cX12_put1 47 = .ok (.ifCond .ge 13, 3) := dk_156 (by decide +kernel)
theorem dX12_put1_50 : decode cX12_put1 50 = .ok (.lload 10, 2) := dk_22 (by decide +kernel)
theorem dX12_put1_52 : decode cX12_put1 52 = .ok (.lneg, 1) := dk_117 (by decide +kernel)
theorem dX12_put1_53 : decode cX12_put1 53 = .ok (.lstore 10, 2) := dk_55 (by decide +kernel)
theorem dX12_put1_55 : decode cX12_put1 55 = .ok (.lload 12, 2) := dk_22 (by decide +kernel)
theorem dX12_put1_57 : decode cX12_put1 57 = .ok (.lneg, 1) := dk_117 (by decide +kernel)
theorem dX12_put1_58 : decode cX12_put1 58 = .ok (.lstore 12, 2) := dk_55 (by decide +kernel)
theorem dX12_put1_60 : decode cX12_put1 60 = .ok (.lload 10, 2) := dk_22 (by decide +kernel)
theorem dX12_put1_62 : decode cX12_put1 62 = .ok (.ldc2_w 630, 3) := dk_20 (by decide +kernel)
theorem dX12_put1_65 : decode cX12_put1 65 = .ok (.lcmp, 1) := dk_148 (by decide +kernel)
theorem dX12_put1_66 : decode cX12_put1 66 = .ok (.ifCond .gt 21, 3) := dk_157 (by decide +kernel)
theorem dX12_put1_69 : decode cX12_put1 69 = .ok (.lload 10, 2) := dk_22 (by decide +kernel)
theorem dX12_put1_71 : decode cX12_put1 71 = .ok (.ldc2_w 632, 3) := dk_20 (by decide +kernel)
theorem dX12_put1_74 : decode cX12_put1 74 = .ok (.lcmp, 1) := dk_148 (by decide +kernel)
theorem dX12_put1_75 : decode cX12_put1 75 = .ok (.ifCond .lt 12, 3) := dk_155 (by decide +kernel)
theorem dX12_put1_78 : decode cX12_put1 78 = .ok (.lload 12, 2) := dk_22 (by decide +kernel)
theorem dX12_put1_80 : decode cX12_put1 80 = .ok (.ldc2_w 630, 3) := dk_20 (by decide +kernel)
theorem dX12_put1_83 : decode cX12_put1 83 = .ok (.lcmp, 1) := dk_148 (by decide +kernel)
theorem dX12_put1_84 : decode cX12_put1 84 = .ok (.ifCond .le 11, 3) := dk_158 (by decide +kernel)
theorem dX12_put1_87 : decode cX12_put1 87 = .ok (.aload_n 0, 1) := dk_42 (by decide +kernel)
theorem dX12_put1_88 : decode cX12_put1 88 = .ok (.bipush 9, 2) := dk_16 (by decide +kernel)
theorem dX12_put1_90 : decode cX12_put1 90 = .ok (.iload 7, 2) := dk_21 (by decide +kernel)
theorem dX12_put1_92 : decode cX12_put1 92 = .ok (.invokevirtual 518, 3) := dk_182 (by decide +kernel)
theorem dX12_put1_95 : decode cX12_put1 95 = .ok (.aload_n 0, 1) := dk_42 (by decide +kernel)
theorem dX12_put1_96 : decode cX12_put1 96 = .ok (.getfield 515, 3) := dk_180 (by decide +kernel)
theorem dX12_put1_99 : decode cX12_put1 99 = .ok (.ifCond .le 4, 3) := dk_158 (by decide +kernel)
theorem dX12_put1_102 : decode cX12_put1 102 = .ok (.return_, 1) := dk_177 (by decide +kernel)
theorem dX12_put1_103 : decode cX12_put1 103 = .ok (.aload_n 0, 1) := dk_42 (by decide +kernel)
theorem dX12_put1_104 : decode cX12_put1 104 = .ok (.getfield 170, 3) := dk_180 (by decide +kernel)
theorem dX12_put1_107 : decode cX12_put1 107 = .ok (.bipush 9, 2) := dk_16 (by decide +kernel)
theorem dX12_put1_109 : decode cX12_put1 109 = .ok (.iload_n 1, 1) := dk_27 (by decide +kernel)
theorem dX12_put1_110 : decode cX12_put1 110 = .ok (.imul, 1) := dk_104 (by decide +kernel)
theorem dX12_put1_111 : decode cX12_put1 111 = .ok (.iload_n 2, 1) := dk_28 (by decide +kernel)
theorem dX12_put1_112 : decode cX12_put1 112 = .ok (.iadd, 1) := dk_96 (by decide +kernel)
theorem dX12_put1_113 : decode cX12_put1 113 = .ok (.lload 10, 2) := dk_22 (by decide +kernel)
theorem dX12_put1_115 : decode cX12_put1 115 = .ok (.l2i, 1) := dk_136 (by decide +kernel)
theorem dX12_put1_116 : decode cX12_put1 116 = .ok (.iastore, 1) := dk_79 (by decide +kernel)
theorem dX12_put1_117 : decode cX12_put1 117 = .ok (.aload_n 0, 1) := dk_42 (by decide +kernel)
theorem dX12_put1_118 : decode cX12_put1 118 = .ok (.getfield 173, 3) := dk_180 (by decide +kernel)
theorem dX12_put1_121 : decode cX12_put1 121 = .ok (.bipush 9, 2) := dk_16 (by decide +kernel)
theorem dX12_put1_123 : decode cX12_put1 123 = .ok (.iload_n 1, 1) := dk_27 (by decide +kernel)
theorem dX12_put1_124 : decode cX12_put1 124 = .ok (.imul, 1) := dk_104 (by decide +kernel)
theorem dX12_put1_125 : decode cX12_put1 125 = .ok (.iload_n 2, 1) := dk_28 (by decide +kernel)
theorem dX12_put1_126 : decode cX12_put1 126 = .ok (.iadd, 1) := dk_96 (by decide +kernel)
theorem dX12_put1_127 : decode cX12_put1 127 = .ok (.lload 12, 2) := dk_22 (by decide +kernel)
theorem dX12_put1_129 : decode cX12_put1 129 = .ok (.l2i, 1) := dk_136 (by decide +kernel)
theorem dX12_put1_130 : decode cX12_put1 130 = .ok (.iastore, 1) := dk_79 (by decide +kernel)
theorem dX12_put1_131 : decode cX12_put1 131 = .ok (.return_, 1) := dk_177 (by decide +kernel)
def wsRX12_put1 : List Cond := .code yX12_put1 cX12_put1 14 none :: ([.constantLong RX12 630 1000000, .constantLong RX12 632 (-1000000), .fieldLink RX12 515 "OptimaWorksModel" "stop" "I", .fieldLink RX12 170 "OptimaWorksModel" "top" "[I", .fieldLink RX12 173 "OptimaWorksModel" "under" "[I"] ++ wsX120 ++ (va_wsS RX12 626 yX12_common1 wsRX12_common1) ++ (wsV RX12 518 RX12 yX12_faultAt wsRX12_faultAt))
theorem iwsRX12_put1_in12 : ∀ w ∈ wsX120, w ∈ wsRX12_put1 := fun _ h => List.mem_cons_of_mem _ (List.mem_append_left _ (List.mem_append_left _ (List.mem_append_right _ h)))
theorem gwsRX12_put1_0 : GoodIn wsRX12_put1 (va_wsS RX12 626 yX12_common1 wsRX12_common1) := goodIn_sub (fun _ h => List.mem_cons_of_mem _ (List.mem_append_left _ (List.mem_append_right _ h))) (gdS (by decide +kernel) gdwsRX12_common1)
theorem gwsRX12_put1_1 : GoodIn wsRX12_put1 (wsV RX12 518 RX12 yX12_faultAt wsRX12_faultAt) := goodIn_sub (fun _ h => List.mem_cons_of_mem _ (List.mem_append_right _ h)) (gdV (by decide +kernel) gdwsRX12_faultAt)
theorem gdwsRX12_put1 : wsRX12_put1.all goodWord = true := gdC rfl (gdA (gdA (gdA (by decide +kernel : ([.constantLong RX12 630 1000000, .constantLong RX12 632 (-1000000), .fieldLink RX12 515 "OptimaWorksModel" "stop" "I", .fieldLink RX12 170 "OptimaWorksModel" "top" "[I", .fieldLink RX12 173 "OptimaWorksModel" "under" "[I"] : List Cond).all goodWord = true) gdwsX120) (gdS (by decide +kernel) gdwsRX12_common1)) (gdV (by decide +kernel) gdwsRX12_faultAt))
set_option maxHeartbeats 4000000 in
set_option maxRecDepth 100000 in
/-- put1(v, k, n, d, p) -/
theorem r_X12_put1 (l : Launch) (dC : Nat → ClassId) (dI : Nat → Nat → Nat) (a : Nat → Nat) (k : Nat → ClassId) (h0 : Nat) (vi : Nat → Int32) (vj : Nat → Int64) (vF : Nat → Nat → Int32) (vG : Nat → Nat → Int64) (vn : Nat) (kn : Nat) (xn : Int64) (xd : Int64) (pv : Int32) (hvn : vn < 100) (hkn : kn < 9) (hxn : -4611686018427387904 < (xn).toInt ∧ (xn).toInt < 4611686018427387904) (hxd : -4611686018427387904 < (xd).toInt ∧ (xd).toInt < 4611686018427387904) (hd0 : (xd).toInt ≠ 0) (sz : Nat) : Met l yX12_put1 wsRX12_put1 ({ frames := 1, cells := 0, slots := 0, locals := 29 }) (va_Pc [.ref h0, .int (nI vn), .int (nI kn), .long xn, .long xd, .int pv] (fun U => U.heap.size = sz ∧ va_P (dC, dI) vwCl (WR a k h0 vi vj vF vG) U.heap ∧ va_K (dC, dI) vwCl (tX12 k) U ∧ va_D (fun _ => True) (WR a k h0 vi vj vF vG))) (va_Qv (fun (u : (Int32) × (Int32) × (Nat → Int32) × (Nat → Int32)) => ((¬ ((u.1)).toInt ≤ 0 ∧ (u.2.2.1) = vF 49 ∧ (u.2.2.2) = vF 50) ∨ (((u.1)).toInt ≤ 0 ∧ (u.1) = vi 21 ∧ ∃ tv uv : Int32, ((tv).toInt ≤ 1000000 ∧ -1000000 ≤ (tv).toInt ∧ 1 ≤ (uv).toInt ∧ (uv).toInt ≤ 1000000) ∧ (u.2.2.1) = upd (vF 49) (nI (9 * vn + kn)).toNatClampNeg tv ∧ (u.2.2.2) = upd (vF 50) (nI (9 * vn + kn)).toNatClampNeg uv))) (fun (u : (Int32) × (Int32) × (Nat → Int32) × (Nat → Int32)) t => va_P (dC, dI) vwCl (WR a k h0 (fT (fT vi 21 (u.1)) 22 (u.2.1)) vj (fT (fT vF 49 (u.2.2.1)) 50 (u.2.2.2)) vG) t.heap ∧ va_D (va_A (WR a k h0 vi vj vF vG) sz) (WR a k h0 (fT (fT vi 21 (u.1)) 22 (u.2.1)) vj (fT (fT vF 49 (u.2.2.1)) 50 (u.2.2.2)) vG)) (va_A (WR a k h0 vi vj vF vG) sz)) 0 0 (va_A (WR a k h0 vi vj vF vG) sz) := by
  refine Met.ofW (cc := cX12_put1) (maxL := 14) (ret := none) (by decide) rfl ?_
  intro p e s m args below meth c s₁ B hml hv
  obtain ⟨rfl, hsz, hP, hK, hD0⟩ := hv
  have hx := B.exec
  have hb := B.bytes
  have hr := B.returns
  have hts := atoms_spec (ws := wsRX12_put1) B.pre
  have hown : s.vm.findClass RX12 = some m.cls := findClass_of_methodNamed B.named
  have hlocks := B.notSynchronized
  subst hsz
  have hD := hD0.self (sz := s.heap.size)
  generalize hAe : va_A (WR a k h0 vi vj vF vG) s.heap.size = A at hD ⊢
  have hA : ∀ q : Nat, s.heap.size ≤ q → A q := fun q h => by rw [← hAe]; exact Or.inr h
  have hS : va_S A s.heap s.heap [] := va_S.rf
  have hl := lv_entry ([.ref h0, .int (nI vn), .int (nI kn), .long xn, .long xd, .int pv]) (n := 14) (Nat.le_of_ble_eq_true rfl)
  rw [lg_entry_eq]
  generalize (lg_sl ([.ref h0, .int (nI vn), .int (nI kn), .long xn, .long xd, .int pv]) ++ List.replicate (14 - (lg_sl ([.ref h0, .int (nI vn), .int (nI kn), .long xn, .long xd, .int pv])).length) Slot.unset).toArray = ls at hl ⊢
  have hl : lv_has ls 14 [(0, .ref h0), (1, .int (nI vn)), (2, .int (nI kn)), (3, .long xn), (5, .long xd), (7, .int pv)] := hl
  refine lv_lload_n hx hb dX12_put1_0 rfl (lv_at hl 3 rfl) ?_
  refine lv_lload hx hb dX12_put1_1 (lv_at hl 4 rfl) ?_
  have hFc := noneFree hS hA
  refine va_calll (va_runS (As := [.long xn, .long xd]) (rest := []) ⟨hx, hb, hml, hown, hts⟩ (r_X12_common1 l dC dI xn xd (by first | assumption | decide | omega | rfl) (by first | assumption | decide | omega | rfl) s.heap.size) (va_cwS 2 hts gwsRX12_put1_0 rfl rfl rfl (by decide +kernel) ⟨by decide +kernel, by decide +kernel⟩) ⟨fun a U g mk q => by obtain ⟨q0, q1, qP, qK, qD⟩ := q; exact ⟨q0, q1, qP, va_K.moved (u := U) (U := U.calling g mk a) (Vm.Alike.refl U.vm) qK, qD⟩, fun U hU9 hW => ⟨rfl, by rw [hU9], by rw [hU9]; exact nilP, va_K.moved hW.alike (hK.sub (tys' := []) [] rfl), nilD⟩⟩ rfl rfl hl.1 rfl (lv_room (Nat.le_of_ble_eq_true rfl)) dX12_put1_3 ⟨by decide +kernel, by decide +kernel⟩) hS (fun q _ h => hFc q h) hFc (fun r3 u t9_ H1 locs ht hvm hw9 hB9 hz1 hk1 hS => ?_)
  have hP := keepAll hP hk1
  clear hB9
  generalize H1 = H at hP hS ⊢
  have hP : va_P (dC, dI) vwCl (WR a k h0 vi vj vF vG) H := hP
  have hD : va_D A (WR a k h0 vi vj vF vG) := hD
  have f3_0 := hw9
  try dsimp only at f3_0
  have hgp : 0 < (r3).toInt := by (have h9 := gcd_ne (x := (xn).toInt) (y := (xd).toInt) (Or.inr hd0)); rw [f3_0]; omega
  refine lv_lstore hx hb dX12_put1_6 hl (by decide) rfl (fun ls (hl : lv_has ls _ ([(8, .long r3), (0, .ref h0), (1, .int (nI vn)), (2, .int (nI kn)), (3, .long xn), (5, .long xd), (7, .int pv)])) => ?_)
  refine lv_lload hx hb dX12_put1_8 (lv_at hl 0 rfl) ?_
  refine lv_lconst (v := 0) hx hb dX12_put1_10 (by decide) ?_
  refine W.lcmp hx hb dX12_put1_11 ?_
  refine lv_if_ne (tgt := 19) hx hb dX12_put1_12 (by decide) (fun c_12 => ?_) (fun c9 => False.elim (by have t9 : (r3).toInt = 0 := toL_nne c9 rfl (by decide); omega))
  have t_12 : (r3).toInt ≠ 0 := toL_ne c_12 rfl (by decide)
  refine lv_lload_n hx hb dX12_put1_19 rfl (lv_at hl 4 rfl) ?_
  refine lv_lload hx hb dX12_put1_20 (lv_at hl 0 rfl) ?_
  refine lv_ldiv hx hb dX12_put1_22 (by exact ne0_64 hgp) ?_
  have qa := div64i (x := xn) (y := r3) hxn hgp
  obtain ⟨av, hav⟩ : ∃ av, av = ((xn / r3) : Int64) := ⟨_, rfl⟩
  have ba : av.toInt.natAbs ≤ (xn).toInt.natAbs := by rw [hav]; exact qa.2
  refine lv_topl (fun y1 hy1 => ?_)
  obtain rfl : av = y1 := (hy1.trans (hav.symm)).symm
  refine lv_lstore hx hb dX12_put1_23 hl (by decide) rfl (fun ls (hl : lv_has ls _ ([(10, .long av), (8, .long r3), (0, .ref h0), (1, .int (nI vn)), (2, .int (nI kn)), (3, .long xn), (5, .long xd), (7, .int pv)])) => ?_)
  refine lv_lload hx hb dX12_put1_25 (lv_at hl 1 rfl) ?_
  refine lv_lconst (v := 0) hx hb dX12_put1_27 (by decide) ?_
  refine W.lcmp hx hb dX12_put1_28 ?_
  refine lv_if_ne (tgt := 36) hx hb dX12_put1_29 (by decide) (fun c_29 => ?_) (fun c9 => False.elim (by have t9 : (r3).toInt = 0 := toL_nne c9 rfl (by decide); omega))
  have t_29 : (r3).toInt ≠ 0 := toL_ne c_29 rfl (by decide)
  refine lv_lload hx hb dX12_put1_36 (lv_at hl 6 rfl) ?_
  refine lv_lload hx hb dX12_put1_38 (lv_at hl 1 rfl) ?_
  refine lv_ldiv hx hb dX12_put1_40 (by exact ne0_64 hgp) ?_
  have qb := div64i (x := xd) (y := r3) hxd hgp
  obtain ⟨bv, hbv⟩ : ∃ bv, bv = ((xd / r3) : Int64) := ⟨_, rfl⟩
  have bb9 : bv.toInt.natAbs ≤ (xd).toInt.natAbs := by rw [hbv]; exact qb.2
  have bn9 : bv.toInt ≠ 0 := by rw [hbv, qb.1]; exact tdiv_ne hd0 hgp (by rw [f3_0]; exact Int.gcd_dvd_right _ _)
  refine lv_topl (fun y2 hy2 => ?_)
  obtain rfl : bv = y2 := (hy2.trans (hbv.symm)).symm
  refine lv_lstore hx hb dX12_put1_41 hl (by decide) rfl (fun ls (hl : lv_has ls _ ([(12, .long bv), (10, .long av), (8, .long r3), (0, .ref h0), (1, .int (nI vn)), (2, .int (nI kn)), (3, .long xn), (5, .long xd), (7, .int pv)])) => ?_)
  refine lv_lload hx hb dX12_put1_43 (lv_at hl 0 rfl) ?_
  refine lv_lconst (v := 0) hx hb dX12_put1_45 (by decide) ?_
  refine W.lcmp hx hb dX12_put1_46 ?_
  refine W.cut (pc := 60) (fun H locs ls stk => ∃ (aw : Int64) (bw : Int64), (-4611686018427387904 < aw.toInt ∧ aw.toInt < 4611686018427387904) ∧ (1 ≤ bw.toInt ∧ bw.toInt < 4611686018427387904) ∧  stk = [] ∧ va_P (dC, dI) vwCl (WR a k h0 vi vj vF vG) H ∧ va_D A (WR a k h0 vi vj vF vG) ∧ va_S A s.heap H locs ∧ lv_has ls 14 [(0, .ref h0), (1, .int (nI vn)), (2, .int (nI kn)), (7, .int pv), (10, .long aw), (12, .long bw)]) (fun join1 => ?_) ?_
  · refine lv_if_ge (tgt := 60) hx hb dX12_put1_47 (by decide) (fun c_47 => ?_) (fun c_47 => ?_)
    · have t_47 : (bv).toInt ≥ 0 := toL_ge c_47 rfl (by decide)
      have hl : lv_has _ _ ([(0, .ref h0), (1, .int (nI vn)), (2, .int (nI kn)), (7, .int pv), (10, .long av), (12, .long bv)]) := lv_sub hl [3, 4, 5, 8, 1, 0] rfl
      exact join1 _ _ _ _ ⟨av, bv, by omega, by omega, rfl, hP, hD, hS, hl⟩
    · have t_47 : ¬ (bv).toInt ≥ 0 := toL_nge c_47 rfl (by decide)
      refine lv_lload hx hb dX12_put1_50 (lv_at hl 1 rfl) ?_
      refine lv_lneg hx hb dX12_put1_52 ?_
      refine lv_lstore hx hb dX12_put1_53 hl (by decide) rfl (fun ls (hl : lv_has ls _ ([(10, .long (-av)), (12, .long bv), (8, .long r3), (0, .ref h0), (1, .int (nI vn)), (2, .int (nI kn)), (3, .long xn), (5, .long xd), (7, .int pv)])) => ?_)
      refine lv_lload hx hb dX12_put1_55 (lv_at hl 1 rfl) ?_
      refine lv_lneg hx hb dX12_put1_57 ?_
      refine lv_lstore hx hb dX12_put1_58 hl (by decide) rfl (fun ls (hl : lv_has ls _ ([(12, .long (-bv)), (10, .long (-av)), (8, .long r3), (0, .ref h0), (1, .int (nI vn)), (2, .int (nI kn)), (3, .long xn), (5, .long xd), (7, .int pv)])) => ?_)
      have hl : lv_has _ _ ([(0, .ref h0), (1, .int (nI vn)), (2, .int (nI kn)), (7, .int pv), (10, .long (-av)), (12, .long (-bv))]) := lv_sub hl [3, 4, 5, 8, 1, 0] rfl
      exact join1 _ _ _ _ ⟨(-av), (-bv), by rw [Int64.toInt_neg, Int.bmod_eq_of_le (by omega) (by omega)]; omega, by rw [Int64.toInt_neg, Int.bmod_eq_of_le (by omega) (by omega)]; omega, rfl, hP, hD, hS, hl⟩
  · rintro H locs ls stk ⟨aw, bw, haw, hbw, rfl, hP, hD, hS, hl⟩
    refine lv_lload hx hb dX12_put1_60 (lv_at hl 4 rfl) ?_
    refine lv_ldc2 (v := 1000000) hx hb hown (hts (.constantLong RX12 630 1000000) (by decide +kernel)) dX12_put1_62 ?_
    refine W.lcmp hx hb dX12_put1_65 ?_
    refine W.cut (pc := 95) (fun H locs ls stk => ∃ (s3 : Int32) (p3 : Int32), (¬ (s3).toInt ≤ 0 ∨ (s3 = vi 21 ∧ -1000000 ≤ aw.toInt ∧ aw.toInt ≤ 1000000 ∧ bw.toInt ≤ 1000000)) ∧  stk = [] ∧ va_P (dC, dI) vwCl (WR a k h0 (fT (fT vi 21 s3) 22 p3) vj vF vG) H ∧ va_D A (WR a k h0 (fT (fT vi 21 s3) 22 p3) vj vF vG) ∧ va_S A s.heap H locs ∧ lv_has ls 14 [(0, .ref h0), (1, .int (nI vn)), (2, .int (nI kn)), (7, .int pv), (10, .long aw), (12, .long bw)]) (fun join2 => ?_) ?_
    · refine lv_if_gt (tgt := 87) hx hb dX12_put1_66 (by decide) (fun c_66 => ?_) (fun c_66 => ?_)
      · have t_66 : (aw).toInt > 1000000 := toL_gt c_66 rfl (by decide)
        refine lv_aload_n hx hb dX12_put1_87 rfl (lv_at hl 0 rfl) ?_
        refine lv_bipush (v := 9) hx hb dX12_put1_88 (by decide) ?_
        refine lv_iload hx hb dX12_put1_90 (lv_at hl 3 rfl) ?_
        have hFc := allFree hD hS hA
        refine va_callv (va_runV (As := [.int 9, .int pv]) (rest := []) ⟨hx, hb, hml, hown, hts⟩ (r_X12_faultAt l dC dI a k h0 vi vj vF vG 9 pv (by first | assumption | decide | omega | rfl) H.size) (cwV 2 hts gwsRX12_put1_1 rfl rfl rfl (by decide +kernel) ⟨by decide +kernel, by decide +kernel⟩) ⟨fun a U g mk q => by obtain ⟨q0, q1, qP, qK, qD⟩ := q; exact ⟨q0, q1, qP, va_K.moved (u := U) (U := U.calling g mk a) (Vm.Alike.refl U.vm) qK, qD⟩, va_recv hK hP (ci := 12) (q0 := 0) rfl rfl, fun U hU9 hW => ⟨rfl, by rw [hU9], by rw [hU9]; exact hP, va_K.moved hW.alike hK, hD.weaken (fun _ _ _ _ => trivial)⟩⟩ rfl rfl hl.1 rfl (lv_room (Nat.le_of_ble_eq_true rfl)) dX12_put1_92 ⟨by decide +kernel, by decide +kernel⟩) hS (fun q _ h => hFc q h) hFc (fun u t9_ H1 locs ht hvm hw9 hB9 hz1 hk1 hS => ?_)
        obtain ⟨s292, p292⟩ := u
        try dsimp only at hw9 hB9
        obtain ⟨hP1, hD1⟩ := hB9
        rw [ht] at hP1
        have hP := hP1
        have hD := hD1.weaken (fun _ q _ h => hFc q.1 h)
        generalize H1 = H at hP hS ⊢
        have hP : va_P (dC, dI) vwCl (WR a k h0 (fT (fT vi 21 s292) 22 p292) vj vF vG) H := hP
        have hD : va_D A (WR a k h0 (fT (fT vi 21 s292) 22 p292) vj vF vG) := hD
        obtain ⟨f92_0, f92_1⟩ := hw9
        have f92_0 : (0 < (vi 21).toInt ∧ s292 = (vi 21) ∧ p292 = (vi 22)) ∨ (¬ 0 < (vi 21).toInt ∧ s292 = 9 ∧ p292 = pv) := f92_0
        have hl : lv_has _ _ ([(0, .ref h0), (1, .int (nI vn)), (2, .int (nI kn)), (7, .int pv), (10, .long aw), (12, .long bw)]) := lv_sub hl [0, 1, 2, 3, 4, 5] rfl
        exact join2 _ _ _ _ ⟨s292, p292, Or.inl (by rcases f92_0 with h9 | h9; (rw [h9.2.1]; omega); (rw [h9.2.1]; decide)), rfl, hP, hD, hS, hl⟩
      · have t_66 : ¬ (aw).toInt > 1000000 := toL_ngt c_66 rfl (by decide)
        refine lv_lload hx hb dX12_put1_69 (lv_at hl 4 rfl) ?_
        refine lv_ldc2 (v := (-1000000)) hx hb hown (hts (.constantLong RX12 632 (-1000000)) (by decide +kernel)) dX12_put1_71 ?_
        refine W.lcmp hx hb dX12_put1_74 ?_
        refine lv_if_lt (tgt := 87) hx hb dX12_put1_75 (by decide) (fun c_75 => ?_) (fun c_75 => ?_)
        · have t_75 : (aw).toInt < -1000000 := toL_lt c_75 rfl (by decide)
          refine lv_aload_n hx hb dX12_put1_87 rfl (lv_at hl 0 rfl) ?_
          refine lv_bipush (v := 9) hx hb dX12_put1_88 (by decide) ?_
          refine lv_iload hx hb dX12_put1_90 (lv_at hl 3 rfl) ?_
          have hFc := allFree hD hS hA
          refine va_callv (va_runV (As := [.int 9, .int pv]) (rest := []) ⟨hx, hb, hml, hown, hts⟩ (r_X12_faultAt l dC dI a k h0 vi vj vF vG 9 pv (by first | assumption | decide | omega | rfl) H.size) (cwV 2 hts gwsRX12_put1_1 rfl rfl rfl (by decide +kernel) ⟨by decide +kernel, by decide +kernel⟩) ⟨fun a U g mk q => by obtain ⟨q0, q1, qP, qK, qD⟩ := q; exact ⟨q0, q1, qP, va_K.moved (u := U) (U := U.calling g mk a) (Vm.Alike.refl U.vm) qK, qD⟩, va_recv hK hP (ci := 12) (q0 := 0) rfl rfl, fun U hU9 hW => ⟨rfl, by rw [hU9], by rw [hU9]; exact hP, va_K.moved hW.alike hK, hD.weaken (fun _ _ _ _ => trivial)⟩⟩ rfl rfl hl.1 rfl (lv_room (Nat.le_of_ble_eq_true rfl)) dX12_put1_92 ⟨by decide +kernel, by decide +kernel⟩) hS (fun q _ h => hFc q h) hFc (fun u t9_ H1 locs ht hvm hw9 hB9 hz1 hk1 hS => ?_)
          obtain ⟨s292_1, p292_1⟩ := u
          try dsimp only at hw9 hB9
          obtain ⟨hP1, hD1⟩ := hB9
          rw [ht] at hP1
          have hP := hP1
          have hD := hD1.weaken (fun _ q _ h => hFc q.1 h)
          generalize H1 = H at hP hS ⊢
          have hP : va_P (dC, dI) vwCl (WR a k h0 (fT (fT vi 21 s292_1) 22 p292_1) vj vF vG) H := hP
          have hD : va_D A (WR a k h0 (fT (fT vi 21 s292_1) 22 p292_1) vj vF vG) := hD
          obtain ⟨f92_1_0, f92_1_1⟩ := hw9
          have f92_1_0 : (0 < (vi 21).toInt ∧ s292_1 = (vi 21) ∧ p292_1 = (vi 22)) ∨ (¬ 0 < (vi 21).toInt ∧ s292_1 = 9 ∧ p292_1 = pv) := f92_1_0
          have hl : lv_has _ _ ([(0, .ref h0), (1, .int (nI vn)), (2, .int (nI kn)), (7, .int pv), (10, .long aw), (12, .long bw)]) := lv_sub hl [0, 1, 2, 3, 4, 5] rfl
          exact join2 _ _ _ _ ⟨s292_1, p292_1, Or.inl (by rcases f92_1_0 with h9 | h9; (rw [h9.2.1]; omega); (rw [h9.2.1]; decide)), rfl, hP, hD, hS, hl⟩
        · have t_75 : ¬ (aw).toInt < -1000000 := toL_nlt c_75 rfl (by decide)
          refine lv_lload hx hb dX12_put1_78 (lv_at hl 5 rfl) ?_
          refine lv_ldc2 (v := 1000000) hx hb hown (hts (.constantLong RX12 630 1000000) (by decide +kernel)) dX12_put1_80 ?_
          refine W.lcmp hx hb dX12_put1_83 ?_
          refine lv_if_le (tgt := 95) hx hb dX12_put1_84 (by decide) (fun c_84 => ?_) (fun c_84 => ?_)
          · have t_84 : (bw).toInt ≤ 1000000 := toL_le c_84 rfl (by decide)
            have e9 : fT (fT vi 21 (vi 21)) 22 (vi 22) = vi := by funext q9; by_cases h9_21 : q9 = 21; (subst h9_21; exact ((fT_ne _ _ (Nat.ne_of_beq_eq_false rfl)).trans (fT_eq _ _ _)).trans (Eq.trans (by first | rfl | assumption | (symm; assumption) | (subst_vars; rfl)) (Eq.refl _).symm)); by_cases h9_22 : q9 = 22; (subst h9_22; exact (fT_eq _ _ _).trans (Eq.trans (by first | rfl | assumption | (symm; assumption) | (subst_vars; rfl)) (Eq.refl _).symm)); exact ((fT_ne _ _ h9_22).trans (fT_ne _ _ h9_21)).trans (Eq.refl _).symm
            have hP : va_P (dC, dI) vwCl (WR a k h0 (fT (fT vi 21 (vi 21)) 22 (vi 22)) vj vF vG) H := by rw [e9]; exact hP
            have hD : va_D A (WR a k h0 (fT (fT vi 21 (vi 21)) 22 (vi 22)) vj vF vG) := by rw [e9]; exact hD
            clear e9
            have hl : lv_has _ _ ([(0, .ref h0), (1, .int (nI vn)), (2, .int (nI kn)), (7, .int pv), (10, .long aw), (12, .long bw)]) := lv_sub hl [0, 1, 2, 3, 4, 5] rfl
            exact join2 _ _ _ _ ⟨(vi 21), (vi 22), Or.inr ⟨rfl, by omega, by omega, by omega⟩, rfl, hP, hD, hS, hl⟩
          · have t_84 : ¬ (bw).toInt ≤ 1000000 := toL_nle c_84 rfl (by decide)
            refine lv_aload_n hx hb dX12_put1_87 rfl (lv_at hl 0 rfl) ?_
            refine lv_bipush (v := 9) hx hb dX12_put1_88 (by decide) ?_
            refine lv_iload hx hb dX12_put1_90 (lv_at hl 3 rfl) ?_
            have hFc := allFree hD hS hA
            refine va_callv (va_runV (As := [.int 9, .int pv]) (rest := []) ⟨hx, hb, hml, hown, hts⟩ (r_X12_faultAt l dC dI a k h0 vi vj vF vG 9 pv (by first | assumption | decide | omega | rfl) H.size) (cwV 2 hts gwsRX12_put1_1 rfl rfl rfl (by decide +kernel) ⟨by decide +kernel, by decide +kernel⟩) ⟨fun a U g mk q => by obtain ⟨q0, q1, qP, qK, qD⟩ := q; exact ⟨q0, q1, qP, va_K.moved (u := U) (U := U.calling g mk a) (Vm.Alike.refl U.vm) qK, qD⟩, va_recv hK hP (ci := 12) (q0 := 0) rfl rfl, fun U hU9 hW => ⟨rfl, by rw [hU9], by rw [hU9]; exact hP, va_K.moved hW.alike hK, hD.weaken (fun _ _ _ _ => trivial)⟩⟩ rfl rfl hl.1 rfl (lv_room (Nat.le_of_ble_eq_true rfl)) dX12_put1_92 ⟨by decide +kernel, by decide +kernel⟩) hS (fun q _ h => hFc q h) hFc (fun u t9_ H1 locs ht hvm hw9 hB9 hz1 hk1 hS => ?_)
            obtain ⟨s292_2, p292_2⟩ := u
            try dsimp only at hw9 hB9
            obtain ⟨hP1, hD1⟩ := hB9
            rw [ht] at hP1
            have hP := hP1
            have hD := hD1.weaken (fun _ q _ h => hFc q.1 h)
            generalize H1 = H at hP hS ⊢
            have hP : va_P (dC, dI) vwCl (WR a k h0 (fT (fT vi 21 s292_2) 22 p292_2) vj vF vG) H := hP
            have hD : va_D A (WR a k h0 (fT (fT vi 21 s292_2) 22 p292_2) vj vF vG) := hD
            obtain ⟨f92_2_0, f92_2_1⟩ := hw9
            have f92_2_0 : (0 < (vi 21).toInt ∧ s292_2 = (vi 21) ∧ p292_2 = (vi 22)) ∨ (¬ 0 < (vi 21).toInt ∧ s292_2 = 9 ∧ p292_2 = pv) := f92_2_0
            have hl : lv_has _ _ ([(0, .ref h0), (1, .int (nI vn)), (2, .int (nI kn)), (7, .int pv), (10, .long aw), (12, .long bw)]) := lv_sub hl [0, 1, 2, 3, 4, 5] rfl
            exact join2 _ _ _ _ ⟨s292_2, p292_2, Or.inl (by rcases f92_2_0 with h9 | h9; (rw [h9.2.1]; omega); (rw [h9.2.1]; decide)), rfl, hP, hD, hS, hl⟩
    · rintro H locs ls stk ⟨s3, p3, hs3, rfl, hP, hD, hS, hl⟩
      refine lv_aload_n hx hb dX12_put1_95 rfl (lv_at hl 0 rfl) ?_
      refine va_get (D := (dC, dI)) (ci := 12) (v := .int s3) (C := RX12) (T := TX12) (N := 163) (fs := fM (vS a (fT (fT vi 21 s3) 22 p3) vj)) hx hb hts iwsRX12_put1_in12 hown hK hP 0 rfl rfl 21 (by decide) (hts (.fieldLink RX12 515 "OptimaWorksModel" "stop" "I") (by decide +kernel)) (fun _ h9 => h9) rfl dX12_put1_96 ?_
      refine lv_if_le (tgt := 103) hx hb dX12_put1_99 (by decide) (fun c_99 => ?_) (fun c_99 => ?_)
      · have t_99 : (s3).toInt ≤ 0 := toI_le c_99 rfl (by decide)
        refine lv_aload_n hx hb dX12_put1_103 rfl (lv_at hl 0 rfl) ?_
        refine va_get (D := (dC, dI)) (ci := 12) (v := .ref (a 49)) (C := RX12) (T := TX12) (N := 163) (fs := fM (vS a (fT (fT vi 21 s3) 22 p3) vj)) hx hb hts iwsRX12_put1_in12 hown hK hP 0 rfl rfl 78 (by decide) (hts (.fieldLink RX12 170 "OptimaWorksModel" "top" "[I") (by decide +kernel)) (fun _ h9 => h9) rfl dX12_put1_104 ?_
        refine lv_bipush (v := 9) hx hb dX12_put1_107 (by decide) ?_
        refine lv_iload_n hx hb dX12_put1_109 rfl (lv_at hl 1 rfl) ?_
        refine lv_imul hx hb dX12_put1_110 ?_
        refine lv_topi (fun y3 hy3 => ?_)
        obtain rfl : (nI (9 * vn)) = y3 := (hy3.trans (pk_mul 9 vn)).symm
        refine lv_iload_n hx hb dX12_put1_111 rfl (lv_at hl 2 rfl) ?_
        refine lv_iadd hx hb dX12_put1_112 ?_
        refine lv_topi (fun y4 hy4 => ?_)
        obtain rfl : (nI ((9 * vn) + kn)) = y4 := (hy4.trans (nI_add (9 * vn) kn)).symm
        refine lv_lload hx hb dX12_put1_113 (lv_at hl 4 rfl) ?_
        refine lv_l2i hx hb dX12_put1_115 rfl ?_
        refine va_iast (cA := k 49) (n := 900) (f := (vF 49)) hx hb hK hP hD hS 50 49 (WR_get 49 (by decide)) (TR_get 49 (by decide)) (vp_in_nI (show ((9 * vn) + kn) < 900 by omega) (by omega)) dX12_put1_116 (fun H locs hP hD hS => ?_)
        have hP : va_P (dC, dI) vwCl (WR a k h0 (fT (fT vi 21 s3) 22 p3) vj (fT vF 49 (upd (vF 49) ((nI ((9 * vn) + kn))).toNatClampNeg ((aw).toInt32))) vG) H := by rw [← WR_F 49 (by decide) _ rfl]; exact hP
        have hD : va_D A (WR a k h0 (fT (fT vi 21 s3) 22 p3) vj (fT vF 49 (upd (vF 49) ((nI ((9 * vn) + kn))).toNatClampNeg ((aw).toInt32))) vG) := by rw [← WR_F 49 (by decide) _ rfl]; exact hD
        refine lv_aload_n hx hb dX12_put1_117 rfl (lv_at hl 0 rfl) ?_
        refine va_get (D := (dC, dI)) (ci := 12) (v := .ref (a 50)) (C := RX12) (T := TX12) (N := 163) (fs := fM (vS a (fT (fT vi 21 s3) 22 p3) vj)) hx hb hts iwsRX12_put1_in12 hown hK hP 0 rfl rfl 79 (by decide) (hts (.fieldLink RX12 173 "OptimaWorksModel" "under" "[I") (by decide +kernel)) (fun _ h9 => h9) rfl dX12_put1_118 ?_
        refine lv_bipush (v := 9) hx hb dX12_put1_121 (by decide) ?_
        refine lv_iload_n hx hb dX12_put1_123 rfl (lv_at hl 1 rfl) ?_
        refine lv_imul hx hb dX12_put1_124 ?_
        refine lv_topi (fun y5 hy5 => ?_)
        obtain rfl : (nI (9 * vn)) = y5 := (hy5.trans (pk_mul 9 vn)).symm
        refine lv_iload_n hx hb dX12_put1_125 rfl (lv_at hl 2 rfl) ?_
        refine lv_iadd hx hb dX12_put1_126 ?_
        refine lv_topi (fun y6 hy6 => ?_)
        obtain rfl : (nI ((9 * vn) + kn)) = y6 := (hy6.trans (nI_add (9 * vn) kn)).symm
        refine lv_lload hx hb dX12_put1_127 (lv_at hl 5 rfl) ?_
        refine lv_l2i hx hb dX12_put1_129 rfl ?_
        refine va_iast (cA := k 50) (n := 900) (f := (vF 50)) hx hb hK hP hD hS 51 50 (WR_get 50 (by decide)) (TR_get 50 (by decide)) (vp_in_nI (show ((9 * vn) + kn) < 900 by omega) (by omega)) dX12_put1_130 (fun H locs hP hD hS => ?_)
        have hP : va_P (dC, dI) vwCl (WR a k h0 (fT (fT vi 21 s3) 22 p3) vj (fT (fT vF 49 (upd (vF 49) ((nI ((9 * vn) + kn))).toNatClampNeg ((aw).toInt32))) 50 (upd (vF 50) ((nI ((9 * vn) + kn))).toNatClampNeg ((bw).toInt32))) vG) H := by rw [← WR_F 50 (by decide) _ rfl]; exact hP
        have hD : va_D A (WR a k h0 (fT (fT vi 21 s3) 22 p3) vj (fT (fT vF 49 (upd (vF 49) ((nI ((9 * vn) + kn))).toNatClampNeg ((aw).toInt32))) 50 (upd (vF 50) ((nI ((9 * vn) + kn))).toNatClampNeg ((bw).toInt32))) vG) := by rw [← WR_F 50 (by decide) _ rfl]; exact hD
        refine W.widen (k := 0) (n := 0) (by decide +kernel) (by decide +kernel) ?_
        exact W.vret hx hb hr (fun t9_ ht hW => ⟨⟨(s3, p3, (upd (vF 49) ((nI ((9 * vn) + kn))).toNatClampNeg ((aw).toInt32)), (upd (vF 50) ((nI ((9 * vn) + kn))).toNatClampNeg ((bw).toInt32))), rfl, by (try dsimp only); (have h9 := hs3.resolve_left (fun h => h (by omega))); exact Or.inr ⟨by omega, h9.1, _, _, ⟨by rw [l2i_small ⟨h9.2.1, h9.2.2.1⟩]; omega, by rw [l2i_small ⟨h9.2.1, h9.2.2.1⟩]; omega, by rw [l2i_small (by omega)]; omega, by rw [l2i_small (by omega)]; omega⟩, rfl, rfl⟩, by rw [ht]; exact hP, hD⟩, hS.F ht⟩) hS.2.2 dX12_put1_131
      · have t_99 : ¬ (s3).toInt ≤ 0 := toI_nle c_99 rfl (by decide)
        refine W.widen (k := 0) (n := 0) (by decide +kernel) (by decide +kernel) ?_
        have e9 : fT (fT vF 49 (vF 49)) 50 (vF 50) = vF := (fT_id _ _ (fT_ne _ _ (Nat.ne_of_beq_eq_false rfl))).trans (fT_id _ _ (rfl))
        have hP : va_P (dC, dI) vwCl (WR a k h0 (fT (fT vi 21 s3) 22 p3) vj (fT (fT vF 49 (vF 49)) 50 (vF 50)) vG) H := by rw [e9]; exact hP
        have hD : va_D A (WR a k h0 (fT (fT vi 21 s3) 22 p3) vj (fT (fT vF 49 (vF 49)) 50 (vF 50)) vG) := by rw [e9]; exact hD
        clear e9
        exact W.vret hx hb hr (fun t9_ ht hW => ⟨⟨(s3, p3, (vF 49), (vF 50)), rfl, by (try dsimp only); exact Or.inl ⟨by omega, rfl, rfl⟩, by rw [ht]; exact hP, hD⟩, hS.F ht⟩) hS.2.2 dX12_put1_102

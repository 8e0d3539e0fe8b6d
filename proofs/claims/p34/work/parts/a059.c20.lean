theorem dX12_scaleOf_0 : decode cX12_scaleOf 0 = .ok (.aload_n 0, 1) := dk_42 (by decide +kernel)
theorem dX12_scaleOf_1 : decode cX12_scaleOf 1 = .ok (.bipush 19, 2) := dk_16 (by decide +kernel)
theorem dX12_scaleOf_3 : decode cX12_scaleOf 3 = .ok (.lconst 1, 1) := dk_10 (by decide +kernel)
theorem dX12_scaleOf_4 : decode cX12_scaleOf 4 = .ok (.invokevirtual 369, 3) := dk_182 (by decide +kernel)
theorem dX12_scaleOf_7 : decode cX12_scaleOf 7 = .ok (.iconst 0, 1) := dk_3 (by decide +kernel)
theorem dX12_scaleOf_8 : decode cX12_scaleOf 8 = .ok (.istore_n 2, 1) := dk_61 (by decide +kernel)
theorem dX12_scaleOf_9 : decode cX12_scaleOf 9 = .ok (.iload_n 2, 1) := dk_28 (by decide +kernel)
theorem dX12_scaleOf_10 : decode cX12_scaleOf 10 = .ok (.bipush 9, 2) := dk_16 (by decide +kernel)
theorem dX12_scaleOf_12 : decode cX12_scaleOf 12 = .ok (.if_icmp .ge 67, 3) := dk_162 (by decide +kernel)
theorem dX12_scaleOf_15 : decode cX12_scaleOf 15 = .ok (.aload_n 0, 1) := dk_42 (by decide +kernel)
theorem dX12_scaleOf_16 : decode cX12_scaleOf 16 = .ok (.bipush 11, 2) := dk_16 (by decide +kernel)
theorem dX12_scaleOf_18 : decode cX12_scaleOf 18 = .ok (.aload_n 0, 1) := dk_42 (by decide +kernel)
theorem dX12_scaleOf_19 : decode cX12_scaleOf 19 = .ok (.getfield 215, 3) := dk_180 (by decide +kernel)
theorem dX12_scaleOf_22 : decode cX12_scaleOf 22 = .ok (.bipush 9, 2) := dk_16 (by decide +kernel)
theorem dX12_scaleOf_24 : decode cX12_scaleOf 24 = .ok (.iload_n 1, 1) := dk_27 (by decide +kernel)
theorem dX12_scaleOf_25 : decode cX12_scaleOf 25 = .ok (.imul, 1) := dk_104 (by decide +kernel)
theorem dX12_scaleOf_26 : decode cX12_scaleOf 26 = .ok (.iload_n 2, 1) := dk_28 (by decide +kernel)
theorem dX12_scaleOf_27 : decode cX12_scaleOf 27 = .ok (.iadd, 1) := dk_96 (by decide +kernel)
theorem dX12_scaleOf_28 : decode cX12_scaleOf 28 = .ok (.iaload, 1) := dk_46 (by decide +kernel)
theorem dX12_scaleOf_29 : decode cX12_scaleOf 29 = .ok (.i2l, 1) := dk_133 (by decide +kernel)
theorem dX12_scaleOf_30 : decode cX12_scaleOf 30 = .ok (.invokevirtual 369, 3) := dk_182 (by decide +kernel)
theorem dX12_scaleOf_33 : decode cX12_scaleOf 33 = .ok (.aload_n 0, 1) := dk_42 (by decide +kernel)
theorem dX12_scaleOf_34 : decode cX12_scaleOf 34 = .ok (.bipush 12, 2) := dk_16 (by decide +kernel)
theorem dX12_scaleOf_36 : decode cX12_scaleOf 36 = .ok (.bipush 19, 2) := dk_16 (by decide +kernel)
theorem dX12_scaleOf_38 : decode cX12_scaleOf 38 = .ok (.bipush 11, 2) := dk_16 (by decide +kernel)
theorem dX12_scaleOf_40 : decode cX12_scaleOf 40 = .ok (.invokevirtual 387, 3) := dk_182 (by decide +kernel)
theorem dX12_scaleOf_43 : decode cX12_scaleOf 43 = .ok (.aload_n 0, 1) := dk_42 (by decide +kernel)
theorem dX12_scaleOf_44 : decode cX12_scaleOf 44 = .ok (.bipush 13, 2) := dk_16 (by decide +kernel)
theorem dX12_scaleOf_46 : decode cX12_scaleOf 46 = .ok (.bipush 14, 2) := dk_16 (by decide +kernel)
theorem dX12_scaleOf_48 : decode cX12_scaleOf 48 = .ok (.bipush 11, 2) := dk_16 (by decide +kernel)
theorem dX12_scaleOf_50 : decode cX12_scaleOf 50 = .ok (.bipush 12, 2) := dk_16 (by decide +kernel)
theorem dX12_scaleOf_52 : decode cX12_scaleOf 52 = .ok (.invokevirtual 383, 3) := dk_182 (by decide +kernel)
theorem dX12_scaleOf_55 : decode cX12_scaleOf 55 = .ok (.aload_n 0, 1) := dk_42 (by decide +kernel)
theorem dX12_scaleOf_56 : decode cX12_scaleOf 56 = .ok (.bipush 15, 2) := dk_16 (by decide +kernel)
theorem dX12_scaleOf_58 : decode cX12_scaleOf 58 = .ok (.bipush 19, 2) := dk_16 (by decide +kernel)
theorem dX12_scaleOf_60 : decode cX12_scaleOf 60 = .ok (.bipush 13, 2) := dk_16 (by decide +kernel)
theorem dX12_scaleOf_62 : decode cX12_scaleOf 62 = .ok (.invokevirtual 390, 3) := dk_182 (by decide +kernel)
theorem dX12_scaleOf_65 : decode cX12_scaleOf 65 = .ok (.aload_n 0, 1) := dk_42 (by decide +kernel)
theorem dX12_scaleOf_66 : decode cX12_scaleOf 66 = .ok (.bipush 19, 2) := dk_16 (by decide +kernel)
theorem dX12_scaleOf_68 : decode cX12_scaleOf 68 = .ok (.bipush 15, 2) := dk_16 (by decide +kernel)
theorem dX12_scaleOf_70 : decode cX12_scaleOf 70 = .ok (.invokevirtual 365, 3) := dk_182 (by decide +kernel)
theorem dX12_scaleOf_73 : decode cX12_scaleOf 73 = .ok (.iinc 2 1, 3) := dk_132 (by decide +kernel)
theorem dX12_scaleOf_76 : decode cX12_scaleOf 76 = .ok (.goto (-67), 3) := dk_167 (by decide +kernel)
theorem dX12_scaleOf_79 : decode cX12_scaleOf 79 = .ok (.return_, 1) := dk_177 (by decide +kernel)
def wsRX12_scaleOf : List Cond := .code yX12_scaleOf cX12_scaleOf 3 none :: ([.fieldLink RX12 215 "OptimaWorksModel" "goalUnder" "[I"] ++ wsX120 ++ (wsV RX12 369 RX12 yX12_put wsRX12_put) ++ (wsV RX12 387 RX12 yX12_common wsRX12_common) ++ (wsV RX12 383 RX12 yX12_divide wsRX12_divide) ++ (wsV RX12 390 RX12 yX12_times wsRX12_times) ++ (wsV RX12 365 RX12 yX12_copy wsRX12_copy))
theorem iwsRX12_scaleOf_in12 : ∀ w ∈ wsX120, w ∈ wsRX12_scaleOf := fun _ h => List.mem_cons_of_mem _ (List.mem_append_left _ (List.mem_append_left _ (List.mem_append_left _ (List.mem_append_left _ (List.mem_append_left _ (List.mem_append_right _ h))))))
theorem gwsRX12_scaleOf_0 : GoodIn wsRX12_scaleOf (wsV RX12 369 RX12 yX12_put wsRX12_put) := goodIn_sub (fun _ h => List.mem_cons_of_mem _ (List.mem_append_left _ (List.mem_append_left _ (List.mem_append_left _ (List.mem_append_left _ (List.mem_append_right _ h)))))) (gdV (by decide +kernel) gdwsRX12_put)
theorem gwsRX12_scaleOf_1 : GoodIn wsRX12_scaleOf (wsV RX12 387 RX12 yX12_common wsRX12_common) := goodIn_sub (fun _ h => List.mem_cons_of_mem _ (List.mem_append_left _ (List.mem_append_left _ (List.mem_append_left _ (List.mem_append_right _ h))))) (gdV (by decide +kernel) gdwsRX12_common)
theorem gwsRX12_scaleOf_2 : GoodIn wsRX12_scaleOf (wsV RX12 383 RX12 yX12_divide wsRX12_divide) := goodIn_sub (fun _ h => List.mem_cons_of_mem _ (List.mem_append_left _ (List.mem_append_left _ (List.mem_append_right _ h)))) (gdV (by decide +kernel) gdwsRX12_divide)
theorem gwsRX12_scaleOf_3 : GoodIn wsRX12_scaleOf (wsV RX12 390 RX12 yX12_times wsRX12_times) := goodIn_sub (fun _ h => List.mem_cons_of_mem _ (List.mem_append_left _ (List.mem_append_right _ h))) (gdV (by decide +kernel) gdwsRX12_times)
theorem gwsRX12_scaleOf_4 : GoodIn wsRX12_scaleOf (wsV RX12 365 RX12 yX12_copy wsRX12_copy) := goodIn_sub (fun _ h => List.mem_cons_of_mem _ (List.mem_append_right _ h)) (gdV (by decide +kernel) gdwsRX12_copy)
theorem gdwsRX12_scaleOf : wsRX12_scaleOf.all goodWord = true := gdC rfl (gdA (gdA (gdA (gdA (gdA (gdA (by decide +kernel : ([.fieldLink RX12 215 "OptimaWorksModel" "goalUnder" "[I"] : List Cond).all goodWord = true) gdwsX120) (gdV (by decide +kernel) gdwsRX12_put)) (gdV (by decide +kernel) gdwsRX12_common)) (gdV (by decide +kernel) gdwsRX12_divide)) (gdV (by decide +kernel) gdwsRX12_times)) (gdV (by decide +kernel) gdwsRX12_copy))
set_option maxHeartbeats 4000000 in
set_option maxRecDepth 100000 in
/-- scaleOf(g) -/
theorem r_X12_scaleOf (l : Launch) (dC : Nat → ClassId) (dI : Nat → Nat → Nat) (a : Nat → Nat) (k : Nat → ClassId) (h0 : Nat) (vi : Nat → Int32) (vj : Nat → Int64) (vF : Nat → Nat → Int32) (vG : Nat → Nat → Int64) (gn : Nat) (gq : Nat) (mg : Nat → Int) (hBg : Bg (vF 0) mg) (hgn : gn < gq) (hgq : gq ≤ 3) (hM : MdlB vF gq) (sz : Nat) : Met l yX12_scaleOf wsRX12_scaleOf ({ frames := 3, cells := 0, slots := 0, locals := 85 }) (va_Pc [.ref h0, .int (nI gn)] (fun U => U.heap.size = sz ∧ va_P (dC, dI) vwCl (WR a k h0 vi vj vF vG) U.heap ∧ va_K (dC, dI) vwCl (tX12 k) U ∧ va_D (fun _ => True) (WR a k h0 vi vj vF vG))) (va_Qv (fun (u : (Nat → Int32) × (Nat → Int32) × (Nat → Int32) × (Nat → Int64) × (Nat → Int)) => (Bg (u.1) (u.2.2.2.2)) ∧ (0 < (u.2.2.2.2) 19) ∧ (((u.2.2.2.2) 19).natAbs < 2 ^ 67) ∧ (∀ q, (q < 5 ∨ 19 < q) → (u.2.2.2.2) q = mg q)) (fun (u : (Nat → Int32) × (Nat → Int32) × (Nat → Int32) × (Nat → Int64) × (Nat → Int)) t => va_P (dC, dI) vwCl (WR a k h0 vi vj (fT (fT (fT vF 0 (u.1)) 2 (u.2.1)) 3 (u.2.2.1)) (fT vG 1 (u.2.2.2.1))) t.heap ∧ va_D (va_A (WR a k h0 vi vj vF vG) sz) (WR a k h0 vi vj (fT (fT (fT vF 0 (u.1)) 2 (u.2.1)) 3 (u.2.2.1)) (fT vG 1 (u.2.2.2.1)))) (va_A (WR a k h0 vi vj vF vG) sz)) 0 0 (va_A (WR a k h0 vi vj vF vG) sz) := by
  refine Met.ofW (cc := cX12_scaleOf) (maxL := 3) (ret := none) (by decide) rfl ?_
  intro p e s m args below meth c s₁ B hml hv
  obtain ⟨rfl, hsz, hP, hK, hD0⟩ := hv
  have hx := B.exec
  have hb := B.bytes
  have hr := B.returns
  have hts := atoms_spec (ws := wsRX12_scaleOf) B.pre
  have hown : s.vm.findClass RX12 = some m.cls := findClass_of_methodNamed B.named
  have hlocks := B.notSynchronized
  subst hsz
  have hD := hD0.self (sz := s.heap.size)
  generalize hAe : va_A (WR a k h0 vi vj vF vG) s.heap.size = A at hD ⊢
  have hA : ∀ q : Nat, s.heap.size ≤ q → A q := fun q h => by rw [← hAe]; exact Or.inr h
  have hS : va_S A s.heap s.heap [] := va_S.rf
  have hl := lv_entry ([.ref h0, .int (nI gn)]) (n := 3) (Nat.le_of_ble_eq_true rfl)
  rw [lg_entry_eq]
  generalize (lg_sl ([.ref h0, .int (nI gn)]) ++ List.replicate (3 - (lg_sl ([.ref h0, .int (nI gn)])).length) Slot.unset).toArray = ls at hl ⊢
  have hl : lv_has ls 3 [(0, .ref h0), (1, .int (nI gn))] := hl
  refine lv_aload_n hx hb dX12_scaleOf_0 rfl (lv_at hl 0 rfl) ?_
  refine lv_bipush (v := 19) hx hb dX12_scaleOf_1 (by decide) ?_
  refine lv_lconst (v := 1) hx hb dX12_scaleOf_3 (by decide) ?_
  have hFc := allFree hD hS hA
  refine va_callv (va_runV (As := [.int 19, .long 1]) (rest := []) ⟨hx, hb, hml, hown, hts⟩ (b_X12_put l dC dI a k h0 vi vj vF vG 19 1 1 mg hBg (by first | assumption | decide | omega | rfl) (by decide) (by first | assumption | decide | omega | rfl) s.heap.size) (cwV 2 hts gwsRX12_scaleOf_0 rfl rfl rfl (by decide +kernel) ⟨by decide +kernel, by decide +kernel⟩) ⟨fun a U g mk q => by obtain ⟨q0, q1, qP, qK, qD⟩ := q; exact ⟨q0, q1, qP, va_K.moved (u := U) (U := U.calling g mk a) (Vm.Alike.refl U.vm) qK, qD⟩, va_recv hK hP (ci := 12) (q0 := 0) rfl rfl, fun U hU9 hW => ⟨rfl, by rw [hU9], by rw [hU9]; exact hP, va_K.moved hW.alike hK, hD.weaken (fun _ _ _ _ => trivial)⟩⟩ rfl rfl hl.1 rfl (lv_room (Nat.le_of_ble_eq_true rfl)) dX12_scaleOf_4 ⟨by decide +kernel, by decide +kernel⟩) hS (fun q _ h => hFc q h) hFc (fun u t9_ H1 locs ht hvm hw9 hB9 hz1 hk1 hS => ?_)
  obtain ⟨g4, hwit4⟩ : ∃ w9, w9 = u := ⟨u, rfl⟩
  subst hwit4
  obtain ⟨hP1, hD1⟩ := hB9
  rw [ht] at hP1
  have hP := hP1
  have hD := hD1.weaken (fun _ q _ h => hFc q.1 h)
  generalize H1 = H at hP hS ⊢
  have hP : va_P (dC, dI) vwCl (WR a k h0 vi vj (fT vF 0 g4) vG) H := hP
  have hD : va_D A (WR a k h0 vi vj (fT vF 0 g4) vG) := hD
  have f4_0 := hw9
  try dsimp only at f4_0
  refine lv_iconst (v := 0) hx hb dX12_scaleOf_7 (by decide) ?_
  refine lv_istore_n hx hb dX12_scaleOf_8 rfl hl (by decide) rfl (fun ls (hl : lv_has ls _ ([(2, .int 0), (0, .ref h0), (1, .int (nI gn))])) => ?_)
  have e9 : fT (fT (fT vF 0 g4) 2 (vF 2)) 3 (vF 3) = fT vF 0 g4 := by funext q9; by_cases h9_0 : q9 = 0; (subst h9_0; exact ((fT_ne _ _ (Nat.ne_of_beq_eq_false rfl)).trans ((fT_ne _ _ (Nat.ne_of_beq_eq_false rfl)).trans (fT_eq _ _ _))).trans (Eq.trans (by first | rfl | assumption | (symm; assumption) | (subst_vars; rfl)) (fT_eq _ _ _).symm)); by_cases h9_2 : q9 = 2; (subst h9_2; exact ((fT_ne _ _ (Nat.ne_of_beq_eq_false rfl)).trans (fT_eq _ _ _)).trans (Eq.trans (by first | rfl | assumption | (symm; assumption) | (subst_vars; rfl)) (fT_ne _ _ (Nat.ne_of_beq_eq_false rfl)).symm)); by_cases h9_3 : q9 = 3; (subst h9_3; exact (fT_eq _ _ _).trans (Eq.trans (by first | rfl | assumption | (symm; assumption) | (subst_vars; rfl)) (fT_ne _ _ (Nat.ne_of_beq_eq_false rfl)).symm)); exact ((fT_ne _ _ h9_3).trans ((fT_ne _ _ h9_2).trans (fT_ne _ _ h9_0))).trans (fT_ne _ _ h9_0).symm
  have hP : va_P (dC, dI) vwCl (WR a k h0 vi vj (fT (fT (fT vF 0 g4) 2 (vF 2)) 3 (vF 3)) vG) H := by rw [e9]; exact hP
  have hD : va_D A (WR a k h0 vi vj (fT (fT (fT vF 0 g4) 2 (vF 2)) 3 (vF 3)) vG) := by rw [e9]; exact hD
  clear e9
  have e9 : fT vG 1 (vG 1) = vG := by funext q9; by_cases h9_1 : q9 = 1; (subst h9_1; exact (fT_eq _ _ _).trans (Eq.trans (by first | rfl | assumption | (symm; assumption) | (subst_vars; rfl)) (Eq.refl _).symm)); exact (fT_ne _ _ h9_1).trans (Eq.refl _).symm
  have hP : va_P (dC, dI) vwCl (WR a k h0 vi vj (fT (fT (fT vF 0 g4) 2 (vF 2)) 3 (vF 3)) (fT vG 1 (vG 1))) H := by rw [e9]; exact hP
  have hD : va_D A (WR a k h0 vi vj (fT (fT (fT vF 0 g4) 2 (vF 2)) 3 (vF 3)) (fT vG 1 (vG 1))) := by rw [e9]; exact hD
  clear e9
  have hl : lv_has _ _ ([(0, .ref h0), (1, .int (nI gn)), (2, .int (nI 0))]) := lv_sub hl [1, 2, 0] rfl
  refine (fun (loop : ∀ (n9 : Nat) (k5 : Nat) (g1 : Nat → Int32) (f21 : Nat → Int32) (f31 : Nat → Int32) (gs1 : Nat → Int64) (m1 : Nat → Int) (x19 : Int) (H : Heap) (locs : List Loc) (ls : Array Slot), (Bg g1 m1) → (m1 19 = x19) → (k5 ≤ 9) → (0 < x19) → (x19.natAbs ≤ scB k5) → (∀ q, (q < 5 ∨ 19 < q) → m1 q = mg q) →  (9 < k5 + n9) → va_P (dC, dI) vwCl (WR a k h0 vi vj (fT (fT (fT vF 0 g1) 2 f21) 3 f31) (fT vG 1 gs1)) H → va_D A (WR a k h0 vi vj (fT (fT (fT vF 0 g1) 2 f21) 3 f31) (fT vG 1 gs1)) → va_S A s.heap H locs → lv_has ls 3 [(0, .ref h0), (1, .int (nI gn)), (2, .int (nI k5))] → W p l e _ s m _ below meth c H locs 0 0 _ (F0 m 9 ls [])) => loop (10) 0 g4 (vF 2) (vF 3) (vG 1) (fT mg 19 1) 1 _ _ _ (f4_0) ((by rw [fT_eq])) (by omega) (by decide) (by decide) (fun q hq => by (rw [fT_ne _ _ (by omega)])) (by omega) hP hD hS hl) ?_
  intro n9
  induction n9 with
  | zero => intro k5 g1 f21 f31 gs1 m1 x19 H locs ls hB1 v_x19 hk5 hx19p hx19b ho hf9; exact False.elim (by omega)
  | succ n9 ih9 =>
    intro k5 g1 f21 f31 gs1 m1 x19 H locs ls hB1 v_x19 hk5 hx19p hx19b ho hf9 hP hD hS hl
    refine lv_iload_n hx hb dX12_scaleOf_9 rfl (lv_at hl 2 rfl) ?_
    refine lv_bipush (v := 9) hx hb dX12_scaleOf_10 (by decide) ?_
    refine lv_icmp_ge (tgt := 79) hx hb dX12_scaleOf_12 (by decide) (fun c_12 => ?_) (fun c_12 => ?_)
    · have t_12 : ((k5 : Nat) : Int) ≥ 9 := toI_ge c_12 (nI_toInt (by omega)) (by decide)
      refine W.widen (k := 0) (n := 0) (by decide +kernel) (by decide +kernel) ?_
      exact W.vret hx hb hr (fun t9_ ht hW => ⟨⟨(g1, f21, f31, gs1, m1), rfl, by (try dsimp only); exact ⟨hB1, by rw [v_x19]; exact hx19p, by rw [v_x19]; exact Nat.lt_of_le_of_lt hx19b (scB_mono hk5), ho⟩, by rw [ht]; exact hP, hD⟩, hS.F ht⟩) hS.2.2 dX12_scaleOf_79
    · have t_12 : ¬ ((k5 : Nat) : Int) ≥ 9 := toI_nge c_12 (nI_toInt (by omega)) (by decide)
      have hu := hM.under hgn (show k5 < 9 by omega)
      have hgp := gcd_pos (x := x19) (y := (vF 64 (9 * gn + k5)).toInt) (by omega)
      have hgl := gcd_le (x := x19) (y := (vF 64 (9 * gn + k5)).toInt) (by omega)
      have hu9 : (vF 64 (9 * gn + k5)).toInt.natAbs ≤ 9999 := by (have h9 := hu.2); split at h9 <;> omega
      refine lv_aload_n hx hb dX12_scaleOf_15 rfl (lv_at hl 0 rfl) ?_
      refine lv_bipush (v := 11) hx hb dX12_scaleOf_16 (by decide) ?_
      refine lv_aload_n hx hb dX12_scaleOf_18 rfl (lv_at hl 0 rfl) ?_
      refine va_get (D := (dC, dI)) (ci := 12) (v := .ref (a 64)) (C := RX12) (T := TX12) (N := 163) (fs := fM (vS a vi vj)) hx hb hts iwsRX12_scaleOf_in12 hown hK hP 0 rfl rfl 104 (by decide) (hts (.fieldLink RX12 215 "OptimaWorksModel" "goalUnder" "[I") (by decide +kernel)) (fun _ h9 => h9) rfl dX12_scaleOf_19 ?_
      refine lv_bipush (v := 9) hx hb dX12_scaleOf_22 (by decide) ?_
      refine lv_iload_n hx hb dX12_scaleOf_24 rfl (lv_at hl 1 rfl) ?_
      refine lv_imul hx hb dX12_scaleOf_25 ?_
      refine lv_topi (fun y1 hy1 => ?_)
      obtain rfl : (nI (9 * gn)) = y1 := (hy1.trans (pk_mul 9 gn)).symm
      refine lv_iload_n hx hb dX12_scaleOf_26 rfl (lv_at hl 2 rfl) ?_
      refine lv_iadd hx hb dX12_scaleOf_27 ?_
      refine lv_topi (fun y2 hy2 => ?_)
      obtain rfl : (nI ((9 * gn) + k5)) = y2 := (hy2.trans (nI_add (9 * gn) k5)).symm
      refine va_iald (cA := k 64) (n := 27) (f := (vF 64)) hx hb hK hP 65 64 (WR_get 64 (by decide)) (TR_get 64 (by decide)) (vp_in_nI (show ((9 * gn) + k5) < 27 by omega) (by omega)) dX12_scaleOf_28 ?_
      refine lv_topi (fun y3 hy3 => ?_)
      obtain rfl : ((vF 64) ((9 * gn) + k5)) = y3 := (hy3.trans (by rw [nI_clamp (by omega)])).symm
      refine lv_i2l hx hb dX12_scaleOf_29 rfl ?_
      have hFc := allFree hD hS hA
      refine va_callv (va_runV (As := [.int 11, .long (((vF 64) ((9 * gn) + k5))).toInt64]) (rest := []) ⟨hx, hb, hml, hown, hts⟩ (b_X12_put l dC dI a k h0 vi vj (fT (fT (fT vF 0 g1) 2 f21) 3 f31) (fT vG 1 gs1) 11 ((((vF 64) ((9 * gn) + k5))).toInt64) ((vF 64 (9 * gn + k5)).toInt) m1 hB1 (by first | assumption | decide | omega | rfl) (i64T _) (by omega) H.size) (cwV 2 hts gwsRX12_scaleOf_0 rfl rfl rfl (by decide +kernel) ⟨by decide +kernel, by decide +kernel⟩) ⟨fun a U g mk q => by obtain ⟨q0, q1, qP, qK, qD⟩ := q; exact ⟨q0, q1, qP, va_K.moved (u := U) (U := U.calling g mk a) (Vm.Alike.refl U.vm) qK, qD⟩, va_recv hK hP (ci := 12) (q0 := 0) rfl rfl, fun U hU9 hW => ⟨rfl, by rw [hU9], by rw [hU9]; exact hP, va_K.moved hW.alike hK, hD.weaken (fun _ _ _ _ => trivial)⟩⟩ rfl rfl hl.1 rfl (lv_room (Nat.le_of_ble_eq_true rfl)) dX12_scaleOf_30 ⟨by decide +kernel, by decide +kernel⟩) hS (fun q _ h => hFc q h) hFc (fun u t9_ H1 locs ht hvm hw9 hB9 hz1 hk1 hS => ?_)
      obtain ⟨g30, hwit30⟩ : ∃ w9, w9 = u := ⟨u, rfl⟩
      subst hwit30
      obtain ⟨hP1, hD1⟩ := hB9
      rw [ht] at hP1
      have hP := hP1
      have hD := hD1.weaken (fun _ q _ h => hFc q.1 h)
      generalize H1 = H at hP hS ⊢
      have hP : va_P (dC, dI) vwCl (WR a k h0 vi vj (fT (fT (fT (fT vF 0 g1) 2 f21) 3 f31) 0 g30) (fT vG 1 gs1)) H := hP
      have hD : va_D A (WR a k h0 vi vj (fT (fT (fT (fT vF 0 g1) 2 f21) 3 f31) 0 g30) (fT vG 1 gs1)) := hD
      have e9 : fT (fT (fT vF 0 g30) 2 f21) 3 f31 = fT (fT (fT (fT vF 0 g1) 2 f21) 3 f31) 0 g30 := ((fT_sw _ _ _ (Nat.ne_of_beq_eq_false rfl)).trans (congrArg (fun g9 => fT g9 3 f31) ((fT_sw _ _ _ (Nat.ne_of_beq_eq_false rfl)).trans (congrArg (fun g9 => fT g9 2 f21) (fT_sm _ _ _ _))))).symm
      rw [← e9] at hP hD
      clear e9
      have hP : va_P (dC, dI) vwCl (WR a k h0 vi vj (fT (fT (fT vF 0 g30) 2 f21) 3 f31) (fT vG 1 gs1)) H := hP
      have hD : va_D A (WR a k h0 vi vj (fT (fT (fT vF 0 g30) 2 f21) 3 f31) (fT vG 1 gs1)) := hD
      have f30_0 := hw9
      try dsimp only at f30_0
      refine lv_aload_n hx hb dX12_scaleOf_33 rfl (lv_at hl 0 rfl) ?_
      refine lv_bipush (v := 12) hx hb dX12_scaleOf_34 (by decide) ?_
      refine lv_bipush (v := 19) hx hb dX12_scaleOf_36 (by decide) ?_
      refine lv_bipush (v := 11) hx hb dX12_scaleOf_38 (by decide) ?_
      have hFc := allFree hD hS hA
      refine va_callv (va_runV (As := [.int 12, .int 19, .int 11]) (rest := []) ⟨hx, hb, hml, hown, hts⟩ (r_X12_common l dC dI a k h0 vi vj (fT (fT (fT vF 0 g30) 2 f21) 3 f31) (fT vG 1 gs1) 12 19 11 (fT m1 11 ((vF 64 (9 * gn + k5)).toInt)) f30_0 x19 ((vF 64 (9 * gn + k5)).toInt) (by rw [fT_ne _ _ (by omega), v_x19]) (by rw [fT_eq]) (by first | assumption | decide | omega | rfl) (by first | assumption | decide | omega | rfl) (by first | assumption | decide | omega | rfl) (by first | assumption | decide | omega | rfl) (by first | assumption | decide | omega | rfl) (by first | assumption | decide | omega | rfl) H.size) (cwV 3 hts gwsRX12_scaleOf_1 rfl rfl rfl (by decide +kernel) ⟨by decide +kernel, by decide +kernel⟩) ⟨fun a U g mk q => by obtain ⟨q0, q1, qP, qK, qD⟩ := q; exact ⟨q0, q1, qP, va_K.moved (u := U) (U := U.calling g mk a) (Vm.Alike.refl U.vm) qK, qD⟩, va_recv hK hP (ci := 12) (q0 := 0) rfl rfl, fun U hU9 hW => ⟨rfl, by rw [hU9], by rw [hU9]; exact hP, va_K.moved hW.alike hK, hD.weaken (fun _ _ _ _ => trivial)⟩⟩ rfl rfl hl.1 rfl (lv_room (Nat.le_of_ble_eq_true rfl)) dX12_scaleOf_40 ⟨by decide +kernel, by decide +kernel⟩) hS (fun q _ h => hFc q h) hFc (fun u t9_ H1 locs ht hvm hw9 hB9 hz1 hk1 hS => ?_)
      obtain ⟨g40, f2w40, f3w40, gs40, m240⟩ := u
      try dsimp only at hw9 hB9
      obtain ⟨hP1, hD1⟩ := hB9
      rw [ht] at hP1
      have hP := hP1
      have hD := hD1.weaken (fun _ q _ h => hFc q.1 h)
      generalize H1 = H at hP hS ⊢
      have hP : va_P (dC, dI) vwCl (WR a k h0 vi vj (fT (fT (fT (fT (fT (fT vF 0 g30) 2 f21) 3 f31) 0 g40) 2 f2w40) 3 f3w40) (fT (fT vG 1 gs1) 1 gs40)) H := hP
      have hD : va_D A (WR a k h0 vi vj (fT (fT (fT (fT (fT (fT vF 0 g30) 2 f21) 3 f31) 0 g40) 2 f2w40) 3 f3w40) (fT (fT vG 1 gs1) 1 gs40)) := hD
      have e9 : fT (fT (fT vF 0 g40) 2 f2w40) 3 f3w40 = fT (fT (fT (fT (fT (fT vF 0 g30) 2 f21) 3 f31) 0 g40) 2 f2w40) 3 f3w40 := ((congrArg (fun g9 => fT (fT g9 2 f2w40) 3 f3w40) ((fT_sw _ _ _ (Nat.ne_of_beq_eq_false rfl)).trans (congrArg (fun g9 => fT g9 3 f31) ((fT_sw _ _ _ (Nat.ne_of_beq_eq_false rfl)).trans (congrArg (fun g9 => fT g9 2 f21) (fT_sm _ _ _ _)))))).trans ((congrArg (fun g9 => fT g9 3 f3w40) ((fT_sw _ _ _ (Nat.ne_of_beq_eq_false rfl)).trans (congrArg (fun g9 => fT g9 3 f31) (fT_sm _ _ _ _)))).trans (fT_sm _ _ _ _))).symm
      rw [← e9] at hP hD
      clear e9
      have e9 : fT vG 1 gs40 = fT (fT vG 1 gs1) 1 gs40 := (fT_sm _ _ _ _).symm
      rw [← e9] at hP hD
      clear e9
      have hP : va_P (dC, dI) vwCl (WR a k h0 vi vj (fT (fT (fT vF 0 g40) 2 f2w40) 3 f3w40) (fT vG 1 gs40)) H := hP
      have hD : va_D A (WR a k h0 vi vj (fT (fT (fT vF 0 g40) 2 f2w40) 3 f3w40) (fT vG 1 gs40)) := hD
      obtain ⟨f40_0, f40_1, f40_2⟩ := hw9
      refine lv_aload_n hx hb dX12_scaleOf_43 rfl (lv_at hl 0 rfl) ?_
      refine lv_bipush (v := 13) hx hb dX12_scaleOf_44 (by decide) ?_
      refine lv_bipush (v := 14) hx hb dX12_scaleOf_46 (by decide) ?_
      refine lv_bipush (v := 11) hx hb dX12_scaleOf_48 (by decide) ?_
      refine lv_bipush (v := 12) hx hb dX12_scaleOf_50 (by decide) ?_
      have hFc := allFree hD hS hA
      refine va_callv (va_runV (As := [.int 13, .int 14, .int 11, .int 12]) (rest := []) ⟨hx, hb, hml, hown, hts⟩ (b_X12_divide l dC dI a k h0 vi vj (fT (fT (fT vF 0 g40) 2 f2w40) 3 f3w40) (fT vG 1 gs40) 13 14 11 12 m240 f40_0 ((vF 64 (9 * gn + k5)).toInt) ((Int.gcd x19 ((vF 64 (9 * gn + k5)).toInt) : Nat) : Int) (by rw [f40_2 _ (by omega) (by omega), fT_eq]) (by rw [f40_1]) (by first | assumption | decide | omega | rfl) (by first | assumption | decide | omega | rfl) (by first | assumption | decide | omega | rfl) (by first | assumption | decide | omega | rfl) (by first | assumption | decide | omega | rfl) (by first | assumption | decide | omega | rfl) (by omega) H.size) (cwV 4 hts gwsRX12_scaleOf_2 rfl rfl rfl (by decide +kernel) ⟨by decide +kernel, by decide +kernel⟩) ⟨fun a U g mk q => by obtain ⟨q0, q1, qP, qK, qD⟩ := q; exact ⟨q0, q1, qP, va_K.moved (u := U) (U := U.calling g mk a) (Vm.Alike.refl U.vm) qK, qD⟩, va_recv hK hP (ci := 12) (q0 := 0) rfl rfl, fun U hU9 hW => ⟨rfl, by rw [hU9], by rw [hU9]; exact hP, va_K.moved hW.alike hK, hD.weaken (fun _ _ _ _ => trivial)⟩⟩ rfl rfl hl.1 rfl (lv_room (Nat.le_of_ble_eq_true rfl)) dX12_scaleOf_52 ⟨by decide +kernel, by decide +kernel⟩) hS (fun q _ h => hFc q h) hFc (fun u t9_ H1 locs ht hvm hw9 hB9 hz1 hk1 hS => ?_)
      obtain ⟨g52, f2w52, f3w52, gs52⟩ := u
      try dsimp only at hw9 hB9
      obtain ⟨hP1, hD1⟩ := hB9
      rw [ht] at hP1
      have hP := hP1
      have hD := hD1.weaken (fun _ q _ h => hFc q.1 h)
      generalize H1 = H at hP hS ⊢
      have hP : va_P (dC, dI) vwCl (WR a k h0 vi vj (fT (fT (fT (fT (fT (fT vF 0 g40) 2 f2w40) 3 f3w40) 2 f2w52) 3 f3w52) 0 g52) (fT (fT vG 1 gs40) 1 gs52)) H := hP
      have hD : va_D A (WR a k h0 vi vj (fT (fT (fT (fT (fT (fT vF 0 g40) 2 f2w40) 3 f3w40) 2 f2w52) 3 f3w52) 0 g52) (fT (fT vG 1 gs40) 1 gs52)) := hD
      have e9 : fT (fT (fT vF 0 g52) 2 f2w52) 3 f3w52 = fT (fT (fT (fT (fT (fT vF 0 g40) 2 f2w40) 3 f3w40) 2 f2w52) 3 f3w52) 0 g52 := ((congrArg (fun g9 => fT (fT g9 3 f3w52) 0 g52) ((fT_sw _ _ _ (Nat.ne_of_beq_eq_false rfl)).trans (congrArg (fun g9 => fT g9 3 f3w40) (fT_sm _ _ _ _)))).trans ((congrArg (fun g9 => fT g9 0 g52) (fT_sm _ _ _ _)).trans ((fT_sw _ _ _ (Nat.ne_of_beq_eq_false rfl)).trans (congrArg (fun g9 => fT g9 3 f3w52) ((fT_sw _ _ _ (Nat.ne_of_beq_eq_false rfl)).trans (congrArg (fun g9 => fT g9 2 f2w52) (fT_sm _ _ _ _))))))).symm
      rw [← e9] at hP hD
      clear e9
      have e9 : fT vG 1 gs52 = fT (fT vG 1 gs40) 1 gs52 := (fT_sm _ _ _ _).symm
      rw [← e9] at hP hD
      clear e9
      have hP : va_P (dC, dI) vwCl (WR a k h0 vi vj (fT (fT (fT vF 0 g52) 2 f2w52) 3 f3w52) (fT vG 1 gs52)) H := hP
      have hD : va_D A (WR a k h0 vi vj (fT (fT (fT vF 0 g52) 2 f2w52) 3 f3w52) (fT vG 1 gs52)) := hD
      have f52_0 := hw9
      try dsimp only at f52_0
      refine lv_aload_n hx hb dX12_scaleOf_55 rfl (lv_at hl 0 rfl) ?_
      refine lv_bipush (v := 15) hx hb dX12_scaleOf_56 (by decide) ?_
      refine lv_bipush (v := 19) hx hb dX12_scaleOf_58 (by decide) ?_
      refine lv_bipush (v := 13) hx hb dX12_scaleOf_60 (by decide) ?_
      have hFc := allFree hD hS hA
      refine va_callv (va_runV (As := [.int 15, .int 19, .int 13]) (rest := []) ⟨hx, hb, hml, hown, hts⟩ (b_X12_times l dC dI a k h0 vi vj (fT (fT (fT vF 0 g52) 2 f2w52) 3 f3w52) (fT vG 1 gs52) 15 19 13 (fT (fT m240 13 ((((vF 64 (9 * gn + k5)).toInt)).tdiv ((Int.gcd x19 ((vF 64 (9 * gn + k5)).toInt) : Nat) : Int))) 14 ((((vF 64 (9 * gn + k5)).toInt)).tmod ((Int.gcd x19 ((vF 64 (9 * gn + k5)).toInt) : Nat) : Int))) f52_0 x19 ((((vF 64 (9 * gn + k5)).toInt)).tdiv ((Int.gcd x19 ((vF 64 (9 * gn + k5)).toInt) : Nat) : Int)) (by rw [fT_ne _ _ (by omega), fT_ne _ _ (by omega), f40_2 _ (by omega) (by omega), fT_ne _ _ (by omega), v_x19]) (by rw [fT_ne _ _ (by omega), fT_eq]) (by first | assumption | decide | omega | rfl) (by first | assumption | decide | omega | rfl) (by first | assumption | decide | omega | rfl) (sc_big (Nat.lt_of_le_of_lt hx19b (scB_mono (by omega))) (Nat.le_trans (sh_le _ _) hu9)) H.size) (cwV 3 hts gwsRX12_scaleOf_3 rfl rfl rfl (by decide +kernel) ⟨by decide +kernel, by decide +kernel⟩) ⟨fun a U g mk q => by obtain ⟨q0, q1, qP, qK, qD⟩ := q; exact ⟨q0, q1, qP, va_K.moved (u := U) (U := U.calling g mk a) (Vm.Alike.refl U.vm) qK, qD⟩, va_recv hK hP (ci := 12) (q0 := 0) rfl rfl, fun U hU9 hW => ⟨rfl, by rw [hU9], by rw [hU9]; exact hP, va_K.moved hW.alike hK, hD.weaken (fun _ _ _ _ => trivial)⟩⟩ rfl rfl hl.1 rfl (lv_room (Nat.le_of_ble_eq_true rfl)) dX12_scaleOf_62 ⟨by decide +kernel, by decide +kernel⟩) hS (fun q _ h => hFc q h) hFc (fun u t9_ H1 locs ht hvm hw9 hB9 hz1 hk1 hS => ?_)
      obtain ⟨g62, gs62⟩ := u
      try dsimp only at hw9 hB9
      obtain ⟨hP1, hD1⟩ := hB9
      rw [ht] at hP1
      have hP := hP1
      have hD := hD1.weaken (fun _ q _ h => hFc q.1 h)
      generalize H1 = H at hP hS ⊢
      have hP : va_P (dC, dI) vwCl (WR a k h0 vi vj (fT (fT (fT (fT vF 0 g52) 2 f2w52) 3 f3w52) 0 g62) (fT (fT vG 1 gs52) 1 gs62)) H := hP
      have hD : va_D A (WR a k h0 vi vj (fT (fT (fT (fT vF 0 g52) 2 f2w52) 3 f3w52) 0 g62) (fT (fT vG 1 gs52) 1 gs62)) := hD
      have e9 : fT (fT (fT vF 0 g62) 2 f2w52) 3 f3w52 = fT (fT (fT (fT vF 0 g52) 2 f2w52) 3 f3w52) 0 g62 := ((fT_sw _ _ _ (Nat.ne_of_beq_eq_false rfl)).trans (congrArg (fun g9 => fT g9 3 f3w52) ((fT_sw _ _ _ (Nat.ne_of_beq_eq_false rfl)).trans (congrArg (fun g9 => fT g9 2 f2w52) (fT_sm _ _ _ _))))).symm
      rw [← e9] at hP hD
      clear e9
      have e9 : fT vG 1 gs62 = fT (fT vG 1 gs52) 1 gs62 := (fT_sm _ _ _ _).symm
      rw [← e9] at hP hD
      clear e9
      have hP : va_P (dC, dI) vwCl (WR a k h0 vi vj (fT (fT (fT vF 0 g62) 2 f2w52) 3 f3w52) (fT vG 1 gs62)) H := hP
      have hD : va_D A (WR a k h0 vi vj (fT (fT (fT vF 0 g62) 2 f2w52) 3 f3w52) (fT vG 1 gs62)) := hD
      have f62_0 := hw9
      try dsimp only at f62_0
      refine lv_aload_n hx hb dX12_scaleOf_65 rfl (lv_at hl 0 rfl) ?_
      refine lv_bipush (v := 19) hx hb dX12_scaleOf_66 (by decide) ?_
      refine lv_bipush (v := 15) hx hb dX12_scaleOf_68 (by decide) ?_
      have hFc := allFree hD hS hA
      refine va_callv (va_runV (As := [.int 19, .int 15]) (rest := []) ⟨hx, hb, hml, hown, hts⟩ (b_X12_copy l dC dI a k h0 vi vj (fT (fT (fT vF 0 g62) 2 f2w52) 3 f3w52) (fT vG 1 gs62) 19 15 (fT (fT (fT m240 13 ((((vF 64 (9 * gn + k5)).toInt)).tdiv ((Int.gcd x19 ((vF 64 (9 * gn + k5)).toInt) : Nat) : Int))) 14 ((((vF 64 (9 * gn + k5)).toInt)).tmod ((Int.gcd x19 ((vF 64 (9 * gn + k5)).toInt) : Nat) : Int))) 15 (x19 * ((((vF 64 (9 * gn + k5)).toInt)).tdiv ((Int.gcd x19 ((vF 64 (9 * gn + k5)).toInt) : Nat) : Int)))) f62_0 (x19 * ((((vF 64 (9 * gn + k5)).toInt)).tdiv ((Int.gcd x19 ((vF 64 (9 * gn + k5)).toInt) : Nat) : Int))) (by rw [fT_eq]) (by first | assumption | decide | omega | rfl) (by first | assumption | decide | omega | rfl) (by first | assumption | decide | omega | rfl) H.size) (cwV 2 hts gwsRX12_scaleOf_4 rfl rfl rfl (by decide +kernel) ⟨by decide +kernel, by decide +kernel⟩) ⟨fun a U g mk q => by obtain ⟨q0, q1, qP, qK, qD⟩ := q; exact ⟨q0, q1, qP, va_K.moved (u := U) (U := U.calling g mk a) (Vm.Alike.refl U.vm) qK, qD⟩, va_recv hK hP (ci := 12) (q0 := 0) rfl rfl, fun U hU9 hW => ⟨rfl, by rw [hU9], by rw [hU9]; exact hP, va_K.moved hW.alike hK, hD.weaken (fun _ _ _ _ => trivial)⟩⟩ rfl rfl hl.1 rfl (lv_room (Nat.le_of_ble_eq_true rfl)) dX12_scaleOf_70 ⟨by decide +kernel, by decide +kernel⟩) hS (fun q _ h => hFc q h) hFc (fun u t9_ H1 locs ht hvm hw9 hB9 hz1 hk1 hS => ?_)
      obtain ⟨g70, hwit70⟩ : ∃ w9, w9 = u := ⟨u, rfl⟩
      subst hwit70
      obtain ⟨hP1, hD1⟩ := hB9
      rw [ht] at hP1
      have hP := hP1
      have hD := hD1.weaken (fun _ q _ h => hFc q.1 h)
      generalize H1 = H at hP hS ⊢
      have hP : va_P (dC, dI) vwCl (WR a k h0 vi vj (fT (fT (fT (fT vF 0 g62) 2 f2w52) 3 f3w52) 0 g70) (fT vG 1 gs62)) H := hP
      have hD : va_D A (WR a k h0 vi vj (fT (fT (fT (fT vF 0 g62) 2 f2w52) 3 f3w52) 0 g70) (fT vG 1 gs62)) := hD
      have e9 : fT (fT (fT vF 0 g70) 2 f2w52) 3 f3w52 = fT (fT (fT (fT vF 0 g62) 2 f2w52) 3 f3w52) 0 g70 := ((fT_sw _ _ _ (Nat.ne_of_beq_eq_false rfl)).trans (congrArg (fun g9 => fT g9 3 f3w52) ((fT_sw _ _ _ (Nat.ne_of_beq_eq_false rfl)).trans (congrArg (fun g9 => fT g9 2 f2w52) (fT_sm _ _ _ _))))).symm
      rw [← e9] at hP hD
      clear e9
      have hP : va_P (dC, dI) vwCl (WR a k h0 vi vj (fT (fT (fT vF 0 g70) 2 f2w52) 3 f3w52) (fT vG 1 gs62)) H := hP
      have hD : va_D A (WR a k h0 vi vj (fT (fT (fT vF 0 g70) 2 f2w52) 3 f3w52) (fT vG 1 gs62)) := hD
      have f70_0 := hw9
      try dsimp only at f70_0
      refine lv_iinc (v := (nI (k5 + 1))) hx hb dX12_scaleOf_73 hl (k := 2) rfl (nI_add k5 1) (by decide) rfl (fun ls (hl : lv_has ls _ ([(2, .int (nI (k5 + 1))), (0, .ref h0), (1, .int (nI gn))])) => ?_)
      refine lv_goto (tgt := 9) hx hb dX12_scaleOf_76 (by decide) ?_
      have hl : lv_has _ _ ([(0, .ref h0), (1, .int (nI gn)), (2, .int (nI (k5 + 1)))]) := lv_sub hl [1, 2, 0] rfl
      exact ih9 (k5 + 1) g70 f2w52 f3w52 gs62 (fT (fT (fT (fT m240 13 ((((vF 64 (9 * gn + k5)).toInt)).tdiv ((Int.gcd x19 ((vF 64 (9 * gn + k5)).toInt) : Nat) : Int))) 14 ((((vF 64 (9 * gn + k5)).toInt)).tmod ((Int.gcd x19 ((vF 64 (9 * gn + k5)).toInt) : Nat) : Int))) 15 (x19 * ((((vF 64 (9 * gn + k5)).toInt)).tdiv ((Int.gcd x19 ((vF 64 (9 * gn + k5)).toInt) : Nat) : Int)))) 19 (x19 * ((((vF 64 (9 * gn + k5)).toInt)).tdiv ((Int.gcd x19 ((vF 64 (9 * gn + k5)).toInt) : Nat) : Int)))) (x19 * ((((vF 64 (9 * gn + k5)).toInt)).tdiv ((Int.gcd x19 ((vF 64 (9 * gn + k5)).toInt) : Nat) : Int))) _ _ _ (f70_0) ((by rw [fT_eq])) (by omega) (Int.mul_pos hx19p (tdiv_pos (by omega) hgp hgl)) (by rw [Int.natAbs_mul]; exact scB_step hx19b (Nat.le_trans (sh_le _ _) hu.2)) (fun q hq => by (rw [fT_ne _ _ (by omega), fT_ne _ _ (by omega), fT_ne _ _ (by omega), fT_ne _ _ (by omega), f40_2 _ (by omega) (by omega), fT_ne _ _ (by omega)]); exact ho q hq) (by omega) hP hD hS hl
theorem dX12_goalNumber_0 : decode cX12_goalNumber 0 = .ok (.aload_n 0, 1) := dk_42 (by decide +kernel)
theorem dX12_goalNumber_1 : decode cX12_goalNumber 1 = .ok (.bipush 10, 2) := dk_16 (by decide +kernel)
theorem dX12_goalNumber_3 : decode cX12_goalNumber 3 = .ok (.aload_n 0, 1) := dk_42 (by decide +kernel)
theorem dX12_goalNumber_4 : decode cX12_goalNumber 4 = .ok (.getfield 212, 3) := dk_180 (by decide +kernel)
theorem dX12_goalNumber_7 : decode cX12_goalNumber 7 = .ok (.bipush 9, 2) := dk_16 (by decide +kernel)
theorem dX12_goalNumber_9 : decode cX12_goalNumber 9 = .ok (.iload_n 1, 1) := dk_27 (by decide +kernel)
theorem dX12_goalNumber_10 : decode cX12_goalNumber 10 = .ok (.imul, 1) := dk_104 (by decide +kernel)
theorem dX12_goalNumber_11 : decode cX12_goalNumber 11 = .ok (.iload_n 2, 1) := dk_28 (by decide +kernel)
theorem dX12_goalNumber_12 : decode cX12_goalNumber 12 = .ok (.iadd, 1) := dk_96 (by decide +kernel)
theorem dX12_goalNumber_13 : decode cX12_goalNumber 13 = .ok (.iaload, 1) := dk_46 (by decide +kernel)
theorem dX12_goalNumber_14 : decode cX12_goalNumber 14 = .ok (.i2l, 1) := dk_133 (by decide +kernel)
theorem dX12_goalNumber_15 : decode cX12_goalNumber 15 = .ok (.invokevirtual 369, 3) := dk_182 (by decide +kernel)
theorem dX12_goalNumber_18 : decode cX12_goalNumber 18 = .ok (.aload_n 0, 1) := dk_42 (by decide +kernel)
theorem dX12_goalNumber_19 : decode cX12_goalNumber 19 = .ok (.bipush 11, 2) := dk_16 (by decide +kernel)
theorem dX12_goalNumber_21 : decode cX12_goalNumber 21 = .ok (.aload_n 0, 1) := dk_42 (by decide +kernel)
theorem dX12_goalNumber_22 : decode cX12_goalNumber 22 = .ok (.getfield 215, 3) := dk_180 (by decide +kernel)
theorem dX12_goalNumber_25 : decode cX12_goalNumber 25 = .ok (.bipush 9, 2) := dk_16 (by decide +kernel)
theorem dX12_goalNumber_27 : decode cX12_goalNumber 27 = .ok (.iload_n 1, 1) := dk_27 (by decide +kernel)
theorem dX12_goalNumber_28 : decode cX12_goalNumber 28 = .ok (.imul, 1) := dk_104 (by decide +kernel)
theorem dX12_goalNumber_29 : decode cX12_goalNumber 29 = .ok (.iload_n 2, 1) := dk_28 (by decide +kernel)
theorem dX12_goalNumber_30 : decode cX12_goalNumber 30 = .ok (.iadd, 1) := dk_96 (by decide +kernel)
theorem dX12_goalNumber_31 : decode cX12_goalNumber 31 = .ok (.iaload, 1) := dk_46 (by decide +kernel)
theorem dX12_goalNumber_32 : decode cX12_goalNumber 32 = .ok (.i2l, 1) := dk_133 (by decide +kernel)
theorem dX12_goalNumber_33 : decode cX12_goalNumber 33 = .ok (.invokevirtual 369, 3) := dk_182 (by decide +kernel)
theorem dX12_goalNumber_36 : decode cX12_goalNumber 36 = .ok (.aload_n 0, 1) := dk_42 (by decide +kernel)
theorem dX12_goalNumber_37 : decode cX12_goalNumber 37 = .ok (.bipush 13, 2) := dk_16 (by decide +kernel)
theorem dX12_goalNumber_39 : decode cX12_goalNumber 39 = .ok (.bipush 14, 2) := dk_16 (by decide +kernel)
theorem dX12_goalNumber_41 : decode cX12_goalNumber 41 = .ok (.bipush 19, 2) := dk_16 (by decide +kernel)
theorem dX12_goalNumber_43 : decode cX12_goalNumber 43 = .ok (.bipush 11, 2) := dk_16 (by decide +kernel)
theorem dX12_goalNumber_45 : decode cX12_goalNumber 45 = .ok (.invokevirtual 383, 3) := dk_182 (by decide +kernel)
theorem dX12_goalNumber_48 : decode cX12_goalNumber 48 = .ok (.aload_n 0, 1) := dk_42 (by decide +kernel)
theorem dX12_goalNumber_49 : decode cX12_goalNumber 49 = .ok (.bipush 17, 2) := dk_16 (by decide +kernel)
theorem dX12_goalNumber_51 : decode cX12_goalNumber 51 = .ok (.bipush 13, 2) := dk_16 (by decide +kernel)
theorem dX12_goalNumber_53 : decode cX12_goalNumber 53 = .ok (.bipush 10, 2) := dk_16 (by decide +kernel)
theorem dX12_goalNumber_55 : decode cX12_goalNumber 55 = .ok (.invokevirtual 390, 3) := dk_182 (by decide +kernel)
theorem dX12_goalNumber_58 : decode cX12_goalNumber 58 = .ok (.return_, 1) := dk_177 (by decide +kernel)
def wsRX12_goalNumber : List Cond := .code yX12_goalNumber cX12_goalNumber 3 none :: ([.fieldLink RX12 212 "OptimaWorksModel" "goalTop" "[I", .fieldLink RX12 215 "OptimaWorksModel" "goalUnder" "[I"] ++ wsX120 ++ (wsV RX12 369 RX12 yX12_put wsRX12_put) ++ (wsV RX12 383 RX12 yX12_divide wsRX12_divide) ++ (wsV RX12 390 RX12 yX12_times wsRX12_times))
theorem iwsRX12_goalNumber_in12 : ∀ w ∈ wsX120, w ∈ wsRX12_goalNumber := fun _ h => List.mem_cons_of_mem _ (List.mem_append_left _ (List.mem_append_left _ (List.mem_append_left _ (List.mem_append_right _ h))))
theorem gwsRX12_goalNumber_0 : GoodIn wsRX12_goalNumber (wsV RX12 369 RX12 yX12_put wsRX12_put) := goodIn_sub (fun _ h => List.mem_cons_of_mem _ (List.mem_append_left _ (List.mem_append_left _ (List.mem_append_right _ h)))) (gdV (by decide +kernel) gdwsRX12_put)
theorem gwsRX12_goalNumber_1 : GoodIn wsRX12_goalNumber (wsV RX12 383 RX12 yX12_divide wsRX12_divide) := goodIn_sub (fun _ h => List.mem_cons_of_mem _ (List.mem_append_left _ (List.mem_append_right _ h))) (gdV (by decide +kernel) gdwsRX12_divide)
theorem gwsRX12_goalNumber_2 : GoodIn wsRX12_goalNumber (wsV RX12 390 RX12 yX12_times wsRX12_times) := goodIn_sub (fun _ h => List.mem_cons_of_mem _ (List.mem_append_right _ h)) (gdV (by decide +kernel) gdwsRX12_times)
theorem gdwsRX12_goalNumber : wsRX12_goalNumber.all goodWord = true := gdC rfl (gdA (gdA (gdA (gdA (by decide +kernel : ([.fieldLink RX12 212 "OptimaWorksModel" "goalTop" "[I", .fieldLink RX12 215 "OptimaWorksModel" "goalUnder" "[I"] : List Cond).all goodWord = true) gdwsX120) (gdV (by decide +kernel) gdwsRX12_put)) (gdV (by decide +kernel) gdwsRX12_divide)) (gdV (by decide +kernel) gdwsRX12_times))
set_option maxHeartbeats 4000000 in
set_option maxRecDepth 100000 in
/-- goalNumber(g, k) -/
theorem r_X12_goalNumber (l : Launch) (dC : Nat → ClassId) (dI : Nat → Nat → Nat) (a : Nat → Nat) (k : Nat → ClassId) (h0 : Nat) (vi : Nat → Int32) (vj : Nat → Int64) (vF : Nat → Nat → Int32) (vG : Nat → Nat → Int64) (gn : Nat) (kn : Nat) (gq : Nat) (mg : Nat → Int) (hBg : Bg (vF 0) mg) (x19 : Int) (v_x19 : mg 19 = x19) (hgn : gn < gq) (hgq : gq ≤ 3) (hkn : kn < 9) (hM : MdlB vF gq) (h19b : x19.natAbs < 2 ^ 67) (sz : Nat) : Met l yX12_goalNumber wsRX12_goalNumber ({ frames := 2, cells := 0, slots := 0, locals := 62 }) (va_Pc [.ref h0, .int (nI gn), .int (nI kn)] (fun U => U.heap.size = sz ∧ va_P (dC, dI) vwCl (WR a k h0 vi vj vF vG) U.heap ∧ va_K (dC, dI) vwCl (tX12 k) U ∧ va_D (fun _ => True) (WR a k h0 vi vj vF vG))) (va_Qv (fun (u : (Nat → Int32) × (Nat → Int32) × (Nat → Int32) × (Nat → Int64) × (Nat → Int)) => (Bg (u.1) (u.2.2.2.2)) ∧ ((u.2.2.2.2) 19 = x19) ∧ (((u.2.2.2.2) 17).natAbs ≤ x19.natAbs * (if kn = 0 then 9999 else 99)) ∧ (∀ q, (q < 5 ∨ 19 < q) → (u.2.2.2.2) q = mg q)) (fun (u : (Nat → Int32) × (Nat → Int32) × (Nat → Int32) × (Nat → Int64) × (Nat → Int)) t => va_P (dC, dI) vwCl (WR a k h0 vi vj (fT (fT (fT vF 0 (u.1)) 2 (u.2.1)) 3 (u.2.2.1)) (fT vG 1 (u.2.2.2.1))) t.heap ∧ va_D (va_A (WR a k h0 vi vj vF vG) sz) (WR a k h0 vi vj (fT (fT (fT vF 0 (u.1)) 2 (u.2.1)) 3 (u.2.2.1)) (fT vG 1 (u.2.2.2.1)))) (va_A (WR a k h0 vi vj vF vG) sz)) 0 0 (va_A (WR a k h0 vi vj vF vG) sz) := by
  refine Met.ofW (cc := cX12_goalNumber) (maxL := 3) (ret := none) (by decide) rfl ?_
  intro p e s m args below meth c s₁ B hml hv
  obtain ⟨rfl, hsz, hP, hK, hD0⟩ := hv
  have hx := B.exec
  have hb := B.bytes
  have hr := B.returns
  have hts := atoms_spec (ws := wsRX12_goalNumber) B.pre
  have hown : s.vm.findClass RX12 = some m.cls := findClass_of_methodNamed B.named
  have hlocks := B.notSynchronized
  subst hsz
  have hD := hD0.self (sz := s.heap.size)
  generalize hAe : va_A (WR a k h0 vi vj vF vG) s.heap.size = A at hD ⊢
  have hA : ∀ q : Nat, s.heap.size ≤ q → A q := fun q h => by rw [← hAe]; exact Or.inr h
  have hS : va_S A s.heap s.heap [] := va_S.rf
  have hl := lv_entry ([.ref h0, .int (nI gn), .int (nI kn)]) (n := 3) (Nat.le_of_ble_eq_true rfl)
  rw [lg_entry_eq]
  generalize (lg_sl ([.ref h0, .int (nI gn), .int (nI kn)]) ++ List.replicate (3 - (lg_sl ([.ref h0, .int (nI gn), .int (nI kn)])).length) Slot.unset).toArray = ls at hl ⊢
  have hl : lv_has ls 3 [(0, .ref h0), (1, .int (nI gn)), (2, .int (nI kn))] := hl
  have hu := hM.under hgn hkn
  have ht8 := hM.top hgn hkn
  have ht9 : (vF 63 (9 * gn + kn)).toInt.natAbs ≤ 9999 := by (have h9 := ht8); split at h9 <;> omega
  refine lv_aload_n hx hb dX12_goalNumber_0 rfl (lv_at hl 0 rfl) ?_
  refine lv_bipush (v := 10) hx hb dX12_goalNumber_1 (by decide) ?_
  refine lv_aload_n hx hb dX12_goalNumber_3 rfl (lv_at hl 0 rfl) ?_
  refine va_get (D := (dC, dI)) (ci := 12) (v := .ref (a 63)) (C := RX12) (T := TX12) (N := 163) (fs := fM (vS a vi vj)) hx hb hts iwsRX12_goalNumber_in12 hown hK hP 0 rfl rfl 103 (by decide) (hts (.fieldLink RX12 212 "OptimaWorksModel" "goalTop" "[I") (by decide +kernel)) (fun _ h9 => h9) rfl dX12_goalNumber_4 ?_
  refine lv_bipush (v := 9) hx hb dX12_goalNumber_7 (by decide) ?_
  refine lv_iload_n hx hb dX12_goalNumber_9 rfl (lv_at hl 1 rfl) ?_
  refine lv_imul hx hb dX12_goalNumber_10 ?_
  refine lv_topi (fun y1 hy1 => ?_)
  obtain rfl : (nI (9 * gn)) = y1 := (hy1.trans (pk_mul 9 gn)).symm
  refine lv_iload_n hx hb dX12_goalNumber_11 rfl (lv_at hl 2 rfl) ?_
  refine lv_iadd hx hb dX12_goalNumber_12 ?_
  refine lv_topi (fun y2 hy2 => ?_)
  obtain rfl : (nI ((9 * gn) + kn)) = y2 := (hy2.trans (nI_add (9 * gn) kn)).symm
  refine va_iald (cA := k 63) (n := 27) (f := (vF 63)) hx hb hK hP 64 63 (WR_get 63 (by decide)) (TR_get 63 (by decide)) (vp_in_nI (show ((9 * gn) + kn) < 27 by omega) (by omega)) dX12_goalNumber_13 ?_
  refine lv_topi (fun y3 hy3 => ?_)
  obtain rfl : ((vF 63) ((9 * gn) + kn)) = y3 := (hy3.trans (by rw [nI_clamp (by omega)])).symm
  refine lv_i2l hx hb dX12_goalNumber_14 rfl ?_
  have hFc := allFree hD hS hA
  refine va_callv (va_runV (As := [.int 10, .long (((vF 63) ((9 * gn) + kn))).toInt64]) (rest := []) ⟨hx, hb, hml, hown, hts⟩ (b_X12_put l dC dI a k h0 vi vj vF vG 10 ((((vF 63) ((9 * gn) + kn))).toInt64) ((vF 63 (9 * gn + kn)).toInt) mg hBg (by first | assumption | decide | omega | rfl) (i64T _) (by omega) s.heap.size) (cwV 2 hts gwsRX12_goalNumber_0 rfl rfl rfl (by decide +kernel) ⟨by decide +kernel, by decide +kernel⟩) ⟨fun a U g mk q => by obtain ⟨q0, q1, qP, qK, qD⟩ := q; exact ⟨q0, q1, qP, va_K.moved (u := U) (U := U.calling g mk a) (Vm.Alike.refl U.vm) qK, qD⟩, va_recv hK hP (ci := 12) (q0 := 0) rfl rfl, fun U hU9 hW => ⟨rfl, by rw [hU9], by rw [hU9]; exact hP, va_K.moved hW.alike hK, hD.weaken (fun _ _ _ _ => trivial)⟩⟩ rfl rfl hl.1 rfl (lv_room (Nat.le_of_ble_eq_true rfl)) dX12_goalNumber_15 ⟨by decide +kernel, by decide +kernel⟩) hS (fun q _ h => hFc q h) hFc (fun u t9_ H1 locs ht hvm hw9 hB9 hz1 hk1 hS => ?_)
  obtain ⟨g15, hwit15⟩ : ∃ w9, w9 = u := ⟨u, rfl⟩
  subst hwit15
  obtain ⟨hP1, hD1⟩ := hB9
  rw [ht] at hP1
  have hP := hP1
  have hD := hD1.weaken (fun _ q _ h => hFc q.1 h)
  generalize H1 = H at hP hS ⊢
  have hP : va_P (dC, dI) vwCl (WR a k h0 vi vj (fT vF 0 g15) vG) H := hP
  have hD : va_D A (WR a k h0 vi vj (fT vF 0 g15) vG) := hD
  have f15_0 := hw9
  try dsimp only at f15_0
  refine lv_aload_n hx hb dX12_goalNumber_18 rfl (lv_at hl 0 rfl) ?_
  refine lv_bipush (v := 11) hx hb dX12_goalNumber_19 (by decide) ?_
  refine lv_aload_n hx hb dX12_goalNumber_21 rfl (lv_at hl 0 rfl) ?_
  refine va_get (D := (dC, dI)) (ci := 12) (v := .ref (a 64)) (C := RX12) (T := TX12) (N := 163) (fs := fM (vS a vi vj)) hx hb hts iwsRX12_goalNumber_in12 hown hK hP 0 rfl rfl 104 (by decide) (hts (.fieldLink RX12 215 "OptimaWorksModel" "goalUnder" "[I") (by decide +kernel)) (fun _ h9 => h9) rfl dX12_goalNumber_22 ?_
  refine lv_bipush (v := 9) hx hb dX12_goalNumber_25 (by decide) ?_
  refine lv_iload_n hx hb dX12_goalNumber_27 rfl (lv_at hl 1 rfl) ?_
  refine lv_imul hx hb dX12_goalNumber_28 ?_
  refine lv_topi (fun y4 hy4 => ?_)
  obtain rfl : (nI (9 * gn)) = y4 := (hy4.trans (pk_mul 9 gn)).symm
  refine lv_iload_n hx hb dX12_goalNumber_29 rfl (lv_at hl 2 rfl) ?_
  refine lv_iadd hx hb dX12_goalNumber_30 ?_
  refine lv_topi (fun y5 hy5 => ?_)
  obtain rfl : (nI ((9 * gn) + kn)) = y5 := (hy5.trans (nI_add (9 * gn) kn)).symm
  refine va_iald (cA := k 64) (n := 27) (f := (vF 64)) hx hb hK hP 65 64 (WR_get 64 (by decide)) (TR_get 64 (by decide)) (vp_in_nI (show ((9 * gn) + kn) < 27 by omega) (by omega)) dX12_goalNumber_31 ?_
  refine lv_topi (fun y6 hy6 => ?_)
  obtain rfl : ((vF 64) ((9 * gn) + kn)) = y6 := (hy6.trans (by rw [nI_clamp (by omega)])).symm
  refine lv_i2l hx hb dX12_goalNumber_32 rfl ?_
  have hFc := allFree hD hS hA
  refine va_callv (va_runV (As := [.int 11, .long (((vF 64) ((9 * gn) + kn))).toInt64]) (rest := []) ⟨hx, hb, hml, hown, hts⟩ (b_X12_put l dC dI a k h0 vi vj (fT vF 0 g15) vG 11 ((((vF 64) ((9 * gn) + kn))).toInt64) ((vF 64 (9 * gn + kn)).toInt) (fT mg 10 ((vF 63 (9 * gn + kn)).toInt)) f15_0 (by first | assumption | decide | omega | rfl) (i64T _) (by omega) H.size) (cwV 2 hts gwsRX12_goalNumber_0 rfl rfl rfl (by decide +kernel) ⟨by decide +kernel, by decide +kernel⟩) ⟨fun a U g mk q => by obtain ⟨q0, q1, qP, qK, qD⟩ := q; exact ⟨q0, q1, qP, va_K.moved (u := U) (U := U.calling g mk a) (Vm.Alike.refl U.vm) qK, qD⟩, va_recv hK hP (ci := 12) (q0 := 0) rfl rfl, fun U hU9 hW => ⟨rfl, by rw [hU9], by rw [hU9]; exact hP, va_K.moved hW.alike hK, hD.weaken (fun _ _ _ _ => trivial)⟩⟩ rfl rfl hl.1 rfl (lv_room (Nat.le_of_ble_eq_true rfl)) dX12_goalNumber_33 ⟨by decide +kernel, by decide +kernel⟩) hS (fun q _ h => hFc q h) hFc (fun u t9_ H1 locs ht hvm hw9 hB9 hz1 hk1 hS => ?_)
  obtain ⟨g33, hwit33⟩ : ∃ w9, w9 = u := ⟨u, rfl⟩
  subst hwit33
  obtain ⟨hP1, hD1⟩ := hB9
  rw [ht] at hP1
  have hP := hP1
  have hD := hD1.weaken (fun _ q _ h => hFc q.1 h)
  generalize H1 = H at hP hS ⊢
  have hP : va_P (dC, dI) vwCl (WR a k h0 vi vj (fT (fT vF 0 g15) 0 g33) vG) H := hP
  have hD : va_D A (WR a k h0 vi vj (fT (fT vF 0 g15) 0 g33) vG) := hD
  have e9 : fT vF 0 g33 = fT (fT vF 0 g15) 0 g33 := (fT_sm _ _ _ _).symm
  rw [← e9] at hP hD
  clear e9
  have hP : va_P (dC, dI) vwCl (WR a k h0 vi vj (fT vF 0 g33) vG) H := hP
  have hD : va_D A (WR a k h0 vi vj (fT vF 0 g33) vG) := hD
  have f33_0 := hw9
  try dsimp only at f33_0
  refine lv_aload_n hx hb dX12_goalNumber_36 rfl (lv_at hl 0 rfl) ?_
  refine lv_bipush (v := 13) hx hb dX12_goalNumber_37 (by decide) ?_
  refine lv_bipush (v := 14) hx hb dX12_goalNumber_39 (by decide) ?_
  refine lv_bipush (v := 19) hx hb dX12_goalNumber_41 (by decide) ?_
  refine lv_bipush (v := 11) hx hb dX12_goalNumber_43 (by decide) ?_
  have hFc := allFree hD hS hA
  refine va_callv (va_runV (As := [.int 13, .int 14, .int 19, .int 11]) (rest := []) ⟨hx, hb, hml, hown, hts⟩ (b_X12_divide l dC dI a k h0 vi vj (fT vF 0 g33) vG 13 14 19 11 (fT (fT mg 10 ((vF 63 (9 * gn + kn)).toInt)) 11 ((vF 64 (9 * gn + kn)).toInt)) f33_0 x19 ((vF 64 (9 * gn + kn)).toInt) (by rw [fT_ne _ _ (by omega), fT_ne _ _ (by omega), v_x19]) (by rw [fT_eq]) (by first | assumption | decide | omega | rfl) (by first | assumption | decide | omega | rfl) (by first | assumption | decide | omega | rfl) (by first | assumption | decide | omega | rfl) (by first | assumption | decide | omega | rfl) (by first | assumption | decide | omega | rfl) (by omega) H.size) (cwV 4 hts gwsRX12_goalNumber_1 rfl rfl rfl (by decide +kernel) ⟨by decide +kernel, by decide +kernel⟩) ⟨fun a U g mk q => by obtain ⟨q0, q1, qP, qK, qD⟩ := q; exact ⟨q0, q1, qP, va_K.moved (u := U) (U := U.calling g mk a) (Vm.Alike.refl U.vm) qK, qD⟩, va_recv hK hP (ci := 12) (q0 := 0) rfl rfl, fun U hU9 hW => ⟨rfl, by rw [hU9], by rw [hU9]; exact hP, va_K.moved hW.alike hK, hD.weaken (fun _ _ _ _ => trivial)⟩⟩ rfl rfl hl.1 rfl (lv_room (Nat.le_of_ble_eq_true rfl)) dX12_goalNumber_45 ⟨by decide +kernel, by decide +kernel⟩) hS (fun q _ h => hFc q h) hFc (fun u t9_ H1 locs ht hvm hw9 hB9 hz1 hk1 hS => ?_)
  obtain ⟨g45, f2w45, f3w45, gs45⟩ := u
  try dsimp only at hw9 hB9
  obtain ⟨hP1, hD1⟩ := hB9
  rw [ht] at hP1
  have hP := hP1
  have hD := hD1.weaken (fun _ q _ h => hFc q.1 h)
  generalize H1 = H at hP hS ⊢
  have hP : va_P (dC, dI) vwCl (WR a k h0 vi vj (fT (fT (fT (fT vF 0 g33) 2 f2w45) 3 f3w45) 0 g45) (fT vG 1 gs45)) H := hP
  have hD : va_D A (WR a k h0 vi vj (fT (fT (fT (fT vF 0 g33) 2 f2w45) 3 f3w45) 0 g45) (fT vG 1 gs45)) := hD
  have e9 : fT (fT (fT vF 0 g45) 2 f2w45) 3 f3w45 = fT (fT (fT (fT vF 0 g33) 2 f2w45) 3 f3w45) 0 g45 := ((fT_sw _ _ _ (Nat.ne_of_beq_eq_false rfl)).trans (congrArg (fun g9 => fT g9 3 f3w45) ((fT_sw _ _ _ (Nat.ne_of_beq_eq_false rfl)).trans (congrArg (fun g9 => fT g9 2 f2w45) (fT_sm _ _ _ _))))).symm
  rw [← e9] at hP hD
  clear e9
  have hP : va_P (dC, dI) vwCl (WR a k h0 vi vj (fT (fT (fT vF 0 g45) 2 f2w45) 3 f3w45) (fT vG 1 gs45)) H := hP
  have hD : va_D A (WR a k h0 vi vj (fT (fT (fT vF 0 g45) 2 f2w45) 3 f3w45) (fT vG 1 gs45)) := hD
  have f45_0 := hw9
  try dsimp only at f45_0
  refine lv_aload_n hx hb dX12_goalNumber_48 rfl (lv_at hl 0 rfl) ?_
  refine lv_bipush (v := 17) hx hb dX12_goalNumber_49 (by decide) ?_
  refine lv_bipush (v := 13) hx hb dX12_goalNumber_51 (by decide) ?_
  refine lv_bipush (v := 10) hx hb dX12_goalNumber_53 (by decide) ?_
  have hFc := allFree hD hS hA
  refine va_callv (va_runV (As := [.int 17, .int 13, .int 10]) (rest := []) ⟨hx, hb, hml, hown, hts⟩ (b_X12_times l dC dI a k h0 vi vj (fT (fT (fT vF 0 g45) 2 f2w45) 3 f3w45) (fT vG 1 gs45) 17 13 10 (fT (fT (fT (fT mg 10 ((vF 63 (9 * gn + kn)).toInt)) 11 ((vF 64 (9 * gn + kn)).toInt)) 13 ((x19).tdiv ((vF 64 (9 * gn + kn)).toInt))) 14 ((x19).tmod ((vF 64 (9 * gn + kn)).toInt))) f45_0 ((x19).tdiv ((vF 64 (9 * gn + kn)).toInt)) ((vF 63 (9 * gn + kn)).toInt) (by rw [fT_ne _ _ (by omega), fT_eq]) (by rw [fT_ne _ _ (by omega), fT_ne _ _ (by omega), fT_ne _ _ (by omega), fT_eq]) (by first | assumption | decide | omega | rfl) (by first | assumption | decide | omega | rfl) (by first | assumption | decide | omega | rfl) (sc_big (Nat.lt_of_le_of_lt (sh_le _ _) h19b) ht9) H.size) (cwV 3 hts gwsRX12_goalNumber_2 rfl rfl rfl (by decide +kernel) ⟨by decide +kernel, by decide +kernel⟩) ⟨fun a U g mk q => by obtain ⟨q0, q1, qP, qK, qD⟩ := q; exact ⟨q0, q1, qP, va_K.moved (u := U) (U := U.calling g mk a) (Vm.Alike.refl U.vm) qK, qD⟩, va_recv hK hP (ci := 12) (q0 := 0) rfl rfl, fun U hU9 hW => ⟨rfl, by rw [hU9], by rw [hU9]; exact hP, va_K.moved hW.alike hK, hD.weaken (fun _ _ _ _ => trivial)⟩⟩ rfl rfl hl.1 rfl (lv_room (Nat.le_of_ble_eq_true rfl)) dX12_goalNumber_55 ⟨by decide +kernel, by decide +kernel⟩) hS (fun q _ h => hFc q h) hFc (fun u t9_ H1 locs ht hvm hw9 hB9 hz1 hk1 hS => ?_)
  obtain ⟨g55, gs55⟩ := u
  try dsimp only at hw9 hB9
  obtain ⟨hP1, hD1⟩ := hB9
  rw [ht] at hP1
  have hP := hP1
  have hD := hD1.weaken (fun _ q _ h => hFc q.1 h)
  generalize H1 = H at hP hS ⊢
  have hP : va_P (dC, dI) vwCl (WR a k h0 vi vj (fT (fT (fT (fT vF 0 g45) 2 f2w45) 3 f3w45) 0 g55) (fT (fT vG 1 gs45) 1 gs55)) H := hP
  have hD : va_D A (WR a k h0 vi vj (fT (fT (fT (fT vF 0 g45) 2 f2w45) 3 f3w45) 0 g55) (fT (fT vG 1 gs45) 1 gs55)) := hD
  have e9 : fT (fT (fT vF 0 g55) 2 f2w45) 3 f3w45 = fT (fT (fT (fT vF 0 g45) 2 f2w45) 3 f3w45) 0 g55 := ((fT_sw _ _ _ (Nat.ne_of_beq_eq_false rfl)).trans (congrArg (fun g9 => fT g9 3 f3w45) ((fT_sw _ _ _ (Nat.ne_of_beq_eq_false rfl)).trans (congrArg (fun g9 => fT g9 2 f2w45) (fT_sm _ _ _ _))))).symm
  rw [← e9] at hP hD
  clear e9
  have e9 : fT vG 1 gs55 = fT (fT vG 1 gs45) 1 gs55 := (fT_sm _ _ _ _).symm
  rw [← e9] at hP hD
  clear e9
  have hP : va_P (dC, dI) vwCl (WR a k h0 vi vj (fT (fT (fT vF 0 g55) 2 f2w45) 3 f3w45) (fT vG 1 gs55)) H := hP
  have hD : va_D A (WR a k h0 vi vj (fT (fT (fT vF 0 g55) 2 f2w45) 3 f3w45) (fT vG 1 gs55)) := hD
  have f55_0 := hw9
  try dsimp only at f55_0
  refine W.widen (k := 0) (n := 0) (by decide +kernel) (by decide +kernel) ?_
  exact W.vret hx hb hr (fun t9_ ht hW => ⟨⟨(g55, f2w45, f3w45, gs55, (fT (fT (fT (fT (fT mg 10 ((vF 63 (9 * gn + kn)).toInt)) 11 ((vF 64 (9 * gn + kn)).toInt)) 13 ((x19).tdiv ((vF 64 (9 * gn + kn)).toInt))) 14 ((x19).tmod ((vF 64 (9 * gn + kn)).toInt))) 17 (((x19).tdiv ((vF 64 (9 * gn + kn)).toInt)) * ((vF 63 (9 * gn + kn)).toInt)))), rfl, by (try dsimp only); exact ⟨f55_0, (by rw [fT_ne _ _ (by omega), fT_ne _ _ (by omega), fT_ne _ _ (by omega), fT_ne _ _ (by omega), fT_ne _ _ (by omega), v_x19]), by (have e9 : (fT (fT (fT (fT (fT mg 10 ((vF 63 (9 * gn + kn)).toInt)) 11 ((vF 64 (9 * gn + kn)).toInt)) 13 ((x19).tdiv ((vF 64 (9 * gn + kn)).toInt))) 14 ((x19).tmod ((vF 64 (9 * gn + kn)).toInt))) 17 (((x19).tdiv ((vF 64 (9 * gn + kn)).toInt)) * ((vF 63 (9 * gn + kn)).toInt))) 17 = (((x19).tdiv ((vF 64 (9 * gn + kn)).toInt)) * ((vF 63 (9 * gn + kn)).toInt)) := (by rw [fT_eq])); rw [e9, Int.natAbs_mul]; exact Nat.mul_le_mul (sh_le _ _) ht8, fun q hq => by (rw [fT_ne _ _ (by omega), fT_ne _ _ (by omega), fT_ne _ _ (by omega), fT_ne _ _ (by omega), fT_ne _ _ (by omega)])⟩, by rw [ht]; exact hP, hD⟩, hS.F ht⟩) hS.2.2 dX12_goalNumber_58
theorem dX12_take_0 : decode cX12_take 0 = .ok (.iconst 0, 1) := dk_3 (by decide +kernel)
theorem dX12_take_1 : decode cX12_take 1 = .ok (.istore_n 1, 1) := dk_60 (by decide +kernel)
theorem dX12_take_2 : decode cX12_take 2 = .ok (.iload_n 1, 1) := dk_27 (by decide +kernel)
theorem dX12_take_3 : decode cX12_take 3 = .ok (.bipush 16, 2) := dk_16 (by decide +kernel)
theorem dX12_take_5 : decode cX12_take 5 = .ok (.if_icmp .ge 23, 3) := dk_162 (by decide +kernel)
theorem dX12_take_8 : decode cX12_take 8 = .ok (.aload_n 0, 1) := dk_42 (by decide +kernel)
theorem dX12_take_9 : decode cX12_take 9 = .ok (.sipush 1000, 3) := dk_17 (by decide +kernel)
theorem dX12_take_12 : decode cX12_take 12 = .ok (.iload_n 1, 1) := dk_27 (by decide +kernel)
theorem dX12_take_13 : decode cX12_take 13 = .ok (.iadd, 1) := dk_96 (by decide +kernel)
theorem dX12_take_14 : decode cX12_take 14 = .ok (.sipush 1020, 3) := dk_17 (by decide +kernel)
theorem dX12_take_17 : decode cX12_take 17 = .ok (.iload_n 1, 1) := dk_27 (by decide +kernel)
theorem dX12_take_18 : decode cX12_take 18 = .ok (.iadd, 1) := dk_96 (by decide +kernel)
theorem dX12_take_19 : decode cX12_take 19 = .ok (.invokevirtual 365, 3) := dk_182 (by decide +kernel)
theorem dX12_take_22 : decode cX12_take 22 = .ok (.iinc 1 1, 3) := dk_132 (by decide +kernel)
theorem dX12_take_25 : decode cX12_take 25 = .ok (.goto (-23), 3) := dk_167 (by decide +kernel)
theorem dX12_take_28 : decode cX12_take 28 = .ok (.aload_n 0, 1) := dk_42 (by decide +kernel)
theorem dX12_take_29 : decode cX12_take 29 = .ok (.iconst 1, 1) := dk_4 (by decide +kernel)
theorem dX12_take_30 : decode cX12_take 30 = .ok (.putfield 811, 3) := dk_181 (by decide +kernel)
theorem dX12_take_33 : decode cX12_take 33 = .ok (.return_, 1) := dk_177 (by decide +kernel)
def wsRX12_take : List Cond := .code yX12_take cX12_take 2 none :: ([.fieldLink RX12 811 "OptimaWorksModel" "hasAnswer" "Z"] ++ wsX120 ++ (wsV RX12 365 RX12 yX12_copy wsRX12_copy))
theorem iwsRX12_take_in12 : ∀ w ∈ wsX120, w ∈ wsRX12_take := fun _ h => List.mem_cons_of_mem _ (List.mem_append_left _ (List.mem_append_right _ h))
theorem gwsRX12_take_0 : GoodIn wsRX12_take (wsV RX12 365 RX12 yX12_copy wsRX12_copy) := goodIn_sub (fun _ h => List.mem_cons_of_mem _ (List.mem_append_right _ h)) (gdV (by decide +kernel) gdwsRX12_copy)
theorem gdwsRX12_take : wsRX12_take.all goodWord = true := gdC rfl (gdA (gdA (by decide +kernel : ([.fieldLink RX12 811 "OptimaWorksModel" "hasAnswer" "Z"] : List Cond).all goodWord = true) gdwsX120) (gdV (by decide +kernel) gdwsRX12_copy))
set_option maxHeartbeats 4000000 in
set_option maxRecDepth 100000 in
/-- take() -/
theorem r_X12_take (l : Launch) (dC : Nat → ClassId) (dI : Nat → Nat → Nat) (a : Nat → Nat) (k : Nat → ClassId) (h0 : Nat) (vi : Nat → Int32) (vj : Nat → Int64) (vF : Nat → Nat → Int32) (vG : Nat → Nat → Int64) (mg : Nat → Int) (hBg : Bg (vF 0) mg) (sz : Nat) : Met l yX12_take wsRX12_take ({ frames := 1, cells := 0, slots := 0, locals := 23 }) (va_Pc [.ref h0] (fun U => U.heap.size = sz ∧ va_P (dC, dI) vwCl (WR a k h0 vi vj vF vG) U.heap ∧ va_K (dC, dI) vwCl (tX12 k) U ∧ va_D (fun _ => True) (WR a k h0 vi vj vF vG))) (va_Qv (fun (u : (Nat → Int32) × (Nat → Int)) => (Bg (u.1) (u.2)) ∧ (∀ k, k < 16 → (u.2) (1000 + k) = mg (1020 + k)) ∧ (∀ q, (q < 1000 ∨ 1016 ≤ q) → (u.2) q = mg q)) (fun (u : (Nat → Int32) × (Nat → Int)) t => va_P (dC, dI) vwCl (WR a k h0 (fT vi 113 1) vj (fT vF 0 (u.1)) vG) t.heap ∧ va_D (va_A (WR a k h0 vi vj vF vG) sz) (WR a k h0 (fT vi 113 1) vj (fT vF 0 (u.1)) vG)) (va_A (WR a k h0 vi vj vF vG) sz)) 0 0 (va_A (WR a k h0 vi vj vF vG) sz) := by
  refine Met.ofW (cc := cX12_take) (maxL := 2) (ret := none) (by decide) rfl ?_
  intro p e s m args below meth c s₁ B hml hv
  obtain ⟨rfl, hsz, hP, hK, hD0⟩ := hv
  have hx := B.exec
  have hb := B.bytes
  have hr := B.returns
  have hts := atoms_spec (ws := wsRX12_take) B.pre
  have hown : s.vm.findClass RX12 = some m.cls := findClass_of_methodNamed B.named
  have hlocks := B.notSynchronized
  subst hsz
  have hD := hD0.self (sz := s.heap.size)
  generalize hAe : va_A (WR a k h0 vi vj vF vG) s.heap.size = A at hD ⊢
  have hA : ∀ q : Nat, s.heap.size ≤ q → A q := fun q h => by rw [← hAe]; exact Or.inr h
  have hS : va_S A s.heap s.heap [] := va_S.rf
  have hl := lv_entry ([.ref h0]) (n := 2) (Nat.le_of_ble_eq_true rfl)
  rw [lg_entry_eq]
  generalize (lg_sl ([.ref h0]) ++ List.replicate (2 - (lg_sl ([.ref h0])).length) Slot.unset).toArray = ls at hl ⊢
  have hl : lv_has ls 2 [(0, .ref h0)] := hl
  refine lv_iconst (v := 0) hx hb dX12_take_0 (by decide) ?_
  refine lv_istore_n hx hb dX12_take_1 rfl hl (by decide) rfl (fun ls (hl : lv_has ls _ ([(1, .int 0), (0, .ref h0)])) => ?_)
  have e9 : fT vF 0 (vF 0) = vF := by funext q9; by_cases h9_0 : q9 = 0; (subst h9_0; exact (fT_eq _ _ _).trans (Eq.trans (by first | rfl | assumption | (symm; assumption) | (subst_vars; rfl)) (Eq.refl _).symm)); exact (fT_ne _ _ h9_0).trans (Eq.refl _).symm
  have hP : va_P (dC, dI) vwCl (WR a k h0 vi vj (fT vF 0 (vF 0)) vG) s.heap := by rw [e9]; exact hP
  have hD : va_D A (WR a k h0 vi vj (fT vF 0 (vF 0)) vG) := by rw [e9]; exact hD
  clear e9
  have hl : lv_has _ _ ([(0, .ref h0), (1, .int (nI 0))]) := lv_sub hl [1, 0] rfl
  refine (fun (loop : ∀ (n9 : Nat) (k5 : Nat) (g1 : Nat → Int32) (m1 : Nat → Int) (H : Heap) (locs : List Loc) (ls : Array Slot), (Bg g1 m1) → (k5 ≤ 16) → (∀ k, k < k5 → m1 (1000 + k) = mg (1020 + k)) → (∀ q, (q < 1000 ∨ 1016 ≤ q) → m1 q = mg q) →  (16 < k5 + n9) → va_P (dC, dI) vwCl (WR a k h0 vi vj (fT vF 0 g1) vG) H → va_D A (WR a k h0 vi vj (fT vF 0 g1) vG) → va_S A s.heap H locs → lv_has ls 2 [(0, .ref h0), (1, .int (nI k5))] → W p l e _ s m _ below meth c H locs 0 0 _ (F0 m 2 ls [])) => loop (17) 0 (vF 0) mg _ _ _ (hBg) (by omega) (fun k hk => absurd hk (by omega)) (fun q _ => rfl) (by omega) hP hD hS hl) ?_
  intro n9
  induction n9 with
  | zero => intro k5 g1 m1 H locs ls hB1 hk5 hz ho hf9; exact False.elim (by omega)
  | succ n9 ih2 =>
    intro k5 g1 m1 H locs ls hB1 hk5 hz ho hf2 hP hD hS hl
    refine lv_iload_n hx hb dX12_take_2 rfl (lv_at hl 1 rfl) ?_
    refine lv_bipush (v := 16) hx hb dX12_take_3 (by decide) ?_
    refine lv_icmp_ge (tgt := 28) hx hb dX12_take_5 (by decide) (fun c_5 => ?_) (fun c_5 => ?_)
    · have t_5 : ((k5 : Nat) : Int) ≥ 16 := toI_ge c_5 (nI_toInt (by omega)) (by decide)
      refine lv_aload_n hx hb dX12_take_28 rfl (lv_at hl 0 rfl) ?_
      refine lv_iconst (v := 1) hx hb dX12_take_29 (by decide) ?_
      refine va_put (D := (dC, dI)) (ci := 12) (v := .int 1) (ty := .boolean) (C := RX12) (T := TX12) (N := 163) (fs := fM (vS a vi vj)) hx hb hts iwsRX12_take_in12 tyX12 tyX12_ok nmX12 hown hK hP hD hS 0 rfl rfl 113 (by decide) (hts (.fieldLink RX12 811 "OptimaWorksModel" "hasAnswer" "Z") (by decide +kernel)) (fun _ h9 => h9) rfl (by decide +kernel) rfl rfl (Nat.le_of_ble_eq_true rfl) dX12_take_30 (fun H locs hP hD hS => ?_)
      have hP : va_P (dC, dI) vwCl (WR a k h0 (fT vi 113 1) vj (fT vF 0 g1) vG) H := by rw [← WR_i 113 _ rfl]; exact hP
      have hD : va_D A (WR a k h0 (fT vi 113 1) vj (fT vF 0 g1) vG) := by rw [← WR_i 113 _ rfl]; exact hD
      refine W.widen (k := 0) (n := 0) (by decide +kernel) (by decide +kernel) ?_
      exact W.vret hx hb hr (fun t9_ ht hW => ⟨⟨(g1, m1), rfl, by (try dsimp only); exact ⟨hB1, fun k hk => hz k (by omega), ho⟩, by rw [ht]; exact hP, hD⟩, hS.F ht⟩) hS.2.2 dX12_take_33
    · have t_5 : ¬ ((k5 : Nat) : Int) ≥ 16 := toI_nge c_5 (nI_toInt (by omega)) (by decide)
      refine lv_aload_n hx hb dX12_take_8 rfl (lv_at hl 0 rfl) ?_
      refine lv_sipush (v := 1000) hx hb dX12_take_9 (by decide) ?_
      refine lv_iload_n hx hb dX12_take_12 rfl (lv_at hl 1 rfl) ?_
      refine lv_iadd hx hb dX12_take_13 ?_
      refine lv_topi (fun y1 hy1 => ?_)
      obtain rfl : (nI (1000 + k5)) = y1 := (hy1.trans (nI_add 1000 k5)).symm
      refine lv_sipush (v := 1020) hx hb dX12_take_14 (by decide) ?_
      refine lv_iload_n hx hb dX12_take_17 rfl (lv_at hl 1 rfl) ?_
      refine lv_iadd hx hb dX12_take_18 ?_
      refine lv_topi (fun y2 hy2 => ?_)
      obtain rfl : (nI (1020 + k5)) = y2 := (hy2.trans (nI_add 1020 k5)).symm
      have hFc := allFree hD hS hA
      refine va_callv (va_runV (As := [.int (nI (1000 + k5)), .int (nI (1020 + k5))]) (rest := []) ⟨hx, hb, hml, hown, hts⟩ (b_X12_copy l dC dI a k h0 vi vj (fT vF 0 g1) vG (1000 + k5) (1020 + k5) m1 hB1 (mg (1020 + k5)) (by rw [ho (1020 + k5) (by omega)]) (by first | assumption | decide | omega | rfl) (by first | assumption | decide | omega | rfl) (by first | assumption | decide | omega | rfl) H.size) (cwV 2 hts gwsRX12_take_0 rfl rfl rfl (by decide +kernel) ⟨by decide +kernel, by decide +kernel⟩) ⟨fun a U g mk q => by obtain ⟨q0, q1, qP, qK, qD⟩ := q; exact ⟨q0, q1, qP, va_K.moved (u := U) (U := U.calling g mk a) (Vm.Alike.refl U.vm) qK, qD⟩, va_recv hK hP (ci := 12) (q0 := 0) rfl rfl, fun U hU9 hW => ⟨rfl, by rw [hU9], by rw [hU9]; exact hP, va_K.moved hW.alike hK, hD.weaken (fun _ _ _ _ => trivial)⟩⟩ rfl rfl hl.1 rfl (lv_room (Nat.le_of_ble_eq_true rfl)) dX12_take_19 ⟨by decide +kernel, by decide +kernel⟩) hS (fun q _ h => hFc q h) hFc (fun u t9_ H1 locs ht hvm hw9 hB9 hz1 hk1 hS => ?_)
      obtain ⟨g19, hwit19⟩ : ∃ w9, w9 = u := ⟨u, rfl⟩
      subst hwit19
      obtain ⟨hP1, hD1⟩ := hB9
      rw [ht] at hP1
      have hP := hP1
      have hD := hD1.weaken (fun _ q _ h => hFc q.1 h)
      generalize H1 = H at hP hS ⊢
      have hP : va_P (dC, dI) vwCl (WR a k h0 vi vj (fT (fT vF 0 g1) 0 g19) vG) H := hP
      have hD : va_D A (WR a k h0 vi vj (fT (fT vF 0 g1) 0 g19) vG) := hD
      have e9 : fT vF 0 g19 = fT (fT vF 0 g1) 0 g19 := (fT_sm _ _ _ _).symm
      rw [← e9] at hP hD
      clear e9
      have hP : va_P (dC, dI) vwCl (WR a k h0 vi vj (fT vF 0 g19) vG) H := hP
      have hD : va_D A (WR a k h0 vi vj (fT vF 0 g19) vG) := hD
      have f19_0 := hw9
      try dsimp only at f19_0
      refine lv_iinc (v := (nI (k5 + 1))) hx hb dX12_take_22 hl (k := 1) rfl (nI_add k5 1) (by decide) rfl (fun ls (hl : lv_has ls _ ([(1, .int (nI (k5 + 1))), (0, .ref h0)])) => ?_)
      refine lv_goto (tgt := 2) hx hb dX12_take_25 (by decide) ?_
      have hl : lv_has _ _ ([(0, .ref h0), (1, .int (nI (k5 + 1)))]) := lv_sub hl [1, 0] rfl
      exact ih2 (k5 + 1) g19 (fT m1 (1000 + k5) (mg (1020 + k5))) _ _ _ (f19_0) (by omega) (fun k hk => by by_cases e9 : k = k5; (rw [e9, fT_eq]); (rw [fT_ne _ _ (by omega)]; exact hz k (by omega))) (fun q hq => by (rw [fT_ne _ _ (by omega)]); exact ho q hq) (by omega) hP hD hS hl
theorem dX12_firstWays_0 : decode cX12_firstWays 0 = .ok (.iconst 0, 1) := dk_3 (by decide +kernel)
theorem dX12_firstWays_1 : decode cX12_firstWays 1 = .ok (.istore_n 1, 1) := dk_60 (by decide +kernel)
theorem dX12_firstWays_2 : decode cX12_firstWays 2 = .ok (.iload_n 1, 1) := dk_27 (by decide +kernel)
theorem dX12_firstWays_3 : decode cX12_firstWays 3 = .ok (.aload_n 0, 1) := dk_42 (by decide +kernel)
theorem dX12_firstWays_4 : decode cX12_firstWays 4 = .ok (.getfield 786, 3) := dk_180 (by decide +kernel)
theorem dX12_firstWays_7 : decode cX12_firstWays 7 = .ok (.if_icmp .ge 16, 3) := dk_162 (by decide +kernel)
theorem dX12_firstWays_10 : decode cX12_firstWays 10 = .ok (.aload_n 0, 1) := dk_42 (by decide +kernel)
theorem dX12_firstWays_11 : decode cX12_firstWays 11 = .ok (.getfield 230, 3) := dk_180 (by decide +kernel)
theorem dX12_firstWays_14 : decode cX12_firstWays 14 = .ok (.iload_n 1, 1) := dk_27 (by decide +kernel)
theorem dX12_firstWays_15 : decode cX12_firstWays 15 = .ok (.iconst 0, 1) := dk_3 (by decide +kernel)
theorem dX12_firstWays_16 : decode cX12_firstWays 16 = .ok (.iastore, 1) := dk_79 (by decide +kernel)
theorem dX12_firstWays_17 : decode cX12_firstWays 17 = .ok (.iinc 1 1, 3) := dk_132 (by decide +kernel)
theorem dX12_firstWays_20 : decode cX12_firstWays 20 = .ok (.goto (-18), 3) := dk_167 (by decide +kernel)
theorem dX12_firstWays_23 : decode cX12_firstWays 23 = .ok (.return_, 1) := dk_177 (by decide +kernel)
def wsRX12_firstWays : List Cond := .code yX12_firstWays cX12_firstWays 2 none :: ([.fieldLink RX12 786 "OptimaWorksModel" "modelRows" "I", .fieldLink RX12 230 "OptimaWorksModel" "chosen" "[I"] ++ wsX120)
theorem iwsRX12_firstWays_in12 : ∀ w ∈ wsX120, w ∈ wsRX12_firstWays := fun _ h => List.mem_cons_of_mem _ (List.mem_append_right _ h)
theorem gdwsRX12_firstWays : wsRX12_firstWays.all goodWord = true := gdC rfl (gdA (by decide +kernel : ([.fieldLink RX12 786 "OptimaWorksModel" "modelRows" "I", .fieldLink RX12 230 "OptimaWorksModel" "chosen" "[I"] : List Cond).all goodWord = true) gdwsX120)
set_option maxHeartbeats 4000000 in
set_option maxRecDepth 100000 in
/-- firstWays() -/
theorem r_X12_firstWays (l : Launch) (dC : Nat → ClassId) (dI : Nat → Nat → Nat) (a : Nat → Nat) (k : Nat → ClassId) (h0 : Nat) (vi : Nat → Int32) (vj : Nat → Int64) (vF : Nat → Nat → Int32) (vG : Nat → Nat → Int64) (mr : Nat) (hmr : vi 91 = nI mr) (hmr12 : mr ≤ 12) (sz : Nat) : Met l yX12_firstWays wsRX12_firstWays ({ frames := 0, cells := 0, slots := 0, locals := 0 }) (va_Pc [.ref h0] (fun U => U.heap.size = sz ∧ va_P (dC, dI) vwCl (WR a k h0 vi vj vF vG) U.heap ∧ va_K (dC, dI) vwCl (tX12 k) U ∧ va_D (fun _ => True) (WR a k h0 vi vj vF vG))) (va_Qv (fun (u : Nat → Int32) => (∀ r, r < mr → u r = 0)) (fun (u : Nat → Int32) t => va_P (dC, dI) vwCl (WR a k h0 vi vj (fT vF 69 u) vG) t.heap ∧ va_D (va_A (WR a k h0 vi vj vF vG) sz) (WR a k h0 vi vj (fT vF 69 u) vG)) (va_A (WR a k h0 vi vj vF vG) sz)) 0 0 (va_A (WR a k h0 vi vj vF vG) sz) := by
  refine Met.ofW (cc := cX12_firstWays) (maxL := 2) (ret := none) (by decide) rfl ?_
  intro p e s m args below meth c s₁ B hml hv
  obtain ⟨rfl, hsz, hP, hK, hD0⟩ := hv
  have hx := B.exec
  have hb := B.bytes
  have hr := B.returns
  have hts := atoms_spec (ws := wsRX12_firstWays) B.pre
  have hown : s.vm.findClass RX12 = some m.cls := findClass_of_methodNamed B.named
  have hlocks := B.notSynchronized
  subst hsz
  have hD := hD0.self (sz := s.heap.size)
  generalize hAe : va_A (WR a k h0 vi vj vF vG) s.heap.size = A at hD ⊢
  have hA : ∀ q : Nat, s.heap.size ≤ q → A q := fun q h => by rw [← hAe]; exact Or.inr h
  have hS : va_S A s.heap s.heap [] := va_S.rf
  have hl := lv_entry ([.ref h0]) (n := 2) (Nat.le_of_ble_eq_true rfl)
  rw [lg_entry_eq]
  generalize (lg_sl ([.ref h0]) ++ List.replicate (2 - (lg_sl ([.ref h0])).length) Slot.unset).toArray = ls at hl ⊢
  have hl : lv_has ls 2 [(0, .ref h0)] := hl
  refine lv_iconst (v := 0) hx hb dX12_firstWays_0 (by decide) ?_
  refine lv_istore_n hx hb dX12_firstWays_1 rfl hl (by decide) rfl (fun ls (hl : lv_has ls _ ([(1, .int 0), (0, .ref h0)])) => ?_)
  have e9 : fT vF 69 (vF 69) = vF := by funext q9; by_cases h9_69 : q9 = 69; (subst h9_69; exact (fT_eq _ _ _).trans (Eq.trans (by first | rfl | assumption | (symm; assumption) | (subst_vars; rfl)) (Eq.refl _).symm)); exact (fT_ne _ _ h9_69).trans (Eq.refl _).symm
  have hP : va_P (dC, dI) vwCl (WR a k h0 vi vj (fT vF 69 (vF 69)) vG) s.heap := by rw [e9]; exact hP
  have hD : va_D A (WR a k h0 vi vj (fT vF 69 (vF 69)) vG) := by rw [e9]; exact hD
  clear e9
  have hl : lv_has _ _ ([(0, .ref h0), (1, .int (nI 0))]) := lv_sub hl [1, 0] rfl
  refine (fun (loop : ∀ (n9 : Nat) (i : Nat) (f69 : Nat → Int32) (H : Heap) (locs : List Loc) (ls : Array Slot), (i ≤ mr) → (∀ r, r < i → f69 r = 0) →  (mr < i + n9) → va_P (dC, dI) vwCl (WR a k h0 vi vj (fT vF 69 f69) vG) H → va_D A (WR a k h0 vi vj (fT vF 69 f69) vG) → va_S A s.heap H locs → lv_has ls 2 [(0, .ref h0), (1, .int (nI i))] → W p l e _ s m _ below meth c H locs 0 0 _ (F0 m 2 ls [])) => loop (mr + 1) 0 (vF 69) _ _ _ (by omega) (fun r hr9 => absurd hr9 (by omega)) (by omega) hP hD hS hl) ?_
  intro n9
  induction n9 with
  | zero => intro i f69 H locs ls hi hz hf9; exact False.elim (by omega)
  | succ n9 ih2 =>
    intro i f69 H locs ls hi hz hf2 hP hD hS hl
    refine lv_iload_n hx hb dX12_firstWays_2 rfl (lv_at hl 1 rfl) ?_
    refine lv_aload_n hx hb dX12_firstWays_3 rfl (lv_at hl 0 rfl) ?_
    refine va_get (D := (dC, dI)) (ci := 12) (v := .int (vi 91)) (C := RX12) (T := TX12) (N := 163) (fs := fM (vS a vi vj)) hx hb hts iwsRX12_firstWays_in12 hown hK hP 0 rfl rfl 91 (by decide) (hts (.fieldLink RX12 786 "OptimaWorksModel" "modelRows" "I") (by decide +kernel)) (fun _ h9 => h9) rfl dX12_firstWays_4 ?_
    refine lv_topi (fun y1 hy1 => ?_)
    obtain rfl : (nI mr) = y1 := (hy1.trans (hmr)).symm
    refine lv_icmp_ge (tgt := 23) hx hb dX12_firstWays_7 (by decide) (fun c_7 => ?_) (fun c_7 => ?_)
    · have t_7 : ((i : Nat) : Int) ≥ ((mr : Nat) : Int) := toI_ge c_7 (nI_toInt (by omega)) (nI_toInt (by omega))
      refine W.widen (k := 0) (n := 0) (by decide +kernel) (by decide +kernel) ?_
      exact W.vret hx hb hr (fun t9_ ht hW => ⟨⟨f69, rfl, by (try dsimp only); exact fun r hr9 => hz r (by omega), by rw [ht]; exact hP, hD⟩, hS.F ht⟩) hS.2.2 dX12_firstWays_23
    · have t_7 : ¬ ((i : Nat) : Int) ≥ ((mr : Nat) : Int) := toI_nge c_7 (nI_toInt (by omega)) (nI_toInt (by omega))
      refine lv_aload_n hx hb dX12_firstWays_10 rfl (lv_at hl 0 rfl) ?_
      refine va_get (D := (dC, dI)) (ci := 12) (v := .ref (a 69)) (C := RX12) (T := TX12) (N := 163) (fs := fM (vS a vi vj)) hx hb hts iwsRX12_firstWays_in12 hown hK hP 0 rfl rfl 114 (by decide) (hts (.fieldLink RX12 230 "OptimaWorksModel" "chosen" "[I") (by decide +kernel)) (fun _ h9 => h9) rfl dX12_firstWays_11 ?_
      refine lv_iload_n hx hb dX12_firstWays_14 rfl (lv_at hl 1 rfl) ?_
      refine lv_iconst (v := 0) hx hb dX12_firstWays_15 (by decide) ?_
      refine va_iast (cA := k 69) (n := 13) (f := f69) hx hb hK hP hD hS 70 69 (WR_get 69 (by decide)) (TR_get 69 (by decide)) (vp_in_nI (show i < 13 by omega) (by omega)) dX12_firstWays_16 (fun H locs hP hD hS => ?_)
      have e9 : fT vF 69 (upd f69 ((nI i)).toNatClampNeg 0) = fT (fT vF 69 f69) 69 (upd f69 ((nI i)).toNatClampNeg 0) := (fT_sm _ _ _ _).symm
      have hP : va_P (dC, dI) vwCl (WR a k h0 vi vj (fT vF 69 (upd f69 ((nI i)).toNatClampNeg 0)) vG) H := by rw [e9, ← WR_F 69 (by decide) _ rfl]; exact hP
      have hD : va_D A (WR a k h0 vi vj (fT vF 69 (upd f69 ((nI i)).toNatClampNeg 0)) vG) := by rw [e9, ← WR_F 69 (by decide) _ rfl]; exact hD
      clear e9
      refine lv_iinc (v := (nI (i + 1))) hx hb dX12_firstWays_17 hl (k := 1) rfl (nI_add i 1) (by decide) rfl (fun ls (hl : lv_has ls _ ([(1, .int (nI (i + 1))), (0, .ref h0)])) => ?_)
      refine lv_goto (tgt := 2) hx hb dX12_firstWays_20 (by decide) ?_
      have hl : lv_has _ _ ([(0, .ref h0), (1, .int (nI (i + 1)))]) := lv_sub hl [1, 0] rfl
      exact ih2 (i + 1) (upd f69 ((nI i)).toNatClampNeg 0) _ _ _ (by omega) (fun r hr9 => by rw [upd_at (by omega)]; by_cases e9 : r = i; (rw [if_pos e9]); (rw [if_neg e9]; exact hz r (by omega))) (by omega) hP hD hS hl
theorem dX12_firstValues_0 : decode cX12_firstValues 0 = .ok (.iconst 0, 1) := dk_3 (by decide +kernel)
theorem dX12_firstValues_1 : decode cX12_firstValues 1 = .ok (.istore_n 1, 1) := dk_60 (by decide +kernel)
theorem dX12_firstValues_2 : decode cX12_firstValues 2 = .ok (.iload_n 1, 1) := dk_27 (by decide +kernel)
theorem dX12_firstValues_3 : decode cX12_firstValues 3 = .ok (.aload_n 0, 1) := dk_42 (by decide +kernel)
theorem dX12_firstValues_4 : decode cX12_firstValues 4 = .ok (.getfield 774, 3) := dk_180 (by decide +kernel)
theorem dX12_firstValues_7 : decode cX12_firstValues 7 = .ok (.if_icmp .ge 21, 3) := dk_162 (by decide +kernel)
theorem dX12_firstValues_10 : decode cX12_firstValues 10 = .ok (.aload_n 0, 1) := dk_42 (by decide +kernel)
theorem dX12_firstValues_11 : decode cX12_firstValues 11 = .ok (.getfield 233, 3) := dk_180 (by decide +kernel)
theorem dX12_firstValues_14 : decode cX12_firstValues 14 = .ok (.iload_n 1, 1) := dk_27 (by decide +kernel)
theorem dX12_firstValues_15 : decode cX12_firstValues 15 = .ok (.aload_n 0, 1) := dk_42 (by decide +kernel)
theorem dX12_firstValues_16 : decode cX12_firstValues 16 = .ok (.getfield 191, 3) := dk_180 (by decide +kernel)
theorem dX12_firstValues_19 : decode cX12_firstValues 19 = .ok (.iload_n 1, 1) := dk_27 (by decide +kernel)
theorem dX12_firstValues_20 : decode cX12_firstValues 20 = .ok (.iaload, 1) := dk_46 (by decide +kernel)
theorem dX12_firstValues_21 : decode cX12_firstValues 21 = .ok (.iastore, 1) := dk_79 (by decide +kernel)
theorem dX12_firstValues_22 : decode cX12_firstValues 22 = .ok (.iinc 1 1, 3) := dk_132 (by decide +kernel)
theorem dX12_firstValues_25 : decode cX12_firstValues 25 = .ok (.goto (-23), 3) := dk_167 (by decide +kernel)
theorem dX12_firstValues_28 : decode cX12_firstValues 28 = .ok (.return_, 1) := dk_177 (by decide +kernel)
def wsRX12_firstValues : List Cond := .code yX12_firstValues cX12_firstValues 2 none :: ([.fieldLink RX12 774 "OptimaWorksModel" "variables" "I", .fieldLink RX12 233 "OptimaWorksModel" "value" "[I", .fieldLink RX12 191 "OptimaWorksModel" "low" "[I"] ++ wsX120)
theorem iwsRX12_firstValues_in12 : ∀ w ∈ wsX120, w ∈ wsRX12_firstValues := fun _ h => List.mem_cons_of_mem _ (List.mem_append_right _ h)
theorem gdwsRX12_firstValues : wsRX12_firstValues.all goodWord = true := gdC rfl (gdA (by decide +kernel : ([.fieldLink RX12 774 "OptimaWorksModel" "variables" "I", .fieldLink RX12 233 "OptimaWorksModel" "value" "[I", .fieldLink RX12 191 "OptimaWorksModel" "low" "[I"] : List Cond).all goodWord = true) gdwsX120)
set_option maxHeartbeats 4000000 in
set_option maxRecDepth 100000 in
/-- firstValues() -/
theorem r_X12_firstValues (l : Launch) (dC : Nat → ClassId) (dI : Nat → Nat → Nat) (a : Nat → Nat) (k : Nat → ClassId) (h0 : Nat) (vi : Nat → Int32) (vj : Nat → Int64) (vF : Nat → Nat → Int32) (vG : Nat → Nat → Int64) (vn : Nat) (hvn : vi 90 = nI vn) (hvn8 : vn ≤ 8) (sz : Nat) : Met l yX12_firstValues wsRX12_firstValues ({ frames := 0, cells := 0, slots := 0, locals := 0 }) (va_Pc [.ref h0] (fun U => U.heap.size = sz ∧ va_P (dC, dI) vwCl (WR a k h0 vi vj vF vG) U.heap ∧ va_K (dC, dI) vwCl (tX12 k) U ∧ va_D (fun _ => True) (WR a k h0 vi vj vF vG))) (va_Qv (fun (u : Nat → Int32) => (∀ k, k < vn → u k = vF 56 k) ∧ (∀ k, vn ≤ k → u k = vF 70 k)) (fun (u : Nat → Int32) t => va_P (dC, dI) vwCl (WR a k h0 vi vj (fT vF 70 u) vG) t.heap ∧ va_D (va_A (WR a k h0 vi vj vF vG) sz) (WR a k h0 vi vj (fT vF 70 u) vG)) (va_A (WR a k h0 vi vj vF vG) sz)) 0 0 (va_A (WR a k h0 vi vj vF vG) sz) := by
  refine Met.ofW (cc := cX12_firstValues) (maxL := 2) (ret := none) (by decide) rfl ?_
  intro p e s m args below meth c s₁ B hml hv
  obtain ⟨rfl, hsz, hP, hK, hD0⟩ := hv
  have hx := B.exec
  have hb := B.bytes
  have hr := B.returns
  have hts := atoms_spec (ws := wsRX12_firstValues) B.pre
  have hown : s.vm.findClass RX12 = some m.cls := findClass_of_methodNamed B.named
  have hlocks := B.notSynchronized
  subst hsz
  have hD := hD0.self (sz := s.heap.size)
  generalize hAe : va_A (WR a k h0 vi vj vF vG) s.heap.size = A at hD ⊢
  have hA : ∀ q : Nat, s.heap.size ≤ q → A q := fun q h => by rw [← hAe]; exact Or.inr h
  have hS : va_S A s.heap s.heap [] := va_S.rf
  have hl := lv_entry ([.ref h0]) (n := 2) (Nat.le_of_ble_eq_true rfl)
  rw [lg_entry_eq]
  generalize (lg_sl ([.ref h0]) ++ List.replicate (2 - (lg_sl ([.ref h0])).length) Slot.unset).toArray = ls at hl ⊢
  have hl : lv_has ls 2 [(0, .ref h0)] := hl
  refine lv_iconst (v := 0) hx hb dX12_firstValues_0 (by decide) ?_
  refine lv_istore_n hx hb dX12_firstValues_1 rfl hl (by decide) rfl (fun ls (hl : lv_has ls _ ([(1, .int 0), (0, .ref h0)])) => ?_)
  have e9 : fT vF 70 (vF 70) = vF := by funext q9; by_cases h9_70 : q9 = 70; (subst h9_70; exact (fT_eq _ _ _).trans (Eq.trans (by first | rfl | assumption | (symm; assumption) | (subst_vars; rfl)) (Eq.refl _).symm)); exact (fT_ne _ _ h9_70).trans (Eq.refl _).symm
  have hP : va_P (dC, dI) vwCl (WR a k h0 vi vj (fT vF 70 (vF 70)) vG) s.heap := by rw [e9]; exact hP
  have hD : va_D A (WR a k h0 vi vj (fT vF 70 (vF 70)) vG) := by rw [e9]; exact hD
  clear e9
  have hl : lv_has _ _ ([(0, .ref h0), (1, .int (nI 0))]) := lv_sub hl [1, 0] rfl
  refine (fun (loop : ∀ (n9 : Nat) (i : Nat) (f70 : Nat → Int32) (H : Heap) (locs : List Loc) (ls : Array Slot), (i ≤ vn) → (∀ r, r < i → f70 r = vF 56 r) → (∀ r, i ≤ r → f70 r = vF 70 r) →  (vn < i + n9) → va_P (dC, dI) vwCl (WR a k h0 vi vj (fT vF 70 f70) vG) H → va_D A (WR a k h0 vi vj (fT vF 70 f70) vG) → va_S A s.heap H locs → lv_has ls 2 [(0, .ref h0), (1, .int (nI i))] → W p l e _ s m _ below meth c H locs 0 0 _ (F0 m 2 ls [])) => loop (vn + 1) 0 (vF 70) _ _ _ (by omega) (fun r hr9 => absurd hr9 (by omega)) (fun r _ => rfl) (by omega) hP hD hS hl) ?_
  intro n9
  induction n9 with
  | zero => intro i f70 H locs ls hi hz hz2 hf9; exact False.elim (by omega)
  | succ n9 ih2 =>
    intro i f70 H locs ls hi hz hz2 hf2 hP hD hS hl
    refine lv_iload_n hx hb dX12_firstValues_2 rfl (lv_at hl 1 rfl) ?_
    refine lv_aload_n hx hb dX12_firstValues_3 rfl (lv_at hl 0 rfl) ?_
    refine va_get (D := (dC, dI)) (ci := 12) (v := .int (vi 90)) (C := RX12) (T := TX12) (N := 163) (fs := fM (vS a vi vj)) hx hb hts iwsRX12_firstValues_in12 hown hK hP 0 rfl rfl 90 (by decide) (hts (.fieldLink RX12 774 "OptimaWorksModel" "variables" "I") (by decide +kernel)) (fun _ h9 => h9) rfl dX12_firstValues_4 ?_
    refine lv_topi (fun y1 hy1 => ?_)
    obtain rfl : (nI vn) = y1 := (hy1.trans (hvn)).symm
    refine lv_icmp_ge (tgt := 28) hx hb dX12_firstValues_7 (by decide) (fun c_7 => ?_) (fun c_7 => ?_)
    · have t_7 : ((i : Nat) : Int) ≥ ((vn : Nat) : Int) := toI_ge c_7 (nI_toInt (by omega)) (nI_toInt (by omega))
      refine W.widen (k := 0) (n := 0) (by decide +kernel) (by decide +kernel) ?_
      exact W.vret hx hb hr (fun t9_ ht hW => ⟨⟨f70, rfl, by (try dsimp only); exact ⟨fun r hr9 => hz r (by omega), fun r hr9 => hz2 r (by omega)⟩, by rw [ht]; exact hP, hD⟩, hS.F ht⟩) hS.2.2 dX12_firstValues_28
    · have t_7 : ¬ ((i : Nat) : Int) ≥ ((vn : Nat) : Int) := toI_nge c_7 (nI_toInt (by omega)) (nI_toInt (by omega))
      refine lv_aload_n hx hb dX12_firstValues_10 rfl (lv_at hl 0 rfl) ?_
      refine va_get (D := (dC, dI)) (ci := 12) (v := .ref (a 70)) (C := RX12) (T := TX12) (N := 163) (fs := fM (vS a vi vj)) hx hb hts iwsRX12_firstValues_in12 hown hK hP 0 rfl rfl 115 (by decide) (hts (.fieldLink RX12 233 "OptimaWorksModel" "value" "[I") (by decide +kernel)) (fun _ h9 => h9) rfl dX12_firstValues_11 ?_
      refine lv_iload_n hx hb dX12_firstValues_14 rfl (lv_at hl 1 rfl) ?_
      refine lv_aload_n hx hb dX12_firstValues_15 rfl (lv_at hl 0 rfl) ?_
      refine va_get (D := (dC, dI)) (ci := 12) (v := .ref (a 56)) (C := RX12) (T := TX12) (N := 163) (fs := fM (vS a vi vj)) hx hb hts iwsRX12_firstValues_in12 hown hK hP 0 rfl rfl 96 (by decide) (hts (.fieldLink RX12 191 "OptimaWorksModel" "low" "[I") (by decide +kernel)) (fun _ h9 => h9) rfl dX12_firstValues_16 ?_
      refine lv_iload_n hx hb dX12_firstValues_19 rfl (lv_at hl 1 rfl) ?_
      refine va_iald (cA := k 56) (n := 9) (f := (vF 56)) hx hb hK hP 57 56 (WR_get 56 (by decide)) (TR_get 56 (by decide)) (vp_in_nI (show i < 9 by omega) (by omega)) dX12_firstValues_20 ?_
      refine lv_topi (fun y2 hy2 => ?_)
      obtain rfl : ((vF 56) i) = y2 := (hy2.trans (by rw [nI_clamp (by omega)])).symm
      refine va_iast (cA := k 70) (n := 9) (f := f70) hx hb hK hP hD hS 71 70 (WR_get 70 (by decide)) (TR_get 70 (by decide)) (vp_in_nI (show i < 9 by omega) (by omega)) dX12_firstValues_21 (fun H locs hP hD hS => ?_)
      have e9 : fT vF 70 (upd f70 ((nI i)).toNatClampNeg ((vF 56) i)) = fT (fT vF 70 f70) 70 (upd f70 ((nI i)).toNatClampNeg ((vF 56) i)) := (fT_sm _ _ _ _).symm
      have hP : va_P (dC, dI) vwCl (WR a k h0 vi vj (fT vF 70 (upd f70 ((nI i)).toNatClampNeg ((vF 56) i))) vG) H := by rw [e9, ← WR_F 70 (by decide) _ rfl]; exact hP
      have hD : va_D A (WR a k h0 vi vj (fT vF 70 (upd f70 ((nI i)).toNatClampNeg ((vF 56) i))) vG) := by rw [e9, ← WR_F 70 (by decide) _ rfl]; exact hD
      clear e9
      refine lv_iinc (v := (nI (i + 1))) hx hb dX12_firstValues_22 hl (k := 1) rfl (nI_add i 1) (by decide) rfl (fun ls (hl : lv_has ls _ ([(1, .int (nI (i + 1))), (0, .ref h0)])) => ?_)
      refine lv_goto (tgt := 2) hx hb dX12_firstValues_25 (by decide) ?_
      have hl : lv_has _ _ ([(0, .ref h0), (1, .int (nI (i + 1)))]) := lv_sub hl [1, 0] rfl
      exact ih2 (i + 1) (upd f70 ((nI i)).toNatClampNeg ((vF 56) i)) _ _ _ (by omega) (fun r hr9 => by rw [upd_at (by omega)]; by_cases e9 : r = i; (rw [if_pos e9, e9]); (rw [if_neg e9]; exact hz r (by omega))) (fun r hr9 => by rw [upd_at (by omega), if_neg (by omega)]; exact hz2 r (by omega)) (by omega) hP hD hS hl
theorem dX12_differ_0 : decode cX12_differ 0 = .ok (.iconst 0, 1) := dk_3 (by decide +kernel)
theorem dX12_differ_1 : decode cX12_differ 1 = .ok (.istore_n 1, 1) := dk_60 (by decide +kernel)
theorem dX12_differ_2 : decode cX12_differ 2 = .ok (.iload_n 1, 1) := dk_27 (by decide +kernel)
theorem dX12_differ_3 : decode cX12_differ 3 = .ok (.aload_n 0, 1) := dk_42 (by decide +kernel)
theorem dX12_differ_4 : decode cX12_differ 4 = .ok (.getfield 802, 3) := dk_180 (by decide +kernel)
theorem dX12_differ_7 : decode cX12_differ 7 = .ok (.if_icmp .ge 88, 3) := dk_162 (by decide +kernel)
theorem dX12_differ_10 : decode cX12_differ 10 = .ok (.iconst 0, 1) := dk_3 (by decide +kernel)
theorem dX12_differ_11 : decode cX12_differ 11 = .ok (.istore_n 2, 1) := dk_61 (by decide +kernel)
theorem dX12_differ_12 : decode cX12_differ 12 = .ok (.iload_n 2, 1) := dk_28 (by decide +kernel)
theorem dX12_differ_13 : decode cX12_differ 13 = .ok (.aload_n 0, 1) := dk_42 (by decide +kernel)
theorem dX12_differ_14 : decode cX12_differ 14 = .ok (.getfield 774, 3) := dk_180 (by decide +kernel)
theorem dX12_differ_17 : decode cX12_differ 17 = .ok (.if_icmp .ge 72, 3) := dk_162 (by decide +kernel)
theorem dX12_differ_20 : decode cX12_differ 20 = .ok (.iload_n 2, 1) := dk_28 (by decide +kernel)
theorem dX12_differ_21 : decode cX12_differ 21 = .ok (.iconst 1, 1) := dk_4 (by decide +kernel)
theorem dX12_differ_22 : decode cX12_differ 22 = .ok (.iadd, 1) := dk_96 (by decide +kernel)
theorem dX12_differ_23 : decode cX12_differ 23 = .ok (.istore_n 3, 1) := dk_62 (by decide +kernel)
theorem dX12_differ_24 : decode cX12_differ 24 = .ok (.iload_n 3, 1) := dk_29 (by decide +kernel)
theorem dX12_differ_25 : decode cX12_differ 25 = .ok (.aload_n 0, 1) := dk_42 (by decide +kernel)
theorem dX12_differ_26 : decode cX12_differ 26 = .ok (.getfield 774, 3) := dk_180 (by decide +kernel)
theorem dX12_differ_29 : decode cX12_differ 29 = .ok (.if_icmp .ge 54, 3) := dk_162 (by decide +kernel)
theorem dX12_differ_32 : decode cX12_differ 32 = .ok (.aload_n 0, 1) := dk_42 (by decide +kernel)
theorem dX12_differ_33 : decode cX12_differ 33 = .ok (.getfield 209, 3) := dk_180 (by decide +kernel)
theorem dX12_differ_36 : decode cX12_differ 36 = .ok (.iload_n 1, 1) := dk_27 (by decide +kernel)
theorem dX12_differ_37 : decode cX12_differ 37 = .ok (.iaload, 1) := dk_46 (by decide +kernel)
theorem dX12_differ_38 : decode cX12_differ 38 = .ok (.iload_n 2, 1) := dk_28 (by decide +kernel)
theorem dX12_differ_39 : decode cX12_differ 39 = .ok (.ishr, 1) := dk_122 (by decide +kernel)
theorem dX12_differ_40 : decode cX12_differ 40 = .ok (.iconst 1, 1) := dk_4 (by decide +kernel)
theorem dX12_differ_41 : decode cX12_differ 41 = .ok (.iand, 1) := dk_126 (by decide +kernel)
theorem dX12_differ_42 : decode cX12_differ 42 = .ok (.iconst 1, 1) := dk_4 (by decide +kernel)
theorem dX12_differ_43 : decode cX12_differ 43 = .ok (.if_icmp .ne 34, 3) := dk_160 (by decide +kernel)
theorem dX12_differ_46 : decode cX12_differ 46 = .ok (.aload_n 0, 1) := dk_42 (by decide +kernel)
theorem dX12_differ_47 : decode cX12_differ 47 = .ok (.getfield 209, 3) := dk_180 (by decide +kernel)
theorem dX12_differ_50 : decode cX12_differ 50 = .ok (.iload_n 1, 1) := dk_27 (by decide +kernel)
theorem dX12_differ_51 : decode cX12_differ 51 = .ok (.iaload, 1) := dk_46 (by decide +kernel)
theorem dX12_differ_52 : decode cX12_differ 52 = .ok (.iload_n 3, 1) := dk_29 (by decide +kernel)
theorem dX12_differ_53 : decode cX12_differ 53 = .ok (.ishr, 1) := dk_122 (by decide +kernel)
theorem dX12_differ_54 : decode cX12_differ 54 = .ok (.iconst 1, 1) := dk_4 (by decide +kernel)
theorem dX12_differ_55 : decode cX12_differ 55 = .ok (.iand, 1) := dk_126 (by decide +kernel)
theorem dX12_differ_56 : decode cX12_differ 56 = .ok (.iconst 1, 1) := dk_4 (by decide +kernel)
theorem dX12_differ_57 : decode cX12_differ 57 = .ok (.if_icmp .ne 20, 3) := dk_160 (by decide +kernel)
theorem dX12_differ_60 : decode cX12_differ 60 = .ok (.aload_n 0, 1) := dk_42 (by decide +kernel)
theorem dX12_differ_61 : decode cX12_differ 61 = .ok (.getfield 233, 3) := dk_180 (by decide +kernel)
theorem dX12_differ_64 : decode cX12_differ 64 = .ok (.iload_n 2, 1) := dk_28 (by decide +kernel)
theorem dX12_differ_65 : decode cX12_differ 65 = .ok (.iaload, 1) := dk_46 (by decide +kernel)
theorem dX12_differ_66 : decode cX12_differ 66 = .ok (.aload_n 0, 1) := dk_42 (by decide +kernel)
theorem dX12_differ_67 : decode cX12_differ 67 = .ok (.getfield 233, 3) := dk_180 (by decide +kernel)
theorem dX12_differ_70 : decode cX12_differ 70 = .ok (.iload_n 3, 1) := dk_29 (by decide +kernel)
theorem dX12_differ_71 : decode cX12_differ 71 = .ok (.iaload, 1) := dk_46 (by decide +kernel)
theorem dX12_differ_72 : decode cX12_differ 72 = .ok (.if_icmp .ne 5, 3) := dk_160 (by decide +kernel)
theorem dX12_differ_75 : decode cX12_differ 75 = .ok (.iconst 0, 1) := dk_3 (by decide +kernel)
theorem dX12_differ_76 : decode cX12_differ 76 = .ok (.ireturn, 1) := dk_172 (by decide +kernel)
theorem dX12_differ_77 : decode cX12_differ 77 = .ok (.iinc 3 1, 3) := dk_132 (by decide +kernel)
theorem dX12_differ_80 : decode cX12_differ 80 = .ok (.goto (-56), 3) := dk_167 (by decide +kernel)
theorem dX12_differ_83 : decode cX12_differ 83 = .ok (.iinc 2 1, 3) := dk_132 (by decide +kernel)
theorem dX12_differ_86 : decode cX12_differ 86 = .ok (.goto (-74), 3) := dk_167 (by decide +kernel)
theorem dX12_differ_89 : decode cX12_differ 89 = .ok (.iinc 1 1, 3) := dk_132 (by decide +kernel)
theorem dX12_differ_92 : decode cX12_differ 92 = .ok (.goto (-90), 3) := dk_167 (by decide +kernel)
theorem dX12_differ_95 : decode cX12_differ 95 = .ok (.iconst 1, 1) := dk_4 (by decide +kernel)
theorem dX12_differ_96 : decode cX12_differ 96 = .ok (.ireturn, 1) := dk_172 (by decide +kernel)
def wsRX12_differ : List Cond := .code yX12_differ cX12_differ 4 (some .boolean) :: ([.fieldLink RX12 802 "OptimaWorksModel" "differents" "I", .fieldLink RX12 774 "OptimaWorksModel" "variables" "I", .fieldLink RX12 209 "OptimaWorksModel" "differentSet" "[I", .fieldLink RX12 233 "OptimaWorksModel" "value" "[I"] ++ wsX120)
theorem iwsRX12_differ_in12 : ∀ w ∈ wsX120, w ∈ wsRX12_differ := fun _ h => List.mem_cons_of_mem _ (List.mem_append_right _ h)
theorem gdwsRX12_differ : wsRX12_differ.all goodWord = true := gdC rfl (gdA (by decide +kernel : ([.fieldLink RX12 802 "OptimaWorksModel" "differents" "I", .fieldLink RX12 774 "OptimaWorksModel" "variables" "I", .fieldLink RX12 209 "OptimaWorksModel" "differentSet" "[I", .fieldLink RX12 233 "OptimaWorksModel" "value" "[I"] : List Cond).all goodWord = true) gdwsX120)
set_option maxHeartbeats 4000000 in
set_option maxRecDepth 100000 in
/-- differ() -/
theorem r_X12_differ (l : Launch) (dC : Nat → ClassId) (dI : Nat → Nat → Nat) (a : Nat → Nat) (k : Nat → ClassId) (h0 : Nat) (vi : Nat → Int32) (vj : Nat → Int64) (vF : Nat → Nat → Int32) (vG : Nat → Nat → Int64) (vn : Nat) (dn : Nat) (hvn : vi 90 = nI vn) (hvn8 : vn ≤ 8) (hdn : vi 92 = nI dn) (hdn8 : dn ≤ 8) (sz : Nat) : Met l yX12_differ wsRX12_differ ({ frames := 0, cells := 0, slots := 0, locals := 0 }) (va_Pc [.ref h0] (fun U => U.heap.size = sz ∧ va_P (dC, dI) vwCl (WR a k h0 vi vj vF vG) U.heap ∧ va_K (dC, dI) vwCl (tX12 k) U ∧ va_D (fun _ => True) (WR a k h0 vi vj vF vG))) (va_Qi (fun (r : Int32) (u : Unit) => ((r) = 0 ∨ (r) = 1)) (fun (u : Unit) t => va_P (dC, dI) vwCl (WR a k h0 vi vj vF vG) t.heap ∧ va_D (va_A (WR a k h0 vi vj vF vG) sz) (WR a k h0 vi vj vF vG)) (va_A (WR a k h0 vi vj vF vG) sz)) 0 0 (va_A (WR a k h0 vi vj vF vG) sz) := by
  refine Met.ofW (cc := cX12_differ) (maxL := 4) (ret := (some .boolean)) (by decide) rfl ?_
  intro p e s m args below meth c s₁ B hml hv
  obtain ⟨rfl, hsz, hP, hK, hD0⟩ := hv
  have hx := B.exec
  have hb := B.bytes
  have hr := B.returns
  have hts := atoms_spec (ws := wsRX12_differ) B.pre
  have hown : s.vm.findClass RX12 = some m.cls := findClass_of_methodNamed B.named
  have hlocks := B.notSynchronized
  subst hsz
  have hD := hD0.self (sz := s.heap.size)
  generalize hAe : va_A (WR a k h0 vi vj vF vG) s.heap.size = A at hD ⊢
  have hA : ∀ q : Nat, s.heap.size ≤ q → A q := fun q h => by rw [← hAe]; exact Or.inr h
  have hS : va_S A s.heap s.heap [] := va_S.rf
  have hl := lv_entry ([.ref h0]) (n := 4) (Nat.le_of_ble_eq_true rfl)
  rw [lg_entry_eq]
  generalize (lg_sl ([.ref h0]) ++ List.replicate (4 - (lg_sl ([.ref h0])).length) Slot.unset).toArray = ls at hl ⊢
  have hl : lv_has ls 4 [(0, .ref h0)] := hl
  refine lv_iconst (v := 0) hx hb dX12_differ_0 (by decide) ?_
  refine lv_istore_n hx hb dX12_differ_1 rfl hl (by decide) rfl (fun ls (hl : lv_has ls _ ([(1, .int 0), (0, .ref h0)])) => ?_)
  have hl : lv_has _ _ ([(0, .ref h0), (1, .int (nI 0))]) := lv_sub hl [1, 0] rfl
  refine (fun (loop : ∀ (n9 : Nat) (d5 : Nat) (H : Heap) (locs : List Loc) (ls : Array Slot), (d5 ≤ dn) →  (dn < d5 + n9) → va_P (dC, dI) vwCl (WR a k h0 vi vj vF vG) H → va_D A (WR a k h0 vi vj vF vG) → va_S A s.heap H locs → lv_has ls 4 [(0, .ref h0), (1, .int (nI d5))] → W p l e _ s m _ below meth c H locs 0 0 _ (F0 m 2 ls [])) => loop (dn + 1) 0 _ _ _ (by omega) (by omega) hP hD hS hl) ?_
  intro n9
  induction n9 with
  | zero => intro d5 H locs ls hd5 hf9; exact False.elim (by omega)
  | succ n9 ih2 =>
    intro d5 H locs ls hd5 hf2 hP hD hS hl
    refine lv_iload_n hx hb dX12_differ_2 rfl (lv_at hl 1 rfl) ?_
    refine lv_aload_n hx hb dX12_differ_3 rfl (lv_at hl 0 rfl) ?_
    refine va_get (D := (dC, dI)) (ci := 12) (v := .int (vi 92)) (C := RX12) (T := TX12) (N := 163) (fs := fM (vS a vi vj)) hx hb hts iwsRX12_differ_in12 hown hK hP 0 rfl rfl 92 (by decide) (hts (.fieldLink RX12 802 "OptimaWorksModel" "differents" "I") (by decide +kernel)) (fun _ h9 => h9) rfl dX12_differ_4 ?_
    refine lv_topi (fun y1 hy1 => ?_)
    obtain rfl : (nI dn) = y1 := (hy1.trans (hdn)).symm
    refine lv_icmp_ge (tgt := 95) hx hb dX12_differ_7 (by decide) (fun c_7 => ?_) (fun c_7 => ?_)
    · have t_7 : ((d5 : Nat) : Int) ≥ ((dn : Nat) : Int) := toI_ge c_7 (nI_toInt (by omega)) (nI_toInt (by omega))
      refine lv_iconst (v := 1) hx hb dX12_differ_95 (by decide) ?_
      refine W.widen (k := 0) (n := 0) (by decide +kernel) (by decide +kernel) ?_
      exact W.zret (v := 1) hx hb hr rfl (fun t9_ ht hW => ⟨⟨1, (), rfl, by (try dsimp only); exact Or.inr rfl, by rw [ht]; exact hP, hD⟩, hS.F ht⟩) hS.2.2 dX12_differ_96
    · have t_7 : ¬ ((d5 : Nat) : Int) ≥ ((dn : Nat) : Int) := toI_nge c_7 (nI_toInt (by omega)) (nI_toInt (by omega))
      refine lv_iconst (v := 0) hx hb dX12_differ_10 (by decide) ?_
      refine lv_istore_n hx hb dX12_differ_11 rfl hl (by decide) rfl (fun ls (hl : lv_has ls _ ([(2, .int 0), (0, .ref h0), (1, .int (nI d5))])) => ?_)
      have hl : lv_has _ _ ([(0, .ref h0), (1, .int (nI d5)), (2, .int (nI 0))]) := lv_sub hl [1, 2, 0] rfl
      refine (fun (loop : ∀ (n9 : Nat) (i5 : Nat) (H : Heap) (locs : List Loc) (ls : Array Slot), (i5 ≤ vn) →  (vn < i5 + n9) → va_P (dC, dI) vwCl (WR a k h0 vi vj vF vG) H → va_D A (WR a k h0 vi vj vF vG) → va_S A s.heap H locs → lv_has ls 4 [(0, .ref h0), (1, .int (nI d5)), (2, .int (nI i5))] → W p l e _ s m _ below meth c H locs 0 0 _ (F0 m 12 ls [])) => loop (vn + 1) 0 _ _ _ (by omega) (by omega) hP hD hS hl) ?_
      intro n9
      induction n9 with
      | zero => intro i5 H locs ls hi5 hf9; exact False.elim (by omega)
      | succ n9 ih12_1 =>
        intro i5 H locs ls hi5 hf12_1 hP hD hS hl
        refine lv_iload_n hx hb dX12_differ_12 rfl (lv_at hl 2 rfl) ?_
        refine lv_aload_n hx hb dX12_differ_13 rfl (lv_at hl 0 rfl) ?_
        refine va_get (D := (dC, dI)) (ci := 12) (v := .int (vi 90)) (C := RX12) (T := TX12) (N := 163) (fs := fM (vS a vi vj)) hx hb hts iwsRX12_differ_in12 hown hK hP 0 rfl rfl 90 (by decide) (hts (.fieldLink RX12 774 "OptimaWorksModel" "variables" "I") (by decide +kernel)) (fun _ h9 => h9) rfl dX12_differ_14 ?_
        refine lv_topi (fun y2 hy2 => ?_)
        obtain rfl : (nI vn) = y2 := (hy2.trans (hvn)).symm
        refine lv_icmp_ge (tgt := 89) hx hb dX12_differ_17 (by decide) (fun c_17 => ?_) (fun c_17 => ?_)
        · have t_17 : ((i5 : Nat) : Int) ≥ ((vn : Nat) : Int) := toI_ge c_17 (nI_toInt (by omega)) (nI_toInt (by omega))
          refine lv_iinc (v := (nI (d5 + 1))) hx hb dX12_differ_89 hl (k := 1) rfl (nI_add d5 1) (by decide) rfl (fun ls (hl : lv_has ls _ ([(1, .int (nI (d5 + 1))), (0, .ref h0), (2, .int (nI i5))])) => ?_)
          refine lv_goto (tgt := 2) hx hb dX12_differ_92 (by decide) ?_
          have hl : lv_has _ _ ([(0, .ref h0), (1, .int (nI (d5 + 1)))]) := lv_sub hl [1, 0] rfl
          exact ih2 (d5 + 1) _ _ _ (by omega) (by omega) hP hD hS hl
        · have t_17 : ¬ ((i5 : Nat) : Int) ≥ ((vn : Nat) : Int) := toI_nge c_17 (nI_toInt (by omega)) (nI_toInt (by omega))
          refine lv_iload_n hx hb dX12_differ_20 rfl (lv_at hl 2 rfl) ?_
          refine lv_iconst (v := 1) hx hb dX12_differ_21 (by decide) ?_
          refine lv_iadd hx hb dX12_differ_22 ?_
          refine lv_topi (fun y3 hy3 => ?_)
          obtain rfl : (nI (i5 + 1)) = y3 := (hy3.trans (nI_add i5 1)).symm
          refine lv_istore_n hx hb dX12_differ_23 rfl hl (by decide) rfl (fun ls (hl : lv_has ls _ ([(3, .int (nI (i5 + 1))), (0, .ref h0), (1, .int (nI d5)), (2, .int (nI i5))])) => ?_)
          have hl : lv_has _ _ ([(0, .ref h0), (1, .int (nI d5)), (2, .int (nI i5)), (3, .int (nI (i5 + 1)))]) := lv_sub hl [1, 2, 3, 0] rfl
          refine (fun (loop : ∀ (n9 : Nat) (j5 : Nat) (H : Heap) (locs : List Loc) (ls : Array Slot), (j5 ≤ vn) →  (vn < j5 + n9) → va_P (dC, dI) vwCl (WR a k h0 vi vj vF vG) H → va_D A (WR a k h0 vi vj vF vG) → va_S A s.heap H locs → lv_has ls 4 [(0, .ref h0), (1, .int (nI d5)), (2, .int (nI i5)), (3, .int (nI j5))] → W p l e _ s m _ below meth c H locs 0 0 _ (F0 m 24 ls [])) => loop (vn + 1) (i5 + 1) _ _ _ (by omega) (by omega) hP hD hS hl) ?_
          intro n9
          induction n9 with
          | zero => intro j5 H locs ls hj5 hf9; exact False.elim (by omega)
          | succ n9 ih24_2 =>
            intro j5 H locs ls hj5 hf24_2 hP hD hS hl
            refine lv_iload_n hx hb dX12_differ_24 rfl (lv_at hl 3 rfl) ?_
            refine lv_aload_n hx hb dX12_differ_25 rfl (lv_at hl 0 rfl) ?_
            refine va_get (D := (dC, dI)) (ci := 12) (v := .int (vi 90)) (C := RX12) (T := TX12) (N := 163) (fs := fM (vS a vi vj)) hx hb hts iwsRX12_differ_in12 hown hK hP 0 rfl rfl 90 (by decide) (hts (.fieldLink RX12 774 "OptimaWorksModel" "variables" "I") (by decide +kernel)) (fun _ h9 => h9) rfl dX12_differ_26 ?_
            refine lv_topi (fun y4 hy4 => ?_)
            obtain rfl : (nI vn) = y4 := (hy4.trans (hvn)).symm
            refine lv_icmp_ge (tgt := 83) hx hb dX12_differ_29 (by decide) (fun c_29 => ?_) (fun c_29 => ?_)
            · have t_29 : ((j5 : Nat) : Int) ≥ ((vn : Nat) : Int) := toI_ge c_29 (nI_toInt (by omega)) (nI_toInt (by omega))
              refine lv_iinc (v := (nI (i5 + 1))) hx hb dX12_differ_83 hl (k := 2) rfl (nI_add i5 1) (by decide) rfl (fun ls (hl : lv_has ls _ ([(2, .int (nI (i5 + 1))), (0, .ref h0), (1, .int (nI d5)), (3, .int (nI j5))])) => ?_)
              refine lv_goto (tgt := 12) hx hb dX12_differ_86 (by decide) ?_
              have hl : lv_has _ _ ([(0, .ref h0), (1, .int (nI d5)), (2, .int (nI (i5 + 1)))]) := lv_sub hl [1, 2, 0] rfl
              exact ih12_1 (i5 + 1) _ _ _ (by omega) (by omega) hP hD hS hl
            · have t_29 : ¬ ((j5 : Nat) : Int) ≥ ((vn : Nat) : Int) := toI_nge c_29 (nI_toInt (by omega)) (nI_toInt (by omega))
              refine lv_aload_n hx hb dX12_differ_32 rfl (lv_at hl 0 rfl) ?_
              refine va_get (D := (dC, dI)) (ci := 12) (v := .ref (a 62)) (C := RX12) (T := TX12) (N := 163) (fs := fM (vS a vi vj)) hx hb hts iwsRX12_differ_in12 hown hK hP 0 rfl rfl 102 (by decide) (hts (.fieldLink RX12 209 "OptimaWorksModel" "differentSet" "[I") (by decide +kernel)) (fun _ h9 => h9) rfl dX12_differ_33 ?_
              refine lv_iload_n hx hb dX12_differ_36 rfl (lv_at hl 1 rfl) ?_
              refine va_iald (cA := k 62) (n := 9) (f := (vF 62)) hx hb hK hP 63 62 (WR_get 62 (by decide)) (TR_get 62 (by decide)) (vp_in_nI (show d5 < 9 by omega) (by omega)) dX12_differ_37 ?_
              refine lv_topi (fun y5 hy5 => ?_)
              obtain rfl : ((vF 62) d5) = y5 := (hy5.trans (by rw [nI_clamp (by omega)])).symm
              refine lv_iload_n hx hb dX12_differ_38 rfl (lv_at hl 2 rfl) ?_
              refine lv_ishr hx hb dX12_differ_39 ?_
              refine lv_iconst (v := 1) hx hb dX12_differ_40 (by decide) ?_
              refine lv_iand hx hb dX12_differ_41 ?_
              refine lv_iconst (v := 1) hx hb dX12_differ_42 (by decide) ?_
              refine lv_icmp_ne (tgt := 77) hx hb dX12_differ_43 (by decide) (fun c_43 => ?_) (fun c_43 => ?_)
              · have t_43 : (((((vF 62) d5) >>> ((nI i5) &&& 31)) &&& 1)).toInt ≠ 1 := toI_ne c_43 rfl (by decide)
                refine lv_iinc (v := (nI (j5 + 1))) hx hb dX12_differ_77 hl (k := 3) rfl (nI_add j5 1) (by decide) rfl (fun ls (hl : lv_has ls _ ([(3, .int (nI (j5 + 1))), (0, .ref h0), (1, .int (nI d5)), (2, .int (nI i5))])) => ?_)
                refine lv_goto (tgt := 24) hx hb dX12_differ_80 (by decide) ?_
                have hl : lv_has _ _ ([(0, .ref h0), (1, .int (nI d5)), (2, .int (nI i5)), (3, .int (nI (j5 + 1)))]) := lv_sub hl [1, 2, 3, 0] rfl
                exact ih24_2 (j5 + 1) _ _ _ (by omega) (by omega) hP hD hS hl
              · have t_43 : (((((vF 62) d5) >>> ((nI i5) &&& 31)) &&& 1)).toInt = 1 := toI_nne c_43 rfl (by decide)
                refine lv_aload_n hx hb dX12_differ_46 rfl (lv_at hl 0 rfl) ?_
                refine va_get (D := (dC, dI)) (ci := 12) (v := .ref (a 62)) (C := RX12) (T := TX12) (N := 163) (fs := fM (vS a vi vj)) hx hb hts iwsRX12_differ_in12 hown hK hP 0 rfl rfl 102 (by decide) (hts (.fieldLink RX12 209 "OptimaWorksModel" "differentSet" "[I") (by decide +kernel)) (fun _ h9 => h9) rfl dX12_differ_47 ?_
                refine lv_iload_n hx hb dX12_differ_50 rfl (lv_at hl 1 rfl) ?_
                refine va_iald (cA := k 62) (n := 9) (f := (vF 62)) hx hb hK hP 63 62 (WR_get 62 (by decide)) (TR_get 62 (by decide)) (vp_in_nI (show d5 < 9 by omega) (by omega)) dX12_differ_51 ?_
                refine lv_topi (fun y6 hy6 => ?_)
                obtain rfl : ((vF 62) d5) = y6 := (hy6.trans (by rw [nI_clamp (by omega)])).symm
                refine lv_iload_n hx hb dX12_differ_52 rfl (lv_at hl 3 rfl) ?_
                refine lv_ishr hx hb dX12_differ_53 ?_
                refine lv_iconst (v := 1) hx hb dX12_differ_54 (by decide) ?_
                refine lv_iand hx hb dX12_differ_55 ?_
                refine lv_iconst (v := 1) hx hb dX12_differ_56 (by decide) ?_
                refine lv_icmp_ne (tgt := 77) hx hb dX12_differ_57 (by decide) (fun c_57 => ?_) (fun c_57 => ?_)
                · have t_57 : (((((vF 62) d5) >>> ((nI j5) &&& 31)) &&& 1)).toInt ≠ 1 := toI_ne c_57 rfl (by decide)
                  refine lv_iinc (v := (nI (j5 + 1))) hx hb dX12_differ_77 hl (k := 3) rfl (nI_add j5 1) (by decide) rfl (fun ls (hl : lv_has ls _ ([(3, .int (nI (j5 + 1))), (0, .ref h0), (1, .int (nI d5)), (2, .int (nI i5))])) => ?_)
                  refine lv_goto (tgt := 24) hx hb dX12_differ_80 (by decide) ?_
                  have hl : lv_has _ _ ([(0, .ref h0), (1, .int (nI d5)), (2, .int (nI i5)), (3, .int (nI (j5 + 1)))]) := lv_sub hl [1, 2, 3, 0] rfl
                  exact ih24_2 (j5 + 1) _ _ _ (by omega) (by omega) hP hD hS hl
                · have t_57 : (((((vF 62) d5) >>> ((nI j5) &&& 31)) &&& 1)).toInt = 1 := toI_nne c_57 rfl (by decide)
                  refine lv_aload_n hx hb dX12_differ_60 rfl (lv_at hl 0 rfl) ?_
                  refine va_get (D := (dC, dI)) (ci := 12) (v := .ref (a 70)) (C := RX12) (T := TX12) (N := 163) (fs := fM (vS a vi vj)) hx hb hts iwsRX12_differ_in12 hown hK hP 0 rfl rfl 115 (by decide) (hts (.fieldLink RX12 233 "OptimaWorksModel" "value" "[I") (by decide +kernel)) (fun _ h9 => h9) rfl dX12_differ_61 ?_
                  refine lv_iload_n hx hb dX12_differ_64 rfl (lv_at hl 2 rfl) ?_
                  refine va_iald (cA := k 70) (n := 9) (f := (vF 70)) hx hb hK hP 71 70 (WR_get 70 (by decide)) (TR_get 70 (by decide)) (vp_in_nI (show i5 < 9 by omega) (by omega)) dX12_differ_65 ?_
                  refine lv_topi (fun y7 hy7 => ?_)
                  obtain rfl : ((vF 70) i5) = y7 := (hy7.trans (by rw [nI_clamp (by omega)])).symm
                  refine lv_aload_n hx hb dX12_differ_66 rfl (lv_at hl 0 rfl) ?_
                  refine va_get (D := (dC, dI)) (ci := 12) (v := .ref (a 70)) (C := RX12) (T := TX12) (N := 163) (fs := fM (vS a vi vj)) hx hb hts iwsRX12_differ_in12 hown hK hP 0 rfl rfl 115 (by decide) (hts (.fieldLink RX12 233 "OptimaWorksModel" "value" "[I") (by decide +kernel)) (fun _ h9 => h9) rfl dX12_differ_67 ?_
                  refine lv_iload_n hx hb dX12_differ_70 rfl (lv_at hl 3 rfl) ?_
                  refine va_iald (cA := k 70) (n := 9) (f := (vF 70)) hx hb hK hP 71 70 (WR_get 70 (by decide)) (TR_get 70 (by decide)) (vp_in_nI (show j5 < 9 by omega) (by omega)) dX12_differ_71 ?_
                  refine lv_topi (fun y8 hy8 => ?_)
                  obtain rfl : ((vF 70) j5) = y8 := (hy8.trans (by rw [nI_clamp (by omega)])).symm
                  refine lv_icmp_ne (tgt := 77) hx hb dX12_differ_72 (by decide) (fun c_72 => ?_) (fun c_72 => ?_)
                  · have t_72 : (((vF 70) i5)).toInt ≠ (((vF 70) j5)).toInt := toI_ne c_72 rfl rfl
                    refine lv_iinc (v := (nI (j5 + 1))) hx hb dX12_differ_77 hl (k := 3) rfl (nI_add j5 1) (by decide) rfl (fun ls (hl : lv_has ls _ ([(3, .int (nI (j5 + 1))), (0, .ref h0), (1, .int (nI d5)), (2, .int (nI i5))])) => ?_)
                    refine lv_goto (tgt := 24) hx hb dX12_differ_80 (by decide) ?_
                    have hl : lv_has _ _ ([(0, .ref h0), (1, .int (nI d5)), (2, .int (nI i5)), (3, .int (nI (j5 + 1)))]) := lv_sub hl [1, 2, 3, 0] rfl
                    exact ih24_2 (j5 + 1) _ _ _ (by omega) (by omega) hP hD hS hl
                  · have t_72 : (((vF 70) i5)).toInt = (((vF 70) j5)).toInt := toI_nne c_72 rfl rfl
                    refine lv_iconst (v := 0) hx hb dX12_differ_75 (by decide) ?_
                    refine W.widen (k := 0) (n := 0) (by decide +kernel) (by decide +kernel) ?_
                    exact W.zret (v := 0) hx hb hr rfl (fun t9_ ht hW => ⟨⟨0, (), rfl, by (try dsimp only); exact Or.inl rfl, by rw [ht]; exact hP, hD⟩, hS.F ht⟩) hS.2.2 dX12_differ_76

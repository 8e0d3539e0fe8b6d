section
theorem hd_yX12_sign_RX12 : yX12_sign.cls = RX12 ∧ yX12_sign.cls ≠ "java/lang/invoke/MethodHandle" ∧ yX12_sign.cls ≠ "java/lang/invoke/VarHandle" ∧ (parseMethodDescriptor yX12_sign.desc).map (fun d => d.parameters.length) = some 1 := by decide +kernel
theorem hd_yX12_bare_RX12 : yX12_bare.cls = RX12 ∧ yX12_bare.cls ≠ "java/lang/invoke/MethodHandle" ∧ yX12_bare.cls ≠ "java/lang/invoke/VarHandle" ∧ (parseMethodDescriptor yX12_bare.desc).map (fun d => d.parameters.length) = some 2 := by decide +kernel
theorem dX12_bare_0 : decode cX12_bare 0 = .ok (.aload_n 0, 1) := dk_42 (by decide +kernel)
theorem dX12_bare_1 : decode cX12_bare 1 = .ok (.getfield 7, 3) := dk_180 (by decide +kernel)
theorem dX12_bare_4 : decode cX12_bare 4 = .ok (.bipush 24, 2) := dk_16 (by decide +kernel)
theorem dX12_bare_6 : decode cX12_bare 6 = .ok (.iload_n 1, 1) := dk_27 (by decide +kernel)
theorem dX12_bare_7 : decode cX12_bare 7 = .ok (.imul, 1) := dk_104 (by decide +kernel)
theorem dX12_bare_8 : decode cX12_bare 8 = .ok (.iconst 1, 1) := dk_4 (by decide +kernel)
theorem dX12_bare_9 : decode cX12_bare 9 = .ok (.iadd, 1) := dk_96 (by decide +kernel)
theorem dX12_bare_10 : decode cX12_bare 10 = .ok (.iaload, 1) := dk_46 (by decide +kernel)
theorem dX12_bare_11 : decode cX12_bare 11 = .ok (.istore_n 3, 1) := dk_62 (by decide +kernel)
theorem dX12_bare_12 : decode cX12_bare 12 = .ok (.iload_n 3, 1) := dk_29 (by decide +kernel)
theorem dX12_bare_13 : decode cX12_bare 13 = .ok (.aload_n 0, 1) := dk_42 (by decide +kernel)
theorem dX12_bare_14 : decode cX12_bare 14 = .ok (.getfield 7, 3) := dk_180 (by decide +kernel)
theorem dX12_bare_17 : decode cX12_bare 17 = .ok (.bipush 24, 2) := dk_16 (by decide +kernel)
theorem dX12_bare_19 : decode cX12_bare 19 = .ok (.iload_n 2, 1) := dk_28 (by decide +kernel)
theorem dX12_bare_20 : decode cX12_bare 20 = .ok (.imul, 1) := dk_104 (by decide +kernel)
theorem dX12_bare_21 : decode cX12_bare 21 = .ok (.iconst 1, 1) := dk_4 (by decide +kernel)
theorem dX12_bare_22 : decode cX12_bare 22 = .ok (.iadd, 1) := dk_96 (by decide +kernel)
theorem dX12_bare_23 : decode cX12_bare 23 = .ok (.iaload, 1) := dk_46 (by decide +kernel)
theorem dX12_bare_24 : decode cX12_bare 24 = .ok (.if_icmp .eq 17, 3) := dk_159 (by decide +kernel)
theorem dX12_bare_27 : decode cX12_bare 27 = .ok (.iload_n 3, 1) := dk_29 (by decide +kernel)
theorem dX12_bare_28 : decode cX12_bare 28 = .ok (.aload_n 0, 1) := dk_42 (by decide +kernel)
theorem dX12_bare_29 : decode cX12_bare 29 = .ok (.getfield 7, 3) := dk_180 (by decide +kernel)
theorem dX12_bare_32 : decode cX12_bare 32 = .ok (.bipush 24, 2) := dk_16 (by decide +kernel)
theorem dX12_bare_34 : decode cX12_bare 34 = .ok (.iload_n 2, 1) := dk_28 (by decide +kernel)
theorem dX12_bare_35 : decode cX12_bare 35 = .ok (.imul, 1) := dk_104 (by decide +kernel)
theorem dX12_bare_36 : decode cX12_bare 36 = .ok (.iconst 1, 1) := dk_4 (by decide +kernel)
theorem dX12_bare_37 : decode cX12_bare 37 = .ok (.iadd, 1) := dk_96 (by decide +kernel)
theorem dX12_bare_38 : decode cX12_bare 38 = .ok (.iaload, 1) := dk_46 (by decide +kernel)
theorem dX12_bare_39 : decode cX12_bare 39 = .ok (.isub, 1) := dk_100 (by decide +kernel)
theorem dX12_bare_40 : decode cX12_bare 40 = .ok (.ireturn, 1) := dk_172 (by decide +kernel)
theorem dX12_bare_41 : decode cX12_bare 41 = .ok (.iload_n 3, 1) := dk_29 (by decide +kernel)
theorem dX12_bare_42 : decode cX12_bare 42 = .ok (.iconst 1, 1) := dk_4 (by decide +kernel)
theorem dX12_bare_43 : decode cX12_bare 43 = .ok (.isub, 1) := dk_100 (by decide +kernel)
theorem dX12_bare_44 : decode cX12_bare 44 = .ok (.istore 4, 2) := dk_54 (by decide +kernel)
theorem dX12_bare_46 : decode cX12_bare 46 = .ok (.iload 4, 2) := dk_21 (by decide +kernel)
theorem dX12_bare_48 : decode cX12_bare 48 = .ok (.ifCond .lt 70, 3) := dk_155 (by decide +kernel)
theorem dX12_bare_51 : decode cX12_bare 51 = .ok (.aload_n 0, 1) := dk_42 (by decide +kernel)
theorem dX12_bare_52 : decode cX12_bare 52 = .ok (.getfield 7, 3) := dk_180 (by decide +kernel)
theorem dX12_bare_55 : decode cX12_bare 55 = .ok (.bipush 24, 2) := dk_16 (by decide +kernel)
theorem dX12_bare_57 : decode cX12_bare 57 = .ok (.iload_n 1, 1) := dk_27 (by decide +kernel)
theorem dX12_bare_58 : decode cX12_bare 58 = .ok (.imul, 1) := dk_104 (by decide +kernel)
theorem dX12_bare_59 : decode cX12_bare 59 = .ok (.iconst 2, 1) := dk_5 (by decide +kernel)
theorem dX12_bare_60 : decode cX12_bare 60 = .ok (.iadd, 1) := dk_96 (by decide +kernel)
theorem dX12_bare_61 : decode cX12_bare 61 = .ok (.iload 4, 2) := dk_21 (by decide +kernel)
theorem dX12_bare_63 : decode cX12_bare 63 = .ok (.iadd, 1) := dk_96 (by decide +kernel)
theorem dX12_bare_64 : decode cX12_bare 64 = .ok (.iaload, 1) := dk_46 (by decide +kernel)
theorem dX12_bare_65 : decode cX12_bare 65 = .ok (.aload_n 0, 1) := dk_42 (by decide +kernel)
theorem dX12_bare_66 : decode cX12_bare 66 = .ok (.getfield 7, 3) := dk_180 (by decide +kernel)
theorem dX12_bare_69 : decode cX12_bare 69 = .ok (.bipush 24, 2) := dk_16 (by decide +kernel)
theorem dX12_bare_71 : decode cX12_bare 71 = .ok (.iload_n 2, 1) := dk_28 (by decide +kernel)
theorem dX12_bare_72 : decode cX12_bare 72 = .ok (.imul, 1) := dk_104 (by decide +kernel)
theorem dX12_bare_73 : decode cX12_bare 73 = .ok (.iconst 2, 1) := dk_5 (by decide +kernel)
theorem dX12_bare_74 : decode cX12_bare 74 = .ok (.iadd, 1) := dk_96 (by decide +kernel)
theorem dX12_bare_75 : decode cX12_bare 75 = .ok (.iload 4, 2) := dk_21 (by decide +kernel)
theorem dX12_bare_77 : decode cX12_bare 77 = .ok (.iadd, 1) := dk_96 (by decide +kernel)
theorem dX12_bare_78 : decode cX12_bare 78 = .ok (.iaload, 1) := dk_46 (by decide +kernel)
theorem dX12_bare_79 : decode cX12_bare 79 = .ok (.if_icmp .eq 33, 3) := dk_159 (by decide +kernel)
theorem dX12_bare_82 : decode cX12_bare 82 = .ok (.aload_n 0, 1) := dk_42 (by decide +kernel)
theorem dX12_bare_83 : decode cX12_bare 83 = .ok (.getfield 7, 3) := dk_180 (by decide +kernel)
theorem dX12_bare_86 : decode cX12_bare 86 = .ok (.bipush 24, 2) := dk_16 (by decide +kernel)
theorem dX12_bare_88 : decode cX12_bare 88 = .ok (.iload_n 1, 1) := dk_27 (by decide +kernel)
theorem dX12_bare_89 : decode cX12_bare 89 = .ok (.imul, 1) := dk_104 (by decide +kernel)
theorem dX12_bare_90 : decode cX12_bare 90 = .ok (.iconst 2, 1) := dk_5 (by decide +kernel)
theorem dX12_bare_91 : decode cX12_bare 91 = .ok (.iadd, 1) := dk_96 (by decide +kernel)
theorem dX12_bare_92 : decode cX12_bare 92 = .ok (.iload 4, 2) := dk_21 (by decide +kernel)
theorem dX12_bare_94 : decode cX12_bare 94 = .ok (.iadd, 1) := dk_96 (by decide +kernel)
theorem dX12_bare_95 : decode cX12_bare 95 = .ok (.iaload, 1) := dk_46 (by decide +kernel)
theorem dX12_bare_96 : decode cX12_bare 96 = .ok (.aload_n 0, 1) := dk_42 (by decide +kernel)
theorem dX12_bare_97 : decode cX12_bare 97 = .ok (.getfield 7, 3) := dk_180 (by decide +kernel)
theorem dX12_bare_100 : decode cX12_bare 100 = .ok (.bipush 24, 2) := dk_16 (by decide +kernel)
theorem dX12_bare_102 : decode cX12_bare 102 = .ok (.iload_n 2, 1) := dk_28 (by decide +kernel)
theorem dX12_bare_103 : decode cX12_bare 103 = .ok (.imul, 1) := dk_104 (by decide +kernel)
theorem dX12_bare_104 : decode cX12_bare 104 = .ok (.iconst 2, 1) := dk_5 (by decide +kernel)
theorem dX12_bare_105 : decode cX12_bare 105 = .ok (.iadd, 1) := dk_96 (by decide +kernel)
theorem dX12_bare_106 : decode cX12_bare 106 = .ok (.iload 4, 2) := dk_21 (by decide +kernel)
theorem dX12_bare_108 : decode cX12_bare 108 = .ok (.iadd, 1) := dk_96 (by decide +kernel)
theorem dX12_bare_109 : decode cX12_bare 109 = .ok (.iaload, 1) := dk_46 (by decide +kernel)
theorem dX12_bare_110 : decode cX12_bare 110 = .ok (.isub, 1) := dk_100 (by decide +kernel)
theorem dX12_bare_111 : decode cX12_bare 111 = .ok (.ireturn, 1) := dk_172 (by decide +kernel)
theorem dX12_bare_112 : decode cX12_bare 112 = .ok (.iinc 4 (-1), 3) := dk_132 (by decide +kernel)
theorem dX12_bare_115 : decode cX12_bare 115 = .ok (.goto (-69), 3) := dk_167 (by decide +kernel)
theorem dX12_bare_118 : decode cX12_bare 118 = .ok (.iconst 0, 1) := dk_3 (by decide +kernel)
theorem dX12_bare_119 : decode cX12_bare 119 = .ok (.ireturn, 1) := dk_172 (by decide +kernel)
def wsRX12_bare : List Cond := .code yX12_bare cX12_bare 5 (some .int) :: ([.fieldLink RX12 7 "OptimaWorksModel" "big" "[I"] ++ wsX120)
theorem iwsRX12_bare_in12 : ∀ w ∈ wsX120, w ∈ wsRX12_bare := fun _ h => List.mem_cons_of_mem _ (List.mem_append_right _ h)
theorem hm_r_X12_bare_0 : (.fieldLink RX12 7 "OptimaWorksModel" "big" "[I" : Cond) ∈ wsRX12_bare := by decide +kernel
set_option maxHeartbeats 4000000 in
set_option maxRecDepth 100000 in
/-- bare(a, b) -/
theorem r_X12_bare (l : Launch) (dC : Nat → ClassId) (dI : Nat → Nat → Nat) (a : Nat → Nat) (k : Nat → ClassId) (h0 : Nat) (vi : Nat → Int32) (vj : Nat → Int64) (vF : Nat → Nat → Int32) (vG : Nat → Nat → Int64) (an : Nat) (bn : Nat) (xa : Int) (xb : Int) (hna : an < 1100) (hnb : bn < 1100) (hxa : Nu (vF 0) an xa) (hxb : Nu (vF 0) bn xb) (sz : Nat) : Met l yX12_bare wsRX12_bare ({ frames := 0, cells := 0, slots := 0, locals := 0 }) (va_Pc [.ref h0, .int (nI an), .int (nI bn)] (fun U => U.heap.size = sz ∧ va_P (dC, dI) vwCl (WR a k h0 vi vj vF vG) U.heap ∧ va_K (dC, dI) vwCl (tX12 k) U ∧ va_D (fun _ => True) (WR a k h0 vi vj vF vG))) (va_Qi (fun (r : Int32) (u : Unit) => (((r).toInt < 0 ∧ (xa).natAbs < (xb).natAbs) ∨ ((r).toInt = 0 ∧ (xa).natAbs = (xb).natAbs) ∨ (0 < (r).toInt ∧ (xb).natAbs < (xa).natAbs)) ∧ (-1073741824 < (r).toInt ∧ (r).toInt < 1073741824)) (fun (u : Unit) t => va_P (dC, dI) vwCl (WR a k h0 vi vj vF vG) t.heap ∧ va_D (va_A (WR a k h0 vi vj vF vG) sz) (WR a k h0 vi vj vF vG)) (va_A (WR a k h0 vi vj vF vG) sz)) 0 0 (va_A (WR a k h0 vi vj vF vG) sz) := by
  refine Met.ofW (cc := cX12_bare) (maxL := 5) (ret := (some .int)) (by decide) rfl ?_
  intro p e s m args below meth c s₁ B hml hv
  obtain ⟨rfl, hsz, hP, hK, hD0⟩ := hv
  have hx := B.exec
  have hb := B.bytes
  have hr := B.returns
  have hts := atoms_spec (ws := wsRX12_bare) B.pre
  have hown : s.vm.findClass RX12 = some m.cls := findClass_of_methodNamed B.named
  have hlocks := B.notSynchronized
  subst hsz
  have hD := hD0.self (sz := s.heap.size)
  generalize hAe : va_A (WR a k h0 vi vj vF vG) s.heap.size = A at hD ⊢
  have hA : ∀ q : Nat, s.heap.size ≤ q → A q := fun q h => by rw [← hAe]; exact Or.inr h
  have hS : va_S A s.heap s.heap [] := va_S.rf
  have hl := lv_entry ([.ref h0, .int (nI an), .int (nI bn)]) (n := 5) (Nat.le_of_ble_eq_true rfl)
  rw [lg_entry_eq]
  generalize (lg_sl ([.ref h0, .int (nI an), .int (nI bn)]) ++ List.replicate (5 - (lg_sl ([.ref h0, .int (nI an), .int (nI bn)])).length) Slot.unset).toArray = ls at hl ⊢
  have hl : lv_has ls 5 [(0, .ref h0), (1, .int (nI an)), (2, .int (nI bn))] := hl
  obtain ⟨na, hna1, hna2, hna3, hna4, hna5, hna6⟩ := id hxa
  obtain ⟨nb_, hnb1, hnb2, hnb3, hnb4, hnb5, hnb6⟩ := id hxb
  refine lv_aload_n hx hb dX12_bare_0 rfl (lv_at hl 0 rfl) ?_
  refine va_get (D := (dC, dI)) (ci := 12) (v := .ref (a 0)) (C := RX12) (T := TX12) (N := 163) (fs := fM (vS a vi vj)) hx hb hts iwsRX12_bare_in12 hown hK hP 0 rfl rfl 1 (by decide) (hts _ hm_r_X12_bare_0) (fun _ h9 => h9) rfl dX12_bare_1 ?_
  refine lv_bipush (v := 24) hx hb dX12_bare_4 (by decide) ?_
  refine lv_iload_n hx hb dX12_bare_6 rfl (lv_at hl 1 rfl) ?_
  refine lv_imul hx hb dX12_bare_7 ?_
  refine lv_topi (fun y1 hy1 => ?_)
  obtain rfl : (nI (24 * an)) = y1 := (hy1.trans (pk_mul 24 an)).symm
  refine lv_iconst (v := 1) hx hb dX12_bare_8 (by decide) ?_
  refine lv_iadd hx hb dX12_bare_9 ?_
  refine lv_topi (fun y2 hy2 => ?_)
  obtain rfl : (nI ((24 * an) + 1)) = y2 := (hy2.trans (nI_add (24 * an) 1)).symm
  refine va_iald (cA := k 0) (n := 26400) (f := (vF 0)) hx hb hK hP 1 0 (WR_get 0 (by decide)) (TR_get 0 (by decide)) (vp_in_nI (show ((24 * an) + 1) < 26400 by omega) (by omega)) dX12_bare_10 ?_
  refine lv_topi (fun y3 hy3 => ?_)
  obtain rfl : ((vF 0) ((24 * an) + 1)) = y3 := (hy3.trans (by rw [nI_clamp (by omega)])).symm
  refine lv_topi (fun y4 hy4 => ?_)
  obtain rfl : (nI na) = y4 := (hy4.trans (hna2)).symm
  refine lv_istore_n hx hb dX12_bare_11 rfl hl (by decide) rfl (fun ls (hl : lv_has ls _ ([(3, .int (nI na)), (0, .ref h0), (1, .int (nI an)), (2, .int (nI bn))])) => ?_)
  refine lv_iload_n hx hb dX12_bare_12 rfl (lv_at hl 0 rfl) ?_
  refine lv_aload_n hx hb dX12_bare_13 rfl (lv_at hl 1 rfl) ?_
  refine va_get (D := (dC, dI)) (ci := 12) (v := .ref (a 0)) (C := RX12) (T := TX12) (N := 163) (fs := fM (vS a vi vj)) hx hb hts iwsRX12_bare_in12 hown hK hP 0 rfl rfl 1 (by decide) (hts _ hm_r_X12_bare_0) (fun _ h9 => h9) rfl dX12_bare_14 ?_
  refine lv_bipush (v := 24) hx hb dX12_bare_17 (by decide) ?_
  refine lv_iload_n hx hb dX12_bare_19 rfl (lv_at hl 3 rfl) ?_
  refine lv_imul hx hb dX12_bare_20 ?_
  refine lv_topi (fun y5 hy5 => ?_)
  obtain rfl : (nI (24 * bn)) = y5 := (hy5.trans (pk_mul 24 bn)).symm
  refine lv_iconst (v := 1) hx hb dX12_bare_21 (by decide) ?_
  refine lv_iadd hx hb dX12_bare_22 ?_
  refine lv_topi (fun y6 hy6 => ?_)
  obtain rfl : (nI ((24 * bn) + 1)) = y6 := (hy6.trans (nI_add (24 * bn) 1)).symm
  refine va_iald (cA := k 0) (n := 26400) (f := (vF 0)) hx hb hK hP 1 0 (WR_get 0 (by decide)) (TR_get 0 (by decide)) (vp_in_nI (show ((24 * bn) + 1) < 26400 by omega) (by omega)) dX12_bare_23 ?_
  refine lv_topi (fun y7 hy7 => ?_)
  obtain rfl : ((vF 0) ((24 * bn) + 1)) = y7 := (hy7.trans (by rw [nI_clamp (by omega)])).symm
  refine lv_topi (fun y8 hy8 => ?_)
  obtain rfl : (nI nb_) = y8 := (hy8.trans (hnb2)).symm
  refine lv_icmp_eq (tgt := 41) hx hb dX12_bare_24 (by decide) (fun c_24 => ?_) (fun c_24 => ?_)
  · have t_24 : ((na : Nat) : Int) = ((nb_ : Nat) : Int) := toI_eq c_24 (nI_toInt (by omega)) (nI_toInt (by omega))
    refine lv_iload_n hx hb dX12_bare_41 rfl (lv_at hl 0 rfl) ?_
    refine lv_iconst (v := 1) hx hb dX12_bare_42 (by decide) ?_
    refine lv_isub hx hb dX12_bare_43 ?_
    refine lv_istore hx hb dX12_bare_44 hl (by decide) rfl (fun ls (hl : lv_has ls _ ([(4, .int ((nI na) - 1)), (3, .int (nI na)), (0, .ref h0), (1, .int (nI an)), (2, .int (nI bn))])) => ?_)
    have hl : lv_has _ _ ([(4, .int ((nI na) - 1)), (0, .ref h0), (1, .int (nI an)), (2, .int (nI bn))]) := lv_sub hl [0, 2, 3, 4] rfl
    refine (fun (loop : ∀ (n9 : Nat) (kq : Int32) (kk1 : Nat) (H : Heap) (locs : List Loc) (ls : Array Slot), ((kq).toInt = (kk1 : Int) - 1) → (kk1 ≤ na) → (∀ q, kk1 ≤ q → q < na → vF 0 (24 * an + 2 + q) = vF 0 (24 * bn + 2 + q)) →  (kk1 < n9) → va_P (dC, dI) vwCl (WR a k h0 vi vj vF vG) H → va_D A (WR a k h0 vi vj vF vG) → va_S A s.heap H locs → lv_has ls 5 [(4, .int kq), (0, .ref h0), (1, .int (nI an)), (2, .int (nI bn))] → W p l e _ s m _ below meth c H locs 0 0 _ (F0 m 46 ls [])) => loop (na + 1) ((nI na) - 1) na _ _ _ (by exact pk_sub_toInt (a := na) (b := 1) (by omega) (by omega)) (by omega) (fun q h1 h2 => absurd h1 (by omega)) (by omega) hP hD hS hl) ?_
    intro n9
    induction n9 with
    | zero => intro kq kk1 H locs ls hkq hkn heq hf9; exact False.elim (by omega)
    | succ n9 ih46 =>
      intro kq kk1 H locs ls hkq hkn heq hf46 hP hD hS hl
      refine lv_iload hx hb dX12_bare_46 (lv_at hl 0 rfl) ?_
      refine lv_if_lt (tgt := 118) hx hb dX12_bare_48 (by decide) (fun c_48 => ?_) (fun c_48 => ?_)
      · have t_48 : (kq).toInt < 0 := toI_lt c_48 rfl (by decide)
        refine lv_iconst (v := 0) hx hb dX12_bare_118 (by decide) ?_
        refine W.widen (k := 0) (n := 0) (by decide +kernel) (by decide +kernel) ?_
        exact W.iret (v := 0) hx hb hr (fun t9_ ht hW => ⟨⟨0, (), rfl, by (try dsimp only); exact ⟨by (have en : nb_ = na := by omega); exact Or.inr (Or.inl ⟨by decide, by rw [hna5, hnb5, en]; exact lv28_congr (fun q hq => heq q (by omega) hq)⟩), by decide⟩, by rw [ht]; exact hP, hD⟩, hS.F ht⟩) hS.2.2 dX12_bare_119
      · have t_48 : ¬ (kq).toInt < 0 := toI_nlt c_48 rfl (by decide)
        obtain ⟨kk, h_kk, rfl⟩ := of_toInt (x := kq) (k := 23) (by omega) (by omega)
        have e_kk : (nI kk).toInt = (kk : Int) := nI_toInt (by omega)
        refine lv_aload_n hx hb dX12_bare_51 rfl (lv_at hl 1 rfl) ?_
        refine va_get (D := (dC, dI)) (ci := 12) (v := .ref (a 0)) (C := RX12) (T := TX12) (N := 163) (fs := fM (vS a vi vj)) hx hb hts iwsRX12_bare_in12 hown hK hP 0 rfl rfl 1 (by decide) (hts _ hm_r_X12_bare_0) (fun _ h9 => h9) rfl dX12_bare_52 ?_
        refine lv_bipush (v := 24) hx hb dX12_bare_55 (by decide) ?_
        refine lv_iload_n hx hb dX12_bare_57 rfl (lv_at hl 2 rfl) ?_
        refine lv_imul hx hb dX12_bare_58 ?_
        refine lv_topi (fun y9 hy9 => ?_)
        obtain rfl : (nI (24 * an)) = y9 := (hy9.trans (pk_mul 24 an)).symm
        refine lv_iconst (v := 2) hx hb dX12_bare_59 (by decide) ?_
        refine lv_iadd hx hb dX12_bare_60 ?_
        refine lv_topi (fun y10 hy10 => ?_)
        obtain rfl : (nI ((24 * an) + 2)) = y10 := (hy10.trans (nI_add (24 * an) 2)).symm
        refine lv_iload hx hb dX12_bare_61 (lv_at hl 0 rfl) ?_
        refine lv_iadd hx hb dX12_bare_63 ?_
        refine lv_topi (fun y11 hy11 => ?_)
        obtain rfl : (nI (((24 * an) + 2) + kk)) = y11 := (hy11.trans (nI_add ((24 * an) + 2) kk)).symm
        refine va_iald (cA := k 0) (n := 26400) (f := (vF 0)) hx hb hK hP 1 0 (WR_get 0 (by decide)) (TR_get 0 (by decide)) (vp_in_nI (show (((24 * an) + 2) + kk) < 26400 by omega) (by omega)) dX12_bare_64 ?_
        refine lv_topi (fun y12 hy12 => ?_)
        obtain rfl : ((vF 0) (((24 * an) + 2) + kk)) = y12 := (hy12.trans (by rw [nI_clamp (by omega)])).symm
        refine lv_aload_n hx hb dX12_bare_65 rfl (lv_at hl 1 rfl) ?_
        refine va_get (D := (dC, dI)) (ci := 12) (v := .ref (a 0)) (C := RX12) (T := TX12) (N := 163) (fs := fM (vS a vi vj)) hx hb hts iwsRX12_bare_in12 hown hK hP 0 rfl rfl 1 (by decide) (hts _ hm_r_X12_bare_0) (fun _ h9 => h9) rfl dX12_bare_66 ?_
        refine lv_bipush (v := 24) hx hb dX12_bare_69 (by decide) ?_
        refine lv_iload_n hx hb dX12_bare_71 rfl (lv_at hl 3 rfl) ?_
        refine lv_imul hx hb dX12_bare_72 ?_
        refine lv_topi (fun y13 hy13 => ?_)
        obtain rfl : (nI (24 * bn)) = y13 := (hy13.trans (pk_mul 24 bn)).symm
        refine lv_iconst (v := 2) hx hb dX12_bare_73 (by decide) ?_
        refine lv_iadd hx hb dX12_bare_74 ?_
        refine lv_topi (fun y14 hy14 => ?_)
        obtain rfl : (nI ((24 * bn) + 2)) = y14 := (hy14.trans (nI_add (24 * bn) 2)).symm
        refine lv_iload hx hb dX12_bare_75 (lv_at hl 0 rfl) ?_
        refine lv_iadd hx hb dX12_bare_77 ?_
        refine lv_topi (fun y15 hy15 => ?_)
        obtain rfl : (nI (((24 * bn) + 2) + kk)) = y15 := (hy15.trans (nI_add ((24 * bn) + 2) kk)).symm
        refine va_iald (cA := k 0) (n := 26400) (f := (vF 0)) hx hb hK hP 1 0 (WR_get 0 (by decide)) (TR_get 0 (by decide)) (vp_in_nI (show (((24 * bn) + 2) + kk) < 26400 by omega) (by omega)) dX12_bare_78 ?_
        refine lv_topi (fun y16 hy16 => ?_)
        obtain rfl : ((vF 0) (((24 * bn) + 2) + kk)) = y16 := (hy16.trans (by rw [nI_clamp (by omega)])).symm
        refine lv_icmp_eq (tgt := 112) hx hb dX12_bare_79 (by decide) (fun c_79 => ?_) (fun c_79 => ?_)
        · have t_79 : (((vF 0) (((24 * an) + 2) + kk))).toInt = (((vF 0) (((24 * bn) + 2) + kk))).toInt := toI_eq c_79 rfl rfl
          refine lv_iinc (v := ((nI kk) + (-1))) hx hb dX12_bare_112 hl (k := 0) rfl rfl (by decide) rfl (fun ls (hl : lv_has ls _ ([(4, .int ((nI kk) + (-1))), (0, .ref h0), (1, .int (nI an)), (2, .int (nI bn))])) => ?_)
          refine lv_goto (tgt := 46) hx hb dX12_bare_115 (by decide) ?_
          have hl : lv_has _ _ ([(4, .int ((nI kk) + (-1))), (0, .ref h0), (1, .int (nI an)), (2, .int (nI bn))]) := lv_sub hl [0, 1, 2, 3] rfl
          exact ih46 ((nI kk) + (-1)) (kk1 - 1) _ _ _ (by rw [m1T (by omega)]; omega) (by omega) (fun q h1 h2 => by by_cases e9 : q = kk; (rw [e9]; exact c_79); (exact heq q (by omega) h2)) (by omega) hP hD hS hl
        · have t_79 : ¬ (((vF 0) (((24 * an) + 2) + kk))).toInt = (((vF 0) (((24 * bn) + 2) + kk))).toInt := toI_neq c_79 rfl rfl
          have l1 := limb_lt hna3 (q := kk) (by omega)
          have l2 := limb_lt hnb3 (q := kk) (by omega)
          refine lv_aload_n hx hb dX12_bare_82 rfl (lv_at hl 1 rfl) ?_
          refine va_get (D := (dC, dI)) (ci := 12) (v := .ref (a 0)) (C := RX12) (T := TX12) (N := 163) (fs := fM (vS a vi vj)) hx hb hts iwsRX12_bare_in12 hown hK hP 0 rfl rfl 1 (by decide) (hts _ hm_r_X12_bare_0) (fun _ h9 => h9) rfl dX12_bare_83 ?_
          refine lv_bipush (v := 24) hx hb dX12_bare_86 (by decide) ?_
          refine lv_iload_n hx hb dX12_bare_88 rfl (lv_at hl 2 rfl) ?_
          refine lv_imul hx hb dX12_bare_89 ?_
          refine lv_topi (fun y17 hy17 => ?_)
          obtain rfl : (nI (24 * an)) = y17 := (hy17.trans (pk_mul 24 an)).symm
          refine lv_iconst (v := 2) hx hb dX12_bare_90 (by decide) ?_
          refine lv_iadd hx hb dX12_bare_91 ?_
          refine lv_topi (fun y18 hy18 => ?_)
          obtain rfl : (nI ((24 * an) + 2)) = y18 := (hy18.trans (nI_add (24 * an) 2)).symm
          refine lv_iload hx hb dX12_bare_92 (lv_at hl 0 rfl) ?_
          refine lv_iadd hx hb dX12_bare_94 ?_
          refine lv_topi (fun y19 hy19 => ?_)
          obtain rfl : (nI (((24 * an) + 2) + kk)) = y19 := (hy19.trans (nI_add ((24 * an) + 2) kk)).symm
          refine va_iald (cA := k 0) (n := 26400) (f := (vF 0)) hx hb hK hP 1 0 (WR_get 0 (by decide)) (TR_get 0 (by decide)) (vp_in_nI (show (((24 * an) + 2) + kk) < 26400 by omega) (by omega)) dX12_bare_95 ?_
          refine lv_topi (fun y20 hy20 => ?_)
          obtain rfl : ((vF 0) (((24 * an) + 2) + kk)) = y20 := (hy20.trans (by rw [nI_clamp (by omega)])).symm
          refine lv_aload_n hx hb dX12_bare_96 rfl (lv_at hl 1 rfl) ?_
          refine va_get (D := (dC, dI)) (ci := 12) (v := .ref (a 0)) (C := RX12) (T := TX12) (N := 163) (fs := fM (vS a vi vj)) hx hb hts iwsRX12_bare_in12 hown hK hP 0 rfl rfl 1 (by decide) (hts _ hm_r_X12_bare_0) (fun _ h9 => h9) rfl dX12_bare_97 ?_
          refine lv_bipush (v := 24) hx hb dX12_bare_100 (by decide) ?_
          refine lv_iload_n hx hb dX12_bare_102 rfl (lv_at hl 3 rfl) ?_
          refine lv_imul hx hb dX12_bare_103 ?_
          refine lv_topi (fun y21 hy21 => ?_)
          obtain rfl : (nI (24 * bn)) = y21 := (hy21.trans (pk_mul 24 bn)).symm
          refine lv_iconst (v := 2) hx hb dX12_bare_104 (by decide) ?_
          refine lv_iadd hx hb dX12_bare_105 ?_
          refine lv_topi (fun y22 hy22 => ?_)
          obtain rfl : (nI ((24 * bn) + 2)) = y22 := (hy22.trans (nI_add (24 * bn) 2)).symm
          refine lv_iload hx hb dX12_bare_106 (lv_at hl 0 rfl) ?_
          refine lv_iadd hx hb dX12_bare_108 ?_
          refine lv_topi (fun y23 hy23 => ?_)
          obtain rfl : (nI (((24 * bn) + 2) + kk)) = y23 := (hy23.trans (nI_add ((24 * bn) + 2) kk)).symm
          refine va_iald (cA := k 0) (n := 26400) (f := (vF 0)) hx hb hK hP 1 0 (WR_get 0 (by decide)) (TR_get 0 (by decide)) (vp_in_nI (show (((24 * bn) + 2) + kk) < 26400 by omega) (by omega)) dX12_bare_109 ?_
          refine lv_topi (fun y24 hy24 => ?_)
          obtain rfl : ((vF 0) (((24 * bn) + 2) + kk)) = y24 := (hy24.trans (by rw [nI_clamp (by omega)])).symm
          refine lv_isub hx hb dX12_bare_110 ?_
          refine W.widen (k := 0) (n := 0) (by decide +kernel) (by decide +kernel) ?_
          exact W.iret (v := (((vF 0) (((24 * an) + 2) + kk)) - ((vF 0) (((24 * bn) + 2) + kk)))) hx hb hr (fun t9_ ht hW => ⟨⟨(((vF 0) (((24 * an) + 2) + kk)) - ((vF 0) (((24 * bn) + 2) + kk))), (), rfl, by (try dsimp only); exact ⟨by (have en : nb_ = na := by omega); (have hb3 : Lm (vF 0) (24 * bn + 2) na := by rw [← en]; exact hnb3); (have hb5 : xb.natAbs = lv28 (vF 0) (24 * bn + 2) na := by rw [← en]; exact hnb5); (have e9 : (vF 0 (24 * an + 2 + kk) - vF 0 (24 * bn + 2 + kk)).toInt = (vF 0 (24 * an + 2 + kk)).toInt - (vF 0 (24 * bn + 2 + kk)).toInt := subT ⟨by omega, by omega⟩ ⟨by omega, by omega⟩); rcases Int.lt_or_le (vF 0 (24 * an + 2 + kk)).toInt (vF 0 (24 * bn + 2 + kk)).toInt with h9 | h9; (exact Or.inl ⟨by omega, by rw [hna5, hb5]; exact lv28_less na (k := kk) (by omega) hna3 (fun q h1 h2 => heq q (by omega) h2) (by omega)⟩); (exact Or.inr (Or.inr ⟨by omega, by rw [hna5, hb5]; exact lv28_less na (k := kk) (by omega) hb3 (fun q h1 h2 => (heq q (by omega) h2).symm) (by omega)⟩)), by (have e9 : (vF 0 (24 * an + 2 + kk) - vF 0 (24 * bn + 2 + kk)).toInt = (vF 0 (24 * an + 2 + kk)).toInt - (vF 0 (24 * bn + 2 + kk)).toInt := subT ⟨by omega, by omega⟩ ⟨by omega, by omega⟩); omega⟩, by rw [ht]; exact hP, hD⟩, hS.F ht⟩) hS.2.2 dX12_bare_111
  · have t_24 : ¬ ((na : Nat) : Int) = ((nb_ : Nat) : Int) := toI_neq c_24 (nI_toInt (by omega)) (nI_toInt (by omega))
    refine lv_iload_n hx hb dX12_bare_27 rfl (lv_at hl 0 rfl) ?_
    refine lv_aload_n hx hb dX12_bare_28 rfl (lv_at hl 1 rfl) ?_
    refine va_get (D := (dC, dI)) (ci := 12) (v := .ref (a 0)) (C := RX12) (T := TX12) (N := 163) (fs := fM (vS a vi vj)) hx hb hts iwsRX12_bare_in12 hown hK hP 0 rfl rfl 1 (by decide) (hts _ hm_r_X12_bare_0) (fun _ h9 => h9) rfl dX12_bare_29 ?_
    refine lv_bipush (v := 24) hx hb dX12_bare_32 (by decide) ?_
    refine lv_iload_n hx hb dX12_bare_34 rfl (lv_at hl 3 rfl) ?_
    refine lv_imul hx hb dX12_bare_35 ?_
    refine lv_topi (fun y25 hy25 => ?_)
    obtain rfl : (nI (24 * bn)) = y25 := (hy25.trans (pk_mul 24 bn)).symm
    refine lv_iconst (v := 1) hx hb dX12_bare_36 (by decide) ?_
    refine lv_iadd hx hb dX12_bare_37 ?_
    refine lv_topi (fun y26 hy26 => ?_)
    obtain rfl : (nI ((24 * bn) + 1)) = y26 := (hy26.trans (nI_add (24 * bn) 1)).symm
    refine va_iald (cA := k 0) (n := 26400) (f := (vF 0)) hx hb hK hP 1 0 (WR_get 0 (by decide)) (TR_get 0 (by decide)) (vp_in_nI (show ((24 * bn) + 1) < 26400 by omega) (by omega)) dX12_bare_38 ?_
    refine lv_topi (fun y27 hy27 => ?_)
    obtain rfl : ((vF 0) ((24 * bn) + 1)) = y27 := (hy27.trans (by rw [nI_clamp (by omega)])).symm
    refine lv_topi (fun y28 hy28 => ?_)
    obtain rfl : (nI nb_) = y28 := (hy28.trans (hnb2)).symm
    refine lv_isub hx hb dX12_bare_39 ?_
    refine W.widen (k := 0) (n := 0) (by decide +kernel) (by decide +kernel) ?_
    exact W.iret (v := ((nI na) - (nI nb_))) hx hb hr (fun t9_ ht hW => ⟨⟨((nI na) - (nI nb_)), (), rfl, by (try dsimp only); exact ⟨by (have e9 : (nI na - nI nb_).toInt = (na : Int) - nb_ := pk_sub_toInt (by omega) (by omega)); rcases Nat.lt_or_ge na nb_ with h9 | h9; (exact Or.inl ⟨by omega, by rw [hna5, hnb5]; exact lv28_few hna3 hnb3 (by rw [show 24 * bn + 2 + (nb_ - 1) = 24 * bn + 1 + nb_ by omega]; exact hnb4 (by omega)) h9⟩); (exact Or.inr (Or.inr ⟨by omega, by rw [hna5, hnb5]; exact lv28_few hnb3 hna3 (by rw [show 24 * an + 2 + (na - 1) = 24 * an + 1 + na by omega]; exact hna4 (by omega)) (by omega)⟩)), by (have e9 : (nI na - nI nb_).toInt = (na : Int) - nb_ := pk_sub_toInt (by omega) (by omega)); omega⟩, by rw [ht]; exact hP, hD⟩, hS.F ht⟩) hS.2.2 dX12_bare_40
theorem dX12_compare_0 : decode cX12_compare 0 = .ok (.aload_n 0, 1) := dk_42 (by decide +kernel)
theorem dX12_compare_1 : decode cX12_compare 1 = .ok (.iload_n 1, 1) := dk_27 (by decide +kernel)
theorem dX12_compare_2 : decode cX12_compare 2 = .ok (.invokevirtual 353, 3) := dk_182 (by decide +kernel)
theorem dX12_compare_5 : decode cX12_compare 5 = .ok (.istore_n 3, 1) := dk_62 (by decide +kernel)
theorem dX12_compare_6 : decode cX12_compare 6 = .ok (.aload_n 0, 1) := dk_42 (by decide +kernel)
theorem dX12_compare_7 : decode cX12_compare 7 = .ok (.iload_n 2, 1) := dk_28 (by decide +kernel)
theorem dX12_compare_8 : decode cX12_compare 8 = .ok (.invokevirtual 353, 3) := dk_182 (by decide +kernel)
theorem dX12_compare_11 : decode cX12_compare 11 = .ok (.istore 4, 2) := dk_54 (by decide +kernel)
theorem dX12_compare_13 : decode cX12_compare 13 = .ok (.iload_n 3, 1) := dk_29 (by decide +kernel)
theorem dX12_compare_14 : decode cX12_compare 14 = .ok (.iload 4, 2) := dk_21 (by decide +kernel)
theorem dX12_compare_16 : decode cX12_compare 16 = .ok (.if_icmp .eq 10, 3) := dk_159 (by decide +kernel)
theorem dX12_compare_19 : decode cX12_compare 19 = .ok (.iload_n 3, 1) := dk_29 (by decide +kernel)
theorem dX12_compare_20 : decode cX12_compare 20 = .ok (.iload 4, 2) := dk_21 (by decide +kernel)
theorem dX12_compare_22 : decode cX12_compare 22 = .ok (.isub, 1) := dk_100 (by decide +kernel)
theorem dX12_compare_23 : decode cX12_compare 23 = .ok (.goto 19, 3) := dk_167 (by decide +kernel)
theorem dX12_compare_26 : decode cX12_compare 26 = .ok (.iload_n 3, 1) := dk_29 (by decide +kernel)
theorem dX12_compare_27 : decode cX12_compare 27 = .ok (.ifCond .ne 7, 3) := dk_154 (by decide +kernel)
theorem dX12_compare_30 : decode cX12_compare 30 = .ok (.iconst 0, 1) := dk_3 (by decide +kernel)
theorem dX12_compare_31 : decode cX12_compare 31 = .ok (.goto 11, 3) := dk_167 (by decide +kernel)
theorem dX12_compare_34 : decode cX12_compare 34 = .ok (.iload_n 3, 1) := dk_29 (by decide +kernel)
theorem dX12_compare_35 : decode cX12_compare 35 = .ok (.aload_n 0, 1) := dk_42 (by decide +kernel)
theorem dX12_compare_36 : decode cX12_compare 36 = .ok (.iload_n 1, 1) := dk_27 (by decide +kernel)
theorem dX12_compare_37 : decode cX12_compare 37 = .ok (.iload_n 2, 1) := dk_28 (by decide +kernel)
theorem dX12_compare_38 : decode cX12_compare 38 = .ok (.invokevirtual 357, 3) := dk_182 (by decide +kernel)
theorem dX12_compare_41 : decode cX12_compare 41 = .ok (.imul, 1) := dk_104 (by decide +kernel)
theorem dX12_compare_42 : decode cX12_compare 42 = .ok (.ireturn, 1) := dk_172 (by decide +kernel)
def wsRX12_compare : List Cond := .code yX12_compare cX12_compare 5 (some .int) :: ([] ++ wsX120 ++ (wsV RX12 353 RX12 yX12_sign wsRX12_sign) ++ (wsV RX12 357 RX12 yX12_bare wsRX12_bare))
theorem iwsRX12_compare_in12 : ∀ w ∈ wsX120, w ∈ wsRX12_compare := fun _ h => List.mem_cons_of_mem _ (List.mem_append_left _ (List.mem_append_left _ (List.mem_append_right _ h)))
theorem gwsRX12_compare_0 : GoodIn wsRX12_compare (wsV RX12 353 RX12 yX12_sign wsRX12_sign) := goodIn_sub (fun _ h => List.mem_cons_of_mem _ (List.mem_append_left _ (List.mem_append_right _ h))) (by decide +kernel)
theorem gwsRX12_compare_1 : GoodIn wsRX12_compare (wsV RX12 357 RX12 yX12_bare wsRX12_bare) := goodIn_sub (fun _ h => List.mem_cons_of_mem _ (List.mem_append_right _ h)) (by decide +kernel)
set_option maxHeartbeats 4000000 in
set_option maxRecDepth 100000 in
/-- compare(a, b) -/
theorem r_X12_compare (l : Launch) (dC : Nat → ClassId) (dI : Nat → Nat → Nat) (a : Nat → Nat) (k : Nat → ClassId) (h0 : Nat) (vi : Nat → Int32) (vj : Nat → Int64) (vF : Nat → Nat → Int32) (vG : Nat → Nat → Int64) (an : Nat) (bn : Nat) (xa : Int) (xb : Int) (hna : an < 1100) (hnb : bn < 1100) (hxa : Nu (vF 0) an xa) (hxb : Nu (vF 0) bn xb) (sz : Nat) : Met l yX12_compare wsRX12_compare ({ frames := 1, cells := 0, slots := 0, locals := 24 }) (va_Pc [.ref h0, .int (nI an), .int (nI bn)] (fun U => U.heap.size = sz ∧ va_P (dC, dI) vwCl (WR a k h0 vi vj vF vG) U.heap ∧ va_K (dC, dI) vwCl (tX12 k) U ∧ va_D (fun _ => True) (WR a k h0 vi vj vF vG))) (va_Qi (fun (r : Int32) (u : Unit) => (((r).toInt < 0 ∧ xa < xb) ∨ ((r).toInt = 0 ∧ xa = xb) ∨ (0 < (r).toInt ∧ xb < xa))) (fun (u : Unit) t => va_P (dC, dI) vwCl (WR a k h0 vi vj vF vG) t.heap ∧ va_D (va_A (WR a k h0 vi vj vF vG) sz) (WR a k h0 vi vj vF vG)) (va_A (WR a k h0 vi vj vF vG) sz)) 0 0 (va_A (WR a k h0 vi vj vF vG) sz) := by
  refine Met.ofW (cc := cX12_compare) (maxL := 5) (ret := (some .int)) (by decide) rfl ?_
  intro p e s m args below meth c s₁ B hml hv
  obtain ⟨rfl, hsz, hP, hK, hD0⟩ := hv
  have hx := B.exec
  have hb := B.bytes
  have hr := B.returns
  have hts := atoms_spec (ws := wsRX12_compare) B.pre
  have hown : s.vm.findClass RX12 = some m.cls := findClass_of_methodNamed B.named
  have hlocks := B.notSynchronized
  subst hsz
  have hD := hD0.self (sz := s.heap.size)
  generalize hAe : va_A (WR a k h0 vi vj vF vG) s.heap.size = A at hD ⊢
  have hA : ∀ q : Nat, s.heap.size ≤ q → A q := fun q h => by rw [← hAe]; exact Or.inr h
  have hS : va_S A s.heap s.heap [] := va_S.rf
  have hl := lv_entry ([.ref h0, .int (nI an), .int (nI bn)]) (n := 5) (Nat.le_of_ble_eq_true rfl)
  rw [lg_entry_eq]
  generalize (lg_sl ([.ref h0, .int (nI an), .int (nI bn)]) ++ List.replicate (5 - (lg_sl ([.ref h0, .int (nI an), .int (nI bn)])).length) Slot.unset).toArray = ls at hl ⊢
  have hl : lv_has ls 5 [(0, .ref h0), (1, .int (nI an)), (2, .int (nI bn))] := hl
  obtain ⟨na, hna1, hna2, hna3, hna4, hna5, hna6⟩ := id hxa
  obtain ⟨nb_, hnb1, hnb2, hnb3, hnb4, hnb5, hnb6⟩ := id hxb
  have sa := sgT hna6
  have sb := sgT hnb6
  refine lv_aload_n hx hb dX12_compare_0 rfl (lv_at hl 0 rfl) ?_
  refine lv_iload_n hx hb dX12_compare_1 rfl (lv_at hl 1 rfl) ?_
  have hFc := allFree hD hS hA
  refine va_calli (va_runV (As := [.int (nI an)]) (rest := []) ⟨hx, hb, hml, hown, hts⟩ (r_X12_sign l dC dI a k h0 vi vj vF vG an (by first | with_reducible assumption | decide | omega | rfl | assumption) s.heap.size) (cwV 1 hts gwsRX12_compare_0 rfl rfl rfl hd_yX12_sign_RX12 (by decide +kernel)) (fz_pre (va_recv hK hP (ci := 12) (q0 := 0) rfl rfl) hP hK hD) rfl rfl hl.1 rfl (lv_room (Nat.le_of_ble_eq_true rfl)) dX12_compare_2 (by decide +kernel)) hS (fun q _ h => hFc q h) hFc (fun r2 u t9_ H locs ht hvm hw9 hB9 hz1 hk1 hS => ?_)
  have hP : va_P (dC, dI) vwCl (WR a k h0 vi vj vF vG) H := fz_P ht hB9.1
  have hD := fz_sd hP (hB9.2.weaken (fun _ q _ h => hFc q.1 h)) rfl
  obtain rfl := hw9
  refine lv_istore_n hx hb dX12_compare_5 rfl hl (by decide) rfl (fun ls (hl : lv_has ls _ ([(3, .int (vF 0 (24 * an))), (0, .ref h0), (1, .int (nI an)), (2, .int (nI bn))])) => ?_)
  refine lv_aload_n hx hb dX12_compare_6 rfl (lv_at hl 1 rfl) ?_
  refine lv_iload_n hx hb dX12_compare_7 rfl (lv_at hl 3 rfl) ?_
  have hFc := allFree hD hS hA
  refine va_calli (va_runV (As := [.int (nI bn)]) (rest := []) ⟨hx, hb, hml, hown, hts⟩ (r_X12_sign l dC dI a k h0 vi vj vF vG bn (by first | with_reducible assumption | decide | omega | rfl | assumption) H.size) (cwV 1 hts gwsRX12_compare_0 rfl rfl rfl hd_yX12_sign_RX12 (by decide +kernel)) (fz_pre (va_recv hK hP (ci := 12) (q0 := 0) rfl rfl) hP hK hD) rfl rfl hl.1 rfl (lv_room (Nat.le_of_ble_eq_true rfl)) dX12_compare_8 (by decide +kernel)) hS (fun q _ h => hFc q h) hFc (fun r8 u t9_ H locs ht hvm hw9 hB9 hz1 hk1 hS => ?_)
  have hP : va_P (dC, dI) vwCl (WR a k h0 vi vj vF vG) H := fz_P ht hB9.1
  have hD := fz_sd hP (hB9.2.weaken (fun _ q _ h => hFc q.1 h)) rfl
  obtain rfl := hw9
  refine lv_istore hx hb dX12_compare_11 hl (by decide) rfl (fun ls (hl : lv_has ls _ ([(4, .int (vF 0 (24 * bn))), (3, .int (vF 0 (24 * an))), (0, .ref h0), (1, .int (nI an)), (2, .int (nI bn))])) => ?_)
  refine lv_iload_n hx hb dX12_compare_13 rfl (lv_at hl 1 rfl) ?_
  refine lv_iload hx hb dX12_compare_14 (lv_at hl 0 rfl) ?_
  refine lv_icmp_eq (tgt := 26) hx hb dX12_compare_16 (by decide) (fun c_16 => ?_) (fun c_16 => ?_)
  · have t_16 : ((vF 0 (24 * an))).toInt = ((vF 0 (24 * bn))).toInt := toI_eq c_16 rfl rfl
    refine lv_iload_n hx hb dX12_compare_26 rfl (lv_at hl 1 rfl) ?_
    refine lv_if_ne (tgt := 34) hx hb dX12_compare_27 (by decide) (fun c_27 => ?_) (fun c_27 => ?_)
    · have t_27 : ((vF 0 (24 * an))).toInt ≠ 0 := toI_ne c_27 rfl (by decide)
      refine lv_iload_n hx hb dX12_compare_34 rfl (lv_at hl 1 rfl) ?_
      refine lv_aload_n hx hb dX12_compare_35 rfl (lv_at hl 2 rfl) ?_
      refine lv_iload_n hx hb dX12_compare_36 rfl (lv_at hl 3 rfl) ?_
      refine lv_iload_n hx hb dX12_compare_37 rfl (lv_at hl 4 rfl) ?_
      have hFc := allFree hD hS hA
      refine va_calli (va_runV (As := [.int (nI an), .int (nI bn)]) (rest := [.int (vF 0 (24 * an))]) ⟨hx, hb, hml, hown, hts⟩ (r_X12_bare l dC dI a k h0 vi vj vF vG an bn xa xb (by first | with_reducible assumption | decide | omega | rfl | assumption) (by first | with_reducible assumption | decide | omega | rfl | assumption) (hxa) (hxb) H.size) (cwV 2 hts gwsRX12_compare_1 rfl rfl rfl hd_yX12_bare_RX12 (by decide +kernel)) (fz_pre (va_recv hK hP (ci := 12) (q0 := 0) rfl rfl) hP hK hD) rfl rfl hl.1 rfl (lv_room (Nat.le_of_ble_eq_true rfl)) dX12_compare_38 (by decide +kernel)) hS (fun q _ h => hFc q h) hFc (fun r38 u t9_ H locs ht hvm hw9 hB9 hz1 hk1 hS => ?_)
      have hP : va_P (dC, dI) vwCl (WR a k h0 vi vj vF vG) H := fz_P ht hB9.1
      have hD := fz_sd hP (hB9.2.weaken (fun _ q _ h => hFc q.1 h)) rfl
      revert hw9
      refine fz_a2 ?_
      intro f38_0 f38_1
      refine lv_imul hx hb dX12_compare_41 ?_
      refine W.widen (k := 0) (n := 0) (by decide +kernel) (by decide +kernel) ?_
      exact W.iret (v := ((vF 0 (24 * an)) * r38)) hx hb hr (fun t9_ ht hW => ⟨⟨((vF 0 (24 * an)) * r38), (), rfl, by (try dsimp only); (have e9 : (((vF 0 (24 * an)) * r38)).toInt = (vF 0 (24 * an)).toInt * (r38).toInt := mulS (by omega) (by omega)); (have e8 : (vF 0 (24 * an)).toInt = 1 ∨ (vF 0 (24 * an)).toInt = -1 := by omega); rcases e8 with e8 | e8 <;> rw [e8] at e9 <;> omega, by rw [ht]; exact hP, hD⟩, hS.F ht⟩) hS.2.2 dX12_compare_42
    · have t_27 : ((vF 0 (24 * an))).toInt = 0 := toI_nne c_27 rfl (by decide)
      refine lv_iconst (v := 0) hx hb dX12_compare_30 (by decide) ?_
      refine lv_goto (tgt := 42) hx hb dX12_compare_31 (by decide) ?_
      refine W.widen (k := 0) (n := 0) (by decide +kernel) (by decide +kernel) ?_
      exact W.iret (v := 0) hx hb hr (fun t9_ ht hW => ⟨⟨0, (), rfl, by (try dsimp only); (have e9 : (0 : Int32).toInt = 0 := by decide); omega, by rw [ht]; exact hP, hD⟩, hS.F ht⟩) hS.2.2 dX12_compare_42
  · have t_16 : ¬ ((vF 0 (24 * an))).toInt = ((vF 0 (24 * bn))).toInt := toI_neq c_16 rfl rfl
    refine lv_iload_n hx hb dX12_compare_19 rfl (lv_at hl 1 rfl) ?_
    refine lv_iload hx hb dX12_compare_20 (lv_at hl 0 rfl) ?_
    refine lv_isub hx hb dX12_compare_22 ?_
    refine lv_goto (tgt := 42) hx hb dX12_compare_23 (by decide) ?_
    refine W.widen (k := 0) (n := 0) (by decide +kernel) (by decide +kernel) ?_
    exact W.iret (v := ((vF 0 (24 * an)) - (vF 0 (24 * bn)))) hx hb hr (fun t9_ ht hW => ⟨⟨((vF 0 (24 * an)) - (vF 0 (24 * bn))), (), rfl, by (try dsimp only); (have e9 : (((vF 0 (24 * an)) - (vF 0 (24 * bn)))).toInt = (vF 0 (24 * an)).toInt - (vF 0 (24 * bn)).toInt := subB (by omega) (by omega)); omega, by rw [ht]; exact hP, hD⟩, hS.F ht⟩) hS.2.2 dX12_compare_42
end
section
def sv28 (f : Nat → Int64) : Nat → Int
  | 0 => 0
  | n + 1 => sv28 f n + (f n).toInt * ((2 ^ (28 * n) : Nat) : Int)
theorem maskS (v : Int64) : ∃ md : Nat, md < 268435456 ∧ (md : Int) = v.toInt % 268435456 ∧ v &&& 268435455 = lN md := by
  refine ⟨v.toBitVec.toNat % 268435456, by omega, ?_, ?_⟩
  · have h : v.toInt = v.toBitVec.toInt := rfl
    rw [h, BitVec.toInt_eq_toNat_cond]
    split <;> omega
  · apply Int64.toBitVec_inj.mp
    apply BitVec.eq_of_toNat_eq
    have h2 : (lN (v.toBitVec.toNat % 268435456)).toBitVec.toNat = v.toBitVec.toNat % 268435456 := Nat.mod_eq_of_lt (by omega)
    rw [Int64.toBitVec_and, BitVec.toNat_and, h2]
    exact Nat.and_two_pow_sub_one_eq_mod _ 28
theorem shrS (v : Int64) : (v >>> ((28 : Int32).toInt64 &&& 63)).toInt = v.toInt / 268435456 := by
  have e : (v >>> ((28 : Int32).toInt64 &&& 63)).toInt = v.toInt >>> 28 := BitVec.toInt_sshiftRight ..
  rw [e, Int.shiftRight_eq_div_pow]
  rfl
theorem addJ {x y : Int64} (hx : -2305843009213693952 ≤ x.toInt ∧ x.toInt ≤ 2305843009213693952) (hy : -2305843009213693952 ≤ y.toInt ∧ y.toInt ≤ 2305843009213693952) : (x + y).toInt = x.toInt + y.toInt := by
  rw [Int64.toInt_add]
  exact Int.bmod_eq_of_le (by omega) (by omega)
theorem sv_step {g : Nat → Int32} {gs : Nat → Int64} {o i md : Nat} {ov v : Int} (ho : o + i < 2 ^ 31) (hm : md < 268435456) (h : ((lv28 g o i : Nat) : Int) + ov * ((2 ^ (28 * i) : Nat) : Int) = sv28 gs i) (hv : v = (gs i).toInt + ov) (hmd : (md : Int) = v % 268435456) :
    ((lv28 (upd g (nI (o + i)).toNatClampNeg (nI md)) o (i + 1) : Nat) : Int) + v / 268435456 * ((2 ^ (28 * (i + 1)) : Nat) : Int) = sv28 gs (i + 1) := by
  have e1 : lv28 (upd g (nI (o + i)).toNatClampNeg (nI md)) o i = lv28 g o i := lv28_congr fun q hq => by rw [upd_at ho, if_neg (by omega)]
  have e2 : (nI md).toNatClampNeg = md := nI_clamp (by omega)
  simp only [lv28, sv28]
  rw [e1, upd_at ho, if_pos rfl, e2, show 28 * (i + 1) = 28 * i + 28 by omega, Nat.pow_add]
  generalize hP : 2 ^ (28 * i) = P at h ⊢
  have e3 : v = (md : Int) + 268435456 * (v / 268435456) := by omega
  have e4 : ((lv28 g o i + md * P : Nat) : Int) = (lv28 g o i : Int) + (md : Int) * (P : Int) := by rw [Int.natCast_add, Int.natCast_mul]
  have e5 : v / 268435456 * ((P * 2 ^ 28 : Nat) : Int) = 268435456 * (v / 268435456) * (P : Int) := by
    rw [Int.natCast_mul, Int.mul_comm (P : Int), ← Int.mul_assoc, Int.mul_comm (v / 268435456)]; rfl
  rw [e4, e5]
  have e6 : (md : Int) * (P : Int) + 268435456 * (v / 268435456) * (P : Int) = v * (P : Int) := by rw [← Int.add_mul, ← e3]
  have e7 : v * (P : Int) = (gs i).toInt * (P : Int) + ov * (P : Int) := by rw [hv, Int.add_mul]
  omega
theorem lv28_top22 {r n v : Nat} (h : v + r * 2 ^ (28 * n) < 2 ^ 616) (hr : 0 < r) : n ≤ 21 := by
  refine Nat.le_of_not_lt fun hn => ?_
  have h1 : 2 ^ 616 ≤ 2 ^ (28 * n) := Nat.pow_le_pow_right (by omega) (by omega)
  have h2 : 2 ^ (28 * n) ≤ r * 2 ^ (28 * n) := Nat.le_mul_of_pos_left _ hr
  omega
theorem ov_pos {L n : Nat} {ov S : Int} (hL : L < 2 ^ (28 * n)) (h : (L : Int) + ov * ((2 ^ (28 * n) : Nat) : Int) = S) (hS : 0 ≤ S) : 0 ≤ ov := by
  refine Int.not_lt.mp fun hneg => ?_
  generalize 2 ^ (28 * n) = P at hL h
  have : ov * (P : Int) ≤ -1 * (P : Int) := Int.mul_le_mul_of_nonneg_right (by omega) (by omega)
  omega
theorem nu_fin {G : Nat → Int32} {sn kk SS : Nat} {sg : Int} {qs : Int32} (hk : kk ≤ 22) (h1 : G (24 * sn + 1) = nI kk) (hL : Lm G (24 * sn + 2) kk) (ht : 0 < kk → G (24 * sn + 1 + kk) ≠ 0) (hv : lv28 G (24 * sn + 2) kk = SS) (hq : (kk = 0 ∧ G (24 * sn) = 0) ∨ (0 < kk ∧ G (24 * sn) = qs)) (hsg : 0 < SS → (sg = 1 ∧ qs = 1) ∨ (sg = -1 ∧ qs = -1)) : Nu G sn (sg * (SS : Int)) := by
  rcases hq with ⟨h0, hq⟩ | ⟨h0, hq⟩
  · subst h0
    have e : SS = 0 := by rw [← hv]; rfl
    subst e
    exact ⟨0, by omega, h1, hL, ht, by simp [lv28], Or.inl ⟨by simp, hq⟩⟩
  · obtain ⟨k, rfl⟩ : ∃ k, kk = k + 1 := ⟨kk - 1, by omega⟩
    have h2 := lv28_ge hL (by rw [show 24 * sn + 2 + k = 24 * sn + 1 + (k + 1) by omega]; exact ht h0)
    have h3 : 0 < 2 ^ (28 * k) := Nat.two_pow_pos _
    have hS : 0 < SS := by omega
    rcases hsg hS with ⟨a1, a2⟩ | ⟨a1, a2⟩
    · subst a1
      exact ⟨k + 1, hk, h1, hL, ht, by rw [hv]; omega, Or.inr (Or.inl ⟨by omega, by rw [hq, a2]⟩)⟩
    · subst a1
      exact ⟨k + 1, hk, h1, hL, ht, by rw [hv]; omega, Or.inr (Or.inr ⟨by omega, by rw [hq, a2]⟩)⟩
end
section
theorem dX12_carry_0 : decode cX12_carry 0 = .ok (.lconst 0, 1) := dk_9 (by decide +kernel)
theorem dX12_carry_1 : decode cX12_carry 1 = .ok (.lstore 4, 2) := dk_55 (by decide +kernel)
theorem dX12_carry_3 : decode cX12_carry 3 = .ok (.iconst 0, 1) := dk_3 (by decide +kernel)
theorem dX12_carry_4 : decode cX12_carry 4 = .ok (.istore 6, 2) := dk_54 (by decide +kernel)
theorem dX12_carry_6 : decode cX12_carry 6 = .ok (.iload 6, 2) := dk_21 (by decide +kernel)
theorem dX12_carry_8 : decode cX12_carry 8 = .ok (.iload_n 2, 1) := dk_28 (by decide +kernel)
theorem dX12_carry_9 : decode cX12_carry 9 = .ok (.if_icmp .ge 49, 3) := dk_162 (by decide +kernel)
theorem dX12_carry_12 : decode cX12_carry 12 = .ok (.aload_n 0, 1) := dk_42 (by decide +kernel)
theorem dX12_carry_13 : decode cX12_carry 13 = .ok (.getfield 13, 3) := dk_180 (by decide +kernel)
theorem dX12_carry_16 : decode cX12_carry 16 = .ok (.iload 6, 2) := dk_21 (by decide +kernel)
theorem dX12_carry_18 : decode cX12_carry 18 = .ok (.laload, 1) := dk_47 (by decide +kernel)
theorem dX12_carry_19 : decode cX12_carry 19 = .ok (.lload 4, 2) := dk_22 (by decide +kernel)
theorem dX12_carry_21 : decode cX12_carry 21 = .ok (.ladd, 1) := dk_97 (by decide +kernel)
theorem dX12_carry_22 : decode cX12_carry 22 = .ok (.lstore 7, 2) := dk_55 (by decide +kernel)
theorem dX12_carry_24 : decode cX12_carry 24 = .ok (.lload 7, 2) := dk_22 (by decide +kernel)
theorem dX12_carry_26 : decode cX12_carry 26 = .ok (.bipush 28, 2) := dk_16 (by decide +kernel)
theorem dX12_carry_28 : decode cX12_carry 28 = .ok (.lshr, 1) := dk_123 (by decide +kernel)
theorem dX12_carry_29 : decode cX12_carry 29 = .ok (.lstore 4, 2) := dk_55 (by decide +kernel)
theorem dX12_carry_31 : decode cX12_carry 31 = .ok (.aload_n 0, 1) := dk_42 (by decide +kernel)
theorem dX12_carry_32 : decode cX12_carry 32 = .ok (.getfield 7, 3) := dk_180 (by decide +kernel)
theorem dX12_carry_35 : decode cX12_carry 35 = .ok (.bipush 24, 2) := dk_16 (by decide +kernel)
theorem dX12_carry_37 : decode cX12_carry 37 = .ok (.iload_n 1, 1) := dk_27 (by decide +kernel)
theorem dX12_carry_38 : decode cX12_carry 38 = .ok (.imul, 1) := dk_104 (by decide +kernel)
theorem dX12_carry_39 : decode cX12_carry 39 = .ok (.iconst 2, 1) := dk_5 (by decide +kernel)
theorem dX12_carry_40 : decode cX12_carry 40 = .ok (.iadd, 1) := dk_96 (by decide +kernel)
theorem dX12_carry_41 : decode cX12_carry 41 = .ok (.iload 6, 2) := dk_21 (by decide +kernel)
theorem dX12_carry_43 : decode cX12_carry 43 = .ok (.iadd, 1) := dk_96 (by decide +kernel)
theorem dX12_carry_44 : decode cX12_carry 44 = .ok (.lload 7, 2) := dk_22 (by decide +kernel)
theorem dX12_carry_46 : decode cX12_carry 46 = .ok (.ldc2_w 351, 3) := dk_20 (by decide +kernel)
theorem dX12_carry_49 : decode cX12_carry 49 = .ok (.land, 1) := dk_127 (by decide +kernel)
theorem dX12_carry_50 : decode cX12_carry 50 = .ok (.l2i, 1) := dk_136 (by decide +kernel)
theorem dX12_carry_51 : decode cX12_carry 51 = .ok (.iastore, 1) := dk_79 (by decide +kernel)
theorem dX12_carry_52 : decode cX12_carry 52 = .ok (.iinc 6 1, 3) := dk_132 (by decide +kernel)
theorem dX12_carry_55 : decode cX12_carry 55 = .ok (.goto (-49), 3) := dk_167 (by decide +kernel)
theorem dX12_carry_58 : decode cX12_carry 58 = .ok (.iload_n 2, 1) := dk_28 (by decide +kernel)
theorem dX12_carry_59 : decode cX12_carry 59 = .ok (.istore 6, 2) := dk_54 (by decide +kernel)
theorem dX12_carry_61 : decode cX12_carry 61 = .ok (.lload 4, 2) := dk_22 (by decide +kernel)
theorem dX12_carry_63 : decode cX12_carry 63 = .ok (.lconst 0, 1) := dk_9 (by decide +kernel)
theorem dX12_carry_64 : decode cX12_carry 64 = .ok (.lcmp, 1) := dk_148 (by decide +kernel)
theorem dX12_carry_65 : decode cX12_carry 65 = .ok (.ifCond .le 37, 3) := dk_158 (by decide +kernel)
theorem dX12_carry_68 : decode cX12_carry 68 = .ok (.aload_n 0, 1) := dk_42 (by decide +kernel)
theorem dX12_carry_69 : decode cX12_carry 69 = .ok (.getfield 7, 3) := dk_180 (by decide +kernel)
theorem dX12_carry_72 : decode cX12_carry 72 = .ok (.bipush 24, 2) := dk_16 (by decide +kernel)
theorem dX12_carry_74 : decode cX12_carry 74 = .ok (.iload_n 1, 1) := dk_27 (by decide +kernel)
theorem dX12_carry_75 : decode cX12_carry 75 = .ok (.imul, 1) := dk_104 (by decide +kernel)
theorem dX12_carry_76 : decode cX12_carry 76 = .ok (.iconst 2, 1) := dk_5 (by decide +kernel)
theorem dX12_carry_77 : decode cX12_carry 77 = .ok (.iadd, 1) := dk_96 (by decide +kernel)
theorem dX12_carry_78 : decode cX12_carry 78 = .ok (.iload 6, 2) := dk_21 (by decide +kernel)
theorem dX12_carry_80 : decode cX12_carry 80 = .ok (.iadd, 1) := dk_96 (by decide +kernel)
theorem dX12_carry_81 : decode cX12_carry 81 = .ok (.lload 4, 2) := dk_22 (by decide +kernel)
theorem dX12_carry_83 : decode cX12_carry 83 = .ok (.ldc2_w 351, 3) := dk_20 (by decide +kernel)
theorem dX12_carry_86 : decode cX12_carry 86 = .ok (.land, 1) := dk_127 (by decide +kernel)
theorem dX12_carry_87 : decode cX12_carry 87 = .ok (.l2i, 1) := dk_136 (by decide +kernel)
theorem dX12_carry_88 : decode cX12_carry 88 = .ok (.iastore, 1) := dk_79 (by decide +kernel)
theorem dX12_carry_89 : decode cX12_carry 89 = .ok (.lload 4, 2) := dk_22 (by decide +kernel)
theorem dX12_carry_91 : decode cX12_carry 91 = .ok (.bipush 28, 2) := dk_16 (by decide +kernel)
theorem dX12_carry_93 : decode cX12_carry 93 = .ok (.lshr, 1) := dk_123 (by decide +kernel)
theorem dX12_carry_94 : decode cX12_carry 94 = .ok (.lstore 4, 2) := dk_55 (by decide +kernel)
theorem dX12_carry_96 : decode cX12_carry 96 = .ok (.iinc 6 1, 3) := dk_132 (by decide +kernel)
theorem dX12_carry_99 : decode cX12_carry 99 = .ok (.goto (-38), 3) := dk_167 (by decide +kernel)
theorem dX12_carry_102 : decode cX12_carry 102 = .ok (.iload 6, 2) := dk_21 (by decide +kernel)
theorem dX12_carry_104 : decode cX12_carry 104 = .ok (.ifCond .le 26, 3) := dk_158 (by decide +kernel)
theorem dX12_carry_107 : decode cX12_carry 107 = .ok (.aload_n 0, 1) := dk_42 (by decide +kernel)
theorem dX12_carry_108 : decode cX12_carry 108 = .ok (.getfield 7, 3) := dk_180 (by decide +kernel)
theorem dX12_carry_111 : decode cX12_carry 111 = .ok (.bipush 24, 2) := dk_16 (by decide +kernel)
theorem dX12_carry_113 : decode cX12_carry 113 = .ok (.iload_n 1, 1) := dk_27 (by decide +kernel)
theorem dX12_carry_114 : decode cX12_carry 114 = .ok (.imul, 1) := dk_104 (by decide +kernel)
theorem dX12_carry_115 : decode cX12_carry 115 = .ok (.iconst 1, 1) := dk_4 (by decide +kernel)
theorem dX12_carry_116 : decode cX12_carry 116 = .ok (.iadd, 1) := dk_96 (by decide +kernel)
theorem dX12_carry_117 : decode cX12_carry 117 = .ok (.iload 6, 2) := dk_21 (by decide +kernel)
theorem dX12_carry_119 : decode cX12_carry 119 = .ok (.iadd, 1) := dk_96 (by decide +kernel)
theorem dX12_carry_120 : decode cX12_carry 120 = .ok (.iaload, 1) := dk_46 (by decide +kernel)
theorem dX12_carry_121 : decode cX12_carry 121 = .ok (.ifCond .ne 9, 3) := dk_154 (by decide +kernel)
theorem dX12_carry_124 : decode cX12_carry 124 = .ok (.iinc 6 (-1), 3) := dk_132 (by decide +kernel)
theorem dX12_carry_127 : decode cX12_carry 127 = .ok (.goto (-25), 3) := dk_167 (by decide +kernel)
theorem dX12_carry_130 : decode cX12_carry 130 = .ok (.aload_n 0, 1) := dk_42 (by decide +kernel)
theorem dX12_carry_131 : decode cX12_carry 131 = .ok (.getfield 7, 3) := dk_180 (by decide +kernel)
theorem dX12_carry_134 : decode cX12_carry 134 = .ok (.bipush 24, 2) := dk_16 (by decide +kernel)
theorem dX12_carry_136 : decode cX12_carry 136 = .ok (.iload_n 1, 1) := dk_27 (by decide +kernel)
theorem dX12_carry_137 : decode cX12_carry 137 = .ok (.imul, 1) := dk_104 (by decide +kernel)
theorem dX12_carry_138 : decode cX12_carry 138 = .ok (.iconst 1, 1) := dk_4 (by decide +kernel)
theorem dX12_carry_139 : decode cX12_carry 139 = .ok (.iadd, 1) := dk_96 (by decide +kernel)
theorem dX12_carry_140 : decode cX12_carry 140 = .ok (.iload 6, 2) := dk_21 (by decide +kernel)
theorem dX12_carry_142 : decode cX12_carry 142 = .ok (.iastore, 1) := dk_79 (by decide +kernel)
theorem dX12_carry_143 : decode cX12_carry 143 = .ok (.aload_n 0, 1) := dk_42 (by decide +kernel)
theorem dX12_carry_144 : decode cX12_carry 144 = .ok (.getfield 7, 3) := dk_180 (by decide +kernel)
theorem dX12_carry_147 : decode cX12_carry 147 = .ok (.bipush 24, 2) := dk_16 (by decide +kernel)
theorem dX12_carry_149 : decode cX12_carry 149 = .ok (.iload_n 1, 1) := dk_27 (by decide +kernel)
theorem dX12_carry_150 : decode cX12_carry 150 = .ok (.imul, 1) := dk_104 (by decide +kernel)
theorem dX12_carry_151 : decode cX12_carry 151 = .ok (.iload 6, 2) := dk_21 (by decide +kernel)
theorem dX12_carry_153 : decode cX12_carry 153 = .ok (.ifCond .ne 7, 3) := dk_154 (by decide +kernel)
theorem dX12_carry_156 : decode cX12_carry 156 = .ok (.iconst 0, 1) := dk_3 (by decide +kernel)
theorem dX12_carry_157 : decode cX12_carry 157 = .ok (.goto 4, 3) := dk_167 (by decide +kernel)
theorem dX12_carry_160 : decode cX12_carry 160 = .ok (.iload_n 3, 1) := dk_29 (by decide +kernel)
theorem dX12_carry_161 : decode cX12_carry 161 = .ok (.iastore, 1) := dk_79 (by decide +kernel)
theorem dX12_carry_162 : decode cX12_carry 162 = .ok (.return_, 1) := dk_177 (by decide +kernel)
def wsRX12_carry : List Cond := .code yX12_carry cX12_carry 9 none :: ([.fieldLink RX12 7 "OptimaWorksModel" "big" "[I", .constantLong RX12 351 268435455, .fieldLink RX12 13 "OptimaWorksModel" "sum" "[J"] ++ wsX120)
theorem iwsRX12_carry_in12 : ∀ w ∈ wsX120, w ∈ wsRX12_carry := fun _ h => List.mem_cons_of_mem _ (List.mem_append_right _ h)
theorem hm_r_X12_carry_0 : (.fieldLink RX12 7 "OptimaWorksModel" "big" "[I" : Cond) ∈ wsRX12_carry := by decide +kernel
theorem hm_r_X12_carry_1 : (.constantLong RX12 351 268435455 : Cond) ∈ wsRX12_carry := by decide +kernel
set_option maxHeartbeats 4000000 in
set_option maxRecDepth 100000 in
/-- carry(s, n, sign) -/
theorem r_X12_carry (l : Launch) (dC : Nat → ClassId) (dI : Nat → Nat → Nat) (a : Nat → Nat) (k : Nat → ClassId) (h0 : Nat) (vi : Nat → Int32) (vj : Nat → Int64) (vF : Nat → Nat → Int32) (vG : Nat → Nat → Int64) (sn : Nat) (n : Nat) (qs : Int32) (SS : Nat) (sg : Int) (hs : sn < 1100) (hn : n ≤ 22) (hgs : ∀ q, q < n → -1152921504606846976 ≤ (vG 1 q).toInt ∧ (vG 1 q).toInt ≤ 1152921504606846976) (hSS : sv28 (vG 1) n = (SS : Int)) (hSb : SS < 2 ^ 616) (hsg : 0 < SS → (sg = 1 ∧ qs = 1) ∨ (sg = -1 ∧ qs = -1)) (sz : Nat) : Met l yX12_carry wsRX12_carry ({ frames := 0, cells := 0, slots := 0, locals := 0 }) (va_Pc [.ref h0, .int (nI sn), .int (nI n), .int qs] (fun U => U.heap.size = sz ∧ va_P (dC, dI) vwCl (WR a k h0 vi vj vF vG) U.heap ∧ va_K (dC, dI) vwCl (tX12 k) U ∧ va_D (fun _ => True) (WR a k h0 vi vj vF vG))) (va_Qv (fun (u : Nat → Int32) => (Nu u sn (sg * (SS : Int))) ∧ (∀ q, (q < 24 * sn ∨ 24 * sn + 24 ≤ q) → u q = vF 0 q)) (fun (u : Nat → Int32) t => va_P (dC, dI) vwCl (WR a k h0 vi vj (fT vF 0 u) vG) t.heap ∧ va_D (va_A (WR a k h0 vi vj vF vG) sz) (WR a k h0 vi vj (fT vF 0 u) vG)) (va_A (WR a k h0 vi vj vF vG) sz)) 0 0 (va_A (WR a k h0 vi vj vF vG) sz) := by
  refine Met.ofW (cc := cX12_carry) (maxL := 9) (ret := none) (by decide) rfl ?_
  intro p e s m args below meth c s₁ B hml hv
  obtain ⟨rfl, hsz, hP, hK, hD0⟩ := hv
  have hx := B.exec
  have hb := B.bytes
  have hr := B.returns
  have hts := atoms_spec (ws := wsRX12_carry) B.pre
  have hown : s.vm.findClass RX12 = some m.cls := findClass_of_methodNamed B.named
  have hlocks := B.notSynchronized
  subst hsz
  have hD := hD0.self (sz := s.heap.size)
  generalize hAe : va_A (WR a k h0 vi vj vF vG) s.heap.size = A at hD ⊢
  have hA : ∀ q : Nat, s.heap.size ≤ q → A q := fun q h => by rw [← hAe]; exact Or.inr h
  have hS : va_S A s.heap s.heap [] := va_S.rf
  have hl := lv_entry ([.ref h0, .int (nI sn), .int (nI n), .int qs]) (n := 9) (Nat.le_of_ble_eq_true rfl)
  rw [lg_entry_eq]
  generalize (lg_sl ([.ref h0, .int (nI sn), .int (nI n), .int qs]) ++ List.replicate (9 - (lg_sl ([.ref h0, .int (nI sn), .int (nI n), .int qs])).length) Slot.unset).toArray = ls at hl ⊢
  have hl : lv_has ls 9 [(0, .ref h0), (1, .int (nI sn)), (2, .int (nI n)), (3, .int qs)] := hl
  refine lv_lconst (v := 0) hx hb dX12_carry_0 (by decide) ?_
  refine lv_lstore hx hb dX12_carry_1 hl (by decide) rfl (fun ls (hl : lv_has ls _ ([(4, .long 0), (0, .ref h0), (1, .int (nI sn)), (2, .int (nI n)), (3, .int qs)])) => ?_)
  refine lv_iconst (v := 0) hx hb dX12_carry_3 (by decide) ?_
  refine lv_istore hx hb dX12_carry_4 hl (by decide) rfl (fun ls (hl : lv_has ls _ ([(6, .int 0), (4, .long 0), (0, .ref h0), (1, .int (nI sn)), (2, .int (nI n)), (3, .int qs)])) => ?_)
  have e9 : fT vF 0 (vF 0) = vF := by funext q9; by_cases h9_0 : q9 = 0; (subst h9_0; exact (fT_eq _ _ _).trans (Eq.trans (by first | with_reducible rfl | with_reducible assumption | (symm; with_reducible assumption) | rfl | assumption | (symm; assumption) | (subst_vars; rfl)) (Eq.refl _).symm)); exact (fT_ne _ _ h9_0).trans (Eq.refl _).symm
  have hP := wr_PF e9 hP
  have hD := wr_DF e9 hD
  clear e9
  have hl : lv_has _ _ ([(6, .int (nI 0)), (4, .long 0), (0, .ref h0), (1, .int (nI sn)), (2, .int (nI n)), (3, .int qs)]) := lv_sub hl [0, 1, 2, 3, 4, 5] rfl
  refine (fun (loop : ∀ (n9 : Nat) (i : Nat) (ov : Int64) (g : Nat → Int32) (H : Heap) (locs : List Loc) (ls : Array Slot), (i ≤ n) → (-8589934592 ≤ ov.toInt ∧ ov.toInt ≤ 8589934592) → (((lv28 g (24 * sn + 2) i : Nat) : Int) + ov.toInt * ((2 ^ (28 * i) : Nat) : Int) = sv28 (vG 1) i) → (Lm g (24 * sn + 2) i) → (∀ q, (q < 24 * sn ∨ 24 * sn + 24 ≤ q) → g q = vF 0 q) →  (n < i + n9) → va_P (dC, dI) vwCl (WR a k h0 vi vj (fT vF 0 g) vG) H → va_D A (WR a k h0 vi vj (fT vF 0 g) vG) → va_S A s.heap H locs → lv_has ls 9 [(6, .int (nI i)), (4, .long ov), (0, .ref h0), (1, .int (nI sn)), (2, .int (nI n)), (3, .int qs)] → W p l e _ s m _ below meth c H locs 0 0 _ (F0 m 6 ls [])) => loop (n + 1) 0 0 (vF 0) _ _ _ (by omega) (by decide) (by simp [lv28, sv28]) (fun q hq => absurd hq (by omega)) (fun q hq => rfl) (by omega) hP hD hS hl) ?_
  intro n9
  induction n9 with
  | zero => intro i ov g H locs ls hi hov hlv hlm ho hf9; exact False.elim (by omega)
  | succ n9 ih6 =>
    intro i ov g H locs ls hi hov hlv hlm ho hf6 hP hD hS hl
    refine lv_iload hx hb dX12_carry_6 (lv_at hl 0 rfl) ?_
    refine lv_iload_n hx hb dX12_carry_8 rfl (lv_at hl 4 rfl) ?_
    refine lv_icmp_ge (tgt := 58) hx hb dX12_carry_9 (by decide) (fun c_9 => ?_) (fun c_9 => ?_)
    · have t_9 : ((i : Nat) : Int) ≥ ((n : Nat) : Int) := toI_ge c_9 (nI_toInt (by omega)) (nI_toInt (by omega))
      have ei : i = n := by omega
      subst ei
      have hov0 : 0 ≤ ov.toInt := ov_pos (lv28_lt hlm) hlv (by omega)
      obtain ⟨r0, hr0⟩ : ∃ r0, r0 = ov.toInt.natAbs := ⟨_, rfl⟩
      obtain rfl : lN r0 = ov := (by rw [hr0]; exact (posL hov0).symm)
      have eov : (lN r0).toInt = (r0 : Int) := pk_lT (by omega)
      have hsum : lv28 g (24 * sn + 2) i + r0 * 2 ^ (28 * i) = SS := by rw [eov] at hlv; (have e9 : ((lv28 g (24 * sn + 2) i + r0 * 2 ^ (28 * i) : Nat) : Int) = (SS : Int) := by rw [Int.natCast_add, Int.natCast_mul]; omega); omega
      refine lv_iload_n hx hb dX12_carry_58 rfl (lv_at hl 4 rfl) ?_
      refine lv_istore hx hb dX12_carry_59 hl (by decide) rfl (fun ls (hl : lv_has ls _ ([(6, .int (nI i)), (4, .long (lN r0)), (0, .ref h0), (1, .int (nI sn)), (2, .int (nI i)), (3, .int qs)])) => ?_)
      have hl : lv_has _ _ ([(6, .int (nI i)), (4, .long (lN r0)), (0, .ref h0), (1, .int (nI sn)), (3, .int qs)]) := lv_sub hl [0, 1, 2, 3, 5] rfl
      refine (fun (loop : ∀ (n9 : Nat) (nn : Nat) (rr : Nat) (g2 : Nat → Int32) (H : Heap) (locs : List Loc) (ls : Array Slot), (nn ≤ 22) → (lv28 g2 (24 * sn + 2) nn + rr * 2 ^ (28 * nn) = SS) → (rr < 2 ^ 63) → (Lm g2 (24 * sn + 2) nn) → (∀ q, (q < 24 * sn ∨ 24 * sn + 24 ≤ q) → g2 q = vF 0 q) →  (rr < n9) → va_P (dC, dI) vwCl (WR a k h0 vi vj (fT vF 0 g2) vG) H → va_D A (WR a k h0 vi vj (fT vF 0 g2) vG) → va_S A s.heap H locs → lv_has ls 9 [(6, .int (nI nn)), (4, .long (lN rr)), (0, .ref h0), (1, .int (nI sn)), (3, .int qs)] → W p l e _ s m _ below meth c H locs 0 0 _ (F0 m 61 ls [])) => loop (r0 + 1) i r0 g _ _ _ (by omega) (hsum) (by omega) (hlm) (ho) (by omega) hP hD hS hl) ?_
      intro n9
      induction n9 with
      | zero => intro nn rr g2 H locs ls hnn hlv2 hrb hlm2 ho2 hf9; exact False.elim (by omega)
      | succ n9 ih61_1 =>
        intro nn rr g2 H locs ls hnn hlv2 hrb hlm2 ho2 hf61_1 hP hD hS hl
        refine lv_lload hx hb dX12_carry_61 (lv_at hl 1 rfl) ?_
        refine lv_lconst (v := 0) hx hb dX12_carry_63 (by decide) ?_
        refine W.lcmp hx hb dX12_carry_64 ?_
        refine lv_if_le (tgt := 102) hx hb dX12_carry_65 (by decide) (fun c_65 => ?_) (fun c_65 => ?_)
        · have t_65 : ((rr : Nat) : Int) ≤ 0 := toL_le c_65 (pk_lT (by omega)) (by decide)
          have hl : lv_has _ _ ([(6, .int (nI nn)), (0, .ref h0), (1, .int (nI sn)), (3, .int qs)]) := lv_sub hl [0, 2, 3, 4] rfl
          refine (fun (loop : ∀ (n9 : Nat) (kk : Nat) (H : Heap) (locs : List Loc) (ls : Array Slot), (kk ≤ nn) → (lv28 g2 (24 * sn + 2) kk = SS) →  (kk < n9) → va_P (dC, dI) vwCl (WR a k h0 vi vj (fT vF 0 g2) vG) H → va_D A (WR a k h0 vi vj (fT vF 0 g2) vG) → va_S A s.heap H locs → lv_has ls 9 [(6, .int (nI kk)), (0, .ref h0), (1, .int (nI sn)), (3, .int qs)] → W p l e _ s m _ below meth c H locs 0 0 _ (F0 m 102 ls [])) => loop (nn + 1) nn _ _ _ (by omega) (by (have e8 : rr = 0 := (by omega)); rw [e8, Nat.zero_mul] at hlv2; omega) (by omega) hP hD hS hl) ?_
          intro n9
          induction n9 with
          | zero => intro kk H locs ls hkk hlv3 hf9; exact False.elim (by omega)
          | succ n9 ih102_2 =>
            intro kk H locs ls hkk hlv3 hf102_2 hP hD hS hl
            refine lv_iload hx hb dX12_carry_102 (lv_at hl 0 rfl) ?_
            refine lv_if_le (tgt := 130) hx hb dX12_carry_104 (by decide) (fun c_104 => ?_) (fun c_104 => ?_)
            · have t_104 : ((kk : Nat) : Int) ≤ 0 := toI_le c_104 (nI_toInt (by omega)) (by decide)
              refine lv_aload_n hx hb dX12_carry_130 rfl (lv_at hl 1 rfl) ?_
              refine va_get (D := (dC, dI)) (ci := 12) (v := .ref (a 0)) (C := RX12) (T := TX12) (N := 163) (fs := fM (vS a vi vj)) hx hb hts iwsRX12_carry_in12 hown hK hP 0 rfl rfl 1 (by decide) (hts _ hm_r_X12_carry_0) (fun _ h9 => h9) rfl dX12_carry_131 ?_
              refine lv_bipush (v := 24) hx hb dX12_carry_134 (by decide) ?_
              refine lv_iload_n hx hb dX12_carry_136 rfl (lv_at hl 2 rfl) ?_
              refine lv_imul hx hb dX12_carry_137 ?_
              refine lv_topi (fun y1 hy1 => ?_)
              obtain rfl : (nI (24 * sn)) = y1 := (hy1.trans (pk_mul 24 sn)).symm
              refine lv_iconst (v := 1) hx hb dX12_carry_138 (by decide) ?_
              refine lv_iadd hx hb dX12_carry_139 ?_
              refine lv_topi (fun y2 hy2 => ?_)
              obtain rfl : (nI ((24 * sn) + 1)) = y2 := (hy2.trans (nI_add (24 * sn) 1)).symm
              refine lv_iload hx hb dX12_carry_140 (lv_at hl 0 rfl) ?_
              refine va_iast (cA := k 0) (n := 26400) (f := g2) hx hb hK hP hD hS 1 0 (WR_get 0 (by decide)) (TR_get 0 (by decide)) (vp_in_nI (show ((24 * sn) + 1) < 26400 by omega) (by omega)) dX12_carry_142 (fun H locs hP hD hS => ?_)
              have e9 : fT vF 0 (upd g2 ((nI ((24 * sn) + 1))).toNatClampNeg (nI kk)) = fT (fT vF 0 g2) 0 (upd g2 ((nI ((24 * sn) + 1))).toNatClampNeg (nI kk)) := (fT_sm _ _ _ _).symm
              have hP := wr_PF e9 (fz_w (WR_F 0 (by decide) _ rfl) hP)
              have hD := wr_DF e9 (fz_wD (WR_F 0 (by decide) _ rfl) hD)
              clear e9
              refine lv_aload_n hx hb dX12_carry_143 rfl (lv_at hl 1 rfl) ?_
              refine va_get (D := (dC, dI)) (ci := 12) (v := .ref (a 0)) (C := RX12) (T := TX12) (N := 163) (fs := fM (vS a vi vj)) hx hb hts iwsRX12_carry_in12 hown hK hP 0 rfl rfl 1 (by decide) (hts _ hm_r_X12_carry_0) (fun _ h9 => h9) rfl dX12_carry_144 ?_
              refine lv_bipush (v := 24) hx hb dX12_carry_147 (by decide) ?_
              refine lv_iload_n hx hb dX12_carry_149 rfl (lv_at hl 2 rfl) ?_
              refine lv_imul hx hb dX12_carry_150 ?_
              refine lv_topi (fun y3 hy3 => ?_)
              obtain rfl : (nI (24 * sn)) = y3 := (hy3.trans (pk_mul 24 sn)).symm
              refine lv_iload hx hb dX12_carry_151 (lv_at hl 0 rfl) ?_
              refine lv_if_ne (tgt := 160) hx hb dX12_carry_153 (by decide) (fun c_153 => ?_) (fun c_153 => ?_)
              · have t_153 : ((kk : Nat) : Int) ≠ 0 := toI_ne c_153 (nI_toInt (by omega)) (by decide)
                refine lv_iload_n hx hb dX12_carry_160 rfl (lv_at hl 3 rfl) ?_
                refine va_iast (cA := k 0) (n := 26400) (f := (upd g2 ((nI ((24 * sn) + 1))).toNatClampNeg (nI kk))) hx hb hK hP hD hS 1 0 (WR_get 0 (by decide)) (TR_get 0 (by decide)) (vp_in_nI (show (24 * sn) < 26400 by omega) (by omega)) dX12_carry_161 (fun H locs hP hD hS => ?_)
                have e9 : fT vF 0 (upd (upd g2 ((nI ((24 * sn) + 1))).toNatClampNeg (nI kk)) ((nI (24 * sn))).toNatClampNeg qs) = fT (fT vF 0 (upd g2 ((nI ((24 * sn) + 1))).toNatClampNeg (nI kk))) 0 (upd (upd g2 ((nI ((24 * sn) + 1))).toNatClampNeg (nI kk)) ((nI (24 * sn))).toNatClampNeg qs) := (fT_sm _ _ _ _).symm
                have hP := wr_PF e9 (fz_w (WR_F 0 (by decide) _ rfl) hP)
                have hD := wr_DF e9 (fz_wD (WR_F 0 (by decide) _ rfl) hD)
                clear e9
                refine W.widen (k := 0) (n := 0) (by decide +kernel) (by decide +kernel) ?_
                exact W.vret hx hb hr (fun t9_ ht hW => ⟨⟨(upd (upd g2 ((nI ((24 * sn) + 1))).toNatClampNeg (nI kk)) ((nI (24 * sn))).toNatClampNeg qs), rfl, by (try dsimp only); exact ⟨nu_fin (kk := kk) (qs := qs) (by omega) (by rw [upd_at (by omega), if_neg (by omega), upd_at (by omega), if_pos rfl]) (fun q hq => by rw [upd_at (by omega), if_neg (by omega), upd_at (by omega), if_neg (by omega)]; exact hlm2 q (by omega)) (fun h9 => by rw [upd_at (by omega), if_neg (by omega), upd_at (by omega), if_neg (by omega)]; first | exact c_121 | exact absurd h9 (by omega)) (by rw [lv28_congr (g := g2) (p := 24 * sn + 2) (fun q hq => by rw [upd_at (by omega), if_neg (by omega), upd_at (by omega), if_neg (by omega)])]; exact hlv3) (by rw [upd_at (by omega), if_pos rfl]; first | exact Or.inl ⟨by omega, rfl⟩ | exact Or.inr ⟨by omega, rfl⟩ | exact absurd rfl (by omega)) hsg, fun q hq => by rw [upd_at (by omega), if_neg (by omega), upd_at (by omega), if_neg (by omega)]; exact ho2 q hq⟩, by rw [ht]; exact hP, hD⟩, hS.F ht⟩) hS.2.2 dX12_carry_162
              · have t_153 : ((kk : Nat) : Int) = 0 := toI_nne c_153 (nI_toInt (by omega)) (by decide)
                refine lv_iconst (v := 0) hx hb dX12_carry_156 (by decide) ?_
                refine lv_goto (tgt := 161) hx hb dX12_carry_157 (by decide) ?_
                refine va_iast (cA := k 0) (n := 26400) (f := (upd g2 ((nI ((24 * sn) + 1))).toNatClampNeg (nI kk))) hx hb hK hP hD hS 1 0 (WR_get 0 (by decide)) (TR_get 0 (by decide)) (vp_in_nI (show (24 * sn) < 26400 by omega) (by omega)) dX12_carry_161 (fun H locs hP hD hS => ?_)
                have e9 : fT vF 0 (upd (upd g2 ((nI ((24 * sn) + 1))).toNatClampNeg (nI kk)) ((nI (24 * sn))).toNatClampNeg 0) = fT (fT vF 0 (upd g2 ((nI ((24 * sn) + 1))).toNatClampNeg (nI kk))) 0 (upd (upd g2 ((nI ((24 * sn) + 1))).toNatClampNeg (nI kk)) ((nI (24 * sn))).toNatClampNeg 0) := (fT_sm _ _ _ _).symm
                have hP := wr_PF e9 (fz_w (WR_F 0 (by decide) _ rfl) hP)
                have hD := wr_DF e9 (fz_wD (WR_F 0 (by decide) _ rfl) hD)
                clear e9
                refine W.widen (k := 0) (n := 0) (by decide +kernel) (by decide +kernel) ?_
                exact W.vret hx hb hr (fun t9_ ht hW => ⟨⟨(upd (upd g2 ((nI ((24 * sn) + 1))).toNatClampNeg (nI kk)) ((nI (24 * sn))).toNatClampNeg 0), rfl, by (try dsimp only); exact ⟨nu_fin (kk := kk) (qs := qs) (by omega) (by rw [upd_at (by omega), if_neg (by omega), upd_at (by omega), if_pos rfl]) (fun q hq => by rw [upd_at (by omega), if_neg (by omega), upd_at (by omega), if_neg (by omega)]; exact hlm2 q (by omega)) (fun h9 => by rw [upd_at (by omega), if_neg (by omega), upd_at (by omega), if_neg (by omega)]; first | exact c_121 | exact absurd h9 (by omega)) (by rw [lv28_congr (g := g2) (p := 24 * sn + 2) (fun q hq => by rw [upd_at (by omega), if_neg (by omega), upd_at (by omega), if_neg (by omega)])]; exact hlv3) (by rw [upd_at (by omega), if_pos rfl]; first | exact Or.inl ⟨by omega, rfl⟩ | exact Or.inr ⟨by omega, rfl⟩ | exact absurd rfl (by omega)) hsg, fun q hq => by rw [upd_at (by omega), if_neg (by omega), upd_at (by omega), if_neg (by omega)]; exact ho2 q hq⟩, by rw [ht]; exact hP, hD⟩, hS.F ht⟩) hS.2.2 dX12_carry_162
            · have t_104 : ¬ ((kk : Nat) : Int) ≤ 0 := toI_nle c_104 (nI_toInt (by omega)) (by decide)
              refine lv_aload_n hx hb dX12_carry_107 rfl (lv_at hl 1 rfl) ?_
              refine va_get (D := (dC, dI)) (ci := 12) (v := .ref (a 0)) (C := RX12) (T := TX12) (N := 163) (fs := fM (vS a vi vj)) hx hb hts iwsRX12_carry_in12 hown hK hP 0 rfl rfl 1 (by decide) (hts _ hm_r_X12_carry_0) (fun _ h9 => h9) rfl dX12_carry_108 ?_
              refine lv_bipush (v := 24) hx hb dX12_carry_111 (by decide) ?_
              refine lv_iload_n hx hb dX12_carry_113 rfl (lv_at hl 2 rfl) ?_
              refine lv_imul hx hb dX12_carry_114 ?_
              refine lv_topi (fun y4 hy4 => ?_)
              obtain rfl : (nI (24 * sn)) = y4 := (hy4.trans (pk_mul 24 sn)).symm
              refine lv_iconst (v := 1) hx hb dX12_carry_115 (by decide) ?_
              refine lv_iadd hx hb dX12_carry_116 ?_
              refine lv_topi (fun y5 hy5 => ?_)
              obtain rfl : (nI ((24 * sn) + 1)) = y5 := (hy5.trans (nI_add (24 * sn) 1)).symm
              refine lv_iload hx hb dX12_carry_117 (lv_at hl 0 rfl) ?_
              refine lv_iadd hx hb dX12_carry_119 ?_
              refine lv_topi (fun y6 hy6 => ?_)
              obtain rfl : (nI (((24 * sn) + 1) + kk)) = y6 := (hy6.trans (nI_add ((24 * sn) + 1) kk)).symm
              refine va_iald (cA := k 0) (n := 26400) (f := g2) hx hb hK hP 1 0 (WR_get 0 (by decide)) (TR_get 0 (by decide)) (vp_in_nI (show (((24 * sn) + 1) + kk) < 26400 by omega) (by omega)) dX12_carry_120 ?_
              refine lv_topi (fun y7 hy7 => ?_)
              obtain rfl : (g2 (((24 * sn) + 1) + kk)) = y7 := (hy7.trans (by rw [nI_clamp (by omega)])).symm
              refine lv_if_ne (tgt := 130) hx hb dX12_carry_121 (by decide) (fun c_121 => ?_) (fun c_121 => ?_)
              · have t_121 : ((g2 (((24 * sn) + 1) + kk))).toInt ≠ 0 := toI_ne c_121 rfl (by decide)
                refine lv_aload_n hx hb dX12_carry_130 rfl (lv_at hl 1 rfl) ?_
                refine va_get (D := (dC, dI)) (ci := 12) (v := .ref (a 0)) (C := RX12) (T := TX12) (N := 163) (fs := fM (vS a vi vj)) hx hb hts iwsRX12_carry_in12 hown hK hP 0 rfl rfl 1 (by decide) (hts _ hm_r_X12_carry_0) (fun _ h9 => h9) rfl dX12_carry_131 ?_
                refine lv_bipush (v := 24) hx hb dX12_carry_134 (by decide) ?_
                refine lv_iload_n hx hb dX12_carry_136 rfl (lv_at hl 2 rfl) ?_
                refine lv_imul hx hb dX12_carry_137 ?_
                refine lv_topi (fun y8 hy8 => ?_)
                obtain rfl : (nI (24 * sn)) = y8 := (hy8.trans (pk_mul 24 sn)).symm
                refine lv_iconst (v := 1) hx hb dX12_carry_138 (by decide) ?_
                refine lv_iadd hx hb dX12_carry_139 ?_
                refine lv_topi (fun y9 hy9 => ?_)
                obtain rfl : (nI ((24 * sn) + 1)) = y9 := (hy9.trans (nI_add (24 * sn) 1)).symm
                refine lv_iload hx hb dX12_carry_140 (lv_at hl 0 rfl) ?_
                refine va_iast (cA := k 0) (n := 26400) (f := g2) hx hb hK hP hD hS 1 0 (WR_get 0 (by decide)) (TR_get 0 (by decide)) (vp_in_nI (show ((24 * sn) + 1) < 26400 by omega) (by omega)) dX12_carry_142 (fun H locs hP hD hS => ?_)
                have e9 : fT vF 0 (upd g2 ((nI ((24 * sn) + 1))).toNatClampNeg (nI kk)) = fT (fT vF 0 g2) 0 (upd g2 ((nI ((24 * sn) + 1))).toNatClampNeg (nI kk)) := (fT_sm _ _ _ _).symm
                have hP := wr_PF e9 (fz_w (WR_F 0 (by decide) _ rfl) hP)
                have hD := wr_DF e9 (fz_wD (WR_F 0 (by decide) _ rfl) hD)
                clear e9
                refine lv_aload_n hx hb dX12_carry_143 rfl (lv_at hl 1 rfl) ?_
                refine va_get (D := (dC, dI)) (ci := 12) (v := .ref (a 0)) (C := RX12) (T := TX12) (N := 163) (fs := fM (vS a vi vj)) hx hb hts iwsRX12_carry_in12 hown hK hP 0 rfl rfl 1 (by decide) (hts _ hm_r_X12_carry_0) (fun _ h9 => h9) rfl dX12_carry_144 ?_
                refine lv_bipush (v := 24) hx hb dX12_carry_147 (by decide) ?_
                refine lv_iload_n hx hb dX12_carry_149 rfl (lv_at hl 2 rfl) ?_
                refine lv_imul hx hb dX12_carry_150 ?_
                refine lv_topi (fun y10 hy10 => ?_)
                obtain rfl : (nI (24 * sn)) = y10 := (hy10.trans (pk_mul 24 sn)).symm
                refine lv_iload hx hb dX12_carry_151 (lv_at hl 0 rfl) ?_
                refine lv_if_ne (tgt := 160) hx hb dX12_carry_153 (by decide) (fun c_153 => ?_) (fun c_153 => ?_)
                · have t_153 : ((kk : Nat) : Int) ≠ 0 := toI_ne c_153 (nI_toInt (by omega)) (by decide)
                  refine lv_iload_n hx hb dX12_carry_160 rfl (lv_at hl 3 rfl) ?_
                  refine va_iast (cA := k 0) (n := 26400) (f := (upd g2 ((nI ((24 * sn) + 1))).toNatClampNeg (nI kk))) hx hb hK hP hD hS 1 0 (WR_get 0 (by decide)) (TR_get 0 (by decide)) (vp_in_nI (show (24 * sn) < 26400 by omega) (by omega)) dX12_carry_161 (fun H locs hP hD hS => ?_)
                  have e9 : fT vF 0 (upd (upd g2 ((nI ((24 * sn) + 1))).toNatClampNeg (nI kk)) ((nI (24 * sn))).toNatClampNeg qs) = fT (fT vF 0 (upd g2 ((nI ((24 * sn) + 1))).toNatClampNeg (nI kk))) 0 (upd (upd g2 ((nI ((24 * sn) + 1))).toNatClampNeg (nI kk)) ((nI (24 * sn))).toNatClampNeg qs) := (fT_sm _ _ _ _).symm
                  have hP := wr_PF e9 (fz_w (WR_F 0 (by decide) _ rfl) hP)
                  have hD := wr_DF e9 (fz_wD (WR_F 0 (by decide) _ rfl) hD)
                  clear e9
                  refine W.widen (k := 0) (n := 0) (by decide +kernel) (by decide +kernel) ?_
                  exact W.vret hx hb hr (fun t9_ ht hW => ⟨⟨(upd (upd g2 ((nI ((24 * sn) + 1))).toNatClampNeg (nI kk)) ((nI (24 * sn))).toNatClampNeg qs), rfl, by (try dsimp only); exact ⟨nu_fin (kk := kk) (qs := qs) (by omega) (by rw [upd_at (by omega), if_neg (by omega), upd_at (by omega), if_pos rfl]) (fun q hq => by rw [upd_at (by omega), if_neg (by omega), upd_at (by omega), if_neg (by omega)]; exact hlm2 q (by omega)) (fun h9 => by rw [upd_at (by omega), if_neg (by omega), upd_at (by omega), if_neg (by omega)]; first | exact c_121 | exact absurd h9 (by omega)) (by rw [lv28_congr (g := g2) (p := 24 * sn + 2) (fun q hq => by rw [upd_at (by omega), if_neg (by omega), upd_at (by omega), if_neg (by omega)])]; exact hlv3) (by rw [upd_at (by omega), if_pos rfl]; first | exact Or.inl ⟨by omega, rfl⟩ | exact Or.inr ⟨by omega, rfl⟩ | exact absurd rfl (by omega)) hsg, fun q hq => by rw [upd_at (by omega), if_neg (by omega), upd_at (by omega), if_neg (by omega)]; exact ho2 q hq⟩, by rw [ht]; exact hP, hD⟩, hS.F ht⟩) hS.2.2 dX12_carry_162
                · have t_153 : ((kk : Nat) : Int) = 0 := toI_nne c_153 (nI_toInt (by omega)) (by decide)
                  refine lv_iconst (v := 0) hx hb dX12_carry_156 (by decide) ?_
                  refine lv_goto (tgt := 161) hx hb dX12_carry_157 (by decide) ?_
                  refine va_iast (cA := k 0) (n := 26400) (f := (upd g2 ((nI ((24 * sn) + 1))).toNatClampNeg (nI kk))) hx hb hK hP hD hS 1 0 (WR_get 0 (by decide)) (TR_get 0 (by decide)) (vp_in_nI (show (24 * sn) < 26400 by omega) (by omega)) dX12_carry_161 (fun H locs hP hD hS => ?_)
                  have e9 : fT vF 0 (upd (upd g2 ((nI ((24 * sn) + 1))).toNatClampNeg (nI kk)) ((nI (24 * sn))).toNatClampNeg 0) = fT (fT vF 0 (upd g2 ((nI ((24 * sn) + 1))).toNatClampNeg (nI kk))) 0 (upd (upd g2 ((nI ((24 * sn) + 1))).toNatClampNeg (nI kk)) ((nI (24 * sn))).toNatClampNeg 0) := (fT_sm _ _ _ _).symm
                  have hP := wr_PF e9 (fz_w (WR_F 0 (by decide) _ rfl) hP)
                  have hD := wr_DF e9 (fz_wD (WR_F 0 (by decide) _ rfl) hD)
                  clear e9
                  refine W.widen (k := 0) (n := 0) (by decide +kernel) (by decide +kernel) ?_
                  exact W.vret hx hb hr (fun t9_ ht hW => ⟨⟨(upd (upd g2 ((nI ((24 * sn) + 1))).toNatClampNeg (nI kk)) ((nI (24 * sn))).toNatClampNeg 0), rfl, by (try dsimp only); exact ⟨nu_fin (kk := kk) (qs := qs) (by omega) (by rw [upd_at (by omega), if_neg (by omega), upd_at (by omega), if_pos rfl]) (fun q hq => by rw [upd_at (by omega), if_neg (by omega), upd_at (by omega), if_neg (by omega)]; exact hlm2 q (by omega)) (fun h9 => by rw [upd_at (by omega), if_neg (by omega), upd_at (by omega), if_neg (by omega)]; first | exact c_121 | exact absurd h9 (by omega)) (by rw [lv28_congr (g := g2) (p := 24 * sn + 2) (fun q hq => by rw [upd_at (by omega), if_neg (by omega), upd_at (by omega), if_neg (by omega)])]; exact hlv3) (by rw [upd_at (by omega), if_pos rfl]; first | exact Or.inl ⟨by omega, rfl⟩ | exact Or.inr ⟨by omega, rfl⟩ | exact absurd rfl (by omega)) hsg, fun q hq => by rw [upd_at (by omega), if_neg (by omega), upd_at (by omega), if_neg (by omega)]; exact ho2 q hq⟩, by rw [ht]; exact hP, hD⟩, hS.F ht⟩) hS.2.2 dX12_carry_162
              · have t_121 : ((g2 (((24 * sn) + 1) + kk))).toInt = 0 := toI_nne c_121 rfl (by decide)
                refine lv_iinc (v := (nI (kk - 1))) hx hb dX12_carry_124 hl (k := 0) rfl (sb_m1 (by omega)) (by decide) rfl (fun ls (hl : lv_has ls _ ([(6, .int (nI (kk - 1))), (0, .ref h0), (1, .int (nI sn)), (3, .int qs)])) => ?_)
                refine lv_goto (tgt := 102) hx hb dX12_carry_127 (by decide) ?_
                have hl : lv_has _ _ ([(6, .int (nI (kk - 1))), (0, .ref h0), (1, .int (nI sn)), (3, .int qs)]) := lv_sub hl [0, 1, 2, 3] rfl
                exact ih102_2 (kk - 1) _ _ _ (by omega) (by obtain ⟨k9, rfl⟩ : ∃ k9, kk = k9 + 1 := ⟨kk - 1, by omega⟩; rw [show k9 + 1 - 1 = k9 by omega]; simp only [lv28] at hlv3; rw [show 24 * sn + 2 + k9 = 24 * sn + 1 + (k9 + 1) by omega, c_121] at hlv3; simpa using hlv3) (by omega) hP hD hS hl
        · have t_65 : ¬ ((rr : Nat) : Int) ≤ 0 := toL_nle c_65 (pk_lT (by omega)) (by decide)
          have hn2 : nn ≤ 21 := lv28_top22 (r := rr) (v := lv28 g2 (24 * sn + 2) nn) (by omega) (by omega)
          refine lv_aload_n hx hb dX12_carry_68 rfl (lv_at hl 2 rfl) ?_
          refine va_get (D := (dC, dI)) (ci := 12) (v := .ref (a 0)) (C := RX12) (T := TX12) (N := 163) (fs := fM (vS a vi vj)) hx hb hts iwsRX12_carry_in12 hown hK hP 0 rfl rfl 1 (by decide) (hts _ hm_r_X12_carry_0) (fun _ h9 => h9) rfl dX12_carry_69 ?_
          refine lv_bipush (v := 24) hx hb dX12_carry_72 (by decide) ?_
          refine lv_iload_n hx hb dX12_carry_74 rfl (lv_at hl 3 rfl) ?_
          refine lv_imul hx hb dX12_carry_75 ?_
          refine lv_topi (fun y11 hy11 => ?_)
          obtain rfl : (nI (24 * sn)) = y11 := (hy11.trans (pk_mul 24 sn)).symm
          refine lv_iconst (v := 2) hx hb dX12_carry_76 (by decide) ?_
          refine lv_iadd hx hb dX12_carry_77 ?_
          refine lv_topi (fun y12 hy12 => ?_)
          obtain rfl : (nI ((24 * sn) + 2)) = y12 := (hy12.trans (nI_add (24 * sn) 2)).symm
          refine lv_iload hx hb dX12_carry_78 (lv_at hl 0 rfl) ?_
          refine lv_iadd hx hb dX12_carry_80 ?_
          refine lv_topi (fun y13 hy13 => ?_)
          obtain rfl : (nI (((24 * sn) + 2) + nn)) = y13 := (hy13.trans (nI_add ((24 * sn) + 2) nn)).symm
          refine lv_lload hx hb dX12_carry_81 (lv_at hl 1 rfl) ?_
          refine lv_ldc2 (v := 268435455) hx hb hown (hts _ hm_r_X12_carry_1) dX12_carry_83 ?_
          refine lv_land hx hb dX12_carry_86 ?_
          refine lv_topl (fun y14 hy14 => ?_)
          obtain rfl : (lN (rr % 268435456)) = y14 := (hy14.trans (mask28 (by omega))).symm
          refine lv_l2i hx hb dX12_carry_87 rfl ?_
          refine lv_topi (fun y15 hy15 => ?_)
          obtain rfl : (nI (rr % 268435456)) = y15 := (hy15.trans (lN_i _)).symm
          refine va_iast (cA := k 0) (n := 26400) (f := g2) hx hb hK hP hD hS 1 0 (WR_get 0 (by decide)) (TR_get 0 (by decide)) (vp_in_nI (show (((24 * sn) + 2) + nn) < 26400 by omega) (by omega)) dX12_carry_88 (fun H locs hP hD hS => ?_)
          have e9 : fT vF 0 (upd g2 ((nI (((24 * sn) + 2) + nn))).toNatClampNeg (nI (rr % 268435456))) = fT (fT vF 0 g2) 0 (upd g2 ((nI (((24 * sn) + 2) + nn))).toNatClampNeg (nI (rr % 268435456))) := (fT_sm _ _ _ _).symm
          have hP := wr_PF e9 (fz_w (WR_F 0 (by decide) _ rfl) hP)
          have hD := wr_DF e9 (fz_wD (WR_F 0 (by decide) _ rfl) hD)
          clear e9
          refine lv_lload hx hb dX12_carry_89 (lv_at hl 1 rfl) ?_
          refine lv_bipush (v := 28) hx hb dX12_carry_91 (by decide) ?_
          refine lv_lshr hx hb dX12_carry_93 rfl ?_
          refine lv_topl (fun y16 hy16 => ?_)
          obtain rfl : (lN (rr / 268435456)) = y16 := (hy16.trans (shr28 (by omega))).symm
          refine lv_lstore hx hb dX12_carry_94 hl (by decide) rfl (fun ls (hl : lv_has ls _ ([(4, .long (lN (rr / 268435456))), (6, .int (nI nn)), (0, .ref h0), (1, .int (nI sn)), (3, .int qs)])) => ?_)
          refine lv_iinc (v := (nI (nn + 1))) hx hb dX12_carry_96 hl (k := 1) rfl (nI_add nn 1) (by decide) rfl (fun ls (hl : lv_has ls _ ([(6, .int (nI (nn + 1))), (4, .long (lN (rr / 268435456))), (0, .ref h0), (1, .int (nI sn)), (3, .int qs)])) => ?_)
          refine lv_goto (tgt := 61) hx hb dX12_carry_99 (by decide) ?_
          have hl : lv_has _ _ ([(6, .int (nI (nn + 1))), (4, .long (lN (rr / 268435456))), (0, .ref h0), (1, .int (nI sn)), (3, .int qs)]) := lv_sub hl [0, 1, 2, 3, 4] rfl
          exact ih61_1 (nn + 1) (rr / 268435456) (upd g2 ((nI (((24 * sn) + 2) + nn))).toNatClampNeg (nI (rr % 268435456))) _ _ _ (by omega) (lv28_step (by omega) hlv2) (by omega) (fun q hq => by rw [upd_at (by omega)]; by_cases e9 : 24 * sn + 2 + q = 24 * sn + 2 + nn; (exact ⟨rr % 268435456, by omega, if_pos e9⟩); (rw [if_neg e9]; exact hlm2 q (by omega))) (fun q hq => by rw [upd_at (by omega), if_neg (by omega)]; exact ho2 q hq) (by omega) hP hD hS hl
    · have t_9 : ¬ ((i : Nat) : Int) ≥ ((n : Nat) : Int) := toI_nge c_9 (nI_toInt (by omega)) (nI_toInt (by omega))
      refine lv_aload_n hx hb dX12_carry_12 rfl (lv_at hl 2 rfl) ?_
      refine va_get (D := (dC, dI)) (ci := 12) (v := .ref (a 1)) (C := RX12) (T := TX12) (N := 163) (fs := fM (vS a vi vj)) hx hb hts iwsRX12_carry_in12 hown hK hP 0 rfl rfl 2 (by decide) (hts (.fieldLink RX12 13 "OptimaWorksModel" "sum" "[J") (by decide +kernel)) (fun _ h9 => h9) rfl dX12_carry_13 ?_
      refine lv_iload hx hb dX12_carry_16 (lv_at hl 0 rfl) ?_
      refine va_lald (cA := k 1) (n := 48) (f := (vG 1)) hx hb hK hP 2 1 (WR_get 1 (by decide)) (TR_get 1 (by decide)) (vp_in_nI (show i < 48 by omega) (by omega)) dX12_carry_18 ?_
      refine lv_topl (fun y17 hy17 => ?_)
      obtain rfl : ((vG 1) i) = y17 := (hy17.trans (by rw [nI_clamp (by omega)])).symm
      refine lv_lload hx hb dX12_carry_19 (lv_at hl 1 rfl) ?_
      refine lv_ladd hx hb dX12_carry_21 ?_
      refine lv_lstore hx hb dX12_carry_22 hl (by decide) rfl (fun ls (hl : lv_has ls _ ([(7, .long (((vG 1) i) + ov)), (6, .int (nI i)), (4, .long ov), (0, .ref h0), (1, .int (nI sn)), (2, .int (nI n)), (3, .int qs)])) => ?_)
      have hb9 := hgs i (by omega)
      have ev : (vG 1 i + ov).toInt = (vG 1 i).toInt + ov.toInt := addJ (by omega) (by omega)
      obtain ⟨md, hmd1, hmd2, hmd3⟩ := maskS (vG 1 i + ov)
      have esh := shrS (vG 1 i + ov)
      refine lv_lload hx hb dX12_carry_24 (lv_at hl 0 rfl) ?_
      refine lv_bipush (v := 28) hx hb dX12_carry_26 (by decide) ?_
      refine lv_lshr hx hb dX12_carry_28 rfl ?_
      refine lv_lstore hx hb dX12_carry_29 hl (by decide) rfl (fun ls (hl : lv_has ls _ ([(4, .long ((((vG 1) i) + ov) >>> ((28 : Int32).toInt64 &&& 63))), (7, .long (((vG 1) i) + ov)), (6, .int (nI i)), (0, .ref h0), (1, .int (nI sn)), (2, .int (nI n)), (3, .int qs)])) => ?_)
      refine lv_aload_n hx hb dX12_carry_31 rfl (lv_at hl 3 rfl) ?_
      refine va_get (D := (dC, dI)) (ci := 12) (v := .ref (a 0)) (C := RX12) (T := TX12) (N := 163) (fs := fM (vS a vi vj)) hx hb hts iwsRX12_carry_in12 hown hK hP 0 rfl rfl 1 (by decide) (hts _ hm_r_X12_carry_0) (fun _ h9 => h9) rfl dX12_carry_32 ?_
      refine lv_bipush (v := 24) hx hb dX12_carry_35 (by decide) ?_
      refine lv_iload_n hx hb dX12_carry_37 rfl (lv_at hl 4 rfl) ?_
      refine lv_imul hx hb dX12_carry_38 ?_
      refine lv_topi (fun y18 hy18 => ?_)
      obtain rfl : (nI (24 * sn)) = y18 := (hy18.trans (pk_mul 24 sn)).symm
      refine lv_iconst (v := 2) hx hb dX12_carry_39 (by decide) ?_
      refine lv_iadd hx hb dX12_carry_40 ?_
      refine lv_topi (fun y19 hy19 => ?_)
      obtain rfl : (nI ((24 * sn) + 2)) = y19 := (hy19.trans (nI_add (24 * sn) 2)).symm
      refine lv_iload hx hb dX12_carry_41 (lv_at hl 2 rfl) ?_
      refine lv_iadd hx hb dX12_carry_43 ?_
      refine lv_topi (fun y20 hy20 => ?_)
      obtain rfl : (nI (((24 * sn) + 2) + i)) = y20 := (hy20.trans (nI_add ((24 * sn) + 2) i)).symm
      refine lv_lload hx hb dX12_carry_44 (lv_at hl 1 rfl) ?_
      refine lv_ldc2 (v := 268435455) hx hb hown (hts _ hm_r_X12_carry_1) dX12_carry_46 ?_
      refine lv_land hx hb dX12_carry_49 ?_
      refine lv_topl (fun y21 hy21 => ?_)
      obtain rfl : (lN md) = y21 := (hy21.trans (hmd3)).symm
      refine lv_l2i hx hb dX12_carry_50 rfl ?_
      refine lv_topi (fun y22 hy22 => ?_)
      obtain rfl : (nI md) = y22 := (hy22.trans (lN_i _)).symm
      refine va_iast (cA := k 0) (n := 26400) (f := g) hx hb hK hP hD hS 1 0 (WR_get 0 (by decide)) (TR_get 0 (by decide)) (vp_in_nI (show (((24 * sn) + 2) + i) < 26400 by omega) (by omega)) dX12_carry_51 (fun H locs hP hD hS => ?_)
      have e9 : fT vF 0 (upd g ((nI (((24 * sn) + 2) + i))).toNatClampNeg (nI md)) = fT (fT vF 0 g) 0 (upd g ((nI (((24 * sn) + 2) + i))).toNatClampNeg (nI md)) := (fT_sm _ _ _ _).symm
      have hP := wr_PF e9 (fz_w (WR_F 0 (by decide) _ rfl) hP)
      have hD := wr_DF e9 (fz_wD (WR_F 0 (by decide) _ rfl) hD)
      clear e9
      refine lv_iinc (v := (nI (i + 1))) hx hb dX12_carry_52 hl (k := 2) rfl (nI_add i 1) (by decide) rfl (fun ls (hl : lv_has ls _ ([(6, .int (nI (i + 1))), (4, .long ((((vG 1) i) + ov) >>> ((28 : Int32).toInt64 &&& 63))), (7, .long (((vG 1) i) + ov)), (0, .ref h0), (1, .int (nI sn)), (2, .int (nI n)), (3, .int qs)])) => ?_)
      refine lv_goto (tgt := 6) hx hb dX12_carry_55 (by decide) ?_
      have hl : lv_has _ _ ([(6, .int (nI (i + 1))), (4, .long ((((vG 1) i) + ov) >>> ((28 : Int32).toInt64 &&& 63))), (0, .ref h0), (1, .int (nI sn)), (2, .int (nI n)), (3, .int qs)]) := lv_sub hl [0, 1, 3, 4, 5, 6] rfl
      exact ih6 (i + 1) ((((vG 1) i) + ov) >>> ((28 : Int32).toInt64 &&& 63)) (upd g ((nI (((24 * sn) + 2) + i))).toNatClampNeg (nI md)) _ _ _ (by omega) (by rw [esh, ev]; omega) (by rw [esh]; exact sv_step (by omega) hmd1 hlv ev hmd2) (fun q hq => by rw [upd_at (by omega)]; by_cases e9 : 24 * sn + 2 + q = 24 * sn + 2 + i; (exact ⟨md, by omega, if_pos e9⟩); (rw [if_neg e9]; exact hlm q (by omega))) (fun q hq => by rw [upd_at (by omega), if_neg (by omega)]; exact ho q hq) (by omega) hP hD hS hl
end
section
/-- a limb, or nought behind the last -/
def la28 (f : Nat → Int32) (o n q : Nat) : Int := if q < n then (f (o + q)).toInt else 0
theorem la28_sum {f : Nat → Int32} {o n : Nat} (h : Lm f o n) (w : Nat) {gs : Nat → Int64} (hg : ∀ q, q < w → (gs q).toInt = la28 f o n q) (hw : n ≤ w) : sv28 gs w = ((lv28 f o n : Nat) : Int) := by
  have key : ∀ w, (∀ q, q < w → (gs q).toInt = la28 f o n q) → sv28 gs w = ((lv28 f o (if w ≤ n then w else n) : Nat) : Int) := by
    intro w
    induction w with
    | zero => intro _; simp [sv28, lv28]
    | succ w ih =>
      intro hg
      simp only [sv28]
      rw [ih (fun q hq => hg q (by omega)), hg w (by omega)]
      unfold la28
      by_cases hwn : w < n
      · rw [if_pos hwn, if_pos (by omega), if_pos (by omega)]
        obtain ⟨d, hd, e⟩ := h w hwn
        simp only [lv28]
        rw [e, nI_toInt (by omega), nI_clamp (by omega), Int.natCast_add, Int.natCast_mul]
      · rw [if_neg hwn, Int.zero_mul, Int.add_zero, if_neg (show ¬ w + 1 ≤ n by omega)]
        by_cases e : w = n
        · rw [e, if_pos (Nat.le_refl n)]
        · rw [if_neg (by omega)]
  rw [key w hg]
  by_cases e : w = n
  · rw [e, if_pos (Nat.le_refl n)]
  · rw [if_neg (by omega)]
theorem sv28_lin (gs ga gb : Nat → Int64) (ca cb : Int) (w : Nat) (h : ∀ q, q < w → (gs q).toInt = ca * (ga q).toInt + cb * (gb q).toInt) : sv28 gs w = ca * sv28 ga w + cb * sv28 gb w := by
  induction w with
  | zero => simp [sv28]
  | succ w ih =>
    simp only [sv28]
    rw [ih (fun q hq => h q (by omega)), h w (by omega), Int.add_mul, Int.mul_add, Int.mul_add, Int.mul_assoc, Int.mul_assoc]
    omega
theorem sum28 {f : Nat → Int32} {oa ob na nb w : Nat} (ha : Lm f oa na) (hb : Lm f ob nb) (h1 : na ≤ w) (h2 : nb ≤ w) {gs : Nat → Int64} {ca cb : Int} (h : ∀ q, q < w → (gs q).toInt = ca * la28 f oa na q + cb * la28 f ob nb q) : sv28 gs w = ca * ((lv28 f oa na : Nat) : Int) + cb * ((lv28 f ob nb : Nat) : Int) := by
  have bd : ∀ (o n : Nat), Lm f o n → ∀ q, (Int64.ofInt (la28 f o n q)).toInt = la28 f o n q := fun o n hL q => by
    rw [Int64.toInt_ofInt]
    unfold la28
    by_cases e : q < n
    · rw [if_pos e]
      have := limb_lt hL e
      have hz : Int64.size = 18446744073709551616 := rfl
      exact Int.bmod_eq_of_le (by omega) (by omega)
    · rw [if_neg e]; rfl
  rw [← la28_sum ha w (gs := fun q => Int64.ofInt (la28 f oa na q)) (fun q _ => bd oa na ha q) h1, ← la28_sum hb w (gs := fun q => Int64.ofInt (la28 f ob nb q)) (fun q _ => bd ob nb hb q) h2]
  exact sv28_lin gs _ _ ca cb w (fun q hq => by rw [bd oa na ha, bd ob nb hb]; exact h q hq)
theorem la_bd {f : Nat → Int32} {o n : Nat} (h : Lm f o n) (q : Nat) : 0 ≤ la28 f o n q ∧ la28 f o n q < 268435456 := by
  unfold la28
  by_cases e : q < n
  · rw [if_pos e]; have := limb_lt h e; omega
  · rw [if_neg e]; omega
/-- the product of two signs -/
theorem sgMul {x y : Int32} {X Y : Int} (hx : (X = 0 ∧ x.toInt = 0) ∨ (0 < X ∧ x.toInt = 1) ∨ (X < 0 ∧ x.toInt = -1)) (hy : (Y = 0 ∧ y.toInt = 0) ∨ (0 < Y ∧ y.toInt = 1) ∨ (Y < 0 ∧ y.toInt = -1)) :
    ((x * y).toInt < 0 ∧ ((0 < X ∧ Y < 0) ∨ (X < 0 ∧ 0 < Y))) ∨ (0 ≤ (x * y).toInt ∧ ¬ ((0 < X ∧ Y < 0) ∨ (X < 0 ∧ 0 < Y))) := by
  have h : (x * y).toInt = x.toInt * y.toInt := by
    rw [Int32.toInt_mul]
    rcases hx with ⟨_, h⟩ | ⟨_, h⟩ | ⟨_, h⟩ <;> rcases hy with ⟨_, h'⟩ | ⟨_, h'⟩ | ⟨_, h'⟩ <;> rw [h, h'] <;> rfl
  rcases hx with ⟨a, b⟩ | ⟨a, b⟩ | ⟨a, b⟩ <;> rcases hy with ⟨c, d⟩ | ⟨c, d⟩ | ⟨c, d⟩ <;> rw [b, d] at h <;> omega
theorem sgTimes {x y : Int32} {X Y : Int} (hx : (X = 0 ∧ x.toInt = 0) ∨ (0 < X ∧ x.toInt = 1) ∨ (X < 0 ∧ x.toInt = -1)) (hy : (Y = 1 ∧ y = 1) ∨ (Y = -1 ∧ y = -1)) : (Y * X = 0 ∧ (x * y).toInt = 0) ∨ (0 < Y * X ∧ (x * y).toInt = 1) ∨ (Y * X < 0 ∧ (x * y).toInt = -1) := by
  have h : (x * y).toInt = x.toInt * y.toInt := by
    rw [Int32.toInt_mul]
    rcases hy with ⟨_, h'⟩ | ⟨_, h'⟩ <;> rw [h'] <;> rcases hx with ⟨_, h⟩ | ⟨_, h⟩ | ⟨_, h⟩ <;> rw [h] <;> rfl
  rcases hy with ⟨c, d⟩ | ⟨c, d⟩
  · rw [d] at h ⊢; rw [c]; have e : (1 : Int32).toInt = 1 := by decide
    rw [e] at h; omega
  · rw [d] at h ⊢; rw [c]; have e : (-1 : Int32).toInt = -1 := by decide
    rw [e] at h; omega
theorem of1 {x : Int32} (h : x.toInt = 1) : x = 1 := Int32.toInt_inj.mp (by rw [h]; decide)
theorem ofm1 {x : Int32} (h : x.toInt = -1) : x = -1 := Int32.toInt_inj.mp (by rw [h]; decide)
theorem i64T (x : Int32) : x.toInt64.toInt = x.toInt := Int32.toInt_toInt64 x
theorem subJ {x y : Int64} (hx : -2305843009213693952 ≤ x.toInt ∧ x.toInt ≤ 2305843009213693952) (hy : -2305843009213693952 ≤ y.toInt ∧ y.toInt ≤ 2305843009213693952) : (x - y).toInt = x.toInt - y.toInt := by
  rw [Int64.toInt_sub]
  exact Int.bmod_eq_of_le (by omega) (by omega)
theorem W.cut {p : Program} {l : Launch} {e : Env} {R : Room} {s : State} {m : MethodId} {args : Array Value} {below : List Frame} {meth : Method} {c : Code} {H0 : Heap} {locs0 : List Loc} {n1 n2 : Nat} {Q : State → Prop} {g0 : JFrame} {pc : Nat} (Pre : Heap → List Loc → Array Slot → List Value → Prop)
    (h1 : (∀ H locs ls stk, Pre H locs ls stk → W p l e R s m args below meth c H locs n1 n2 Q (F0 m pc ls stk)) → W p l e R s m args below meth c H0 locs0 n1 n2 Q g0) (h2 : ∀ H locs ls stk, Pre H locs ls stk → W p l e R s m args below meth c H locs n1 n2 Q (F0 m pc ls stk)) : W p l e R s m args below meth c H0 locs0 n1 n2 Q g0 := h1 h2
end
section
theorem hd_yX12_carry_RX12 : yX12_carry.cls = RX12 ∧ yX12_carry.cls ≠ "java/lang/invoke/MethodHandle" ∧ yX12_carry.cls ≠ "java/lang/invoke/VarHandle" ∧ (parseMethodDescriptor yX12_carry.desc).map (fun d => d.parameters.length) = some 3 := by decide +kernel
theorem dX12_add_0 : decode cX12_add 0 = .ok (.aload_n 0, 1) := dk_42 (by decide +kernel)
theorem dX12_add_1 : decode cX12_add 1 = .ok (.iload_n 2, 1) := dk_28 (by decide +kernel)
theorem dX12_add_2 : decode cX12_add 2 = .ok (.invokevirtual 353, 3) := dk_182 (by decide +kernel)
theorem dX12_add_5 : decode cX12_add 5 = .ok (.istore 5, 2) := dk_54 (by decide +kernel)
theorem dX12_add_7 : decode cX12_add 7 = .ok (.aload_n 0, 1) := dk_42 (by decide +kernel)
theorem dX12_add_8 : decode cX12_add 8 = .ok (.iload_n 3, 1) := dk_29 (by decide +kernel)
theorem dX12_add_9 : decode cX12_add 9 = .ok (.invokevirtual 353, 3) := dk_182 (by decide +kernel)
theorem dX12_add_12 : decode cX12_add 12 = .ok (.iload 4, 2) := dk_21 (by decide +kernel)
theorem dX12_add_14 : decode cX12_add 14 = .ok (.imul, 1) := dk_104 (by decide +kernel)
theorem dX12_add_15 : decode cX12_add 15 = .ok (.istore 6, 2) := dk_54 (by decide +kernel)
theorem dX12_add_17 : decode cX12_add 17 = .ok (.aload_n 0, 1) := dk_42 (by decide +kernel)
theorem dX12_add_18 : decode cX12_add 18 = .ok (.getfield 7, 3) := dk_180 (by decide +kernel)
theorem dX12_add_21 : decode cX12_add 21 = .ok (.bipush 24, 2) := dk_16 (by decide +kernel)
theorem dX12_add_23 : decode cX12_add 23 = .ok (.iload_n 2, 1) := dk_28 (by decide +kernel)
theorem dX12_add_24 : decode cX12_add 24 = .ok (.imul, 1) := dk_104 (by decide +kernel)
theorem dX12_add_25 : decode cX12_add 25 = .ok (.iconst 1, 1) := dk_4 (by decide +kernel)
theorem dX12_add_26 : decode cX12_add 26 = .ok (.iadd, 1) := dk_96 (by decide +kernel)
theorem dX12_add_27 : decode cX12_add 27 = .ok (.iaload, 1) := dk_46 (by decide +kernel)
theorem dX12_add_28 : decode cX12_add 28 = .ok (.istore 7, 2) := dk_54 (by decide +kernel)
theorem dX12_add_30 : decode cX12_add 30 = .ok (.aload_n 0, 1) := dk_42 (by decide +kernel)
theorem dX12_add_31 : decode cX12_add 31 = .ok (.getfield 7, 3) := dk_180 (by decide +kernel)
theorem dX12_add_34 : decode cX12_add 34 = .ok (.bipush 24, 2) := dk_16 (by decide +kernel)
theorem dX12_add_36 : decode cX12_add 36 = .ok (.iload_n 3, 1) := dk_29 (by decide +kernel)
theorem dX12_add_37 : decode cX12_add 37 = .ok (.imul, 1) := dk_104 (by decide +kernel)
theorem dX12_add_38 : decode cX12_add 38 = .ok (.iconst 1, 1) := dk_4 (by decide +kernel)
theorem dX12_add_39 : decode cX12_add 39 = .ok (.iadd, 1) := dk_96 (by decide +kernel)
theorem dX12_add_40 : decode cX12_add 40 = .ok (.iaload, 1) := dk_46 (by decide +kernel)
theorem dX12_add_41 : decode cX12_add 41 = .ok (.istore 8, 2) := dk_54 (by decide +kernel)
theorem dX12_add_43 : decode cX12_add 43 = .ok (.iload 7, 2) := dk_21 (by decide +kernel)
theorem dX12_add_45 : decode cX12_add 45 = .ok (.iload 8, 2) := dk_21 (by decide +kernel)
theorem dX12_add_47 : decode cX12_add 47 = .ok (.if_icmp .le 8, 3) := dk_164 (by decide +kernel)
theorem dX12_add_50 : decode cX12_add 50 = .ok (.iload 7, 2) := dk_21 (by decide +kernel)
theorem dX12_add_52 : decode cX12_add 52 = .ok (.goto 5, 3) := dk_167 (by decide +kernel)
theorem dX12_add_55 : decode cX12_add 55 = .ok (.iload 8, 2) := dk_21 (by decide +kernel)
theorem dX12_add_57 : decode cX12_add 57 = .ok (.istore 9, 2) := dk_54 (by decide +kernel)
theorem dX12_add_59 : decode cX12_add 59 = .ok (.iload 5, 2) := dk_21 (by decide +kernel)
theorem dX12_add_61 : decode cX12_add 61 = .ok (.iload 6, 2) := dk_21 (by decide +kernel)
theorem dX12_add_63 : decode cX12_add 63 = .ok (.imul, 1) := dk_104 (by decide +kernel)
theorem dX12_add_64 : decode cX12_add 64 = .ok (.ifCond .ge 16, 3) := dk_156 (by decide +kernel)
theorem dX12_add_67 : decode cX12_add 67 = .ok (.aload_n 0, 1) := dk_42 (by decide +kernel)
theorem dX12_add_68 : decode cX12_add 68 = .ok (.iload_n 2, 1) := dk_28 (by decide +kernel)
theorem dX12_add_69 : decode cX12_add 69 = .ok (.iload_n 3, 1) := dk_29 (by decide +kernel)
theorem dX12_add_70 : decode cX12_add 70 = .ok (.invokevirtual 357, 3) := dk_182 (by decide +kernel)
theorem dX12_add_73 : decode cX12_add 73 = .ok (.ifCond .ge 7, 3) := dk_156 (by decide +kernel)
theorem dX12_add_76 : decode cX12_add 76 = .ok (.iconst 1, 1) := dk_4 (by decide +kernel)
theorem dX12_add_77 : decode cX12_add 77 = .ok (.goto 4, 3) := dk_167 (by decide +kernel)
theorem dX12_add_80 : decode cX12_add 80 = .ok (.iconst 0, 1) := dk_3 (by decide +kernel)
theorem dX12_add_81 : decode cX12_add 81 = .ok (.istore 10, 2) := dk_54 (by decide +kernel)
theorem dX12_add_83 : decode cX12_add 83 = .ok (.iconst 0, 1) := dk_3 (by decide +kernel)
theorem dX12_add_84 : decode cX12_add 84 = .ok (.istore 11, 2) := dk_54 (by decide +kernel)
theorem dX12_add_86 : decode cX12_add 86 = .ok (.iload 11, 2) := dk_21 (by decide +kernel)
theorem dX12_add_88 : decode cX12_add 88 = .ok (.iload 9, 2) := dk_21 (by decide +kernel)
theorem dX12_add_90 : decode cX12_add 90 = .ok (.if_icmp .ge 106, 3) := dk_162 (by decide +kernel)
theorem dX12_add_93 : decode cX12_add 93 = .ok (.iload 11, 2) := dk_21 (by decide +kernel)
theorem dX12_add_95 : decode cX12_add 95 = .ok (.iload 7, 2) := dk_21 (by decide +kernel)
theorem dX12_add_97 : decode cX12_add 97 = .ok (.if_icmp .ge 21, 3) := dk_162 (by decide +kernel)
theorem dX12_add_100 : decode cX12_add 100 = .ok (.aload_n 0, 1) := dk_42 (by decide +kernel)
theorem dX12_add_101 : decode cX12_add 101 = .ok (.getfield 7, 3) := dk_180 (by decide +kernel)
theorem dX12_add_104 : decode cX12_add 104 = .ok (.bipush 24, 2) := dk_16 (by decide +kernel)
theorem dX12_add_106 : decode cX12_add 106 = .ok (.iload_n 2, 1) := dk_28 (by decide +kernel)
theorem dX12_add_107 : decode cX12_add 107 = .ok (.imul, 1) := dk_104 (by decide +kernel)
theorem dX12_add_108 : decode cX12_add 108 = .ok (.iconst 2, 1) := dk_5 (by decide +kernel)
theorem dX12_add_109 : decode cX12_add 109 = .ok (.iadd, 1) := dk_96 (by decide +kernel)
theorem dX12_add_110 : decode cX12_add 110 = .ok (.iload 11, 2) := dk_21 (by decide +kernel)
theorem dX12_add_112 : decode cX12_add 112 = .ok (.iadd, 1) := dk_96 (by decide +kernel)
theorem dX12_add_113 : decode cX12_add 113 = .ok (.iaload, 1) := dk_46 (by decide +kernel)
theorem dX12_add_114 : decode cX12_add 114 = .ok (.i2l, 1) := dk_133 (by decide +kernel)
theorem dX12_add_115 : decode cX12_add 115 = .ok (.goto 4, 3) := dk_167 (by decide +kernel)
theorem dX12_add_118 : decode cX12_add 118 = .ok (.lconst 0, 1) := dk_9 (by decide +kernel)
theorem dX12_add_119 : decode cX12_add 119 = .ok (.lstore 12, 2) := dk_55 (by decide +kernel)
theorem dX12_add_121 : decode cX12_add 121 = .ok (.iload 11, 2) := dk_21 (by decide +kernel)
theorem dX12_add_123 : decode cX12_add 123 = .ok (.iload 8, 2) := dk_21 (by decide +kernel)
theorem dX12_add_125 : decode cX12_add 125 = .ok (.if_icmp .ge 21, 3) := dk_162 (by decide +kernel)
theorem dX12_add_128 : decode cX12_add 128 = .ok (.aload_n 0, 1) := dk_42 (by decide +kernel)
theorem dX12_add_129 : decode cX12_add 129 = .ok (.getfield 7, 3) := dk_180 (by decide +kernel)
theorem dX12_add_132 : decode cX12_add 132 = .ok (.bipush 24, 2) := dk_16 (by decide +kernel)
theorem dX12_add_134 : decode cX12_add 134 = .ok (.iload_n 3, 1) := dk_29 (by decide +kernel)
theorem dX12_add_135 : decode cX12_add 135 = .ok (.imul, 1) := dk_104 (by decide +kernel)
theorem dX12_add_136 : decode cX12_add 136 = .ok (.iconst 2, 1) := dk_5 (by decide +kernel)
theorem dX12_add_137 : decode cX12_add 137 = .ok (.iadd, 1) := dk_96 (by decide +kernel)
theorem dX12_add_138 : decode cX12_add 138 = .ok (.iload 11, 2) := dk_21 (by decide +kernel)
theorem dX12_add_140 : decode cX12_add 140 = .ok (.iadd, 1) := dk_96 (by decide +kernel)
theorem dX12_add_141 : decode cX12_add 141 = .ok (.iaload, 1) := dk_46 (by decide +kernel)
theorem dX12_add_142 : decode cX12_add 142 = .ok (.i2l, 1) := dk_133 (by decide +kernel)
theorem dX12_add_143 : decode cX12_add 143 = .ok (.goto 4, 3) := dk_167 (by decide +kernel)
theorem dX12_add_146 : decode cX12_add 146 = .ok (.lconst 0, 1) := dk_9 (by decide +kernel)
theorem dX12_add_147 : decode cX12_add 147 = .ok (.lstore 14, 2) := dk_55 (by decide +kernel)
theorem dX12_add_149 : decode cX12_add 149 = .ok (.aload_n 0, 1) := dk_42 (by decide +kernel)
theorem dX12_add_150 : decode cX12_add 150 = .ok (.getfield 13, 3) := dk_180 (by decide +kernel)
theorem dX12_add_153 : decode cX12_add 153 = .ok (.iload 11, 2) := dk_21 (by decide +kernel)
theorem dX12_add_155 : decode cX12_add 155 = .ok (.iload 5, 2) := dk_21 (by decide +kernel)
theorem dX12_add_157 : decode cX12_add 157 = .ok (.iload 6, 2) := dk_21 (by decide +kernel)
theorem dX12_add_159 : decode cX12_add 159 = .ok (.imul, 1) := dk_104 (by decide +kernel)
theorem dX12_add_160 : decode cX12_add 160 = .ok (.ifCond .lt 11, 3) := dk_155 (by decide +kernel)
theorem dX12_add_163 : decode cX12_add 163 = .ok (.lload 12, 2) := dk_22 (by decide +kernel)
theorem dX12_add_165 : decode cX12_add 165 = .ok (.lload 14, 2) := dk_22 (by decide +kernel)
theorem dX12_add_167 : decode cX12_add 167 = .ok (.ladd, 1) := dk_97 (by decide +kernel)
theorem dX12_add_168 : decode cX12_add 168 = .ok (.goto 21, 3) := dk_167 (by decide +kernel)
theorem dX12_add_171 : decode cX12_add 171 = .ok (.iload 10, 2) := dk_21 (by decide +kernel)
theorem dX12_add_173 : decode cX12_add 173 = .ok (.ifCond .eq 11, 3) := dk_153 (by decide +kernel)
theorem dX12_add_176 : decode cX12_add 176 = .ok (.lload 14, 2) := dk_22 (by decide +kernel)
theorem dX12_add_178 : decode cX12_add 178 = .ok (.lload 12, 2) := dk_22 (by decide +kernel)
theorem dX12_add_180 : decode cX12_add 180 = .ok (.lsub, 1) := dk_101 (by decide +kernel)
theorem dX12_add_181 : decode cX12_add 181 = .ok (.goto 8, 3) := dk_167 (by decide +kernel)
theorem dX12_add_184 : decode cX12_add 184 = .ok (.lload 12, 2) := dk_22 (by decide +kernel)
theorem dX12_add_186 : decode cX12_add 186 = .ok (.lload 14, 2) := dk_22 (by decide +kernel)
theorem dX12_add_188 : decode cX12_add 188 = .ok (.lsub, 1) := dk_101 (by decide +kernel)
theorem dX12_add_189 : decode cX12_add 189 = .ok (.lastore, 1) := dk_80 (by decide +kernel)
theorem dX12_add_190 : decode cX12_add 190 = .ok (.iinc 11 1, 3) := dk_132 (by decide +kernel)
theorem dX12_add_193 : decode cX12_add 193 = .ok (.goto (-107), 3) := dk_167 (by decide +kernel)
theorem dX12_add_196 : decode cX12_add 196 = .ok (.aload_n 0, 1) := dk_42 (by decide +kernel)
theorem dX12_add_197 : decode cX12_add 197 = .ok (.iload_n 1, 1) := dk_27 (by decide +kernel)
theorem dX12_add_198 : decode cX12_add 198 = .ok (.iload 9, 2) := dk_21 (by decide +kernel)
theorem dX12_add_200 : decode cX12_add 200 = .ok (.iload 5, 2) := dk_21 (by decide +kernel)
theorem dX12_add_202 : decode cX12_add 202 = .ok (.iload 6, 2) := dk_21 (by decide +kernel)
theorem dX12_add_204 : decode cX12_add 204 = .ok (.imul, 1) := dk_104 (by decide +kernel)
theorem dX12_add_205 : decode cX12_add 205 = .ok (.ifCond .lt 18, 3) := dk_155 (by decide +kernel)
theorem dX12_add_208 : decode cX12_add 208 = .ok (.iload 5, 2) := dk_21 (by decide +kernel)
theorem dX12_add_210 : decode cX12_add 210 = .ok (.ifCond .eq 8, 3) := dk_153 (by decide +kernel)
theorem dX12_add_213 : decode cX12_add 213 = .ok (.iload 5, 2) := dk_21 (by decide +kernel)
theorem dX12_add_215 : decode cX12_add 215 = .ok (.goto 20, 3) := dk_167 (by decide +kernel)
theorem dX12_add_218 : decode cX12_add 218 = .ok (.iload 6, 2) := dk_21 (by decide +kernel)
theorem dX12_add_220 : decode cX12_add 220 = .ok (.goto 15, 3) := dk_167 (by decide +kernel)
theorem dX12_add_223 : decode cX12_add 223 = .ok (.iload 10, 2) := dk_21 (by decide +kernel)
theorem dX12_add_225 : decode cX12_add 225 = .ok (.ifCond .eq 8, 3) := dk_153 (by decide +kernel)
theorem dX12_add_228 : decode cX12_add 228 = .ok (.iload 6, 2) := dk_21 (by decide +kernel)
theorem dX12_add_230 : decode cX12_add 230 = .ok (.goto 5, 3) := dk_167 (by decide +kernel)
theorem dX12_add_233 : decode cX12_add 233 = .ok (.iload 5, 2) := dk_21 (by decide +kernel)
theorem dX12_add_235 : decode cX12_add 235 = .ok (.invokevirtual 361, 3) := dk_182 (by decide +kernel)
theorem dX12_add_238 : decode cX12_add 238 = .ok (.return_, 1) := dk_177 (by decide +kernel)
def wsRX12_add : List Cond := .code yX12_add cX12_add 16 none :: ([.fieldLink RX12 7 "OptimaWorksModel" "big" "[I", .fieldLink RX12 13 "OptimaWorksModel" "sum" "[J"] ++ wsX120 ++ (wsV RX12 353 RX12 yX12_sign wsRX12_sign) ++ (wsV RX12 361 RX12 yX12_carry wsRX12_carry) ++ (wsV RX12 357 RX12 yX12_bare wsRX12_bare))
theorem iwsRX12_add_in12 : ∀ w ∈ wsX120, w ∈ wsRX12_add := fun _ h => List.mem_cons_of_mem _ (List.mem_append_left _ (List.mem_append_left _ (List.mem_append_left _ (List.mem_append_right _ h))))
theorem gwsRX12_add_0 : GoodIn wsRX12_add (wsV RX12 353 RX12 yX12_sign wsRX12_sign) := goodIn_sub (fun _ h => List.mem_cons_of_mem _ (List.mem_append_left _ (List.mem_append_left _ (List.mem_append_right _ h)))) (by decide +kernel)
theorem gwsRX12_add_1 : GoodIn wsRX12_add (wsV RX12 361 RX12 yX12_carry wsRX12_carry) := goodIn_sub (fun _ h => List.mem_cons_of_mem _ (List.mem_append_left _ (List.mem_append_right _ h))) (by decide +kernel)
theorem gwsRX12_add_2 : GoodIn wsRX12_add (wsV RX12 357 RX12 yX12_bare wsRX12_bare) := goodIn_sub (fun _ h => List.mem_cons_of_mem _ (List.mem_append_right _ h)) (by decide +kernel)
theorem hm_r_X12_add_0 : (.fieldLink RX12 7 "OptimaWorksModel" "big" "[I" : Cond) ∈ wsRX12_add := by decide +kernel
theorem hm_r_X12_add_1 : (.fieldLink RX12 13 "OptimaWorksModel" "sum" "[J" : Cond) ∈ wsRX12_add := by decide +kernel
set_option maxHeartbeats 4000000 in
set_option maxRecDepth 100000 in
/-- add(s, a, b, how) -/
theorem r_X12_add (l : Launch) (dC : Nat → ClassId) (dI : Nat → Nat → Nat) (a : Nat → Nat) (k : Nat → ClassId) (h0 : Nat) (vi : Nat → Int32) (vj : Nat → Int64) (vF : Nat → Nat → Int32) (vG : Nat → Nat → Int64) (sn : Nat) (hs : sn < 1100) (an : Nat) (bn : Nat) (xa : Int) (xb : Int) (hw : Int32) (hI : Int) (hna : an < 1100) (hnb : bn < 1100) (hxa : Nu (vF 0) an xa) (hxb : Nu (vF 0) bn xb) (hhw : (hI = 1 ∧ hw = 1) ∨ (hI = -1 ∧ hw = -1)) (hbig : (xa + hI * xb).natAbs < 2 ^ 616) (sz : Nat) : Met l yX12_add wsRX12_add ({ frames := 1, cells := 0, slots := 0, locals := 28 }) (va_Pc [.ref h0, .int (nI sn), .int (nI an), .int (nI bn), .int hw] (fun U => U.heap.size = sz ∧ va_P (dC, dI) vwCl (WR a k h0 vi vj vF vG) U.heap ∧ va_K (dC, dI) vwCl (tX12 k) U ∧ va_D (fun _ => True) (WR a k h0 vi vj vF vG))) (va_Qv (fun (u : (Nat → Int32) × (Nat → Int64)) => (Nu (u.1) sn (xa + hI * xb)) ∧ (∀ q, (q < 24 * sn ∨ 24 * sn + 24 ≤ q) → (u.1) q = vF 0 q)) (fun (u : (Nat → Int32) × (Nat → Int64)) t => va_P (dC, dI) vwCl (WR a k h0 vi vj (fT vF 0 (u.1)) (fT vG 1 (u.2))) t.heap ∧ va_D (va_A (WR a k h0 vi vj vF vG) sz) (WR a k h0 vi vj (fT vF 0 (u.1)) (fT vG 1 (u.2)))) (va_A (WR a k h0 vi vj vF vG) sz)) 0 0 (va_A (WR a k h0 vi vj vF vG) sz) := by
  refine Met.ofW (cc := cX12_add) (maxL := 16) (ret := none) (by decide) rfl ?_
  intro p e s m args below meth c s₁ B hml hv
  obtain ⟨rfl, hsz, hP, hK, hD0⟩ := hv
  have hx := B.exec
  have hb := B.bytes
  have hr := B.returns
  have hts := atoms_spec (ws := wsRX12_add) B.pre
  have hown : s.vm.findClass RX12 = some m.cls := findClass_of_methodNamed B.named
  have hlocks := B.notSynchronized
  subst hsz
  have hD := hD0.self (sz := s.heap.size)
  generalize hAe : va_A (WR a k h0 vi vj vF vG) s.heap.size = A at hD ⊢
  have hA : ∀ q : Nat, s.heap.size ≤ q → A q := fun q h => by rw [← hAe]; exact Or.inr h
  have hS : va_S A s.heap s.heap [] := va_S.rf
  have hl := lv_entry ([.ref h0, .int (nI sn), .int (nI an), .int (nI bn), .int hw]) (n := 16) (Nat.le_of_ble_eq_true rfl)
  rw [lg_entry_eq]
  generalize (lg_sl ([.ref h0, .int (nI sn), .int (nI an), .int (nI bn), .int hw]) ++ List.replicate (16 - (lg_sl ([.ref h0, .int (nI sn), .int (nI an), .int (nI bn), .int hw])).length) Slot.unset).toArray = ls at hl ⊢
  have hl : lv_has ls 16 [(0, .ref h0), (1, .int (nI sn)), (2, .int (nI an)), (3, .int (nI bn)), (4, .int hw)] := hl
  obtain ⟨na, hna1, hna2, hna3, hna4, hna5, hna6⟩ := id hxa
  obtain ⟨nb_, hnb1, hnb2, hnb3, hnb4, hnb5, hnb6⟩ := id hxb
  have sa := sgT hna6
  have sb := sgTimes (sgT hnb6) hhw
  have sxy := sgMul sa sb
  have hyb : (hI * xb).natAbs = xb.natAbs := by rcases hhw with ⟨h9, _⟩ | ⟨h9, _⟩ <;> rw [h9] <;> omega
  generalize hYB : hI * xb = yb at *
  refine lv_aload_n hx hb dX12_add_0 rfl (lv_at hl 0 rfl) ?_
  refine lv_iload_n hx hb dX12_add_1 rfl (lv_at hl 2 rfl) ?_
  have hFc := allFree hD hS hA
  refine va_calli (va_runV (As := [.int (nI an)]) (rest := []) ⟨hx, hb, hml, hown, hts⟩ (r_X12_sign l dC dI a k h0 vi vj vF vG an (by first | with_reducible assumption | decide | omega | rfl | assumption) s.heap.size) (cwV 1 hts gwsRX12_add_0 rfl rfl rfl hd_yX12_sign_RX12 (by decide +kernel)) (fz_pre (va_recv hK hP (ci := 12) (q0 := 0) rfl rfl) hP hK hD) rfl rfl hl.1 rfl (lv_room (Nat.le_of_ble_eq_true rfl)) dX12_add_2 (by decide +kernel)) hS (fun q _ h => hFc q h) hFc (fun r2 u t9_ H locs ht hvm hw9 hB9 hz1 hk1 hS => ?_)
  have hP : va_P (dC, dI) vwCl (WR a k h0 vi vj vF vG) H := fz_P ht hB9.1
  have hD := fz_sd hP (hB9.2.weaken (fun _ q _ h => hFc q.1 h)) rfl
  obtain rfl := hw9
  refine lv_istore hx hb dX12_add_5 hl (by decide) rfl (fun ls (hl : lv_has ls _ ([(5, .int (vF 0 (24 * an))), (0, .ref h0), (1, .int (nI sn)), (2, .int (nI an)), (3, .int (nI bn)), (4, .int hw)])) => ?_)
  refine lv_aload_n hx hb dX12_add_7 rfl (lv_at hl 1 rfl) ?_
  refine lv_iload_n hx hb dX12_add_8 rfl (lv_at hl 4 rfl) ?_
  have hFc := allFree hD hS hA
  refine va_calli (va_runV (As := [.int (nI bn)]) (rest := []) ⟨hx, hb, hml, hown, hts⟩ (r_X12_sign l dC dI a k h0 vi vj vF vG bn (by first | with_reducible assumption | decide | omega | rfl | assumption) H.size) (cwV 1 hts gwsRX12_add_0 rfl rfl rfl hd_yX12_sign_RX12 (by decide +kernel)) (fz_pre (va_recv hK hP (ci := 12) (q0 := 0) rfl rfl) hP hK hD) rfl rfl hl.1 rfl (lv_room (Nat.le_of_ble_eq_true rfl)) dX12_add_9 (by decide +kernel)) hS (fun q _ h => hFc q h) hFc (fun r9 u t9_ H locs ht hvm hw9 hB9 hz1 hk1 hS => ?_)
  have hP : va_P (dC, dI) vwCl (WR a k h0 vi vj vF vG) H := fz_P ht hB9.1
  have hD := fz_sd hP (hB9.2.weaken (fun _ q _ h => hFc q.1 h)) rfl
  obtain rfl := hw9
  refine lv_iload hx hb dX12_add_12 (lv_at hl 5 rfl) ?_
  refine lv_imul hx hb dX12_add_14 ?_
  refine lv_istore hx hb dX12_add_15 hl (by decide) rfl (fun ls (hl : lv_has ls _ ([(6, .int ((vF 0 (24 * bn)) * hw)), (5, .int (vF 0 (24 * an))), (0, .ref h0), (1, .int (nI sn)), (2, .int (nI an)), (3, .int (nI bn)), (4, .int hw)])) => ?_)
  refine lv_aload_n hx hb dX12_add_17 rfl (lv_at hl 2 rfl) ?_
  refine va_get (D := (dC, dI)) (ci := 12) (v := .ref (a 0)) (C := RX12) (T := TX12) (N := 163) (fs := fM (vS a vi vj)) hx hb hts iwsRX12_add_in12 hown hK hP 0 rfl rfl 1 (by decide) (hts _ hm_r_X12_add_0) (fun _ h9 => h9) rfl dX12_add_18 ?_
  refine lv_bipush (v := 24) hx hb dX12_add_21 (by decide) ?_
  refine lv_iload_n hx hb dX12_add_23 rfl (lv_at hl 4 rfl) ?_
  refine lv_imul hx hb dX12_add_24 ?_
  refine lv_topi (fun y1 hy1 => ?_)
  obtain rfl : (nI (24 * an)) = y1 := (hy1.trans (pk_mul 24 an)).symm
  refine lv_iconst (v := 1) hx hb dX12_add_25 (by decide) ?_
  refine lv_iadd hx hb dX12_add_26 ?_
  refine lv_topi (fun y2 hy2 => ?_)
  obtain rfl : (nI ((24 * an) + 1)) = y2 := (hy2.trans (nI_add (24 * an) 1)).symm
  refine va_iald (cA := k 0) (n := 26400) (f := (vF 0)) hx hb hK hP 1 0 (WR_get 0 (by decide)) (TR_get 0 (by decide)) (vp_in_nI (show ((24 * an) + 1) < 26400 by omega) (by omega)) dX12_add_27 ?_
  refine lv_topi (fun y3 hy3 => ?_)
  obtain rfl : ((vF 0) ((24 * an) + 1)) = y3 := (hy3.trans (by rw [nI_clamp (by omega)])).symm
  refine lv_topi (fun y4 hy4 => ?_)
  obtain rfl : (nI na) = y4 := (hy4.trans (hna2)).symm
  refine lv_istore hx hb dX12_add_28 hl (by decide) rfl (fun ls (hl : lv_has ls _ ([(7, .int (nI na)), (6, .int ((vF 0 (24 * bn)) * hw)), (5, .int (vF 0 (24 * an))), (0, .ref h0), (1, .int (nI sn)), (2, .int (nI an)), (3, .int (nI bn)), (4, .int hw)])) => ?_)
  refine lv_aload_n hx hb dX12_add_30 rfl (lv_at hl 3 rfl) ?_
  refine va_get (D := (dC, dI)) (ci := 12) (v := .ref (a 0)) (C := RX12) (T := TX12) (N := 163) (fs := fM (vS a vi vj)) hx hb hts iwsRX12_add_in12 hown hK hP 0 rfl rfl 1 (by decide) (hts _ hm_r_X12_add_0) (fun _ h9 => h9) rfl dX12_add_31 ?_
  refine lv_bipush (v := 24) hx hb dX12_add_34 (by decide) ?_
  refine lv_iload_n hx hb dX12_add_36 rfl (lv_at hl 6 rfl) ?_
  refine lv_imul hx hb dX12_add_37 ?_
  refine lv_topi (fun y5 hy5 => ?_)
  obtain rfl : (nI (24 * bn)) = y5 := (hy5.trans (pk_mul 24 bn)).symm
  refine lv_iconst (v := 1) hx hb dX12_add_38 (by decide) ?_
  refine lv_iadd hx hb dX12_add_39 ?_
  refine lv_topi (fun y6 hy6 => ?_)
  obtain rfl : (nI ((24 * bn) + 1)) = y6 := (hy6.trans (nI_add (24 * bn) 1)).symm
  refine va_iald (cA := k 0) (n := 26400) (f := (vF 0)) hx hb hK hP 1 0 (WR_get 0 (by decide)) (TR_get 0 (by decide)) (vp_in_nI (show ((24 * bn) + 1) < 26400 by omega) (by omega)) dX12_add_40 ?_
  refine lv_topi (fun y7 hy7 => ?_)
  obtain rfl : ((vF 0) ((24 * bn) + 1)) = y7 := (hy7.trans (by rw [nI_clamp (by omega)])).symm
  refine lv_topi (fun y8 hy8 => ?_)
  obtain rfl : (nI nb_) = y8 := (hy8.trans (hnb2)).symm
  refine lv_istore hx hb dX12_add_41 hl (by decide) rfl (fun ls (hl : lv_has ls _ ([(8, .int (nI nb_)), (7, .int (nI na)), (6, .int ((vF 0 (24 * bn)) * hw)), (5, .int (vF 0 (24 * an))), (0, .ref h0), (1, .int (nI sn)), (2, .int (nI an)), (3, .int (nI bn)), (4, .int hw)])) => ?_)
  refine lv_iload hx hb dX12_add_43 (lv_at hl 1 rfl) ?_
  refine lv_iload hx hb dX12_add_45 (lv_at hl 0 rfl) ?_
  refine W.cut (pc := 57) (fun H locs ls stk => ∃ (wn : Nat), (na ≤ wn) ∧ (nb_ ≤ wn) ∧ (wn ≤ 22) ∧  stk = [.int (nI wn)] ∧ va_P (dC, dI) vwCl (WR a k h0 vi vj vF vG) H ∧ va_D A (WR a k h0 vi vj vF vG) ∧ va_S A s.heap H locs ∧ lv_has ls 16 [(8, .int (nI nb_)), (7, .int (nI na)), (6, .int ((vF 0 (24 * bn)) * hw)), (5, .int (vF 0 (24 * an))), (0, .ref h0), (1, .int (nI sn)), (2, .int (nI an)), (3, .int (nI bn)), (4, .int hw)]) (fun join1 => ?_) ?_
  · refine lv_icmp_le (tgt := 55) hx hb dX12_add_47 (by decide) (fun c_47 => ?_) (fun c_47 => ?_)
    · have t_47 : ((na : Nat) : Int) ≤ ((nb_ : Nat) : Int) := toI_le c_47 (nI_toInt (by omega)) (nI_toInt (by omega))
      refine lv_iload hx hb dX12_add_55 (lv_at hl 0 rfl) ?_
      have hl : lv_has _ _ ([(8, .int (nI nb_)), (7, .int (nI na)), (6, .int ((vF 0 (24 * bn)) * hw)), (5, .int (vF 0 (24 * an))), (0, .ref h0), (1, .int (nI sn)), (2, .int (nI an)), (3, .int (nI bn)), (4, .int hw)]) := lv_sub hl [0, 1, 2, 3, 4, 5, 6, 7, 8] rfl
      exact join1 _ _ _ _ ⟨nb_, by omega, by omega, by omega, rfl, hP, hD, hS, hl⟩
    · have t_47 : ¬ ((na : Nat) : Int) ≤ ((nb_ : Nat) : Int) := toI_nle c_47 (nI_toInt (by omega)) (nI_toInt (by omega))
      refine lv_iload hx hb dX12_add_50 (lv_at hl 1 rfl) ?_
      refine lv_goto (tgt := 57) hx hb dX12_add_52 (by decide) ?_
      have hl : lv_has _ _ ([(8, .int (nI nb_)), (7, .int (nI na)), (6, .int ((vF 0 (24 * bn)) * hw)), (5, .int (vF 0 (24 * an))), (0, .ref h0), (1, .int (nI sn)), (2, .int (nI an)), (3, .int (nI bn)), (4, .int hw)]) := lv_sub hl [0, 1, 2, 3, 4, 5, 6, 7, 8] rfl
      exact join1 _ _ _ _ ⟨na, by omega, by omega, by omega, rfl, hP, hD, hS, hl⟩
  · rintro H locs ls stk ⟨wn, hwn2, hwn3, hwn4, rfl, hP, hD, hS, hl⟩
    refine lv_istore hx hb dX12_add_57 hl (by decide) rfl (fun ls (hl : lv_has ls _ ([(9, .int (nI wn)), (8, .int (nI nb_)), (7, .int (nI na)), (6, .int ((vF 0 (24 * bn)) * hw)), (5, .int (vF 0 (24 * an))), (0, .ref h0), (1, .int (nI sn)), (2, .int (nI an)), (3, .int (nI bn)), (4, .int hw)])) => ?_)
    refine lv_iload hx hb dX12_add_59 (lv_at hl 4 rfl) ?_
    refine lv_iload hx hb dX12_add_61 (lv_at hl 3 rfl) ?_
    refine lv_imul hx hb dX12_add_63 ?_
    refine lv_if_ge (tgt := 80) hx hb dX12_add_64 (by decide) (fun c_64 => ?_) (fun c_64 => ?_)
    · have t_64 : (((vF 0 (24 * an)) * ((vF 0 (24 * bn)) * hw))).toInt ≥ 0 := toI_ge c_64 rfl (by decide)
      refine lv_iconst (v := 0) hx hb dX12_add_80 (by decide) ?_
      refine lv_istore hx hb dX12_add_81 hl (by decide) rfl (fun ls (hl : lv_has ls _ ([(10, .int 0), (9, .int (nI wn)), (8, .int (nI nb_)), (7, .int (nI na)), (6, .int ((vF 0 (24 * bn)) * hw)), (5, .int (vF 0 (24 * an))), (0, .ref h0), (1, .int (nI sn)), (2, .int (nI an)), (3, .int (nI bn)), (4, .int hw)])) => ?_)
      refine lv_iconst (v := 0) hx hb dX12_add_83 (by decide) ?_
      refine lv_istore hx hb dX12_add_84 hl (by decide) rfl (fun ls (hl : lv_has ls _ ([(11, .int 0), (10, .int 0), (9, .int (nI wn)), (8, .int (nI nb_)), (7, .int (nI na)), (6, .int ((vF 0 (24 * bn)) * hw)), (5, .int (vF 0 (24 * an))), (0, .ref h0), (1, .int (nI sn)), (2, .int (nI an)), (3, .int (nI bn)), (4, .int hw)])) => ?_)
      have e9 : fT vG 1 (vG 1) = vG := by funext q9; by_cases h9_1 : q9 = 1; (subst h9_1; exact (fT_eq _ _ _).trans (Eq.trans (by first | with_reducible rfl | with_reducible assumption | (symm; with_reducible assumption) | rfl | assumption | (symm; assumption) | (subst_vars; rfl)) (Eq.refl _).symm)); exact (fT_ne _ _ h9_1).trans (Eq.refl _).symm
      have hP := wr_PG e9 hP
      have hD := wr_DG e9 hD
      clear e9
      have hl : lv_has _ _ ([(11, .int (nI 0)), (0, .ref h0), (1, .int (nI sn)), (2, .int (nI an)), (3, .int (nI bn)), (5, .int (vF 0 (24 * an))), (6, .int ((vF 0 (24 * bn)) * hw)), (7, .int (nI na)), (8, .int (nI nb_)), (9, .int (nI wn)), (10, .int 0)]) := lv_sub hl [0, 7, 8, 9, 10, 6, 5, 4, 3, 2, 1] rfl
      refine (fun (loop : ∀ (n9 : Nat) (i : Nat) (gs : Nat → Int64) (H : Heap) (locs : List Loc) (ls : Array Slot), (i ≤ wn) → (∀ q, q < i → (gs q).toInt = 1 * la28 (vF 0) (24 * an + 2) na q + 1 * la28 (vF 0) (24 * bn + 2) nb_ q) →  (wn < i + n9) → va_P (dC, dI) vwCl (WR a k h0 vi vj vF (fT vG 1 gs)) H → va_D A (WR a k h0 vi vj vF (fT vG 1 gs)) → va_S A s.heap H locs → lv_has ls 16 [(11, .int (nI i)), (0, .ref h0), (1, .int (nI sn)), (2, .int (nI an)), (3, .int (nI bn)), (5, .int (vF 0 (24 * an))), (6, .int ((vF 0 (24 * bn)) * hw)), (7, .int (nI na)), (8, .int (nI nb_)), (9, .int (nI wn)), (10, .int 0)] → W p l e _ s m _ below meth c H locs 0 0 _ (F0 m 86 ls [])) => loop (wn + 1) 0 (vG 1) _ _ _ (by omega) (fun q h => absurd h (by omega)) (by omega) hP hD hS hl) ?_
      intro n9
      induction n9 with
      | zero => intro i gs H locs ls hi hE hf9; exact False.elim (by omega)
      | succ n9 ih86 =>
        intro i gs H locs ls hi hE hf86 hP hD hS hl
        refine lv_iload hx hb dX12_add_86 (lv_at hl 0 rfl) ?_
        refine lv_iload hx hb dX12_add_88 (lv_at hl 9 rfl) ?_
        refine lv_icmp_ge (tgt := 196) hx hb dX12_add_90 (by decide) (fun c_90 => ?_) (fun c_90 => ?_)
        · have t_90 : ((i : Nat) : Int) ≥ ((wn : Nat) : Int) := toI_ge c_90 (nI_toInt (by omega)) (nI_toInt (by omega))
          refine lv_aload_n hx hb dX12_add_196 rfl (lv_at hl 1 rfl) ?_
          refine lv_iload_n hx hb dX12_add_197 rfl (lv_at hl 2 rfl) ?_
          refine lv_iload hx hb dX12_add_198 (lv_at hl 9 rfl) ?_
          refine lv_iload hx hb dX12_add_200 (lv_at hl 5 rfl) ?_
          refine lv_iload hx hb dX12_add_202 (lv_at hl 6 rfl) ?_
          refine lv_imul hx hb dX12_add_204 ?_
          refine lv_if_lt (tgt := 223) hx hb dX12_add_205 (by decide) (fun c9 => False.elim (by have t9 : (((vF 0 (24 * an)) * ((vF 0 (24 * bn)) * hw))).toInt < 0 := toI_lt c9 rfl (by decide); omega)) (fun c_205 => ?_)
          have t_205 : ¬ (((vF 0 (24 * an)) * ((vF 0 (24 * bn)) * hw))).toInt < 0 := toI_nlt c_205 rfl (by decide)
          refine lv_iload hx hb dX12_add_208 (lv_at hl 5 rfl) ?_
          refine lv_if_eq (tgt := 218) hx hb dX12_add_210 (by decide) (fun c_210 => ?_) (fun c_210 => ?_)
          · have t_210 : ((vF 0 (24 * an))).toInt = 0 := toI_eq c_210 rfl (by decide)
            refine lv_iload hx hb dX12_add_218 (lv_at hl 6 rfl) ?_
            refine lv_goto (tgt := 235) hx hb dX12_add_220 (by decide) ?_
            have hsv := sum28 hna3 hnb3 hwn2 hwn3 (gs := gs) (ca := 1) (cb := 1) (fun q hq => hE q (by omega))
            rw [← hna5, ← hnb5] at hsv
            have hFc := allFree hD hS hA
            refine va_callv (va_runV (As := [.int (nI sn), .int (nI wn), .int ((vF 0 (24 * bn)) * hw)]) (rest := []) ⟨hx, hb, hml, hown, hts⟩ (r_X12_carry l dC dI a k h0 vi vj vF (fT vG 1 gs) sn wn ((vF 0 (24 * bn)) * hw) ((xa + yb).natAbs) (if xa + yb < 0 then -1 else 1) (by first | with_reducible assumption | decide | omega | rfl | assumption) (by first | with_reducible assumption | decide | omega | rfl | assumption) (fun q hq => by show -1152921504606846976 ≤ (gs q).toInt ∧ (gs q).toInt ≤ 1152921504606846976; have := hE q (by omega); have := la_bd hna3 q; have := la_bd hnb3 q; omega) (by show sv28 gs wn = _; rw [hsv]; omega) (by first | with_reducible assumption | decide | omega | rfl | assumption) (fun h9 => by split <;> first | exact Or.inr ⟨rfl, ofm1 (by omega)⟩ | exact Or.inl ⟨rfl, of1 (by omega)⟩) H.size) (cwV 3 hts gwsRX12_add_1 rfl rfl rfl hd_yX12_carry_RX12 (by decide +kernel)) (fz_pre (va_recv hK hP (ci := 12) (q0 := 0) rfl rfl) hP hK hD) rfl rfl hl.1 rfl (lv_room (Nat.le_of_ble_eq_true rfl)) dX12_add_235 (by decide +kernel)) hS (fun q _ h => hFc q h) hFc (fun g235 t9_ H locs ht hvm hw9 hB9 hz1 hk1 hS => ?_)
            have hP : va_P (dC, dI) vwCl (WR a k h0 vi vj (fT vF 0 g235) (fT vG 1 gs)) H := fz_P ht hB9.1
            have hD := fz_sd hP (hB9.2.weaken (fun _ q _ h => hFc q.1 h)) rfl
            revert hw9
            refine fz_a2 ?_
            intro f235_0 f235_1
            refine W.widen (k := 0) (n := 0) (by decide +kernel) (by decide +kernel) ?_
            exact W.vret hx hb hr (fun t9_ ht hW => ⟨⟨(g235, gs), rfl, by (try dsimp only); (have e9 : (if xa + yb < 0 then -1 else 1) * (((xa + yb).natAbs : Nat) : Int) = xa + yb := by split <;> omega); rw [e9] at f235_0; exact ⟨f235_0, f235_1⟩, by rw [ht]; exact hP, hD⟩, hS.F ht⟩) hS.2.2 dX12_add_238
          · have t_210 : ¬ ((vF 0 (24 * an))).toInt = 0 := toI_neq c_210 rfl (by decide)
            refine lv_iload hx hb dX12_add_213 (lv_at hl 5 rfl) ?_
            refine lv_goto (tgt := 235) hx hb dX12_add_215 (by decide) ?_
            have hsv := sum28 hna3 hnb3 hwn2 hwn3 (gs := gs) (ca := 1) (cb := 1) (fun q hq => hE q (by omega))
            rw [← hna5, ← hnb5] at hsv
            have hFc := allFree hD hS hA
            refine va_callv (va_runV (As := [.int (nI sn), .int (nI wn), .int (vF 0 (24 * an))]) (rest := []) ⟨hx, hb, hml, hown, hts⟩ (r_X12_carry l dC dI a k h0 vi vj vF (fT vG 1 gs) sn wn (vF 0 (24 * an)) ((xa + yb).natAbs) (if xa + yb < 0 then -1 else 1) (by first | with_reducible assumption | decide | omega | rfl | assumption) (by first | with_reducible assumption | decide | omega | rfl | assumption) (fun q hq => by show -1152921504606846976 ≤ (gs q).toInt ∧ (gs q).toInt ≤ 1152921504606846976; have := hE q (by omega); have := la_bd hna3 q; have := la_bd hnb3 q; omega) (by show sv28 gs wn = _; rw [hsv]; omega) (by first | with_reducible assumption | decide | omega | rfl | assumption) (fun h9 => by split <;> first | exact Or.inr ⟨rfl, ofm1 (by omega)⟩ | exact Or.inl ⟨rfl, of1 (by omega)⟩) H.size) (cwV 3 hts gwsRX12_add_1 rfl rfl rfl hd_yX12_carry_RX12 (by decide +kernel)) (fz_pre (va_recv hK hP (ci := 12) (q0 := 0) rfl rfl) hP hK hD) rfl rfl hl.1 rfl (lv_room (Nat.le_of_ble_eq_true rfl)) dX12_add_235 (by decide +kernel)) hS (fun q _ h => hFc q h) hFc (fun g235_1 t9_ H locs ht hvm hw9 hB9 hz1 hk1 hS => ?_)
            have hP : va_P (dC, dI) vwCl (WR a k h0 vi vj (fT vF 0 g235_1) (fT vG 1 gs)) H := fz_P ht hB9.1
            have hD := fz_sd hP (hB9.2.weaken (fun _ q _ h => hFc q.1 h)) rfl
            revert hw9
            refine fz_a2 ?_
            intro f235_1_0 f235_1_1
            refine W.widen (k := 0) (n := 0) (by decide +kernel) (by decide +kernel) ?_
            exact W.vret hx hb hr (fun t9_ ht hW => ⟨⟨(g235_1, gs), rfl, by (try dsimp only); (have e9 : (if xa + yb < 0 then -1 else 1) * (((xa + yb).natAbs : Nat) : Int) = xa + yb := by split <;> omega); rw [e9] at f235_1_0; exact ⟨f235_1_0, f235_1_1⟩, by rw [ht]; exact hP, hD⟩, hS.F ht⟩) hS.2.2 dX12_add_238
        · have t_90 : ¬ ((i : Nat) : Int) ≥ ((wn : Nat) : Int) := toI_nge c_90 (nI_toInt (by omega)) (nI_toInt (by omega))
          refine lv_iload hx hb dX12_add_93 (lv_at hl 0 rfl) ?_
          refine lv_iload hx hb dX12_add_95 (lv_at hl 7 rfl) ?_
          refine W.cut (pc := 119) (fun H locs ls stk => ∃ (uL : Int64), ((uL).toInt = la28 (vF 0) (24 * an + 2) na i) ∧  stk = [.long uL] ∧ va_P (dC, dI) vwCl (WR a k h0 vi vj vF (fT vG 1 gs)) H ∧ va_D A (WR a k h0 vi vj vF (fT vG 1 gs)) ∧ va_S A s.heap H locs ∧ lv_has ls 16 [(11, .int (nI i)), (0, .ref h0), (1, .int (nI sn)), (2, .int (nI an)), (3, .int (nI bn)), (5, .int (vF 0 (24 * an))), (6, .int ((vF 0 (24 * bn)) * hw)), (7, .int (nI na)), (8, .int (nI nb_)), (9, .int (nI wn)), (10, .int 0)]) (fun join2 => ?_) ?_
          · refine lv_icmp_ge (tgt := 118) hx hb dX12_add_97 (by decide) (fun c_97 => ?_) (fun c_97 => ?_)
            · have t_97 : ((i : Nat) : Int) ≥ ((na : Nat) : Int) := toI_ge c_97 (nI_toInt (by omega)) (nI_toInt (by omega))
              refine lv_lconst (v := 0) hx hb dX12_add_118 (by decide) ?_
              have hl : lv_has _ _ ([(11, .int (nI i)), (0, .ref h0), (1, .int (nI sn)), (2, .int (nI an)), (3, .int (nI bn)), (5, .int (vF 0 (24 * an))), (6, .int ((vF 0 (24 * bn)) * hw)), (7, .int (nI na)), (8, .int (nI nb_)), (9, .int (nI wn)), (10, .int 0)]) := lv_sub hl [0, 1, 2, 3, 4, 5, 6, 7, 8, 9, 10] rfl
              exact join2 _ _ _ _ ⟨0, by unfold la28; rw [if_neg (by omega)]; decide, rfl, hP, hD, hS, hl⟩
            · have t_97 : ¬ ((i : Nat) : Int) ≥ ((na : Nat) : Int) := toI_nge c_97 (nI_toInt (by omega)) (nI_toInt (by omega))
              refine lv_aload_n hx hb dX12_add_100 rfl (lv_at hl 1 rfl) ?_
              refine va_get (D := (dC, dI)) (ci := 12) (v := .ref (a 0)) (C := RX12) (T := TX12) (N := 163) (fs := fM (vS a vi vj)) hx hb hts iwsRX12_add_in12 hown hK hP 0 rfl rfl 1 (by decide) (hts _ hm_r_X12_add_0) (fun _ h9 => h9) rfl dX12_add_101 ?_
              refine lv_bipush (v := 24) hx hb dX12_add_104 (by decide) ?_
              refine lv_iload_n hx hb dX12_add_106 rfl (lv_at hl 3 rfl) ?_
              refine lv_imul hx hb dX12_add_107 ?_
              refine lv_topi (fun y9 hy9 => ?_)
              obtain rfl : (nI (24 * an)) = y9 := (hy9.trans (pk_mul 24 an)).symm
              refine lv_iconst (v := 2) hx hb dX12_add_108 (by decide) ?_
              refine lv_iadd hx hb dX12_add_109 ?_
              refine lv_topi (fun y10 hy10 => ?_)
              obtain rfl : (nI ((24 * an) + 2)) = y10 := (hy10.trans (nI_add (24 * an) 2)).symm
              refine lv_iload hx hb dX12_add_110 (lv_at hl 0 rfl) ?_
              refine lv_iadd hx hb dX12_add_112 ?_
              refine lv_topi (fun y11 hy11 => ?_)
              obtain rfl : (nI (((24 * an) + 2) + i)) = y11 := (hy11.trans (nI_add ((24 * an) + 2) i)).symm
              refine va_iald (cA := k 0) (n := 26400) (f := (vF 0)) hx hb hK hP 1 0 (WR_get 0 (by decide)) (TR_get 0 (by decide)) (vp_in_nI (show (((24 * an) + 2) + i) < 26400 by omega) (by omega)) dX12_add_113 ?_
              refine lv_topi (fun y12 hy12 => ?_)
              obtain rfl : ((vF 0) (((24 * an) + 2) + i)) = y12 := (hy12.trans (by rw [nI_clamp (by omega)])).symm
              refine lv_i2l hx hb dX12_add_114 rfl ?_
              refine lv_goto (tgt := 119) hx hb dX12_add_115 (by decide) ?_
              have hl : lv_has _ _ ([(11, .int (nI i)), (0, .ref h0), (1, .int (nI sn)), (2, .int (nI an)), (3, .int (nI bn)), (5, .int (vF 0 (24 * an))), (6, .int ((vF 0 (24 * bn)) * hw)), (7, .int (nI na)), (8, .int (nI nb_)), (9, .int (nI wn)), (10, .int 0)]) := lv_sub hl [0, 1, 2, 3, 4, 5, 6, 7, 8, 9, 10] rfl
              exact join2 _ _ _ _ ⟨(((vF 0) (((24 * an) + 2) + i))).toInt64, by unfold la28; rw [if_pos (by omega)]; exact i64T _, rfl, hP, hD, hS, hl⟩
          · rintro H locs ls stk ⟨uL, eU, rfl, hP, hD, hS, hl⟩
            refine lv_lstore hx hb dX12_add_119 hl (by decide) rfl (fun ls (hl : lv_has ls _ ([(12, .long uL), (11, .int (nI i)), (0, .ref h0), (1, .int (nI sn)), (2, .int (nI an)), (3, .int (nI bn)), (5, .int (vF 0 (24 * an))), (6, .int ((vF 0 (24 * bn)) * hw)), (7, .int (nI na)), (8, .int (nI nb_)), (9, .int (nI wn)), (10, .int 0)])) => ?_)
            refine lv_iload hx hb dX12_add_121 (lv_at hl 1 rfl) ?_
            refine lv_iload hx hb dX12_add_123 (lv_at hl 9 rfl) ?_
            refine W.cut (pc := 147) (fun H locs ls stk => ∃ (vL : Int64), ((vL).toInt = la28 (vF 0) (24 * bn + 2) nb_ i) ∧  stk = [.long vL] ∧ va_P (dC, dI) vwCl (WR a k h0 vi vj vF (fT vG 1 gs)) H ∧ va_D A (WR a k h0 vi vj vF (fT vG 1 gs)) ∧ va_S A s.heap H locs ∧ lv_has ls 16 [(12, .long uL), (11, .int (nI i)), (0, .ref h0), (1, .int (nI sn)), (2, .int (nI an)), (3, .int (nI bn)), (5, .int (vF 0 (24 * an))), (6, .int ((vF 0 (24 * bn)) * hw)), (7, .int (nI na)), (8, .int (nI nb_)), (9, .int (nI wn)), (10, .int 0)]) (fun join3 => ?_) ?_
            · refine lv_icmp_ge (tgt := 146) hx hb dX12_add_125 (by decide) (fun c_125 => ?_) (fun c_125 => ?_)
              · have t_125 : ((i : Nat) : Int) ≥ ((nb_ : Nat) : Int) := toI_ge c_125 (nI_toInt (by omega)) (nI_toInt (by omega))
                refine lv_lconst (v := 0) hx hb dX12_add_146 (by decide) ?_
                have hl : lv_has _ _ ([(12, .long uL), (11, .int (nI i)), (0, .ref h0), (1, .int (nI sn)), (2, .int (nI an)), (3, .int (nI bn)), (5, .int (vF 0 (24 * an))), (6, .int ((vF 0 (24 * bn)) * hw)), (7, .int (nI na)), (8, .int (nI nb_)), (9, .int (nI wn)), (10, .int 0)]) := lv_sub hl [0, 1, 2, 3, 4, 5, 6, 7, 8, 9, 10, 11] rfl
                exact join3 _ _ _ _ ⟨0, by unfold la28; rw [if_neg (by omega)]; decide, rfl, hP, hD, hS, hl⟩
              · have t_125 : ¬ ((i : Nat) : Int) ≥ ((nb_ : Nat) : Int) := toI_nge c_125 (nI_toInt (by omega)) (nI_toInt (by omega))
                refine lv_aload_n hx hb dX12_add_128 rfl (lv_at hl 2 rfl) ?_
                refine va_get (D := (dC, dI)) (ci := 12) (v := .ref (a 0)) (C := RX12) (T := TX12) (N := 163) (fs := fM (vS a vi vj)) hx hb hts iwsRX12_add_in12 hown hK hP 0 rfl rfl 1 (by decide) (hts _ hm_r_X12_add_0) (fun _ h9 => h9) rfl dX12_add_129 ?_
                refine lv_bipush (v := 24) hx hb dX12_add_132 (by decide) ?_
                refine lv_iload_n hx hb dX12_add_134 rfl (lv_at hl 5 rfl) ?_
                refine lv_imul hx hb dX12_add_135 ?_
                refine lv_topi (fun y13 hy13 => ?_)
                obtain rfl : (nI (24 * bn)) = y13 := (hy13.trans (pk_mul 24 bn)).symm
                refine lv_iconst (v := 2) hx hb dX12_add_136 (by decide) ?_
                refine lv_iadd hx hb dX12_add_137 ?_
                refine lv_topi (fun y14 hy14 => ?_)
                obtain rfl : (nI ((24 * bn) + 2)) = y14 := (hy14.trans (nI_add (24 * bn) 2)).symm
                refine lv_iload hx hb dX12_add_138 (lv_at hl 1 rfl) ?_
                refine lv_iadd hx hb dX12_add_140 ?_
                refine lv_topi (fun y15 hy15 => ?_)
                obtain rfl : (nI (((24 * bn) + 2) + i)) = y15 := (hy15.trans (nI_add ((24 * bn) + 2) i)).symm
                refine va_iald (cA := k 0) (n := 26400) (f := (vF 0)) hx hb hK hP 1 0 (WR_get 0 (by decide)) (TR_get 0 (by decide)) (vp_in_nI (show (((24 * bn) + 2) + i) < 26400 by omega) (by omega)) dX12_add_141 ?_
                refine lv_topi (fun y16 hy16 => ?_)
                obtain rfl : ((vF 0) (((24 * bn) + 2) + i)) = y16 := (hy16.trans (by rw [nI_clamp (by omega)])).symm
                refine lv_i2l hx hb dX12_add_142 rfl ?_
                refine lv_goto (tgt := 147) hx hb dX12_add_143 (by decide) ?_
                have hl : lv_has _ _ ([(12, .long uL), (11, .int (nI i)), (0, .ref h0), (1, .int (nI sn)), (2, .int (nI an)), (3, .int (nI bn)), (5, .int (vF 0 (24 * an))), (6, .int ((vF 0 (24 * bn)) * hw)), (7, .int (nI na)), (8, .int (nI nb_)), (9, .int (nI wn)), (10, .int 0)]) := lv_sub hl [0, 1, 2, 3, 4, 5, 6, 7, 8, 9, 10, 11] rfl
                exact join3 _ _ _ _ ⟨(((vF 0) (((24 * bn) + 2) + i))).toInt64, by unfold la28; rw [if_pos (by omega)]; exact i64T _, rfl, hP, hD, hS, hl⟩
            · rintro H locs ls stk ⟨vL, eV, rfl, hP, hD, hS, hl⟩
              refine lv_lstore hx hb dX12_add_147 hl (by decide) rfl (fun ls (hl : lv_has ls _ ([(14, .long vL), (12, .long uL), (11, .int (nI i)), (0, .ref h0), (1, .int (nI sn)), (2, .int (nI an)), (3, .int (nI bn)), (5, .int (vF 0 (24 * an))), (6, .int ((vF 0 (24 * bn)) * hw)), (7, .int (nI na)), (8, .int (nI nb_)), (9, .int (nI wn)), (10, .int 0)])) => ?_)
              have bU := la_bd hna3 i
              have bV := la_bd hnb3 i
              refine lv_aload_n hx hb dX12_add_149 rfl (lv_at hl 3 rfl) ?_
              refine va_get (D := (dC, dI)) (ci := 12) (v := .ref (a 1)) (C := RX12) (T := TX12) (N := 163) (fs := fM (vS a vi vj)) hx hb hts iwsRX12_add_in12 hown hK hP 0 rfl rfl 2 (by decide) (hts _ hm_r_X12_add_1) (fun _ h9 => h9) rfl dX12_add_150 ?_
              refine lv_iload hx hb dX12_add_153 (lv_at hl 2 rfl) ?_
              refine lv_iload hx hb dX12_add_155 (lv_at hl 7 rfl) ?_
              refine lv_iload hx hb dX12_add_157 (lv_at hl 8 rfl) ?_
              refine lv_imul hx hb dX12_add_159 ?_
              refine lv_if_lt (tgt := 171) hx hb dX12_add_160 (by decide) (fun c9 => False.elim (by have t9 : (((vF 0 (24 * an)) * ((vF 0 (24 * bn)) * hw))).toInt < 0 := toI_lt c9 rfl (by decide); omega)) (fun c_160 => ?_)
              have t_160 : ¬ (((vF 0 (24 * an)) * ((vF 0 (24 * bn)) * hw))).toInt < 0 := toI_nlt c_160 rfl (by decide)
              refine lv_lload hx hb dX12_add_163 (lv_at hl 1 rfl) ?_
              refine lv_lload hx hb dX12_add_165 (lv_at hl 0 rfl) ?_
              refine lv_ladd hx hb dX12_add_167 ?_
              refine lv_goto (tgt := 189) hx hb dX12_add_168 (by decide) ?_
              have eS : ((uL + vL) : Int64).toInt = 1 * la28 (vF 0) (24 * an + 2) na i + 1 * la28 (vF 0) (24 * bn + 2) nb_ i := by rw [addJ (by omega) (by omega)]; omega
              refine va_last (cA := k 1) (n := 48) (f := gs) hx hb hK hP hD hS 2 1 (WR_get 1 (by decide)) (TR_get 1 (by decide)) (vp_in_nI (show i < 48 by omega) (by omega)) dX12_add_189 (fun H locs hP hD hS => ?_)
              have e9 : fT vG 1 (vp_updL gs ((nI i)).toNatClampNeg (uL + vL)) = fT (fT vG 1 gs) 1 (vp_updL gs ((nI i)).toNatClampNeg (uL + vL)) := (fT_sm _ _ _ _).symm
              have hP := wr_PG e9 (fz_w (WR_G 1 (by decide) _ rfl) hP)
              have hD := wr_DG e9 (fz_wD (WR_G 1 (by decide) _ rfl) hD)
              clear e9
              refine lv_iinc (v := (nI (i + 1))) hx hb dX12_add_190 hl (k := 2) rfl (nI_add i 1) (by decide) rfl (fun ls (hl : lv_has ls _ ([(11, .int (nI (i + 1))), (14, .long vL), (12, .long uL), (0, .ref h0), (1, .int (nI sn)), (2, .int (nI an)), (3, .int (nI bn)), (5, .int (vF 0 (24 * an))), (6, .int ((vF 0 (24 * bn)) * hw)), (7, .int (nI na)), (8, .int (nI nb_)), (9, .int (nI wn)), (10, .int 0)])) => ?_)
              refine lv_goto (tgt := 86) hx hb dX12_add_193 (by decide) ?_
              have hl : lv_has _ _ ([(11, .int (nI (i + 1))), (0, .ref h0), (1, .int (nI sn)), (2, .int (nI an)), (3, .int (nI bn)), (5, .int (vF 0 (24 * an))), (6, .int ((vF 0 (24 * bn)) * hw)), (7, .int (nI na)), (8, .int (nI nb_)), (9, .int (nI wn)), (10, .int 0)]) := lv_sub hl [0, 3, 4, 5, 6, 7, 8, 9, 10, 11, 12] rfl
              exact ih86 (i + 1) (vp_updL gs ((nI i)).toNatClampNeg (uL + vL)) _ _ _ (by omega) (fun q hq => by rw [updL_at (by omega)]; by_cases e9 : q = i; (rw [if_pos e9, e9]; exact eS); (rw [if_neg e9]; exact hE q (by omega))) (by omega) hP hD hS hl
    · have t_64 : ¬ (((vF 0 (24 * an)) * ((vF 0 (24 * bn)) * hw))).toInt ≥ 0 := toI_nge c_64 rfl (by decide)
      refine lv_aload_n hx hb dX12_add_67 rfl (lv_at hl 5 rfl) ?_
      refine lv_iload_n hx hb dX12_add_68 rfl (lv_at hl 7 rfl) ?_
      refine lv_iload_n hx hb dX12_add_69 rfl (lv_at hl 8 rfl) ?_
      have hFc := allFree hD hS hA
      refine va_calli (va_runV (As := [.int (nI an), .int (nI bn)]) (rest := []) ⟨hx, hb, hml, hown, hts⟩ (r_X12_bare l dC dI a k h0 vi vj vF vG an bn xa xb (by first | with_reducible assumption | decide | omega | rfl | assumption) (by first | with_reducible assumption | decide | omega | rfl | assumption) (hxa) (hxb) H.size) (cwV 2 hts gwsRX12_add_2 rfl rfl rfl hd_yX12_bare_RX12 (by decide +kernel)) (fz_pre (va_recv hK hP (ci := 12) (q0 := 0) rfl rfl) hP hK hD) rfl rfl hl.1 rfl (lv_room (Nat.le_of_ble_eq_true rfl)) dX12_add_70 (by decide +kernel)) hS (fun q _ h => hFc q h) hFc (fun r70 u t9_ H locs ht hvm hw9 hB9 hz1 hk1 hS => ?_)
      have hP : va_P (dC, dI) vwCl (WR a k h0 vi vj vF vG) H := fz_P ht hB9.1
      have hD := fz_sd hP (hB9.2.weaken (fun _ q _ h => hFc q.1 h)) rfl
      revert hw9
      refine fz_a2 ?_
      intro f70_0 f70_1
      refine lv_if_ge (tgt := 80) hx hb dX12_add_73 (by decide) (fun c_73 => ?_) (fun c_73 => ?_)
      · have t_73 : (r70).toInt ≥ 0 := toI_ge c_73 rfl (by decide)
        refine lv_iconst (v := 0) hx hb dX12_add_80 (by decide) ?_
        refine lv_istore hx hb dX12_add_81 hl (by decide) rfl (fun ls (hl : lv_has ls _ ([(10, .int 0), (9, .int (nI wn)), (8, .int (nI nb_)), (7, .int (nI na)), (6, .int ((vF 0 (24 * bn)) * hw)), (5, .int (vF 0 (24 * an))), (0, .ref h0), (1, .int (nI sn)), (2, .int (nI an)), (3, .int (nI bn)), (4, .int hw)])) => ?_)
        refine lv_iconst (v := 0) hx hb dX12_add_83 (by decide) ?_
        refine lv_istore hx hb dX12_add_84 hl (by decide) rfl (fun ls (hl : lv_has ls _ ([(11, .int 0), (10, .int 0), (9, .int (nI wn)), (8, .int (nI nb_)), (7, .int (nI na)), (6, .int ((vF 0 (24 * bn)) * hw)), (5, .int (vF 0 (24 * an))), (0, .ref h0), (1, .int (nI sn)), (2, .int (nI an)), (3, .int (nI bn)), (4, .int hw)])) => ?_)
        have e9 : fT vG 1 (vG 1) = vG := by funext q9; by_cases h9_1 : q9 = 1; (subst h9_1; exact (fT_eq _ _ _).trans (Eq.trans (by first | with_reducible rfl | with_reducible assumption | (symm; with_reducible assumption) | rfl | assumption | (symm; assumption) | (subst_vars; rfl)) (Eq.refl _).symm)); exact (fT_ne _ _ h9_1).trans (Eq.refl _).symm
        have hP := wr_PG e9 hP
        have hD := wr_DG e9 hD
        clear e9
        have hl : lv_has _ _ ([(11, .int (nI 0)), (0, .ref h0), (1, .int (nI sn)), (2, .int (nI an)), (3, .int (nI bn)), (5, .int (vF 0 (24 * an))), (6, .int ((vF 0 (24 * bn)) * hw)), (7, .int (nI na)), (8, .int (nI nb_)), (9, .int (nI wn)), (10, .int 0)]) := lv_sub hl [0, 7, 8, 9, 10, 6, 5, 4, 3, 2, 1] rfl
        refine (fun (loop : ∀ (n9 : Nat) (i : Nat) (gs : Nat → Int64) (H : Heap) (locs : List Loc) (ls : Array Slot), (i ≤ wn) → (∀ q, q < i → (gs q).toInt = 1 * la28 (vF 0) (24 * an + 2) na q + (-1) * la28 (vF 0) (24 * bn + 2) nb_ q) →  (wn < i + n9) → va_P (dC, dI) vwCl (WR a k h0 vi vj vF (fT vG 1 gs)) H → va_D A (WR a k h0 vi vj vF (fT vG 1 gs)) → va_S A s.heap H locs → lv_has ls 16 [(11, .int (nI i)), (0, .ref h0), (1, .int (nI sn)), (2, .int (nI an)), (3, .int (nI bn)), (5, .int (vF 0 (24 * an))), (6, .int ((vF 0 (24 * bn)) * hw)), (7, .int (nI na)), (8, .int (nI nb_)), (9, .int (nI wn)), (10, .int 0)] → W p l e _ s m _ below meth c H locs 0 0 _ (F0 m 86 ls [])) => loop (wn + 1) 0 (vG 1) _ _ _ (by omega) (fun q h => absurd h (by omega)) (by omega) hP hD hS hl) ?_
        intro n9
        induction n9 with
        | zero => intro i gs H locs ls hi hE hf9; exact False.elim (by omega)
        | succ n9 ih86_1 =>
          intro i gs H locs ls hi hE hf86_1 hP hD hS hl
          refine lv_iload hx hb dX12_add_86 (lv_at hl 0 rfl) ?_
          refine lv_iload hx hb dX12_add_88 (lv_at hl 9 rfl) ?_
          refine lv_icmp_ge (tgt := 196) hx hb dX12_add_90 (by decide) (fun c_90 => ?_) (fun c_90 => ?_)
          · have t_90 : ((i : Nat) : Int) ≥ ((wn : Nat) : Int) := toI_ge c_90 (nI_toInt (by omega)) (nI_toInt (by omega))
            refine lv_aload_n hx hb dX12_add_196 rfl (lv_at hl 1 rfl) ?_
            refine lv_iload_n hx hb dX12_add_197 rfl (lv_at hl 2 rfl) ?_
            refine lv_iload hx hb dX12_add_198 (lv_at hl 9 rfl) ?_
            refine lv_iload hx hb dX12_add_200 (lv_at hl 5 rfl) ?_
            refine lv_iload hx hb dX12_add_202 (lv_at hl 6 rfl) ?_
            refine lv_imul hx hb dX12_add_204 ?_
            refine lv_if_lt (tgt := 223) hx hb dX12_add_205 (by decide) (fun c_205 => ?_) (fun c9 => False.elim (by have t9 : ¬ (((vF 0 (24 * an)) * ((vF 0 (24 * bn)) * hw))).toInt < 0 := toI_nlt c9 rfl (by decide); omega))
            have t_205 : (((vF 0 (24 * an)) * ((vF 0 (24 * bn)) * hw))).toInt < 0 := toI_lt c_205 rfl (by decide)
            refine lv_iload hx hb dX12_add_223 (lv_at hl 10 rfl) ?_
            refine lv_if_eq (tgt := 233) hx hb dX12_add_225 (by decide) (fun _ => ?_) (fun c9 => absurd (by decide) c9)
            refine lv_iload hx hb dX12_add_233 (lv_at hl 5 rfl) ?_
            have hsv := sum28 hna3 hnb3 hwn2 hwn3 (gs := gs) (ca := 1) (cb := (-1)) (fun q hq => hE q (by omega))
            rw [← hna5, ← hnb5] at hsv
            have hFc := allFree hD hS hA
            refine va_callv (va_runV (As := [.int (nI sn), .int (nI wn), .int (vF 0 (24 * an))]) (rest := []) ⟨hx, hb, hml, hown, hts⟩ (r_X12_carry l dC dI a k h0 vi vj vF (fT vG 1 gs) sn wn (vF 0 (24 * an)) ((xa + yb).natAbs) (if xa + yb < 0 then -1 else 1) (by first | with_reducible assumption | decide | omega | rfl | assumption) (by first | with_reducible assumption | decide | omega | rfl | assumption) (fun q hq => by show -1152921504606846976 ≤ (gs q).toInt ∧ (gs q).toInt ≤ 1152921504606846976; have := hE q (by omega); have := la_bd hna3 q; have := la_bd hnb3 q; omega) (by show sv28 gs wn = _; rw [hsv]; omega) (by first | with_reducible assumption | decide | omega | rfl | assumption) (fun h9 => by split <;> first | exact Or.inr ⟨rfl, ofm1 (by omega)⟩ | exact Or.inl ⟨rfl, of1 (by omega)⟩) H.size) (cwV 3 hts gwsRX12_add_1 rfl rfl rfl hd_yX12_carry_RX12 (by decide +kernel)) (fz_pre (va_recv hK hP (ci := 12) (q0 := 0) rfl rfl) hP hK hD) rfl rfl hl.1 rfl (lv_room (Nat.le_of_ble_eq_true rfl)) dX12_add_235 (by decide +kernel)) hS (fun q _ h => hFc q h) hFc (fun g235_2 t9_ H locs ht hvm hw9 hB9 hz1 hk1 hS => ?_)
            have hP : va_P (dC, dI) vwCl (WR a k h0 vi vj (fT vF 0 g235_2) (fT vG 1 gs)) H := fz_P ht hB9.1
            have hD := fz_sd hP (hB9.2.weaken (fun _ q _ h => hFc q.1 h)) rfl
            revert hw9
            refine fz_a2 ?_
            intro f235_2_0 f235_2_1
            refine W.widen (k := 0) (n := 0) (by decide +kernel) (by decide +kernel) ?_
            exact W.vret hx hb hr (fun t9_ ht hW => ⟨⟨(g235_2, gs), rfl, by (try dsimp only); (have e9 : (if xa + yb < 0 then -1 else 1) * (((xa + yb).natAbs : Nat) : Int) = xa + yb := by split <;> omega); rw [e9] at f235_2_0; exact ⟨f235_2_0, f235_2_1⟩, by rw [ht]; exact hP, hD⟩, hS.F ht⟩) hS.2.2 dX12_add_238
          · have t_90 : ¬ ((i : Nat) : Int) ≥ ((wn : Nat) : Int) := toI_nge c_90 (nI_toInt (by omega)) (nI_toInt (by omega))
            refine lv_iload hx hb dX12_add_93 (lv_at hl 0 rfl) ?_
            refine lv_iload hx hb dX12_add_95 (lv_at hl 7 rfl) ?_
            refine W.cut (pc := 119) (fun H locs ls stk => ∃ (uL : Int64), ((uL).toInt = la28 (vF 0) (24 * an + 2) na i) ∧  stk = [.long uL] ∧ va_P (dC, dI) vwCl (WR a k h0 vi vj vF (fT vG 1 gs)) H ∧ va_D A (WR a k h0 vi vj vF (fT vG 1 gs)) ∧ va_S A s.heap H locs ∧ lv_has ls 16 [(11, .int (nI i)), (0, .ref h0), (1, .int (nI sn)), (2, .int (nI an)), (3, .int (nI bn)), (5, .int (vF 0 (24 * an))), (6, .int ((vF 0 (24 * bn)) * hw)), (7, .int (nI na)), (8, .int (nI nb_)), (9, .int (nI wn)), (10, .int 0)]) (fun join4 => ?_) ?_
            · refine lv_icmp_ge (tgt := 118) hx hb dX12_add_97 (by decide) (fun c_97 => ?_) (fun c_97 => ?_)
              · have t_97 : ((i : Nat) : Int) ≥ ((na : Nat) : Int) := toI_ge c_97 (nI_toInt (by omega)) (nI_toInt (by omega))
                refine lv_lconst (v := 0) hx hb dX12_add_118 (by decide) ?_
                have hl : lv_has _ _ ([(11, .int (nI i)), (0, .ref h0), (1, .int (nI sn)), (2, .int (nI an)), (3, .int (nI bn)), (5, .int (vF 0 (24 * an))), (6, .int ((vF 0 (24 * bn)) * hw)), (7, .int (nI na)), (8, .int (nI nb_)), (9, .int (nI wn)), (10, .int 0)]) := lv_sub hl [0, 1, 2, 3, 4, 5, 6, 7, 8, 9, 10] rfl
                exact join4 _ _ _ _ ⟨0, by unfold la28; rw [if_neg (by omega)]; decide, rfl, hP, hD, hS, hl⟩
              · have t_97 : ¬ ((i : Nat) : Int) ≥ ((na : Nat) : Int) := toI_nge c_97 (nI_toInt (by omega)) (nI_toInt (by omega))
                refine lv_aload_n hx hb dX12_add_100 rfl (lv_at hl 1 rfl) ?_
                refine va_get (D := (dC, dI)) (ci := 12) (v := .ref (a 0)) (C := RX12) (T := TX12) (N := 163) (fs := fM (vS a vi vj)) hx hb hts iwsRX12_add_in12 hown hK hP 0 rfl rfl 1 (by decide) (hts _ hm_r_X12_add_0) (fun _ h9 => h9) rfl dX12_add_101 ?_
                refine lv_bipush (v := 24) hx hb dX12_add_104 (by decide) ?_
                refine lv_iload_n hx hb dX12_add_106 rfl (lv_at hl 3 rfl) ?_
                refine lv_imul hx hb dX12_add_107 ?_
                refine lv_topi (fun y17 hy17 => ?_)
                obtain rfl : (nI (24 * an)) = y17 := (hy17.trans (pk_mul 24 an)).symm
                refine lv_iconst (v := 2) hx hb dX12_add_108 (by decide) ?_
                refine lv_iadd hx hb dX12_add_109 ?_
                refine lv_topi (fun y18 hy18 => ?_)
                obtain rfl : (nI ((24 * an) + 2)) = y18 := (hy18.trans (nI_add (24 * an) 2)).symm
                refine lv_iload hx hb dX12_add_110 (lv_at hl 0 rfl) ?_
                refine lv_iadd hx hb dX12_add_112 ?_
                refine lv_topi (fun y19 hy19 => ?_)
                obtain rfl : (nI (((24 * an) + 2) + i)) = y19 := (hy19.trans (nI_add ((24 * an) + 2) i)).symm
                refine va_iald (cA := k 0) (n := 26400) (f := (vF 0)) hx hb hK hP 1 0 (WR_get 0 (by decide)) (TR_get 0 (by decide)) (vp_in_nI (show (((24 * an) + 2) + i) < 26400 by omega) (by omega)) dX12_add_113 ?_
                refine lv_topi (fun y20 hy20 => ?_)
                obtain rfl : ((vF 0) (((24 * an) + 2) + i)) = y20 := (hy20.trans (by rw [nI_clamp (by omega)])).symm
                refine lv_i2l hx hb dX12_add_114 rfl ?_
                refine lv_goto (tgt := 119) hx hb dX12_add_115 (by decide) ?_
                have hl : lv_has _ _ ([(11, .int (nI i)), (0, .ref h0), (1, .int (nI sn)), (2, .int (nI an)), (3, .int (nI bn)), (5, .int (vF 0 (24 * an))), (6, .int ((vF 0 (24 * bn)) * hw)), (7, .int (nI na)), (8, .int (nI nb_)), (9, .int (nI wn)), (10, .int 0)]) := lv_sub hl [0, 1, 2, 3, 4, 5, 6, 7, 8, 9, 10] rfl
                exact join4 _ _ _ _ ⟨(((vF 0) (((24 * an) + 2) + i))).toInt64, by unfold la28; rw [if_pos (by omega)]; exact i64T _, rfl, hP, hD, hS, hl⟩
            · rintro H locs ls stk ⟨uL, eU, rfl, hP, hD, hS, hl⟩
              refine lv_lstore hx hb dX12_add_119 hl (by decide) rfl (fun ls (hl : lv_has ls _ ([(12, .long uL), (11, .int (nI i)), (0, .ref h0), (1, .int (nI sn)), (2, .int (nI an)), (3, .int (nI bn)), (5, .int (vF 0 (24 * an))), (6, .int ((vF 0 (24 * bn)) * hw)), (7, .int (nI na)), (8, .int (nI nb_)), (9, .int (nI wn)), (10, .int 0)])) => ?_)
              refine lv_iload hx hb dX12_add_121 (lv_at hl 1 rfl) ?_
              refine lv_iload hx hb dX12_add_123 (lv_at hl 9 rfl) ?_
              refine W.cut (pc := 147) (fun H locs ls stk => ∃ (vL : Int64), ((vL).toInt = la28 (vF 0) (24 * bn + 2) nb_ i) ∧  stk = [.long vL] ∧ va_P (dC, dI) vwCl (WR a k h0 vi vj vF (fT vG 1 gs)) H ∧ va_D A (WR a k h0 vi vj vF (fT vG 1 gs)) ∧ va_S A s.heap H locs ∧ lv_has ls 16 [(12, .long uL), (11, .int (nI i)), (0, .ref h0), (1, .int (nI sn)), (2, .int (nI an)), (3, .int (nI bn)), (5, .int (vF 0 (24 * an))), (6, .int ((vF 0 (24 * bn)) * hw)), (7, .int (nI na)), (8, .int (nI nb_)), (9, .int (nI wn)), (10, .int 0)]) (fun join5 => ?_) ?_
              · refine lv_icmp_ge (tgt := 146) hx hb dX12_add_125 (by decide) (fun c_125 => ?_) (fun c_125 => ?_)
                · have t_125 : ((i : Nat) : Int) ≥ ((nb_ : Nat) : Int) := toI_ge c_125 (nI_toInt (by omega)) (nI_toInt (by omega))
                  refine lv_lconst (v := 0) hx hb dX12_add_146 (by decide) ?_
                  have hl : lv_has _ _ ([(12, .long uL), (11, .int (nI i)), (0, .ref h0), (1, .int (nI sn)), (2, .int (nI an)), (3, .int (nI bn)), (5, .int (vF 0 (24 * an))), (6, .int ((vF 0 (24 * bn)) * hw)), (7, .int (nI na)), (8, .int (nI nb_)), (9, .int (nI wn)), (10, .int 0)]) := lv_sub hl [0, 1, 2, 3, 4, 5, 6, 7, 8, 9, 10, 11] rfl
                  exact join5 _ _ _ _ ⟨0, by unfold la28; rw [if_neg (by omega)]; decide, rfl, hP, hD, hS, hl⟩
                · have t_125 : ¬ ((i : Nat) : Int) ≥ ((nb_ : Nat) : Int) := toI_nge c_125 (nI_toInt (by omega)) (nI_toInt (by omega))
                  refine lv_aload_n hx hb dX12_add_128 rfl (lv_at hl 2 rfl) ?_
                  refine va_get (D := (dC, dI)) (ci := 12) (v := .ref (a 0)) (C := RX12) (T := TX12) (N := 163) (fs := fM (vS a vi vj)) hx hb hts iwsRX12_add_in12 hown hK hP 0 rfl rfl 1 (by decide) (hts _ hm_r_X12_add_0) (fun _ h9 => h9) rfl dX12_add_129 ?_
                  refine lv_bipush (v := 24) hx hb dX12_add_132 (by decide) ?_
                  refine lv_iload_n hx hb dX12_add_134 rfl (lv_at hl 5 rfl) ?_
                  refine lv_imul hx hb dX12_add_135 ?_
                  refine lv_topi (fun y21 hy21 => ?_)
                  obtain rfl : (nI (24 * bn)) = y21 := (hy21.trans (pk_mul 24 bn)).symm
                  refine lv_iconst (v := 2) hx hb dX12_add_136 (by decide) ?_
                  refine lv_iadd hx hb dX12_add_137 ?_
                  refine lv_topi (fun y22 hy22 => ?_)
                  obtain rfl : (nI ((24 * bn) + 2)) = y22 := (hy22.trans (nI_add (24 * bn) 2)).symm
                  refine lv_iload hx hb dX12_add_138 (lv_at hl 1 rfl) ?_
                  refine lv_iadd hx hb dX12_add_140 ?_
                  refine lv_topi (fun y23 hy23 => ?_)
                  obtain rfl : (nI (((24 * bn) + 2) + i)) = y23 := (hy23.trans (nI_add ((24 * bn) + 2) i)).symm
                  refine va_iald (cA := k 0) (n := 26400) (f := (vF 0)) hx hb hK hP 1 0 (WR_get 0 (by decide)) (TR_get 0 (by decide)) (vp_in_nI (show (((24 * bn) + 2) + i) < 26400 by omega) (by omega)) dX12_add_141 ?_
                  refine lv_topi (fun y24 hy24 => ?_)
                  obtain rfl : ((vF 0) (((24 * bn) + 2) + i)) = y24 := (hy24.trans (by rw [nI_clamp (by omega)])).symm
                  refine lv_i2l hx hb dX12_add_142 rfl ?_
                  refine lv_goto (tgt := 147) hx hb dX12_add_143 (by decide) ?_
                  have hl : lv_has _ _ ([(12, .long uL), (11, .int (nI i)), (0, .ref h0), (1, .int (nI sn)), (2, .int (nI an)), (3, .int (nI bn)), (5, .int (vF 0 (24 * an))), (6, .int ((vF 0 (24 * bn)) * hw)), (7, .int (nI na)), (8, .int (nI nb_)), (9, .int (nI wn)), (10, .int 0)]) := lv_sub hl [0, 1, 2, 3, 4, 5, 6, 7, 8, 9, 10, 11] rfl
                  exact join5 _ _ _ _ ⟨(((vF 0) (((24 * bn) + 2) + i))).toInt64, by unfold la28; rw [if_pos (by omega)]; exact i64T _, rfl, hP, hD, hS, hl⟩
              · rintro H locs ls stk ⟨vL, eV, rfl, hP, hD, hS, hl⟩
                refine lv_lstore hx hb dX12_add_147 hl (by decide) rfl (fun ls (hl : lv_has ls _ ([(14, .long vL), (12, .long uL), (11, .int (nI i)), (0, .ref h0), (1, .int (nI sn)), (2, .int (nI an)), (3, .int (nI bn)), (5, .int (vF 0 (24 * an))), (6, .int ((vF 0 (24 * bn)) * hw)), (7, .int (nI na)), (8, .int (nI nb_)), (9, .int (nI wn)), (10, .int 0)])) => ?_)
                have bU := la_bd hna3 i
                have bV := la_bd hnb3 i
                refine lv_aload_n hx hb dX12_add_149 rfl (lv_at hl 3 rfl) ?_
                refine va_get (D := (dC, dI)) (ci := 12) (v := .ref (a 1)) (C := RX12) (T := TX12) (N := 163) (fs := fM (vS a vi vj)) hx hb hts iwsRX12_add_in12 hown hK hP 0 rfl rfl 2 (by decide) (hts _ hm_r_X12_add_1) (fun _ h9 => h9) rfl dX12_add_150 ?_
                refine lv_iload hx hb dX12_add_153 (lv_at hl 2 rfl) ?_
                refine lv_iload hx hb dX12_add_155 (lv_at hl 7 rfl) ?_
                refine lv_iload hx hb dX12_add_157 (lv_at hl 8 rfl) ?_
                refine lv_imul hx hb dX12_add_159 ?_
                refine lv_if_lt (tgt := 171) hx hb dX12_add_160 (by decide) (fun c_160 => ?_) (fun c9 => False.elim (by have t9 : ¬ (((vF 0 (24 * an)) * ((vF 0 (24 * bn)) * hw))).toInt < 0 := toI_nlt c9 rfl (by decide); omega))
                have t_160 : (((vF 0 (24 * an)) * ((vF 0 (24 * bn)) * hw))).toInt < 0 := toI_lt c_160 rfl (by decide)
                refine lv_iload hx hb dX12_add_171 (lv_at hl 12 rfl) ?_
                refine lv_if_eq (tgt := 184) hx hb dX12_add_173 (by decide) (fun _ => ?_) (fun c9 => absurd (by decide) c9)
                refine lv_lload hx hb dX12_add_184 (lv_at hl 1 rfl) ?_
                refine lv_lload hx hb dX12_add_186 (lv_at hl 0 rfl) ?_
                refine lv_lsub hx hb dX12_add_188 ?_
                have eS : ((uL - vL) : Int64).toInt = 1 * la28 (vF 0) (24 * an + 2) na i + (-1) * la28 (vF 0) (24 * bn + 2) nb_ i := by rw [subJ (by omega) (by omega)]; omega
                refine va_last (cA := k 1) (n := 48) (f := gs) hx hb hK hP hD hS 2 1 (WR_get 1 (by decide)) (TR_get 1 (by decide)) (vp_in_nI (show i < 48 by omega) (by omega)) dX12_add_189 (fun H locs hP hD hS => ?_)
                have e9 : fT vG 1 (vp_updL gs ((nI i)).toNatClampNeg (uL - vL)) = fT (fT vG 1 gs) 1 (vp_updL gs ((nI i)).toNatClampNeg (uL - vL)) := (fT_sm _ _ _ _).symm
                have hP := wr_PG e9 (fz_w (WR_G 1 (by decide) _ rfl) hP)
                have hD := wr_DG e9 (fz_wD (WR_G 1 (by decide) _ rfl) hD)
                clear e9
                refine lv_iinc (v := (nI (i + 1))) hx hb dX12_add_190 hl (k := 2) rfl (nI_add i 1) (by decide) rfl (fun ls (hl : lv_has ls _ ([(11, .int (nI (i + 1))), (14, .long vL), (12, .long uL), (0, .ref h0), (1, .int (nI sn)), (2, .int (nI an)), (3, .int (nI bn)), (5, .int (vF 0 (24 * an))), (6, .int ((vF 0 (24 * bn)) * hw)), (7, .int (nI na)), (8, .int (nI nb_)), (9, .int (nI wn)), (10, .int 0)])) => ?_)
                refine lv_goto (tgt := 86) hx hb dX12_add_193 (by decide) ?_
                have hl : lv_has _ _ ([(11, .int (nI (i + 1))), (0, .ref h0), (1, .int (nI sn)), (2, .int (nI an)), (3, .int (nI bn)), (5, .int (vF 0 (24 * an))), (6, .int ((vF 0 (24 * bn)) * hw)), (7, .int (nI na)), (8, .int (nI nb_)), (9, .int (nI wn)), (10, .int 0)]) := lv_sub hl [0, 3, 4, 5, 6, 7, 8, 9, 10, 11, 12] rfl
                exact ih86_1 (i + 1) (vp_updL gs ((nI i)).toNatClampNeg (uL - vL)) _ _ _ (by omega) (fun q hq => by rw [updL_at (by omega)]; by_cases e9 : q = i; (rw [if_pos e9, e9]; exact eS); (rw [if_neg e9]; exact hE q (by omega))) (by omega) hP hD hS hl
      · have t_73 : ¬ (r70).toInt ≥ 0 := toI_nge c_73 rfl (by decide)
        refine lv_iconst (v := 1) hx hb dX12_add_76 (by decide) ?_
        refine lv_goto (tgt := 81) hx hb dX12_add_77 (by decide) ?_
        refine lv_istore hx hb dX12_add_81 hl (by decide) rfl (fun ls (hl : lv_has ls _ ([(10, .int 1), (9, .int (nI wn)), (8, .int (nI nb_)), (7, .int (nI na)), (6, .int ((vF 0 (24 * bn)) * hw)), (5, .int (vF 0 (24 * an))), (0, .ref h0), (1, .int (nI sn)), (2, .int (nI an)), (3, .int (nI bn)), (4, .int hw)])) => ?_)
        refine lv_iconst (v := 0) hx hb dX12_add_83 (by decide) ?_
        refine lv_istore hx hb dX12_add_84 hl (by decide) rfl (fun ls (hl : lv_has ls _ ([(11, .int 0), (10, .int 1), (9, .int (nI wn)), (8, .int (nI nb_)), (7, .int (nI na)), (6, .int ((vF 0 (24 * bn)) * hw)), (5, .int (vF 0 (24 * an))), (0, .ref h0), (1, .int (nI sn)), (2, .int (nI an)), (3, .int (nI bn)), (4, .int hw)])) => ?_)
        have e9 : fT vG 1 (vG 1) = vG := by funext q9; by_cases h9_1 : q9 = 1; (subst h9_1; exact (fT_eq _ _ _).trans (Eq.trans (by first | with_reducible rfl | with_reducible assumption | (symm; with_reducible assumption) | rfl | assumption | (symm; assumption) | (subst_vars; rfl)) (Eq.refl _).symm)); exact (fT_ne _ _ h9_1).trans (Eq.refl _).symm
        have hP := wr_PG e9 hP
        have hD := wr_DG e9 hD
        clear e9
        have hl : lv_has _ _ ([(11, .int (nI 0)), (0, .ref h0), (1, .int (nI sn)), (2, .int (nI an)), (3, .int (nI bn)), (5, .int (vF 0 (24 * an))), (6, .int ((vF 0 (24 * bn)) * hw)), (7, .int (nI na)), (8, .int (nI nb_)), (9, .int (nI wn)), (10, .int 1)]) := lv_sub hl [0, 7, 8, 9, 10, 6, 5, 4, 3, 2, 1] rfl
        refine (fun (loop : ∀ (n9 : Nat) (i : Nat) (gs : Nat → Int64) (H : Heap) (locs : List Loc) (ls : Array Slot), (i ≤ wn) → (∀ q, q < i → (gs q).toInt = (-1) * la28 (vF 0) (24 * an + 2) na q + 1 * la28 (vF 0) (24 * bn + 2) nb_ q) →  (wn < i + n9) → va_P (dC, dI) vwCl (WR a k h0 vi vj vF (fT vG 1 gs)) H → va_D A (WR a k h0 vi vj vF (fT vG 1 gs)) → va_S A s.heap H locs → lv_has ls 16 [(11, .int (nI i)), (0, .ref h0), (1, .int (nI sn)), (2, .int (nI an)), (3, .int (nI bn)), (5, .int (vF 0 (24 * an))), (6, .int ((vF 0 (24 * bn)) * hw)), (7, .int (nI na)), (8, .int (nI nb_)), (9, .int (nI wn)), (10, .int 1)] → W p l e _ s m _ below meth c H locs 0 0 _ (F0 m 86 ls [])) => loop (wn + 1) 0 (vG 1) _ _ _ (by omega) (fun q h => absurd h (by omega)) (by omega) hP hD hS hl) ?_
        intro n9
        induction n9 with
        | zero => intro i gs H locs ls hi hE hf9; exact False.elim (by omega)
        | succ n9 ih86_2 =>
          intro i gs H locs ls hi hE hf86_2 hP hD hS hl
          refine lv_iload hx hb dX12_add_86 (lv_at hl 0 rfl) ?_
          refine lv_iload hx hb dX12_add_88 (lv_at hl 9 rfl) ?_
          refine lv_icmp_ge (tgt := 196) hx hb dX12_add_90 (by decide) (fun c_90 => ?_) (fun c_90 => ?_)
          · have t_90 : ((i : Nat) : Int) ≥ ((wn : Nat) : Int) := toI_ge c_90 (nI_toInt (by omega)) (nI_toInt (by omega))
            refine lv_aload_n hx hb dX12_add_196 rfl (lv_at hl 1 rfl) ?_
            refine lv_iload_n hx hb dX12_add_197 rfl (lv_at hl 2 rfl) ?_
            refine lv_iload hx hb dX12_add_198 (lv_at hl 9 rfl) ?_
            refine lv_iload hx hb dX12_add_200 (lv_at hl 5 rfl) ?_
            refine lv_iload hx hb dX12_add_202 (lv_at hl 6 rfl) ?_
            refine lv_imul hx hb dX12_add_204 ?_
            refine lv_if_lt (tgt := 223) hx hb dX12_add_205 (by decide) (fun c_205 => ?_) (fun c9 => False.elim (by have t9 : ¬ (((vF 0 (24 * an)) * ((vF 0 (24 * bn)) * hw))).toInt < 0 := toI_nlt c9 rfl (by decide); omega))
            have t_205 : (((vF 0 (24 * an)) * ((vF 0 (24 * bn)) * hw))).toInt < 0 := toI_lt c_205 rfl (by decide)
            refine lv_iload hx hb dX12_add_223 (lv_at hl 10 rfl) ?_
            refine lv_if_eq (tgt := 233) hx hb dX12_add_225 (by decide) (fun c9 => absurd c9 (by decide)) (fun _ => ?_)
            refine lv_iload hx hb dX12_add_228 (lv_at hl 6 rfl) ?_
            refine lv_goto (tgt := 235) hx hb dX12_add_230 (by decide) ?_
            have hsv := sum28 hna3 hnb3 hwn2 hwn3 (gs := gs) (ca := (-1)) (cb := 1) (fun q hq => hE q (by omega))
            rw [← hna5, ← hnb5] at hsv
            have hFc := allFree hD hS hA
            refine va_callv (va_runV (As := [.int (nI sn), .int (nI wn), .int ((vF 0 (24 * bn)) * hw)]) (rest := []) ⟨hx, hb, hml, hown, hts⟩ (r_X12_carry l dC dI a k h0 vi vj vF (fT vG 1 gs) sn wn ((vF 0 (24 * bn)) * hw) ((xa + yb).natAbs) (if xa + yb < 0 then -1 else 1) (by first | with_reducible assumption | decide | omega | rfl | assumption) (by first | with_reducible assumption | decide | omega | rfl | assumption) (fun q hq => by show -1152921504606846976 ≤ (gs q).toInt ∧ (gs q).toInt ≤ 1152921504606846976; have := hE q (by omega); have := la_bd hna3 q; have := la_bd hnb3 q; omega) (by show sv28 gs wn = _; rw [hsv]; omega) (by first | with_reducible assumption | decide | omega | rfl | assumption) (fun h9 => by split <;> first | exact Or.inr ⟨rfl, ofm1 (by omega)⟩ | exact Or.inl ⟨rfl, of1 (by omega)⟩) H.size) (cwV 3 hts gwsRX12_add_1 rfl rfl rfl hd_yX12_carry_RX12 (by decide +kernel)) (fz_pre (va_recv hK hP (ci := 12) (q0 := 0) rfl rfl) hP hK hD) rfl rfl hl.1 rfl (lv_room (Nat.le_of_ble_eq_true rfl)) dX12_add_235 (by decide +kernel)) hS (fun q _ h => hFc q h) hFc (fun g235_3 t9_ H locs ht hvm hw9 hB9 hz1 hk1 hS => ?_)
            have hP : va_P (dC, dI) vwCl (WR a k h0 vi vj (fT vF 0 g235_3) (fT vG 1 gs)) H := fz_P ht hB9.1
            have hD := fz_sd hP (hB9.2.weaken (fun _ q _ h => hFc q.1 h)) rfl
            revert hw9
            refine fz_a2 ?_
            intro f235_3_0 f235_3_1
            refine W.widen (k := 0) (n := 0) (by decide +kernel) (by decide +kernel) ?_
            exact W.vret hx hb hr (fun t9_ ht hW => ⟨⟨(g235_3, gs), rfl, by (try dsimp only); (have e9 : (if xa + yb < 0 then -1 else 1) * (((xa + yb).natAbs : Nat) : Int) = xa + yb := by split <;> omega); rw [e9] at f235_3_0; exact ⟨f235_3_0, f235_3_1⟩, by rw [ht]; exact hP, hD⟩, hS.F ht⟩) hS.2.2 dX12_add_238
          · have t_90 : ¬ ((i : Nat) : Int) ≥ ((wn : Nat) : Int) := toI_nge c_90 (nI_toInt (by omega)) (nI_toInt (by omega))
            refine lv_iload hx hb dX12_add_93 (lv_at hl 0 rfl) ?_
            refine lv_iload hx hb dX12_add_95 (lv_at hl 7 rfl) ?_
            refine W.cut (pc := 119) (fun H locs ls stk => ∃ (uL : Int64), ((uL).toInt = la28 (vF 0) (24 * an + 2) na i) ∧  stk = [.long uL] ∧ va_P (dC, dI) vwCl (WR a k h0 vi vj vF (fT vG 1 gs)) H ∧ va_D A (WR a k h0 vi vj vF (fT vG 1 gs)) ∧ va_S A s.heap H locs ∧ lv_has ls 16 [(11, .int (nI i)), (0, .ref h0), (1, .int (nI sn)), (2, .int (nI an)), (3, .int (nI bn)), (5, .int (vF 0 (24 * an))), (6, .int ((vF 0 (24 * bn)) * hw)), (7, .int (nI na)), (8, .int (nI nb_)), (9, .int (nI wn)), (10, .int 1)]) (fun join6 => ?_) ?_
            · refine lv_icmp_ge (tgt := 118) hx hb dX12_add_97 (by decide) (fun c_97 => ?_) (fun c_97 => ?_)
              · have t_97 : ((i : Nat) : Int) ≥ ((na : Nat) : Int) := toI_ge c_97 (nI_toInt (by omega)) (nI_toInt (by omega))
                refine lv_lconst (v := 0) hx hb dX12_add_118 (by decide) ?_
                have hl : lv_has _ _ ([(11, .int (nI i)), (0, .ref h0), (1, .int (nI sn)), (2, .int (nI an)), (3, .int (nI bn)), (5, .int (vF 0 (24 * an))), (6, .int ((vF 0 (24 * bn)) * hw)), (7, .int (nI na)), (8, .int (nI nb_)), (9, .int (nI wn)), (10, .int 1)]) := lv_sub hl [0, 1, 2, 3, 4, 5, 6, 7, 8, 9, 10] rfl
                exact join6 _ _ _ _ ⟨0, by unfold la28; rw [if_neg (by omega)]; decide, rfl, hP, hD, hS, hl⟩
              · have t_97 : ¬ ((i : Nat) : Int) ≥ ((na : Nat) : Int) := toI_nge c_97 (nI_toInt (by omega)) (nI_toInt (by omega))
                refine lv_aload_n hx hb dX12_add_100 rfl (lv_at hl 1 rfl) ?_
                refine va_get (D := (dC, dI)) (ci := 12) (v := .ref (a 0)) (C := RX12) (T := TX12) (N := 163) (fs := fM (vS a vi vj)) hx hb hts iwsRX12_add_in12 hown hK hP 0 rfl rfl 1 (by decide) (hts _ hm_r_X12_add_0) (fun _ h9 => h9) rfl dX12_add_101 ?_
                refine lv_bipush (v := 24) hx hb dX12_add_104 (by decide) ?_
                refine lv_iload_n hx hb dX12_add_106 rfl (lv_at hl 3 rfl) ?_
                refine lv_imul hx hb dX12_add_107 ?_
                refine lv_topi (fun y25 hy25 => ?_)
                obtain rfl : (nI (24 * an)) = y25 := (hy25.trans (pk_mul 24 an)).symm
                refine lv_iconst (v := 2) hx hb dX12_add_108 (by decide) ?_
                refine lv_iadd hx hb dX12_add_109 ?_
                refine lv_topi (fun y26 hy26 => ?_)
                obtain rfl : (nI ((24 * an) + 2)) = y26 := (hy26.trans (nI_add (24 * an) 2)).symm
                refine lv_iload hx hb dX12_add_110 (lv_at hl 0 rfl) ?_
                refine lv_iadd hx hb dX12_add_112 ?_
                refine lv_topi (fun y27 hy27 => ?_)
                obtain rfl : (nI (((24 * an) + 2) + i)) = y27 := (hy27.trans (nI_add ((24 * an) + 2) i)).symm
                refine va_iald (cA := k 0) (n := 26400) (f := (vF 0)) hx hb hK hP 1 0 (WR_get 0 (by decide)) (TR_get 0 (by decide)) (vp_in_nI (show (((24 * an) + 2) + i) < 26400 by omega) (by omega)) dX12_add_113 ?_
                refine lv_topi (fun y28 hy28 => ?_)
                obtain rfl : ((vF 0) (((24 * an) + 2) + i)) = y28 := (hy28.trans (by rw [nI_clamp (by omega)])).symm
                refine lv_i2l hx hb dX12_add_114 rfl ?_
                refine lv_goto (tgt := 119) hx hb dX12_add_115 (by decide) ?_
                have hl : lv_has _ _ ([(11, .int (nI i)), (0, .ref h0), (1, .int (nI sn)), (2, .int (nI an)), (3, .int (nI bn)), (5, .int (vF 0 (24 * an))), (6, .int ((vF 0 (24 * bn)) * hw)), (7, .int (nI na)), (8, .int (nI nb_)), (9, .int (nI wn)), (10, .int 1)]) := lv_sub hl [0, 1, 2, 3, 4, 5, 6, 7, 8, 9, 10] rfl
                exact join6 _ _ _ _ ⟨(((vF 0) (((24 * an) + 2) + i))).toInt64, by unfold la28; rw [if_pos (by omega)]; exact i64T _, rfl, hP, hD, hS, hl⟩
            · rintro H locs ls stk ⟨uL, eU, rfl, hP, hD, hS, hl⟩
              refine lv_lstore hx hb dX12_add_119 hl (by decide) rfl (fun ls (hl : lv_has ls _ ([(12, .long uL), (11, .int (nI i)), (0, .ref h0), (1, .int (nI sn)), (2, .int (nI an)), (3, .int (nI bn)), (5, .int (vF 0 (24 * an))), (6, .int ((vF 0 (24 * bn)) * hw)), (7, .int (nI na)), (8, .int (nI nb_)), (9, .int (nI wn)), (10, .int 1)])) => ?_)
              refine lv_iload hx hb dX12_add_121 (lv_at hl 1 rfl) ?_
              refine lv_iload hx hb dX12_add_123 (lv_at hl 9 rfl) ?_
              refine W.cut (pc := 147) (fun H locs ls stk => ∃ (vL : Int64), ((vL).toInt = la28 (vF 0) (24 * bn + 2) nb_ i) ∧  stk = [.long vL] ∧ va_P (dC, dI) vwCl (WR a k h0 vi vj vF (fT vG 1 gs)) H ∧ va_D A (WR a k h0 vi vj vF (fT vG 1 gs)) ∧ va_S A s.heap H locs ∧ lv_has ls 16 [(12, .long uL), (11, .int (nI i)), (0, .ref h0), (1, .int (nI sn)), (2, .int (nI an)), (3, .int (nI bn)), (5, .int (vF 0 (24 * an))), (6, .int ((vF 0 (24 * bn)) * hw)), (7, .int (nI na)), (8, .int (nI nb_)), (9, .int (nI wn)), (10, .int 1)]) (fun join7 => ?_) ?_
              · refine lv_icmp_ge (tgt := 146) hx hb dX12_add_125 (by decide) (fun c_125 => ?_) (fun c_125 => ?_)
                · have t_125 : ((i : Nat) : Int) ≥ ((nb_ : Nat) : Int) := toI_ge c_125 (nI_toInt (by omega)) (nI_toInt (by omega))
                  refine lv_lconst (v := 0) hx hb dX12_add_146 (by decide) ?_
                  have hl : lv_has _ _ ([(12, .long uL), (11, .int (nI i)), (0, .ref h0), (1, .int (nI sn)), (2, .int (nI an)), (3, .int (nI bn)), (5, .int (vF 0 (24 * an))), (6, .int ((vF 0 (24 * bn)) * hw)), (7, .int (nI na)), (8, .int (nI nb_)), (9, .int (nI wn)), (10, .int 1)]) := lv_sub hl [0, 1, 2, 3, 4, 5, 6, 7, 8, 9, 10, 11] rfl
                  exact join7 _ _ _ _ ⟨0, by unfold la28; rw [if_neg (by omega)]; decide, rfl, hP, hD, hS, hl⟩
                · have t_125 : ¬ ((i : Nat) : Int) ≥ ((nb_ : Nat) : Int) := toI_nge c_125 (nI_toInt (by omega)) (nI_toInt (by omega))
                  refine lv_aload_n hx hb dX12_add_128 rfl (lv_at hl 2 rfl) ?_
                  refine va_get (D := (dC, dI)) (ci := 12) (v := .ref (a 0)) (C := RX12) (T := TX12) (N := 163) (fs := fM (vS a vi vj)) hx hb hts iwsRX12_add_in12 hown hK hP 0 rfl rfl 1 (by decide) (hts _ hm_r_X12_add_0) (fun _ h9 => h9) rfl dX12_add_129 ?_
                  refine lv_bipush (v := 24) hx hb dX12_add_132 (by decide) ?_
                  refine lv_iload_n hx hb dX12_add_134 rfl (lv_at hl 5 rfl) ?_
                  refine lv_imul hx hb dX12_add_135 ?_
                  refine lv_topi (fun y29 hy29 => ?_)
                  obtain rfl : (nI (24 * bn)) = y29 := (hy29.trans (pk_mul 24 bn)).symm
                  refine lv_iconst (v := 2) hx hb dX12_add_136 (by decide) ?_
                  refine lv_iadd hx hb dX12_add_137 ?_
                  refine lv_topi (fun y30 hy30 => ?_)
                  obtain rfl : (nI ((24 * bn) + 2)) = y30 := (hy30.trans (nI_add (24 * bn) 2)).symm
                  refine lv_iload hx hb dX12_add_138 (lv_at hl 1 rfl) ?_
                  refine lv_iadd hx hb dX12_add_140 ?_
                  refine lv_topi (fun y31 hy31 => ?_)
                  obtain rfl : (nI (((24 * bn) + 2) + i)) = y31 := (hy31.trans (nI_add ((24 * bn) + 2) i)).symm
                  refine va_iald (cA := k 0) (n := 26400) (f := (vF 0)) hx hb hK hP 1 0 (WR_get 0 (by decide)) (TR_get 0 (by decide)) (vp_in_nI (show (((24 * bn) + 2) + i) < 26400 by omega) (by omega)) dX12_add_141 ?_
                  refine lv_topi (fun y32 hy32 => ?_)
                  obtain rfl : ((vF 0) (((24 * bn) + 2) + i)) = y32 := (hy32.trans (by rw [nI_clamp (by omega)])).symm
                  refine lv_i2l hx hb dX12_add_142 rfl ?_
                  refine lv_goto (tgt := 147) hx hb dX12_add_143 (by decide) ?_
                  have hl : lv_has _ _ ([(12, .long uL), (11, .int (nI i)), (0, .ref h0), (1, .int (nI sn)), (2, .int (nI an)), (3, .int (nI bn)), (5, .int (vF 0 (24 * an))), (6, .int ((vF 0 (24 * bn)) * hw)), (7, .int (nI na)), (8, .int (nI nb_)), (9, .int (nI wn)), (10, .int 1)]) := lv_sub hl [0, 1, 2, 3, 4, 5, 6, 7, 8, 9, 10, 11] rfl
                  exact join7 _ _ _ _ ⟨(((vF 0) (((24 * bn) + 2) + i))).toInt64, by unfold la28; rw [if_pos (by omega)]; exact i64T _, rfl, hP, hD, hS, hl⟩
              · rintro H locs ls stk ⟨vL, eV, rfl, hP, hD, hS, hl⟩
                refine lv_lstore hx hb dX12_add_147 hl (by decide) rfl (fun ls (hl : lv_has ls _ ([(14, .long vL), (12, .long uL), (11, .int (nI i)), (0, .ref h0), (1, .int (nI sn)), (2, .int (nI an)), (3, .int (nI bn)), (5, .int (vF 0 (24 * an))), (6, .int ((vF 0 (24 * bn)) * hw)), (7, .int (nI na)), (8, .int (nI nb_)), (9, .int (nI wn)), (10, .int 1)])) => ?_)
                have bU := la_bd hna3 i
                have bV := la_bd hnb3 i
                refine lv_aload_n hx hb dX12_add_149 rfl (lv_at hl 3 rfl) ?_
                refine va_get (D := (dC, dI)) (ci := 12) (v := .ref (a 1)) (C := RX12) (T := TX12) (N := 163) (fs := fM (vS a vi vj)) hx hb hts iwsRX12_add_in12 hown hK hP 0 rfl rfl 2 (by decide) (hts _ hm_r_X12_add_1) (fun _ h9 => h9) rfl dX12_add_150 ?_
                refine lv_iload hx hb dX12_add_153 (lv_at hl 2 rfl) ?_
                refine lv_iload hx hb dX12_add_155 (lv_at hl 7 rfl) ?_
                refine lv_iload hx hb dX12_add_157 (lv_at hl 8 rfl) ?_
                refine lv_imul hx hb dX12_add_159 ?_
                refine lv_if_lt (tgt := 171) hx hb dX12_add_160 (by decide) (fun c_160 => ?_) (fun c9 => False.elim (by have t9 : ¬ (((vF 0 (24 * an)) * ((vF 0 (24 * bn)) * hw))).toInt < 0 := toI_nlt c9 rfl (by decide); omega))
                have t_160 : (((vF 0 (24 * an)) * ((vF 0 (24 * bn)) * hw))).toInt < 0 := toI_lt c_160 rfl (by decide)
                refine lv_iload hx hb dX12_add_171 (lv_at hl 12 rfl) ?_
                refine lv_if_eq (tgt := 184) hx hb dX12_add_173 (by decide) (fun c9 => absurd c9 (by decide)) (fun _ => ?_)
                refine lv_lload hx hb dX12_add_176 (lv_at hl 0 rfl) ?_
                refine lv_lload hx hb dX12_add_178 (lv_at hl 1 rfl) ?_
                refine lv_lsub hx hb dX12_add_180 ?_
                refine lv_goto (tgt := 189) hx hb dX12_add_181 (by decide) ?_
                have eS : ((vL - uL) : Int64).toInt = (-1) * la28 (vF 0) (24 * an + 2) na i + 1 * la28 (vF 0) (24 * bn + 2) nb_ i := by rw [subJ (by omega) (by omega)]; omega
                refine va_last (cA := k 1) (n := 48) (f := gs) hx hb hK hP hD hS 2 1 (WR_get 1 (by decide)) (TR_get 1 (by decide)) (vp_in_nI (show i < 48 by omega) (by omega)) dX12_add_189 (fun H locs hP hD hS => ?_)
                have e9 : fT vG 1 (vp_updL gs ((nI i)).toNatClampNeg (vL - uL)) = fT (fT vG 1 gs) 1 (vp_updL gs ((nI i)).toNatClampNeg (vL - uL)) := (fT_sm _ _ _ _).symm
                have hP := wr_PG e9 (fz_w (WR_G 1 (by decide) _ rfl) hP)
                have hD := wr_DG e9 (fz_wD (WR_G 1 (by decide) _ rfl) hD)
                clear e9
                refine lv_iinc (v := (nI (i + 1))) hx hb dX12_add_190 hl (k := 2) rfl (nI_add i 1) (by decide) rfl (fun ls (hl : lv_has ls _ ([(11, .int (nI (i + 1))), (14, .long vL), (12, .long uL), (0, .ref h0), (1, .int (nI sn)), (2, .int (nI an)), (3, .int (nI bn)), (5, .int (vF 0 (24 * an))), (6, .int ((vF 0 (24 * bn)) * hw)), (7, .int (nI na)), (8, .int (nI nb_)), (9, .int (nI wn)), (10, .int 1)])) => ?_)
                refine lv_goto (tgt := 86) hx hb dX12_add_193 (by decide) ?_
                have hl : lv_has _ _ ([(11, .int (nI (i + 1))), (0, .ref h0), (1, .int (nI sn)), (2, .int (nI an)), (3, .int (nI bn)), (5, .int (vF 0 (24 * an))), (6, .int ((vF 0 (24 * bn)) * hw)), (7, .int (nI na)), (8, .int (nI nb_)), (9, .int (nI wn)), (10, .int 1)]) := lv_sub hl [0, 3, 4, 5, 6, 7, 8, 9, 10, 11, 12] rfl
                exact ih86_2 (i + 1) (vp_updL gs ((nI i)).toNatClampNeg (vL - uL)) _ _ _ (by omega) (fun q hq => by rw [updL_at (by omega)]; by_cases e9 : q = i; (rw [if_pos e9, e9]; exact eS); (rw [if_neg e9]; exact hE q (by omega))) (by omega) hP hD hS hl
end
section
theorem sv28_congr {f g : Nat → Int64} {w : Nat} (h : ∀ q, q < w → (f q).toInt = (g q).toInt) : sv28 f w = sv28 g w := by
  induction w with
  | zero => rfl
  | succ w ih => simp only [sv28]; rw [ih (fun q hq => h q (by omega)), h w (by omega)]
theorem sv28_upd {gs : Nat → Int64} {p w : Nat} {x : Int64} (hp : p < w) (hp2 : p < 2 ^ 31) : sv28 (vp_updL gs (nI p).toNatClampNeg x) w = sv28 gs w + (x.toInt - (gs p).toInt) * ((2 ^ (28 * p) : Nat) : Int) := by
  induction w with
  | zero => omega
  | succ w ih =>
    simp only [sv28]
    by_cases e : p = w
    · subst e
      rw [sv28_congr (g := gs) (fun q hq => by rw [updL_at hp2, if_neg (by omega)]), updL_at hp2, if_pos rfl, Int.sub_mul]
      omega
    · rw [ih (by omega), updL_at hp2, if_neg (by omega)]
      omega
theorem mulJ {x y : Int32} (hx : 0 ≤ x.toInt ∧ x.toInt < 268435456) (hy : 0 ≤ y.toInt ∧ y.toInt < 268435456) : (x.toInt64 * y.toInt64).toInt = x.toInt * y.toInt ∧ 0 ≤ x.toInt * y.toInt ∧ x.toInt * y.toInt ≤ 268435455 * 268435455 := by
  have h1 : 0 ≤ x.toInt * y.toInt := Int.mul_nonneg hx.1 hy.1
  have h2 : x.toInt * y.toInt ≤ 268435455 * 268435455 := Int.mul_le_mul (by omega) (by omega) hy.1 (by omega)
  refine ⟨?_, h1, h2⟩
  rw [Int64.toInt_mul, i64T, i64T]
  exact Int.bmod_eq_of_le (by omega) (by omega)
theorem sv28_zero {gs : Nat → Int64} {w : Nat} (h : ∀ q, q < w → gs q = 0) : sv28 gs w = 0 := by
  induction w with
  | zero => rfl
  | succ w ih =>
    simp only [sv28]
    rw [ih (fun q hq => h q (by omega)), h w (by omega)]
    have e : (0 : Int64).toInt = 0 := by decide
    rw [e]; simp
/-- a limb more of the product's row -/
theorem tm_step {S S0 v x ab ov A B1 b : Int} {P i j : Nat} (hv : v = x + ab + ov) (hab : ab = A * b)
    (h : S + ov * ((2 ^ (28 * (i + j)) : Nat) : Int) = S0 + A * B1 * ((2 ^ (28 * i) : Nat) : Int)) :
    S + (v % 268435456 - x) * ((2 ^ (28 * (i + j)) : Nat) : Int) + v / 268435456 * ((2 ^ (28 * (i + (j + 1))) : Nat) : Int) = S0 + A * (B1 + b * ((2 ^ (28 * j) : Nat) : Int)) * ((2 ^ (28 * i) : Nat) : Int) := by
  have e1 : ((2 ^ (28 * (i + (j + 1))) : Nat) : Int) = 268435456 * ((2 ^ (28 * (i + j)) : Nat) : Int) := by
    rw [show 28 * (i + (j + 1)) = 28 + 28 * (i + j) by omega, Nat.pow_add, Int.natCast_mul]; rfl
  have e2 : ((2 ^ (28 * (i + j)) : Nat) : Int) = ((2 ^ (28 * i) : Nat) : Int) * ((2 ^ (28 * j) : Nat) : Int) := by
    rw [show 28 * (i + j) = 28 * i + 28 * j by omega, Nat.pow_add, Int.natCast_mul]
  rw [e1]
  have e3 : v = v % 268435456 + 268435456 * (v / 268435456) := by omega
  generalize hX : ((2 ^ (28 * (i + j)) : Nat) : Int) = X at *
  have e4 : (v % 268435456 - x) * X + v / 268435456 * (268435456 * X) = (v - x) * X := by
    have : v / 268435456 * (268435456 * X) = (268435456 * (v / 268435456)) * X := by rw [← Int.mul_assoc, Int.mul_comm (v / 268435456)]
    rw [this, ← Int.add_mul]; congr 1; omega
  rw [Int.add_assoc, e4, hv, show x + ab + ov - x = ab + ov by omega, Int.add_mul, Int.mul_add, Int.add_mul, ← Int.add_assoc, Int.add_right_comm, h, Int.add_assoc]
  congr 1
  congr 1
  rw [hab, e2, Int.mul_assoc, Int.mul_assoc, Int.mul_assoc, Int.mul_comm ((2 ^ (28 * i) : Nat) : Int)]
theorem lv28_int {f : Nat → Int32} {o n : Nat} (h : Lm f o (n + 1)) : ((lv28 f o (n + 1) : Nat) : Int) = ((lv28 f o n : Nat) : Int) + (f (o + n)).toInt * ((2 ^ (28 * n) : Nat) : Int) := by
  have := limb_lt h (q := n) (by omega)
  simp only [lv28]
  rw [Int.natCast_add, Int.natCast_mul, this.2.2]
  congr 2
  omega
theorem Lm.mono {f : Nat → Int32} {o n m : Nat} (h : Lm f o n) (hm : m ≤ n) : Lm f o m := fun q hq => h q (by omega)
theorem few22 {f g : Nat → Int32} {o p n m : Nat} (hf : Lm f o n) (hg : Lm g p m) (tf : 0 < n → f (o + (n - 1)) ≠ 0) (tg : 0 < m → g (p + (m - 1)) ≠ 0) (hn : n ≤ 22) (hm : m ≤ 22) (h : lv28 f o n * lv28 g p m < 2 ^ 588) (h0 : 0 < n) (h1 : 0 < m) : n + m ≤ 22 := by
  obtain ⟨a, rfl⟩ : ∃ a, n = a + 1 := ⟨n - 1, by omega⟩
  obtain ⟨b, rfl⟩ : ∃ b, m = b + 1 := ⟨m - 1, by omega⟩
  have e1 := lv28_ge hf (by simpa using tf)
  have e2 := lv28_ge hg (by simpa using tg)
  have e3 := Nat.mul_le_mul e1 e2
  rw [← Nat.pow_add] at e3
  have e4 : 2 ^ (28 * a + 28 * b) < 2 ^ 588 := Nat.lt_of_le_of_lt e3 h
  have e5 := (Nat.pow_lt_pow_iff_right (a := 2) (by omega)).mp e4
  omega
theorem sgProd {x y : Int32} {X Y : Int} (hx : (X = 0 ∧ x.toInt = 0) ∨ (0 < X ∧ x.toInt = 1) ∨ (X < 0 ∧ x.toInt = -1)) (hy : (Y = 0 ∧ y.toInt = 0) ∨ (0 < Y ∧ y.toInt = 1) ∨ (Y < 0 ∧ y.toInt = -1)) (h : 0 < X.natAbs * Y.natAbs) :
    ((if X * Y < 0 then (-1 : Int) else 1) = 1 ∧ x * y = 1) ∨ ((if X * Y < 0 then (-1 : Int) else 1) = -1 ∧ x * y = -1) := by
  have e : (x * y).toInt = x.toInt * y.toInt := by
    rw [Int32.toInt_mul]
    rcases hx with ⟨_, h⟩ | ⟨_, h⟩ | ⟨_, h⟩ <;> rcases hy with ⟨_, h'⟩ | ⟨_, h'⟩ | ⟨_, h'⟩ <;> rw [h, h'] <;> rfl
  rcases hx with ⟨a, b⟩ | ⟨a, b⟩ | ⟨a, b⟩
  · subst a; simp at h
  · rcases hy with ⟨c, d⟩ | ⟨c, d⟩ | ⟨c, d⟩
    · subst c; simp at h
    · exact Or.inl ⟨if_neg (by have := Int.mul_pos a c; omega), of1 (by rw [e, b, d]; rfl)⟩
    · exact Or.inr ⟨if_pos (Int.mul_neg_of_pos_of_neg a c), ofm1 (by rw [e, b, d]; rfl)⟩
  · rcases hy with ⟨c, d⟩ | ⟨c, d⟩ | ⟨c, d⟩
    · subst c; simp at h
    · exact Or.inr ⟨if_pos (Int.mul_neg_of_neg_of_pos a c), ofm1 (by rw [e, b, d]; rfl)⟩
    · exact Or.inl ⟨if_neg (by have := Int.mul_pos_of_neg_of_neg a c; omega), of1 (by rw [e, b, d]; rfl)⟩
theorem sgn_abs (X Y : Int) : (if X * Y < 0 then (-1 : Int) else 1) * (((X.natAbs * Y.natAbs : Nat)) : Int) = X * Y := by
  rw [← Int.natAbs_mul]
  split <;> omega
end
section
theorem dX12_times_0 : decode cX12_times 0 = .ok (.aload_n 0, 1) := dk_42 (by decide +kernel)
theorem dX12_times_1 : decode cX12_times 1 = .ok (.getfield 7, 3) := dk_180 (by decide +kernel)
theorem dX12_times_4 : decode cX12_times 4 = .ok (.bipush 24, 2) := dk_16 (by decide +kernel)
theorem dX12_times_6 : decode cX12_times 6 = .ok (.iload_n 2, 1) := dk_28 (by decide +kernel)
theorem dX12_times_7 : decode cX12_times 7 = .ok (.imul, 1) := dk_104 (by decide +kernel)
theorem dX12_times_8 : decode cX12_times 8 = .ok (.iconst 1, 1) := dk_4 (by decide +kernel)
theorem dX12_times_9 : decode cX12_times 9 = .ok (.iadd, 1) := dk_96 (by decide +kernel)
theorem dX12_times_10 : decode cX12_times 10 = .ok (.iaload, 1) := dk_46 (by decide +kernel)
theorem dX12_times_11 : decode cX12_times 11 = .ok (.istore 4, 2) := dk_54 (by decide +kernel)
theorem dX12_times_13 : decode cX12_times 13 = .ok (.aload_n 0, 1) := dk_42 (by decide +kernel)
theorem dX12_times_14 : decode cX12_times 14 = .ok (.getfield 7, 3) := dk_180 (by decide +kernel)
theorem dX12_times_17 : decode cX12_times 17 = .ok (.bipush 24, 2) := dk_16 (by decide +kernel)
theorem dX12_times_19 : decode cX12_times 19 = .ok (.iload_n 3, 1) := dk_29 (by decide +kernel)
theorem dX12_times_20 : decode cX12_times 20 = .ok (.imul, 1) := dk_104 (by decide +kernel)
theorem dX12_times_21 : decode cX12_times 21 = .ok (.iconst 1, 1) := dk_4 (by decide +kernel)
theorem dX12_times_22 : decode cX12_times 22 = .ok (.iadd, 1) := dk_96 (by decide +kernel)
theorem dX12_times_23 : decode cX12_times 23 = .ok (.iaload, 1) := dk_46 (by decide +kernel)
theorem dX12_times_24 : decode cX12_times 24 = .ok (.istore 5, 2) := dk_54 (by decide +kernel)
theorem dX12_times_26 : decode cX12_times 26 = .ok (.iconst 0, 1) := dk_3 (by decide +kernel)
theorem dX12_times_27 : decode cX12_times 27 = .ok (.istore 6, 2) := dk_54 (by decide +kernel)
theorem dX12_times_29 : decode cX12_times 29 = .ok (.iload 6, 2) := dk_21 (by decide +kernel)
theorem dX12_times_31 : decode cX12_times 31 = .ok (.iload 4, 2) := dk_21 (by decide +kernel)
theorem dX12_times_33 : decode cX12_times 33 = .ok (.iload 5, 2) := dk_21 (by decide +kernel)
theorem dX12_times_35 : decode cX12_times 35 = .ok (.iadd, 1) := dk_96 (by decide +kernel)
theorem dX12_times_36 : decode cX12_times 36 = .ok (.if_icmp .ge 17, 3) := dk_162 (by decide +kernel)
theorem dX12_times_39 : decode cX12_times 39 = .ok (.aload_n 0, 1) := dk_42 (by decide +kernel)
theorem dX12_times_40 : decode cX12_times 40 = .ok (.getfield 13, 3) := dk_180 (by decide +kernel)
theorem dX12_times_43 : decode cX12_times 43 = .ok (.iload 6, 2) := dk_21 (by decide +kernel)
theorem dX12_times_45 : decode cX12_times 45 = .ok (.lconst 0, 1) := dk_9 (by decide +kernel)
theorem dX12_times_46 : decode cX12_times 46 = .ok (.lastore, 1) := dk_80 (by decide +kernel)
theorem dX12_times_47 : decode cX12_times 47 = .ok (.iinc 6 1, 3) := dk_132 (by decide +kernel)
theorem dX12_times_50 : decode cX12_times 50 = .ok (.goto (-21), 3) := dk_167 (by decide +kernel)
theorem dX12_times_53 : decode cX12_times 53 = .ok (.iconst 0, 1) := dk_3 (by decide +kernel)
theorem dX12_times_54 : decode cX12_times 54 = .ok (.istore 6, 2) := dk_54 (by decide +kernel)
theorem dX12_times_56 : decode cX12_times 56 = .ok (.iload 6, 2) := dk_21 (by decide +kernel)
theorem dX12_times_58 : decode cX12_times 58 = .ok (.iload 4, 2) := dk_21 (by decide +kernel)
theorem dX12_times_60 : decode cX12_times 60 = .ok (.if_icmp .ge 113, 3) := dk_162 (by decide +kernel)
theorem dX12_times_63 : decode cX12_times 63 = .ok (.lconst 0, 1) := dk_9 (by decide +kernel)
theorem dX12_times_64 : decode cX12_times 64 = .ok (.lstore 7, 2) := dk_55 (by decide +kernel)
theorem dX12_times_66 : decode cX12_times 66 = .ok (.iconst 0, 1) := dk_3 (by decide +kernel)
theorem dX12_times_67 : decode cX12_times 67 = .ok (.istore 9, 2) := dk_54 (by decide +kernel)
theorem dX12_times_69 : decode cX12_times 69 = .ok (.iload 9, 2) := dk_21 (by decide +kernel)
theorem dX12_times_71 : decode cX12_times 71 = .ok (.iload 5, 2) := dk_21 (by decide +kernel)
theorem dX12_times_73 : decode cX12_times 73 = .ok (.if_icmp .ge 79, 3) := dk_162 (by decide +kernel)
theorem dX12_times_76 : decode cX12_times 76 = .ok (.aload_n 0, 1) := dk_42 (by decide +kernel)
theorem dX12_times_77 : decode cX12_times 77 = .ok (.getfield 13, 3) := dk_180 (by decide +kernel)
theorem dX12_times_80 : decode cX12_times 80 = .ok (.iload 6, 2) := dk_21 (by decide +kernel)
theorem dX12_times_82 : decode cX12_times 82 = .ok (.iload 9, 2) := dk_21 (by decide +kernel)
theorem dX12_times_84 : decode cX12_times 84 = .ok (.iadd, 1) := dk_96 (by decide +kernel)
theorem dX12_times_85 : decode cX12_times 85 = .ok (.laload, 1) := dk_47 (by decide +kernel)
theorem dX12_times_86 : decode cX12_times 86 = .ok (.aload_n 0, 1) := dk_42 (by decide +kernel)
theorem dX12_times_87 : decode cX12_times 87 = .ok (.getfield 7, 3) := dk_180 (by decide +kernel)
theorem dX12_times_90 : decode cX12_times 90 = .ok (.bipush 24, 2) := dk_16 (by decide +kernel)
theorem dX12_times_92 : decode cX12_times 92 = .ok (.iload_n 2, 1) := dk_28 (by decide +kernel)
theorem dX12_times_93 : decode cX12_times 93 = .ok (.imul, 1) := dk_104 (by decide +kernel)
theorem dX12_times_94 : decode cX12_times 94 = .ok (.iconst 2, 1) := dk_5 (by decide +kernel)
theorem dX12_times_95 : decode cX12_times 95 = .ok (.iadd, 1) := dk_96 (by decide +kernel)
theorem dX12_times_96 : decode cX12_times 96 = .ok (.iload 6, 2) := dk_21 (by decide +kernel)
theorem dX12_times_98 : decode cX12_times 98 = .ok (.iadd, 1) := dk_96 (by decide +kernel)
theorem dX12_times_99 : decode cX12_times 99 = .ok (.iaload, 1) := dk_46 (by decide +kernel)
theorem dX12_times_100 : decode cX12_times 100 = .ok (.i2l, 1) := dk_133 (by decide +kernel)
theorem dX12_times_101 : decode cX12_times 101 = .ok (.aload_n 0, 1) := dk_42 (by decide +kernel)
theorem dX12_times_102 : decode cX12_times 102 = .ok (.getfield 7, 3) := dk_180 (by decide +kernel)
theorem dX12_times_105 : decode cX12_times 105 = .ok (.bipush 24, 2) := dk_16 (by decide +kernel)
theorem dX12_times_107 : decode cX12_times 107 = .ok (.iload_n 3, 1) := dk_29 (by decide +kernel)
theorem dX12_times_108 : decode cX12_times 108 = .ok (.imul, 1) := dk_104 (by decide +kernel)
theorem dX12_times_109 : decode cX12_times 109 = .ok (.iconst 2, 1) := dk_5 (by decide +kernel)
theorem dX12_times_110 : decode cX12_times 110 = .ok (.iadd, 1) := dk_96 (by decide +kernel)
theorem dX12_times_111 : decode cX12_times 111 = .ok (.iload 9, 2) := dk_21 (by decide +kernel)
theorem dX12_times_113 : decode cX12_times 113 = .ok (.iadd, 1) := dk_96 (by decide +kernel)
theorem dX12_times_114 : decode cX12_times 114 = .ok (.iaload, 1) := dk_46 (by decide +kernel)
theorem dX12_times_115 : decode cX12_times 115 = .ok (.i2l, 1) := dk_133 (by decide +kernel)
theorem dX12_times_116 : decode cX12_times 116 = .ok (.lmul, 1) := dk_105 (by decide +kernel)
theorem dX12_times_117 : decode cX12_times 117 = .ok (.ladd, 1) := dk_97 (by decide +kernel)
theorem dX12_times_118 : decode cX12_times 118 = .ok (.lload 7, 2) := dk_22 (by decide +kernel)
theorem dX12_times_120 : decode cX12_times 120 = .ok (.ladd, 1) := dk_97 (by decide +kernel)
theorem dX12_times_121 : decode cX12_times 121 = .ok (.lstore 10, 2) := dk_55 (by decide +kernel)
theorem dX12_times_123 : decode cX12_times 123 = .ok (.aload_n 0, 1) := dk_42 (by decide +kernel)
theorem dX12_times_124 : decode cX12_times 124 = .ok (.getfield 13, 3) := dk_180 (by decide +kernel)
theorem dX12_times_127 : decode cX12_times 127 = .ok (.iload 6, 2) := dk_21 (by decide +kernel)
theorem dX12_times_129 : decode cX12_times 129 = .ok (.iload 9, 2) := dk_21 (by decide +kernel)
theorem dX12_times_131 : decode cX12_times 131 = .ok (.iadd, 1) := dk_96 (by decide +kernel)
theorem dX12_times_132 : decode cX12_times 132 = .ok (.lload 10, 2) := dk_22 (by decide +kernel)
theorem dX12_times_134 : decode cX12_times 134 = .ok (.ldc2_w 351, 3) := dk_20 (by decide +kernel)
theorem dX12_times_137 : decode cX12_times 137 = .ok (.land, 1) := dk_127 (by decide +kernel)
theorem dX12_times_138 : decode cX12_times 138 = .ok (.lastore, 1) := dk_80 (by decide +kernel)
theorem dX12_times_139 : decode cX12_times 139 = .ok (.lload 10, 2) := dk_22 (by decide +kernel)
theorem dX12_times_141 : decode cX12_times 141 = .ok (.bipush 28, 2) := dk_16 (by decide +kernel)
theorem dX12_times_143 : decode cX12_times 143 = .ok (.lshr, 1) := dk_123 (by decide +kernel)
theorem dX12_times_144 : decode cX12_times 144 = .ok (.lstore 7, 2) := dk_55 (by decide +kernel)
theorem dX12_times_146 : decode cX12_times 146 = .ok (.iinc 9 1, 3) := dk_132 (by decide +kernel)
theorem dX12_times_149 : decode cX12_times 149 = .ok (.goto (-80), 3) := dk_167 (by decide +kernel)
theorem dX12_times_152 : decode cX12_times 152 = .ok (.aload_n 0, 1) := dk_42 (by decide +kernel)
theorem dX12_times_153 : decode cX12_times 153 = .ok (.getfield 13, 3) := dk_180 (by decide +kernel)
theorem dX12_times_156 : decode cX12_times 156 = .ok (.iload 6, 2) := dk_21 (by decide +kernel)
theorem dX12_times_158 : decode cX12_times 158 = .ok (.iload 5, 2) := dk_21 (by decide +kernel)
theorem dX12_times_160 : decode cX12_times 160 = .ok (.iadd, 1) := dk_96 (by decide +kernel)
theorem dX12_times_161 : decode cX12_times 161 = .ok (.dup2, 1) := dk_92 (by decide +kernel)
theorem dX12_times_162 : decode cX12_times 162 = .ok (.laload, 1) := dk_47 (by decide +kernel)
theorem dX12_times_163 : decode cX12_times 163 = .ok (.lload 7, 2) := dk_22 (by decide +kernel)
theorem dX12_times_165 : decode cX12_times 165 = .ok (.ladd, 1) := dk_97 (by decide +kernel)
theorem dX12_times_166 : decode cX12_times 166 = .ok (.lastore, 1) := dk_80 (by decide +kernel)
theorem dX12_times_167 : decode cX12_times 167 = .ok (.iinc 6 1, 3) := dk_132 (by decide +kernel)
theorem dX12_times_170 : decode cX12_times 170 = .ok (.goto (-114), 3) := dk_167 (by decide +kernel)
theorem dX12_times_173 : decode cX12_times 173 = .ok (.aload_n 0, 1) := dk_42 (by decide +kernel)
theorem dX12_times_174 : decode cX12_times 174 = .ok (.iload_n 1, 1) := dk_27 (by decide +kernel)
theorem dX12_times_175 : decode cX12_times 175 = .ok (.iload 4, 2) := dk_21 (by decide +kernel)
theorem dX12_times_177 : decode cX12_times 177 = .ok (.iload 5, 2) := dk_21 (by decide +kernel)
theorem dX12_times_179 : decode cX12_times 179 = .ok (.iadd, 1) := dk_96 (by decide +kernel)
theorem dX12_times_180 : decode cX12_times 180 = .ok (.aload_n 0, 1) := dk_42 (by decide +kernel)
theorem dX12_times_181 : decode cX12_times 181 = .ok (.iload_n 2, 1) := dk_28 (by decide +kernel)
theorem dX12_times_182 : decode cX12_times 182 = .ok (.invokevirtual 353, 3) := dk_182 (by decide +kernel)
theorem dX12_times_185 : decode cX12_times 185 = .ok (.aload_n 0, 1) := dk_42 (by decide +kernel)
theorem dX12_times_186 : decode cX12_times 186 = .ok (.iload_n 3, 1) := dk_29 (by decide +kernel)
theorem dX12_times_187 : decode cX12_times 187 = .ok (.invokevirtual 353, 3) := dk_182 (by decide +kernel)
theorem dX12_times_190 : decode cX12_times 190 = .ok (.imul, 1) := dk_104 (by decide +kernel)
theorem dX12_times_191 : decode cX12_times 191 = .ok (.invokevirtual 361, 3) := dk_182 (by decide +kernel)
theorem dX12_times_194 : decode cX12_times 194 = .ok (.return_, 1) := dk_177 (by decide +kernel)
def wsRX12_times : List Cond := .code yX12_times cX12_times 12 none :: ([.fieldLink RX12 7 "OptimaWorksModel" "big" "[I", .fieldLink RX12 13 "OptimaWorksModel" "sum" "[J", .constantLong RX12 351 268435455] ++ wsX120 ++ (wsV RX12 353 RX12 yX12_sign wsRX12_sign) ++ (wsV RX12 361 RX12 yX12_carry wsRX12_carry))
theorem iwsRX12_times_in12 : ∀ w ∈ wsX120, w ∈ wsRX12_times := fun _ h => List.mem_cons_of_mem _ (List.mem_append_left _ (List.mem_append_left _ (List.mem_append_right _ h)))
theorem gwsRX12_times_0 : GoodIn wsRX12_times (wsV RX12 353 RX12 yX12_sign wsRX12_sign) := goodIn_sub (fun _ h => List.mem_cons_of_mem _ (List.mem_append_left _ (List.mem_append_right _ h))) (by decide +kernel)
theorem gwsRX12_times_1 : GoodIn wsRX12_times (wsV RX12 361 RX12 yX12_carry wsRX12_carry) := goodIn_sub (fun _ h => List.mem_cons_of_mem _ (List.mem_append_right _ h)) (by decide +kernel)
theorem hm_r_X12_times_0 : (.fieldLink RX12 7 "OptimaWorksModel" "big" "[I" : Cond) ∈ wsRX12_times := by decide +kernel
theorem hm_r_X12_times_1 : (.fieldLink RX12 13 "OptimaWorksModel" "sum" "[J" : Cond) ∈ wsRX12_times := by decide +kernel
set_option maxHeartbeats 4000000 in
set_option maxRecDepth 100000 in
/-- times(s, a, b) -/
theorem r_X12_times (l : Launch) (dC : Nat → ClassId) (dI : Nat → Nat → Nat) (a : Nat → Nat) (k : Nat → ClassId) (h0 : Nat) (vi : Nat → Int32) (vj : Nat → Int64) (vF : Nat → Nat → Int32) (vG : Nat → Nat → Int64) (sn : Nat) (hs : sn < 1100) (an : Nat) (bn : Nat) (xa : Int) (xb : Int) (hna : an < 1100) (hnb : bn < 1100) (hxa : Nu (vF 0) an xa) (hxb : Nu (vF 0) bn xb) (hbig : xa.natAbs * xb.natAbs < 2 ^ 588) (sz : Nat) : Met l yX12_times wsRX12_times ({ frames := 1, cells := 0, slots := 0, locals := 28 }) (va_Pc [.ref h0, .int (nI sn), .int (nI an), .int (nI bn)] (fun U => U.heap.size = sz ∧ va_P (dC, dI) vwCl (WR a k h0 vi vj vF vG) U.heap ∧ va_K (dC, dI) vwCl (tX12 k) U ∧ va_D (fun _ => True) (WR a k h0 vi vj vF vG))) (va_Qv (fun (u : (Nat → Int32) × (Nat → Int64)) => (Nu (u.1) sn (xa * xb)) ∧ (∀ q, (q < 24 * sn ∨ 24 * sn + 24 ≤ q) → (u.1) q = vF 0 q)) (fun (u : (Nat → Int32) × (Nat → Int64)) t => va_P (dC, dI) vwCl (WR a k h0 vi vj (fT vF 0 (u.1)) (fT vG 1 (u.2))) t.heap ∧ va_D (va_A (WR a k h0 vi vj vF vG) sz) (WR a k h0 vi vj (fT vF 0 (u.1)) (fT vG 1 (u.2)))) (va_A (WR a k h0 vi vj vF vG) sz)) 0 0 (va_A (WR a k h0 vi vj vF vG) sz) := by
  refine Met.ofW (cc := cX12_times) (maxL := 12) (ret := none) (by decide) rfl ?_
  intro p e s m args below meth c s₁ B hml hv
  obtain ⟨rfl, hsz, hP, hK, hD0⟩ := hv
  have hx := B.exec
  have hb := B.bytes
  have hr := B.returns
  have hts := atoms_spec (ws := wsRX12_times) B.pre
  have hown : s.vm.findClass RX12 = some m.cls := findClass_of_methodNamed B.named
  have hlocks := B.notSynchronized
  subst hsz
  have hD := hD0.self (sz := s.heap.size)
  generalize hAe : va_A (WR a k h0 vi vj vF vG) s.heap.size = A at hD ⊢
  have hA : ∀ q : Nat, s.heap.size ≤ q → A q := fun q h => by rw [← hAe]; exact Or.inr h
  have hS : va_S A s.heap s.heap [] := va_S.rf
  have hl := lv_entry ([.ref h0, .int (nI sn), .int (nI an), .int (nI bn)]) (n := 12) (Nat.le_of_ble_eq_true rfl)
  rw [lg_entry_eq]
  generalize (lg_sl ([.ref h0, .int (nI sn), .int (nI an), .int (nI bn)]) ++ List.replicate (12 - (lg_sl ([.ref h0, .int (nI sn), .int (nI an), .int (nI bn)])).length) Slot.unset).toArray = ls at hl ⊢
  have hl : lv_has ls 12 [(0, .ref h0), (1, .int (nI sn)), (2, .int (nI an)), (3, .int (nI bn))] := hl
  obtain ⟨na, hna1, hna2, hna3, hna4, hna5, hna6⟩ := id hxa
  obtain ⟨nb_, hnb1, hnb2, hnb3, hnb4, hnb5, hnb6⟩ := id hxb
  have sa := sgT hna6
  have sb := sgT hnb6
  have hnm : na + nb_ ≤ 22 := by rcases Nat.eq_zero_or_pos na with h9 | h9; (omega); rcases Nat.eq_zero_or_pos nb_ with h8 | h8; (omega); exact few22 hna3 hnb3 (fun h => by rw [show 24 * an + 2 + (na - 1) = 24 * an + 1 + na by omega]; exact hna4 h) (fun h => by rw [show 24 * bn + 2 + (nb_ - 1) = 24 * bn + 1 + nb_ by omega]; exact hnb4 h) hna1 hnb1 (by rw [← hna5, ← hnb5]; exact hbig) h9 h8
  refine lv_aload_n hx hb dX12_times_0 rfl (lv_at hl 0 rfl) ?_
  refine va_get (D := (dC, dI)) (ci := 12) (v := .ref (a 0)) (C := RX12) (T := TX12) (N := 163) (fs := fM (vS a vi vj)) hx hb hts iwsRX12_times_in12 hown hK hP 0 rfl rfl 1 (by decide) (hts _ hm_r_X12_times_0) (fun _ h9 => h9) rfl dX12_times_1 ?_
  refine lv_bipush (v := 24) hx hb dX12_times_4 (by decide) ?_
  refine lv_iload_n hx hb dX12_times_6 rfl (lv_at hl 2 rfl) ?_
  refine lv_imul hx hb dX12_times_7 ?_
  refine lv_topi (fun y1 hy1 => ?_)
  obtain rfl : (nI (24 * an)) = y1 := (hy1.trans (pk_mul 24 an)).symm
  refine lv_iconst (v := 1) hx hb dX12_times_8 (by decide) ?_
  refine lv_iadd hx hb dX12_times_9 ?_
  refine lv_topi (fun y2 hy2 => ?_)
  obtain rfl : (nI ((24 * an) + 1)) = y2 := (hy2.trans (nI_add (24 * an) 1)).symm
  refine va_iald (cA := k 0) (n := 26400) (f := (vF 0)) hx hb hK hP 1 0 (WR_get 0 (by decide)) (TR_get 0 (by decide)) (vp_in_nI (show ((24 * an) + 1) < 26400 by omega) (by omega)) dX12_times_10 ?_
  refine lv_topi (fun y3 hy3 => ?_)
  obtain rfl : ((vF 0) ((24 * an) + 1)) = y3 := (hy3.trans (by rw [nI_clamp (by omega)])).symm
  refine lv_topi (fun y4 hy4 => ?_)
  obtain rfl : (nI na) = y4 := (hy4.trans (hna2)).symm
  refine lv_istore hx hb dX12_times_11 hl (by decide) rfl (fun ls (hl : lv_has ls _ ([(4, .int (nI na)), (0, .ref h0), (1, .int (nI sn)), (2, .int (nI an)), (3, .int (nI bn))])) => ?_)
  refine lv_aload_n hx hb dX12_times_13 rfl (lv_at hl 1 rfl) ?_
  refine va_get (D := (dC, dI)) (ci := 12) (v := .ref (a 0)) (C := RX12) (T := TX12) (N := 163) (fs := fM (vS a vi vj)) hx hb hts iwsRX12_times_in12 hown hK hP 0 rfl rfl 1 (by decide) (hts _ hm_r_X12_times_0) (fun _ h9 => h9) rfl dX12_times_14 ?_
  refine lv_bipush (v := 24) hx hb dX12_times_17 (by decide) ?_
  refine lv_iload_n hx hb dX12_times_19 rfl (lv_at hl 4 rfl) ?_
  refine lv_imul hx hb dX12_times_20 ?_
  refine lv_topi (fun y5 hy5 => ?_)
  obtain rfl : (nI (24 * bn)) = y5 := (hy5.trans (pk_mul 24 bn)).symm
  refine lv_iconst (v := 1) hx hb dX12_times_21 (by decide) ?_
  refine lv_iadd hx hb dX12_times_22 ?_
  refine lv_topi (fun y6 hy6 => ?_)
  obtain rfl : (nI ((24 * bn) + 1)) = y6 := (hy6.trans (nI_add (24 * bn) 1)).symm
  refine va_iald (cA := k 0) (n := 26400) (f := (vF 0)) hx hb hK hP 1 0 (WR_get 0 (by decide)) (TR_get 0 (by decide)) (vp_in_nI (show ((24 * bn) + 1) < 26400 by omega) (by omega)) dX12_times_23 ?_
  refine lv_topi (fun y7 hy7 => ?_)
  obtain rfl : ((vF 0) ((24 * bn) + 1)) = y7 := (hy7.trans (by rw [nI_clamp (by omega)])).symm
  refine lv_topi (fun y8 hy8 => ?_)
  obtain rfl : (nI nb_) = y8 := (hy8.trans (hnb2)).symm
  refine lv_istore hx hb dX12_times_24 hl (by decide) rfl (fun ls (hl : lv_has ls _ ([(5, .int (nI nb_)), (4, .int (nI na)), (0, .ref h0), (1, .int (nI sn)), (2, .int (nI an)), (3, .int (nI bn))])) => ?_)
  refine lv_iconst (v := 0) hx hb dX12_times_26 (by decide) ?_
  refine lv_istore hx hb dX12_times_27 hl (by decide) rfl (fun ls (hl : lv_has ls _ ([(6, .int 0), (5, .int (nI nb_)), (4, .int (nI na)), (0, .ref h0), (1, .int (nI sn)), (2, .int (nI an)), (3, .int (nI bn))])) => ?_)
  have e9 : fT vG 1 (vG 1) = vG := by funext q9; by_cases h9_1 : q9 = 1; (subst h9_1; exact (fT_eq _ _ _).trans (Eq.trans (by first | with_reducible rfl | with_reducible assumption | (symm; with_reducible assumption) | rfl | assumption | (symm; assumption) | (subst_vars; rfl)) (Eq.refl _).symm)); exact (fT_ne _ _ h9_1).trans (Eq.refl _).symm
  have hP := wr_PG e9 hP
  have hD := wr_DG e9 hD
  clear e9
  have hl : lv_has _ _ ([(6, .int (nI 0)), (0, .ref h0), (1, .int (nI sn)), (2, .int (nI an)), (3, .int (nI bn)), (4, .int (nI na)), (5, .int (nI nb_))]) := lv_sub hl [0, 3, 4, 5, 6, 2, 1] rfl
  refine (fun (loop : ∀ (n9 : Nat) (i : Nat) (gs : Nat → Int64) (H : Heap) (locs : List Loc) (ls : Array Slot), (i ≤ na + nb_) → (∀ q, q < i → gs q = 0) →  (na + nb_ < i + n9) → va_P (dC, dI) vwCl (WR a k h0 vi vj vF (fT vG 1 gs)) H → va_D A (WR a k h0 vi vj vF (fT vG 1 gs)) → va_S A s.heap H locs → lv_has ls 12 [(6, .int (nI i)), (0, .ref h0), (1, .int (nI sn)), (2, .int (nI an)), (3, .int (nI bn)), (4, .int (nI na)), (5, .int (nI nb_))] → W p l e _ s m _ below meth c H locs 0 0 _ (F0 m 29 ls [])) => loop (na + nb_ + 1) 0 (vG 1) _ _ _ (by omega) (fun q h => absurd h (by omega)) (by omega) hP hD hS hl) ?_
  intro n9
  induction n9 with
  | zero => intro i gs H locs ls hi hz hf9; exact False.elim (by omega)
  | succ n9 ih29 =>
    intro i gs H locs ls hi hz hf29 hP hD hS hl
    refine lv_iload hx hb dX12_times_29 (lv_at hl 0 rfl) ?_
    refine lv_iload hx hb dX12_times_31 (lv_at hl 5 rfl) ?_
    refine lv_iload hx hb dX12_times_33 (lv_at hl 6 rfl) ?_
    refine lv_iadd hx hb dX12_times_35 ?_
    refine lv_topi (fun y9 hy9 => ?_)
    obtain rfl : (nI (na + nb_)) = y9 := (hy9.trans (nI_add na nb_)).symm
    refine lv_icmp_ge (tgt := 53) hx hb dX12_times_36 (by decide) (fun c_36 => ?_) (fun c_36 => ?_)
    · have t_36 : ((i : Nat) : Int) ≥ (((na + nb_) : Nat) : Int) := toI_ge c_36 (nI_toInt (by omega)) (nI_toInt (by omega))
      refine lv_iconst (v := 0) hx hb dX12_times_53 (by decide) ?_
      refine lv_istore hx hb dX12_times_54 hl (by decide) rfl (fun ls (hl : lv_has ls _ ([(6, .int 0), (0, .ref h0), (1, .int (nI sn)), (2, .int (nI an)), (3, .int (nI bn)), (4, .int (nI na)), (5, .int (nI nb_))])) => ?_)
      have hl : lv_has _ _ ([(6, .int (nI 0)), (0, .ref h0), (1, .int (nI sn)), (2, .int (nI an)), (3, .int (nI bn)), (4, .int (nI na)), (5, .int (nI nb_))]) := lv_sub hl [0, 1, 2, 3, 4, 5, 6] rfl
      refine (fun (loop : ∀ (n9 : Nat) (i : Nat) (gs1 : Nat → Int64) (H : Heap) (locs : List Loc) (ls : Array Slot), (i ≤ na) → (∀ q, q < na + nb_ → 0 ≤ (gs1 q).toInt ∧ (gs1 q).toInt < 268435456) → (∀ q, i + nb_ ≤ q → q < na + nb_ → gs1 q = 0) → (sv28 gs1 (na + nb_) = ((lv28 (vF 0) (24 * an + 2) i : Nat) : Int) * ((lv28 (vF 0) (24 * bn + 2) nb_ : Nat) : Int)) →  (na < i + n9) → va_P (dC, dI) vwCl (WR a k h0 vi vj vF (fT vG 1 gs1)) H → va_D A (WR a k h0 vi vj vF (fT vG 1 gs1)) → va_S A s.heap H locs → lv_has ls 12 [(6, .int (nI i)), (0, .ref h0), (1, .int (nI sn)), (2, .int (nI an)), (3, .int (nI bn)), (4, .int (nI na)), (5, .int (nI nb_))] → W p l e _ s m _ below meth c H locs 0 0 _ (F0 m 56 ls [])) => loop (na + 1) 0 gs _ _ _ (by omega) (fun q hq => by rw [hz q (by omega)]; decide) (fun q _ hq => hz q (by omega)) (by rw [sv28_zero (fun q hq => hz q (by omega))]; simp [lv28]) (by omega) hP hD hS hl) ?_
      intro n9
      induction n9 with
      | zero => intro i gs1 H locs ls hi1 hent hzz hsv hf9; exact False.elim (by omega)
      | succ n9 ih56_1 =>
        intro i gs1 H locs ls hi1 hent hzz hsv hf56_1 hP hD hS hl
        refine lv_iload hx hb dX12_times_56 (lv_at hl 0 rfl) ?_
        refine lv_iload hx hb dX12_times_58 (lv_at hl 5 rfl) ?_
        refine lv_icmp_ge (tgt := 173) hx hb dX12_times_60 (by decide) (fun c_60 => ?_) (fun c_60 => ?_)
        · have t_60 : ((i : Nat) : Int) ≥ ((na : Nat) : Int) := toI_ge c_60 (nI_toInt (by omega)) (nI_toInt (by omega))
          refine lv_aload_n hx hb dX12_times_173 rfl (lv_at hl 1 rfl) ?_
          refine lv_iload_n hx hb dX12_times_174 rfl (lv_at hl 2 rfl) ?_
          refine lv_iload hx hb dX12_times_175 (lv_at hl 5 rfl) ?_
          refine lv_iload hx hb dX12_times_177 (lv_at hl 6 rfl) ?_
          refine lv_iadd hx hb dX12_times_179 ?_
          refine lv_topi (fun y10 hy10 => ?_)
          obtain rfl : (nI (na + nb_)) = y10 := (hy10.trans (nI_add na nb_)).symm
          refine lv_aload_n hx hb dX12_times_180 rfl (lv_at hl 1 rfl) ?_
          refine lv_iload_n hx hb dX12_times_181 rfl (lv_at hl 3 rfl) ?_
          have hFc := allFree hD hS hA
          refine va_calli (va_runV (As := [.int (nI an)]) (rest := [.int (nI (na + nb_)), .int (nI sn), .ref h0]) ⟨hx, hb, hml, hown, hts⟩ (r_X12_sign l dC dI a k h0 vi vj vF (fT vG 1 gs1) an (by first | with_reducible assumption | decide | omega | rfl | assumption) H.size) (cwV 1 hts gwsRX12_times_0 rfl rfl rfl hd_yX12_sign_RX12 (by decide +kernel)) (fz_pre (va_recv hK hP (ci := 12) (q0 := 0) rfl rfl) hP hK hD) rfl rfl hl.1 rfl (lv_room (Nat.le_of_ble_eq_true rfl)) dX12_times_182 (by decide +kernel)) hS (fun q _ h => hFc q h) hFc (fun r182 u t9_ H locs ht hvm hw9 hB9 hz1 hk1 hS => ?_)
          have hP : va_P (dC, dI) vwCl (WR a k h0 vi vj vF (fT vG 1 gs1)) H := fz_P ht hB9.1
          have hD := fz_sd hP (hB9.2.weaken (fun _ q _ h => hFc q.1 h)) rfl
          obtain rfl := hw9
          refine lv_aload_n hx hb dX12_times_185 rfl (lv_at hl 1 rfl) ?_
          refine lv_iload_n hx hb dX12_times_186 rfl (lv_at hl 4 rfl) ?_
          have hFc := allFree hD hS hA
          refine va_calli (va_runV (As := [.int (nI bn)]) (rest := [.int (vF 0 (24 * an)), .int (nI (na + nb_)), .int (nI sn), .ref h0]) ⟨hx, hb, hml, hown, hts⟩ (r_X12_sign l dC dI a k h0 vi vj vF (fT vG 1 gs1) bn (by first | with_reducible assumption | decide | omega | rfl | assumption) H.size) (cwV 1 hts gwsRX12_times_0 rfl rfl rfl hd_yX12_sign_RX12 (by decide +kernel)) (fz_pre (va_recv hK hP (ci := 12) (q0 := 0) rfl rfl) hP hK hD) rfl rfl hl.1 rfl (lv_room (Nat.le_of_ble_eq_true rfl)) dX12_times_187 (by decide +kernel)) hS (fun q _ h => hFc q h) hFc (fun r187 u t9_ H locs ht hvm hw9 hB9 hz1 hk1 hS => ?_)
          have hP : va_P (dC, dI) vwCl (WR a k h0 vi vj vF (fT vG 1 gs1)) H := fz_P ht hB9.1
          have hD := fz_sd hP (hB9.2.weaken (fun _ q _ h => hFc q.1 h)) rfl
          obtain rfl := hw9
          refine lv_imul hx hb dX12_times_190 ?_
          have hFc := allFree hD hS hA
          refine va_callv (va_runV (As := [.int (nI sn), .int (nI (na + nb_)), .int ((vF 0 (24 * an)) * (vF 0 (24 * bn)))]) (rest := []) ⟨hx, hb, hml, hown, hts⟩ (r_X12_carry l dC dI a k h0 vi vj vF (fT vG 1 gs1) sn (na + nb_) ((vF 0 (24 * an)) * (vF 0 (24 * bn))) (xa.natAbs * xb.natAbs) (if xa * xb < 0 then -1 else 1) (by first | with_reducible assumption | decide | omega | rfl | assumption) (by omega) (fun q hq => by have := hent q hq; show -1152921504606846976 ≤ (gs1 q).toInt ∧ (gs1 q).toInt ≤ 1152921504606846976; omega) (by show sv28 gs1 (na + nb_) = _; rw [hsv, hna5, hnb5]; (have ei : i = na := by omega); rw [ei, Int.natCast_mul]) (Nat.lt_trans hbig (by decide)) (fun h9 => sgProd sa sb h9) H.size) (cwV 3 hts gwsRX12_times_1 rfl rfl rfl hd_yX12_carry_RX12 (by decide +kernel)) (fz_pre (va_recv hK hP (ci := 12) (q0 := 0) rfl rfl) hP hK hD) rfl rfl hl.1 rfl (lv_room (Nat.le_of_ble_eq_true rfl)) dX12_times_191 (by decide +kernel)) hS (fun q _ h => hFc q h) hFc (fun g191 t9_ H locs ht hvm hw9 hB9 hz1 hk1 hS => ?_)
          have hP : va_P (dC, dI) vwCl (WR a k h0 vi vj (fT vF 0 g191) (fT vG 1 gs1)) H := fz_P ht hB9.1
          have hD := fz_sd hP (hB9.2.weaken (fun _ q _ h => hFc q.1 h)) rfl
          revert hw9
          refine fz_a2 ?_
          intro f191_0 f191_1
          refine W.widen (k := 0) (n := 0) (by decide +kernel) (by decide +kernel) ?_
          exact W.vret hx hb hr (fun t9_ ht hW => ⟨⟨(g191, gs1), rfl, by (try dsimp only); (have e9 := sgn_abs xa xb); rw [e9] at f191_0; exact ⟨f191_0, f191_1⟩, by rw [ht]; exact hP, hD⟩, hS.F ht⟩) hS.2.2 dX12_times_194
        · have t_60 : ¬ ((i : Nat) : Int) ≥ ((na : Nat) : Int) := toI_nge c_60 (nI_toInt (by omega)) (nI_toInt (by omega))
          refine lv_lconst (v := 0) hx hb dX12_times_63 (by decide) ?_
          refine lv_lstore hx hb dX12_times_64 hl (by decide) rfl (fun ls (hl : lv_has ls _ ([(7, .long 0), (6, .int (nI i)), (0, .ref h0), (1, .int (nI sn)), (2, .int (nI an)), (3, .int (nI bn)), (4, .int (nI na)), (5, .int (nI nb_))])) => ?_)
          refine lv_iconst (v := 0) hx hb dX12_times_66 (by decide) ?_
          refine lv_istore hx hb dX12_times_67 hl (by decide) rfl (fun ls (hl : lv_has ls _ ([(9, .int 0), (7, .long 0), (6, .int (nI i)), (0, .ref h0), (1, .int (nI sn)), (2, .int (nI an)), (3, .int (nI bn)), (4, .int (nI na)), (5, .int (nI nb_))])) => ?_)
          have hl : lv_has _ _ ([(6, .int (nI i)), (0, .ref h0), (1, .int (nI sn)), (2, .int (nI an)), (3, .int (nI bn)), (4, .int (nI na)), (5, .int (nI nb_)), (9, .int (nI 0)), (7, .long 0)]) := lv_sub hl [2, 3, 4, 5, 6, 7, 8, 0, 1] rfl
          refine (fun (loop : ∀ (n9 : Nat) (j : Nat) (ov : Int64) (gs2 : Nat → Int64) (H : Heap) (locs : List Loc) (ls : Array Slot), (j ≤ nb_) → (0 ≤ ov.toInt ∧ ov.toInt < 268435456) → (∀ q, q < na + nb_ → 0 ≤ (gs2 q).toInt ∧ (gs2 q).toInt < 268435456) → (∀ q, i + nb_ ≤ q → q < na + nb_ → gs2 q = 0) → (sv28 gs2 (na + nb_) + ov.toInt * ((2 ^ (28 * (i + j)) : Nat) : Int) = sv28 gs1 (na + nb_) + (vF 0 (24 * an + 2 + i)).toInt * ((lv28 (vF 0) (24 * bn + 2) j : Nat) : Int) * ((2 ^ (28 * i) : Nat) : Int)) →  (nb_ < j + n9) → va_P (dC, dI) vwCl (WR a k h0 vi vj vF (fT vG 1 gs2)) H → va_D A (WR a k h0 vi vj vF (fT vG 1 gs2)) → va_S A s.heap H locs → lv_has ls 12 [(6, .int (nI i)), (0, .ref h0), (1, .int (nI sn)), (2, .int (nI an)), (3, .int (nI bn)), (4, .int (nI na)), (5, .int (nI nb_)), (9, .int (nI j)), (7, .long ov)] → W p l e _ s m _ below meth c H locs 0 0 _ (F0 m 69 ls [])) => loop (nb_ + 1) 0 0 gs1 _ _ _ (by omega) (by decide) (hent) (fun q h1 hq => hzz q (by omega) hq) (by (have e0 : (0 : Int64).toInt = 0 := by decide); rw [e0]; simp [lv28]) (by omega) hP hD hS hl) ?_
          intro n9
          induction n9 with
          | zero => intro j ov gs2 H locs ls hj hov hent2 hzz2 hsv2 hf9; exact False.elim (by omega)
          | succ n9 ih69_2 =>
            intro j ov gs2 H locs ls hj hov hent2 hzz2 hsv2 hf69_2 hP hD hS hl
            refine lv_iload hx hb dX12_times_69 (lv_at hl 7 rfl) ?_
            refine lv_iload hx hb dX12_times_71 (lv_at hl 6 rfl) ?_
            refine lv_icmp_ge (tgt := 152) hx hb dX12_times_73 (by decide) (fun c_73 => ?_) (fun c_73 => ?_)
            · have t_73 : ((j : Nat) : Int) ≥ ((nb_ : Nat) : Int) := toI_ge c_73 (nI_toInt (by omega)) (nI_toInt (by omega))
              refine lv_aload_n hx hb dX12_times_152 rfl (lv_at hl 1 rfl) ?_
              refine va_get (D := (dC, dI)) (ci := 12) (v := .ref (a 1)) (C := RX12) (T := TX12) (N := 163) (fs := fM (vS a vi vj)) hx hb hts iwsRX12_times_in12 hown hK hP 0 rfl rfl 2 (by decide) (hts _ hm_r_X12_times_1) (fun _ h9 => h9) rfl dX12_times_153 ?_
              refine lv_iload hx hb dX12_times_156 (lv_at hl 0 rfl) ?_
              refine lv_iload hx hb dX12_times_158 (lv_at hl 6 rfl) ?_
              refine lv_iadd hx hb dX12_times_160 ?_
              refine lv_topi (fun y11 hy11 => ?_)
              obtain rfl : (nI (i + nb_)) = y11 := (hy11.trans (nI_add i nb_)).symm
              refine lv_dup2_11 hx hb dX12_times_161 rfl rfl ?_
              refine va_lald (cA := k 1) (n := 48) (f := gs2) hx hb hK hP 2 1 (WR_get 1 (by decide)) (TR_get 1 (by decide)) (vp_in_nI (show (i + nb_) < 48 by omega) (by omega)) dX12_times_162 ?_
              refine lv_topl (fun y12 hy12 => ?_)
              obtain rfl : (gs2 (i + nb_)) = y12 := (hy12.trans (by rw [nI_clamp (by omega)])).symm
              refine lv_lload hx hb dX12_times_163 (lv_at hl 8 rfl) ?_
              have ez : (gs2 (i + nb_)).toInt = 0 := by rw [hzz2 (i + nb_) (by omega) (by omega)]; decide
              have el : (gs2 (i + nb_) + ov).toInt = ov.toInt := by rw [addJ (by omega) (by omega), ez]; omega
              refine lv_ladd hx hb dX12_times_165 ?_
              refine va_last (cA := k 1) (n := 48) (f := gs2) hx hb hK hP hD hS 2 1 (WR_get 1 (by decide)) (TR_get 1 (by decide)) (vp_in_nI (show (i + nb_) < 48 by omega) (by omega)) dX12_times_166 (fun H locs hP hD hS => ?_)
              have e9 : fT vG 1 (vp_updL gs2 ((nI (i + nb_))).toNatClampNeg ((gs2 (i + nb_)) + ov)) = fT (fT vG 1 gs2) 1 (vp_updL gs2 ((nI (i + nb_))).toNatClampNeg ((gs2 (i + nb_)) + ov)) := (fT_sm _ _ _ _).symm
              have hP := wr_PG e9 (fz_w (WR_G 1 (by decide) _ rfl) hP)
              have hD := wr_DG e9 (fz_wD (WR_G 1 (by decide) _ rfl) hD)
              clear e9
              refine lv_iinc (v := (nI (i + 1))) hx hb dX12_times_167 hl (k := 0) rfl (nI_add i 1) (by decide) rfl (fun ls (hl : lv_has ls _ ([(6, .int (nI (i + 1))), (0, .ref h0), (1, .int (nI sn)), (2, .int (nI an)), (3, .int (nI bn)), (4, .int (nI na)), (5, .int (nI nb_)), (9, .int (nI j)), (7, .long ov)])) => ?_)
              refine lv_goto (tgt := 56) hx hb dX12_times_170 (by decide) ?_
              have hl : lv_has _ _ ([(6, .int (nI (i + 1))), (0, .ref h0), (1, .int (nI sn)), (2, .int (nI an)), (3, .int (nI bn)), (4, .int (nI na)), (5, .int (nI nb_))]) := lv_sub hl [0, 1, 2, 3, 4, 5, 6] rfl
              exact ih56_1 (i + 1) (vp_updL gs2 ((nI (i + nb_))).toNatClampNeg ((gs2 (i + nb_)) + ov)) _ _ _ (by omega) (fun q hq => by rw [updL_at (by omega)]; by_cases e9 : q = i + nb_; (rw [if_pos e9, el]; omega); (rw [if_neg e9]; exact hent2 q hq)) (fun q h1 hq => by rw [updL_at (by omega), if_neg (by omega)]; exact hzz2 q (by omega) hq) (by rw [sv28_upd (by omega) (by omega), el, ez, Int.sub_zero, lv28_int (hna3.mono (by omega)), Int.add_mul, ← hsv, Int.mul_right_comm]; (have ej : j = nb_ := by omega); subst ej; rw [← hsv2]) (by omega) hP hD hS hl
            · have t_73 : ¬ ((j : Nat) : Int) ≥ ((nb_ : Nat) : Int) := toI_nge c_73 (nI_toInt (by omega)) (nI_toInt (by omega))
              refine lv_aload_n hx hb dX12_times_76 rfl (lv_at hl 1 rfl) ?_
              refine va_get (D := (dC, dI)) (ci := 12) (v := .ref (a 1)) (C := RX12) (T := TX12) (N := 163) (fs := fM (vS a vi vj)) hx hb hts iwsRX12_times_in12 hown hK hP 0 rfl rfl 2 (by decide) (hts _ hm_r_X12_times_1) (fun _ h9 => h9) rfl dX12_times_77 ?_
              refine lv_iload hx hb dX12_times_80 (lv_at hl 0 rfl) ?_
              refine lv_iload hx hb dX12_times_82 (lv_at hl 7 rfl) ?_
              refine lv_iadd hx hb dX12_times_84 ?_
              refine lv_topi (fun y13 hy13 => ?_)
              obtain rfl : (nI (i + j)) = y13 := (hy13.trans (nI_add i j)).symm
              refine va_lald (cA := k 1) (n := 48) (f := gs2) hx hb hK hP 2 1 (WR_get 1 (by decide)) (TR_get 1 (by decide)) (vp_in_nI (show (i + j) < 48 by omega) (by omega)) dX12_times_85 ?_
              refine lv_topl (fun y14 hy14 => ?_)
              obtain rfl : (gs2 (i + j)) = y14 := (hy14.trans (by rw [nI_clamp (by omega)])).symm
              refine lv_aload_n hx hb dX12_times_86 rfl (lv_at hl 1 rfl) ?_
              refine va_get (D := (dC, dI)) (ci := 12) (v := .ref (a 0)) (C := RX12) (T := TX12) (N := 163) (fs := fM (vS a vi vj)) hx hb hts iwsRX12_times_in12 hown hK hP 0 rfl rfl 1 (by decide) (hts _ hm_r_X12_times_0) (fun _ h9 => h9) rfl dX12_times_87 ?_
              refine lv_bipush (v := 24) hx hb dX12_times_90 (by decide) ?_
              refine lv_iload_n hx hb dX12_times_92 rfl (lv_at hl 3 rfl) ?_
              refine lv_imul hx hb dX12_times_93 ?_
              refine lv_topi (fun y15 hy15 => ?_)
              obtain rfl : (nI (24 * an)) = y15 := (hy15.trans (pk_mul 24 an)).symm
              refine lv_iconst (v := 2) hx hb dX12_times_94 (by decide) ?_
              refine lv_iadd hx hb dX12_times_95 ?_
              refine lv_topi (fun y16 hy16 => ?_)
              obtain rfl : (nI ((24 * an) + 2)) = y16 := (hy16.trans (nI_add (24 * an) 2)).symm
              refine lv_iload hx hb dX12_times_96 (lv_at hl 0 rfl) ?_
              refine lv_iadd hx hb dX12_times_98 ?_
              refine lv_topi (fun y17 hy17 => ?_)
              obtain rfl : (nI (((24 * an) + 2) + i)) = y17 := (hy17.trans (nI_add ((24 * an) + 2) i)).symm
              refine va_iald (cA := k 0) (n := 26400) (f := (vF 0)) hx hb hK hP 1 0 (WR_get 0 (by decide)) (TR_get 0 (by decide)) (vp_in_nI (show (((24 * an) + 2) + i) < 26400 by omega) (by omega)) dX12_times_99 ?_
              refine lv_topi (fun y18 hy18 => ?_)
              obtain rfl : ((vF 0) (((24 * an) + 2) + i)) = y18 := (hy18.trans (by rw [nI_clamp (by omega)])).symm
              refine lv_i2l hx hb dX12_times_100 rfl ?_
              refine lv_aload_n hx hb dX12_times_101 rfl (lv_at hl 1 rfl) ?_
              refine va_get (D := (dC, dI)) (ci := 12) (v := .ref (a 0)) (C := RX12) (T := TX12) (N := 163) (fs := fM (vS a vi vj)) hx hb hts iwsRX12_times_in12 hown hK hP 0 rfl rfl 1 (by decide) (hts _ hm_r_X12_times_0) (fun _ h9 => h9) rfl dX12_times_102 ?_
              refine lv_bipush (v := 24) hx hb dX12_times_105 (by decide) ?_
              refine lv_iload_n hx hb dX12_times_107 rfl (lv_at hl 4 rfl) ?_
              refine lv_imul hx hb dX12_times_108 ?_
              refine lv_topi (fun y19 hy19 => ?_)
              obtain rfl : (nI (24 * bn)) = y19 := (hy19.trans (pk_mul 24 bn)).symm
              refine lv_iconst (v := 2) hx hb dX12_times_109 (by decide) ?_
              refine lv_iadd hx hb dX12_times_110 ?_
              refine lv_topi (fun y20 hy20 => ?_)
              obtain rfl : (nI ((24 * bn) + 2)) = y20 := (hy20.trans (nI_add (24 * bn) 2)).symm
              refine lv_iload hx hb dX12_times_111 (lv_at hl 7 rfl) ?_
              refine lv_iadd hx hb dX12_times_113 ?_
              refine lv_topi (fun y21 hy21 => ?_)
              obtain rfl : (nI (((24 * bn) + 2) + j)) = y21 := (hy21.trans (nI_add ((24 * bn) + 2) j)).symm
              refine va_iald (cA := k 0) (n := 26400) (f := (vF 0)) hx hb hK hP 1 0 (WR_get 0 (by decide)) (TR_get 0 (by decide)) (vp_in_nI (show (((24 * bn) + 2) + j) < 26400 by omega) (by omega)) dX12_times_114 ?_
              refine lv_topi (fun y22 hy22 => ?_)
              obtain rfl : ((vF 0) (((24 * bn) + 2) + j)) = y22 := (hy22.trans (by rw [nI_clamp (by omega)])).symm
              refine lv_i2l hx hb dX12_times_115 rfl ?_
              refine lv_lmul hx hb dX12_times_116 ?_
              refine lv_ladd hx hb dX12_times_117 ?_
              refine lv_lload hx hb dX12_times_118 (lv_at hl 8 rfl) ?_
              refine lv_ladd hx hb dX12_times_120 ?_
              have la := limb_lt hna3 (q := i) (by omega)
              have lb := limb_lt hnb3 (q := j) (by omega)
              obtain ⟨em, em1, em2⟩ := mulJ (x := (vF 0 (24 * an + 2 + i))) (y := (vF 0 (24 * bn + 2 + j))) ⟨by omega, by omega⟩ ⟨by omega, by omega⟩
              have hx9 := hent2 (i + j) (by omega)
              obtain ⟨vv, hvv⟩ : ∃ vv, vv = (((gs2 (i + j)) + ((((vF 0) (((24 * an) + 2) + i))).toInt64 * (((vF 0) (((24 * bn) + 2) + j))).toInt64)) + ov) := ⟨_, rfl⟩
              have evv : vv.toInt = (gs2 (i + j)).toInt + (vF 0 (24 * an + 2 + i)).toInt * (vF 0 (24 * bn + 2 + j)).toInt + ov.toInt := by rw [hvv, addJ (by rw [addJ (by omega) (by omega)]; omega) (by omega), addJ (by omega) (by omega), em]
              obtain ⟨md, hmd1, hmd2, hmd3⟩ := maskS vv
              have esh := shrS vv
              have emd : (lN md).toInt = (md : Int) := pk_lT (by omega)
              refine lv_topl (fun y23 hy23 => ?_)
              obtain rfl : vv = y23 := (hy23.trans (hvv.symm)).symm
              refine lv_lstore hx hb dX12_times_121 hl (by decide) rfl (fun ls (hl : lv_has ls _ ([(10, .long vv), (6, .int (nI i)), (0, .ref h0), (1, .int (nI sn)), (2, .int (nI an)), (3, .int (nI bn)), (4, .int (nI na)), (5, .int (nI nb_)), (9, .int (nI j)), (7, .long ov)])) => ?_)
              refine lv_aload_n hx hb dX12_times_123 rfl (lv_at hl 2 rfl) ?_
              refine va_get (D := (dC, dI)) (ci := 12) (v := .ref (a 1)) (C := RX12) (T := TX12) (N := 163) (fs := fM (vS a vi vj)) hx hb hts iwsRX12_times_in12 hown hK hP 0 rfl rfl 2 (by decide) (hts _ hm_r_X12_times_1) (fun _ h9 => h9) rfl dX12_times_124 ?_
              refine lv_iload hx hb dX12_times_127 (lv_at hl 1 rfl) ?_
              refine lv_iload hx hb dX12_times_129 (lv_at hl 8 rfl) ?_
              refine lv_iadd hx hb dX12_times_131 ?_
              refine lv_topi (fun y24 hy24 => ?_)
              obtain rfl : (nI (i + j)) = y24 := (hy24.trans (nI_add i j)).symm
              refine lv_lload hx hb dX12_times_132 (lv_at hl 0 rfl) ?_
              refine lv_ldc2 (v := 268435455) hx hb hown (hts (.constantLong RX12 351 268435455) (by decide +kernel)) dX12_times_134 ?_
              refine lv_land hx hb dX12_times_137 ?_
              refine lv_topl (fun y25 hy25 => ?_)
              obtain rfl : (lN md) = y25 := (hy25.trans (hmd3)).symm
              refine va_last (cA := k 1) (n := 48) (f := gs2) hx hb hK hP hD hS 2 1 (WR_get 1 (by decide)) (TR_get 1 (by decide)) (vp_in_nI (show (i + j) < 48 by omega) (by omega)) dX12_times_138 (fun H locs hP hD hS => ?_)
              have e9 : fT vG 1 (vp_updL gs2 ((nI (i + j))).toNatClampNeg (lN md)) = fT (fT vG 1 gs2) 1 (vp_updL gs2 ((nI (i + j))).toNatClampNeg (lN md)) := (fT_sm _ _ _ _).symm
              have hP := wr_PG e9 (fz_w (WR_G 1 (by decide) _ rfl) hP)
              have hD := wr_DG e9 (fz_wD (WR_G 1 (by decide) _ rfl) hD)
              clear e9
              refine lv_lload hx hb dX12_times_139 (lv_at hl 0 rfl) ?_
              refine lv_bipush (v := 28) hx hb dX12_times_141 (by decide) ?_
              refine lv_lshr hx hb dX12_times_143 rfl ?_
              refine lv_lstore hx hb dX12_times_144 hl (by decide) rfl (fun ls (hl : lv_has ls _ ([(7, .long (vv >>> ((28 : Int32).toInt64 &&& 63))), (10, .long vv), (6, .int (nI i)), (0, .ref h0), (1, .int (nI sn)), (2, .int (nI an)), (3, .int (nI bn)), (4, .int (nI na)), (5, .int (nI nb_)), (9, .int (nI j))])) => ?_)
              refine lv_iinc (v := (nI (j + 1))) hx hb dX12_times_146 hl (k := 9) rfl (nI_add j 1) (by decide) rfl (fun ls (hl : lv_has ls _ ([(9, .int (nI (j + 1))), (7, .long (vv >>> ((28 : Int32).toInt64 &&& 63))), (10, .long vv), (6, .int (nI i)), (0, .ref h0), (1, .int (nI sn)), (2, .int (nI an)), (3, .int (nI bn)), (4, .int (nI na)), (5, .int (nI nb_))])) => ?_)
              refine lv_goto (tgt := 69) hx hb dX12_times_149 (by decide) ?_
              have hl : lv_has _ _ ([(6, .int (nI i)), (0, .ref h0), (1, .int (nI sn)), (2, .int (nI an)), (3, .int (nI bn)), (4, .int (nI na)), (5, .int (nI nb_)), (9, .int (nI (j + 1))), (7, .long (vv >>> ((28 : Int32).toInt64 &&& 63)))]) := lv_sub hl [3, 4, 5, 6, 7, 8, 9, 0, 1] rfl
              exact ih69_2 (j + 1) (vv >>> ((28 : Int32).toInt64 &&& 63)) (vp_updL gs2 ((nI (i + j))).toNatClampNeg (lN md)) _ _ _ (by omega) (by rw [esh, evv]; omega) (fun q hq => by rw [updL_at (by omega)]; by_cases e9 : q = i + j; (rw [if_pos e9, emd]; omega); (rw [if_neg e9]; exact hent2 q hq)) (fun q h1 hq => by rw [updL_at (by omega), if_neg (by omega)]; exact hzz2 q (by omega) hq) (by rw [sv28_upd (by omega) (by omega), esh, lv28_int (hnb3.mono (by omega)), emd, hmd2]; exact tm_step (P := 0) evv rfl hsv2) (by omega) hP hD hS hl
    · have t_36 : ¬ ((i : Nat) : Int) ≥ (((na + nb_) : Nat) : Int) := toI_nge c_36 (nI_toInt (by omega)) (nI_toInt (by omega))
      refine lv_aload_n hx hb dX12_times_39 rfl (lv_at hl 1 rfl) ?_
      refine va_get (D := (dC, dI)) (ci := 12) (v := .ref (a 1)) (C := RX12) (T := TX12) (N := 163) (fs := fM (vS a vi vj)) hx hb hts iwsRX12_times_in12 hown hK hP 0 rfl rfl 2 (by decide) (hts _ hm_r_X12_times_1) (fun _ h9 => h9) rfl dX12_times_40 ?_
      refine lv_iload hx hb dX12_times_43 (lv_at hl 0 rfl) ?_
      refine lv_lconst (v := 0) hx hb dX12_times_45 (by decide) ?_
      refine va_last (cA := k 1) (n := 48) (f := gs) hx hb hK hP hD hS 2 1 (WR_get 1 (by decide)) (TR_get 1 (by decide)) (vp_in_nI (show i < 48 by omega) (by omega)) dX12_times_46 (fun H locs hP hD hS => ?_)
      have e9 : fT vG 1 (vp_updL gs ((nI i)).toNatClampNeg 0) = fT (fT vG 1 gs) 1 (vp_updL gs ((nI i)).toNatClampNeg 0) := (fT_sm _ _ _ _).symm
      have hP := wr_PG e9 (fz_w (WR_G 1 (by decide) _ rfl) hP)
      have hD := wr_DG e9 (fz_wD (WR_G 1 (by decide) _ rfl) hD)
      clear e9
      refine lv_iinc (v := (nI (i + 1))) hx hb dX12_times_47 hl (k := 0) rfl (nI_add i 1) (by decide) rfl (fun ls (hl : lv_has ls _ ([(6, .int (nI (i + 1))), (0, .ref h0), (1, .int (nI sn)), (2, .int (nI an)), (3, .int (nI bn)), (4, .int (nI na)), (5, .int (nI nb_))])) => ?_)
      refine lv_goto (tgt := 29) hx hb dX12_times_50 (by decide) ?_
      have hl : lv_has _ _ ([(6, .int (nI (i + 1))), (0, .ref h0), (1, .int (nI sn)), (2, .int (nI an)), (3, .int (nI bn)), (4, .int (nI na)), (5, .int (nI nb_))]) := lv_sub hl [0, 1, 2, 3, 4, 5, 6] rfl
      exact ih29 (i + 1) (vp_updL gs ((nI i)).toNatClampNeg 0) _ _ _ (by omega) (fun q hq => by rw [updL_at (by omega)]; by_cases e9 : q = i; (rw [if_pos e9]); (rw [if_neg e9]; exact hz q (by omega))) (by omega) hP hD hS hl
end
section
theorem limb0 {f : Nat → Int32} {n : Nat} (h : Lm f 0 n) {q : Nat} (hq : q < n) : 0 ≤ (f q).toInt ∧ (f q).toInt < 268435456 ∧ (f q).toNatClampNeg = (f q).toInt.toNat := by
  have := limb_lt h hq
  rwa [Nat.zero_add] at this
theorem limb0N {f : Nat → Int32} {n : Nat} (h : Lm f 0 n) {q : Nat} (hq : q < n) : ∃ d, d < 268435456 ∧ f q = nI d := by
  have := h q hq
  rwa [Nat.zero_add] at this
theorem orL {a b k : Nat} (hb : b < 2 ^ k) (h : a * 2 ^ k + b < 2 ^ 63) : lN (a * 2 ^ k) ||| lN b = lN (a * 2 ^ k + b) := by
  apply Int64.toBitVec_inj.mp
  apply BitVec.eq_of_toNat_eq
  have h1 : (lN (a * 2 ^ k)).toBitVec.toNat = a * 2 ^ k := Nat.mod_eq_of_lt (by omega)
  have h2 : (lN b).toBitVec.toNat = b := Nat.mod_eq_of_lt (by omega)
  have h3 : (lN (a * 2 ^ k + b)).toBitVec.toNat = a * 2 ^ k + b := Nat.mod_eq_of_lt (by omega)
  rw [Int64.toBitVec_or, BitVec.toNat_or, h1, h2, h3, ← Nat.shiftLeft_eq, Nat.shiftLeft_add_eq_or_of_lt hb]
theorem sm64 : ∀ k, k < 64 → ((nI k).toInt64 &&& 63).toBitVec.smod 64 = BitVec.ofNat 64 k := by decide
theorem shlL (n : Nat) {k : Nat} (hk : k < 64) : lN n <<< ((nI k).toInt64 &&& 63) = lN (n * 2 ^ k) := by
  apply Int64.toBitVec_inj.mp
  have e : (lN n <<< ((nI k).toInt64 &&& 63)).toBitVec = (lN n).toBitVec <<< (((nI k).toInt64 &&& 63).toBitVec.smod 64) := rfl
  rw [e, sm64 k hk]
  apply BitVec.eq_of_toNat_eq
  have h1 : (lN n).toBitVec.toNat = n % 2 ^ 64 := rfl
  have h2 : (lN (n * 2 ^ k)).toBitVec.toNat = n * 2 ^ k % 2 ^ 64 := rfl
  have h3 : (BitVec.ofNat 64 k).toNat = k := Nat.mod_eq_of_lt (by omega)
  rw [BitVec.shiftLeft_eq', BitVec.toNat_shiftLeft, h1, h2, h3, Nat.shiftLeft_eq, Nat.mod_mul_mod]
theorem lor28 {a d : Nat} (hd : d < 268435456) (ha : a < 268435456) : (lN a <<< ((28 : Int32).toInt64 &&& 63)) ||| lN d = lN (a * 268435456 + d) := by
  have e : lN a <<< ((28 : Int32).toInt64 &&& 63) = lN (a * 2 ^ 28) := shlL a (k := 28) (by decide)
  rw [e]
  exact orL (k := 28) (by omega) (by omega)
theorem lN_div {a b : Nat} (ha : a < 2 ^ 62) (hb : b < 2 ^ 62) (h0 : 0 < b) : lN a / lN b = lN (a / b) := by
  have hd : a / b ≤ a := Nat.div_le_self _ _
  apply Int64.toInt_inj.mp
  rw [Int64.toInt_div, pk_lT (by omega), pk_lT (by omega), pk_lT (by omega)]
  have e : (a : Int).tdiv (b : Int) = ((a / b : Nat) : Int) := rfl
  rw [e]
  generalize a / b = c at *
  exact Int.bmod_eq_of_le (by omega) (by omega)
theorem lN_rem {a b : Nat} (ha : a < 2 ^ 62) (hb : b < 2 ^ 62) (h0 : 0 < b) : lN a - lN a / lN b * lN b = lN (a % b) := by
  rw [lN_div ha hb h0, lN_mul]
  have e := Nat.div_add_mod a b
  have e2 : a / b * b = b * (a / b) := Nat.mul_comm _ _
  have e3 : lN a = lN (a % b) + lN (a / b * b) := by rw [lN_add]; congr 1; omega
  rw [e3, Int64.add_sub_cancel]
theorem orI {a b k : Nat} (hb : b < 2 ^ k) (h : a * 2 ^ k + b < 2 ^ 31) : nI (a * 2 ^ k) ||| nI b = nI (a * 2 ^ k + b) := by
  apply Int32.toBitVec_inj.mp
  apply BitVec.eq_of_toNat_eq
  have h1 : (nI (a * 2 ^ k)).toBitVec.toNat = a * 2 ^ k := Nat.mod_eq_of_lt (by omega)
  have h2 : (nI b).toBitVec.toNat = b := Nat.mod_eq_of_lt (by omega)
  have h3 : (nI (a * 2 ^ k + b)).toBitVec.toNat = a * 2 ^ k + b := Nat.mod_eq_of_lt (by omega)
  rw [Int32.toBitVec_or, BitVec.toNat_or, h1, h2, h3, ← Nat.shiftLeft_eq, Nat.shiftLeft_add_eq_or_of_lt hb]
theorem shl1 {d b : Nat} (hd : d < 268435456) (hb : b ≤ 1) : (nI d <<< ((1 : Int32) &&& 31)) ||| nI b = nI (2 * d + b) := by
  rw [pk_shlN (n := d) ((1 : Int32) &&& 31) 1 (by decide) (by omega), orI (k := 1) (by omega) (by omega), Nat.mul_comm]
theorem mask32 {n : Nat} (h : n < 2 ^ 31) : nI n &&& 268435455 = nI (n % 268435456) := pk_andN (n := n) (by omega) 28 (by decide)
theorem shr32 {n : Nat} (h : n < 2 ^ 31) : nI n >>> ((28 : Int32) &&& 31) = nI (n / 268435456) := pk_shrN h ((28 : Int32) &&& 31) 28 (by decide)
theorem sm28 : ∀ b, b < 28 → ((nI b &&& 31).toBitVec.smod 32).toNat = b := by decide
theorem bit32 {d b : Nat} (hd : d < 268435456) (hb : b < 28) : nI d >>> (nI b &&& 31) &&& 1 = nI (d / 2 ^ b % 2) := by
  have h : d / 2 ^ b ≤ d := Nat.div_le_self _ _
  rw [pk_shrN (n := d) (by omega) (nI b &&& 31) b (sm28 b hb), pk_andN (by omega) 1 (by decide)]
theorem orBit {t b : Nat} (hb : b < 28) (ht : t * 2 ^ (b + 1) < 2 ^ 28) : lN (t * 2 ^ (b + 1)) ||| ((1 : Int64) <<< ((nI b).toInt64 &&& 63)) = lN ((2 * t + 1) * 2 ^ b) := by
  have e : (1 : Int64) <<< ((nI b).toInt64 &&& 63) = lN (1 * 2 ^ b) := shlL 1 (k := b) (by omega)
  have h1 : 2 ^ b < 2 ^ (b + 1) := Nat.pow_lt_pow_right (by omega) (by omega)
  have h2 : 2 ^ (b + 1) ≤ 2 ^ 28 := Nat.pow_le_pow_right (by omega) (by omega)
  rw [e, Nat.one_mul, orL (k := b + 1) h1 (by omega)]
  congr 1
  rw [Nat.add_mul, Nat.pow_succ, Nat.one_mul, ← Nat.mul_assoc, Nat.mul_right_comm, Nat.mul_comm t 2]
theorem lv28_split {f : Nat → Int32} {o k n : Nat} (hk : k < n) : ∃ H, lv28 f o n = lv28 f o k + (f (o + k)).toNatClampNeg * 2 ^ (28 * k) + H * 2 ^ (28 * (k + 1)) := by
  induction n with
  | zero => omega
  | succ n ih =>
    by_cases e : k = n
    · subst e; exact ⟨0, by simp [lv28]⟩
    · obtain ⟨H, h⟩ := ih (by omega)
      refine ⟨H + (f (o + n)).toNatClampNeg * 2 ^ (28 * (n - (k + 1))), ?_⟩
      simp only [lv28]
      rw [h, Nat.add_mul, Nat.mul_assoc _ _ (2 ^ (28 * (k + 1))), ← Nat.pow_add, show 28 * (n - (k + 1)) + 28 * (k + 1) = 28 * n by omega]
      omega
theorem lv28_divs {f : Nat → Int32} {o k n d : Nat} (hL : Lm f o n) (hk : k < n) (hd : d < 268435456) (e : f (o + k) = nI d) : lv28 f o n / 2 ^ (28 * k) = d + 268435456 * (lv28 f o n / 2 ^ (28 * (k + 1))) := by
  obtain ⟨H, h⟩ := lv28_split (f := f) (o := o) hk
  rw [e, nI_clamp (by omega)] at h
  have h1 : lv28 f o k < 2 ^ (28 * k) := lv28_lt (hL.mono (by omega))
  have e1 : 2 ^ (28 * (k + 1)) = 2 ^ (28 * k) * 268435456 := by rw [show 28 * (k + 1) = 28 * k + 28 by omega, Nat.pow_add]
  have e2 : lv28 f o n = lv28 f o k + 2 ^ (28 * k) * (d + H * 268435456) := by
    rw [h, e1, Nat.mul_add, Nat.mul_comm d, ← Nat.mul_assoc, ← Nat.mul_assoc, Nat.mul_comm H]
    omega
  have e3 : lv28 f o n / 2 ^ (28 * k) = d + H * 268435456 := by
    rw [e2, Nat.add_mul_div_left _ _ (Nat.two_pow_pos _), Nat.div_eq_of_lt h1, Nat.zero_add]
  rw [e1, ← Nat.div_div_eq_div_mul, e3]
  omega
theorem lv28_bit {f : Nat → Int32} {o k n d b : Nat} (hL : Lm f o n) (hk : k < n) (hd : d < 268435456) (e : f (o + k) = nI d) (hb : b < 28) : lv28 f o n / 2 ^ (28 * k + b) = 2 * (lv28 f o n / 2 ^ (28 * k + (b + 1))) + d / 2 ^ b % 2 := by
  have h := lv28_divs hL hk hd e
  have e1 : lv28 f o n / 2 ^ (28 * k + b) = lv28 f o n / 2 ^ (28 * k) / 2 ^ b := by rw [Nat.pow_add, Nat.div_div_eq_div_mul]
  have e2 : lv28 f o n / 2 ^ (28 * k + (b + 1)) = lv28 f o n / 2 ^ (28 * k + b) / 2 := by rw [← Nat.add_assoc, Nat.pow_succ, Nat.div_div_eq_div_mul]
  rw [e2, e1, h]
  obtain ⟨c, hc⟩ : ∃ c, 28 = b + (c + 1) := ⟨27 - b, by omega⟩
  have e3 : 268435456 = 2 ^ b * (2 * 2 ^ c) := by
    have : 268435456 = 2 ^ 28 := by decide
    rw [this, hc, Nat.pow_add, Nat.pow_succ, Nat.mul_comm (2 ^ c)]
  generalize lv28 f o n / 2 ^ (28 * (k + 1)) = T
  rw [e3, Nat.mul_assoc, Nat.add_mul_div_left _ _ (Nat.two_pow_pos b), Nat.mul_assoc]
  omega
end
section
theorem lv28_few0 {f g : Nat → Int32} {m : Nat} (hf : Lm f 0 m) {d : Nat} (hd : 0 < d) : lv28 f 0 m < lv28 g 0 m + d * 2 ^ (28 * m) := by
  have h := lv28_lt hf
  have h2 := Nat.le_mul_of_pos_left (2 ^ (28 * m)) hd
  omega
theorem lN_ne0 {n : Nat} (h : 0 < n) (h2 : n < 2 ^ 62) : ¬ lN n = 0 := fun e => by
  have : (lN n).toInt = (0 : Int64).toInt := by rw [e]
  rw [pk_lT (by omega)] at this
  have e0 : (0 : Int64).toInt = 0 := by decide
  omega
theorem lv28_put0 {g : Nat → Int32} {i : Nat} {x : Int32} (hi : i < 2 ^ 31) : lv28 (upd g (nI i).toNatClampNeg x) 0 (i + 1) = lv28 g 0 i + x.toNatClampNeg * 2 ^ (28 * i) := by
  simp only [lv28]
  rw [lv28_congr (g := g) (p := 0) (fun q hq => by rw [upd_at hi, if_neg (by omega)]), Nat.zero_add, upd_at hi, if_pos rfl]
theorem lv28_one0 {f : Nat → Int32} {i d : Nat} (h : f i = nI d) (hd : d < 2 ^ 31) : lv28 f 0 (i + 1) = lv28 f 0 i + d * 2 ^ (28 * i) := by
  simp only [lv28]; rw [Nat.zero_add, h, nI_clamp hd]
theorem sh_step {f4 f2 : Nat → Int32} {i d b in0 : Nat} (hi : i < 2 ^ 31) (hd : d < 268435456) (hb : b ≤ 1) (e : f2 i = nI d) (h : lv28 f4 0 i + b * 2 ^ (28 * i) = 2 * lv28 f2 0 i + in0) :
    lv28 (upd f4 (nI i).toNatClampNeg (nI ((2 * d + b) % 268435456))) 0 (i + 1) + (2 * d + b) / 268435456 * 2 ^ (28 * (i + 1)) = 2 * lv28 f2 0 (i + 1) + in0 := by
  rw [lv28_put0 hi, nI_clamp (by omega), lv28_one0 e (by omega), show 28 * (i + 1) = 28 * i + 28 by omega, Nat.pow_add]
  have e3 : (2 * d + b) % 268435456 + 268435456 * ((2 * d + b) / 268435456) = 2 * d + b := Nat.mod_add_div _ _
  have e4 : (2 * d + b) % 268435456 * 2 ^ (28 * i) + (2 * d + b) / 268435456 * (2 ^ (28 * i) * 2 ^ 28) = (2 * d + b) * 2 ^ (28 * i) := by
    have : (2 * d + b) / 268435456 * (2 ^ (28 * i) * 2 ^ 28) = 268435456 * ((2 * d + b) / 268435456) * 2 ^ (28 * i) := by
      rw [Nat.mul_comm (2 ^ (28 * i)), ← Nat.mul_assoc, Nat.mul_comm ((2 * d + b) / 268435456)]
    rw [this, ← Nat.add_mul, e3]
  rw [Nat.add_mul, Nat.mul_assoc 2 d] at e4
  omega
theorem bw_step {g f4 f3 : Nat → Int32} {i : Nat} {x : Int32} {d4 d3 b b' L : Nat} (hi : i < 2 ^ 31) (h4 : f4 i = nI d4) (hd4 : d4 < 268435456) (hx : x.toInt = (d4 : Int) - d3 - b + 268435456 * b') (h0 : 0 ≤ x.toInt)
    (h : lv28 g 0 i + L = lv28 f4 0 i + b * 2 ^ (28 * i)) : lv28 (upd g (nI i).toNatClampNeg x) 0 (i + 1) + (L + d3 * 2 ^ (28 * i)) = lv28 f4 0 (i + 1) + b' * 2 ^ (28 * (i + 1)) := by
  obtain ⟨n, hn, rfl⟩ := of_toInt (x := x) (k := 2 ^ 31) h0 (by have := Int32.toInt_lt x; omega)
  rw [nI_toInt hn] at hx
  rw [lv28_put0 hi, nI_clamp hn, lv28_one0 h4 (by omega), show 28 * (i + 1) = 28 * i + 28 by omega, Nat.pow_add]
  have e : n + d3 + b = d4 + 268435456 * b' := by omega
  have e2 : (n + d3 + b) * 2 ^ (28 * i) = (d4 + 268435456 * b') * 2 ^ (28 * i) := by rw [e]
  rw [Nat.add_mul, Nat.add_mul, Nat.add_mul] at e2
  have e3 : b' * (2 ^ (28 * i) * 2 ^ 28) = 268435456 * b' * 2 ^ (28 * i) := by rw [Nat.mul_comm (2 ^ (28 * i)), ← Nat.mul_assoc, Nat.mul_comm b']
  omega
theorem lv28_top0 {f : Nat → Int32} {n : Nat} (h : lv28 f 0 (n + 1) < 2 ^ (28 * n)) (hL : Lm f 0 (n + 1)) : f n = 0 := by
  obtain ⟨d, hd, e⟩ := limb0N hL (q := n) (by omega)
  rw [lv28_one0 e (by omega)] at h
  rcases Nat.eq_zero_or_pos d with h0 | h0
  · rw [e, h0]; exact nI_0
  · have := Nat.le_mul_of_pos_left (2 ^ (28 * n)) h0
    omega
theorem lv28_skip0 {f : Nat → Int32} {n : Nat} (h : f n = 0) : lv28 f 0 (n + 1) = lv28 f 0 n := by
  simp only [lv28]; rw [Nat.zero_add, h]; simp
theorem divQ {A B Q R : Nat} (h : A = Q * B + R) (hR : R < B) : A / B = Q ∧ A % B = R := by
  subst h
  have h0 : 0 < B := by omega
  constructor
  · rw [Nat.mul_comm, Nat.mul_add_div h0, Nat.div_eq_of_lt hR, Nat.add_zero]
  · rw [Nat.mul_comm, Nat.mul_add_mod, Nat.mod_eq_of_lt hR]
theorem bitQ {P Q B R T i2 : Nat} (h : P = Q * B + R) (hT : T = 2 * P + i2) : T = 2 * Q * B + (2 * R + i2) := by
  subst h; rw [hT, Nat.mul_add, Nat.mul_assoc]; omega
theorem ttZ {t b : Nat} : t * 2 ^ (b + 1) = 2 * t * 2 ^ b := by
  rw [Nat.pow_succ, ← Nat.mul_assoc, Nat.mul_right_comm, Nat.mul_comm t 2]
theorem svQ {S : Int} {Q e t t' b kk : Nat} (h : S = ((Q * 2 ^ (28 * kk + (b + 1)) : Nat) : Int)) (he : e = 2 * Q + 1) (ht : t' = 2 * t + 1) :
    S + (((t' * 2 ^ b : Nat) : Int) - ((t * 2 ^ (b + 1) : Nat) : Int)) * ((2 ^ (28 * kk) : Nat) : Int) = ((e * 2 ^ (28 * kk + b) : Nat) : Int) := by
  subst he; subst ht
  have e1 : (2 * t + 1) * 2 ^ b = t * 2 ^ (b + 1) + 2 ^ b := by rw [Nat.add_mul, Nat.one_mul, ttZ]
  have e2 : (2 * Q + 1) * 2 ^ (28 * kk + b) = Q * 2 ^ (28 * kk + (b + 1)) + 2 ^ b * 2 ^ (28 * kk) := by
    rw [Nat.add_mul, Nat.one_mul, ← Nat.add_assoc, Nat.pow_succ, ← Nat.pow_add, Nat.add_comm b, ← Nat.mul_assoc, Nat.mul_right_comm Q, Nat.mul_comm Q 2]
  rw [e1, e2, Int.natCast_add (Q * _), ← h, Int.natCast_add, Int.natCast_mul (2 ^ b)]
  congr 2
  omega
theorem svZ {Q b kk : Nat} : Q * 2 ^ (28 * kk + (b + 1)) = 2 * Q * 2 ^ (28 * kk + b) := by
  rw [← Nat.add_assoc, Nat.pow_succ, ← Nat.mul_assoc, Nat.mul_right_comm, Nat.mul_comm Q 2]
theorem tt_lt {t b : Nat} (hb : b < 28) (h : t < 2 ^ (28 - (b + 1))) : 2 * t + 1 < 2 ^ (28 - b) := by
  rw [show 28 - b = 28 - (b + 1) + 1 by omega, Nat.pow_succ]; omega
theorem tt_all {t b : Nat} (hb : b ≤ 28) (h : t < 2 ^ (28 - b)) : t * 2 ^ b < 268435456 := by
  have h1 : t * 2 ^ b < 2 ^ (28 - b) * 2 ^ b := Nat.mul_lt_mul_of_pos_right h (Nat.two_pow_pos _)
  rw [← Nat.pow_add, show 28 - b + b = 28 by omega] at h1
  exact h1
theorem nu_of {G : Nat → Int32} {sn kk SS : Nat} {sg : Int} (hk : kk ≤ 22) (h1 : G (24 * sn + 1) = nI kk) (hL : Lm G (24 * sn + 2) kk) (ht : 0 < kk → G (24 * sn + 1 + kk) ≠ 0) (hv : lv28 G (24 * sn + 2) kk = SS) {qs : Int32} (hq : (kk = 0 ∧ G (24 * sn) = 0) ∨ (0 < kk ∧ G (24 * sn) = qs)) (hsg : (sg = 1 ∧ qs = 1) ∨ (sg = -1 ∧ qs = -1)) : Nu G sn (sg * (SS : Int)) := nu_fin hk h1 hL ht hv hq (fun _ => hsg)
theorem tdivE {x y : Int} (hy : y ≠ 0) : (if x * y < 0 then (-1 : Int) else 1) * ((x.natAbs / y.natAbs : Nat) : Int) = x.tdiv y := by
  rcases Int.lt_trichotomy x 0 with hx | hx | hx
  · obtain ⟨a, rfl⟩ : ∃ a : Nat, x = -(a : Int) := ⟨x.natAbs, by omega⟩
    rcases Int.lt_or_gt_of_ne hy with hy | hy
    · obtain ⟨b, rfl⟩ : ∃ b : Nat, y = -(b : Int) := ⟨y.natAbs, by omega⟩
      rw [if_neg (by have := Int.mul_pos_of_neg_of_neg hx hy; omega), Int.neg_tdiv_neg, Int.natAbs_neg, Int.natAbs_neg, Int.natAbs_natCast, Int.natAbs_natCast, Int.one_mul]; rfl
    · obtain ⟨b, rfl⟩ : ∃ b : Nat, y = (b : Int) := ⟨y.natAbs, by omega⟩
      rw [if_pos (Int.mul_neg_of_neg_of_pos hx hy), Int.neg_tdiv, Int.natAbs_neg, Int.natAbs_natCast, Int.natAbs_natCast]
      have : (a : Int).tdiv (b : Int) = ((a / b : Nat) : Int) := rfl
      rw [this]; omega
  · subst hx; simp
  · obtain ⟨a, rfl⟩ : ∃ a : Nat, x = (a : Int) := ⟨x.natAbs, by omega⟩
    rcases Int.lt_or_gt_of_ne hy with hy | hy
    · obtain ⟨b, rfl⟩ : ∃ b : Nat, y = -(b : Int) := ⟨y.natAbs, by omega⟩
      rw [if_pos (Int.mul_neg_of_pos_of_neg hx hy), Int.tdiv_neg, Int.natAbs_neg, Int.natAbs_natCast, Int.natAbs_natCast]
      have : (a : Int).tdiv (b : Int) = ((a / b : Nat) : Int) := rfl
      rw [this]; omega
    · obtain ⟨b, rfl⟩ : ∃ b : Nat, y = (b : Int) := ⟨y.natAbs, by omega⟩
      rw [if_neg (by have := Int.mul_pos hx hy; omega), Int.natAbs_natCast, Int.natAbs_natCast, Int.one_mul]; rfl
theorem tmodE {x y : Int} : (if x < 0 then (-1 : Int) else 1) * ((x.natAbs % y.natAbs : Nat) : Int) = x.tmod y := by
  have h : ((x.natAbs % y.natAbs : Nat) : Int) = (x.tmod y).natAbs := by rw [Int.natAbs_tmod]
  by_cases hx : x < 0
  · rw [if_pos hx, h]
    have : x.tmod y ≤ 0 := by
      obtain ⟨a, rfl⟩ : ∃ a : Nat, x = -(a : Int) := ⟨x.natAbs, by omega⟩
      rw [Int.neg_tmod]; have := Int.tmod_nonneg (a := (a : Int)) y (by omega); omega
    omega
  · rw [if_neg hx, h]
    have := Int.tmod_nonneg (a := x) y (by omega)
    omega
theorem lv28_zero {f : Nat → Int32} {o n : Nat} (h : ∀ q, q < n → f (o + q) = 0) : lv28 f o n = 0 := by
  induction n with
  | zero => rfl
  | succ n ih => simp only [lv28]; rw [ih (fun q hq => h q (by omega)), h n (by omega)]; simp
theorem limbQ {P Q d r k : Nat} (h : P = Q * d + r) : k + 268435456 * P = (Q * 268435456 + (r * 268435456 + k) / d) * d + (r * 268435456 + k) % d := by
  have e := Nat.div_add_mod (r * 268435456 + k) d
  rw [Nat.add_mul, Nat.mul_comm ((r * 268435456 + k) / d) d, Nat.add_assoc, e, h, Nat.mul_add, Nat.mul_right_comm Q, Nat.mul_comm (Q * d)]
  omega
theorem svL {S : Int} {Q x kk : Nat} (h : S = ((Q * 2 ^ (28 * (kk + 1)) : Nat) : Int)) : S + ((x : Int) - 0) * ((2 ^ (28 * kk) : Nat) : Int) = (((Q * 268435456 + x) * 2 ^ (28 * kk) : Nat) : Int) := by
  have e : Q * 2 ^ (28 * (kk + 1)) = Q * 268435456 * 2 ^ (28 * kk) := by
    rw [show 28 * (kk + 1) = 28 + 28 * kk by omega, Nat.pow_add, ← Nat.mul_assoc]
  rw [h, e, Int.sub_zero, ← Int.natCast_mul, ← Int.natCast_add, ← Nat.add_mul]
theorem vdiv_lt {r d k : Nat} (h : r < d) (hk : k < 268435456) : (r * 268435456 + k) / d < 268435456 := by
  rw [Nat.div_lt_iff_lt_mul (by omega)]
  have : (r + 1) * 268435456 ≤ d * 268435456 := Nat.mul_le_mul_right _ h
  rw [Nat.add_mul] at this
  rw [Nat.mul_comm]; omega
theorem noCarry {f : Nat → Int32} {n b R B i0 : Nat} (h : lv28 f 0 (n + 1) + b * 2 ^ (28 * (n + 1)) = 2 * R + i0) (hR : R < B) (hB : B < 2 ^ (28 * n)) (hi : i0 ≤ 1) : b = 0 := by
  rcases Nat.eq_zero_or_pos b with e | e
  · exact e
  · exfalso
    have h1 := Nat.le_mul_of_pos_left (2 ^ (28 * (n + 1))) e
    have h2 : 2 ^ (28 * (n + 1)) = 2 ^ (28 * n) * 268435456 := by rw [show 28 * (n + 1) = 28 * n + 28 by omega, Nat.pow_add]
    omega
theorem noBorrow {f : Nat → Int32} {n b R B : Nat} (hL : Lm f 0 (n + 1)) (h : lv28 f 0 (n + 1) + B = R + b * 2 ^ (28 * (n + 1))) (hR : B ≤ R) : b = 0 := by
  rcases Nat.eq_zero_or_pos b with e | e
  · exact e
  · exfalso
    have h1 := Nat.le_mul_of_pos_left (2 ^ (28 * (n + 1))) e
    have h2 := lv28_lt hL
    omega
theorem Nu.keep {f g : Nat → Int32} {t : Nat} {x : Int} (h : Nu f t x) (e : ∀ q, 24 * t ≤ q → q < 24 * t + 24 → g q = f q) : Nu g t x := by
  obtain ⟨n, h1, h2, h3⟩ := id h
  exact Nu.congr (n := n) h h2 h1 (fun q hq => e _ (by omega) (by omega))
theorem tdiv_small {x y : Int} (h : x.natAbs < y.natAbs) : x.tdiv y = 0 := by
  rw [← tdivE (by omega), Nat.div_eq_of_lt h]; simp
theorem tmod_small {x y : Int} (h : x.natAbs < y.natAbs) : x.tmod y = x := by
  rw [← tmodE, Nat.mod_eq_of_lt h]; split <;> omega
theorem abs616 {f : Nat → Int32} {o n : Nat} (h : Lm f o n) (hn : n ≤ 22) : lv28 f o n < 2 ^ 616 :=
  Nat.lt_of_lt_of_le (lv28_lt h) (Nat.pow_le_pow_right (by omega) (by omega))
theorem addB {x y : Int32} (hx : -1073741824 ≤ x.toInt ∧ x.toInt ≤ 1073741823) (hy : -1073741824 ≤ y.toInt ∧ y.toInt ≤ 1073741823) : (x + y).toInt = x.toInt + y.toInt := by
  rw [Int32.toInt_add]
  exact Int.bmod_eq_of_le (by omega) (by omega)
end
section
theorem dX12_isMore_0 : decode cX12_isMore 0 = .ok (.aload_n 0, 1) := dk_42 (by decide +kernel)
theorem dX12_isMore_1 : decode cX12_isMore 1 = .ok (.getfield 17, 3) := dk_180 (by decide +kernel)
theorem dX12_isMore_4 : decode cX12_isMore 4 = .ok (.iload_n 1, 1) := dk_27 (by decide +kernel)
theorem dX12_isMore_5 : decode cX12_isMore 5 = .ok (.iaload, 1) := dk_46 (by decide +kernel)
theorem dX12_isMore_6 : decode cX12_isMore 6 = .ok (.ifCond .le 5, 3) := dk_158 (by decide +kernel)
theorem dX12_isMore_9 : decode cX12_isMore 9 = .ok (.iconst 1, 1) := dk_4 (by decide +kernel)
theorem dX12_isMore_10 : decode cX12_isMore 10 = .ok (.ireturn, 1) := dk_172 (by decide +kernel)
theorem dX12_isMore_11 : decode cX12_isMore 11 = .ok (.iload_n 1, 1) := dk_27 (by decide +kernel)
theorem dX12_isMore_12 : decode cX12_isMore 12 = .ok (.iconst 1, 1) := dk_4 (by decide +kernel)
theorem dX12_isMore_13 : decode cX12_isMore 13 = .ok (.isub, 1) := dk_100 (by decide +kernel)
theorem dX12_isMore_14 : decode cX12_isMore 14 = .ok (.istore_n 2, 1) := dk_61 (by decide +kernel)
theorem dX12_isMore_15 : decode cX12_isMore 15 = .ok (.iload_n 2, 1) := dk_28 (by decide +kernel)
theorem dX12_isMore_16 : decode cX12_isMore 16 = .ok (.ifCond .lt 45, 3) := dk_155 (by decide +kernel)
theorem dX12_isMore_19 : decode cX12_isMore 19 = .ok (.aload_n 0, 1) := dk_42 (by decide +kernel)
theorem dX12_isMore_20 : decode cX12_isMore 20 = .ok (.getfield 17, 3) := dk_180 (by decide +kernel)
theorem dX12_isMore_23 : decode cX12_isMore 23 = .ok (.iload_n 2, 1) := dk_28 (by decide +kernel)
theorem dX12_isMore_24 : decode cX12_isMore 24 = .ok (.iaload, 1) := dk_46 (by decide +kernel)
theorem dX12_isMore_25 : decode cX12_isMore 25 = .ok (.aload_n 0, 1) := dk_42 (by decide +kernel)
theorem dX12_isMore_26 : decode cX12_isMore 26 = .ok (.getfield 20, 3) := dk_180 (by decide +kernel)
theorem dX12_isMore_29 : decode cX12_isMore 29 = .ok (.iload_n 2, 1) := dk_28 (by decide +kernel)
theorem dX12_isMore_30 : decode cX12_isMore 30 = .ok (.iaload, 1) := dk_46 (by decide +kernel)
theorem dX12_isMore_31 : decode cX12_isMore 31 = .ok (.if_icmp .eq 24, 3) := dk_159 (by decide +kernel)
theorem dX12_isMore_34 : decode cX12_isMore 34 = .ok (.aload_n 0, 1) := dk_42 (by decide +kernel)
theorem dX12_isMore_35 : decode cX12_isMore 35 = .ok (.getfield 17, 3) := dk_180 (by decide +kernel)
theorem dX12_isMore_38 : decode cX12_isMore 38 = .ok (.iload_n 2, 1) := dk_28 (by decide +kernel)
theorem dX12_isMore_39 : decode cX12_isMore 39 = .ok (.iaload, 1) := dk_46 (by decide +kernel)
theorem dX12_isMore_40 : decode cX12_isMore 40 = .ok (.aload_n 0, 1) := dk_42 (by decide +kernel)
theorem dX12_isMore_41 : decode cX12_isMore 41 = .ok (.getfield 20, 3) := dk_180 (by decide +kernel)
theorem dX12_isMore_44 : decode cX12_isMore 44 = .ok (.iload_n 2, 1) := dk_28 (by decide +kernel)
theorem dX12_isMore_45 : decode cX12_isMore 45 = .ok (.iaload, 1) := dk_46 (by decide +kernel)
theorem dX12_isMore_46 : decode cX12_isMore 46 = .ok (.if_icmp .le 7, 3) := dk_164 (by decide +kernel)
theorem dX12_isMore_49 : decode cX12_isMore 49 = .ok (.iconst 1, 1) := dk_4 (by decide +kernel)
theorem dX12_isMore_50 : decode cX12_isMore 50 = .ok (.goto 4, 3) := dk_167 (by decide +kernel)
theorem dX12_isMore_53 : decode cX12_isMore 53 = .ok (.iconst 0, 1) := dk_3 (by decide +kernel)
theorem dX12_isMore_54 : decode cX12_isMore 54 = .ok (.ireturn, 1) := dk_172 (by decide +kernel)
theorem dX12_isMore_55 : decode cX12_isMore 55 = .ok (.iinc 2 (-1), 3) := dk_132 (by decide +kernel)
theorem dX12_isMore_58 : decode cX12_isMore 58 = .ok (.goto (-43), 3) := dk_167 (by decide +kernel)
theorem dX12_isMore_61 : decode cX12_isMore 61 = .ok (.iconst 1, 1) := dk_4 (by decide +kernel)
theorem dX12_isMore_62 : decode cX12_isMore 62 = .ok (.ireturn, 1) := dk_172 (by decide +kernel)
def wsRX12_isMore : List Cond := .code yX12_isMore cX12_isMore 3 (some .boolean) :: ([.fieldLink RX12 17 "OptimaWorksModel" "rest" "[I", .fieldLink RX12 20 "OptimaWorksModel" "less" "[I"] ++ wsX120)
theorem iwsRX12_isMore_in12 : ∀ w ∈ wsX120, w ∈ wsRX12_isMore := fun _ h => List.mem_cons_of_mem _ (List.mem_append_right _ h)
theorem hm_r_X12_isMore_0 : (.fieldLink RX12 17 "OptimaWorksModel" "rest" "[I" : Cond) ∈ wsRX12_isMore := by decide +kernel
theorem hm_r_X12_isMore_1 : (.fieldLink RX12 20 "OptimaWorksModel" "less" "[I" : Cond) ∈ wsRX12_isMore := by decide +kernel
set_option maxHeartbeats 4000000 in
set_option maxRecDepth 100000 in
/-- isMore(m) -/
theorem r_X12_isMore (l : Launch) (dC : Nat → ClassId) (dI : Nat → Nat → Nat) (a : Nat → Nat) (k : Nat → ClassId) (h0 : Nat) (vi : Nat → Int32) (vj : Nat → Int64) (vF : Nat → Nat → Int32) (vG : Nat → Nat → Int64) (mn : Nat) (hm : mn ≤ 22) (hlr : Lm (vF 2) 0 (mn + 1)) (hl3 : Lm (vF 3) 0 mn) (sz : Nat) : Met l yX12_isMore wsRX12_isMore ({ frames := 0, cells := 0, slots := 0, locals := 0 }) (va_Pc [.ref h0, .int (nI mn)] (fun U => U.heap.size = sz ∧ va_P (dC, dI) vwCl (WR a k h0 vi vj vF vG) U.heap ∧ va_K (dC, dI) vwCl (tX12 k) U ∧ va_D (fun _ => True) (WR a k h0 vi vj vF vG))) (va_Qi (fun (r : Int32) (u : Unit) => (r = 1 ∧ (lv28 (vF 3) 0 mn ≤ lv28 (vF 2) 0 (mn + 1))) ∨ (r = 0 ∧ (lv28 (vF 2) 0 (mn + 1) < lv28 (vF 3) 0 mn))) (fun (u : Unit) t => va_P (dC, dI) vwCl (WR a k h0 vi vj vF vG) t.heap ∧ va_D (va_A (WR a k h0 vi vj vF vG) sz) (WR a k h0 vi vj vF vG)) (va_A (WR a k h0 vi vj vF vG) sz)) 0 0 (va_A (WR a k h0 vi vj vF vG) sz) := by
  refine Met.ofW (cc := cX12_isMore) (maxL := 3) (ret := (some .boolean)) (by decide) rfl ?_
  intro p e s m args below meth c s₁ B hml hv
  obtain ⟨rfl, hsz, hP, hK, hD0⟩ := hv
  have hx := B.exec
  have hb := B.bytes
  have hr := B.returns
  have hts := atoms_spec (ws := wsRX12_isMore) B.pre
  have hown : s.vm.findClass RX12 = some m.cls := findClass_of_methodNamed B.named
  have hlocks := B.notSynchronized
  subst hsz
  have hD := hD0.self (sz := s.heap.size)
  generalize hAe : va_A (WR a k h0 vi vj vF vG) s.heap.size = A at hD ⊢
  have hA : ∀ q : Nat, s.heap.size ≤ q → A q := fun q h => by rw [← hAe]; exact Or.inr h
  have hS : va_S A s.heap s.heap [] := va_S.rf
  have hl := lv_entry ([.ref h0, .int (nI mn)]) (n := 3) (Nat.le_of_ble_eq_true rfl)
  rw [lg_entry_eq]
  generalize (lg_sl ([.ref h0, .int (nI mn)]) ++ List.replicate (3 - (lg_sl ([.ref h0, .int (nI mn)])).length) Slot.unset).toArray = ls at hl ⊢
  have hl : lv_has ls 3 [(0, .ref h0), (1, .int (nI mn))] := hl
  refine lv_aload_n hx hb dX12_isMore_0 rfl (lv_at hl 0 rfl) ?_
  refine va_get (D := (dC, dI)) (ci := 12) (v := .ref (a 2)) (C := RX12) (T := TX12) (N := 163) (fs := fM (vS a vi vj)) hx hb hts iwsRX12_isMore_in12 hown hK hP 0 rfl rfl 3 (by decide) (hts _ hm_r_X12_isMore_0) (fun _ h9 => h9) rfl dX12_isMore_1 ?_
  refine lv_iload_n hx hb dX12_isMore_4 rfl (lv_at hl 1 rfl) ?_
  refine va_iald (cA := k 2) (n := 60) (f := (vF 2)) hx hb hK hP 3 2 (WR_get 2 (by decide)) (TR_get 2 (by decide)) (vp_in_nI (show mn < 60 by omega) (by omega)) dX12_isMore_5 ?_
  refine lv_topi (fun y1 hy1 => ?_)
  obtain rfl : ((vF 2) mn) = y1 := (hy1.trans (by rw [nI_clamp (by omega)])).symm
  refine lv_if_le (tgt := 11) hx hb dX12_isMore_6 (by decide) (fun c_6 => ?_) (fun c_6 => ?_)
  · have t_6 : (((vF 2) mn)).toInt ≤ 0 := toI_le c_6 rfl (by decide)
    refine lv_iload_n hx hb dX12_isMore_11 rfl (lv_at hl 1 rfl) ?_
    refine lv_iconst (v := 1) hx hb dX12_isMore_12 (by decide) ?_
    refine lv_isub hx hb dX12_isMore_13 ?_
    refine lv_istore_n hx hb dX12_isMore_14 rfl hl (by decide) rfl (fun ls (hl : lv_has ls _ ([(2, .int ((nI mn) - 1)), (0, .ref h0), (1, .int (nI mn))])) => ?_)
    have hl : lv_has _ _ ([(2, .int ((nI mn) - 1)), (0, .ref h0), (1, .int (nI mn))]) := lv_sub hl [0, 1, 2] rfl
    refine (fun (loop : ∀ (n9 : Nat) (kq : Int32) (kk1 : Nat) (H : Heap) (locs : List Loc) (ls : Array Slot), ((kq).toInt = (kk1 : Int) - 1) → (kk1 ≤ mn) → (∀ q, kk1 ≤ q → q < mn → vF 2 q = vF 3 q) →  (kk1 < n9) → va_P (dC, dI) vwCl (WR a k h0 vi vj vF vG) H → va_D A (WR a k h0 vi vj vF vG) → va_S A s.heap H locs → lv_has ls 3 [(2, .int kq), (0, .ref h0), (1, .int (nI mn))] → W p l e _ s m _ below meth c H locs 0 0 _ (F0 m 15 ls [])) => loop (mn + 1) ((nI mn) - 1) mn _ _ _ (by exact pk_sub_toInt (a := mn) (b := 1) (by omega) (by omega)) (by omega) (fun q h1 h2 => absurd h1 (by omega)) (by omega) hP hD hS hl) ?_
    intro n9
    induction n9 with
    | zero => intro kq kk1 H locs ls hkq hkn heq hf9; exact False.elim (by omega)
    | succ n9 ih15 =>
      intro kq kk1 H locs ls hkq hkn heq hf15 hP hD hS hl
      refine lv_iload_n hx hb dX12_isMore_15 rfl (lv_at hl 0 rfl) ?_
      refine lv_if_lt (tgt := 61) hx hb dX12_isMore_16 (by decide) (fun c_16 => ?_) (fun c_16 => ?_)
      · have t_16 : (kq).toInt < 0 := toI_lt c_16 rfl (by decide)
        refine lv_iconst (v := 1) hx hb dX12_isMore_61 (by decide) ?_
        refine W.widen (k := 0) (n := 0) (by decide +kernel) (by decide +kernel) ?_
        exact W.zret (v := 1) hx hb hr rfl (fun t9_ ht hW => ⟨⟨1, (), rfl, by (try dsimp only); exact Or.inl ⟨rfl, by simp only [lv28]; rw [lv28_congr (f := vF 3) (g := vF 2) (p := 0) (fun q hq => by rw [Nat.zero_add]; exact (heq q (by omega) hq).symm)]; omega⟩, by rw [ht]; exact hP, hD⟩, hS.F ht⟩) hS.2.2 dX12_isMore_62
      · have t_16 : ¬ (kq).toInt < 0 := toI_nlt c_16 rfl (by decide)
        obtain ⟨kk, h_kk, rfl⟩ := of_toInt (x := kq) (k := 23) (by omega) (by omega)
        have e_kk : (nI kk).toInt = (kk : Int) := nI_toInt (by omega)
        refine lv_aload_n hx hb dX12_isMore_19 rfl (lv_at hl 1 rfl) ?_
        refine va_get (D := (dC, dI)) (ci := 12) (v := .ref (a 2)) (C := RX12) (T := TX12) (N := 163) (fs := fM (vS a vi vj)) hx hb hts iwsRX12_isMore_in12 hown hK hP 0 rfl rfl 3 (by decide) (hts _ hm_r_X12_isMore_0) (fun _ h9 => h9) rfl dX12_isMore_20 ?_
        refine lv_iload_n hx hb dX12_isMore_23 rfl (lv_at hl 0 rfl) ?_
        refine va_iald (cA := k 2) (n := 60) (f := (vF 2)) hx hb hK hP 3 2 (WR_get 2 (by decide)) (TR_get 2 (by decide)) (vp_in_nI (show kk < 60 by omega) (by omega)) dX12_isMore_24 ?_
        refine lv_topi (fun y2 hy2 => ?_)
        obtain rfl : ((vF 2) kk) = y2 := (hy2.trans (by rw [nI_clamp (by omega)])).symm
        refine lv_aload_n hx hb dX12_isMore_25 rfl (lv_at hl 1 rfl) ?_
        refine va_get (D := (dC, dI)) (ci := 12) (v := .ref (a 3)) (C := RX12) (T := TX12) (N := 163) (fs := fM (vS a vi vj)) hx hb hts iwsRX12_isMore_in12 hown hK hP 0 rfl rfl 4 (by decide) (hts _ hm_r_X12_isMore_1) (fun _ h9 => h9) rfl dX12_isMore_26 ?_
        refine lv_iload_n hx hb dX12_isMore_29 rfl (lv_at hl 0 rfl) ?_
        refine va_iald (cA := k 3) (n := 30) (f := (vF 3)) hx hb hK hP 4 3 (WR_get 3 (by decide)) (TR_get 3 (by decide)) (vp_in_nI (show kk < 30 by omega) (by omega)) dX12_isMore_30 ?_
        refine lv_topi (fun y3 hy3 => ?_)
        obtain rfl : ((vF 3) kk) = y3 := (hy3.trans (by rw [nI_clamp (by omega)])).symm
        refine lv_icmp_eq (tgt := 55) hx hb dX12_isMore_31 (by decide) (fun c_31 => ?_) (fun c_31 => ?_)
        · have t_31 : (((vF 2) kk)).toInt = (((vF 3) kk)).toInt := toI_eq c_31 rfl rfl
          refine lv_iinc (v := ((nI kk) + (-1))) hx hb dX12_isMore_55 hl (k := 0) rfl rfl (by decide) rfl (fun ls (hl : lv_has ls _ ([(2, .int ((nI kk) + (-1))), (0, .ref h0), (1, .int (nI mn))])) => ?_)
          refine lv_goto (tgt := 15) hx hb dX12_isMore_58 (by decide) ?_
          have hl : lv_has _ _ ([(2, .int ((nI kk) + (-1))), (0, .ref h0), (1, .int (nI mn))]) := lv_sub hl [0, 1, 2] rfl
          exact ih15 ((nI kk) + (-1)) (kk1 - 1) _ _ _ (by rw [m1T (by omega)]; omega) (by omega) (fun q h1 h2 => by by_cases e9 : q = kk; (rw [e9]; exact c_31); (exact heq q (by omega) h2)) (by omega) hP hD hS hl
        · have t_31 : ¬ (((vF 2) kk)).toInt = (((vF 3) kk)).toInt := toI_neq c_31 rfl rfl
          refine lv_aload_n hx hb dX12_isMore_34 rfl (lv_at hl 1 rfl) ?_
          refine va_get (D := (dC, dI)) (ci := 12) (v := .ref (a 2)) (C := RX12) (T := TX12) (N := 163) (fs := fM (vS a vi vj)) hx hb hts iwsRX12_isMore_in12 hown hK hP 0 rfl rfl 3 (by decide) (hts _ hm_r_X12_isMore_0) (fun _ h9 => h9) rfl dX12_isMore_35 ?_
          refine lv_iload_n hx hb dX12_isMore_38 rfl (lv_at hl 0 rfl) ?_
          refine va_iald (cA := k 2) (n := 60) (f := (vF 2)) hx hb hK hP 3 2 (WR_get 2 (by decide)) (TR_get 2 (by decide)) (vp_in_nI (show kk < 60 by omega) (by omega)) dX12_isMore_39 ?_
          refine lv_topi (fun y4 hy4 => ?_)
          obtain rfl : ((vF 2) kk) = y4 := (hy4.trans (by rw [nI_clamp (by omega)])).symm
          refine lv_aload_n hx hb dX12_isMore_40 rfl (lv_at hl 1 rfl) ?_
          refine va_get (D := (dC, dI)) (ci := 12) (v := .ref (a 3)) (C := RX12) (T := TX12) (N := 163) (fs := fM (vS a vi vj)) hx hb hts iwsRX12_isMore_in12 hown hK hP 0 rfl rfl 4 (by decide) (hts _ hm_r_X12_isMore_1) (fun _ h9 => h9) rfl dX12_isMore_41 ?_
          refine lv_iload_n hx hb dX12_isMore_44 rfl (lv_at hl 0 rfl) ?_
          refine va_iald (cA := k 3) (n := 30) (f := (vF 3)) hx hb hK hP 4 3 (WR_get 3 (by decide)) (TR_get 3 (by decide)) (vp_in_nI (show kk < 30 by omega) (by omega)) dX12_isMore_45 ?_
          refine lv_topi (fun y5 hy5 => ?_)
          obtain rfl : ((vF 3) kk) = y5 := (hy5.trans (by rw [nI_clamp (by omega)])).symm
          have l1 := limb0 hlr (q := kk) (by omega)
          have l2 := limb0 hl3 (q := kk) (by omega)
          refine lv_icmp_le (tgt := 53) hx hb dX12_isMore_46 (by decide) (fun c_46 => ?_) (fun c_46 => ?_)
          · have t_46 : (((vF 2) kk)).toInt ≤ (((vF 3) kk)).toInt := toI_le c_46 rfl rfl
            refine lv_iconst (v := 0) hx hb dX12_isMore_53 (by decide) ?_
            refine W.widen (k := 0) (n := 0) (by decide +kernel) (by decide +kernel) ?_
            exact W.zret (v := 0) hx hb hr rfl (fun t9_ ht hW => ⟨⟨0, (), rfl, by (try dsimp only); (have et : vF 2 mn = 0 := by obtain ⟨d9, hd9, e9⟩ := limb0N hlr (q := mn) (by omega); rw [e9, nI_toInt (by omega)] at t_6; rw [e9, show d9 = 0 by omega]; exact nI_0); exact Or.inr ⟨rfl, by rw [lv28_skip0 et]; exact lv28_less mn (k := kk) (by omega) (hlr.mono (by omega)) (fun q h1 h2 => by rw [Nat.zero_add]; exact heq q (by omega) h2) (by rw [Nat.zero_add]; omega)⟩, by rw [ht]; exact hP, hD⟩, hS.F ht⟩) hS.2.2 dX12_isMore_54
          · have t_46 : ¬ (((vF 2) kk)).toInt ≤ (((vF 3) kk)).toInt := toI_nle c_46 rfl rfl
            refine lv_iconst (v := 1) hx hb dX12_isMore_49 (by decide) ?_
            refine lv_goto (tgt := 54) hx hb dX12_isMore_50 (by decide) ?_
            refine W.widen (k := 0) (n := 0) (by decide +kernel) (by decide +kernel) ?_
            exact W.zret (v := 1) hx hb hr rfl (fun t9_ ht hW => ⟨⟨1, (), rfl, by (try dsimp only); (have et : vF 2 mn = 0 := by obtain ⟨d9, hd9, e9⟩ := limb0N hlr (q := mn) (by omega); rw [e9, nI_toInt (by omega)] at t_6; rw [e9, show d9 = 0 by omega]; exact nI_0); exact Or.inl ⟨rfl, by rw [lv28_skip0 et]; exact Nat.le_of_lt (lv28_less mn (k := kk) (by omega) hl3 (fun q h1 h2 => by rw [Nat.zero_add]; exact (heq q (by omega) h2).symm) (by rw [Nat.zero_add]; omega))⟩, by rw [ht]; exact hP, hD⟩, hS.F ht⟩) hS.2.2 dX12_isMore_54
  · have t_6 : ¬ (((vF 2) mn)).toInt ≤ 0 := toI_nle c_6 rfl (by decide)
    refine lv_iconst (v := 1) hx hb dX12_isMore_9 (by decide) ?_
    refine W.widen (k := 0) (n := 0) (by decide +kernel) (by decide +kernel) ?_
    exact W.zret (v := 1) hx hb hr rfl (fun t9_ ht hW => ⟨⟨1, (), rfl, by (try dsimp only); exact Or.inl ⟨rfl, by obtain ⟨d9, hd9, e9⟩ := limb0N hlr (q := mn) (by omega); rw [e9, nI_toInt (by omega)] at t_6; rw [lv28_one0 e9 (by omega)]; exact Nat.le_of_lt (lv28_few0 hl3 (by omega))⟩, by rw [ht]; exact hP, hD⟩, hS.F ht⟩) hS.2.2 dX12_isMore_10
end
section
theorem gdA {a b : List Cond} (h1 : a.all goodWord = true) (h2 : b.all goodWord = true) : (a ++ b).all goodWord = true := by rw [List.all_append, h1, h2]; rfl
theorem gdC {c : Cond} {a : List Cond} (h1 : goodWord c = true) (h2 : a.all goodWord = true) : (c :: a).all goodWord = true := by rw [List.all_cons, h1, h2]; rfl
theorem gdV {own C : String} {idx : Nat} {y : MethodName} {ws : List Cond} (h1 : ([.methodLink own idx y, .instanceMethod y, .selects C y y, .initialized C] : List Cond).all goodWord = true) (h2 : ws.all goodWord = true) : (wsV own idx C y ws).all goodWord = true := gdA h1 h2
theorem gdS {own : String} {idx : Nat} {y : MethodName} {ws : List Cond} (h1 : ([.methodLink own idx y, .static y, .initialized y.cls] : List Cond).all goodWord = true) (h2 : ws.all goodWord = true) : (va_wsS own idx y ws).all goodWord = true := gdA h1 h2
theorem gdwsX120 : wsX120.all goodWord = true := by decide +kernel
theorem gdwsRX12_sign : wsRX12_sign.all goodWord = true := gdC rfl (gdA (by decide +kernel : ([.fieldLink RX12 7 "OptimaWorksModel" "big" "[I"] : List Cond).all goodWord = true) gdwsX120)
theorem gdwsRX12_turn : wsRX12_turn.all goodWord = true := gdC rfl (gdA (by decide +kernel : ([.fieldLink RX12 7 "OptimaWorksModel" "big" "[I"] : List Cond).all goodWord = true) gdwsX120)
theorem gdwsRX12_copy : wsRX12_copy.all goodWord = true := gdC rfl (gdA (by decide +kernel : ([.fieldLink RX12 7 "OptimaWorksModel" "big" "[I"] : List Cond).all goodWord = true) gdwsX120)
theorem gdwsRX12_at : wsRX12_at.all goodWord = true := gdC rfl (gdA (by decide +kernel : ([.fieldLink RX12 396 "OptimaWorksModel" "columns" "I"] : List Cond).all goodWord = true) gdwsX120)
theorem gdwsRX12_place1 : wsRX12_place1.all goodWord = true := gdC rfl (gdA (by decide +kernel : ([.fieldLink RX12 396 "OptimaWorksModel" "columns" "I"] : List Cond).all goodWord = true) gdwsX120)
theorem gdwsRX12_exchange : wsRX12_exchange.all goodWord = true := gdC rfl (gdA (by decide +kernel : ([.fieldLink RX12 23 "OptimaWorksModel" "columnOf" "[I", .fieldLink RX12 26 "OptimaWorksModel" "rowOf" "[I"] : List Cond).all goodWord = true) gdwsX120)
theorem gdwsRX12_put : wsRX12_put.all goodWord = true := gdC rfl (gdA (by decide +kernel : ([.fieldLink RX12 7 "OptimaWorksModel" "big" "[I", .constantLong RX12 351 268435455] : List Cond).all goodWord = true) gdwsX120)
theorem gdwsRX12_bare : wsRX12_bare.all goodWord = true := gdC rfl (gdA (by decide +kernel : ([.fieldLink RX12 7 "OptimaWorksModel" "big" "[I"] : List Cond).all goodWord = true) gdwsX120)
theorem gdwsRX12_compare : wsRX12_compare.all goodWord = true := gdC rfl (gdA (gdA (gdA (by decide +kernel : ([] : List Cond).all goodWord = true) gdwsX120) (gdV (by decide +kernel) gdwsRX12_sign)) (gdV (by decide +kernel) gdwsRX12_bare))
theorem gdwsRX12_carry : wsRX12_carry.all goodWord = true := gdC rfl (gdA (by decide +kernel : ([.fieldLink RX12 7 "OptimaWorksModel" "big" "[I", .constantLong RX12 351 268435455, .fieldLink RX12 13 "OptimaWorksModel" "sum" "[J"] : List Cond).all goodWord = true) gdwsX120)
theorem gdwsRX12_add : wsRX12_add.all goodWord = true := gdC rfl (gdA (gdA (gdA (gdA (by decide +kernel : ([.fieldLink RX12 7 "OptimaWorksModel" "big" "[I", .fieldLink RX12 13 "OptimaWorksModel" "sum" "[J"] : List Cond).all goodWord = true) gdwsX120) (gdV (by decide +kernel) gdwsRX12_sign)) (gdV (by decide +kernel) gdwsRX12_carry)) (gdV (by decide +kernel) gdwsRX12_bare))
theorem gdwsRX12_times : wsRX12_times.all goodWord = true := gdC rfl (gdA (gdA (gdA (by decide +kernel : ([.fieldLink RX12 7 "OptimaWorksModel" "big" "[I", .fieldLink RX12 13 "OptimaWorksModel" "sum" "[J", .constantLong RX12 351 268435455] : List Cond).all goodWord = true) gdwsX120) (gdV (by decide +kernel) gdwsRX12_sign)) (gdV (by decide +kernel) gdwsRX12_carry))
theorem gdwsRX12_isMore : wsRX12_isMore.all goodWord = true := gdC rfl (gdA (by decide +kernel : ([.fieldLink RX12 17 "OptimaWorksModel" "rest" "[I", .fieldLink RX12 20 "OptimaWorksModel" "less" "[I"] : List Cond).all goodWord = true) gdwsX120)
end
section
/-- out of the arithmetic's sight -/
def Hid (P : Prop) : Prop := P
theorem Hid.out {P : Prop} (h : Hid P) : P := h
end
section
theorem hd_yX12_copy_RX12 : yX12_copy.cls = RX12 ∧ yX12_copy.cls ≠ "java/lang/invoke/MethodHandle" ∧ yX12_copy.cls ≠ "java/lang/invoke/VarHandle" ∧ (parseMethodDescriptor yX12_copy.desc).map (fun d => d.parameters.length) = some 2 := by decide +kernel
theorem hd_yX12_put_RX12 : yX12_put.cls = RX12 ∧ yX12_put.cls ≠ "java/lang/invoke/MethodHandle" ∧ yX12_put.cls ≠ "java/lang/invoke/VarHandle" ∧ (parseMethodDescriptor yX12_put.desc).map (fun d => d.parameters.length) = some 2 := by decide +kernel
theorem hd_yX12_isMore_RX12 : yX12_isMore.cls = RX12 ∧ yX12_isMore.cls ≠ "java/lang/invoke/MethodHandle" ∧ yX12_isMore.cls ≠ "java/lang/invoke/VarHandle" ∧ (parseMethodDescriptor yX12_isMore.desc).map (fun d => d.parameters.length) = some 1 := by decide +kernel
theorem dX12_divide_0 : decode cX12_divide 0 = .ok (.aload_n 0, 1) := dk_42 (by decide +kernel)
theorem dX12_divide_1 : decode cX12_divide 1 = .ok (.getfield 7, 3) := dk_180 (by decide +kernel)
theorem dX12_divide_4 : decode cX12_divide 4 = .ok (.bipush 24, 2) := dk_16 (by decide +kernel)
theorem dX12_divide_6 : decode cX12_divide 6 = .ok (.iload_n 3, 1) := dk_29 (by decide +kernel)
theorem dX12_divide_7 : decode cX12_divide 7 = .ok (.imul, 1) := dk_104 (by decide +kernel)
theorem dX12_divide_8 : decode cX12_divide 8 = .ok (.iconst 1, 1) := dk_4 (by decide +kernel)
theorem dX12_divide_9 : decode cX12_divide 9 = .ok (.iadd, 1) := dk_96 (by decide +kernel)
theorem dX12_divide_10 : decode cX12_divide 10 = .ok (.iaload, 1) := dk_46 (by decide +kernel)
theorem dX12_divide_11 : decode cX12_divide 11 = .ok (.istore 5, 2) := dk_54 (by decide +kernel)
theorem dX12_divide_13 : decode cX12_divide 13 = .ok (.aload_n 0, 1) := dk_42 (by decide +kernel)
theorem dX12_divide_14 : decode cX12_divide 14 = .ok (.getfield 7, 3) := dk_180 (by decide +kernel)
theorem dX12_divide_17 : decode cX12_divide 17 = .ok (.bipush 24, 2) := dk_16 (by decide +kernel)
theorem dX12_divide_19 : decode cX12_divide 19 = .ok (.iload 4, 2) := dk_21 (by decide +kernel)
theorem dX12_divide_21 : decode cX12_divide 21 = .ok (.imul, 1) := dk_104 (by decide +kernel)
theorem dX12_divide_22 : decode cX12_divide 22 = .ok (.iconst 1, 1) := dk_4 (by decide +kernel)
theorem dX12_divide_23 : decode cX12_divide 23 = .ok (.iadd, 1) := dk_96 (by decide +kernel)
theorem dX12_divide_24 : decode cX12_divide 24 = .ok (.iaload, 1) := dk_46 (by decide +kernel)
theorem dX12_divide_25 : decode cX12_divide 25 = .ok (.istore 6, 2) := dk_54 (by decide +kernel)
theorem dX12_divide_27 : decode cX12_divide 27 = .ok (.aload_n 0, 1) := dk_42 (by decide +kernel)
theorem dX12_divide_28 : decode cX12_divide 28 = .ok (.iload_n 3, 1) := dk_29 (by decide +kernel)
theorem dX12_divide_29 : decode cX12_divide 29 = .ok (.invokevirtual 353, 3) := dk_182 (by decide +kernel)
theorem dX12_divide_32 : decode cX12_divide 32 = .ok (.istore 7, 2) := dk_54 (by decide +kernel)
theorem dX12_divide_34 : decode cX12_divide 34 = .ok (.aload_n 0, 1) := dk_42 (by decide +kernel)
theorem dX12_divide_35 : decode cX12_divide 35 = .ok (.iload 4, 2) := dk_21 (by decide +kernel)
theorem dX12_divide_37 : decode cX12_divide 37 = .ok (.invokevirtual 353, 3) := dk_182 (by decide +kernel)
theorem dX12_divide_40 : decode cX12_divide 40 = .ok (.istore 8, 2) := dk_54 (by decide +kernel)
theorem dX12_divide_42 : decode cX12_divide 42 = .ok (.iload 5, 2) := dk_21 (by decide +kernel)
theorem dX12_divide_44 : decode cX12_divide 44 = .ok (.iload 6, 2) := dk_21 (by decide +kernel)
theorem dX12_divide_46 : decode cX12_divide 46 = .ok (.if_icmp .lt 13, 3) := dk_161 (by decide +kernel)
theorem dX12_divide_49 : decode cX12_divide 49 = .ok (.aload_n 0, 1) := dk_42 (by decide +kernel)
theorem dX12_divide_50 : decode cX12_divide 50 = .ok (.iload_n 3, 1) := dk_29 (by decide +kernel)
theorem dX12_divide_51 : decode cX12_divide 51 = .ok (.iload 4, 2) := dk_21 (by decide +kernel)
theorem dX12_divide_53 : decode cX12_divide 53 = .ok (.invokevirtual 357, 3) := dk_182 (by decide +kernel)
theorem dX12_divide_56 : decode cX12_divide 56 = .ok (.ifCond .ge 16, 3) := dk_156 (by decide +kernel)
theorem dX12_divide_59 : decode cX12_divide 59 = .ok (.aload_n 0, 1) := dk_42 (by decide +kernel)
theorem dX12_divide_60 : decode cX12_divide 60 = .ok (.iload_n 2, 1) := dk_28 (by decide +kernel)
theorem dX12_divide_61 : decode cX12_divide 61 = .ok (.iload_n 3, 1) := dk_29 (by decide +kernel)
theorem dX12_divide_62 : decode cX12_divide 62 = .ok (.invokevirtual 365, 3) := dk_182 (by decide +kernel)
theorem dX12_divide_65 : decode cX12_divide 65 = .ok (.aload_n 0, 1) := dk_42 (by decide +kernel)
theorem dX12_divide_66 : decode cX12_divide 66 = .ok (.iload_n 1, 1) := dk_27 (by decide +kernel)
theorem dX12_divide_67 : decode cX12_divide 67 = .ok (.lconst 0, 1) := dk_9 (by decide +kernel)
theorem dX12_divide_68 : decode cX12_divide 68 = .ok (.invokevirtual 369, 3) := dk_182 (by decide +kernel)
theorem dX12_divide_71 : decode cX12_divide 71 = .ok (.return_, 1) := dk_177 (by decide +kernel)
theorem dX12_divide_72 : decode cX12_divide 72 = .ok (.iconst 0, 1) := dk_3 (by decide +kernel)
theorem dX12_divide_73 : decode cX12_divide 73 = .ok (.istore 9, 2) := dk_54 (by decide +kernel)
theorem dX12_divide_75 : decode cX12_divide 75 = .ok (.iload 9, 2) := dk_21 (by decide +kernel)
theorem dX12_divide_77 : decode cX12_divide 77 = .ok (.iload 6, 2) := dk_21 (by decide +kernel)
theorem dX12_divide_79 : decode cX12_divide 79 = .ok (.iconst 1, 1) := dk_4 (by decide +kernel)
theorem dX12_divide_80 : decode cX12_divide 80 = .ok (.iadd, 1) := dk_96 (by decide +kernel)
theorem dX12_divide_81 : decode cX12_divide 81 = .ok (.if_icmp .gt 17, 3) := dk_163 (by decide +kernel)
theorem dX12_divide_84 : decode cX12_divide 84 = .ok (.aload_n 0, 1) := dk_42 (by decide +kernel)
theorem dX12_divide_85 : decode cX12_divide 85 = .ok (.getfield 17, 3) := dk_180 (by decide +kernel)
theorem dX12_divide_88 : decode cX12_divide 88 = .ok (.iload 9, 2) := dk_21 (by decide +kernel)
theorem dX12_divide_90 : decode cX12_divide 90 = .ok (.iconst 0, 1) := dk_3 (by decide +kernel)
theorem dX12_divide_91 : decode cX12_divide 91 = .ok (.iastore, 1) := dk_79 (by decide +kernel)
theorem dX12_divide_92 : decode cX12_divide 92 = .ok (.iinc 9 1, 3) := dk_132 (by decide +kernel)
theorem dX12_divide_95 : decode cX12_divide 95 = .ok (.goto (-20), 3) := dk_167 (by decide +kernel)
theorem dX12_divide_98 : decode cX12_divide 98 = .ok (.iconst 0, 1) := dk_3 (by decide +kernel)
theorem dX12_divide_99 : decode cX12_divide 99 = .ok (.istore 9, 2) := dk_54 (by decide +kernel)
theorem dX12_divide_101 : decode cX12_divide 101 = .ok (.iload 9, 2) := dk_21 (by decide +kernel)
theorem dX12_divide_103 : decode cX12_divide 103 = .ok (.iload 5, 2) := dk_21 (by decide +kernel)
theorem dX12_divide_105 : decode cX12_divide 105 = .ok (.if_icmp .ge 17, 3) := dk_162 (by decide +kernel)
theorem dX12_divide_108 : decode cX12_divide 108 = .ok (.aload_n 0, 1) := dk_42 (by decide +kernel)
theorem dX12_divide_109 : decode cX12_divide 109 = .ok (.getfield 13, 3) := dk_180 (by decide +kernel)
theorem dX12_divide_112 : decode cX12_divide 112 = .ok (.iload 9, 2) := dk_21 (by decide +kernel)
theorem dX12_divide_114 : decode cX12_divide 114 = .ok (.lconst 0, 1) := dk_9 (by decide +kernel)
theorem dX12_divide_115 : decode cX12_divide 115 = .ok (.lastore, 1) := dk_80 (by decide +kernel)
theorem dX12_divide_116 : decode cX12_divide 116 = .ok (.iinc 9 1, 3) := dk_132 (by decide +kernel)
theorem dX12_divide_119 : decode cX12_divide 119 = .ok (.goto (-18), 3) := dk_167 (by decide +kernel)
theorem dX12_divide_122 : decode cX12_divide 122 = .ok (.iconst 0, 1) := dk_3 (by decide +kernel)
theorem dX12_divide_123 : decode cX12_divide 123 = .ok (.istore 9, 2) := dk_54 (by decide +kernel)
theorem dX12_divide_125 : decode cX12_divide 125 = .ok (.iload 9, 2) := dk_21 (by decide +kernel)
theorem dX12_divide_127 : decode cX12_divide 127 = .ok (.iload 6, 2) := dk_21 (by decide +kernel)
theorem dX12_divide_129 : decode cX12_divide 129 = .ok (.if_icmp .ge 31, 3) := dk_162 (by decide +kernel)
theorem dX12_divide_132 : decode cX12_divide 132 = .ok (.aload_n 0, 1) := dk_42 (by decide +kernel)
theorem dX12_divide_133 : decode cX12_divide 133 = .ok (.getfield 20, 3) := dk_180 (by decide +kernel)
theorem dX12_divide_136 : decode cX12_divide 136 = .ok (.iload 9, 2) := dk_21 (by decide +kernel)
theorem dX12_divide_138 : decode cX12_divide 138 = .ok (.aload_n 0, 1) := dk_42 (by decide +kernel)
theorem dX12_divide_139 : decode cX12_divide 139 = .ok (.getfield 7, 3) := dk_180 (by decide +kernel)
theorem dX12_divide_142 : decode cX12_divide 142 = .ok (.bipush 24, 2) := dk_16 (by decide +kernel)
theorem dX12_divide_144 : decode cX12_divide 144 = .ok (.iload 4, 2) := dk_21 (by decide +kernel)
theorem dX12_divide_146 : decode cX12_divide 146 = .ok (.imul, 1) := dk_104 (by decide +kernel)
theorem dX12_divide_147 : decode cX12_divide 147 = .ok (.iconst 2, 1) := dk_5 (by decide +kernel)
theorem dX12_divide_148 : decode cX12_divide 148 = .ok (.iadd, 1) := dk_96 (by decide +kernel)
theorem dX12_divide_149 : decode cX12_divide 149 = .ok (.iload 9, 2) := dk_21 (by decide +kernel)
theorem dX12_divide_151 : decode cX12_divide 151 = .ok (.iadd, 1) := dk_96 (by decide +kernel)
theorem dX12_divide_152 : decode cX12_divide 152 = .ok (.iaload, 1) := dk_46 (by decide +kernel)
theorem dX12_divide_153 : decode cX12_divide 153 = .ok (.iastore, 1) := dk_79 (by decide +kernel)
theorem dX12_divide_154 : decode cX12_divide 154 = .ok (.iinc 9 1, 3) := dk_132 (by decide +kernel)
theorem dX12_divide_157 : decode cX12_divide 157 = .ok (.goto (-32), 3) := dk_167 (by decide +kernel)
theorem dX12_divide_160 : decode cX12_divide 160 = .ok (.iload 6, 2) := dk_21 (by decide +kernel)
theorem dX12_divide_162 : decode cX12_divide 162 = .ok (.iconst 1, 1) := dk_4 (by decide +kernel)
theorem dX12_divide_163 : decode cX12_divide 163 = .ok (.if_icmp .ne 106, 3) := dk_160 (by decide +kernel)
theorem dX12_divide_166 : decode cX12_divide 166 = .ok (.lconst 0, 1) := dk_9 (by decide +kernel)
theorem dX12_divide_167 : decode cX12_divide 167 = .ok (.lstore 9, 2) := dk_55 (by decide +kernel)
theorem dX12_divide_169 : decode cX12_divide 169 = .ok (.iload 5, 2) := dk_21 (by decide +kernel)
theorem dX12_divide_171 : decode cX12_divide 171 = .ok (.iconst 1, 1) := dk_4 (by decide +kernel)
theorem dX12_divide_172 : decode cX12_divide 172 = .ok (.isub, 1) := dk_100 (by decide +kernel)
theorem dX12_divide_173 : decode cX12_divide 173 = .ok (.istore 11, 2) := dk_54 (by decide +kernel)
theorem dX12_divide_175 : decode cX12_divide 175 = .ok (.iload 11, 2) := dk_21 (by decide +kernel)
theorem dX12_divide_177 : decode cX12_divide 177 = .ok (.ifCond .lt 61, 3) := dk_155 (by decide +kernel)
theorem dX12_divide_180 : decode cX12_divide 180 = .ok (.lload 9, 2) := dk_22 (by decide +kernel)
theorem dX12_divide_182 : decode cX12_divide 182 = .ok (.bipush 28, 2) := dk_16 (by decide +kernel)
theorem dX12_divide_184 : decode cX12_divide 184 = .ok (.lshl, 1) := dk_121 (by decide +kernel)
theorem dX12_divide_185 : decode cX12_divide 185 = .ok (.aload_n 0, 1) := dk_42 (by decide +kernel)
theorem dX12_divide_186 : decode cX12_divide 186 = .ok (.getfield 7, 3) := dk_180 (by decide +kernel)
theorem dX12_divide_189 : decode cX12_divide 189 = .ok (.bipush 24, 2) := dk_16 (by decide +kernel)
theorem dX12_divide_191 : decode cX12_divide 191 = .ok (.iload_n 3, 1) := dk_29 (by decide +kernel)
theorem dX12_divide_192 : decode cX12_divide 192 = .ok (.imul, 1) := dk_104 (by decide +kernel)
theorem dX12_divide_193 : decode cX12_divide 193 = .ok (.iconst 2, 1) := dk_5 (by decide +kernel)
theorem dX12_divide_194 : decode cX12_divide 194 = .ok (.iadd, 1) := dk_96 (by decide +kernel)
theorem dX12_divide_195 : decode cX12_divide 195 = .ok (.iload 11, 2) := dk_21 (by decide +kernel)
theorem dX12_divide_197 : decode cX12_divide 197 = .ok (.iadd, 1) := dk_96 (by decide +kernel)
theorem dX12_divide_198 : decode cX12_divide 198 = .ok (.iaload, 1) := dk_46 (by decide +kernel)
theorem dX12_divide_199 : decode cX12_divide 199 = .ok (.i2l, 1) := dk_133 (by decide +kernel)
theorem dX12_divide_200 : decode cX12_divide 200 = .ok (.lor, 1) := dk_129 (by decide +kernel)
theorem dX12_divide_201 : decode cX12_divide 201 = .ok (.lstore 12, 2) := dk_55 (by decide +kernel)
theorem dX12_divide_203 : decode cX12_divide 203 = .ok (.aload_n 0, 1) := dk_42 (by decide +kernel)
theorem dX12_divide_204 : decode cX12_divide 204 = .ok (.getfield 13, 3) := dk_180 (by decide +kernel)
theorem dX12_divide_207 : decode cX12_divide 207 = .ok (.iload 11, 2) := dk_21 (by decide +kernel)
theorem dX12_divide_209 : decode cX12_divide 209 = .ok (.lload 12, 2) := dk_22 (by decide +kernel)
theorem dX12_divide_211 : decode cX12_divide 211 = .ok (.aload_n 0, 1) := dk_42 (by decide +kernel)
theorem dX12_divide_212 : decode cX12_divide 212 = .ok (.getfield 20, 3) := dk_180 (by decide +kernel)
theorem dX12_divide_215 : decode cX12_divide 215 = .ok (.iconst 0, 1) := dk_3 (by decide +kernel)
theorem dX12_divide_216 : decode cX12_divide 216 = .ok (.iaload, 1) := dk_46 (by decide +kernel)
theorem dX12_divide_217 : decode cX12_divide 217 = .ok (.i2l, 1) := dk_133 (by decide +kernel)
theorem dX12_divide_218 : decode cX12_divide 218 = .ok (.ldiv, 1) := dk_109 (by decide +kernel)
theorem dX12_divide_219 : decode cX12_divide 219 = .ok (.lastore, 1) := dk_80 (by decide +kernel)
theorem dX12_divide_220 : decode cX12_divide 220 = .ok (.lload 12, 2) := dk_22 (by decide +kernel)
theorem dX12_divide_222 : decode cX12_divide 222 = .ok (.aload_n 0, 1) := dk_42 (by decide +kernel)
theorem dX12_divide_223 : decode cX12_divide 223 = .ok (.getfield 20, 3) := dk_180 (by decide +kernel)
theorem dX12_divide_226 : decode cX12_divide 226 = .ok (.iconst 0, 1) := dk_3 (by decide +kernel)
theorem dX12_divide_227 : decode cX12_divide 227 = .ok (.iaload, 1) := dk_46 (by decide +kernel)
theorem dX12_divide_228 : decode cX12_divide 228 = .ok (.i2l, 1) := dk_133 (by decide +kernel)
theorem dX12_divide_229 : decode cX12_divide 229 = .ok (.lrem, 1) := dk_113 (by decide +kernel)
theorem dX12_divide_230 : decode cX12_divide 230 = .ok (.lstore 9, 2) := dk_55 (by decide +kernel)
theorem dX12_divide_232 : decode cX12_divide 232 = .ok (.iinc 11 (-1), 3) := dk_132 (by decide +kernel)
theorem dX12_divide_235 : decode cX12_divide 235 = .ok (.goto (-60), 3) := dk_167 (by decide +kernel)
theorem dX12_divide_238 : decode cX12_divide 238 = .ok (.aload_n 0, 1) := dk_42 (by decide +kernel)
theorem dX12_divide_239 : decode cX12_divide 239 = .ok (.iload_n 1, 1) := dk_27 (by decide +kernel)
theorem dX12_divide_240 : decode cX12_divide 240 = .ok (.iload 5, 2) := dk_21 (by decide +kernel)
theorem dX12_divide_242 : decode cX12_divide 242 = .ok (.iload 7, 2) := dk_21 (by decide +kernel)
theorem dX12_divide_244 : decode cX12_divide 244 = .ok (.iload 8, 2) := dk_21 (by decide +kernel)
theorem dX12_divide_246 : decode cX12_divide 246 = .ok (.imul, 1) := dk_104 (by decide +kernel)
theorem dX12_divide_247 : decode cX12_divide 247 = .ok (.invokevirtual 361, 3) := dk_182 (by decide +kernel)
theorem dX12_divide_250 : decode cX12_divide 250 = .ok (.aload_n 0, 1) := dk_42 (by decide +kernel)
theorem dX12_divide_251 : decode cX12_divide 251 = .ok (.iload_n 2, 1) := dk_28 (by decide +kernel)
theorem dX12_divide_252 : decode cX12_divide 252 = .ok (.iload 7, 2) := dk_21 (by decide +kernel)
theorem dX12_divide_254 : decode cX12_divide 254 = .ok (.ifCond .ge 9, 3) := dk_156 (by decide +kernel)
theorem dX12_divide_257 : decode cX12_divide 257 = .ok (.lload 9, 2) := dk_22 (by decide +kernel)
theorem dX12_divide_259 : decode cX12_divide 259 = .ok (.lneg, 1) := dk_117 (by decide +kernel)
theorem dX12_divide_260 : decode cX12_divide 260 = .ok (.goto 5, 3) := dk_167 (by decide +kernel)
theorem dX12_divide_263 : decode cX12_divide 263 = .ok (.lload 9, 2) := dk_22 (by decide +kernel)
theorem dX12_divide_265 : decode cX12_divide 265 = .ok (.invokevirtual 369, 3) := dk_182 (by decide +kernel)
theorem dX12_divide_268 : decode cX12_divide 268 = .ok (.return_, 1) := dk_177 (by decide +kernel)
theorem dX12_divide_269 : decode cX12_divide 269 = .ok (.iload 5, 2) := dk_21 (by decide +kernel)
theorem dX12_divide_271 : decode cX12_divide 271 = .ok (.iconst 1, 1) := dk_4 (by decide +kernel)
theorem dX12_divide_272 : decode cX12_divide 272 = .ok (.isub, 1) := dk_100 (by decide +kernel)
theorem dX12_divide_273 : decode cX12_divide 273 = .ok (.istore 9, 2) := dk_54 (by decide +kernel)
theorem dX12_divide_275 : decode cX12_divide 275 = .ok (.iload 9, 2) := dk_21 (by decide +kernel)
theorem dX12_divide_277 : decode cX12_divide 277 = .ok (.ifCond .lt 206, 3) := dk_155 (by decide +kernel)
theorem dX12_divide_280 : decode cX12_divide 280 = .ok (.bipush 27, 2) := dk_16 (by decide +kernel)
theorem dX12_divide_282 : decode cX12_divide 282 = .ok (.istore 10, 2) := dk_54 (by decide +kernel)
theorem dX12_divide_284 : decode cX12_divide 284 = .ok (.iload 10, 2) := dk_21 (by decide +kernel)
theorem dX12_divide_286 : decode cX12_divide 286 = .ok (.ifCond .lt 191, 3) := dk_155 (by decide +kernel)
theorem dX12_divide_289 : decode cX12_divide 289 = .ok (.aload_n 0, 1) := dk_42 (by decide +kernel)
theorem dX12_divide_290 : decode cX12_divide 290 = .ok (.getfield 7, 3) := dk_180 (by decide +kernel)
theorem dX12_divide_293 : decode cX12_divide 293 = .ok (.bipush 24, 2) := dk_16 (by decide +kernel)
theorem dX12_divide_295 : decode cX12_divide 295 = .ok (.iload_n 3, 1) := dk_29 (by decide +kernel)
theorem dX12_divide_296 : decode cX12_divide 296 = .ok (.imul, 1) := dk_104 (by decide +kernel)
theorem dX12_divide_297 : decode cX12_divide 297 = .ok (.iconst 2, 1) := dk_5 (by decide +kernel)
theorem dX12_divide_298 : decode cX12_divide 298 = .ok (.iadd, 1) := dk_96 (by decide +kernel)
theorem dX12_divide_299 : decode cX12_divide 299 = .ok (.iload 9, 2) := dk_21 (by decide +kernel)
theorem dX12_divide_301 : decode cX12_divide 301 = .ok (.iadd, 1) := dk_96 (by decide +kernel)
theorem dX12_divide_302 : decode cX12_divide 302 = .ok (.iaload, 1) := dk_46 (by decide +kernel)
theorem dX12_divide_303 : decode cX12_divide 303 = .ok (.iload 10, 2) := dk_21 (by decide +kernel)
theorem dX12_divide_305 : decode cX12_divide 305 = .ok (.ishr, 1) := dk_122 (by decide +kernel)
theorem dX12_divide_306 : decode cX12_divide 306 = .ok (.iconst 1, 1) := dk_4 (by decide +kernel)
theorem dX12_divide_307 : decode cX12_divide 307 = .ok (.iand, 1) := dk_126 (by decide +kernel)
theorem dX12_divide_308 : decode cX12_divide 308 = .ok (.istore 11, 2) := dk_54 (by decide +kernel)
theorem dX12_divide_310 : decode cX12_divide 310 = .ok (.iconst 0, 1) := dk_3 (by decide +kernel)
theorem dX12_divide_311 : decode cX12_divide 311 = .ok (.istore 12, 2) := dk_54 (by decide +kernel)
theorem dX12_divide_313 : decode cX12_divide 313 = .ok (.iload 12, 2) := dk_21 (by decide +kernel)
theorem dX12_divide_315 : decode cX12_divide 315 = .ok (.iload 6, 2) := dk_21 (by decide +kernel)
theorem dX12_divide_317 : decode cX12_divide 317 = .ok (.if_icmp .gt 43, 3) := dk_163 (by decide +kernel)
theorem dX12_divide_320 : decode cX12_divide 320 = .ok (.aload_n 0, 1) := dk_42 (by decide +kernel)
theorem dX12_divide_321 : decode cX12_divide 321 = .ok (.getfield 17, 3) := dk_180 (by decide +kernel)
theorem dX12_divide_324 : decode cX12_divide 324 = .ok (.iload 12, 2) := dk_21 (by decide +kernel)
theorem dX12_divide_326 : decode cX12_divide 326 = .ok (.iaload, 1) := dk_46 (by decide +kernel)
theorem dX12_divide_327 : decode cX12_divide 327 = .ok (.iconst 1, 1) := dk_4 (by decide +kernel)
theorem dX12_divide_328 : decode cX12_divide 328 = .ok (.ishl, 1) := dk_120 (by decide +kernel)
theorem dX12_divide_329 : decode cX12_divide 329 = .ok (.iload 11, 2) := dk_21 (by decide +kernel)
theorem dX12_divide_331 : decode cX12_divide 331 = .ok (.ior, 1) := dk_128 (by decide +kernel)
theorem dX12_divide_332 : decode cX12_divide 332 = .ok (.istore 13, 2) := dk_54 (by decide +kernel)
theorem dX12_divide_334 : decode cX12_divide 334 = .ok (.iload 13, 2) := dk_21 (by decide +kernel)
theorem dX12_divide_336 : decode cX12_divide 336 = .ok (.bipush 28, 2) := dk_16 (by decide +kernel)
theorem dX12_divide_338 : decode cX12_divide 338 = .ok (.ishr, 1) := dk_122 (by decide +kernel)
theorem dX12_divide_339 : decode cX12_divide 339 = .ok (.istore 11, 2) := dk_54 (by decide +kernel)
theorem dX12_divide_341 : decode cX12_divide 341 = .ok (.aload_n 0, 1) := dk_42 (by decide +kernel)
theorem dX12_divide_342 : decode cX12_divide 342 = .ok (.getfield 17, 3) := dk_180 (by decide +kernel)
theorem dX12_divide_345 : decode cX12_divide 345 = .ok (.iload 12, 2) := dk_21 (by decide +kernel)
theorem dX12_divide_347 : decode cX12_divide 347 = .ok (.iload 13, 2) := dk_21 (by decide +kernel)
theorem dX12_divide_349 : decode cX12_divide 349 = .ok (.ldc_w 373, 3) := dk_19 (by decide +kernel)
theorem dX12_divide_352 : decode cX12_divide 352 = .ok (.iand, 1) := dk_126 (by decide +kernel)
theorem dX12_divide_353 : decode cX12_divide 353 = .ok (.iastore, 1) := dk_79 (by decide +kernel)
theorem dX12_divide_354 : decode cX12_divide 354 = .ok (.iinc 12 1, 3) := dk_132 (by decide +kernel)
theorem dX12_divide_357 : decode cX12_divide 357 = .ok (.goto (-44), 3) := dk_167 (by decide +kernel)
theorem dX12_divide_360 : decode cX12_divide 360 = .ok (.aload_n 0, 1) := dk_42 (by decide +kernel)
theorem dX12_divide_361 : decode cX12_divide 361 = .ok (.iload 6, 2) := dk_21 (by decide +kernel)
theorem dX12_divide_363 : decode cX12_divide 363 = .ok (.invokevirtual 374, 3) := dk_182 (by decide +kernel)
theorem dX12_divide_366 : decode cX12_divide 366 = .ok (.ifCond .ne 6, 3) := dk_154 (by decide +kernel)
theorem dX12_divide_369 : decode cX12_divide 369 = .ok (.goto 102, 3) := dk_167 (by decide +kernel)
theorem dX12_divide_372 : decode cX12_divide 372 = .ok (.iconst 0, 1) := dk_3 (by decide +kernel)
theorem dX12_divide_373 : decode cX12_divide 373 = .ok (.istore 12, 2) := dk_54 (by decide +kernel)
theorem dX12_divide_375 : decode cX12_divide 375 = .ok (.iconst 0, 1) := dk_3 (by decide +kernel)
theorem dX12_divide_376 : decode cX12_divide 376 = .ok (.istore 13, 2) := dk_54 (by decide +kernel)
theorem dX12_divide_378 : decode cX12_divide 378 = .ok (.iload 13, 2) := dk_21 (by decide +kernel)
theorem dX12_divide_380 : decode cX12_divide 380 = .ok (.iload 6, 2) := dk_21 (by decide +kernel)
theorem dX12_divide_382 : decode cX12_divide 382 = .ok (.if_icmp .gt 75, 3) := dk_163 (by decide +kernel)
theorem dX12_divide_385 : decode cX12_divide 385 = .ok (.aload_n 0, 1) := dk_42 (by decide +kernel)
theorem dX12_divide_386 : decode cX12_divide 386 = .ok (.getfield 17, 3) := dk_180 (by decide +kernel)
theorem dX12_divide_389 : decode cX12_divide 389 = .ok (.iload 13, 2) := dk_21 (by decide +kernel)
theorem dX12_divide_391 : decode cX12_divide 391 = .ok (.iaload, 1) := dk_46 (by decide +kernel)
theorem dX12_divide_392 : decode cX12_divide 392 = .ok (.iload 13, 2) := dk_21 (by decide +kernel)
theorem dX12_divide_394 : decode cX12_divide 394 = .ok (.iload 6, 2) := dk_21 (by decide +kernel)
theorem dX12_divide_396 : decode cX12_divide 396 = .ok (.if_icmp .ge 13, 3) := dk_162 (by decide +kernel)
theorem dX12_divide_399 : decode cX12_divide 399 = .ok (.aload_n 0, 1) := dk_42 (by decide +kernel)
theorem dX12_divide_400 : decode cX12_divide 400 = .ok (.getfield 20, 3) := dk_180 (by decide +kernel)
theorem dX12_divide_403 : decode cX12_divide 403 = .ok (.iload 13, 2) := dk_21 (by decide +kernel)
theorem dX12_divide_405 : decode cX12_divide 405 = .ok (.iaload, 1) := dk_46 (by decide +kernel)
theorem dX12_divide_406 : decode cX12_divide 406 = .ok (.goto 4, 3) := dk_167 (by decide +kernel)
theorem dX12_divide_409 : decode cX12_divide 409 = .ok (.iconst 0, 1) := dk_3 (by decide +kernel)
theorem dX12_divide_410 : decode cX12_divide 410 = .ok (.isub, 1) := dk_100 (by decide +kernel)
theorem dX12_divide_411 : decode cX12_divide 411 = .ok (.iload 12, 2) := dk_21 (by decide +kernel)
theorem dX12_divide_413 : decode cX12_divide 413 = .ok (.isub, 1) := dk_100 (by decide +kernel)
theorem dX12_divide_414 : decode cX12_divide 414 = .ok (.istore 14, 2) := dk_54 (by decide +kernel)
theorem dX12_divide_416 : decode cX12_divide 416 = .ok (.iload 14, 2) := dk_21 (by decide +kernel)
theorem dX12_divide_418 : decode cX12_divide 418 = .ok (.ifCond .ge 7, 3) := dk_156 (by decide +kernel)
theorem dX12_divide_421 : decode cX12_divide 421 = .ok (.iconst 1, 1) := dk_4 (by decide +kernel)
theorem dX12_divide_422 : decode cX12_divide 422 = .ok (.goto 4, 3) := dk_167 (by decide +kernel)
theorem dX12_divide_425 : decode cX12_divide 425 = .ok (.iconst 0, 1) := dk_3 (by decide +kernel)
theorem dX12_divide_426 : decode cX12_divide 426 = .ok (.istore 12, 2) := dk_54 (by decide +kernel)
theorem dX12_divide_428 : decode cX12_divide 428 = .ok (.aload_n 0, 1) := dk_42 (by decide +kernel)
theorem dX12_divide_429 : decode cX12_divide 429 = .ok (.getfield 17, 3) := dk_180 (by decide +kernel)
theorem dX12_divide_432 : decode cX12_divide 432 = .ok (.iload 13, 2) := dk_21 (by decide +kernel)
theorem dX12_divide_434 : decode cX12_divide 434 = .ok (.iload 14, 2) := dk_21 (by decide +kernel)
theorem dX12_divide_436 : decode cX12_divide 436 = .ok (.ifCond .ge 12, 3) := dk_156 (by decide +kernel)
theorem dX12_divide_439 : decode cX12_divide 439 = .ok (.iload 14, 2) := dk_21 (by decide +kernel)
theorem dX12_divide_441 : decode cX12_divide 441 = .ok (.ldc_w 378, 3) := dk_19 (by decide +kernel)
theorem dX12_divide_444 : decode cX12_divide 444 = .ok (.iadd, 1) := dk_96 (by decide +kernel)
theorem dX12_divide_445 : decode cX12_divide 445 = .ok (.goto 5, 3) := dk_167 (by decide +kernel)
theorem dX12_divide_448 : decode cX12_divide 448 = .ok (.iload 14, 2) := dk_21 (by decide +kernel)
theorem dX12_divide_450 : decode cX12_divide 450 = .ok (.iastore, 1) := dk_79 (by decide +kernel)
theorem dX12_divide_451 : decode cX12_divide 451 = .ok (.iinc 13 1, 3) := dk_132 (by decide +kernel)
theorem dX12_divide_454 : decode cX12_divide 454 = .ok (.goto (-76), 3) := dk_167 (by decide +kernel)
theorem dX12_divide_457 : decode cX12_divide 457 = .ok (.aload_n 0, 1) := dk_42 (by decide +kernel)
theorem dX12_divide_458 : decode cX12_divide 458 = .ok (.getfield 13, 3) := dk_180 (by decide +kernel)
theorem dX12_divide_461 : decode cX12_divide 461 = .ok (.iload 9, 2) := dk_21 (by decide +kernel)
theorem dX12_divide_463 : decode cX12_divide 463 = .ok (.dup2, 1) := dk_92 (by decide +kernel)
theorem dX12_divide_464 : decode cX12_divide 464 = .ok (.laload, 1) := dk_47 (by decide +kernel)
theorem dX12_divide_465 : decode cX12_divide 465 = .ok (.lconst 1, 1) := dk_10 (by decide +kernel)
theorem dX12_divide_466 : decode cX12_divide 466 = .ok (.iload 10, 2) := dk_21 (by decide +kernel)
theorem dX12_divide_468 : decode cX12_divide 468 = .ok (.lshl, 1) := dk_121 (by decide +kernel)
theorem dX12_divide_469 : decode cX12_divide 469 = .ok (.lor, 1) := dk_129 (by decide +kernel)
theorem dX12_divide_470 : decode cX12_divide 470 = .ok (.lastore, 1) := dk_80 (by decide +kernel)
theorem dX12_divide_471 : decode cX12_divide 471 = .ok (.iinc 10 (-1), 3) := dk_132 (by decide +kernel)
theorem dX12_divide_474 : decode cX12_divide 474 = .ok (.goto (-190), 3) := dk_167 (by decide +kernel)
theorem dX12_divide_477 : decode cX12_divide 477 = .ok (.iinc 9 (-1), 3) := dk_132 (by decide +kernel)
theorem dX12_divide_480 : decode cX12_divide 480 = .ok (.goto (-205), 3) := dk_167 (by decide +kernel)
theorem dX12_divide_483 : decode cX12_divide 483 = .ok (.iload 6, 2) := dk_21 (by decide +kernel)
theorem dX12_divide_485 : decode cX12_divide 485 = .ok (.istore 9, 2) := dk_54 (by decide +kernel)
theorem dX12_divide_487 : decode cX12_divide 487 = .ok (.iload 9, 2) := dk_21 (by decide +kernel)
theorem dX12_divide_489 : decode cX12_divide 489 = .ok (.ifCond .le 21, 3) := dk_158 (by decide +kernel)
theorem dX12_divide_492 : decode cX12_divide 492 = .ok (.aload_n 0, 1) := dk_42 (by decide +kernel)
theorem dX12_divide_493 : decode cX12_divide 493 = .ok (.getfield 17, 3) := dk_180 (by decide +kernel)
theorem dX12_divide_496 : decode cX12_divide 496 = .ok (.iload 9, 2) := dk_21 (by decide +kernel)
theorem dX12_divide_498 : decode cX12_divide 498 = .ok (.iconst 1, 1) := dk_4 (by decide +kernel)
theorem dX12_divide_499 : decode cX12_divide 499 = .ok (.isub, 1) := dk_100 (by decide +kernel)
theorem dX12_divide_500 : decode cX12_divide 500 = .ok (.iaload, 1) := dk_46 (by decide +kernel)
theorem dX12_divide_501 : decode cX12_divide 501 = .ok (.ifCond .ne 9, 3) := dk_154 (by decide +kernel)
theorem dX12_divide_504 : decode cX12_divide 504 = .ok (.iinc 9 (-1), 3) := dk_132 (by decide +kernel)
theorem dX12_divide_507 : decode cX12_divide 507 = .ok (.goto (-20), 3) := dk_167 (by decide +kernel)
theorem dX12_divide_510 : decode cX12_divide 510 = .ok (.aload_n 0, 1) := dk_42 (by decide +kernel)
theorem dX12_divide_511 : decode cX12_divide 511 = .ok (.getfield 7, 3) := dk_180 (by decide +kernel)
theorem dX12_divide_514 : decode cX12_divide 514 = .ok (.bipush 24, 2) := dk_16 (by decide +kernel)
theorem dX12_divide_516 : decode cX12_divide 516 = .ok (.iload_n 2, 1) := dk_28 (by decide +kernel)
theorem dX12_divide_517 : decode cX12_divide 517 = .ok (.imul, 1) := dk_104 (by decide +kernel)
theorem dX12_divide_518 : decode cX12_divide 518 = .ok (.iload 9, 2) := dk_21 (by decide +kernel)
theorem dX12_divide_520 : decode cX12_divide 520 = .ok (.ifCond .ne 7, 3) := dk_154 (by decide +kernel)
theorem dX12_divide_523 : decode cX12_divide 523 = .ok (.iconst 0, 1) := dk_3 (by decide +kernel)
theorem dX12_divide_524 : decode cX12_divide 524 = .ok (.goto 5, 3) := dk_167 (by decide +kernel)
theorem dX12_divide_527 : decode cX12_divide 527 = .ok (.iload 7, 2) := dk_21 (by decide +kernel)
theorem dX12_divide_529 : decode cX12_divide 529 = .ok (.iastore, 1) := dk_79 (by decide +kernel)
theorem dX12_divide_530 : decode cX12_divide 530 = .ok (.aload_n 0, 1) := dk_42 (by decide +kernel)
theorem dX12_divide_531 : decode cX12_divide 531 = .ok (.getfield 7, 3) := dk_180 (by decide +kernel)
theorem dX12_divide_534 : decode cX12_divide 534 = .ok (.bipush 24, 2) := dk_16 (by decide +kernel)
theorem dX12_divide_536 : decode cX12_divide 536 = .ok (.iload_n 2, 1) := dk_28 (by decide +kernel)
theorem dX12_divide_537 : decode cX12_divide 537 = .ok (.imul, 1) := dk_104 (by decide +kernel)
theorem dX12_divide_538 : decode cX12_divide 538 = .ok (.iconst 1, 1) := dk_4 (by decide +kernel)
theorem dX12_divide_539 : decode cX12_divide 539 = .ok (.iadd, 1) := dk_96 (by decide +kernel)
theorem dX12_divide_540 : decode cX12_divide 540 = .ok (.iload 9, 2) := dk_21 (by decide +kernel)
theorem dX12_divide_542 : decode cX12_divide 542 = .ok (.iastore, 1) := dk_79 (by decide +kernel)
theorem dX12_divide_543 : decode cX12_divide 543 = .ok (.iconst 0, 1) := dk_3 (by decide +kernel)
theorem dX12_divide_544 : decode cX12_divide 544 = .ok (.istore 10, 2) := dk_54 (by decide +kernel)
theorem dX12_divide_546 : decode cX12_divide 546 = .ok (.iload 10, 2) := dk_21 (by decide +kernel)
theorem dX12_divide_548 : decode cX12_divide 548 = .ok (.iload 9, 2) := dk_21 (by decide +kernel)
theorem dX12_divide_550 : decode cX12_divide 550 = .ok (.if_icmp .ge 30, 3) := dk_162 (by decide +kernel)
theorem dX12_divide_553 : decode cX12_divide 553 = .ok (.aload_n 0, 1) := dk_42 (by decide +kernel)
theorem dX12_divide_554 : decode cX12_divide 554 = .ok (.getfield 7, 3) := dk_180 (by decide +kernel)
theorem dX12_divide_557 : decode cX12_divide 557 = .ok (.bipush 24, 2) := dk_16 (by decide +kernel)
theorem dX12_divide_559 : decode cX12_divide 559 = .ok (.iload_n 2, 1) := dk_28 (by decide +kernel)
theorem dX12_divide_560 : decode cX12_divide 560 = .ok (.imul, 1) := dk_104 (by decide +kernel)
theorem dX12_divide_561 : decode cX12_divide 561 = .ok (.iconst 2, 1) := dk_5 (by decide +kernel)
theorem dX12_divide_562 : decode cX12_divide 562 = .ok (.iadd, 1) := dk_96 (by decide +kernel)
theorem dX12_divide_563 : decode cX12_divide 563 = .ok (.iload 10, 2) := dk_21 (by decide +kernel)
theorem dX12_divide_565 : decode cX12_divide 565 = .ok (.iadd, 1) := dk_96 (by decide +kernel)
theorem dX12_divide_566 : decode cX12_divide 566 = .ok (.aload_n 0, 1) := dk_42 (by decide +kernel)
theorem dX12_divide_567 : decode cX12_divide 567 = .ok (.getfield 17, 3) := dk_180 (by decide +kernel)
theorem dX12_divide_570 : decode cX12_divide 570 = .ok (.iload 10, 2) := dk_21 (by decide +kernel)
theorem dX12_divide_572 : decode cX12_divide 572 = .ok (.iaload, 1) := dk_46 (by decide +kernel)
theorem dX12_divide_573 : decode cX12_divide 573 = .ok (.iastore, 1) := dk_79 (by decide +kernel)
theorem dX12_divide_574 : decode cX12_divide 574 = .ok (.iinc 10 1, 3) := dk_132 (by decide +kernel)
theorem dX12_divide_577 : decode cX12_divide 577 = .ok (.goto (-31), 3) := dk_167 (by decide +kernel)
theorem dX12_divide_580 : decode cX12_divide 580 = .ok (.aload_n 0, 1) := dk_42 (by decide +kernel)
theorem dX12_divide_581 : decode cX12_divide 581 = .ok (.iload_n 1, 1) := dk_27 (by decide +kernel)
theorem dX12_divide_582 : decode cX12_divide 582 = .ok (.iload 5, 2) := dk_21 (by decide +kernel)
theorem dX12_divide_584 : decode cX12_divide 584 = .ok (.iload 7, 2) := dk_21 (by decide +kernel)
theorem dX12_divide_586 : decode cX12_divide 586 = .ok (.iload 8, 2) := dk_21 (by decide +kernel)
theorem dX12_divide_588 : decode cX12_divide 588 = .ok (.imul, 1) := dk_104 (by decide +kernel)
theorem dX12_divide_589 : decode cX12_divide 589 = .ok (.invokevirtual 361, 3) := dk_182 (by decide +kernel)
theorem dX12_divide_592 : decode cX12_divide 592 = .ok (.return_, 1) := dk_177 (by decide +kernel)
def wsRX12_divide : List Cond := .code yX12_divide cX12_divide 15 none :: ([.fieldLink RX12 7 "OptimaWorksModel" "big" "[I", .fieldLink RX12 17 "OptimaWorksModel" "rest" "[I", .fieldLink RX12 13 "OptimaWorksModel" "sum" "[J", .constant RX12 378 268435456, .fieldLink RX12 20 "OptimaWorksModel" "less" "[I", .constant RX12 373 268435455] ++ wsX120 ++ (wsV RX12 353 RX12 yX12_sign wsRX12_sign) ++ (wsV RX12 365 RX12 yX12_copy wsRX12_copy) ++ (wsV RX12 369 RX12 yX12_put wsRX12_put) ++ (wsV RX12 357 RX12 yX12_bare wsRX12_bare) ++ (wsV RX12 361 RX12 yX12_carry wsRX12_carry) ++ (wsV RX12 374 RX12 yX12_isMore wsRX12_isMore))
theorem iwsRX12_divide_in12 : ∀ w ∈ wsX120, w ∈ wsRX12_divide := fun _ h => List.mem_cons_of_mem _ (List.mem_append_left _ (List.mem_append_left _ (List.mem_append_left _ (List.mem_append_left _ (List.mem_append_left _ (List.mem_append_left _ (List.mem_append_right _ h)))))))
theorem gwsRX12_divide_0 : GoodIn wsRX12_divide (wsV RX12 353 RX12 yX12_sign wsRX12_sign) := goodIn_sub (fun _ h => List.mem_cons_of_mem _ (List.mem_append_left _ (List.mem_append_left _ (List.mem_append_left _ (List.mem_append_left _ (List.mem_append_left _ (List.mem_append_right _ h))))))) (gdV (by decide +kernel) gdwsRX12_sign)
theorem gwsRX12_divide_1 : GoodIn wsRX12_divide (wsV RX12 365 RX12 yX12_copy wsRX12_copy) := goodIn_sub (fun _ h => List.mem_cons_of_mem _ (List.mem_append_left _ (List.mem_append_left _ (List.mem_append_left _ (List.mem_append_left _ (List.mem_append_right _ h)))))) (gdV (by decide +kernel) gdwsRX12_copy)
theorem gwsRX12_divide_2 : GoodIn wsRX12_divide (wsV RX12 369 RX12 yX12_put wsRX12_put) := goodIn_sub (fun _ h => List.mem_cons_of_mem _ (List.mem_append_left _ (List.mem_append_left _ (List.mem_append_left _ (List.mem_append_right _ h))))) (gdV (by decide +kernel) gdwsRX12_put)
theorem gwsRX12_divide_3 : GoodIn wsRX12_divide (wsV RX12 357 RX12 yX12_bare wsRX12_bare) := goodIn_sub (fun _ h => List.mem_cons_of_mem _ (List.mem_append_left _ (List.mem_append_left _ (List.mem_append_right _ h)))) (gdV (by decide +kernel) gdwsRX12_bare)
theorem gwsRX12_divide_4 : GoodIn wsRX12_divide (wsV RX12 361 RX12 yX12_carry wsRX12_carry) := goodIn_sub (fun _ h => List.mem_cons_of_mem _ (List.mem_append_left _ (List.mem_append_right _ h))) (gdV (by decide +kernel) gdwsRX12_carry)
theorem gwsRX12_divide_5 : GoodIn wsRX12_divide (wsV RX12 374 RX12 yX12_isMore wsRX12_isMore) := goodIn_sub (fun _ h => List.mem_cons_of_mem _ (List.mem_append_right _ h)) (gdV (by decide +kernel) gdwsRX12_isMore)
theorem gdwsRX12_divide : wsRX12_divide.all goodWord = true := gdC rfl (gdA (gdA (gdA (gdA (gdA (gdA (gdA (by decide +kernel : ([.fieldLink RX12 7 "OptimaWorksModel" "big" "[I", .fieldLink RX12 17 "OptimaWorksModel" "rest" "[I", .fieldLink RX12 13 "OptimaWorksModel" "sum" "[J", .constant RX12 378 268435456, .fieldLink RX12 20 "OptimaWorksModel" "less" "[I", .constant RX12 373 268435455] : List Cond).all goodWord = true) gdwsX120) (gdV (by decide +kernel) gdwsRX12_sign)) (gdV (by decide +kernel) gdwsRX12_copy)) (gdV (by decide +kernel) gdwsRX12_put)) (gdV (by decide +kernel) gdwsRX12_bare)) (gdV (by decide +kernel) gdwsRX12_carry)) (gdV (by decide +kernel) gdwsRX12_isMore))
theorem hm_r_X12_divide_0 : (.fieldLink RX12 7 "OptimaWorksModel" "big" "[I" : Cond) ∈ wsRX12_divide := by decide +kernel
theorem hm_r_X12_divide_1 : (.fieldLink RX12 17 "OptimaWorksModel" "rest" "[I" : Cond) ∈ wsRX12_divide := by decide +kernel
theorem hm_r_X12_divide_2 : (.fieldLink RX12 13 "OptimaWorksModel" "sum" "[J" : Cond) ∈ wsRX12_divide := by decide +kernel
theorem hm_r_X12_divide_3 : (.constant RX12 378 268435456 : Cond) ∈ wsRX12_divide := by decide +kernel
theorem hm_r_X12_divide_4 : (.fieldLink RX12 20 "OptimaWorksModel" "less" "[I" : Cond) ∈ wsRX12_divide := by decide +kernel
set_option maxHeartbeats 4000000 in
set_option maxRecDepth 100000 in
/-- divide(s, r, a, b) -/
theorem r_X12_divide (l : Launch) (dC : Nat → ClassId) (dI : Nat → Nat → Nat) (a : Nat → Nat) (k : Nat → ClassId) (h0 : Nat) (vi : Nat → Int32) (vj : Nat → Int64) (vF : Nat → Nat → Int32) (vG : Nat → Nat → Int64) (sn : Nat) (rn : Nat) (an : Nat) (bn : Nat) (xa : Int) (xb : Int) (hs : sn < 1100) (hrn : rn < 1100) (hsr : sn ≠ rn) (hra : rn ≠ an) (hna : an < 1100) (hnb : bn < 1100) (hxa : Nu (vF 0) an xa) (hxb : Nu (vF 0) bn xb) (hb0 : xb ≠ 0) (sz : Nat) : Met l yX12_divide wsRX12_divide ({ frames := 1, cells := 0, slots := 0, locals := 28 }) (va_Pc [.ref h0, .int (nI sn), .int (nI rn), .int (nI an), .int (nI bn)] (fun U => U.heap.size = sz ∧ va_P (dC, dI) vwCl (WR a k h0 vi vj vF vG) U.heap ∧ va_K (dC, dI) vwCl (tX12 k) U ∧ va_D (fun _ => True) (WR a k h0 vi vj vF vG))) (va_Qv (fun (u : (Nat → Int32) × (Nat → Int32) × (Nat → Int32) × (Nat → Int64)) => (Nu (u.1) sn (xa.tdiv xb)) ∧ (Nu (u.1) rn (xa.tmod xb)) ∧ (∀ q, (q < 24 * sn ∨ 24 * sn + 24 ≤ q) → (q < 24 * rn ∨ 24 * rn + 24 ≤ q) → (u.1) q = vF 0 q)) (fun (u : (Nat → Int32) × (Nat → Int32) × (Nat → Int32) × (Nat → Int64)) t => va_P (dC, dI) vwCl (WR a k h0 vi vj (fT (fT (fT vF 2 (u.2.1)) 3 (u.2.2.1)) 0 (u.1)) (fT vG 1 (u.2.2.2))) t.heap ∧ va_D (va_A (WR a k h0 vi vj vF vG) sz) (WR a k h0 vi vj (fT (fT (fT vF 2 (u.2.1)) 3 (u.2.2.1)) 0 (u.1)) (fT vG 1 (u.2.2.2)))) (va_A (WR a k h0 vi vj vF vG) sz)) 0 0 (va_A (WR a k h0 vi vj vF vG) sz) := by
  refine Met.ofW (cc := cX12_divide) (maxL := 15) (ret := none) (by decide) rfl ?_
  intro p e s m args below meth c s₁ B hml hv
  obtain ⟨rfl, hsz, hP, hK, hD0⟩ := hv
  have hx := B.exec
  have hb := B.bytes
  have hr := B.returns
  have hts := atoms_spec (ws := wsRX12_divide) B.pre
  have hown : s.vm.findClass RX12 = some m.cls := findClass_of_methodNamed B.named
  have hlocks := B.notSynchronized
  subst hsz
  have hD := hD0.self (sz := s.heap.size)
  generalize hAe : va_A (WR a k h0 vi vj vF vG) s.heap.size = A at hD ⊢
  have hA : ∀ q : Nat, s.heap.size ≤ q → A q := fun q h => by rw [← hAe]; exact Or.inr h
  have hS : va_S A s.heap s.heap [] := va_S.rf
  have hl := lv_entry ([.ref h0, .int (nI sn), .int (nI rn), .int (nI an), .int (nI bn)]) (n := 15) (Nat.le_of_ble_eq_true rfl)
  rw [lg_entry_eq]
  generalize (lg_sl ([.ref h0, .int (nI sn), .int (nI rn), .int (nI an), .int (nI bn)]) ++ List.replicate (15 - (lg_sl ([.ref h0, .int (nI sn), .int (nI rn), .int (nI an), .int (nI bn)])).length) Slot.unset).toArray = ls at hl ⊢
  have hl : lv_has ls 15 [(0, .ref h0), (1, .int (nI sn)), (2, .int (nI rn)), (3, .int (nI an)), (4, .int (nI bn))] := hl
  obtain ⟨na, hna1, hna2, hna3, hna4, hna5, hna6⟩ := id hxa
  obtain ⟨nb_, hnb1, hnb2, hnb3, hnb4, hnb5, hnb6⟩ := id hxb
  have hSA : Hid _ := sgT hna6
  have hSB : Hid _ := sgT hnb6
  clear hna6 hnb6
  obtain ⟨NA9, hNA9⟩ : ∃ NA9, xa.natAbs = NA9 := ⟨_, rfl⟩
  obtain ⟨NB9, hNB9⟩ : ∃ NB9, xb.natAbs = NB9 := ⟨_, rfl⟩
  have hNB0 : 0 < NB9 := by omega
  rw [hNA9] at hna5
  rw [hNB9] at hnb5
  have eNA : Hid (xa.natAbs = NA9) := hNA9
  have eNB : Hid (xb.natAbs = NB9) := hNB9
  have eb0 : Hid (xb ≠ 0) := hb0
  clear hNA9 hNB9 hb0
  refine lv_aload_n hx hb dX12_divide_0 rfl (lv_at hl 0 rfl) ?_
  refine va_get (D := (dC, dI)) (ci := 12) (v := .ref (a 0)) (C := RX12) (T := TX12) (N := 163) (fs := fM (vS a vi vj)) hx hb hts iwsRX12_divide_in12 hown hK hP 0 rfl rfl 1 (by decide) (hts _ hm_r_X12_divide_0) (fun _ h9 => h9) rfl dX12_divide_1 ?_
  refine lv_bipush (v := 24) hx hb dX12_divide_4 (by decide) ?_
  refine lv_iload_n hx hb dX12_divide_6 rfl (lv_at hl 3 rfl) ?_
  refine lv_imul hx hb dX12_divide_7 ?_
  refine lv_topi (fun y1 hy1 => ?_)
  obtain rfl : (nI (24 * an)) = y1 := (hy1.trans (pk_mul 24 an)).symm
  refine lv_iconst (v := 1) hx hb dX12_divide_8 (by decide) ?_
  refine lv_iadd hx hb dX12_divide_9 ?_
  refine lv_topi (fun y2 hy2 => ?_)
  obtain rfl : (nI ((24 * an) + 1)) = y2 := (hy2.trans (nI_add (24 * an) 1)).symm
  refine va_iald (cA := k 0) (n := 26400) (f := (vF 0)) hx hb hK hP 1 0 (WR_get 0 (by decide)) (TR_get 0 (by decide)) (vp_in_nI (show ((24 * an) + 1) < 26400 by omega) (by omega)) dX12_divide_10 ?_
  refine lv_topi (fun y3 hy3 => ?_)
  obtain rfl : ((vF 0) ((24 * an) + 1)) = y3 := (hy3.trans (by rw [nI_clamp (by omega)])).symm
  refine lv_topi (fun y4 hy4 => ?_)
  obtain rfl : (nI na) = y4 := (hy4.trans (hna2)).symm
  refine lv_istore hx hb dX12_divide_11 hl (by decide) rfl (fun ls (hl : lv_has ls _ ([(5, .int (nI na)), (0, .ref h0), (1, .int (nI sn)), (2, .int (nI rn)), (3, .int (nI an)), (4, .int (nI bn))])) => ?_)
  refine lv_aload_n hx hb dX12_divide_13 rfl (lv_at hl 1 rfl) ?_
  refine va_get (D := (dC, dI)) (ci := 12) (v := .ref (a 0)) (C := RX12) (T := TX12) (N := 163) (fs := fM (vS a vi vj)) hx hb hts iwsRX12_divide_in12 hown hK hP 0 rfl rfl 1 (by decide) (hts _ hm_r_X12_divide_0) (fun _ h9 => h9) rfl dX12_divide_14 ?_
  refine lv_bipush (v := 24) hx hb dX12_divide_17 (by decide) ?_
  refine lv_iload hx hb dX12_divide_19 (lv_at hl 5 rfl) ?_
  refine lv_imul hx hb dX12_divide_21 ?_
  refine lv_topi (fun y5 hy5 => ?_)
  obtain rfl : (nI (24 * bn)) = y5 := (hy5.trans (pk_mul 24 bn)).symm
  refine lv_iconst (v := 1) hx hb dX12_divide_22 (by decide) ?_
  refine lv_iadd hx hb dX12_divide_23 ?_
  refine lv_topi (fun y6 hy6 => ?_)
  obtain rfl : (nI ((24 * bn) + 1)) = y6 := (hy6.trans (nI_add (24 * bn) 1)).symm
  refine va_iald (cA := k 0) (n := 26400) (f := (vF 0)) hx hb hK hP 1 0 (WR_get 0 (by decide)) (TR_get 0 (by decide)) (vp_in_nI (show ((24 * bn) + 1) < 26400 by omega) (by omega)) dX12_divide_24 ?_
  refine lv_topi (fun y7 hy7 => ?_)
  obtain rfl : ((vF 0) ((24 * bn) + 1)) = y7 := (hy7.trans (by rw [nI_clamp (by omega)])).symm
  refine lv_topi (fun y8 hy8 => ?_)
  obtain rfl : (nI nb_) = y8 := (hy8.trans (hnb2)).symm
  refine lv_istore hx hb dX12_divide_25 hl (by decide) rfl (fun ls (hl : lv_has ls _ ([(6, .int (nI nb_)), (5, .int (nI na)), (0, .ref h0), (1, .int (nI sn)), (2, .int (nI rn)), (3, .int (nI an)), (4, .int (nI bn))])) => ?_)
  refine lv_aload_n hx hb dX12_divide_27 rfl (lv_at hl 2 rfl) ?_
  refine lv_iload_n hx hb dX12_divide_28 rfl (lv_at hl 5 rfl) ?_
  have hFc := allFree hD hS hA
  refine va_calli (va_runV (As := [.int (nI an)]) (rest := []) ⟨hx, hb, hml, hown, hts⟩ (r_X12_sign l dC dI a k h0 vi vj vF vG an (by first | with_reducible assumption | decide | omega | rfl | assumption) s.heap.size) (cwV 1 hts gwsRX12_divide_0 rfl rfl rfl hd_yX12_sign_RX12 (by decide +kernel)) (fz_pre (va_recv hK hP (ci := 12) (q0 := 0) rfl rfl) hP hK hD) rfl rfl hl.1 rfl (lv_room (Nat.le_of_ble_eq_true rfl)) dX12_divide_29 (by decide +kernel)) hS (fun q _ h => hFc q h) hFc (fun r29 u t9_ H locs ht hvm hw9 hB9 hz1 hk1 hS => ?_)
  have hP : va_P (dC, dI) vwCl (WR a k h0 vi vj vF vG) H := fz_P ht hB9.1
  have hD := fz_sd hP (hB9.2.weaken (fun _ q _ h => hFc q.1 h)) rfl
  obtain rfl := hw9
  refine lv_istore hx hb dX12_divide_32 hl (by decide) rfl (fun ls (hl : lv_has ls _ ([(7, .int (vF 0 (24 * an))), (6, .int (nI nb_)), (5, .int (nI na)), (0, .ref h0), (1, .int (nI sn)), (2, .int (nI rn)), (3, .int (nI an)), (4, .int (nI bn))])) => ?_)
  refine lv_aload_n hx hb dX12_divide_34 rfl (lv_at hl 3 rfl) ?_
  refine lv_iload hx hb dX12_divide_35 (lv_at hl 7 rfl) ?_
  have hFc := allFree hD hS hA
  refine va_calli (va_runV (As := [.int (nI bn)]) (rest := []) ⟨hx, hb, hml, hown, hts⟩ (r_X12_sign l dC dI a k h0 vi vj vF vG bn (by first | with_reducible assumption | decide | omega | rfl | assumption) H.size) (cwV 1 hts gwsRX12_divide_0 rfl rfl rfl hd_yX12_sign_RX12 (by decide +kernel)) (fz_pre (va_recv hK hP (ci := 12) (q0 := 0) rfl rfl) hP hK hD) rfl rfl hl.1 rfl (lv_room (Nat.le_of_ble_eq_true rfl)) dX12_divide_37 (by decide +kernel)) hS (fun q _ h => hFc q h) hFc (fun r37 u t9_ H locs ht hvm hw9 hB9 hz1 hk1 hS => ?_)
  have hP : va_P (dC, dI) vwCl (WR a k h0 vi vj vF vG) H := fz_P ht hB9.1
  have hD := fz_sd hP (hB9.2.weaken (fun _ q _ h => hFc q.1 h)) rfl
  obtain rfl := hw9
  refine lv_istore hx hb dX12_divide_40 hl (by decide) rfl (fun ls (hl : lv_has ls _ ([(8, .int (vF 0 (24 * bn))), (7, .int (vF 0 (24 * an))), (6, .int (nI nb_)), (5, .int (nI na)), (0, .ref h0), (1, .int (nI sn)), (2, .int (nI rn)), (3, .int (nI an)), (4, .int (nI bn))])) => ?_)
  refine lv_iload hx hb dX12_divide_42 (lv_at hl 3 rfl) ?_
  refine lv_iload hx hb dX12_divide_44 (lv_at hl 2 rfl) ?_
  refine lv_icmp_lt (tgt := 59) hx hb dX12_divide_46 (by decide) (fun c_46 => ?_) (fun c_46 => ?_)
  · have t_46 : ((na : Nat) : Int) < ((nb_ : Nat) : Int) := toI_lt c_46 (nI_toInt (by omega)) (nI_toInt (by omega))
    have hlt9 : NA9 < NB9 := by rw [hna5, hnb5]; exact lv28_few hna3 hnb3 (by rw [show 24 * bn + 2 + (nb_ - 1) = 24 * bn + 1 + nb_ by omega]; exact hnb4 (by omega)) (by omega)
    have hlt : xa.natAbs < xb.natAbs := by rw [eNA.out, eNB.out]; exact hlt9
    refine lv_aload_n hx hb dX12_divide_59 rfl (lv_at hl 4 rfl) ?_
    refine lv_iload_n hx hb dX12_divide_60 rfl (lv_at hl 6 rfl) ?_
    refine lv_iload_n hx hb dX12_divide_61 rfl (lv_at hl 7 rfl) ?_
    have hFc := allFree hD hS hA
    refine va_callv (va_runV (As := [.int (nI rn), .int (nI an)]) (rest := []) ⟨hx, hb, hml, hown, hts⟩ (r_X12_copy l dC dI a k h0 vi vj vF vG rn an na (by first | with_reducible assumption | decide | omega | rfl | assumption) (by first | with_reducible assumption | decide | omega | rfl | assumption) (by omega) (hna2) (by first | with_reducible assumption | decide | omega | rfl | assumption) H.size) (cwV 2 hts gwsRX12_divide_1 rfl rfl rfl hd_yX12_copy_RX12 (by decide +kernel)) (fz_pre (va_recv hK hP (ci := 12) (q0 := 0) rfl rfl) hP hK hD) rfl rfl hl.1 rfl (lv_room (Nat.le_of_ble_eq_true rfl)) dX12_divide_62 (by decide +kernel)) hS (fun q _ h => hFc q h) hFc (fun g62 t9_ H locs ht hvm hw9 hB9 hz1 hk1 hS => ?_)
    have hP : va_P (dC, dI) vwCl (WR a k h0 vi vj (fT vF 0 g62) vG) H := fz_P ht hB9.1
    have hD := fz_sd hP (hB9.2.weaken (fun _ q _ h => hFc q.1 h)) rfl
    revert hw9
    refine fz_a2 ?_
    intro f62_0 f62_1
    have f62_0 : ∀ q, q < na + 2 → g62 (24 * rn + q) = (vF 0) (24 * an + q) := f62_0
    have f62_1 : ∀ q, (q < 24 * rn ∨ 24 * rn + 24 ≤ q) → g62 q = (vF 0) q := f62_1
    refine lv_aload_n hx hb dX12_divide_65 rfl (lv_at hl 4 rfl) ?_
    refine lv_iload_n hx hb dX12_divide_66 rfl (lv_at hl 5 rfl) ?_
    refine lv_lconst (v := 0) hx hb dX12_divide_67 (by decide) ?_
    have hFc := allFree hD hS hA
    refine va_callv (va_runV (As := [.int (nI sn), .long 0]) (rest := []) ⟨hx, hb, hml, hown, hts⟩ (r_X12_put l dC dI a k h0 vi vj (fT vF 0 g62) vG sn 0 (by first | with_reducible assumption | decide | omega | rfl | assumption) (by first | with_reducible assumption | decide | omega | rfl | assumption) H.size) (cwV 2 hts gwsRX12_divide_2 rfl rfl rfl hd_yX12_put_RX12 (by decide +kernel)) (fz_pre (va_recv hK hP (ci := 12) (q0 := 0) rfl rfl) hP hK hD) rfl rfl hl.1 rfl (lv_room (Nat.le_of_ble_eq_true rfl)) dX12_divide_68 (by decide +kernel)) hS (fun q _ h => hFc q h) hFc (fun g68 t9_ H locs ht hvm hw9 hB9 hz1 hk1 hS => ?_)
    have e9F : fT vF 0 g68 = fT (fT vF 0 g62) 0 g68 := (fT_sm _ _ _ _).symm
    have hP := wr_PF e9F (fz_P ht hB9.1)
    have hD := wr_DF e9F (hB9.2.weaken (fun _ q _ h => hFc q.1 h))
    clear e9F
    revert hw9
    refine fz_a2 ?_
    intro f68_0 f68_1
    have f68_1 : ∀ q, (q < 24 * sn ∨ 24 * sn + 24 ≤ q) → g68 q = g62 q := f68_1
    refine W.widen (k := 0) (n := 0) (by decide +kernel) (by decide +kernel) ?_
    have e9 : fT (fT (fT vF 2 (vF 2)) 3 (vF 3)) 0 g68 = fT vF 0 g68 := Eq.trans (mv_2 rfl) (Eq.trans (id_2 rfl) (Eq.trans (mv_1 rfl) (id_1 rfl)))
    have hP := wr_PF e9 hP
    have hD := wr_DF e9 hD
    clear e9
    have e9 : fT vG 1 (vG 1) = vG := fT_id _ _ (rfl)
    have hP := wr_PG e9 hP
    have hD := wr_DG e9 hD
    clear e9
    exact W.vret hx hb hr (fun t9_ ht hW => ⟨⟨(g68, (vF 2), (vF 3), (vG 1)), rfl, by (try dsimp only); (have e0 : (0 : Int64).toInt = 0 := by decide); rw [e0] at f68_0; exact ⟨by rw [tdiv_small hlt]; exact f68_0, by rw [tmod_small hlt]; exact (Nu.congr hxa hna2 hna1 f62_0).keep (fun q h1 h2 => f68_1 q (by omega)), fun q h1 h2 => (f68_1 q h1).trans (f62_1 q h2)⟩, by rw [ht]; exact hP, hD⟩, hS.F ht⟩) hS.2.2 dX12_divide_71
  · have t_46 : ¬ ((na : Nat) : Int) < ((nb_ : Nat) : Int) := toI_nlt c_46 (nI_toInt (by omega)) (nI_toInt (by omega))
    refine lv_aload_n hx hb dX12_divide_49 rfl (lv_at hl 4 rfl) ?_
    refine lv_iload_n hx hb dX12_divide_50 rfl (lv_at hl 7 rfl) ?_
    refine lv_iload hx hb dX12_divide_51 (lv_at hl 8 rfl) ?_
    have hFc := allFree hD hS hA
    refine va_calli (va_runV (As := [.int (nI an), .int (nI bn)]) (rest := []) ⟨hx, hb, hml, hown, hts⟩ (r_X12_bare l dC dI a k h0 vi vj vF vG an bn xa xb (by first | with_reducible assumption | decide | omega | rfl | assumption) (by first | with_reducible assumption | decide | omega | rfl | assumption) (hxa) (hxb) H.size) (cwV 2 hts gwsRX12_divide_3 rfl rfl rfl hd_yX12_bare_RX12 (by decide +kernel)) (fz_pre (va_recv hK hP (ci := 12) (q0 := 0) rfl rfl) hP hK hD) rfl rfl hl.1 rfl (lv_room (Nat.le_of_ble_eq_true rfl)) dX12_divide_53 (by decide +kernel)) hS (fun q _ h => hFc q h) hFc (fun r53 u t9_ H locs ht hvm hw9 hB9 hz1 hk1 hS => ?_)
    have hP : va_P (dC, dI) vwCl (WR a k h0 vi vj vF vG) H := fz_P ht hB9.1
    have hD := fz_sd hP (hB9.2.weaken (fun _ q _ h => hFc q.1 h)) rfl
    revert hw9
    refine fz_a2 ?_
    intro f53_0 f53_1
    rw [eNA.out, eNB.out] at f53_0
    refine lv_if_ge (tgt := 72) hx hb dX12_divide_56 (by decide) (fun c_56 => ?_) (fun c_56 => ?_)
    · have t_56 : (r53).toInt ≥ 0 := toI_ge c_56 rfl (by decide)
      refine lv_iconst (v := 0) hx hb dX12_divide_72 (by decide) ?_
      refine lv_istore hx hb dX12_divide_73 hl (by decide) rfl (fun ls (hl : lv_has ls _ ([(9, .int 0), (8, .int (vF 0 (24 * bn))), (7, .int (vF 0 (24 * an))), (6, .int (nI nb_)), (5, .int (nI na)), (0, .ref h0), (1, .int (nI sn)), (2, .int (nI rn)), (3, .int (nI an)), (4, .int (nI bn))])) => ?_)
      have e9 : fT vF 2 (vF 2) = vF := by funext q9; by_cases h9_2 : q9 = 2; (subst h9_2; exact (fT_eq _ _ _).trans (Eq.trans (by first | with_reducible rfl | with_reducible assumption | (symm; with_reducible assumption) | rfl | assumption | (symm; assumption) | (subst_vars; rfl)) (Eq.refl _).symm)); exact (fT_ne _ _ h9_2).trans (Eq.refl _).symm
      have hP := wr_PF e9 hP
      have hD := wr_DF e9 hD
      clear e9
      have hl : lv_has _ _ ([(0, .ref h0), (1, .int (nI sn)), (2, .int (nI rn)), (3, .int (nI an)), (4, .int (nI bn)), (5, .int (nI na)), (6, .int (nI nb_)), (7, .int (vF 0 (24 * an))), (8, .int (vF 0 (24 * bn))), (9, .int (nI 0))]) := lv_sub hl [5, 6, 7, 8, 9, 4, 3, 2, 1, 0] rfl
      refine (fun (loop : ∀ (n9 : Nat) (i : Nat) (f2 : Nat → Int32) (H : Heap) (locs : List Loc) (ls : Array Slot), (i ≤ nb_ + 2) → (∀ q, q < i → f2 q = 0) →  (nb_ + 2 < i + n9) → va_P (dC, dI) vwCl (WR a k h0 vi vj (fT vF 2 f2) vG) H → va_D A (WR a k h0 vi vj (fT vF 2 f2) vG) → va_S A s.heap H locs → lv_has ls 15 [(0, .ref h0), (1, .int (nI sn)), (2, .int (nI rn)), (3, .int (nI an)), (4, .int (nI bn)), (5, .int (nI na)), (6, .int (nI nb_)), (7, .int (vF 0 (24 * an))), (8, .int (vF 0 (24 * bn))), (9, .int (nI i))] → W p l e _ s m _ below meth c H locs 0 0 _ (F0 m 75 ls [])) => loop (nb_ + 3) 0 (vF 2) _ _ _ (by omega) (fun q hq => absurd hq (by omega)) (by omega) hP hD hS hl) ?_
      intro n9
      induction n9 with
      | zero => intro i f2 H locs ls hi hr0 hf9; exact False.elim (by omega)
      | succ n9 ih75 =>
        intro i f2 H locs ls hi hr0 hf75 hP hD hS hl
        refine lv_iload hx hb dX12_divide_75 (lv_at hl 9 rfl) ?_
        refine lv_iload hx hb dX12_divide_77 (lv_at hl 6 rfl) ?_
        refine lv_iconst (v := 1) hx hb dX12_divide_79 (by decide) ?_
        refine lv_iadd hx hb dX12_divide_80 ?_
        refine lv_topi (fun y9 hy9 => ?_)
        obtain rfl : (nI (nb_ + 1)) = y9 := (hy9.trans (nI_add nb_ 1)).symm
        refine lv_icmp_gt (tgt := 98) hx hb dX12_divide_81 (by decide) (fun c_81 => ?_) (fun c_81 => ?_)
        · have t_81 : ((i : Nat) : Int) > (((nb_ + 1) : Nat) : Int) := toI_gt c_81 (nI_toInt (by omega)) (nI_toInt (by omega))
          refine lv_iconst (v := 0) hx hb dX12_divide_98 (by decide) ?_
          refine lv_istore hx hb dX12_divide_99 hl (by decide) rfl (fun ls (hl : lv_has ls _ ([(9, .int 0), (0, .ref h0), (1, .int (nI sn)), (2, .int (nI rn)), (3, .int (nI an)), (4, .int (nI bn)), (5, .int (nI na)), (6, .int (nI nb_)), (7, .int (vF 0 (24 * an))), (8, .int (vF 0 (24 * bn)))])) => ?_)
          have e9 : fT vG 1 (vG 1) = vG := by funext q9; by_cases h9_1 : q9 = 1; (subst h9_1; exact (fT_eq _ _ _).trans (Eq.trans (by first | with_reducible rfl | with_reducible assumption | (symm; with_reducible assumption) | rfl | assumption | (symm; assumption) | (subst_vars; rfl)) (Eq.refl _).symm)); exact (fT_ne _ _ h9_1).trans (Eq.refl _).symm
          have hP := wr_PG e9 hP
          have hD := wr_DG e9 hD
          clear e9
          have hl : lv_has _ _ ([(0, .ref h0), (1, .int (nI sn)), (2, .int (nI rn)), (3, .int (nI an)), (4, .int (nI bn)), (5, .int (nI na)), (6, .int (nI nb_)), (7, .int (vF 0 (24 * an))), (8, .int (vF 0 (24 * bn))), (9, .int (nI 0))]) := lv_sub hl [1, 2, 3, 4, 5, 6, 7, 8, 9, 0] rfl
          refine (fun (loop : ∀ (n9 : Nat) (i : Nat) (gs1 : Nat → Int64) (H : Heap) (locs : List Loc) (ls : Array Slot), (i ≤ na) → (∀ q, q < i → gs1 q = 0) →  (na < i + n9) → va_P (dC, dI) vwCl (WR a k h0 vi vj (fT vF 2 f2) (fT vG 1 gs1)) H → va_D A (WR a k h0 vi vj (fT vF 2 f2) (fT vG 1 gs1)) → va_S A s.heap H locs → lv_has ls 15 [(0, .ref h0), (1, .int (nI sn)), (2, .int (nI rn)), (3, .int (nI an)), (4, .int (nI bn)), (5, .int (nI na)), (6, .int (nI nb_)), (7, .int (vF 0 (24 * an))), (8, .int (vF 0 (24 * bn))), (9, .int (nI i))] → W p l e _ s m _ below meth c H locs 0 0 _ (F0 m 101 ls [])) => loop (na + 1) 0 (vG 1) _ _ _ (by omega) (fun q hq => absurd hq (by omega)) (by omega) hP hD hS hl) ?_
          intro n9
          induction n9 with
          | zero => intro i gs1 H locs ls hi2 hzs hf9; exact False.elim (by omega)
          | succ n9 ih101_1 =>
            intro i gs1 H locs ls hi2 hzs hf101_1 hP hD hS hl
            refine lv_iload hx hb dX12_divide_101 (lv_at hl 9 rfl) ?_
            refine lv_iload hx hb dX12_divide_103 (lv_at hl 5 rfl) ?_
            refine lv_icmp_ge (tgt := 122) hx hb dX12_divide_105 (by decide) (fun c_105 => ?_) (fun c_105 => ?_)
            · have t_105 : ((i : Nat) : Int) ≥ ((na : Nat) : Int) := toI_ge c_105 (nI_toInt (by omega)) (nI_toInt (by omega))
              refine lv_iconst (v := 0) hx hb dX12_divide_122 (by decide) ?_
              refine lv_istore hx hb dX12_divide_123 hl (by decide) rfl (fun ls (hl : lv_has ls _ ([(9, .int 0), (0, .ref h0), (1, .int (nI sn)), (2, .int (nI rn)), (3, .int (nI an)), (4, .int (nI bn)), (5, .int (nI na)), (6, .int (nI nb_)), (7, .int (vF 0 (24 * an))), (8, .int (vF 0 (24 * bn)))])) => ?_)
              have e9 : fT (fT vF 2 f2) 3 (vF 3) = fT vF 2 f2 := by funext q9; by_cases h9_2 : q9 = 2; (subst h9_2; exact ((fT_ne _ _ (Nat.ne_of_beq_eq_false rfl)).trans (fT_eq _ _ _)).trans (Eq.trans (by first | with_reducible rfl | with_reducible assumption | (symm; with_reducible assumption) | rfl | assumption | (symm; assumption) | (subst_vars; rfl)) (fT_eq _ _ _).symm)); by_cases h9_3 : q9 = 3; (subst h9_3; exact (fT_eq _ _ _).trans (Eq.trans (by first | with_reducible rfl | with_reducible assumption | (symm; with_reducible assumption) | rfl | assumption | (symm; assumption) | (subst_vars; rfl)) (fT_ne _ _ (Nat.ne_of_beq_eq_false rfl)).symm)); exact ((fT_ne _ _ h9_3).trans (fT_ne _ _ h9_2)).trans (fT_ne _ _ h9_2).symm
              have hP := wr_PF e9 hP
              have hD := wr_DF e9 hD
              clear e9
              have hl : lv_has _ _ ([(0, .ref h0), (1, .int (nI sn)), (2, .int (nI rn)), (3, .int (nI an)), (4, .int (nI bn)), (5, .int (nI na)), (6, .int (nI nb_)), (7, .int (vF 0 (24 * an))), (8, .int (vF 0 (24 * bn))), (9, .int (nI 0))]) := lv_sub hl [1, 2, 3, 4, 5, 6, 7, 8, 9, 0] rfl
              refine (fun (loop : ∀ (n9 : Nat) (i3 : Nat) (f3 : Nat → Int32) (H : Heap) (locs : List Loc) (ls : Array Slot), (i3 ≤ nb_) → (∀ q, q < i3 → f3 q = vF 0 (24 * bn + 2 + q)) →  (nb_ < i3 + n9) → va_P (dC, dI) vwCl (WR a k h0 vi vj (fT (fT vF 2 f2) 3 f3) (fT vG 1 gs1)) H → va_D A (WR a k h0 vi vj (fT (fT vF 2 f2) 3 f3) (fT vG 1 gs1)) → va_S A s.heap H locs → lv_has ls 15 [(0, .ref h0), (1, .int (nI sn)), (2, .int (nI rn)), (3, .int (nI an)), (4, .int (nI bn)), (5, .int (nI na)), (6, .int (nI nb_)), (7, .int (vF 0 (24 * an))), (8, .int (vF 0 (24 * bn))), (9, .int (nI i3))] → W p l e _ s m _ below meth c H locs 0 0 _ (F0 m 125 ls [])) => loop (nb_ + 1) 0 (vF 3) _ _ _ (by omega) (fun q hq => absurd hq (by omega)) (by omega) hP hD hS hl) ?_
              intro n9
              induction n9 with
              | zero => intro i3 f3 H locs ls hi3 hl3 hf9; exact False.elim (by omega)
              | succ n9 ih125_2 =>
                intro i3 f3 H locs ls hi3 hl3 hf125_2 hP hD hS hl
                refine lv_iload hx hb dX12_divide_125 (lv_at hl 9 rfl) ?_
                refine lv_iload hx hb dX12_divide_127 (lv_at hl 6 rfl) ?_
                refine lv_icmp_ge (tgt := 160) hx hb dX12_divide_129 (by decide) (fun c_129 => ?_) (fun c_129 => ?_)
                · have t_129 : ((i3 : Nat) : Int) ≥ ((nb_ : Nat) : Int) := toI_ge c_129 (nI_toInt (by omega)) (nI_toInt (by omega))
                  have hge : NB9 ≤ NA9 := by omega
                  have hnb0 : 0 < nb_ := by rcases Nat.eq_zero_or_pos nb_ with h9 | h9; (rw [h9] at hnb5; simp [lv28] at hnb5; omega); exact h9
                  have hAb : Hid (NA9 < 2 ^ 616) := by show NA9 < 2 ^ 616; rw [hna5]; exact abs616 hna3 hna1
                  clear f53_0 f53_1
                  refine lv_iload hx hb dX12_divide_160 (lv_at hl 6 rfl) ?_
                  refine lv_iconst (v := 1) hx hb dX12_divide_162 (by decide) ?_
                  refine lv_icmp_ne (tgt := 269) hx hb dX12_divide_163 (by decide) (fun c_163 => ?_) (fun c_163 => ?_)
                  · have t_163 : ((nb_ : Nat) : Int) ≠ 1 := toI_ne c_163 (nI_toInt (by omega)) (by decide)
                    have hl3m : Lm f3 0 nb_ := fun q hq => by rw [Nat.zero_add, hl3 q (by omega)]; exact hnb3 q hq
                    have hlB : lv28 f3 0 nb_ = NB9 := by rw [hnb5]; exact lv28_congr (fun q hq => by rw [Nat.zero_add]; exact hl3 q (by omega))
                    have hBP : NB9 < 2 ^ (28 * nb_) := by rw [← hlB]; exact lv28_lt hl3m
                    have hr00 : lv28 f2 0 (nb_ + 1) = 0 := lv28_zero (fun q hq => by rw [Nat.zero_add]; exact hr0 q (by omega))
                    refine lv_iload hx hb dX12_divide_269 (lv_at hl 5 rfl) ?_
                    refine lv_iconst (v := 1) hx hb dX12_divide_271 (by decide) ?_
                    refine lv_isub hx hb dX12_divide_272 ?_
                    refine lv_istore hx hb dX12_divide_273 hl (by decide) rfl (fun ls (hl : lv_has ls _ ([(9, .int ((nI na) - 1)), (0, .ref h0), (1, .int (nI sn)), (2, .int (nI rn)), (3, .int (nI an)), (4, .int (nI bn)), (5, .int (nI na)), (6, .int (nI nb_)), (7, .int (vF 0 (24 * an))), (8, .int (vF 0 (24 * bn)))])) => ?_)
                    have hl : lv_has _ _ ([(0, .ref h0), (1, .int (nI sn)), (2, .int (nI rn)), (3, .int (nI an)), (4, .int (nI bn)), (5, .int (nI na)), (6, .int (nI nb_)), (7, .int (vF 0 (24 * an))), (8, .int (vF 0 (24 * bn))), (9, .int ((nI na) - 1))]) := lv_sub hl [1, 2, 3, 4, 5, 6, 7, 8, 9, 0] rfl
                    refine (fun (loop : ∀ (n9 : Nat) (kq : Int32) (kk1 : Nat) (QQ : Nat) (fr : Nat → Int32) (gs3 : Nat → Int64) (H : Heap) (locs : List Loc) (ls : Array Slot), ((kq).toInt = (kk1 : Int) - 1) → (kk1 ≤ na) → (Lm fr 0 (nb_ + 1)) → (lv28 fr 0 (nb_ + 1) < NB9) → (lv28 (vF 0) (24 * an + 2) na / 2 ^ (28 * kk1) = QQ * NB9 + lv28 fr 0 (nb_ + 1)) → (∀ q, q < kk1 → gs3 q = 0) → (∀ q, q < na → 0 ≤ (gs3 q).toInt ∧ (gs3 q).toInt < 268435456) → (sv28 gs3 na = ((QQ * 2 ^ (28 * kk1) : Nat) : Int)) →  (kk1 < n9) → va_P (dC, dI) vwCl (WR a k h0 vi vj (fT (fT vF 2 fr) 3 f3) (fT vG 1 gs3)) H → va_D A (WR a k h0 vi vj (fT (fT vF 2 fr) 3 f3) (fT vG 1 gs3)) → va_S A s.heap H locs → lv_has ls 15 [(0, .ref h0), (1, .int (nI sn)), (2, .int (nI rn)), (3, .int (nI an)), (4, .int (nI bn)), (5, .int (nI na)), (6, .int (nI nb_)), (7, .int (vF 0 (24 * an))), (8, .int (vF 0 (24 * bn))), (9, .int kq)] → W p l e _ s m _ below meth c H locs 0 0 _ (F0 m 275 ls [])) => loop (na + 1) ((nI na) - 1) na 0 f2 gs1 _ _ _ (by exact pk_sub_toInt (a := na) (b := 1) (by omega) (by omega)) (by omega) (fun q hq => ⟨0, by omega, by rw [Nat.zero_add]; exact hr0 q (by omega)⟩) (by rw [hr00]; omega) (by rw [Nat.div_eq_of_lt (lv28_lt hna3), hr00]; simp) (fun q hq => hzs q (by omega)) (fun q hq => by rw [hzs q (by omega)]; decide) (by rw [sv28_zero (fun q hq => hzs q (by omega))]; simp) (by omega) hP hD hS hl) ?_
                    intro n9
                    induction n9 with
                    | zero => intro kq kk1 QQ fr gs3 H locs ls hkq hkn hlr hRB hQ hz3 hent hsv hf9; exact False.elim (by omega)
                    | succ n9 ih275_3 =>
                      intro kq kk1 QQ fr gs3 H locs ls hkq hkn hlr hRB hQ hz3 hent hsv hf275_3 hP hD hS hl
                      refine lv_iload hx hb dX12_divide_275 (lv_at hl 9 rfl) ?_
                      refine lv_if_lt (tgt := 483) hx hb dX12_divide_277 (by decide) (fun c_277 => ?_) (fun c_277 => ?_)
                      · have t_277 : (kq).toInt < 0 := toI_lt c_277 rfl (by decide)
                        have hk0 : kk1 = 0 := by omega
                        rw [hk0] at hQ hsv
                        simp only [Nat.mul_zero, Nat.pow_zero, Nat.div_one, Nat.mul_one] at hQ hsv
                        obtain ⟨hQ1, hR1⟩ := divQ (A := NA9) (B := NB9) (by rw [hna5]; exact hQ) hRB
                        have hrt := lv28_top0 (f := fr) (n := nb_) (by omega) hlr
                        refine lv_iload hx hb dX12_divide_483 (lv_at hl 6 rfl) ?_
                        refine lv_istore hx hb dX12_divide_485 hl (by decide) rfl (fun ls (hl : lv_has ls _ ([(9, .int (nI nb_)), (0, .ref h0), (1, .int (nI sn)), (2, .int (nI rn)), (3, .int (nI an)), (4, .int (nI bn)), (5, .int (nI na)), (6, .int (nI nb_)), (7, .int (vF 0 (24 * an))), (8, .int (vF 0 (24 * bn)))])) => ?_)
                        have hl : lv_has _ _ ([(0, .ref h0), (1, .int (nI sn)), (2, .int (nI rn)), (3, .int (nI an)), (4, .int (nI bn)), (5, .int (nI na)), (6, .int (nI nb_)), (7, .int (vF 0 (24 * an))), (8, .int (vF 0 (24 * bn))), (9, .int (nI nb_))]) := lv_sub hl [1, 2, 3, 4, 5, 6, 7, 8, 9, 0] rfl
                        refine (fun (loop : ∀ (n9 : Nat) (mm : Nat) (H : Heap) (locs : List Loc) (ls : Array Slot), (mm ≤ nb_) → (lv28 fr 0 mm = lv28 fr 0 (nb_ + 1)) →  (mm < n9) → va_P (dC, dI) vwCl (WR a k h0 vi vj (fT (fT vF 2 fr) 3 f3) (fT vG 1 gs3)) H → va_D A (WR a k h0 vi vj (fT (fT vF 2 fr) 3 f3) (fT vG 1 gs3)) → va_S A s.heap H locs → lv_has ls 15 [(0, .ref h0), (1, .int (nI sn)), (2, .int (nI rn)), (3, .int (nI an)), (4, .int (nI bn)), (5, .int (nI na)), (6, .int (nI nb_)), (7, .int (vF 0 (24 * an))), (8, .int (vF 0 (24 * bn))), (9, .int (nI mm))] → W p l e _ s m _ below meth c H locs 0 0 _ (F0 m 487 ls [])) => loop (nb_ + 1) nb_ _ _ _ (by omega) ((lv28_skip0 hrt).symm) (by omega) hP hD hS hl) ?_
                        intro n9
                        induction n9 with
                        | zero => intro mm H locs ls hmm hmv hf9; exact False.elim (by omega)
                        | succ n9 ih487_4 =>
                          intro mm H locs ls hmm hmv hf487_4 hP hD hS hl
                          refine lv_iload hx hb dX12_divide_487 (lv_at hl 9 rfl) ?_
                          refine lv_if_le (tgt := 510) hx hb dX12_divide_489 (by decide) (fun c_489 => ?_) (fun c_489 => ?_)
                          · have t_489 : ((mm : Nat) : Int) ≤ 0 := toI_le c_489 (nI_toInt (by omega)) (by decide)
                            refine lv_aload_n hx hb dX12_divide_510 rfl (lv_at hl 0 rfl) ?_
                            refine va_get (D := (dC, dI)) (ci := 12) (v := .ref (a 0)) (C := RX12) (T := TX12) (N := 163) (fs := fM (vS a vi vj)) hx hb hts iwsRX12_divide_in12 hown hK hP 0 rfl rfl 1 (by decide) (hts _ hm_r_X12_divide_0) (fun _ h9 => h9) rfl dX12_divide_511 ?_
                            refine lv_bipush (v := 24) hx hb dX12_divide_514 (by decide) ?_
                            refine lv_iload_n hx hb dX12_divide_516 rfl (lv_at hl 2 rfl) ?_
                            refine lv_imul hx hb dX12_divide_517 ?_
                            refine lv_topi (fun y10 hy10 => ?_)
                            obtain rfl : (nI (24 * rn)) = y10 := (hy10.trans (pk_mul 24 rn)).symm
                            refine lv_iload hx hb dX12_divide_518 (lv_at hl 9 rfl) ?_
                            refine lv_if_ne (tgt := 527) hx hb dX12_divide_520 (by decide) (fun c9 => False.elim (by have t9 : ((mm : Nat) : Int) ≠ 0 := toI_ne c9 (nI_toInt (by omega)) (by decide); omega)) (fun c_520 => ?_)
                            have t_520 : ((mm : Nat) : Int) = 0 := toI_nne c_520 (nI_toInt (by omega)) (by decide)
                            refine lv_iconst (v := 0) hx hb dX12_divide_523 (by decide) ?_
                            refine lv_goto (tgt := 529) hx hb dX12_divide_524 (by decide) ?_
                            refine va_iast (cA := k 0) (n := 26400) (f := (vF 0)) hx hb hK hP hD hS 1 0 (WR_get 0 (by decide)) (TR_get 0 (by decide)) (vp_in_nI (show (24 * rn) < 26400 by omega) (by omega)) dX12_divide_529 (fun H locs hP hD hS => ?_)
                            have hP : va_P (dC, dI) vwCl (WR a k h0 vi vj (fT (fT (fT vF 2 fr) 3 f3) 0 (upd (vF 0) ((nI (24 * rn))).toNatClampNeg 0)) (fT vG 1 gs3)) H := fz_w (WR_F 0 (by decide) _ rfl) hP
                            have hD : va_D A (WR a k h0 vi vj (fT (fT (fT vF 2 fr) 3 f3) 0 (upd (vF 0) ((nI (24 * rn))).toNatClampNeg 0)) (fT vG 1 gs3)) := fz_wD (WR_F 0 (by decide) _ rfl) hD
                            refine lv_aload_n hx hb dX12_divide_530 rfl (lv_at hl 0 rfl) ?_
                            refine va_get (D := (dC, dI)) (ci := 12) (v := .ref (a 0)) (C := RX12) (T := TX12) (N := 163) (fs := fM (vS a vi vj)) hx hb hts iwsRX12_divide_in12 hown hK hP 0 rfl rfl 1 (by decide) (hts _ hm_r_X12_divide_0) (fun _ h9 => h9) rfl dX12_divide_531 ?_
                            refine lv_bipush (v := 24) hx hb dX12_divide_534 (by decide) ?_
                            refine lv_iload_n hx hb dX12_divide_536 rfl (lv_at hl 2 rfl) ?_
                            refine lv_imul hx hb dX12_divide_537 ?_
                            refine lv_topi (fun y11 hy11 => ?_)
                            obtain rfl : (nI (24 * rn)) = y11 := (hy11.trans (pk_mul 24 rn)).symm
                            refine lv_iconst (v := 1) hx hb dX12_divide_538 (by decide) ?_
                            refine lv_iadd hx hb dX12_divide_539 ?_
                            refine lv_topi (fun y12 hy12 => ?_)
                            obtain rfl : (nI ((24 * rn) + 1)) = y12 := (hy12.trans (nI_add (24 * rn) 1)).symm
                            refine lv_iload hx hb dX12_divide_540 (lv_at hl 9 rfl) ?_
                            refine va_iast (cA := k 0) (n := 26400) (f := (upd (vF 0) ((nI (24 * rn))).toNatClampNeg 0)) hx hb hK hP hD hS 1 0 (WR_get 0 (by decide)) (TR_get 0 (by decide)) (vp_in_nI (show ((24 * rn) + 1) < 26400 by omega) (by omega)) dX12_divide_542 (fun H locs hP hD hS => ?_)
                            have e9 : fT (fT (fT vF 2 fr) 3 f3) 0 (upd (upd (vF 0) ((nI (24 * rn))).toNatClampNeg 0) ((nI ((24 * rn) + 1))).toNatClampNeg (nI mm)) = fT (fT (fT (fT vF 2 fr) 3 f3) 0 (upd (vF 0) ((nI (24 * rn))).toNatClampNeg 0)) 0 (upd (upd (vF 0) ((nI (24 * rn))).toNatClampNeg 0) ((nI ((24 * rn) + 1))).toNatClampNeg (nI mm)) := (fT_sm _ _ _ _).symm
                            have hP := wr_PF e9 (fz_w (WR_F 0 (by decide) _ rfl) hP)
                            have hD := wr_DF e9 (fz_wD (WR_F 0 (by decide) _ rfl) hD)
                            clear e9
                            refine lv_iconst (v := 0) hx hb dX12_divide_543 (by decide) ?_
                            refine lv_istore hx hb dX12_divide_544 hl (by decide) rfl (fun ls (hl : lv_has ls _ ([(10, .int 0), (0, .ref h0), (1, .int (nI sn)), (2, .int (nI rn)), (3, .int (nI an)), (4, .int (nI bn)), (5, .int (nI na)), (6, .int (nI nb_)), (7, .int (vF 0 (24 * an))), (8, .int (vF 0 (24 * bn))), (9, .int (nI mm))])) => ?_)
                            have hl : lv_has _ _ ([(0, .ref h0), (1, .int (nI sn)), (2, .int (nI rn)), (3, .int (nI an)), (4, .int (nI bn)), (5, .int (nI na)), (6, .int (nI nb_)), (7, .int (vF 0 (24 * an))), (8, .int (vF 0 (24 * bn))), (9, .int (nI mm)), (10, .int (nI 0))]) := lv_sub hl [1, 2, 3, 4, 5, 6, 7, 8, 9, 10, 0] rfl
                            refine (fun (loop : ∀ (n9 : Nat) (i : Nat) (g5 : Nat → Int32) (H : Heap) (locs : List Loc) (ls : Array Slot), (i ≤ mm) → (∀ q, q < i → g5 (24 * rn + 2 + q) = fr q) → (g5 (24 * rn + 1) = nI mm) → ((mm = 0 ∧ g5 (24 * rn) = 0) ∨ (0 < mm ∧ g5 (24 * rn) = (vF 0 (24 * an)))) → (∀ q, (q < 24 * rn ∨ 24 * rn + 24 ≤ q) → g5 q = vF 0 q) →  (mm < i + n9) → va_P (dC, dI) vwCl (WR a k h0 vi vj (fT (fT (fT vF 2 fr) 3 f3) 0 g5) (fT vG 1 gs3)) H → va_D A (WR a k h0 vi vj (fT (fT (fT vF 2 fr) 3 f3) 0 g5) (fT vG 1 gs3)) → va_S A s.heap H locs → lv_has ls 15 [(0, .ref h0), (1, .int (nI sn)), (2, .int (nI rn)), (3, .int (nI an)), (4, .int (nI bn)), (5, .int (nI na)), (6, .int (nI nb_)), (7, .int (vF 0 (24 * an))), (8, .int (vF 0 (24 * bn))), (9, .int (nI mm)), (10, .int (nI i))] → W p l e _ s m _ below meth c H locs 0 0 _ (F0 m 546 ls [])) => loop (mm + 1) 0 (upd (upd (vF 0) ((nI (24 * rn))).toNatClampNeg 0) ((nI ((24 * rn) + 1))).toNatClampNeg (nI mm)) _ _ _ (by omega) (fun q hq => absurd hq (by omega)) (by rw [upd_at (by omega), if_pos rfl]) (by rw [upd_at (by omega), if_neg (by omega), upd_at (by omega), if_pos rfl]; first | exact Or.inl ⟨by omega, rfl⟩ | exact Or.inr ⟨by omega, rfl⟩) (fun q hq => by rw [upd_at (by omega), if_neg (by omega), upd_at (by omega), if_neg (by omega)]) (by omega) hP hD hS hl) ?_
                            intro n9
                            induction n9 with
                            | zero => intro i g5 H locs ls hi hcp hg1 hg0 hgo hf9; exact False.elim (by omega)
                            | succ n9 ih546_5 =>
                              intro i g5 H locs ls hi hcp hg1 hg0 hgo hf546_5 hP hD hS hl
                              refine lv_iload hx hb dX12_divide_546 (lv_at hl 10 rfl) ?_
                              refine lv_iload hx hb dX12_divide_548 (lv_at hl 9 rfl) ?_
                              refine lv_icmp_ge (tgt := 580) hx hb dX12_divide_550 (by decide) (fun c_550 => ?_) (fun c_550 => ?_)
                              · have t_550 : ((i : Nat) : Int) ≥ ((mm : Nat) : Int) := toI_ge c_550 (nI_toInt (by omega)) (nI_toInt (by omega))
                                refine lv_aload_n hx hb dX12_divide_580 rfl (lv_at hl 0 rfl) ?_
                                refine lv_iload_n hx hb dX12_divide_581 rfl (lv_at hl 1 rfl) ?_
                                refine lv_iload hx hb dX12_divide_582 (lv_at hl 5 rfl) ?_
                                refine lv_iload hx hb dX12_divide_584 (lv_at hl 7 rfl) ?_
                                refine lv_iload hx hb dX12_divide_586 (lv_at hl 8 rfl) ?_
                                refine lv_imul hx hb dX12_divide_588 ?_
                                have hFc := allFree hD hS hA
                                refine va_callv (va_runV (As := [.int (nI sn), .int (nI na), .int ((vF 0 (24 * an)) * (vF 0 (24 * bn)))]) (rest := []) ⟨hx, hb, hml, hown, hts⟩ (r_X12_carry l dC dI a k h0 vi vj (fT (fT (fT vF 2 fr) 3 f3) 0 g5) (fT vG 1 gs3) sn na ((vF 0 (24 * an)) * (vF 0 (24 * bn))) (NA9 / NB9) (if xa * xb < 0 then -1 else 1) (by first | with_reducible assumption | decide | omega | rfl | assumption) (by first | with_reducible assumption | decide | omega | rfl | assumption) (fun q hq => by have := hent q hq; show -1152921504606846976 ≤ (gs3 q).toInt ∧ (gs3 q).toInt ≤ 1152921504606846976; omega) (by show sv28 gs3 na = _; rw [hsv, hQ1]) (Nat.lt_of_le_of_lt (Nat.div_le_self _ _) hAb.out) (fun h9 => sgProd hSA.out hSB.out (by rw [eNA.out, eNB.out]; exact Nat.mul_pos (by omega) (by omega))) H.size) (cwV 3 hts gwsRX12_divide_4 rfl rfl rfl hd_yX12_carry_RX12 (by decide +kernel)) (fz_pre (va_recv hK hP (ci := 12) (q0 := 0) rfl rfl) hP hK hD) rfl rfl hl.1 rfl (lv_room (Nat.le_of_ble_eq_true rfl)) dX12_divide_589 (by decide +kernel)) hS (fun q _ h => hFc q h) hFc (fun g589 t9_ H locs ht hvm hw9 hB9 hz1 hk1 hS => ?_)
                                have e9F : fT (fT (fT vF 2 fr) 3 f3) 0 g589 = fT (fT (fT (fT vF 2 fr) 3 f3) 0 g5) 0 g589 := (fT_sm _ _ _ _).symm
                                have hP := wr_PF e9F (fz_P ht hB9.1)
                                have hD := wr_DF e9F (hB9.2.weaken (fun _ q _ h => hFc q.1 h))
                                clear e9F
                                revert hw9
                                refine fz_a2 ?_
                                intro f589_0 f589_1
                                have f589_1 : ∀ q, (q < 24 * sn ∨ 24 * sn + 24 ≤ q) → g589 q = g5 q := f589_1
                                refine W.widen (k := 0) (n := 0) (by decide +kernel) (by decide +kernel) ?_
                                exact W.vret hx hb hr (fun t9_ ht hW => ⟨⟨(g589, fr, f3, gs3), rfl, by (try dsimp only); (have e1 := tdivE (x := xa) (y := xb) eb0.out); (have e2 := tmodE (x := xa) (y := xb)); (have sa := hSA.out); (have sb := hSB.out); (have za : xa ≠ 0 := by (have q9 : xa.natAbs = NA9 := eNA.out); omega); rw [eNA.out, eNB.out] at e1 e2; rw [hR1, ← hmv] at e2; rw [e1] at f589_0; (have hN : Nu g5 rn (xa.tmod xb) := by rw [← e2]; exact nu_of (qs := (vF 0 (24 * an))) (by omega) hg1 (fun q hq => by rw [hcp q (by omega)]; exact limb0N hlr (by omega)) (fun h9 => by rw [show 24 * rn + 1 + mm = 24 * rn + 2 + (mm - 1) by omega, hcp (mm - 1) (by omega)]; exact absurd h9 (by omega)) (lv28_congr (fun q hq => by rw [hcp q (by omega), Nat.zero_add])) hg0 (by split <;> first | exact Or.inr ⟨rfl, ofm1 (by omega)⟩ | exact Or.inl ⟨rfl, of1 (by omega)⟩)); exact ⟨f589_0, hN.keep (fun q h1 h2 => f589_1 q (by omega)), fun q h1 h2 => (f589_1 q h1).trans (hgo q h2)⟩, by rw [ht]; exact hP, hD⟩, hS.F ht⟩) hS.2.2 dX12_divide_592
                              · have t_550 : ¬ ((i : Nat) : Int) ≥ ((mm : Nat) : Int) := toI_nge c_550 (nI_toInt (by omega)) (nI_toInt (by omega))
                                refine lv_aload_n hx hb dX12_divide_553 rfl (lv_at hl 0 rfl) ?_
                                refine va_get (D := (dC, dI)) (ci := 12) (v := .ref (a 0)) (C := RX12) (T := TX12) (N := 163) (fs := fM (vS a vi vj)) hx hb hts iwsRX12_divide_in12 hown hK hP 0 rfl rfl 1 (by decide) (hts _ hm_r_X12_divide_0) (fun _ h9 => h9) rfl dX12_divide_554 ?_
                                refine lv_bipush (v := 24) hx hb dX12_divide_557 (by decide) ?_
                                refine lv_iload_n hx hb dX12_divide_559 rfl (lv_at hl 2 rfl) ?_
                                refine lv_imul hx hb dX12_divide_560 ?_
                                refine lv_topi (fun y13 hy13 => ?_)
                                obtain rfl : (nI (24 * rn)) = y13 := (hy13.trans (pk_mul 24 rn)).symm
                                refine lv_iconst (v := 2) hx hb dX12_divide_561 (by decide) ?_
                                refine lv_iadd hx hb dX12_divide_562 ?_
                                refine lv_topi (fun y14 hy14 => ?_)
                                obtain rfl : (nI ((24 * rn) + 2)) = y14 := (hy14.trans (nI_add (24 * rn) 2)).symm
                                refine lv_iload hx hb dX12_divide_563 (lv_at hl 10 rfl) ?_
                                refine lv_iadd hx hb dX12_divide_565 ?_
                                refine lv_topi (fun y15 hy15 => ?_)
                                obtain rfl : (nI (((24 * rn) + 2) + i)) = y15 := (hy15.trans (nI_add ((24 * rn) + 2) i)).symm
                                refine lv_aload_n hx hb dX12_divide_566 rfl (lv_at hl 0 rfl) ?_
                                refine va_get (D := (dC, dI)) (ci := 12) (v := .ref (a 2)) (C := RX12) (T := TX12) (N := 163) (fs := fM (vS a vi vj)) hx hb hts iwsRX12_divide_in12 hown hK hP 0 rfl rfl 3 (by decide) (hts _ hm_r_X12_divide_1) (fun _ h9 => h9) rfl dX12_divide_567 ?_
                                refine lv_iload hx hb dX12_divide_570 (lv_at hl 10 rfl) ?_
                                refine va_iald (cA := k 2) (n := 60) (f := fr) hx hb hK hP 3 2 (WR_get 2 (by decide)) (TR_get 2 (by decide)) (vp_in_nI (show i < 60 by omega) (by omega)) dX12_divide_572 ?_
                                refine lv_topi (fun y16 hy16 => ?_)
                                obtain rfl : (fr i) = y16 := (hy16.trans (by rw [nI_clamp (by omega)])).symm
                                refine va_iast (cA := k 0) (n := 26400) (f := g5) hx hb hK hP hD hS 1 0 (WR_get 0 (by decide)) (TR_get 0 (by decide)) (vp_in_nI (show (((24 * rn) + 2) + i) < 26400 by omega) (by omega)) dX12_divide_573 (fun H locs hP hD hS => ?_)
                                have e9 : fT (fT (fT vF 2 fr) 3 f3) 0 (upd g5 ((nI (((24 * rn) + 2) + i))).toNatClampNeg (fr i)) = fT (fT (fT (fT vF 2 fr) 3 f3) 0 g5) 0 (upd g5 ((nI (((24 * rn) + 2) + i))).toNatClampNeg (fr i)) := (fT_sm _ _ _ _).symm
                                have hP := wr_PF e9 (fz_w (WR_F 0 (by decide) _ rfl) hP)
                                have hD := wr_DF e9 (fz_wD (WR_F 0 (by decide) _ rfl) hD)
                                clear e9
                                refine lv_iinc (v := (nI (i + 1))) hx hb dX12_divide_574 hl (k := 10) rfl (nI_add i 1) (by decide) rfl (fun ls (hl : lv_has ls _ ([(10, .int (nI (i + 1))), (0, .ref h0), (1, .int (nI sn)), (2, .int (nI rn)), (3, .int (nI an)), (4, .int (nI bn)), (5, .int (nI na)), (6, .int (nI nb_)), (7, .int (vF 0 (24 * an))), (8, .int (vF 0 (24 * bn))), (9, .int (nI mm))])) => ?_)
                                refine lv_goto (tgt := 546) hx hb dX12_divide_577 (by decide) ?_
                                have hl : lv_has _ _ ([(0, .ref h0), (1, .int (nI sn)), (2, .int (nI rn)), (3, .int (nI an)), (4, .int (nI bn)), (5, .int (nI na)), (6, .int (nI nb_)), (7, .int (vF 0 (24 * an))), (8, .int (vF 0 (24 * bn))), (9, .int (nI mm)), (10, .int (nI (i + 1)))]) := lv_sub hl [1, 2, 3, 4, 5, 6, 7, 8, 9, 10, 0] rfl
                                exact ih546_5 (i + 1) (upd g5 ((nI (((24 * rn) + 2) + i))).toNatClampNeg (fr i)) _ _ _ (by omega) (fun q hq => by rw [upd_at (by omega)]; by_cases e9 : 24 * rn + 2 + q = 24 * rn + 2 + i; (rw [if_pos e9, show q = i by omega]); (rw [if_neg e9]; exact hcp q (by omega))) (by rw [upd_at (by omega), if_neg (by omega)]; exact hg1) (by rw [upd_at (by omega), if_neg (by omega)]; exact hg0) (fun q hq => by rw [upd_at (by omega), if_neg (by omega)]; exact hgo q hq) (by omega) hP hD hS hl
                          · have t_489 : ¬ ((mm : Nat) : Int) ≤ 0 := toI_nle c_489 (nI_toInt (by omega)) (by decide)
                            refine lv_aload_n hx hb dX12_divide_492 rfl (lv_at hl 0 rfl) ?_
                            refine va_get (D := (dC, dI)) (ci := 12) (v := .ref (a 2)) (C := RX12) (T := TX12) (N := 163) (fs := fM (vS a vi vj)) hx hb hts iwsRX12_divide_in12 hown hK hP 0 rfl rfl 3 (by decide) (hts _ hm_r_X12_divide_1) (fun _ h9 => h9) rfl dX12_divide_493 ?_
                            refine lv_iload hx hb dX12_divide_496 (lv_at hl 9 rfl) ?_
                            refine lv_iconst (v := 1) hx hb dX12_divide_498 (by decide) ?_
                            refine lv_isub hx hb dX12_divide_499 ?_
                            refine lv_topi (fun y17 hy17 => ?_)
                            obtain rfl : (nI (mm - 1)) = y17 := (hy17.trans (pk_sub (a := mm) (b := 1) (by omega))).symm
                            refine va_iald (cA := k 2) (n := 60) (f := fr) hx hb hK hP 3 2 (WR_get 2 (by decide)) (TR_get 2 (by decide)) (vp_in_nI (show (mm - 1) < 60 by omega) (by omega)) dX12_divide_500 ?_
                            refine lv_topi (fun y18 hy18 => ?_)
                            obtain rfl : (fr (mm - 1)) = y18 := (hy18.trans (by rw [nI_clamp (by omega)])).symm
                            refine lv_if_ne (tgt := 510) hx hb dX12_divide_501 (by decide) (fun c_501 => ?_) (fun c_501 => ?_)
                            · have t_501 : ((fr (mm - 1))).toInt ≠ 0 := toI_ne c_501 rfl (by decide)
                              refine lv_aload_n hx hb dX12_divide_510 rfl (lv_at hl 0 rfl) ?_
                              refine va_get (D := (dC, dI)) (ci := 12) (v := .ref (a 0)) (C := RX12) (T := TX12) (N := 163) (fs := fM (vS a vi vj)) hx hb hts iwsRX12_divide_in12 hown hK hP 0 rfl rfl 1 (by decide) (hts _ hm_r_X12_divide_0) (fun _ h9 => h9) rfl dX12_divide_511 ?_
                              refine lv_bipush (v := 24) hx hb dX12_divide_514 (by decide) ?_
                              refine lv_iload_n hx hb dX12_divide_516 rfl (lv_at hl 2 rfl) ?_
                              refine lv_imul hx hb dX12_divide_517 ?_
                              refine lv_topi (fun y19 hy19 => ?_)
                              obtain rfl : (nI (24 * rn)) = y19 := (hy19.trans (pk_mul 24 rn)).symm
                              refine lv_iload hx hb dX12_divide_518 (lv_at hl 9 rfl) ?_
                              refine lv_if_ne (tgt := 527) hx hb dX12_divide_520 (by decide) (fun c_520 => ?_) (fun c9 => False.elim (by have t9 : ((mm : Nat) : Int) = 0 := toI_nne c9 (nI_toInt (by omega)) (by decide); omega))
                              have t_520 : ((mm : Nat) : Int) ≠ 0 := toI_ne c_520 (nI_toInt (by omega)) (by decide)
                              refine lv_iload hx hb dX12_divide_527 (lv_at hl 7 rfl) ?_
                              refine va_iast (cA := k 0) (n := 26400) (f := (vF 0)) hx hb hK hP hD hS 1 0 (WR_get 0 (by decide)) (TR_get 0 (by decide)) (vp_in_nI (show (24 * rn) < 26400 by omega) (by omega)) dX12_divide_529 (fun H locs hP hD hS => ?_)
                              have hP : va_P (dC, dI) vwCl (WR a k h0 vi vj (fT (fT (fT vF 2 fr) 3 f3) 0 (upd (vF 0) ((nI (24 * rn))).toNatClampNeg (vF 0 (24 * an)))) (fT vG 1 gs3)) H := fz_w (WR_F 0 (by decide) _ rfl) hP
                              have hD : va_D A (WR a k h0 vi vj (fT (fT (fT vF 2 fr) 3 f3) 0 (upd (vF 0) ((nI (24 * rn))).toNatClampNeg (vF 0 (24 * an)))) (fT vG 1 gs3)) := fz_wD (WR_F 0 (by decide) _ rfl) hD
                              refine lv_aload_n hx hb dX12_divide_530 rfl (lv_at hl 0 rfl) ?_
                              refine va_get (D := (dC, dI)) (ci := 12) (v := .ref (a 0)) (C := RX12) (T := TX12) (N := 163) (fs := fM (vS a vi vj)) hx hb hts iwsRX12_divide_in12 hown hK hP 0 rfl rfl 1 (by decide) (hts _ hm_r_X12_divide_0) (fun _ h9 => h9) rfl dX12_divide_531 ?_
                              refine lv_bipush (v := 24) hx hb dX12_divide_534 (by decide) ?_
                              refine lv_iload_n hx hb dX12_divide_536 rfl (lv_at hl 2 rfl) ?_
                              refine lv_imul hx hb dX12_divide_537 ?_
                              refine lv_topi (fun y20 hy20 => ?_)
                              obtain rfl : (nI (24 * rn)) = y20 := (hy20.trans (pk_mul 24 rn)).symm
                              refine lv_iconst (v := 1) hx hb dX12_divide_538 (by decide) ?_
                              refine lv_iadd hx hb dX12_divide_539 ?_
                              refine lv_topi (fun y21 hy21 => ?_)
                              obtain rfl : (nI ((24 * rn) + 1)) = y21 := (hy21.trans (nI_add (24 * rn) 1)).symm
                              refine lv_iload hx hb dX12_divide_540 (lv_at hl 9 rfl) ?_
                              refine va_iast (cA := k 0) (n := 26400) (f := (upd (vF 0) ((nI (24 * rn))).toNatClampNeg (vF 0 (24 * an)))) hx hb hK hP hD hS 1 0 (WR_get 0 (by decide)) (TR_get 0 (by decide)) (vp_in_nI (show ((24 * rn) + 1) < 26400 by omega) (by omega)) dX12_divide_542 (fun H locs hP hD hS => ?_)
                              have e9 : fT (fT (fT vF 2 fr) 3 f3) 0 (upd (upd (vF 0) ((nI (24 * rn))).toNatClampNeg (vF 0 (24 * an))) ((nI ((24 * rn) + 1))).toNatClampNeg (nI mm)) = fT (fT (fT (fT vF 2 fr) 3 f3) 0 (upd (vF 0) ((nI (24 * rn))).toNatClampNeg (vF 0 (24 * an)))) 0 (upd (upd (vF 0) ((nI (24 * rn))).toNatClampNeg (vF 0 (24 * an))) ((nI ((24 * rn) + 1))).toNatClampNeg (nI mm)) := (fT_sm _ _ _ _).symm
                              have hP := wr_PF e9 (fz_w (WR_F 0 (by decide) _ rfl) hP)
                              have hD := wr_DF e9 (fz_wD (WR_F 0 (by decide) _ rfl) hD)
                              clear e9
                              refine lv_iconst (v := 0) hx hb dX12_divide_543 (by decide) ?_
                              refine lv_istore hx hb dX12_divide_544 hl (by decide) rfl (fun ls (hl : lv_has ls _ ([(10, .int 0), (0, .ref h0), (1, .int (nI sn)), (2, .int (nI rn)), (3, .int (nI an)), (4, .int (nI bn)), (5, .int (nI na)), (6, .int (nI nb_)), (7, .int (vF 0 (24 * an))), (8, .int (vF 0 (24 * bn))), (9, .int (nI mm))])) => ?_)
                              have hl : lv_has _ _ ([(0, .ref h0), (1, .int (nI sn)), (2, .int (nI rn)), (3, .int (nI an)), (4, .int (nI bn)), (5, .int (nI na)), (6, .int (nI nb_)), (7, .int (vF 0 (24 * an))), (8, .int (vF 0 (24 * bn))), (9, .int (nI mm)), (10, .int (nI 0))]) := lv_sub hl [1, 2, 3, 4, 5, 6, 7, 8, 9, 10, 0] rfl
                              refine (fun (loop : ∀ (n9 : Nat) (i : Nat) (g5 : Nat → Int32) (H : Heap) (locs : List Loc) (ls : Array Slot), (i ≤ mm) → (∀ q, q < i → g5 (24 * rn + 2 + q) = fr q) → (g5 (24 * rn + 1) = nI mm) → ((mm = 0 ∧ g5 (24 * rn) = 0) ∨ (0 < mm ∧ g5 (24 * rn) = (vF 0 (24 * an)))) → (∀ q, (q < 24 * rn ∨ 24 * rn + 24 ≤ q) → g5 q = vF 0 q) →  (mm < i + n9) → va_P (dC, dI) vwCl (WR a k h0 vi vj (fT (fT (fT vF 2 fr) 3 f3) 0 g5) (fT vG 1 gs3)) H → va_D A (WR a k h0 vi vj (fT (fT (fT vF 2 fr) 3 f3) 0 g5) (fT vG 1 gs3)) → va_S A s.heap H locs → lv_has ls 15 [(0, .ref h0), (1, .int (nI sn)), (2, .int (nI rn)), (3, .int (nI an)), (4, .int (nI bn)), (5, .int (nI na)), (6, .int (nI nb_)), (7, .int (vF 0 (24 * an))), (8, .int (vF 0 (24 * bn))), (9, .int (nI mm)), (10, .int (nI i))] → W p l e _ s m _ below meth c H locs 0 0 _ (F0 m 546 ls [])) => loop (mm + 1) 0 (upd (upd (vF 0) ((nI (24 * rn))).toNatClampNeg (vF 0 (24 * an))) ((nI ((24 * rn) + 1))).toNatClampNeg (nI mm)) _ _ _ (by omega) (fun q hq => absurd hq (by omega)) (by rw [upd_at (by omega), if_pos rfl]) (by rw [upd_at (by omega), if_neg (by omega), upd_at (by omega), if_pos rfl]; first | exact Or.inl ⟨by omega, rfl⟩ | exact Or.inr ⟨by omega, rfl⟩) (fun q hq => by rw [upd_at (by omega), if_neg (by omega), upd_at (by omega), if_neg (by omega)]) (by omega) hP hD hS hl) ?_
                              intro n9
                              induction n9 with
                              | zero => intro i g5 H locs ls hi hcp hg1 hg0 hgo hf9; exact False.elim (by omega)
                              | succ n9 ih546_6 =>
                                intro i g5 H locs ls hi hcp hg1 hg0 hgo hf546_6 hP hD hS hl
                                refine lv_iload hx hb dX12_divide_546 (lv_at hl 10 rfl) ?_
                                refine lv_iload hx hb dX12_divide_548 (lv_at hl 9 rfl) ?_
                                refine lv_icmp_ge (tgt := 580) hx hb dX12_divide_550 (by decide) (fun c_550 => ?_) (fun c_550 => ?_)
                                · have t_550 : ((i : Nat) : Int) ≥ ((mm : Nat) : Int) := toI_ge c_550 (nI_toInt (by omega)) (nI_toInt (by omega))
                                  refine lv_aload_n hx hb dX12_divide_580 rfl (lv_at hl 0 rfl) ?_
                                  refine lv_iload_n hx hb dX12_divide_581 rfl (lv_at hl 1 rfl) ?_
                                  refine lv_iload hx hb dX12_divide_582 (lv_at hl 5 rfl) ?_
                                  refine lv_iload hx hb dX12_divide_584 (lv_at hl 7 rfl) ?_
                                  refine lv_iload hx hb dX12_divide_586 (lv_at hl 8 rfl) ?_
                                  refine lv_imul hx hb dX12_divide_588 ?_
                                  have hFc := allFree hD hS hA
                                  refine va_callv (va_runV (As := [.int (nI sn), .int (nI na), .int ((vF 0 (24 * an)) * (vF 0 (24 * bn)))]) (rest := []) ⟨hx, hb, hml, hown, hts⟩ (r_X12_carry l dC dI a k h0 vi vj (fT (fT (fT vF 2 fr) 3 f3) 0 g5) (fT vG 1 gs3) sn na ((vF 0 (24 * an)) * (vF 0 (24 * bn))) (NA9 / NB9) (if xa * xb < 0 then -1 else 1) (by first | with_reducible assumption | decide | omega | rfl | assumption) (by first | with_reducible assumption | decide | omega | rfl | assumption) (fun q hq => by have := hent q hq; show -1152921504606846976 ≤ (gs3 q).toInt ∧ (gs3 q).toInt ≤ 1152921504606846976; omega) (by show sv28 gs3 na = _; rw [hsv, hQ1]) (Nat.lt_of_le_of_lt (Nat.div_le_self _ _) hAb.out) (fun h9 => sgProd hSA.out hSB.out (by rw [eNA.out, eNB.out]; exact Nat.mul_pos (by omega) (by omega))) H.size) (cwV 3 hts gwsRX12_divide_4 rfl rfl rfl hd_yX12_carry_RX12 (by decide +kernel)) (fz_pre (va_recv hK hP (ci := 12) (q0 := 0) rfl rfl) hP hK hD) rfl rfl hl.1 rfl (lv_room (Nat.le_of_ble_eq_true rfl)) dX12_divide_589 (by decide +kernel)) hS (fun q _ h => hFc q h) hFc (fun g589_1 t9_ H locs ht hvm hw9 hB9 hz1 hk1 hS => ?_)
                                  have e9F : fT (fT (fT vF 2 fr) 3 f3) 0 g589_1 = fT (fT (fT (fT vF 2 fr) 3 f3) 0 g5) 0 g589_1 := (fT_sm _ _ _ _).symm
                                  have hP := wr_PF e9F (fz_P ht hB9.1)
                                  have hD := wr_DF e9F (hB9.2.weaken (fun _ q _ h => hFc q.1 h))
                                  clear e9F
                                  revert hw9
                                  refine fz_a2 ?_
                                  intro f589_1_0 f589_1_1
                                  have f589_1_1 : ∀ q, (q < 24 * sn ∨ 24 * sn + 24 ≤ q) → g589_1 q = g5 q := f589_1_1
                                  refine W.widen (k := 0) (n := 0) (by decide +kernel) (by decide +kernel) ?_
                                  exact W.vret hx hb hr (fun t9_ ht hW => ⟨⟨(g589_1, fr, f3, gs3), rfl, by (try dsimp only); (have e1 := tdivE (x := xa) (y := xb) eb0.out); (have e2 := tmodE (x := xa) (y := xb)); (have sa := hSA.out); (have sb := hSB.out); (have za : xa ≠ 0 := by (have q9 : xa.natAbs = NA9 := eNA.out); omega); rw [eNA.out, eNB.out] at e1 e2; rw [hR1, ← hmv] at e2; rw [e1] at f589_1_0; (have hN : Nu g5 rn (xa.tmod xb) := by rw [← e2]; exact nu_of (qs := (vF 0 (24 * an))) (by omega) hg1 (fun q hq => by rw [hcp q (by omega)]; exact limb0N hlr (by omega)) (fun h9 => by rw [show 24 * rn + 1 + mm = 24 * rn + 2 + (mm - 1) by omega, hcp (mm - 1) (by omega)]; exact c_501) (lv28_congr (fun q hq => by rw [hcp q (by omega), Nat.zero_add])) hg0 (by split <;> first | exact Or.inr ⟨rfl, ofm1 (by omega)⟩ | exact Or.inl ⟨rfl, of1 (by omega)⟩)); exact ⟨f589_1_0, hN.keep (fun q h1 h2 => f589_1_1 q (by omega)), fun q h1 h2 => (f589_1_1 q h1).trans (hgo q h2)⟩, by rw [ht]; exact hP, hD⟩, hS.F ht⟩) hS.2.2 dX12_divide_592
                                · have t_550 : ¬ ((i : Nat) : Int) ≥ ((mm : Nat) : Int) := toI_nge c_550 (nI_toInt (by omega)) (nI_toInt (by omega))
                                  refine lv_aload_n hx hb dX12_divide_553 rfl (lv_at hl 0 rfl) ?_
                                  refine va_get (D := (dC, dI)) (ci := 12) (v := .ref (a 0)) (C := RX12) (T := TX12) (N := 163) (fs := fM (vS a vi vj)) hx hb hts iwsRX12_divide_in12 hown hK hP 0 rfl rfl 1 (by decide) (hts _ hm_r_X12_divide_0) (fun _ h9 => h9) rfl dX12_divide_554 ?_
                                  refine lv_bipush (v := 24) hx hb dX12_divide_557 (by decide) ?_
                                  refine lv_iload_n hx hb dX12_divide_559 rfl (lv_at hl 2 rfl) ?_
                                  refine lv_imul hx hb dX12_divide_560 ?_
                                  refine lv_topi (fun y22 hy22 => ?_)
                                  obtain rfl : (nI (24 * rn)) = y22 := (hy22.trans (pk_mul 24 rn)).symm
                                  refine lv_iconst (v := 2) hx hb dX12_divide_561 (by decide) ?_
                                  refine lv_iadd hx hb dX12_divide_562 ?_
                                  refine lv_topi (fun y23 hy23 => ?_)
                                  obtain rfl : (nI ((24 * rn) + 2)) = y23 := (hy23.trans (nI_add (24 * rn) 2)).symm
                                  refine lv_iload hx hb dX12_divide_563 (lv_at hl 10 rfl) ?_
                                  refine lv_iadd hx hb dX12_divide_565 ?_
                                  refine lv_topi (fun y24 hy24 => ?_)
                                  obtain rfl : (nI (((24 * rn) + 2) + i)) = y24 := (hy24.trans (nI_add ((24 * rn) + 2) i)).symm
                                  refine lv_aload_n hx hb dX12_divide_566 rfl (lv_at hl 0 rfl) ?_
                                  refine va_get (D := (dC, dI)) (ci := 12) (v := .ref (a 2)) (C := RX12) (T := TX12) (N := 163) (fs := fM (vS a vi vj)) hx hb hts iwsRX12_divide_in12 hown hK hP 0 rfl rfl 3 (by decide) (hts _ hm_r_X12_divide_1) (fun _ h9 => h9) rfl dX12_divide_567 ?_
                                  refine lv_iload hx hb dX12_divide_570 (lv_at hl 10 rfl) ?_
                                  refine va_iald (cA := k 2) (n := 60) (f := fr) hx hb hK hP 3 2 (WR_get 2 (by decide)) (TR_get 2 (by decide)) (vp_in_nI (show i < 60 by omega) (by omega)) dX12_divide_572 ?_
                                  refine lv_topi (fun y25 hy25 => ?_)
                                  obtain rfl : (fr i) = y25 := (hy25.trans (by rw [nI_clamp (by omega)])).symm
                                  refine va_iast (cA := k 0) (n := 26400) (f := g5) hx hb hK hP hD hS 1 0 (WR_get 0 (by decide)) (TR_get 0 (by decide)) (vp_in_nI (show (((24 * rn) + 2) + i) < 26400 by omega) (by omega)) dX12_divide_573 (fun H locs hP hD hS => ?_)
                                  have e9 : fT (fT (fT vF 2 fr) 3 f3) 0 (upd g5 ((nI (((24 * rn) + 2) + i))).toNatClampNeg (fr i)) = fT (fT (fT (fT vF 2 fr) 3 f3) 0 g5) 0 (upd g5 ((nI (((24 * rn) + 2) + i))).toNatClampNeg (fr i)) := (fT_sm _ _ _ _).symm
                                  have hP := wr_PF e9 (fz_w (WR_F 0 (by decide) _ rfl) hP)
                                  have hD := wr_DF e9 (fz_wD (WR_F 0 (by decide) _ rfl) hD)
                                  clear e9
                                  refine lv_iinc (v := (nI (i + 1))) hx hb dX12_divide_574 hl (k := 10) rfl (nI_add i 1) (by decide) rfl (fun ls (hl : lv_has ls _ ([(10, .int (nI (i + 1))), (0, .ref h0), (1, .int (nI sn)), (2, .int (nI rn)), (3, .int (nI an)), (4, .int (nI bn)), (5, .int (nI na)), (6, .int (nI nb_)), (7, .int (vF 0 (24 * an))), (8, .int (vF 0 (24 * bn))), (9, .int (nI mm))])) => ?_)
                                  refine lv_goto (tgt := 546) hx hb dX12_divide_577 (by decide) ?_
                                  have hl : lv_has _ _ ([(0, .ref h0), (1, .int (nI sn)), (2, .int (nI rn)), (3, .int (nI an)), (4, .int (nI bn)), (5, .int (nI na)), (6, .int (nI nb_)), (7, .int (vF 0 (24 * an))), (8, .int (vF 0 (24 * bn))), (9, .int (nI mm)), (10, .int (nI (i + 1)))]) := lv_sub hl [1, 2, 3, 4, 5, 6, 7, 8, 9, 10, 0] rfl
                                  exact ih546_6 (i + 1) (upd g5 ((nI (((24 * rn) + 2) + i))).toNatClampNeg (fr i)) _ _ _ (by omega) (fun q hq => by rw [upd_at (by omega)]; by_cases e9 : 24 * rn + 2 + q = 24 * rn + 2 + i; (rw [if_pos e9, show q = i by omega]); (rw [if_neg e9]; exact hcp q (by omega))) (by rw [upd_at (by omega), if_neg (by omega)]; exact hg1) (by rw [upd_at (by omega), if_neg (by omega)]; exact hg0) (fun q hq => by rw [upd_at (by omega), if_neg (by omega)]; exact hgo q hq) (by omega) hP hD hS hl
                            · have t_501 : ((fr (mm - 1))).toInt = 0 := toI_nne c_501 rfl (by decide)
                              refine lv_iinc (v := (nI (mm - 1))) hx hb dX12_divide_504 hl (k := 9) rfl (sb_m1 (by omega)) (by decide) rfl (fun ls (hl : lv_has ls _ ([(9, .int (nI (mm - 1))), (0, .ref h0), (1, .int (nI sn)), (2, .int (nI rn)), (3, .int (nI an)), (4, .int (nI bn)), (5, .int (nI na)), (6, .int (nI nb_)), (7, .int (vF 0 (24 * an))), (8, .int (vF 0 (24 * bn)))])) => ?_)
                              refine lv_goto (tgt := 487) hx hb dX12_divide_507 (by decide) ?_
                              have hl : lv_has _ _ ([(0, .ref h0), (1, .int (nI sn)), (2, .int (nI rn)), (3, .int (nI an)), (4, .int (nI bn)), (5, .int (nI na)), (6, .int (nI nb_)), (7, .int (vF 0 (24 * an))), (8, .int (vF 0 (24 * bn))), (9, .int (nI (mm - 1)))]) := lv_sub hl [1, 2, 3, 4, 5, 6, 7, 8, 9, 0] rfl
                              exact ih487_4 (mm - 1) _ _ _ (by omega) (by obtain ⟨k9, rfl⟩ : ∃ k9, mm = k9 + 1 := ⟨mm - 1, by omega⟩; rw [show k9 + 1 - 1 = k9 by omega] at c_501 ⊢; rw [← hmv, lv28_skip0 c_501]) (by omega) hP hD hS hl
                      · have t_277 : ¬ (kq).toInt < 0 := toI_nlt c_277 rfl (by decide)
                        obtain ⟨kk, h_kk, rfl⟩ := of_toInt (x := kq) (k := 23) (by omega) (by omega)
                        have e_kk : (nI kk).toInt = (kk : Int) := nI_toInt (by omega)
                        refine lv_bipush (v := 27) hx hb dX12_divide_280 (by decide) ?_
                        refine lv_istore hx hb dX12_divide_282 hl (by decide) rfl (fun ls (hl : lv_has ls _ ([(10, .int 27), (0, .ref h0), (1, .int (nI sn)), (2, .int (nI rn)), (3, .int (nI an)), (4, .int (nI bn)), (5, .int (nI na)), (6, .int (nI nb_)), (7, .int (vF 0 (24 * an))), (8, .int (vF 0 (24 * bn))), (9, .int (nI kk))])) => ?_)
                        have hl : lv_has _ _ ([(0, .ref h0), (1, .int (nI sn)), (2, .int (nI rn)), (3, .int (nI an)), (4, .int (nI bn)), (5, .int (nI na)), (6, .int (nI nb_)), (7, .int (vF 0 (24 * an))), (8, .int (vF 0 (24 * bn))), (9, .int (nI kk)), (10, .int 27)]) := lv_sub hl [1, 2, 3, 4, 5, 6, 7, 8, 9, 10, 0] rfl
                        refine (fun (loop : ∀ (n9 : Nat) (bq : Int32) (b1 : Nat) (tt : Nat) (Q2 : Nat) (fr2 : Nat → Int32) (gs4 : Nat → Int64) (H : Heap) (locs : List Loc) (ls : Array Slot), ((bq).toInt = (b1 : Int) - 1) → (b1 ≤ 28) → (Lm fr2 0 (nb_ + 1)) → (lv28 fr2 0 (nb_ + 1) < NB9) → (lv28 (vF 0) (24 * an + 2) na / 2 ^ (28 * kk + b1) = Q2 * NB9 + lv28 fr2 0 (nb_ + 1)) → (gs4 kk = lN (tt * 2 ^ b1)) → (tt < 2 ^ (28 - b1)) → (∀ q, q < kk → gs4 q = 0) → (∀ q, q < na → 0 ≤ (gs4 q).toInt ∧ (gs4 q).toInt < 268435456) → (sv28 gs4 na = ((Q2 * 2 ^ (28 * kk + b1) : Nat) : Int)) →  (b1 < n9) → va_P (dC, dI) vwCl (WR a k h0 vi vj (fT (fT vF 2 fr2) 3 f3) (fT vG 1 gs4)) H → va_D A (WR a k h0 vi vj (fT (fT vF 2 fr2) 3 f3) (fT vG 1 gs4)) → va_S A s.heap H locs → lv_has ls 15 [(0, .ref h0), (1, .int (nI sn)), (2, .int (nI rn)), (3, .int (nI an)), (4, .int (nI bn)), (5, .int (nI na)), (6, .int (nI nb_)), (7, .int (vF 0 (24 * an))), (8, .int (vF 0 (24 * bn))), (9, .int (nI kk)), (10, .int bq)] → W p l e _ s m _ below meth c H locs 0 0 _ (F0 m 284 ls [])) => loop (29) 27 28 0 QQ fr gs3 _ _ _ (by decide) (by omega) (hlr) (hRB) (by rw [show 28 * kk + 28 = 28 * kk1 by omega]; exact hQ) (by rw [hz3 kk (by omega), Nat.zero_mul]; rfl) (by simp) (fun q hq => hz3 q (by omega)) (hent) (by rw [show 28 * kk + 28 = 28 * kk1 by omega]; exact hsv) (by omega) hP hD hS hl) ?_
                        intro n9
                        induction n9 with
                        | zero => intro bq b1 tt Q2 fr2 gs4 H locs ls hbq hb28 hlr2 hRB2 hQ2 hgk htt hz4 hent4 hsv4 hf9; exact False.elim (by omega)
                        | succ n9 ih284_7 =>
                          intro bq b1 tt Q2 fr2 gs4 H locs ls hbq hb28 hlr2 hRB2 hQ2 hgk htt hz4 hent4 hsv4 hf284_7 hP hD hS hl
                          refine lv_iload hx hb dX12_divide_284 (lv_at hl 10 rfl) ?_
                          refine lv_if_lt (tgt := 477) hx hb dX12_divide_286 (by decide) (fun c_286 => ?_) (fun c_286 => ?_)
                          · have t_286 : (bq).toInt < 0 := toI_lt c_286 rfl (by decide)
                            refine lv_iinc (v := ((nI kk) + (-1))) hx hb dX12_divide_477 hl (k := 9) rfl rfl (by decide) rfl (fun ls (hl : lv_has ls _ ([(9, .int ((nI kk) + (-1))), (0, .ref h0), (1, .int (nI sn)), (2, .int (nI rn)), (3, .int (nI an)), (4, .int (nI bn)), (5, .int (nI na)), (6, .int (nI nb_)), (7, .int (vF 0 (24 * an))), (8, .int (vF 0 (24 * bn))), (10, .int bq)])) => ?_)
                            refine lv_goto (tgt := 275) hx hb dX12_divide_480 (by decide) ?_
                            have hl : lv_has _ _ ([(0, .ref h0), (1, .int (nI sn)), (2, .int (nI rn)), (3, .int (nI an)), (4, .int (nI bn)), (5, .int (nI na)), (6, .int (nI nb_)), (7, .int (vF 0 (24 * an))), (8, .int (vF 0 (24 * bn))), (9, .int ((nI kk) + (-1)))]) := lv_sub hl [1, 2, 3, 4, 5, 6, 7, 8, 9, 0] rfl
                            exact ih275_3 ((nI kk) + (-1)) (kk1 - 1) Q2 fr2 gs4 _ _ _ (by rw [m1T (by omega)]; omega) (by omega) (hlr2) (hRB2) (by rw [show 28 * (kk1 - 1) = 28 * kk + b1 by omega]; exact hQ2) (fun q hq => hz4 q (by omega)) (hent4) (by rw [show 28 * (kk1 - 1) = 28 * kk + b1 by omega]; exact hsv4) (by omega) hP hD hS hl
                          · have t_286 : ¬ (bq).toInt < 0 := toI_nlt c_286 rfl (by decide)
                            obtain ⟨bb, h_bb, rfl⟩ := of_toInt (x := bq) (k := 28) (by omega) (by omega)
                            have e_bb : (nI bb).toInt = (bb : Int) := nI_toInt (by omega)
                            obtain ⟨dk, hdk, edk⟩ := hna3 kk (by omega)
                            refine lv_aload_n hx hb dX12_divide_289 rfl (lv_at hl 0 rfl) ?_
                            refine va_get (D := (dC, dI)) (ci := 12) (v := .ref (a 0)) (C := RX12) (T := TX12) (N := 163) (fs := fM (vS a vi vj)) hx hb hts iwsRX12_divide_in12 hown hK hP 0 rfl rfl 1 (by decide) (hts _ hm_r_X12_divide_0) (fun _ h9 => h9) rfl dX12_divide_290 ?_
                            refine lv_bipush (v := 24) hx hb dX12_divide_293 (by decide) ?_
                            refine lv_iload_n hx hb dX12_divide_295 rfl (lv_at hl 3 rfl) ?_
                            refine lv_imul hx hb dX12_divide_296 ?_
                            refine lv_topi (fun y26 hy26 => ?_)
                            obtain rfl : (nI (24 * an)) = y26 := (hy26.trans (pk_mul 24 an)).symm
                            refine lv_iconst (v := 2) hx hb dX12_divide_297 (by decide) ?_
                            refine lv_iadd hx hb dX12_divide_298 ?_
                            refine lv_topi (fun y27 hy27 => ?_)
                            obtain rfl : (nI ((24 * an) + 2)) = y27 := (hy27.trans (nI_add (24 * an) 2)).symm
                            refine lv_iload hx hb dX12_divide_299 (lv_at hl 9 rfl) ?_
                            refine lv_iadd hx hb dX12_divide_301 ?_
                            refine lv_topi (fun y28 hy28 => ?_)
                            obtain rfl : (nI (((24 * an) + 2) + kk)) = y28 := (hy28.trans (nI_add ((24 * an) + 2) kk)).symm
                            refine va_iald (cA := k 0) (n := 26400) (f := (vF 0)) hx hb hK hP 1 0 (WR_get 0 (by decide)) (TR_get 0 (by decide)) (vp_in_nI (show (((24 * an) + 2) + kk) < 26400 by omega) (by omega)) dX12_divide_302 ?_
                            refine lv_topi (fun y29 hy29 => ?_)
                            obtain rfl : ((vF 0) (((24 * an) + 2) + kk)) = y29 := (hy29.trans (by rw [nI_clamp (by omega)])).symm
                            refine lv_topi (fun y30 hy30 => ?_)
                            obtain rfl : (nI dk) = y30 := (hy30.trans (edk)).symm
                            refine lv_iload hx hb dX12_divide_303 (lv_at hl 10 rfl) ?_
                            refine lv_ishr hx hb dX12_divide_305 ?_
                            refine lv_iconst (v := 1) hx hb dX12_divide_306 (by decide) ?_
                            refine lv_iand hx hb dX12_divide_307 ?_
                            refine lv_topi (fun y31 hy31 => ?_)
                            obtain rfl : (nI (dk / 2 ^ bb % 2)) = y31 := (hy31.trans (bit32 (by omega) (by omega))).symm
                            obtain ⟨i0, hi0⟩ : ∃ i0, i0 = dk / 2 ^ bb % 2 := ⟨_, rfl⟩
                            refine lv_topi (fun y32 hy32 => ?_)
                            obtain rfl : (nI i0) = y32 := (hy32.trans (by rw [hi0])).symm
                            have hi01 : i0 ≤ 1 := by omega
                            refine lv_istore hx hb dX12_divide_308 hl (by decide) rfl (fun ls (hl : lv_has ls _ ([(11, .int (nI i0)), (0, .ref h0), (1, .int (nI sn)), (2, .int (nI rn)), (3, .int (nI an)), (4, .int (nI bn)), (5, .int (nI na)), (6, .int (nI nb_)), (7, .int (vF 0 (24 * an))), (8, .int (vF 0 (24 * bn))), (9, .int (nI kk)), (10, .int (nI bb))])) => ?_)
                            refine lv_iconst (v := 0) hx hb dX12_divide_310 (by decide) ?_
                            refine lv_istore hx hb dX12_divide_311 hl (by decide) rfl (fun ls (hl : lv_has ls _ ([(12, .int 0), (11, .int (nI i0)), (0, .ref h0), (1, .int (nI sn)), (2, .int (nI rn)), (3, .int (nI an)), (4, .int (nI bn)), (5, .int (nI na)), (6, .int (nI nb_)), (7, .int (vF 0 (24 * an))), (8, .int (vF 0 (24 * bn))), (9, .int (nI kk)), (10, .int (nI bb))])) => ?_)
                            have hl : lv_has _ _ ([(0, .ref h0), (1, .int (nI sn)), (2, .int (nI rn)), (3, .int (nI an)), (4, .int (nI bn)), (5, .int (nI na)), (6, .int (nI nb_)), (7, .int (vF 0 (24 * an))), (8, .int (vF 0 (24 * bn))), (9, .int (nI kk)), (10, .int (nI bb)), (11, .int (nI i0)), (12, .int (nI 0))]) := lv_sub hl [2, 3, 4, 5, 6, 7, 8, 9, 10, 11, 12, 1, 0] rfl
                            refine (fun (loop : ∀ (n9 : Nat) (i : Nat) (inb : Nat) (fr3 : Nat → Int32) (H : Heap) (locs : List Loc) (ls : Array Slot), (i ≤ nb_ + 1) → (inb ≤ 1) → (lv28 fr3 0 i + inb * 2 ^ (28 * i) = 2 * lv28 fr2 0 i + i0) → (Lm fr3 0 i) → (∀ q, i ≤ q → fr3 q = fr2 q) →  (nb_ + 1 < i + n9) → va_P (dC, dI) vwCl (WR a k h0 vi vj (fT (fT vF 2 fr3) 3 f3) (fT vG 1 gs4)) H → va_D A (WR a k h0 vi vj (fT (fT vF 2 fr3) 3 f3) (fT vG 1 gs4)) → va_S A s.heap H locs → lv_has ls 15 [(0, .ref h0), (1, .int (nI sn)), (2, .int (nI rn)), (3, .int (nI an)), (4, .int (nI bn)), (5, .int (nI na)), (6, .int (nI nb_)), (7, .int (vF 0 (24 * an))), (8, .int (vF 0 (24 * bn))), (9, .int (nI kk)), (10, .int (nI bb)), (11, .int (nI inb)), (12, .int (nI i))] → W p l e _ s m _ below meth c H locs 0 0 _ (F0 m 313 ls [])) => loop (nb_ + 2) 0 i0 fr2 _ _ _ (by omega) (by omega) (by simp [lv28]) (fun q hq => absurd hq (by omega)) (fun q _ => rfl) (by omega) hP hD hS hl) ?_
                            intro n9
                            induction n9 with
                            | zero => intro i inb fr3 H locs ls hi hin hsh hl4 hsame hf9; exact False.elim (by omega)
                            | succ n9 ih313_8 =>
                              intro i inb fr3 H locs ls hi hin hsh hl4 hsame hf313_8 hP hD hS hl
                              refine lv_iload hx hb dX12_divide_313 (lv_at hl 12 rfl) ?_
                              refine lv_iload hx hb dX12_divide_315 (lv_at hl 6 rfl) ?_
                              refine lv_icmp_gt (tgt := 360) hx hb dX12_divide_317 (by decide) (fun c_317 => ?_) (fun c_317 => ?_)
                              · have t_317 : ((i : Nat) : Int) > ((nb_ : Nat) : Int) := toI_gt c_317 (nI_toInt (by omega)) (nI_toInt (by omega))
                                have ei : i = nb_ + 1 := by omega
                                have hsh2 : lv28 fr3 0 (nb_ + 1) + inb * 2 ^ (28 * (nb_ + 1)) = 2 * lv28 fr2 0 (nb_ + 1) + i0 := by rw [← ei]; exact hsh
                                have hl4m : Lm fr3 0 (nb_ + 1) := by rw [← ei]; exact hl4
                                have hin0 := noCarry hsh2 hRB2 hBP hi01
                                rw [hin0, Nat.zero_mul, Nat.add_zero] at hsh2
                                have hA2 : lv28 (vF 0) (24 * an + 2) na / 2 ^ (28 * kk + bb) = 2 * Q2 * NB9 + (2 * lv28 fr2 0 (nb_ + 1) + i0) := bitQ hQ2 (by rw [show b1 = bb + 1 by omega, hi0]; exact lv28_bit hna3 (by omega) hdk edk (by omega))
                                refine lv_aload_n hx hb dX12_divide_360 rfl (lv_at hl 0 rfl) ?_
                                refine lv_iload hx hb dX12_divide_361 (lv_at hl 6 rfl) ?_
                                have hFc := allFree hD hS hA
                                refine va_calli (va_runV (As := [.int (nI nb_)]) (rest := []) ⟨hx, hb, hml, hown, hts⟩ (r_X12_isMore l dC dI a k h0 vi vj (fT (fT vF 2 fr3) 3 f3) (fT vG 1 gs4) nb_ (by first | with_reducible assumption | decide | omega | rfl | assumption) (hl4m) (hl3m) H.size) (cwV 1 hts gwsRX12_divide_5 rfl rfl rfl hd_yX12_isMore_RX12 (by decide +kernel)) (fz_pre (va_recv hK hP (ci := 12) (q0 := 0) rfl rfl) hP hK hD) rfl rfl hl.1 rfl (lv_room (Nat.le_of_ble_eq_true rfl)) dX12_divide_363 (by decide +kernel)) hS (fun q _ h => hFc q h) hFc (fun r363 u t9_ H locs ht hvm hw9 hB9 hz1 hk1 hS => ?_)
                                have hP : va_P (dC, dI) vwCl (WR a k h0 vi vj (fT (fT vF 2 fr3) 3 f3) (fT vG 1 gs4)) H := fz_P ht hB9.1
                                have hD := fz_sd hP (hB9.2.weaken (fun _ q _ h => hFc q.1 h)) rfl
                                rcases hw9 with ⟨rfl, f363_0⟩ | ⟨rfl, f363_0⟩
                                · have f363_0 : lv28 f3 0 nb_ ≤ lv28 fr3 0 (nb_ + 1) := f363_0
                                  have fm : lv28 f3 0 nb_ ≤ lv28 fr3 0 (nb_ + 1) := f363_0
                                  rw [hlB] at fm
                                  refine lv_if_ne (tgt := 372) hx hb dX12_divide_366 (by decide) (fun _ => ?_) (fun c9 => absurd c9 (by decide))
                                  refine lv_iconst (v := 0) hx hb dX12_divide_372 (by decide) ?_
                                  refine lv_istore hx hb dX12_divide_373 hl (by decide) rfl (fun ls (hl : lv_has ls _ ([(12, .int 0), (0, .ref h0), (1, .int (nI sn)), (2, .int (nI rn)), (3, .int (nI an)), (4, .int (nI bn)), (5, .int (nI na)), (6, .int (nI nb_)), (7, .int (vF 0 (24 * an))), (8, .int (vF 0 (24 * bn))), (9, .int (nI kk)), (10, .int (nI bb)), (11, .int (nI inb))])) => ?_)
                                  refine lv_iconst (v := 0) hx hb dX12_divide_375 (by decide) ?_
                                  refine lv_istore hx hb dX12_divide_376 hl (by decide) rfl (fun ls (hl : lv_has ls _ ([(13, .int 0), (12, .int 0), (0, .ref h0), (1, .int (nI sn)), (2, .int (nI rn)), (3, .int (nI an)), (4, .int (nI bn)), (5, .int (nI na)), (6, .int (nI nb_)), (7, .int (vF 0 (24 * an))), (8, .int (vF 0 (24 * bn))), (9, .int (nI kk)), (10, .int (nI bb)), (11, .int (nI inb))])) => ?_)
                                  have hl : lv_has _ _ ([(0, .ref h0), (1, .int (nI sn)), (2, .int (nI rn)), (3, .int (nI an)), (4, .int (nI bn)), (5, .int (nI na)), (6, .int (nI nb_)), (7, .int (vF 0 (24 * an))), (8, .int (vF 0 (24 * bn))), (9, .int (nI kk)), (10, .int (nI bb)), (12, .int (nI 0)), (13, .int (nI 0))]) := lv_sub hl [2, 3, 4, 5, 6, 7, 8, 9, 10, 11, 12, 1, 0] rfl
                                  refine (fun (loop : ∀ (n9 : Nat) (j : Nat) (bw : Nat) (fr4 : Nat → Int32) (H : Heap) (locs : List Loc) (ls : Array Slot), (j ≤ nb_ + 1) → (bw ≤ 1) → (Lm fr4 0 j) → (∀ q, j ≤ q → fr4 q = fr3 q) → (lv28 fr4 0 j + lv28 f3 0 (if j ≤ nb_ then j else nb_) = lv28 fr3 0 j + bw * 2 ^ (28 * j)) →  (nb_ + 1 < j + n9) → va_P (dC, dI) vwCl (WR a k h0 vi vj (fT (fT vF 2 fr4) 3 f3) (fT vG 1 gs4)) H → va_D A (WR a k h0 vi vj (fT (fT vF 2 fr4) 3 f3) (fT vG 1 gs4)) → va_S A s.heap H locs → lv_has ls 15 [(0, .ref h0), (1, .int (nI sn)), (2, .int (nI rn)), (3, .int (nI an)), (4, .int (nI bn)), (5, .int (nI na)), (6, .int (nI nb_)), (7, .int (vF 0 (24 * an))), (8, .int (vF 0 (24 * bn))), (9, .int (nI kk)), (10, .int (nI bb)), (12, .int (nI bw)), (13, .int (nI j))] → W p l e _ s m _ below meth c H locs 0 0 _ (F0 m 378 ls [])) => loop (nb_ + 2) 0 0 fr3 _ _ _ (by omega) (by omega) (fun q hq => absurd hq (by omega)) (fun q _ => rfl) (by rw [if_pos (by omega)]; simp [lv28]) (by omega) hP hD hS hl) ?_
                                  intro n9
                                  induction n9 with
                                  | zero => intro j bw fr4 H locs ls hj hbw hl5 hsame5 hsb hf9; exact False.elim (by omega)
                                  | succ n9 ih378_9 =>
                                    intro j bw fr4 H locs ls hj hbw hl5 hsame5 hsb hf378_9 hP hD hS hl
                                    refine lv_iload hx hb dX12_divide_378 (lv_at hl 12 rfl) ?_
                                    refine lv_iload hx hb dX12_divide_380 (lv_at hl 6 rfl) ?_
                                    refine lv_icmp_gt (tgt := 457) hx hb dX12_divide_382 (by decide) (fun c_382 => ?_) (fun c_382 => ?_)
                                    · have t_382 : ((j : Nat) : Int) > ((nb_ : Nat) : Int) := toI_gt c_382 (nI_toInt (by omega)) (nI_toInt (by omega))
                                      have ej : j = nb_ + 1 := by omega
                                      have hsb2 : lv28 fr4 0 (nb_ + 1) + NB9 = lv28 fr3 0 (nb_ + 1) + bw * 2 ^ (28 * (nb_ + 1)) := by rw [← hlB, ← ej]; rw [if_neg (by omega)] at hsb; exact hsb
                                      have hl5m : Lm fr4 0 (nb_ + 1) := by rw [← ej]; exact hl5
                                      have hbw0 := noBorrow hl5m hsb2 fm
                                      rw [hbw0, Nat.zero_mul, Nat.add_zero] at hsb2
                                      have hgk1 : gs4 kk = lN (tt * 2 ^ (bb + 1)) := by rw [hgk, show b1 = bb + 1 by omega]
                                      have htt1 : tt < 2 ^ (28 - (bb + 1)) := by rw [show bb + 1 = b1 by omega]; exact htt
                                      have hta := tt_all (b := bb + 1) (by omega) htt1
                                      have htb := tt_all (b := bb) (by omega) (tt_lt (b := bb) (by omega) htt1)
                                      refine lv_aload_n hx hb dX12_divide_457 rfl (lv_at hl 0 rfl) ?_
                                      refine va_get (D := (dC, dI)) (ci := 12) (v := .ref (a 1)) (C := RX12) (T := TX12) (N := 163) (fs := fM (vS a vi vj)) hx hb hts iwsRX12_divide_in12 hown hK hP 0 rfl rfl 2 (by decide) (hts _ hm_r_X12_divide_2) (fun _ h9 => h9) rfl dX12_divide_458 ?_
                                      refine lv_iload hx hb dX12_divide_461 (lv_at hl 9 rfl) ?_
                                      refine lv_dup2_11 hx hb dX12_divide_463 rfl rfl ?_
                                      refine va_lald (cA := k 1) (n := 48) (f := gs4) hx hb hK hP 2 1 (WR_get 1 (by decide)) (TR_get 1 (by decide)) (vp_in_nI (show kk < 48 by omega) (by omega)) dX12_divide_464 ?_
                                      refine lv_topl (fun y33 hy33 => ?_)
                                      obtain rfl : (gs4 kk) = y33 := (hy33.trans (by rw [nI_clamp (by omega)])).symm
                                      refine lv_topl (fun y34 hy34 => ?_)
                                      obtain rfl : (lN (tt * 2 ^ (bb + 1))) = y34 := (hy34.trans (hgk1)).symm
                                      refine lv_lconst (v := 1) hx hb dX12_divide_465 (by decide) ?_
                                      refine lv_iload hx hb dX12_divide_466 (lv_at hl 10 rfl) ?_
                                      refine lv_lshl hx hb dX12_divide_468 rfl ?_
                                      refine lv_lor hx hb dX12_divide_469 ?_
                                      refine lv_topl (fun y35 hy35 => ?_)
                                      obtain rfl : (lN ((2 * tt + 1) * 2 ^ bb)) = y35 := (hy35.trans (orBit (by omega) (by omega))).symm
                                      refine va_last (cA := k 1) (n := 48) (f := gs4) hx hb hK hP hD hS 2 1 (WR_get 1 (by decide)) (TR_get 1 (by decide)) (vp_in_nI (show kk < 48 by omega) (by omega)) dX12_divide_470 (fun H locs hP hD hS => ?_)
                                      have e9 : fT vG 1 (vp_updL gs4 ((nI kk)).toNatClampNeg (lN ((2 * tt + 1) * 2 ^ bb))) = fT (fT vG 1 gs4) 1 (vp_updL gs4 ((nI kk)).toNatClampNeg (lN ((2 * tt + 1) * 2 ^ bb))) := (fT_sm _ _ _ _).symm
                                      have hP := wr_PG e9 (fz_w (WR_G 1 (by decide) _ rfl) hP)
                                      have hD := wr_DG e9 (fz_wD (WR_G 1 (by decide) _ rfl) hD)
                                      clear e9
                                      refine lv_iinc (v := ((nI bb) + (-1))) hx hb dX12_divide_471 hl (k := 10) rfl rfl (by decide) rfl (fun ls (hl : lv_has ls _ ([(10, .int ((nI bb) + (-1))), (0, .ref h0), (1, .int (nI sn)), (2, .int (nI rn)), (3, .int (nI an)), (4, .int (nI bn)), (5, .int (nI na)), (6, .int (nI nb_)), (7, .int (vF 0 (24 * an))), (8, .int (vF 0 (24 * bn))), (9, .int (nI kk)), (12, .int (nI bw)), (13, .int (nI j))])) => ?_)
                                      refine lv_goto (tgt := 284) hx hb dX12_divide_474 (by decide) ?_
                                      have hl : lv_has _ _ ([(0, .ref h0), (1, .int (nI sn)), (2, .int (nI rn)), (3, .int (nI an)), (4, .int (nI bn)), (5, .int (nI na)), (6, .int (nI nb_)), (7, .int (vF 0 (24 * an))), (8, .int (vF 0 (24 * bn))), (9, .int (nI kk)), (10, .int ((nI bb) + (-1)))]) := lv_sub hl [1, 2, 3, 4, 5, 6, 7, 8, 9, 10, 0] rfl
                                      exact ih284_7 ((nI bb) + (-1)) (b1 - 1) (2 * tt + 1) (2 * Q2 + 1) fr4 (vp_updL gs4 ((nI kk)).toNatClampNeg (lN ((2 * tt + 1) * 2 ^ bb))) _ _ _ (by rw [m1T (by omega)]; omega) (by omega) (hl5m) (by omega) (by rw [show b1 - 1 = bb by omega, hA2]; rw [Nat.add_mul, Nat.one_mul]; omega) (by rw [updL_at (by omega), if_pos rfl, show b1 - 1 = bb by omega]) (by (have h9 : tt < 2 ^ (28 - (bb + 1)) := by rw [show bb + 1 = b1 by omega]; exact htt); (have h8 := tt_lt (b := bb) (by omega) h9); rw [show b1 - 1 = bb by omega]; omega) (fun q hq => by rw [updL_at (by omega), if_neg (by omega)]; exact hz4 q hq) (fun q hq => by rw [updL_at (by omega)]; by_cases e9 : q = kk; (rw [if_pos e9, pk_lT (by omega)]; omega); (rw [if_neg e9]; exact hent4 q hq)) (by rw [sv28_upd (by omega) (by omega), hgk1, pk_lT (by omega), pk_lT (by omega), show b1 - 1 = bb by omega]; exact svQ (by rw [show bb + 1 = b1 by omega]; exact hsv4) rfl rfl) (by omega) hP hD hS hl
                                    · have t_382 : ¬ ((j : Nat) : Int) > ((nb_ : Nat) : Int) := toI_ngt c_382 (nI_toInt (by omega)) (nI_toInt (by omega))
                                      try clear hA2
                                      try clear hgk
                                      try clear htt
                                      try clear hz4
                                      try clear hent4
                                      try clear hsv4
                                      try clear hQ2
                                      try clear hRB2
                                      try clear hsh2
                                      try clear hsh
                                      try clear hin0
                                      try clear fm
                                      try clear hBP
                                      try clear hlB
                                      try clear hRB
                                      try clear hQ
                                      try clear hz3
                                      try clear hent
                                      try clear hsv
                                      try clear hge
                                      try clear hAb
                                      try clear eNA
                                      try clear eNB
                                      try clear hSA
                                      try clear hSB
                                      try clear eb0
                                      try clear hna5
                                      try clear hnb5
                                      try clear hr00
                                      try clear hlr
                                      try clear hlr2
                                      try clear hl4
                                      try clear hsame
                                      try clear hzs
                                      try clear hr0
                                      try clear hNB0
                                      try clear hi0
                                      try clear edk
                                      try clear hdk
                                      try clear hna4
                                      try clear hnb4
                                      obtain ⟨d4, hd4, ed4⟩ := limb0N hl4m (q := j) (by omega)
                                      refine lv_aload_n hx hb dX12_divide_385 rfl (lv_at hl 0 rfl) ?_
                                      refine va_get (D := (dC, dI)) (ci := 12) (v := .ref (a 2)) (C := RX12) (T := TX12) (N := 163) (fs := fM (vS a vi vj)) hx hb hts iwsRX12_divide_in12 hown hK hP 0 rfl rfl 3 (by decide) (hts _ hm_r_X12_divide_1) (fun _ h9 => h9) rfl dX12_divide_386 ?_
                                      refine lv_iload hx hb dX12_divide_389 (lv_at hl 12 rfl) ?_
                                      refine va_iald (cA := k 2) (n := 60) (f := fr4) hx hb hK hP 3 2 (WR_get 2 (by decide)) (TR_get 2 (by decide)) (vp_in_nI (show j < 60 by omega) (by omega)) dX12_divide_391 ?_
                                      refine lv_topi (fun y36 hy36 => ?_)
                                      obtain rfl : (fr4 j) = y36 := (hy36.trans (by rw [nI_clamp (by omega)])).symm
                                      refine lv_topi (fun y37 hy37 => ?_)
                                      obtain rfl : (nI d4) = y37 := (hy37.trans ((hsame5 j (by omega)).trans ed4)).symm
                                      refine lv_iload hx hb dX12_divide_392 (lv_at hl 12 rfl) ?_
                                      refine lv_iload hx hb dX12_divide_394 (lv_at hl 6 rfl) ?_
                                      refine lv_icmp_ge (tgt := 409) hx hb dX12_divide_396 (by decide) (fun c_396 => ?_) (fun c_396 => ?_)
                                      · have t_396 : ((j : Nat) : Int) ≥ ((nb_ : Nat) : Int) := toI_ge c_396 (nI_toInt (by omega)) (nI_toInt (by omega))
                                        refine lv_iconst (v := 0) hx hb dX12_divide_409 (by decide) ?_
                                        refine lv_isub hx hb dX12_divide_410 ?_
                                        refine lv_iload hx hb dX12_divide_411 (lv_at hl 11 rfl) ?_
                                        refine lv_isub hx hb dX12_divide_413 ?_
                                        obtain ⟨d3, hd3⟩ : ∃ d3 : Nat, d3 = 0 := ⟨_, rfl⟩
                                        have e43 : (nI d4 - 0).toInt = (d4 : Int) - d3 := by (have e9 : (nI d4 - nI 0).toInt = (d4 : Int) - (0 : Nat) := pk_sub_toInt (by omega) (by omega)); rw [hd3]; exact e9
                                        have hL9 : lv28 f3 0 (if j + 1 ≤ nb_ then j + 1 else nb_) = lv28 f3 0 (if j ≤ nb_ then j else nb_) + d3 * 2 ^ (28 * j) := by rw [if_neg (by omega), if_pos (by omega), hd3, Nat.zero_mul, show j = nb_ by omega]; rfl
                                        have ebw : (nI bw).toInt = (bw : Int) := nI_toInt (by omega)
                                        obtain ⟨vv, hvv⟩ : ∃ vv, vv = (((nI d4) - 0) - (nI bw)) := ⟨_, rfl⟩
                                        have ev : vv.toInt = (d4 : Int) - d3 - bw := by rw [hvv, subB (by omega) (by omega), e43, ebw]
                                        refine lv_topi (fun y38 hy38 => ?_)
                                        obtain rfl : vv = y38 := (hy38.trans (hvv.symm)).symm
                                        refine lv_istore hx hb dX12_divide_414 hl (by decide) rfl (fun ls (hl : lv_has ls _ ([(14, .int vv), (0, .ref h0), (1, .int (nI sn)), (2, .int (nI rn)), (3, .int (nI an)), (4, .int (nI bn)), (5, .int (nI na)), (6, .int (nI nb_)), (7, .int (vF 0 (24 * an))), (8, .int (vF 0 (24 * bn))), (9, .int (nI kk)), (10, .int (nI bb)), (12, .int (nI bw)), (13, .int (nI j))])) => ?_)
                                        refine lv_iload hx hb dX12_divide_416 (lv_at hl 0 rfl) ?_
                                        refine lv_if_ge (tgt := 425) hx hb dX12_divide_418 (by decide) (fun c_418 => ?_) (fun c_418 => ?_)
                                        · have t_418 : (vv).toInt ≥ 0 := toI_ge c_418 rfl (by decide)
                                          refine lv_iconst (v := 0) hx hb dX12_divide_425 (by decide) ?_
                                          refine lv_istore hx hb dX12_divide_426 hl (by decide) rfl (fun ls (hl : lv_has ls _ ([(12, .int 0), (14, .int vv), (0, .ref h0), (1, .int (nI sn)), (2, .int (nI rn)), (3, .int (nI an)), (4, .int (nI bn)), (5, .int (nI na)), (6, .int (nI nb_)), (7, .int (vF 0 (24 * an))), (8, .int (vF 0 (24 * bn))), (9, .int (nI kk)), (10, .int (nI bb)), (13, .int (nI j))])) => ?_)
                                          refine lv_aload_n hx hb dX12_divide_428 rfl (lv_at hl 2 rfl) ?_
                                          refine va_get (D := (dC, dI)) (ci := 12) (v := .ref (a 2)) (C := RX12) (T := TX12) (N := 163) (fs := fM (vS a vi vj)) hx hb hts iwsRX12_divide_in12 hown hK hP 0 rfl rfl 3 (by decide) (hts _ hm_r_X12_divide_1) (fun _ h9 => h9) rfl dX12_divide_429 ?_
                                          refine lv_iload hx hb dX12_divide_432 (lv_at hl 13 rfl) ?_
                                          refine lv_iload hx hb dX12_divide_434 (lv_at hl 1 rfl) ?_
                                          refine lv_if_ge (tgt := 448) hx hb dX12_divide_436 (by decide) (fun c_436 => ?_) (fun c9 => False.elim (by have t9 : ¬ (vv).toInt ≥ 0 := toI_nge c9 rfl (by decide); omega))
                                          have t_436 : (vv).toInt ≥ 0 := toI_ge c_436 rfl (by decide)
                                          refine lv_iload hx hb dX12_divide_448 (lv_at hl 1 rfl) ?_
                                          obtain ⟨vx, hvx⟩ : ∃ vx, vx = (vv : Int32) := ⟨_, rfl⟩
                                          have hxe : vx.toInt = (d4 : Int) - d3 - bw + 268435456 * (0 : Nat) := by rw [hvx, ev]; omega
                                          have hx0 : 0 ≤ vx.toInt := by omega
                                          have hx1 : vx.toInt < 268435456 := by omega
                                          refine lv_topi (fun y39 hy39 => ?_)
                                          obtain rfl : vx = y39 := (hy39.trans (hvx.symm)).symm
                                          refine va_iast (cA := k 2) (n := 60) (f := fr4) hx hb hK hP hD hS 3 2 (WR_get 2 (by decide)) (TR_get 2 (by decide)) (vp_in_nI (show j < 60 by omega) (by omega)) dX12_divide_450 (fun H locs hP hD hS => ?_)
                                          have e9 : fT (fT vF 2 (upd fr4 ((nI j)).toNatClampNeg vx)) 3 f3 = fT (fT (fT vF 2 fr4) 3 f3) 2 (upd fr4 ((nI j)).toNatClampNeg vx) := ((fT_sw _ _ _ (Nat.ne_of_beq_eq_false rfl)).trans (congrArg (fun g9 => fT g9 3 f3) (fT_sm _ _ _ _))).symm
                                          have hP := wr_PF e9 (fz_w (WR_F 2 (by decide) _ rfl) hP)
                                          have hD := wr_DF e9 (fz_wD (WR_F 2 (by decide) _ rfl) hD)
                                          clear e9
                                          refine lv_iinc (v := (nI (j + 1))) hx hb dX12_divide_451 hl (k := 13) rfl (nI_add j 1) (by decide) rfl (fun ls (hl : lv_has ls _ ([(13, .int (nI (j + 1))), (12, .int 0), (14, .int vv), (0, .ref h0), (1, .int (nI sn)), (2, .int (nI rn)), (3, .int (nI an)), (4, .int (nI bn)), (5, .int (nI na)), (6, .int (nI nb_)), (7, .int (vF 0 (24 * an))), (8, .int (vF 0 (24 * bn))), (9, .int (nI kk)), (10, .int (nI bb))])) => ?_)
                                          refine lv_goto (tgt := 378) hx hb dX12_divide_454 (by decide) ?_
                                          have hl : lv_has _ _ ([(0, .ref h0), (1, .int (nI sn)), (2, .int (nI rn)), (3, .int (nI an)), (4, .int (nI bn)), (5, .int (nI na)), (6, .int (nI nb_)), (7, .int (vF 0 (24 * an))), (8, .int (vF 0 (24 * bn))), (9, .int (nI kk)), (10, .int (nI bb)), (12, .int (nI 0)), (13, .int (nI (j + 1)))]) := lv_sub hl [3, 4, 5, 6, 7, 8, 9, 10, 11, 12, 13, 1, 0] rfl
                                          exact ih378_9 (j + 1) 0 (upd fr4 ((nI j)).toNatClampNeg vx) _ _ _ (by omega) (by omega) (fun q hq => by rw [Nat.zero_add, upd_at (by omega)]; by_cases e9 : q = j; (obtain ⟨dx, hdx, edx⟩ := of_toInt (k := 268435456) hx0 hx1; exact ⟨dx, hdx, (if_pos e9).trans edx⟩); (rw [if_neg e9]; exact limb0N hl5 (by omega))) (fun q hq => by rw [upd_at (by omega), if_neg (by omega)]; exact hsame5 q (by omega)) (by rw [hL9]; exact bw_step (f3 := f3) (by omega) ed4 hd4 hxe hx0 hsb) (by omega) hP hD hS hl
                                        · have t_418 : ¬ (vv).toInt ≥ 0 := toI_nge c_418 rfl (by decide)
                                          refine lv_iconst (v := 1) hx hb dX12_divide_421 (by decide) ?_
                                          refine lv_goto (tgt := 426) hx hb dX12_divide_422 (by decide) ?_
                                          refine lv_istore hx hb dX12_divide_426 hl (by decide) rfl (fun ls (hl : lv_has ls _ ([(12, .int 1), (14, .int vv), (0, .ref h0), (1, .int (nI sn)), (2, .int (nI rn)), (3, .int (nI an)), (4, .int (nI bn)), (5, .int (nI na)), (6, .int (nI nb_)), (7, .int (vF 0 (24 * an))), (8, .int (vF 0 (24 * bn))), (9, .int (nI kk)), (10, .int (nI bb)), (13, .int (nI j))])) => ?_)
                                          refine lv_aload_n hx hb dX12_divide_428 rfl (lv_at hl 2 rfl) ?_
                                          refine va_get (D := (dC, dI)) (ci := 12) (v := .ref (a 2)) (C := RX12) (T := TX12) (N := 163) (fs := fM (vS a vi vj)) hx hb hts iwsRX12_divide_in12 hown hK hP 0 rfl rfl 3 (by decide) (hts _ hm_r_X12_divide_1) (fun _ h9 => h9) rfl dX12_divide_429 ?_
                                          refine lv_iload hx hb dX12_divide_432 (lv_at hl 13 rfl) ?_
                                          refine lv_iload hx hb dX12_divide_434 (lv_at hl 1 rfl) ?_
                                          refine lv_if_ge (tgt := 448) hx hb dX12_divide_436 (by decide) (fun c9 => False.elim (by have t9 : (vv).toInt ≥ 0 := toI_ge c9 rfl (by decide); omega)) (fun c_436 => ?_)
                                          have t_436 : ¬ (vv).toInt ≥ 0 := toI_nge c_436 rfl (by decide)
                                          refine lv_iload hx hb dX12_divide_439 (lv_at hl 1 rfl) ?_
                                          refine lv_ldcw (v := 268435456) hx hb hown (hts _ hm_r_X12_divide_3) dX12_divide_441 ?_
                                          refine lv_iadd hx hb dX12_divide_444 ?_
                                          refine lv_goto (tgt := 450) hx hb dX12_divide_445 (by decide) ?_
                                          obtain ⟨vx, hvx⟩ : ∃ vx, vx = ((vv + 268435456) : Int32) := ⟨_, rfl⟩
                                          have hxe : vx.toInt = (d4 : Int) - d3 - bw + 268435456 * (1 : Nat) := by rw [hvx, addB (by omega) (by decide), ev]; rfl
                                          have hx0 : 0 ≤ vx.toInt := by omega
                                          have hx1 : vx.toInt < 268435456 := by omega
                                          refine lv_topi (fun y40 hy40 => ?_)
                                          obtain rfl : vx = y40 := (hy40.trans (hvx.symm)).symm
                                          refine va_iast (cA := k 2) (n := 60) (f := fr4) hx hb hK hP hD hS 3 2 (WR_get 2 (by decide)) (TR_get 2 (by decide)) (vp_in_nI (show j < 60 by omega) (by omega)) dX12_divide_450 (fun H locs hP hD hS => ?_)
                                          have e9 : fT (fT vF 2 (upd fr4 ((nI j)).toNatClampNeg vx)) 3 f3 = fT (fT (fT vF 2 fr4) 3 f3) 2 (upd fr4 ((nI j)).toNatClampNeg vx) := ((fT_sw _ _ _ (Nat.ne_of_beq_eq_false rfl)).trans (congrArg (fun g9 => fT g9 3 f3) (fT_sm _ _ _ _))).symm
                                          have hP := wr_PF e9 (fz_w (WR_F 2 (by decide) _ rfl) hP)
                                          have hD := wr_DF e9 (fz_wD (WR_F 2 (by decide) _ rfl) hD)
                                          clear e9
                                          refine lv_iinc (v := (nI (j + 1))) hx hb dX12_divide_451 hl (k := 13) rfl (nI_add j 1) (by decide) rfl (fun ls (hl : lv_has ls _ ([(13, .int (nI (j + 1))), (12, .int 1), (14, .int vv), (0, .ref h0), (1, .int (nI sn)), (2, .int (nI rn)), (3, .int (nI an)), (4, .int (nI bn)), (5, .int (nI na)), (6, .int (nI nb_)), (7, .int (vF 0 (24 * an))), (8, .int (vF 0 (24 * bn))), (9, .int (nI kk)), (10, .int (nI bb))])) => ?_)
                                          refine lv_goto (tgt := 378) hx hb dX12_divide_454 (by decide) ?_
                                          have hl : lv_has _ _ ([(0, .ref h0), (1, .int (nI sn)), (2, .int (nI rn)), (3, .int (nI an)), (4, .int (nI bn)), (5, .int (nI na)), (6, .int (nI nb_)), (7, .int (vF 0 (24 * an))), (8, .int (vF 0 (24 * bn))), (9, .int (nI kk)), (10, .int (nI bb)), (12, .int (nI 1)), (13, .int (nI (j + 1)))]) := lv_sub hl [3, 4, 5, 6, 7, 8, 9, 10, 11, 12, 13, 1, 0] rfl
                                          exact ih378_9 (j + 1) 1 (upd fr4 ((nI j)).toNatClampNeg vx) _ _ _ (by omega) (by omega) (fun q hq => by rw [Nat.zero_add, upd_at (by omega)]; by_cases e9 : q = j; (obtain ⟨dx, hdx, edx⟩ := of_toInt (k := 268435456) hx0 hx1; exact ⟨dx, hdx, (if_pos e9).trans edx⟩); (rw [if_neg e9]; exact limb0N hl5 (by omega))) (fun q hq => by rw [upd_at (by omega), if_neg (by omega)]; exact hsame5 q (by omega)) (by rw [hL9]; exact bw_step (f3 := f3) (by omega) ed4 hd4 hxe hx0 hsb) (by omega) hP hD hS hl
                                      · have t_396 : ¬ ((j : Nat) : Int) ≥ ((nb_ : Nat) : Int) := toI_nge c_396 (nI_toInt (by omega)) (nI_toInt (by omega))
                                        obtain ⟨d3, hd3, ed3⟩ := limb0N hl3m (q := j) (by omega)
                                        refine lv_aload_n hx hb dX12_divide_399 rfl (lv_at hl 0 rfl) ?_
                                        refine va_get (D := (dC, dI)) (ci := 12) (v := .ref (a 3)) (C := RX12) (T := TX12) (N := 163) (fs := fM (vS a vi vj)) hx hb hts iwsRX12_divide_in12 hown hK hP 0 rfl rfl 4 (by decide) (hts _ hm_r_X12_divide_4) (fun _ h9 => h9) rfl dX12_divide_400 ?_
                                        refine lv_iload hx hb dX12_divide_403 (lv_at hl 12 rfl) ?_
                                        refine va_iald (cA := k 3) (n := 30) (f := f3) hx hb hK hP 4 3 (WR_get 3 (by decide)) (TR_get 3 (by decide)) (vp_in_nI (show j < 30 by omega) (by omega)) dX12_divide_405 ?_
                                        refine lv_topi (fun y41 hy41 => ?_)
                                        obtain rfl : (f3 j) = y41 := (hy41.trans (by rw [nI_clamp (by omega)])).symm
                                        refine lv_topi (fun y42 hy42 => ?_)
                                        obtain rfl : (nI d3) = y42 := (hy42.trans (ed3)).symm
                                        refine lv_goto (tgt := 410) hx hb dX12_divide_406 (by decide) ?_
                                        refine lv_isub hx hb dX12_divide_410 ?_
                                        refine lv_iload hx hb dX12_divide_411 (lv_at hl 11 rfl) ?_
                                        refine lv_isub hx hb dX12_divide_413 ?_
                                        have e43 : (nI d4 - nI d3).toInt = (d4 : Int) - d3 := pk_sub_toInt (by omega) (by omega)
                                        have hL9 : lv28 f3 0 (if j + 1 ≤ nb_ then j + 1 else nb_) = lv28 f3 0 (if j ≤ nb_ then j else nb_) + d3 * 2 ^ (28 * j) := by rw [if_pos (by omega), if_pos (by omega)]; exact lv28_one0 ed3 (by omega)
                                        have ebw : (nI bw).toInt = (bw : Int) := nI_toInt (by omega)
                                        obtain ⟨vv, hvv⟩ : ∃ vv, vv = (((nI d4) - (nI d3)) - (nI bw)) := ⟨_, rfl⟩
                                        have ev : vv.toInt = (d4 : Int) - d3 - bw := by rw [hvv, subB (by omega) (by omega), e43, ebw]
                                        refine lv_topi (fun y43 hy43 => ?_)
                                        obtain rfl : vv = y43 := (hy43.trans (hvv.symm)).symm
                                        refine lv_istore hx hb dX12_divide_414 hl (by decide) rfl (fun ls (hl : lv_has ls _ ([(14, .int vv), (0, .ref h0), (1, .int (nI sn)), (2, .int (nI rn)), (3, .int (nI an)), (4, .int (nI bn)), (5, .int (nI na)), (6, .int (nI nb_)), (7, .int (vF 0 (24 * an))), (8, .int (vF 0 (24 * bn))), (9, .int (nI kk)), (10, .int (nI bb)), (12, .int (nI bw)), (13, .int (nI j))])) => ?_)
                                        refine lv_iload hx hb dX12_divide_416 (lv_at hl 0 rfl) ?_
                                        refine lv_if_ge (tgt := 425) hx hb dX12_divide_418 (by decide) (fun c_418 => ?_) (fun c_418 => ?_)
                                        · have t_418 : (vv).toInt ≥ 0 := toI_ge c_418 rfl (by decide)
                                          refine lv_iconst (v := 0) hx hb dX12_divide_425 (by decide) ?_
                                          refine lv_istore hx hb dX12_divide_426 hl (by decide) rfl (fun ls (hl : lv_has ls _ ([(12, .int 0), (14, .int vv), (0, .ref h0), (1, .int (nI sn)), (2, .int (nI rn)), (3, .int (nI an)), (4, .int (nI bn)), (5, .int (nI na)), (6, .int (nI nb_)), (7, .int (vF 0 (24 * an))), (8, .int (vF 0 (24 * bn))), (9, .int (nI kk)), (10, .int (nI bb)), (13, .int (nI j))])) => ?_)
                                          refine lv_aload_n hx hb dX12_divide_428 rfl (lv_at hl 2 rfl) ?_
                                          refine va_get (D := (dC, dI)) (ci := 12) (v := .ref (a 2)) (C := RX12) (T := TX12) (N := 163) (fs := fM (vS a vi vj)) hx hb hts iwsRX12_divide_in12 hown hK hP 0 rfl rfl 3 (by decide) (hts _ hm_r_X12_divide_1) (fun _ h9 => h9) rfl dX12_divide_429 ?_
                                          refine lv_iload hx hb dX12_divide_432 (lv_at hl 13 rfl) ?_
                                          refine lv_iload hx hb dX12_divide_434 (lv_at hl 1 rfl) ?_
                                          refine lv_if_ge (tgt := 448) hx hb dX12_divide_436 (by decide) (fun c_436 => ?_) (fun c9 => False.elim (by have t9 : ¬ (vv).toInt ≥ 0 := toI_nge c9 rfl (by decide); omega))
                                          have t_436 : (vv).toInt ≥ 0 := toI_ge c_436 rfl (by decide)
                                          refine lv_iload hx hb dX12_divide_448 (lv_at hl 1 rfl) ?_
                                          obtain ⟨vx, hvx⟩ : ∃ vx, vx = (vv : Int32) := ⟨_, rfl⟩
                                          have hxe : vx.toInt = (d4 : Int) - d3 - bw + 268435456 * (0 : Nat) := by rw [hvx, ev]; omega
                                          have hx0 : 0 ≤ vx.toInt := by omega
                                          have hx1 : vx.toInt < 268435456 := by omega
                                          refine lv_topi (fun y44 hy44 => ?_)
                                          obtain rfl : vx = y44 := (hy44.trans (hvx.symm)).symm
                                          refine va_iast (cA := k 2) (n := 60) (f := fr4) hx hb hK hP hD hS 3 2 (WR_get 2 (by decide)) (TR_get 2 (by decide)) (vp_in_nI (show j < 60 by omega) (by omega)) dX12_divide_450 (fun H locs hP hD hS => ?_)
                                          have e9 : fT (fT vF 2 (upd fr4 ((nI j)).toNatClampNeg vx)) 3 f3 = fT (fT (fT vF 2 fr4) 3 f3) 2 (upd fr4 ((nI j)).toNatClampNeg vx) := ((fT_sw _ _ _ (Nat.ne_of_beq_eq_false rfl)).trans (congrArg (fun g9 => fT g9 3 f3) (fT_sm _ _ _ _))).symm
                                          have hP := wr_PF e9 (fz_w (WR_F 2 (by decide) _ rfl) hP)
                                          have hD := wr_DF e9 (fz_wD (WR_F 2 (by decide) _ rfl) hD)
                                          clear e9
                                          refine lv_iinc (v := (nI (j + 1))) hx hb dX12_divide_451 hl (k := 13) rfl (nI_add j 1) (by decide) rfl (fun ls (hl : lv_has ls _ ([(13, .int (nI (j + 1))), (12, .int 0), (14, .int vv), (0, .ref h0), (1, .int (nI sn)), (2, .int (nI rn)), (3, .int (nI an)), (4, .int (nI bn)), (5, .int (nI na)), (6, .int (nI nb_)), (7, .int (vF 0 (24 * an))), (8, .int (vF 0 (24 * bn))), (9, .int (nI kk)), (10, .int (nI bb))])) => ?_)
                                          refine lv_goto (tgt := 378) hx hb dX12_divide_454 (by decide) ?_
                                          have hl : lv_has _ _ ([(0, .ref h0), (1, .int (nI sn)), (2, .int (nI rn)), (3, .int (nI an)), (4, .int (nI bn)), (5, .int (nI na)), (6, .int (nI nb_)), (7, .int (vF 0 (24 * an))), (8, .int (vF 0 (24 * bn))), (9, .int (nI kk)), (10, .int (nI bb)), (12, .int (nI 0)), (13, .int (nI (j + 1)))]) := lv_sub hl [3, 4, 5, 6, 7, 8, 9, 10, 11, 12, 13, 1, 0] rfl
                                          exact ih378_9 (j + 1) 0 (upd fr4 ((nI j)).toNatClampNeg vx) _ _ _ (by omega) (by omega) (fun q hq => by rw [Nat.zero_add, upd_at (by omega)]; by_cases e9 : q = j; (obtain ⟨dx, hdx, edx⟩ := of_toInt (k := 268435456) hx0 hx1; exact ⟨dx, hdx, (if_pos e9).trans edx⟩); (rw [if_neg e9]; exact limb0N hl5 (by omega))) (fun q hq => by rw [upd_at (by omega), if_neg (by omega)]; exact hsame5 q (by omega)) (by rw [hL9]; exact bw_step (f3 := f3) (by omega) ed4 hd4 hxe hx0 hsb) (by omega) hP hD hS hl
                                        · have t_418 : ¬ (vv).toInt ≥ 0 := toI_nge c_418 rfl (by decide)
                                          refine lv_iconst (v := 1) hx hb dX12_divide_421 (by decide) ?_
                                          refine lv_goto (tgt := 426) hx hb dX12_divide_422 (by decide) ?_
                                          refine lv_istore hx hb dX12_divide_426 hl (by decide) rfl (fun ls (hl : lv_has ls _ ([(12, .int 1), (14, .int vv), (0, .ref h0), (1, .int (nI sn)), (2, .int (nI rn)), (3, .int (nI an)), (4, .int (nI bn)), (5, .int (nI na)), (6, .int (nI nb_)), (7, .int (vF 0 (24 * an))), (8, .int (vF 0 (24 * bn))), (9, .int (nI kk)), (10, .int (nI bb)), (13, .int (nI j))])) => ?_)
                                          refine lv_aload_n hx hb dX12_divide_428 rfl (lv_at hl 2 rfl) ?_
                                          refine va_get (D := (dC, dI)) (ci := 12) (v := .ref (a 2)) (C := RX12) (T := TX12) (N := 163) (fs := fM (vS a vi vj)) hx hb hts iwsRX12_divide_in12 hown hK hP 0 rfl rfl 3 (by decide) (hts _ hm_r_X12_divide_1) (fun _ h9 => h9) rfl dX12_divide_429 ?_
                                          refine lv_iload hx hb dX12_divide_432 (lv_at hl 13 rfl) ?_
                                          refine lv_iload hx hb dX12_divide_434 (lv_at hl 1 rfl) ?_
                                          refine lv_if_ge (tgt := 448) hx hb dX12_divide_436 (by decide) (fun c9 => False.elim (by have t9 : (vv).toInt ≥ 0 := toI_ge c9 rfl (by decide); omega)) (fun c_436 => ?_)
                                          have t_436 : ¬ (vv).toInt ≥ 0 := toI_nge c_436 rfl (by decide)
                                          refine lv_iload hx hb dX12_divide_439 (lv_at hl 1 rfl) ?_
                                          refine lv_ldcw (v := 268435456) hx hb hown (hts _ hm_r_X12_divide_3) dX12_divide_441 ?_
                                          refine lv_iadd hx hb dX12_divide_444 ?_
                                          refine lv_goto (tgt := 450) hx hb dX12_divide_445 (by decide) ?_
                                          obtain ⟨vx, hvx⟩ : ∃ vx, vx = ((vv + 268435456) : Int32) := ⟨_, rfl⟩
                                          have hxe : vx.toInt = (d4 : Int) - d3 - bw + 268435456 * (1 : Nat) := by rw [hvx, addB (by omega) (by decide), ev]; rfl
                                          have hx0 : 0 ≤ vx.toInt := by omega
                                          have hx1 : vx.toInt < 268435456 := by omega
                                          refine lv_topi (fun y45 hy45 => ?_)
                                          obtain rfl : vx = y45 := (hy45.trans (hvx.symm)).symm
                                          refine va_iast (cA := k 2) (n := 60) (f := fr4) hx hb hK hP hD hS 3 2 (WR_get 2 (by decide)) (TR_get 2 (by decide)) (vp_in_nI (show j < 60 by omega) (by omega)) dX12_divide_450 (fun H locs hP hD hS => ?_)
                                          have e9 : fT (fT vF 2 (upd fr4 ((nI j)).toNatClampNeg vx)) 3 f3 = fT (fT (fT vF 2 fr4) 3 f3) 2 (upd fr4 ((nI j)).toNatClampNeg vx) := ((fT_sw _ _ _ (Nat.ne_of_beq_eq_false rfl)).trans (congrArg (fun g9 => fT g9 3 f3) (fT_sm _ _ _ _))).symm
                                          have hP := wr_PF e9 (fz_w (WR_F 2 (by decide) _ rfl) hP)
                                          have hD := wr_DF e9 (fz_wD (WR_F 2 (by decide) _ rfl) hD)
                                          clear e9
                                          refine lv_iinc (v := (nI (j + 1))) hx hb dX12_divide_451 hl (k := 13) rfl (nI_add j 1) (by decide) rfl (fun ls (hl : lv_has ls _ ([(13, .int (nI (j + 1))), (12, .int 1), (14, .int vv), (0, .ref h0), (1, .int (nI sn)), (2, .int (nI rn)), (3, .int (nI an)), (4, .int (nI bn)), (5, .int (nI na)), (6, .int (nI nb_)), (7, .int (vF 0 (24 * an))), (8, .int (vF 0 (24 * bn))), (9, .int (nI kk)), (10, .int (nI bb))])) => ?_)
                                          refine lv_goto (tgt := 378) hx hb dX12_divide_454 (by decide) ?_
                                          have hl : lv_has _ _ ([(0, .ref h0), (1, .int (nI sn)), (2, .int (nI rn)), (3, .int (nI an)), (4, .int (nI bn)), (5, .int (nI na)), (6, .int (nI nb_)), (7, .int (vF 0 (24 * an))), (8, .int (vF 0 (24 * bn))), (9, .int (nI kk)), (10, .int (nI bb)), (12, .int (nI 1)), (13, .int (nI (j + 1)))]) := lv_sub hl [3, 4, 5, 6, 7, 8, 9, 10, 11, 12, 13, 1, 0] rfl
                                          exact ih378_9 (j + 1) 1 (upd fr4 ((nI j)).toNatClampNeg vx) _ _ _ (by omega) (by omega) (fun q hq => by rw [Nat.zero_add, upd_at (by omega)]; by_cases e9 : q = j; (obtain ⟨dx, hdx, edx⟩ := of_toInt (k := 268435456) hx0 hx1; exact ⟨dx, hdx, (if_pos e9).trans edx⟩); (rw [if_neg e9]; exact limb0N hl5 (by omega))) (fun q hq => by rw [upd_at (by omega), if_neg (by omega)]; exact hsame5 q (by omega)) (by rw [hL9]; exact bw_step (f3 := f3) (by omega) ed4 hd4 hxe hx0 hsb) (by omega) hP hD hS hl
                                · have f363_0 : lv28 fr3 0 (nb_ + 1) < lv28 f3 0 nb_ := f363_0
                                  have fm : lv28 fr3 0 (nb_ + 1) < lv28 f3 0 nb_ := f363_0
                                  rw [hlB] at fm
                                  refine lv_if_ne (tgt := 372) hx hb dX12_divide_366 (by decide) (fun c9 => absurd c9 (by decide)) (fun _ => ?_)
                                  refine lv_goto (tgt := 471) hx hb dX12_divide_369 (by decide) ?_
                                  refine lv_iinc (v := ((nI bb) + (-1))) hx hb dX12_divide_471 hl (k := 10) rfl rfl (by decide) rfl (fun ls (hl : lv_has ls _ ([(10, .int ((nI bb) + (-1))), (0, .ref h0), (1, .int (nI sn)), (2, .int (nI rn)), (3, .int (nI an)), (4, .int (nI bn)), (5, .int (nI na)), (6, .int (nI nb_)), (7, .int (vF 0 (24 * an))), (8, .int (vF 0 (24 * bn))), (9, .int (nI kk)), (11, .int (nI inb)), (12, .int (nI i))])) => ?_)
                                  refine lv_goto (tgt := 284) hx hb dX12_divide_474 (by decide) ?_
                                  have hl : lv_has _ _ ([(0, .ref h0), (1, .int (nI sn)), (2, .int (nI rn)), (3, .int (nI an)), (4, .int (nI bn)), (5, .int (nI na)), (6, .int (nI nb_)), (7, .int (vF 0 (24 * an))), (8, .int (vF 0 (24 * bn))), (9, .int (nI kk)), (10, .int ((nI bb) + (-1)))]) := lv_sub hl [1, 2, 3, 4, 5, 6, 7, 8, 9, 10, 0] rfl
                                  exact ih284_7 ((nI bb) + (-1)) (b1 - 1) (2 * tt) (2 * Q2) fr3 gs4 _ _ _ (by rw [m1T (by omega)]; omega) (by omega) (hl4m) (by omega) (by rw [show b1 - 1 = bb by omega, hA2]; omega) (by rw [hgk, show b1 - 1 = bb by omega, show b1 = bb + 1 by omega, ttZ]) (by (have h9 : tt < 2 ^ (28 - (bb + 1)) := by rw [show bb + 1 = b1 by omega]; exact htt); (have h8 := tt_lt (b := bb) (by omega) h9); rw [show b1 - 1 = bb by omega]; omega) (hz4) (hent4) (by rw [hsv4, show b1 - 1 = bb by omega, show b1 = bb + 1 by omega, svZ]) (by omega) hP hD hS hl
                              · have t_317 : ¬ ((i : Nat) : Int) > ((nb_ : Nat) : Int) := toI_ngt c_317 (nI_toInt (by omega)) (nI_toInt (by omega))
                                obtain ⟨di, hdi, edi⟩ := limb0N hlr2 (q := i) (by omega)
                                refine lv_aload_n hx hb dX12_divide_320 rfl (lv_at hl 0 rfl) ?_
                                refine va_get (D := (dC, dI)) (ci := 12) (v := .ref (a 2)) (C := RX12) (T := TX12) (N := 163) (fs := fM (vS a vi vj)) hx hb hts iwsRX12_divide_in12 hown hK hP 0 rfl rfl 3 (by decide) (hts _ hm_r_X12_divide_1) (fun _ h9 => h9) rfl dX12_divide_321 ?_
                                refine lv_iload hx hb dX12_divide_324 (lv_at hl 12 rfl) ?_
                                refine va_iald (cA := k 2) (n := 60) (f := fr3) hx hb hK hP 3 2 (WR_get 2 (by decide)) (TR_get 2 (by decide)) (vp_in_nI (show i < 60 by omega) (by omega)) dX12_divide_326 ?_
                                refine lv_topi (fun y46 hy46 => ?_)
                                obtain rfl : (fr3 i) = y46 := (hy46.trans (by rw [nI_clamp (by omega)])).symm
                                refine lv_topi (fun y47 hy47 => ?_)
                                obtain rfl : (nI di) = y47 := (hy47.trans ((hsame i (by omega)).trans edi)).symm
                                refine lv_iconst (v := 1) hx hb dX12_divide_327 (by decide) ?_
                                refine lv_ishl hx hb dX12_divide_328 ?_
                                refine lv_iload hx hb dX12_divide_329 (lv_at hl 11 rfl) ?_
                                refine lv_ior hx hb dX12_divide_331 ?_
                                refine lv_topi (fun y48 hy48 => ?_)
                                obtain rfl : (nI (2 * di + inb)) = y48 := (hy48.trans (shl1 (by omega) (by omega))).symm
                                refine lv_istore hx hb dX12_divide_332 hl (by decide) rfl (fun ls (hl : lv_has ls _ ([(13, .int (nI (2 * di + inb))), (0, .ref h0), (1, .int (nI sn)), (2, .int (nI rn)), (3, .int (nI an)), (4, .int (nI bn)), (5, .int (nI na)), (6, .int (nI nb_)), (7, .int (vF 0 (24 * an))), (8, .int (vF 0 (24 * bn))), (9, .int (nI kk)), (10, .int (nI bb)), (11, .int (nI inb)), (12, .int (nI i))])) => ?_)
                                refine lv_iload hx hb dX12_divide_334 (lv_at hl 0 rfl) ?_
                                refine lv_bipush (v := 28) hx hb dX12_divide_336 (by decide) ?_
                                refine lv_ishr hx hb dX12_divide_338 ?_
                                refine lv_topi (fun y49 hy49 => ?_)
                                obtain rfl : (nI ((2 * di + inb) / 268435456)) = y49 := (hy49.trans (shr32 (by omega))).symm
                                refine lv_istore hx hb dX12_divide_339 hl (by decide) rfl (fun ls (hl : lv_has ls _ ([(11, .int (nI ((2 * di + inb) / 268435456))), (13, .int (nI (2 * di + inb))), (0, .ref h0), (1, .int (nI sn)), (2, .int (nI rn)), (3, .int (nI an)), (4, .int (nI bn)), (5, .int (nI na)), (6, .int (nI nb_)), (7, .int (vF 0 (24 * an))), (8, .int (vF 0 (24 * bn))), (9, .int (nI kk)), (10, .int (nI bb)), (12, .int (nI i))])) => ?_)
                                refine lv_aload_n hx hb dX12_divide_341 rfl (lv_at hl 2 rfl) ?_
                                refine va_get (D := (dC, dI)) (ci := 12) (v := .ref (a 2)) (C := RX12) (T := TX12) (N := 163) (fs := fM (vS a vi vj)) hx hb hts iwsRX12_divide_in12 hown hK hP 0 rfl rfl 3 (by decide) (hts _ hm_r_X12_divide_1) (fun _ h9 => h9) rfl dX12_divide_342 ?_
                                refine lv_iload hx hb dX12_divide_345 (lv_at hl 13 rfl) ?_
                                refine lv_iload hx hb dX12_divide_347 (lv_at hl 1 rfl) ?_
                                refine lv_ldcw (v := 268435455) hx hb hown (hts (.constant RX12 373 268435455) (by decide +kernel)) dX12_divide_349 ?_
                                refine lv_iand hx hb dX12_divide_352 ?_
                                refine lv_topi (fun y50 hy50 => ?_)
                                obtain rfl : (nI ((2 * di + inb) % 268435456)) = y50 := (hy50.trans (mask32 (by omega))).symm
                                refine va_iast (cA := k 2) (n := 60) (f := fr3) hx hb hK hP hD hS 3 2 (WR_get 2 (by decide)) (TR_get 2 (by decide)) (vp_in_nI (show i < 60 by omega) (by omega)) dX12_divide_353 (fun H locs hP hD hS => ?_)
                                have e9 : fT (fT vF 2 (upd fr3 ((nI i)).toNatClampNeg (nI ((2 * di + inb) % 268435456)))) 3 f3 = fT (fT (fT vF 2 fr3) 3 f3) 2 (upd fr3 ((nI i)).toNatClampNeg (nI ((2 * di + inb) % 268435456))) := ((fT_sw _ _ _ (Nat.ne_of_beq_eq_false rfl)).trans (congrArg (fun g9 => fT g9 3 f3) (fT_sm _ _ _ _))).symm
                                have hP := wr_PF e9 (fz_w (WR_F 2 (by decide) _ rfl) hP)
                                have hD := wr_DF e9 (fz_wD (WR_F 2 (by decide) _ rfl) hD)
                                clear e9
                                refine lv_iinc (v := (nI (i + 1))) hx hb dX12_divide_354 hl (k := 13) rfl (nI_add i 1) (by decide) rfl (fun ls (hl : lv_has ls _ ([(12, .int (nI (i + 1))), (11, .int (nI ((2 * di + inb) / 268435456))), (13, .int (nI (2 * di + inb))), (0, .ref h0), (1, .int (nI sn)), (2, .int (nI rn)), (3, .int (nI an)), (4, .int (nI bn)), (5, .int (nI na)), (6, .int (nI nb_)), (7, .int (vF 0 (24 * an))), (8, .int (vF 0 (24 * bn))), (9, .int (nI kk)), (10, .int (nI bb))])) => ?_)
                                refine lv_goto (tgt := 313) hx hb dX12_divide_357 (by decide) ?_
                                have hl : lv_has _ _ ([(0, .ref h0), (1, .int (nI sn)), (2, .int (nI rn)), (3, .int (nI an)), (4, .int (nI bn)), (5, .int (nI na)), (6, .int (nI nb_)), (7, .int (vF 0 (24 * an))), (8, .int (vF 0 (24 * bn))), (9, .int (nI kk)), (10, .int (nI bb)), (11, .int (nI ((2 * di + inb) / 268435456))), (12, .int (nI (i + 1)))]) := lv_sub hl [3, 4, 5, 6, 7, 8, 9, 10, 11, 12, 13, 1, 0] rfl
                                exact ih313_8 (i + 1) ((2 * di + inb) / 268435456) (upd fr3 ((nI i)).toNatClampNeg (nI ((2 * di + inb) % 268435456))) _ _ _ (by omega) (by omega) (sh_step (by omega) (by omega) (by omega) edi hsh) (fun q hq => by rw [Nat.zero_add, upd_at (by omega)]; by_cases e9 : q = i; (exact ⟨(2 * di + inb) % 268435456, by omega, if_pos e9⟩); (rw [if_neg e9]; exact limb0N hl4 (by omega))) (fun q hq => by rw [upd_at (by omega), if_neg (by omega)]; exact hsame q (by omega)) (by omega) hP hD hS hl
                  · have t_163 : ((nb_ : Nat) : Int) = 1 := toI_nne c_163 (nI_toInt (by omega)) (by decide)
                    obtain ⟨d0, hd0, ed0⟩ := hnb3 0 (by omega)
                    have ed1 : f3 0 = nI d0 := by rw [hl3 0 (by omega)]; exact ed0
                    have hd00 : 0 < d0 := Nat.pos_of_ne_zero fun h9 => hnb4 (by omega) (by rw [show 24 * bn + 1 + nb_ = 24 * bn + 2 + 0 by omega, ed0, h9]; exact nI_0)
                    have hB : NB9 = d0 := by rw [hnb5, show nb_ = 1 by omega]; simp only [lv28]; rw [ed0, nI_clamp (by omega)]; simp
                    refine lv_lconst (v := 0) hx hb dX12_divide_166 (by decide) ?_
                    refine lv_lstore hx hb dX12_divide_167 hl (by decide) rfl (fun ls (hl : lv_has ls _ ([(9, .long 0), (0, .ref h0), (1, .int (nI sn)), (2, .int (nI rn)), (3, .int (nI an)), (4, .int (nI bn)), (5, .int (nI na)), (6, .int (nI nb_)), (7, .int (vF 0 (24 * an))), (8, .int (vF 0 (24 * bn)))])) => ?_)
                    refine lv_iload hx hb dX12_divide_169 (lv_at hl 6 rfl) ?_
                    refine lv_iconst (v := 1) hx hb dX12_divide_171 (by decide) ?_
                    refine lv_isub hx hb dX12_divide_172 ?_
                    refine lv_istore hx hb dX12_divide_173 hl (by decide) rfl (fun ls (hl : lv_has ls _ ([(11, .int ((nI na) - 1)), (9, .long 0), (0, .ref h0), (1, .int (nI sn)), (2, .int (nI rn)), (3, .int (nI an)), (4, .int (nI bn)), (5, .int (nI na)), (6, .int (nI nb_)), (7, .int (vF 0 (24 * an))), (8, .int (vF 0 (24 * bn)))])) => ?_)
                    have hl : lv_has _ _ ([(0, .ref h0), (1, .int (nI sn)), (2, .int (nI rn)), (3, .int (nI an)), (4, .int (nI bn)), (5, .int (nI na)), (6, .int (nI nb_)), (7, .int (vF 0 (24 * an))), (8, .int (vF 0 (24 * bn))), (9, .long (lN 0)), (11, .int ((nI na) - 1))]) := lv_sub hl [2, 3, 4, 5, 6, 7, 8, 9, 10, 1, 0] rfl
                    refine (fun (loop : ∀ (n9 : Nat) (kq : Int32) (kk1 : Nat) (QQ : Nat) (cr : Nat) (gs3 : Nat → Int64) (H : Heap) (locs : List Loc) (ls : Array Slot), ((kq).toInt = (kk1 : Int) - 1) → (kk1 ≤ na) → (cr < d0) → (lv28 (vF 0) (24 * an + 2) na / 2 ^ (28 * kk1) = QQ * d0 + cr) → (∀ q, q < kk1 → gs3 q = 0) → (∀ q, q < na → 0 ≤ (gs3 q).toInt ∧ (gs3 q).toInt < 268435456) → (sv28 gs3 na = ((QQ * 2 ^ (28 * kk1) : Nat) : Int)) →  (kk1 < n9) → va_P (dC, dI) vwCl (WR a k h0 vi vj (fT (fT vF 2 f2) 3 f3) (fT vG 1 gs3)) H → va_D A (WR a k h0 vi vj (fT (fT vF 2 f2) 3 f3) (fT vG 1 gs3)) → va_S A s.heap H locs → lv_has ls 15 [(0, .ref h0), (1, .int (nI sn)), (2, .int (nI rn)), (3, .int (nI an)), (4, .int (nI bn)), (5, .int (nI na)), (6, .int (nI nb_)), (7, .int (vF 0 (24 * an))), (8, .int (vF 0 (24 * bn))), (9, .long (lN cr)), (11, .int kq)] → W p l e _ s m _ below meth c H locs 0 0 _ (F0 m 175 ls [])) => loop (na + 1) ((nI na) - 1) na 0 0 gs1 _ _ _ (by exact pk_sub_toInt (a := na) (b := 1) (by omega) (by omega)) (by omega) (by omega) (by rw [Nat.div_eq_of_lt (lv28_lt hna3)]; simp) (fun q hq => hzs q (by omega)) (fun q hq => by rw [hzs q (by omega)]; decide) (by rw [sv28_zero (fun q hq => hzs q (by omega))]; simp) (by omega) hP hD hS hl) ?_
                    intro n9
                    induction n9 with
                    | zero => intro kq kk1 QQ cr gs3 H locs ls hkq hkn hcr hQ hz3 hent hsv hf9; exact False.elim (by omega)
                    | succ n9 ih175_10 =>
                      intro kq kk1 QQ cr gs3 H locs ls hkq hkn hcr hQ hz3 hent hsv hf175_10 hP hD hS hl
                      refine lv_iload hx hb dX12_divide_175 (lv_at hl 10 rfl) ?_
                      refine lv_if_lt (tgt := 238) hx hb dX12_divide_177 (by decide) (fun c_177 => ?_) (fun c_177 => ?_)
                      · have t_177 : (kq).toInt < 0 := toI_lt c_177 rfl (by decide)
                        have hk0 : kk1 = 0 := by omega
                        rw [hk0] at hQ hsv
                        simp only [Nat.mul_zero, Nat.pow_zero, Nat.div_one, Nat.mul_one] at hQ hsv
                        obtain ⟨hQ1, hR1⟩ := divQ (A := NA9) (B := NB9) (by rw [hna5, hB]; exact hQ) (by omega)
                        have ecr : (lN cr).toInt = (cr : Int) := pk_lT (by omega)
                        have ecn : (-(lN cr)).toInt = -(cr : Int) := by rw [Int64.toInt_neg, ecr]; exact Int.bmod_eq_of_le (by omega) (by omega)
                        refine lv_aload_n hx hb dX12_divide_238 rfl (lv_at hl 0 rfl) ?_
                        refine lv_iload_n hx hb dX12_divide_239 rfl (lv_at hl 1 rfl) ?_
                        refine lv_iload hx hb dX12_divide_240 (lv_at hl 5 rfl) ?_
                        refine lv_iload hx hb dX12_divide_242 (lv_at hl 7 rfl) ?_
                        refine lv_iload hx hb dX12_divide_244 (lv_at hl 8 rfl) ?_
                        refine lv_imul hx hb dX12_divide_246 ?_
                        have hFc := allFree hD hS hA
                        refine va_callv (va_runV (As := [.int (nI sn), .int (nI na), .int ((vF 0 (24 * an)) * (vF 0 (24 * bn)))]) (rest := []) ⟨hx, hb, hml, hown, hts⟩ (r_X12_carry l dC dI a k h0 vi vj (fT (fT vF 2 f2) 3 f3) (fT vG 1 gs3) sn na ((vF 0 (24 * an)) * (vF 0 (24 * bn))) (NA9 / NB9) (if xa * xb < 0 then -1 else 1) (by first | with_reducible assumption | decide | omega | rfl | assumption) (by first | with_reducible assumption | decide | omega | rfl | assumption) (fun q hq => by have := hent q hq; show -1152921504606846976 ≤ (gs3 q).toInt ∧ (gs3 q).toInt ≤ 1152921504606846976; omega) (by show sv28 gs3 na = _; rw [hsv, hQ1]) (Nat.lt_of_le_of_lt (Nat.div_le_self _ _) hAb.out) (fun h9 => sgProd hSA.out hSB.out (by rw [eNA.out, eNB.out]; exact Nat.mul_pos (by omega) (by omega))) H.size) (cwV 3 hts gwsRX12_divide_4 rfl rfl rfl hd_yX12_carry_RX12 (by decide +kernel)) (fz_pre (va_recv hK hP (ci := 12) (q0 := 0) rfl rfl) hP hK hD) rfl rfl hl.1 rfl (lv_room (Nat.le_of_ble_eq_true rfl)) dX12_divide_247 (by decide +kernel)) hS (fun q _ h => hFc q h) hFc (fun g247 t9_ H locs ht hvm hw9 hB9 hz1 hk1 hS => ?_)
                        have hP : va_P (dC, dI) vwCl (WR a k h0 vi vj (fT (fT (fT vF 2 f2) 3 f3) 0 g247) (fT vG 1 gs3)) H := fz_P ht hB9.1
                        have hD := fz_sd hP (hB9.2.weaken (fun _ q _ h => hFc q.1 h)) rfl
                        revert hw9
                        refine fz_a2 ?_
                        intro f247_0 f247_1
                        have f247_1 : ∀ q, (q < 24 * sn ∨ 24 * sn + 24 ≤ q) → g247 q = (vF 0) q := f247_1
                        refine lv_aload_n hx hb dX12_divide_250 rfl (lv_at hl 0 rfl) ?_
                        refine lv_iload_n hx hb dX12_divide_251 rfl (lv_at hl 2 rfl) ?_
                        refine lv_iload hx hb dX12_divide_252 (lv_at hl 7 rfl) ?_
                        refine lv_if_ge (tgt := 263) hx hb dX12_divide_254 (by decide) (fun c_254 => ?_) (fun c_254 => ?_)
                        · have t_254 : ((vF 0 (24 * an))).toInt ≥ 0 := toI_ge c_254 rfl (by decide)
                          refine lv_lload hx hb dX12_divide_263 (lv_at hl 9 rfl) ?_
                          have hFc := allFree hD hS hA
                          refine va_callv (va_runV (As := [.int (nI rn), .long (lN cr)]) (rest := []) ⟨hx, hb, hml, hown, hts⟩ (r_X12_put l dC dI a k h0 vi vj (fT (fT (fT vF 2 f2) 3 f3) 0 g247) (fT vG 1 gs3) rn (lN cr) (by first | with_reducible assumption | decide | omega | rfl | assumption) (by show -9223372036854775808 < (lN cr).toInt; rw [ecr]; omega) H.size) (cwV 2 hts gwsRX12_divide_2 rfl rfl rfl hd_yX12_put_RX12 (by decide +kernel)) (fz_pre (va_recv hK hP (ci := 12) (q0 := 0) rfl rfl) hP hK hD) rfl rfl hl.1 rfl (lv_room (Nat.le_of_ble_eq_true rfl)) dX12_divide_265 (by decide +kernel)) hS (fun q _ h => hFc q h) hFc (fun g265 t9_ H locs ht hvm hw9 hB9 hz1 hk1 hS => ?_)
                          have e9F : fT (fT (fT vF 2 f2) 3 f3) 0 g265 = fT (fT (fT (fT vF 2 f2) 3 f3) 0 g247) 0 g265 := (fT_sm _ _ _ _).symm
                          have hP := wr_PF e9F (fz_P ht hB9.1)
                          have hD := wr_DF e9F (hB9.2.weaken (fun _ q _ h => hFc q.1 h))
                          clear e9F
                          revert hw9
                          refine fz_a2 ?_
                          intro f265_0 f265_1
                          have f265_1 : ∀ q, (q < 24 * rn ∨ 24 * rn + 24 ≤ q) → g265 q = g247 q := f265_1
                          refine W.widen (k := 0) (n := 0) (by decide +kernel) (by decide +kernel) ?_
                          exact W.vret hx hb hr (fun t9_ ht hW => ⟨⟨(g265, f2, f3, gs3), rfl, by (try dsimp only); (have e1 := tdivE (x := xa) (y := xb) eb0.out); (have e2 := tmodE (x := xa) (y := xb)); (have sa := hSA.out); (have sb := hSB.out); (have za : xa ≠ 0 := by (have q9 : xa.natAbs = NA9 := eNA.out); omega); rw [eNA.out, eNB.out] at e1 e2; rw [hR1] at e2; rw [e1] at f247_0; rw [ecr] at f265_0; exact ⟨f247_0.keep (fun q h1 h2 => f265_1 q (by omega)), by rw [← e2]; split <;> first | (rw [Int.one_mul]; exact f265_0) | (rw [Int.neg_mul, Int.one_mul]; exact f265_0) | (exfalso; omega), fun q h1 h2 => (f265_1 q h2).trans (f247_1 q h1)⟩, by rw [ht]; exact hP, hD⟩, hS.F ht⟩) hS.2.2 dX12_divide_268
                        · have t_254 : ¬ ((vF 0 (24 * an))).toInt ≥ 0 := toI_nge c_254 rfl (by decide)
                          refine lv_lload hx hb dX12_divide_257 (lv_at hl 9 rfl) ?_
                          refine lv_lneg hx hb dX12_divide_259 ?_
                          refine lv_goto (tgt := 265) hx hb dX12_divide_260 (by decide) ?_
                          have hFc := allFree hD hS hA
                          refine va_callv (va_runV (As := [.int (nI rn), .long (-(lN cr))]) (rest := []) ⟨hx, hb, hml, hown, hts⟩ (r_X12_put l dC dI a k h0 vi vj (fT (fT (fT vF 2 f2) 3 f3) 0 g247) (fT vG 1 gs3) rn (-(lN cr)) (by first | with_reducible assumption | decide | omega | rfl | assumption) (by show -9223372036854775808 < (-(lN cr)).toInt; rw [ecn]; omega) H.size) (cwV 2 hts gwsRX12_divide_2 rfl rfl rfl hd_yX12_put_RX12 (by decide +kernel)) (fz_pre (va_recv hK hP (ci := 12) (q0 := 0) rfl rfl) hP hK hD) rfl rfl hl.1 rfl (lv_room (Nat.le_of_ble_eq_true rfl)) dX12_divide_265 (by decide +kernel)) hS (fun q _ h => hFc q h) hFc (fun g265_1 t9_ H locs ht hvm hw9 hB9 hz1 hk1 hS => ?_)
                          have e9F : fT (fT (fT vF 2 f2) 3 f3) 0 g265_1 = fT (fT (fT (fT vF 2 f2) 3 f3) 0 g247) 0 g265_1 := (fT_sm _ _ _ _).symm
                          have hP := wr_PF e9F (fz_P ht hB9.1)
                          have hD := wr_DF e9F (hB9.2.weaken (fun _ q _ h => hFc q.1 h))
                          clear e9F
                          revert hw9
                          refine fz_a2 ?_
                          intro f265_1_0 f265_1_1
                          have f265_1_1 : ∀ q, (q < 24 * rn ∨ 24 * rn + 24 ≤ q) → g265_1 q = g247 q := f265_1_1
                          refine W.widen (k := 0) (n := 0) (by decide +kernel) (by decide +kernel) ?_
                          exact W.vret hx hb hr (fun t9_ ht hW => ⟨⟨(g265_1, f2, f3, gs3), rfl, by (try dsimp only); (have e1 := tdivE (x := xa) (y := xb) eb0.out); (have e2 := tmodE (x := xa) (y := xb)); (have sa := hSA.out); (have sb := hSB.out); (have za : xa ≠ 0 := by (have q9 : xa.natAbs = NA9 := eNA.out); omega); rw [eNA.out, eNB.out] at e1 e2; rw [hR1] at e2; rw [e1] at f247_0; rw [ecn] at f265_1_0; exact ⟨f247_0.keep (fun q h1 h2 => f265_1_1 q (by omega)), by rw [← e2]; split <;> first | (rw [Int.one_mul]; exact f265_1_0) | (rw [Int.neg_mul, Int.one_mul]; exact f265_1_0) | (exfalso; omega), fun q h1 h2 => (f265_1_1 q h2).trans (f247_1 q h1)⟩, by rw [ht]; exact hP, hD⟩, hS.F ht⟩) hS.2.2 dX12_divide_268
                      · have t_177 : ¬ (kq).toInt < 0 := toI_nlt c_177 rfl (by decide)
                        obtain ⟨kk, h_kk, rfl⟩ := of_toInt (x := kq) (k := 23) (by omega) (by omega)
                        have e_kk : (nI kk).toInt = (kk : Int) := nI_toInt (by omega)
                        obtain ⟨dk, hdk, edk⟩ := hna3 kk (by omega)
                        refine lv_lload hx hb dX12_divide_180 (lv_at hl 9 rfl) ?_
                        refine lv_bipush (v := 28) hx hb dX12_divide_182 (by decide) ?_
                        refine lv_lshl hx hb dX12_divide_184 rfl ?_
                        refine lv_aload_n hx hb dX12_divide_185 rfl (lv_at hl 0 rfl) ?_
                        refine va_get (D := (dC, dI)) (ci := 12) (v := .ref (a 0)) (C := RX12) (T := TX12) (N := 163) (fs := fM (vS a vi vj)) hx hb hts iwsRX12_divide_in12 hown hK hP 0 rfl rfl 1 (by decide) (hts _ hm_r_X12_divide_0) (fun _ h9 => h9) rfl dX12_divide_186 ?_
                        refine lv_bipush (v := 24) hx hb dX12_divide_189 (by decide) ?_
                        refine lv_iload_n hx hb dX12_divide_191 rfl (lv_at hl 3 rfl) ?_
                        refine lv_imul hx hb dX12_divide_192 ?_
                        refine lv_topi (fun y51 hy51 => ?_)
                        obtain rfl : (nI (24 * an)) = y51 := (hy51.trans (pk_mul 24 an)).symm
                        refine lv_iconst (v := 2) hx hb dX12_divide_193 (by decide) ?_
                        refine lv_iadd hx hb dX12_divide_194 ?_
                        refine lv_topi (fun y52 hy52 => ?_)
                        obtain rfl : (nI ((24 * an) + 2)) = y52 := (hy52.trans (nI_add (24 * an) 2)).symm
                        refine lv_iload hx hb dX12_divide_195 (lv_at hl 10 rfl) ?_
                        refine lv_iadd hx hb dX12_divide_197 ?_
                        refine lv_topi (fun y53 hy53 => ?_)
                        obtain rfl : (nI (((24 * an) + 2) + kk)) = y53 := (hy53.trans (nI_add ((24 * an) + 2) kk)).symm
                        refine va_iald (cA := k 0) (n := 26400) (f := (vF 0)) hx hb hK hP 1 0 (WR_get 0 (by decide)) (TR_get 0 (by decide)) (vp_in_nI (show (((24 * an) + 2) + kk) < 26400 by omega) (by omega)) dX12_divide_198 ?_
                        refine lv_topi (fun y54 hy54 => ?_)
                        obtain rfl : ((vF 0) (((24 * an) + 2) + kk)) = y54 := (hy54.trans (by rw [nI_clamp (by omega)])).symm
                        refine lv_topi (fun y55 hy55 => ?_)
                        obtain rfl : (nI dk) = y55 := (hy55.trans (edk)).symm
                        refine lv_i2l hx hb dX12_divide_199 rfl ?_
                        refine lv_topl (fun y56 hy56 => ?_)
                        obtain rfl : (lN dk) = y56 := (hy56.trans (nI_l (by omega))).symm
                        refine lv_lor hx hb dX12_divide_200 ?_
                        refine lv_topl (fun y57 hy57 => ?_)
                        obtain rfl : (lN (cr * 268435456 + dk)) = y57 := (hy57.trans (lor28 (by omega) (by omega))).symm
                        refine lv_lstore hx hb dX12_divide_201 hl (by decide) rfl (fun ls (hl : lv_has ls _ ([(12, .long (lN (cr * 268435456 + dk))), (0, .ref h0), (1, .int (nI sn)), (2, .int (nI rn)), (3, .int (nI an)), (4, .int (nI bn)), (5, .int (nI na)), (6, .int (nI nb_)), (7, .int (vF 0 (24 * an))), (8, .int (vF 0 (24 * bn))), (9, .long (lN cr)), (11, .int (nI kk))])) => ?_)
                        refine lv_aload_n hx hb dX12_divide_203 rfl (lv_at hl 1 rfl) ?_
                        refine va_get (D := (dC, dI)) (ci := 12) (v := .ref (a 1)) (C := RX12) (T := TX12) (N := 163) (fs := fM (vS a vi vj)) hx hb hts iwsRX12_divide_in12 hown hK hP 0 rfl rfl 2 (by decide) (hts _ hm_r_X12_divide_2) (fun _ h9 => h9) rfl dX12_divide_204 ?_
                        refine lv_iload hx hb dX12_divide_207 (lv_at hl 11 rfl) ?_
                        refine lv_lload hx hb dX12_divide_209 (lv_at hl 0 rfl) ?_
                        refine lv_aload_n hx hb dX12_divide_211 rfl (lv_at hl 1 rfl) ?_
                        refine va_get (D := (dC, dI)) (ci := 12) (v := .ref (a 3)) (C := RX12) (T := TX12) (N := 163) (fs := fM (vS a vi vj)) hx hb hts iwsRX12_divide_in12 hown hK hP 0 rfl rfl 4 (by decide) (hts _ hm_r_X12_divide_4) (fun _ h9 => h9) rfl dX12_divide_212 ?_
                        refine lv_iconst (v := 0) hx hb dX12_divide_215 (by decide) ?_
                        refine va_iald (cA := k 3) (n := 30) (f := f3) hx hb hK hP 4 3 (WR_get 3 (by decide)) (TR_get 3 (by decide)) (show ¬ ((0 : Int32) < 0 ∨ 30 ≤ (0 : Int32).toNatClampNeg) by decide) dX12_divide_216 ?_
                        refine lv_topi (fun y58 hy58 => ?_)
                        obtain rfl : (f3 0) = y58 := (hy58.trans (rfl)).symm
                        refine lv_topi (fun y59 hy59 => ?_)
                        obtain rfl : (nI d0) = y59 := (hy59.trans (ed1)).symm
                        refine lv_i2l hx hb dX12_divide_217 rfl ?_
                        refine lv_topl (fun y60 hy60 => ?_)
                        obtain rfl : (lN d0) = y60 := (hy60.trans (nI_l (by omega))).symm
                        refine lv_ldiv hx hb dX12_divide_218 (by exact lN_ne0 (by omega) (by omega)) ?_
                        refine lv_topl (fun y61 hy61 => ?_)
                        obtain rfl : (lN ((cr * 268435456 + dk) / d0)) = y61 := (hy61.trans (lN_div (a := (cr * 268435456 + dk)) (b := d0) (by omega) (by omega) (by omega))).symm
                        refine va_last (cA := k 1) (n := 48) (f := gs3) hx hb hK hP hD hS 2 1 (WR_get 1 (by decide)) (TR_get 1 (by decide)) (vp_in_nI (show kk < 48 by omega) (by omega)) dX12_divide_219 (fun H locs hP hD hS => ?_)
                        have e9 : fT vG 1 (vp_updL gs3 ((nI kk)).toNatClampNeg (lN ((cr * 268435456 + dk) / d0))) = fT (fT vG 1 gs3) 1 (vp_updL gs3 ((nI kk)).toNatClampNeg (lN ((cr * 268435456 + dk) / d0))) := (fT_sm _ _ _ _).symm
                        have hP := wr_PG e9 (fz_w (WR_G 1 (by decide) _ rfl) hP)
                        have hD := wr_DG e9 (fz_wD (WR_G 1 (by decide) _ rfl) hD)
                        clear e9
                        refine lv_lload hx hb dX12_divide_220 (lv_at hl 0 rfl) ?_
                        refine lv_aload_n hx hb dX12_divide_222 rfl (lv_at hl 1 rfl) ?_
                        refine va_get (D := (dC, dI)) (ci := 12) (v := .ref (a 3)) (C := RX12) (T := TX12) (N := 163) (fs := fM (vS a vi vj)) hx hb hts iwsRX12_divide_in12 hown hK hP 0 rfl rfl 4 (by decide) (hts _ hm_r_X12_divide_4) (fun _ h9 => h9) rfl dX12_divide_223 ?_
                        refine lv_iconst (v := 0) hx hb dX12_divide_226 (by decide) ?_
                        refine va_iald (cA := k 3) (n := 30) (f := f3) hx hb hK hP 4 3 (WR_get 3 (by decide)) (TR_get 3 (by decide)) (show ¬ ((0 : Int32) < 0 ∨ 30 ≤ (0 : Int32).toNatClampNeg) by decide) dX12_divide_227 ?_
                        refine lv_topi (fun y62 hy62 => ?_)
                        obtain rfl : (f3 0) = y62 := (hy62.trans (rfl)).symm
                        refine lv_topi (fun y63 hy63 => ?_)
                        obtain rfl : (nI d0) = y63 := (hy63.trans (ed1)).symm
                        refine lv_i2l hx hb dX12_divide_228 rfl ?_
                        refine lv_topl (fun y64 hy64 => ?_)
                        obtain rfl : (lN d0) = y64 := (hy64.trans (nI_l (by omega))).symm
                        refine lv_lrem hx hb dX12_divide_229 (by exact lN_ne0 (by omega) (by omega)) ?_
                        refine lv_topl (fun y65 hy65 => ?_)
                        obtain rfl : (lN ((cr * 268435456 + dk) % d0)) = y65 := (hy65.trans (lN_rem (a := (cr * 268435456 + dk)) (b := d0) (by omega) (by omega) (by omega))).symm
                        refine lv_lstore hx hb dX12_divide_230 hl (by decide) rfl (fun ls (hl : lv_has ls _ ([(9, .long (lN ((cr * 268435456 + dk) % d0))), (12, .long (lN (cr * 268435456 + dk))), (0, .ref h0), (1, .int (nI sn)), (2, .int (nI rn)), (3, .int (nI an)), (4, .int (nI bn)), (5, .int (nI na)), (6, .int (nI nb_)), (7, .int (vF 0 (24 * an))), (8, .int (vF 0 (24 * bn))), (11, .int (nI kk))])) => ?_)
                        refine lv_iinc (v := ((nI kk) + (-1))) hx hb dX12_divide_232 hl (k := 11) rfl rfl (by decide) rfl (fun ls (hl : lv_has ls _ ([(11, .int ((nI kk) + (-1))), (9, .long (lN ((cr * 268435456 + dk) % d0))), (12, .long (lN (cr * 268435456 + dk))), (0, .ref h0), (1, .int (nI sn)), (2, .int (nI rn)), (3, .int (nI an)), (4, .int (nI bn)), (5, .int (nI na)), (6, .int (nI nb_)), (7, .int (vF 0 (24 * an))), (8, .int (vF 0 (24 * bn)))])) => ?_)
                        refine lv_goto (tgt := 175) hx hb dX12_divide_235 (by decide) ?_
                        have hl : lv_has _ _ ([(0, .ref h0), (1, .int (nI sn)), (2, .int (nI rn)), (3, .int (nI an)), (4, .int (nI bn)), (5, .int (nI na)), (6, .int (nI nb_)), (7, .int (vF 0 (24 * an))), (8, .int (vF 0 (24 * bn))), (9, .long (lN ((cr * 268435456 + dk) % d0))), (11, .int ((nI kk) + (-1)))]) := lv_sub hl [3, 4, 5, 6, 7, 8, 9, 10, 11, 1, 0] rfl
                        exact ih175_10 ((nI kk) + (-1)) (kk1 - 1) (QQ * 268435456 + (cr * 268435456 + dk) / d0) ((cr * 268435456 + dk) % d0) (vp_updL gs3 ((nI kk)).toNatClampNeg (lN ((cr * 268435456 + dk) / d0))) _ _ _ (by rw [m1T (by omega)]; omega) (by omega) (Nat.mod_lt _ (by omega)) (by rw [show kk1 - 1 = kk by omega, lv28_divs hna3 (by omega) hdk edk, show kk + 1 = kk1 by omega]; exact limbQ hQ) (fun q hq => by rw [updL_at (by omega), if_neg (by omega)]; exact hz3 q (by omega)) (fun q hq => by rw [updL_at (by omega)]; by_cases e9 : q = kk; (rw [if_pos e9, pk_lT (by have := vdiv_lt hcr hdk; omega)]; exact ⟨Int.natCast_nonneg _, Int.ofNat_lt.mpr (vdiv_lt hcr hdk)⟩); (rw [if_neg e9]; exact hent q hq)) (by (have e0 : (0 : Int64).toInt = 0 := by decide); (have hv9 := vdiv_lt hcr hdk); rw [sv28_upd (by omega) (by omega), hz3 kk (by omega), e0, pk_lT (by omega), show kk1 - 1 = kk by omega]; exact svL (by rw [show kk + 1 = kk1 by omega]; exact hsv)) (by omega) hP hD hS hl
                · have t_129 : ¬ ((i3 : Nat) : Int) ≥ ((nb_ : Nat) : Int) := toI_nge c_129 (nI_toInt (by omega)) (nI_toInt (by omega))
                  refine lv_aload_n hx hb dX12_divide_132 rfl (lv_at hl 0 rfl) ?_
                  refine va_get (D := (dC, dI)) (ci := 12) (v := .ref (a 3)) (C := RX12) (T := TX12) (N := 163) (fs := fM (vS a vi vj)) hx hb hts iwsRX12_divide_in12 hown hK hP 0 rfl rfl 4 (by decide) (hts _ hm_r_X12_divide_4) (fun _ h9 => h9) rfl dX12_divide_133 ?_
                  refine lv_iload hx hb dX12_divide_136 (lv_at hl 9 rfl) ?_
                  refine lv_aload_n hx hb dX12_divide_138 rfl (lv_at hl 0 rfl) ?_
                  refine va_get (D := (dC, dI)) (ci := 12) (v := .ref (a 0)) (C := RX12) (T := TX12) (N := 163) (fs := fM (vS a vi vj)) hx hb hts iwsRX12_divide_in12 hown hK hP 0 rfl rfl 1 (by decide) (hts _ hm_r_X12_divide_0) (fun _ h9 => h9) rfl dX12_divide_139 ?_
                  refine lv_bipush (v := 24) hx hb dX12_divide_142 (by decide) ?_
                  refine lv_iload hx hb dX12_divide_144 (lv_at hl 4 rfl) ?_
                  refine lv_imul hx hb dX12_divide_146 ?_
                  refine lv_topi (fun y66 hy66 => ?_)
                  obtain rfl : (nI (24 * bn)) = y66 := (hy66.trans (pk_mul 24 bn)).symm
                  refine lv_iconst (v := 2) hx hb dX12_divide_147 (by decide) ?_
                  refine lv_iadd hx hb dX12_divide_148 ?_
                  refine lv_topi (fun y67 hy67 => ?_)
                  obtain rfl : (nI ((24 * bn) + 2)) = y67 := (hy67.trans (nI_add (24 * bn) 2)).symm
                  refine lv_iload hx hb dX12_divide_149 (lv_at hl 9 rfl) ?_
                  refine lv_iadd hx hb dX12_divide_151 ?_
                  refine lv_topi (fun y68 hy68 => ?_)
                  obtain rfl : (nI (((24 * bn) + 2) + i3)) = y68 := (hy68.trans (nI_add ((24 * bn) + 2) i3)).symm
                  refine va_iald (cA := k 0) (n := 26400) (f := (vF 0)) hx hb hK hP 1 0 (WR_get 0 (by decide)) (TR_get 0 (by decide)) (vp_in_nI (show (((24 * bn) + 2) + i3) < 26400 by omega) (by omega)) dX12_divide_152 ?_
                  refine lv_topi (fun y69 hy69 => ?_)
                  obtain rfl : ((vF 0) (((24 * bn) + 2) + i3)) = y69 := (hy69.trans (by rw [nI_clamp (by omega)])).symm
                  refine va_iast (cA := k 3) (n := 30) (f := f3) hx hb hK hP hD hS 4 3 (WR_get 3 (by decide)) (TR_get 3 (by decide)) (vp_in_nI (show i3 < 30 by omega) (by omega)) dX12_divide_153 (fun H locs hP hD hS => ?_)
                  have e9 : fT (fT vF 2 f2) 3 (upd f3 ((nI i3)).toNatClampNeg ((vF 0) (((24 * bn) + 2) + i3))) = fT (fT (fT vF 2 f2) 3 f3) 3 (upd f3 ((nI i3)).toNatClampNeg ((vF 0) (((24 * bn) + 2) + i3))) := (fT_sm _ _ _ _).symm
                  have hP := wr_PF e9 (fz_w (WR_F 3 (by decide) _ rfl) hP)
                  have hD := wr_DF e9 (fz_wD (WR_F 3 (by decide) _ rfl) hD)
                  clear e9
                  refine lv_iinc (v := (nI (i3 + 1))) hx hb dX12_divide_154 hl (k := 9) rfl (nI_add i3 1) (by decide) rfl (fun ls (hl : lv_has ls _ ([(9, .int (nI (i3 + 1))), (0, .ref h0), (1, .int (nI sn)), (2, .int (nI rn)), (3, .int (nI an)), (4, .int (nI bn)), (5, .int (nI na)), (6, .int (nI nb_)), (7, .int (vF 0 (24 * an))), (8, .int (vF 0 (24 * bn)))])) => ?_)
                  refine lv_goto (tgt := 125) hx hb dX12_divide_157 (by decide) ?_
                  have hl : lv_has _ _ ([(0, .ref h0), (1, .int (nI sn)), (2, .int (nI rn)), (3, .int (nI an)), (4, .int (nI bn)), (5, .int (nI na)), (6, .int (nI nb_)), (7, .int (vF 0 (24 * an))), (8, .int (vF 0 (24 * bn))), (9, .int (nI (i3 + 1)))]) := lv_sub hl [1, 2, 3, 4, 5, 6, 7, 8, 9, 0] rfl
                  exact ih125_2 (i3 + 1) (upd f3 ((nI i3)).toNatClampNeg ((vF 0) (((24 * bn) + 2) + i3))) _ _ _ (by omega) (fun q hq => by rw [upd_at (by omega)]; by_cases e9 : q = i3; (rw [if_pos e9, e9]); (rw [if_neg e9]; exact hl3 q (by omega))) (by omega) hP hD hS hl
            · have t_105 : ¬ ((i : Nat) : Int) ≥ ((na : Nat) : Int) := toI_nge c_105 (nI_toInt (by omega)) (nI_toInt (by omega))
              refine lv_aload_n hx hb dX12_divide_108 rfl (lv_at hl 0 rfl) ?_
              refine va_get (D := (dC, dI)) (ci := 12) (v := .ref (a 1)) (C := RX12) (T := TX12) (N := 163) (fs := fM (vS a vi vj)) hx hb hts iwsRX12_divide_in12 hown hK hP 0 rfl rfl 2 (by decide) (hts _ hm_r_X12_divide_2) (fun _ h9 => h9) rfl dX12_divide_109 ?_
              refine lv_iload hx hb dX12_divide_112 (lv_at hl 9 rfl) ?_
              refine lv_lconst (v := 0) hx hb dX12_divide_114 (by decide) ?_
              refine va_last (cA := k 1) (n := 48) (f := gs1) hx hb hK hP hD hS 2 1 (WR_get 1 (by decide)) (TR_get 1 (by decide)) (vp_in_nI (show i < 48 by omega) (by omega)) dX12_divide_115 (fun H locs hP hD hS => ?_)
              have e9 : fT vG 1 (vp_updL gs1 ((nI i)).toNatClampNeg 0) = fT (fT vG 1 gs1) 1 (vp_updL gs1 ((nI i)).toNatClampNeg 0) := (fT_sm _ _ _ _).symm
              have hP := wr_PG e9 (fz_w (WR_G 1 (by decide) _ rfl) hP)
              have hD := wr_DG e9 (fz_wD (WR_G 1 (by decide) _ rfl) hD)
              clear e9
              refine lv_iinc (v := (nI (i + 1))) hx hb dX12_divide_116 hl (k := 9) rfl (nI_add i 1) (by decide) rfl (fun ls (hl : lv_has ls _ ([(9, .int (nI (i + 1))), (0, .ref h0), (1, .int (nI sn)), (2, .int (nI rn)), (3, .int (nI an)), (4, .int (nI bn)), (5, .int (nI na)), (6, .int (nI nb_)), (7, .int (vF 0 (24 * an))), (8, .int (vF 0 (24 * bn)))])) => ?_)
              refine lv_goto (tgt := 101) hx hb dX12_divide_119 (by decide) ?_
              have hl : lv_has _ _ ([(0, .ref h0), (1, .int (nI sn)), (2, .int (nI rn)), (3, .int (nI an)), (4, .int (nI bn)), (5, .int (nI na)), (6, .int (nI nb_)), (7, .int (vF 0 (24 * an))), (8, .int (vF 0 (24 * bn))), (9, .int (nI (i + 1)))]) := lv_sub hl [1, 2, 3, 4, 5, 6, 7, 8, 9, 0] rfl
              exact ih101_1 (i + 1) (vp_updL gs1 ((nI i)).toNatClampNeg 0) _ _ _ (by omega) (fun q hq => by rw [updL_at (by omega)]; by_cases e9 : q = i; (rw [if_pos e9]); (rw [if_neg e9]; exact hzs q (by omega))) (by omega) hP hD hS hl
        · have t_81 : ¬ ((i : Nat) : Int) > (((nb_ + 1) : Nat) : Int) := toI_ngt c_81 (nI_toInt (by omega)) (nI_toInt (by omega))
          refine lv_aload_n hx hb dX12_divide_84 rfl (lv_at hl 0 rfl) ?_
          refine va_get (D := (dC, dI)) (ci := 12) (v := .ref (a 2)) (C := RX12) (T := TX12) (N := 163) (fs := fM (vS a vi vj)) hx hb hts iwsRX12_divide_in12 hown hK hP 0 rfl rfl 3 (by decide) (hts _ hm_r_X12_divide_1) (fun _ h9 => h9) rfl dX12_divide_85 ?_
          refine lv_iload hx hb dX12_divide_88 (lv_at hl 9 rfl) ?_
          refine lv_iconst (v := 0) hx hb dX12_divide_90 (by decide) ?_
          refine va_iast (cA := k 2) (n := 60) (f := f2) hx hb hK hP hD hS 3 2 (WR_get 2 (by decide)) (TR_get 2 (by decide)) (vp_in_nI (show i < 60 by omega) (by omega)) dX12_divide_91 (fun H locs hP hD hS => ?_)
          have e9 : fT vF 2 (upd f2 ((nI i)).toNatClampNeg 0) = fT (fT vF 2 f2) 2 (upd f2 ((nI i)).toNatClampNeg 0) := (fT_sm _ _ _ _).symm
          have hP := wr_PF e9 (fz_w (WR_F 2 (by decide) _ rfl) hP)
          have hD := wr_DF e9 (fz_wD (WR_F 2 (by decide) _ rfl) hD)
          clear e9
          refine lv_iinc (v := (nI (i + 1))) hx hb dX12_divide_92 hl (k := 9) rfl (nI_add i 1) (by decide) rfl (fun ls (hl : lv_has ls _ ([(9, .int (nI (i + 1))), (0, .ref h0), (1, .int (nI sn)), (2, .int (nI rn)), (3, .int (nI an)), (4, .int (nI bn)), (5, .int (nI na)), (6, .int (nI nb_)), (7, .int (vF 0 (24 * an))), (8, .int (vF 0 (24 * bn)))])) => ?_)
          refine lv_goto (tgt := 75) hx hb dX12_divide_95 (by decide) ?_
          have hl : lv_has _ _ ([(0, .ref h0), (1, .int (nI sn)), (2, .int (nI rn)), (3, .int (nI an)), (4, .int (nI bn)), (5, .int (nI na)), (6, .int (nI nb_)), (7, .int (vF 0 (24 * an))), (8, .int (vF 0 (24 * bn))), (9, .int (nI (i + 1)))]) := lv_sub hl [1, 2, 3, 4, 5, 6, 7, 8, 9, 0] rfl
          exact ih75 (i + 1) (upd f2 ((nI i)).toNatClampNeg 0) _ _ _ (by omega) (fun q hq => by rw [upd_at (by omega)]; by_cases e9 : q = i; (rw [if_pos e9]); (rw [if_neg e9]; exact hr0 q (by omega))) (by omega) hP hD hS hl
    · have t_56 : ¬ (r53).toInt ≥ 0 := toI_nge c_56 rfl (by decide)
      have hlt9 : NA9 < NB9 := by omega
      have hlt : xa.natAbs < xb.natAbs := by rw [eNA.out, eNB.out]; exact hlt9
      refine lv_aload_n hx hb dX12_divide_59 rfl (lv_at hl 4 rfl) ?_
      refine lv_iload_n hx hb dX12_divide_60 rfl (lv_at hl 6 rfl) ?_
      refine lv_iload_n hx hb dX12_divide_61 rfl (lv_at hl 7 rfl) ?_
      have hFc := allFree hD hS hA
      refine va_callv (va_runV (As := [.int (nI rn), .int (nI an)]) (rest := []) ⟨hx, hb, hml, hown, hts⟩ (r_X12_copy l dC dI a k h0 vi vj vF vG rn an na (by first | with_reducible assumption | decide | omega | rfl | assumption) (by first | with_reducible assumption | decide | omega | rfl | assumption) (by omega) (hna2) (by first | with_reducible assumption | decide | omega | rfl | assumption) H.size) (cwV 2 hts gwsRX12_divide_1 rfl rfl rfl hd_yX12_copy_RX12 (by decide +kernel)) (fz_pre (va_recv hK hP (ci := 12) (q0 := 0) rfl rfl) hP hK hD) rfl rfl hl.1 rfl (lv_room (Nat.le_of_ble_eq_true rfl)) dX12_divide_62 (by decide +kernel)) hS (fun q _ h => hFc q h) hFc (fun g62_1 t9_ H locs ht hvm hw9 hB9 hz1 hk1 hS => ?_)
      have hP : va_P (dC, dI) vwCl (WR a k h0 vi vj (fT vF 0 g62_1) vG) H := fz_P ht hB9.1
      have hD := fz_sd hP (hB9.2.weaken (fun _ q _ h => hFc q.1 h)) rfl
      revert hw9
      refine fz_a2 ?_
      intro f62_1_0 f62_1_1
      have f62_1_0 : ∀ q, q < na + 2 → g62_1 (24 * rn + q) = (vF 0) (24 * an + q) := f62_1_0
      have f62_1_1 : ∀ q, (q < 24 * rn ∨ 24 * rn + 24 ≤ q) → g62_1 q = (vF 0) q := f62_1_1
      refine lv_aload_n hx hb dX12_divide_65 rfl (lv_at hl 4 rfl) ?_
      refine lv_iload_n hx hb dX12_divide_66 rfl (lv_at hl 5 rfl) ?_
      refine lv_lconst (v := 0) hx hb dX12_divide_67 (by decide) ?_
      have hFc := allFree hD hS hA
      refine va_callv (va_runV (As := [.int (nI sn), .long 0]) (rest := []) ⟨hx, hb, hml, hown, hts⟩ (r_X12_put l dC dI a k h0 vi vj (fT vF 0 g62_1) vG sn 0 (by first | with_reducible assumption | decide | omega | rfl | assumption) (by first | with_reducible assumption | decide | omega | rfl | assumption) H.size) (cwV 2 hts gwsRX12_divide_2 rfl rfl rfl hd_yX12_put_RX12 (by decide +kernel)) (fz_pre (va_recv hK hP (ci := 12) (q0 := 0) rfl rfl) hP hK hD) rfl rfl hl.1 rfl (lv_room (Nat.le_of_ble_eq_true rfl)) dX12_divide_68 (by decide +kernel)) hS (fun q _ h => hFc q h) hFc (fun g68_1 t9_ H locs ht hvm hw9 hB9 hz1 hk1 hS => ?_)
      have e9F : fT vF 0 g68_1 = fT (fT vF 0 g62_1) 0 g68_1 := (fT_sm _ _ _ _).symm
      have hP := wr_PF e9F (fz_P ht hB9.1)
      have hD := wr_DF e9F (hB9.2.weaken (fun _ q _ h => hFc q.1 h))
      clear e9F
      revert hw9
      refine fz_a2 ?_
      intro f68_1_0 f68_1_1
      have f68_1_1 : ∀ q, (q < 24 * sn ∨ 24 * sn + 24 ≤ q) → g68_1 q = g62_1 q := f68_1_1
      refine W.widen (k := 0) (n := 0) (by decide +kernel) (by decide +kernel) ?_
      have e9 : fT (fT (fT vF 2 (vF 2)) 3 (vF 3)) 0 g68_1 = fT vF 0 g68_1 := Eq.trans (mv_2 rfl) (Eq.trans (id_2 rfl) (Eq.trans (mv_1 rfl) (id_1 rfl)))
      have hP := wr_PF e9 hP
      have hD := wr_DF e9 hD
      clear e9
      have e9 : fT vG 1 (vG 1) = vG := fT_id _ _ (rfl)
      have hP := wr_PG e9 hP
      have hD := wr_DG e9 hD
      clear e9
      exact W.vret hx hb hr (fun t9_ ht hW => ⟨⟨(g68_1, (vF 2), (vF 3), (vG 1)), rfl, by (try dsimp only); (have e0 : (0 : Int64).toInt = 0 := by decide); rw [e0] at f68_1_0; exact ⟨by rw [tdiv_small hlt]; exact f68_1_0, by rw [tmod_small hlt]; exact (Nu.congr hxa hna2 hna1 f62_1_0).keep (fun q h1 h2 => f68_1_1 q (by omega)), fun q h1 h2 => (f68_1_1 q h1).trans (f62_1_1 q h2)⟩, by rw [ht]; exact hP, hD⟩, hS.F ht⟩) hS.2.2 dX12_divide_71
end
section
theorem Met.monoV {l : Launch} {y : MethodName} {ws : List Cond} {rm : Room} {Pc : Array Value → State → Prop} {mc ms : Nat} {fr : Addr → Prop} {S : Type} {φ ψ : S → Prop} {B : S → State → Prop} {A : Nat → Prop} (h : Met l y ws rm Pc (va_Qv φ B A) mc ms fr) (hm : ∀ u, φ u → ψ u) : Met l y ws rm Pc (va_Qv ψ B A) mc ms fr := by
  intro p e h1 h2 h3 s m args below hf ha hP hK
  obtain ⟨n, o, q1, q2, q3, ⟨⟨u, q4, q5, q6⟩, q7⟩, q8⟩ := h p e h1 h2 h3 s m args below hf ha hP hK
  exact ⟨n, o, q1, q2, q3, ⟨⟨u, q4, hm u q5, q6⟩, q7⟩, q8⟩
theorem Met.monoI {l : Launch} {y : MethodName} {ws : List Cond} {rm : Room} {Pc : Array Value → State → Prop} {mc ms : Nat} {fr : Addr → Prop} {S : Type} {φ ψ : Int32 → S → Prop} {B : S → State → Prop} {A : Nat → Prop} (h : Met l y ws rm Pc (va_Qi φ B A) mc ms fr) (hm : ∀ r u, φ r u → ψ r u) : Met l y ws rm Pc (va_Qi ψ B A) mc ms fr := by
  intro p e h1 h2 h3 s m args below hf ha hP hK
  obtain ⟨n, o, q1, q2, q3, ⟨⟨r, u, q4, q5, q6⟩, q7⟩, q8⟩ := h p e h1 h2 h3 s m args below hf ha hP hK
  exact ⟨n, o, q1, q2, q3, ⟨⟨r, u, q4, hm r u q5, q6⟩, q7⟩, q8⟩
theorem Met.monoL {l : Launch} {y : MethodName} {ws : List Cond} {rm : Room} {Pc : Array Value → State → Prop} {mc ms : Nat} {fr : Addr → Prop} {S : Type} {φ ψ : Int64 → S → Prop} {B : S → State → Prop} {A : Nat → Prop} (h : Met l y ws rm Pc (va_Ql φ B A) mc ms fr) (hm : ∀ r u, φ r u → ψ r u) : Met l y ws rm Pc (va_Ql ψ B A) mc ms fr := by
  intro p e h1 h2 h3 s m args below hf ha hP hK
  obtain ⟨n, o, q1, q2, q3, ⟨⟨r, u, q4, q5, q6⟩, q7⟩, q8⟩ := h p e h1 h2 h3 s m args below hf ha hP hK
  exact ⟨n, o, q1, q2, q3, ⟨⟨r, u, q4, hm r u q5, q6⟩, q7⟩, q8⟩
/-- the slots of big hold the whole numbers m -/
def Bg (f : Nat → Int32) (m : Nat → Int) : Prop := ∀ s, s < 1100 → Nu f s (m s)
theorem Bg.set {f g : Nat → Int32} {m : Nat → Int} {sn : Nat} {x : Int} (h : Bg f m) (hn : Nu g sn x) (ho : ∀ q, (q < 24 * sn ∨ 24 * sn + 24 ≤ q) → g q = f q) : Bg g (fT m sn x) := fun s hs => by
  by_cases e : s = sn
  · subst e; rw [fT_eq]; exact hn
  · rw [fT_ne _ _ e]; exact (h s hs).keep (fun q h1 h2 => ho q (by omega))
theorem Bg.set2 {f g : Nat → Int32} {m : Nat → Int} {sn rn : Nat} {x y : Int} (h : Bg f m) (hn : Nu g sn x) (hr : Nu g rn y) (hne : sn ≠ rn) (ho : ∀ q, (q < 24 * sn ∨ 24 * sn + 24 ≤ q) → (q < 24 * rn ∨ 24 * rn + 24 ≤ q) → g q = f q) : Bg g (fT (fT m sn x) rn y) := fun s hs => by
  by_cases e : s = rn
  · subst e; rw [fT_eq]; exact hr
  · rw [fT_ne _ _ e]
    by_cases e2 : s = sn
    · subst e2; rw [fT_eq]; exact hn
    · rw [fT_ne _ _ e2]; exact (h s hs).keep (fun q h1 h2 => ho q (by omega) (by omega))
theorem Bg.turn {f : Nat → Int32} {m : Nat → Int} {sn : Nat} (h : Bg f m) (hs : sn < 1100) : Bg (upd f (nI (24 * sn)).toNatClampNeg (-(f (24 * sn)))) (fT m sn (-(m sn))) := by
  have ho : ∀ q, q ≠ 24 * sn → upd f (nI (24 * sn)).toNatClampNeg (-(f (24 * sn))) q = f q := fun q hq => by rw [upd_at (by omega), if_neg hq]
  refine Bg.set h ?_ (fun q hq => ho q (by omega))
  obtain ⟨n, n1, n2, n3, n4, n5, n6⟩ := h sn hs
  refine ⟨n, n1, by rw [ho _ (by omega)]; exact n2, fun q hq => by rw [ho _ (by omega)]; exact n3 q hq, fun h9 => by rw [ho _ (by omega)]; exact n4 h9, ?_, ?_⟩
  · rw [Int.natAbs_neg, n5]; exact lv28_congr (fun q hq => (ho _ (by omega)).symm)
  · rw [upd_at (by omega), if_pos rfl]
    rcases n6 with ⟨e1, e2⟩ | ⟨e1, e2⟩ | ⟨e1, e2⟩
    · exact Or.inl ⟨by omega, by rw [e2]; decide⟩
    · exact Or.inr (Or.inr ⟨by omega, by rw [e2]⟩)
    · exact Or.inr (Or.inl ⟨by omega, by rw [e2]; decide⟩)
theorem Bg.sgn {f : Nat → Int32} {m : Nat → Int} {sn : Nat} (h : Bg f m) (hs : sn < 1100) : (m sn = 0 ∧ (f (24 * sn)).toInt = 0) ∨ (0 < m sn ∧ (f (24 * sn)).toInt = 1) ∨ (m sn < 0 ∧ (f (24 * sn)).toInt = -1) := by
  obtain ⟨n, n1, n2, n3, n4, n5, n6⟩ := h sn hs
  exact sgT n6
theorem Bg.len {f : Nat → Int32} {m : Nat → Int} {sn : Nat} (h : Bg f m) (hs : sn < 1100) : ∃ n, f (24 * sn + 1) = nI n ∧ n ≤ 22 := by
  obtain ⟨n, n1, n2, n3, n4, n5, n6⟩ := h sn hs
  exact ⟨n, n2, n1⟩
end
section
theorem b_X12_sign (l : Launch) (dC : Nat → ClassId) (dI : Nat → Nat → Nat) (a : Nat → Nat) (k : Nat → ClassId) (h0 : Nat) (vi : Nat → Int32) (vj : Nat → Int64) (vF : Nat → Nat → Int32) (vG : Nat → Nat → Int64) (sn : Nat) (mg : Nat → Int) (hBg : Bg (vF 0) mg) (x : Int) (v_x : mg sn = x) (hs : sn < 1100) (sz : Nat) : Met l yX12_sign wsRX12_sign ({ frames := 0, cells := 0, slots := 0, locals := 0 }) (va_Pc [.ref h0, .int (nI sn)] (fun U => U.heap.size = sz ∧ va_P (dC, dI) vwCl (WR a k h0 vi vj vF vG) U.heap ∧ va_K (dC, dI) vwCl (tX12 k) U ∧ va_D (fun _ => True) (WR a k h0 vi vj vF vG))) (va_Qi (fun (r : Int32) (u : Unit) => (((r).toInt = 0 ∧ x = 0) ∨ ((r).toInt = 1 ∧ 0 < x) ∨ ((r).toInt = -1 ∧ x < 0))) (fun (u : Unit) t => va_P (dC, dI) vwCl (WR a k h0 vi vj vF vG) t.heap ∧ va_D (va_A (WR a k h0 vi vj vF vG) sz) (WR a k h0 vi vj vF vG)) (va_A (WR a k h0 vi vj vF vG) sz)) 0 0 (va_A (WR a k h0 vi vj vF vG) sz) := by
  subst v_x
  exact Met.monoI (r_X12_sign l dC dI a k h0 vi vj vF vG sn hs sz) (fun r u h => by (try dsimp only at h ⊢); rcases Bg.sgn hBg hs with ⟨q1, q2⟩ | ⟨q1, q2⟩ | ⟨q1, q2⟩; (exact Or.inl ⟨by rw [h]; exact q2, q1⟩); (exact Or.inr (Or.inl ⟨by rw [h]; exact q2, q1⟩)); (exact Or.inr (Or.inr ⟨by rw [h]; exact q2, q1⟩)))
theorem b_X12_turn (l : Launch) (dC : Nat → ClassId) (dI : Nat → Nat → Nat) (a : Nat → Nat) (k : Nat → ClassId) (h0 : Nat) (vi : Nat → Int32) (vj : Nat → Int64) (vF : Nat → Nat → Int32) (vG : Nat → Nat → Int64) (sn : Nat) (mg : Nat → Int) (hBg : Bg (vF 0) mg) (x : Int) (v_x : mg sn = x) (hs : sn < 1100) (sz : Nat) : Met l yX12_turn wsRX12_turn ({ frames := 0, cells := 0, slots := 0, locals := 0 }) (va_Pc [.ref h0, .int (nI sn)] (fun U => U.heap.size = sz ∧ va_P (dC, dI) vwCl (WR a k h0 vi vj vF vG) U.heap ∧ va_K (dC, dI) vwCl (tX12 k) U ∧ va_D (fun _ => True) (WR a k h0 vi vj vF vG))) (va_Qv (fun (u : Unit) => (Bg (upd (vF 0) (nI (24 * sn)).toNatClampNeg (-(vF 0 (24 * sn)))) (fT mg sn (-x)))) (fun (u : Unit) t => va_P (dC, dI) vwCl (WR a k h0 vi vj (fT vF 0 (upd (vF 0) (nI (24 * sn)).toNatClampNeg (-(vF 0 (24 * sn))))) vG) t.heap ∧ va_D (va_A (WR a k h0 vi vj vF vG) sz) (WR a k h0 vi vj (fT vF 0 (upd (vF 0) (nI (24 * sn)).toNatClampNeg (-(vF 0 (24 * sn))))) vG)) (va_A (WR a k h0 vi vj vF vG) sz)) 0 0 (va_A (WR a k h0 vi vj vF vG) sz) := by
  subst v_x
  exact Met.monoV (r_X12_turn l dC dI a k h0 vi vj vF vG sn hs sz) (fun u h => by (try dsimp only at h ⊢); exact hBg.turn hs)
theorem b_X12_copy (l : Launch) (dC : Nat → ClassId) (dI : Nat → Nat → Nat) (a : Nat → Nat) (k : Nat → ClassId) (h0 : Nat) (vi : Nat → Int32) (vj : Nat → Int64) (vF : Nat → Nat → Int32) (vG : Nat → Nat → Int64) (sn : Nat) (fn : Nat) (mg : Nat → Int) (hBg : Bg (vF 0) mg) (x : Int) (v_x : mg fn = x) (hs : sn < 1100) (hf : fn < 1100) (hne : sn ≠ fn) (sz : Nat) : Met l yX12_copy wsRX12_copy ({ frames := 0, cells := 0, slots := 0, locals := 0 }) (va_Pc [.ref h0, .int (nI sn), .int (nI fn)] (fun U => U.heap.size = sz ∧ va_P (dC, dI) vwCl (WR a k h0 vi vj vF vG) U.heap ∧ va_K (dC, dI) vwCl (tX12 k) U ∧ va_D (fun _ => True) (WR a k h0 vi vj vF vG))) (va_Qv (fun (u : Nat → Int32) => (Bg u (fT mg sn x))) (fun (u : Nat → Int32) t => va_P (dC, dI) vwCl (WR a k h0 vi vj (fT vF 0 u) vG) t.heap ∧ va_D (va_A (WR a k h0 vi vj vF vG) sz) (WR a k h0 vi vj (fT vF 0 u) vG)) (va_A (WR a k h0 vi vj vF vG) sz)) 0 0 (va_A (WR a k h0 vi vj vF vG) sz) := by
  subst v_x
  obtain ⟨n, hn, hn22⟩ := Bg.len hBg hf
  exact Met.monoV (r_X12_copy l dC dI a k h0 vi vj vF vG sn fn n hs hf hne hn hn22 sz) (fun u h => by (try dsimp only at h ⊢); exact Bg.set hBg (Nu.congr (hBg fn hf) hn hn22 h.1) h.2)
theorem b_X12_put (l : Launch) (dC : Nat → ClassId) (dI : Nat → Nat → Nat) (a : Nat → Nat) (k : Nat → ClassId) (h0 : Nat) (vi : Nat → Int32) (vj : Nat → Int64) (vF : Nat → Nat → Int32) (vG : Nat → Nat → Int64) (sn : Nat) (xv : Int64) (xi : Int) (mg : Nat → Int) (hBg : Bg (vF 0) mg) (hs : sn < 1100) (hxi : xv.toInt = xi) (hxv : -9223372036854775808 < xi) (sz : Nat) : Met l yX12_put wsRX12_put ({ frames := 0, cells := 0, slots := 0, locals := 0 }) (va_Pc [.ref h0, .int (nI sn), .long xv] (fun U => U.heap.size = sz ∧ va_P (dC, dI) vwCl (WR a k h0 vi vj vF vG) U.heap ∧ va_K (dC, dI) vwCl (tX12 k) U ∧ va_D (fun _ => True) (WR a k h0 vi vj vF vG))) (va_Qv (fun (u : Nat → Int32) => (Bg u (fT mg sn xi))) (fun (u : Nat → Int32) t => va_P (dC, dI) vwCl (WR a k h0 vi vj (fT vF 0 u) vG) t.heap ∧ va_D (va_A (WR a k h0 vi vj vF vG) sz) (WR a k h0 vi vj (fT vF 0 u) vG)) (va_A (WR a k h0 vi vj vF vG) sz)) 0 0 (va_A (WR a k h0 vi vj vF vG) sz) := by
  exact Met.monoV (r_X12_put l dC dI a k h0 vi vj vF vG sn xv hs (by rw [hxi]; exact hxv) sz) (fun u h => by (try dsimp only at h ⊢); rw [hxi] at h; exact Bg.set hBg h.1 h.2)
theorem b_X12_bare (l : Launch) (dC : Nat → ClassId) (dI : Nat → Nat → Nat) (a : Nat → Nat) (k : Nat → ClassId) (h0 : Nat) (vi : Nat → Int32) (vj : Nat → Int64) (vF : Nat → Nat → Int32) (vG : Nat → Nat → Int64) (an : Nat) (bn : Nat) (mg : Nat → Int) (hBg : Bg (vF 0) mg) (xa : Int) (xb : Int) (v_xa : mg an = xa) (v_xb : mg bn = xb) (hna : an < 1100) (hnb : bn < 1100) (sz : Nat) : Met l yX12_bare wsRX12_bare ({ frames := 0, cells := 0, slots := 0, locals := 0 }) (va_Pc [.ref h0, .int (nI an), .int (nI bn)] (fun U => U.heap.size = sz ∧ va_P (dC, dI) vwCl (WR a k h0 vi vj vF vG) U.heap ∧ va_K (dC, dI) vwCl (tX12 k) U ∧ va_D (fun _ => True) (WR a k h0 vi vj vF vG))) (va_Qi (fun (r : Int32) (u : Unit) => (((r).toInt < 0 ∧ (xa).natAbs < (xb).natAbs) ∨ ((r).toInt = 0 ∧ (xa).natAbs = (xb).natAbs) ∨ (0 < (r).toInt ∧ (xb).natAbs < (xa).natAbs)) ∧ (-1073741824 < (r).toInt ∧ (r).toInt < 1073741824)) (fun (u : Unit) t => va_P (dC, dI) vwCl (WR a k h0 vi vj vF vG) t.heap ∧ va_D (va_A (WR a k h0 vi vj vF vG) sz) (WR a k h0 vi vj vF vG)) (va_A (WR a k h0 vi vj vF vG) sz)) 0 0 (va_A (WR a k h0 vi vj vF vG) sz) := by
  subst v_xa
  subst v_xb
  exact Met.monoI (r_X12_bare l dC dI a k h0 vi vj vF vG an bn (mg an) (mg bn) hna hnb (hBg an hna) (hBg bn hnb) sz) (fun r u h => by (try dsimp only at h ⊢); exact h)
theorem b_X12_compare (l : Launch) (dC : Nat → ClassId) (dI : Nat → Nat → Nat) (a : Nat → Nat) (k : Nat → ClassId) (h0 : Nat) (vi : Nat → Int32) (vj : Nat → Int64) (vF : Nat → Nat → Int32) (vG : Nat → Nat → Int64) (an : Nat) (bn : Nat) (mg : Nat → Int) (hBg : Bg (vF 0) mg) (xa : Int) (xb : Int) (v_xa : mg an = xa) (v_xb : mg bn = xb) (hna : an < 1100) (hnb : bn < 1100) (sz : Nat) : Met l yX12_compare wsRX12_compare ({ frames := 1, cells := 0, slots := 0, locals := 24 }) (va_Pc [.ref h0, .int (nI an), .int (nI bn)] (fun U => U.heap.size = sz ∧ va_P (dC, dI) vwCl (WR a k h0 vi vj vF vG) U.heap ∧ va_K (dC, dI) vwCl (tX12 k) U ∧ va_D (fun _ => True) (WR a k h0 vi vj vF vG))) (va_Qi (fun (r : Int32) (u : Unit) => (((r).toInt < 0 ∧ xa < xb) ∨ ((r).toInt = 0 ∧ xa = xb) ∨ (0 < (r).toInt ∧ xb < xa))) (fun (u : Unit) t => va_P (dC, dI) vwCl (WR a k h0 vi vj vF vG) t.heap ∧ va_D (va_A (WR a k h0 vi vj vF vG) sz) (WR a k h0 vi vj vF vG)) (va_A (WR a k h0 vi vj vF vG) sz)) 0 0 (va_A (WR a k h0 vi vj vF vG) sz) := by
  subst v_xa
  subst v_xb
  exact Met.monoI (r_X12_compare l dC dI a k h0 vi vj vF vG an bn (mg an) (mg bn) hna hnb (hBg an hna) (hBg bn hnb) sz) (fun r u h => by (try dsimp only at h ⊢); exact h)
theorem b_X12_add (l : Launch) (dC : Nat → ClassId) (dI : Nat → Nat → Nat) (a : Nat → Nat) (k : Nat → ClassId) (h0 : Nat) (vi : Nat → Int32) (vj : Nat → Int64) (vF : Nat → Nat → Int32) (vG : Nat → Nat → Int64) (sn : Nat) (hw : Int32) (hI : Int) (an : Nat) (bn : Nat) (mg : Nat → Int) (hBg : Bg (vF 0) mg) (xa : Int) (xb : Int) (v_xa : mg an = xa) (v_xb : mg bn = xb) (hna : an < 1100) (hnb : bn < 1100) (hs : sn < 1100) (hhw : (hI = 1 ∧ hw = 1) ∨ (hI = -1 ∧ hw = -1)) (hbig : (xa + hI * xb).natAbs < 2 ^ 616) (sz : Nat) : Met l yX12_add wsRX12_add ({ frames := 1, cells := 0, slots := 0, locals := 28 }) (va_Pc [.ref h0, .int (nI sn), .int (nI an), .int (nI bn), .int hw] (fun U => U.heap.size = sz ∧ va_P (dC, dI) vwCl (WR a k h0 vi vj vF vG) U.heap ∧ va_K (dC, dI) vwCl (tX12 k) U ∧ va_D (fun _ => True) (WR a k h0 vi vj vF vG))) (va_Qv (fun (u : (Nat → Int32) × (Nat → Int64)) => (Bg (u.1) (fT mg sn (xa + hI * xb)))) (fun (u : (Nat → Int32) × (Nat → Int64)) t => va_P (dC, dI) vwCl (WR a k h0 vi vj (fT vF 0 (u.1)) (fT vG 1 (u.2))) t.heap ∧ va_D (va_A (WR a k h0 vi vj vF vG) sz) (WR a k h0 vi vj (fT vF 0 (u.1)) (fT vG 1 (u.2)))) (va_A (WR a k h0 vi vj vF vG) sz)) 0 0 (va_A (WR a k h0 vi vj vF vG) sz) := by
  subst v_xa
  subst v_xb
  exact Met.monoV (r_X12_add l dC dI a k h0 vi vj vF vG sn hs an bn (mg an) (mg bn) hw hI hna hnb (hBg an hna) (hBg bn hnb) hhw hbig sz) (fun u h => by (try dsimp only at h ⊢); exact Bg.set hBg h.1 h.2)
theorem b_X12_times (l : Launch) (dC : Nat → ClassId) (dI : Nat → Nat → Nat) (a : Nat → Nat) (k : Nat → ClassId) (h0 : Nat) (vi : Nat → Int32) (vj : Nat → Int64) (vF : Nat → Nat → Int32) (vG : Nat → Nat → Int64) (sn : Nat) (an : Nat) (bn : Nat) (mg : Nat → Int) (hBg : Bg (vF 0) mg) (xa : Int) (xb : Int) (v_xa : mg an = xa) (v_xb : mg bn = xb) (hna : an < 1100) (hnb : bn < 1100) (hs : sn < 1100) (hbig : (xa).natAbs * (xb).natAbs < 2 ^ 588) (sz : Nat) : Met l yX12_times wsRX12_times ({ frames := 1, cells := 0, slots := 0, locals := 28 }) (va_Pc [.ref h0, .int (nI sn), .int (nI an), .int (nI bn)] (fun U => U.heap.size = sz ∧ va_P (dC, dI) vwCl (WR a k h0 vi vj vF vG) U.heap ∧ va_K (dC, dI) vwCl (tX12 k) U ∧ va_D (fun _ => True) (WR a k h0 vi vj vF vG))) (va_Qv (fun (u : (Nat → Int32) × (Nat → Int64)) => (Bg (u.1) (fT mg sn (xa * xb)))) (fun (u : (Nat → Int32) × (Nat → Int64)) t => va_P (dC, dI) vwCl (WR a k h0 vi vj (fT vF 0 (u.1)) (fT vG 1 (u.2))) t.heap ∧ va_D (va_A (WR a k h0 vi vj vF vG) sz) (WR a k h0 vi vj (fT vF 0 (u.1)) (fT vG 1 (u.2)))) (va_A (WR a k h0 vi vj vF vG) sz)) 0 0 (va_A (WR a k h0 vi vj vF vG) sz) := by
  subst v_xa
  subst v_xb
  exact Met.monoV (r_X12_times l dC dI a k h0 vi vj vF vG sn hs an bn (mg an) (mg bn) hna hnb (hBg an hna) (hBg bn hnb) hbig sz) (fun u h => by (try dsimp only at h ⊢); exact Bg.set hBg h.1 h.2)
theorem b_X12_divide (l : Launch) (dC : Nat → ClassId) (dI : Nat → Nat → Nat) (a : Nat → Nat) (k : Nat → ClassId) (h0 : Nat) (vi : Nat → Int32) (vj : Nat → Int64) (vF : Nat → Nat → Int32) (vG : Nat → Nat → Int64) (sn : Nat) (rn : Nat) (an : Nat) (bn : Nat) (mg : Nat → Int) (hBg : Bg (vF 0) mg) (xa : Int) (xb : Int) (v_xa : mg an = xa) (v_xb : mg bn = xb) (hna : an < 1100) (hnb : bn < 1100) (hs : sn < 1100) (hrn : rn < 1100) (hsr : sn ≠ rn) (hra : rn ≠ an) (hb0 : xb ≠ 0) (sz : Nat) : Met l yX12_divide wsRX12_divide ({ frames := 1, cells := 0, slots := 0, locals := 28 }) (va_Pc [.ref h0, .int (nI sn), .int (nI rn), .int (nI an), .int (nI bn)] (fun U => U.heap.size = sz ∧ va_P (dC, dI) vwCl (WR a k h0 vi vj vF vG) U.heap ∧ va_K (dC, dI) vwCl (tX12 k) U ∧ va_D (fun _ => True) (WR a k h0 vi vj vF vG))) (va_Qv (fun (u : (Nat → Int32) × (Nat → Int32) × (Nat → Int32) × (Nat → Int64)) => (Bg (u.1) (fT (fT mg sn ((xa).tdiv xb)) rn ((xa).tmod xb)))) (fun (u : (Nat → Int32) × (Nat → Int32) × (Nat → Int32) × (Nat → Int64)) t => va_P (dC, dI) vwCl (WR a k h0 vi vj (fT (fT (fT vF 2 (u.2.1)) 3 (u.2.2.1)) 0 (u.1)) (fT vG 1 (u.2.2.2))) t.heap ∧ va_D (va_A (WR a k h0 vi vj vF vG) sz) (WR a k h0 vi vj (fT (fT (fT vF 2 (u.2.1)) 3 (u.2.2.1)) 0 (u.1)) (fT vG 1 (u.2.2.2)))) (va_A (WR a k h0 vi vj vF vG) sz)) 0 0 (va_A (WR a k h0 vi vj vF vG) sz) := by
  subst v_xa
  subst v_xb
  exact Met.monoV (r_X12_divide l dC dI a k h0 vi vj vF vG sn rn an bn (mg an) (mg bn) hs hrn hsr hra hna hnb (hBg an hna) (hBg bn hnb) hb0 sz) (fun u h => by (try dsimp only at h ⊢); exact Bg.set2 hBg h.1 h.2.1 hsr h.2.2)
end
section
theorem gcd_step (x y : Int) : Int.gcd y (x.tmod y) = Int.gcd x y := by
  unfold Int.gcd
  rw [Int.natAbs_tmod, Nat.gcd_comm, ← Nat.gcd_rec, Nat.gcd_comm]
theorem tmod_nn {x : Int} (h : 0 ≤ x) (y : Int) : 0 ≤ x.tmod y := Int.tmod_nonneg y h
theorem tmod_abs {x y : Int} (h : y ≠ 0) : (x.tmod y).natAbs < y.natAbs := by
  rw [Int.natAbs_tmod]; exact Nat.mod_lt _ (by omega)
theorem gcd_end {x y : Int} (h : y ≤ 0) (hx : 0 ≤ x) (hy : 0 ≤ y) : x = ((Int.gcd x y : Nat) : Int) := by
  have e : y = 0 := by omega
  rw [e, Int.gcd_zero_right]; omega
theorem gcd_ne {x y : Int} (h : x ≠ 0 ∨ y ≠ 0) : ((Int.gcd x y : Nat) : Int) ≠ 0 := fun e => by
  have e2 : Int.gcd x y = 0 := by omega
  have := Int.gcd_eq_zero_iff.mp e2
  omega
theorem sh_le (x y : Int) : (x.tdiv y).natAbs ≤ x.natAbs := by
  rw [Int.natAbs_tdiv]; exact Nat.div_le_self _ _
theorem tdiv_pos {x g : Int} (hx : 0 < x) (hg : 0 < g) (h : g ≤ x) : 0 < x.tdiv g := by
  rw [Int.tdiv_eq_ediv_of_nonneg (by omega)]
  have := (Int.le_ediv_iff_mul_le hg (a := 1) (b := x)).mpr (by omega)
  omega
theorem gcd_le {x y : Int} (hy : 0 < y) : ((Int.gcd x y : Nat) : Int) ≤ y := Int.le_of_dvd hy (Int.gcd_dvd_right x y)
theorem gcd_pos {x y : Int} (hy : 0 < y) : 0 < ((Int.gcd x y : Nat) : Int) := by
  have := gcd_ne (x := x) (y := y) (Or.inr (by omega)); omega
end
section
theorem hd_yX12_turn_RX12 : yX12_turn.cls = RX12 ∧ yX12_turn.cls ≠ "java/lang/invoke/MethodHandle" ∧ yX12_turn.cls ≠ "java/lang/invoke/VarHandle" ∧ (parseMethodDescriptor yX12_turn.desc).map (fun d => d.parameters.length) = some 1 := by decide +kernel
theorem hd_yX12_divide_RX12 : yX12_divide.cls = RX12 ∧ yX12_divide.cls ≠ "java/lang/invoke/MethodHandle" ∧ yX12_divide.cls ≠ "java/lang/invoke/VarHandle" ∧ (parseMethodDescriptor yX12_divide.desc).map (fun d => d.parameters.length) = some 4 := by decide +kernel
theorem hd_yX12_common_RX12 : yX12_common.cls = RX12 ∧ yX12_common.cls ≠ "java/lang/invoke/MethodHandle" ∧ yX12_common.cls ≠ "java/lang/invoke/VarHandle" ∧ (parseMethodDescriptor yX12_common.desc).map (fun d => d.parameters.length) = some 3 := by decide +kernel
theorem hd_yX12_times_RX12 : yX12_times.cls = RX12 ∧ yX12_times.cls ≠ "java/lang/invoke/MethodHandle" ∧ yX12_times.cls ≠ "java/lang/invoke/VarHandle" ∧ (parseMethodDescriptor yX12_times.desc).map (fun d => d.parameters.length) = some 3 := by decide +kernel
theorem hd_yX12_compare_RX12 : yX12_compare.cls = RX12 ∧ yX12_compare.cls ≠ "java/lang/invoke/MethodHandle" ∧ yX12_compare.cls ≠ "java/lang/invoke/VarHandle" ∧ (parseMethodDescriptor yX12_compare.desc).map (fun d => d.parameters.length) = some 2 := by decide +kernel
theorem dX12_common_0 : decode cX12_common 0 = .ok (.aload_n 0, 1) := dk_42 (by decide +kernel)
theorem dX12_common_1 : decode cX12_common 1 = .ok (.iconst 5, 1) := dk_8 (by decide +kernel)
theorem dX12_common_2 : decode cX12_common 2 = .ok (.iload_n 2, 1) := dk_28 (by decide +kernel)
theorem dX12_common_3 : decode cX12_common 3 = .ok (.invokevirtual 365, 3) := dk_182 (by decide +kernel)
theorem dX12_common_6 : decode cX12_common 6 = .ok (.aload_n 0, 1) := dk_42 (by decide +kernel)
theorem dX12_common_7 : decode cX12_common 7 = .ok (.bipush 6, 2) := dk_16 (by decide +kernel)
theorem dX12_common_9 : decode cX12_common 9 = .ok (.iload_n 3, 1) := dk_29 (by decide +kernel)
theorem dX12_common_10 : decode cX12_common 10 = .ok (.invokevirtual 365, 3) := dk_182 (by decide +kernel)
theorem dX12_common_13 : decode cX12_common 13 = .ok (.aload_n 0, 1) := dk_42 (by decide +kernel)
theorem dX12_common_14 : decode cX12_common 14 = .ok (.iconst 5, 1) := dk_8 (by decide +kernel)
theorem dX12_common_15 : decode cX12_common 15 = .ok (.invokevirtual 353, 3) := dk_182 (by decide +kernel)
theorem dX12_common_18 : decode cX12_common 18 = .ok (.ifCond .ge 8, 3) := dk_156 (by decide +kernel)
theorem dX12_common_21 : decode cX12_common 21 = .ok (.aload_n 0, 1) := dk_42 (by decide +kernel)
theorem dX12_common_22 : decode cX12_common 22 = .ok (.iconst 5, 1) := dk_8 (by decide +kernel)
theorem dX12_common_23 : decode cX12_common 23 = .ok (.invokevirtual 379, 3) := dk_182 (by decide +kernel)
theorem dX12_common_26 : decode cX12_common 26 = .ok (.aload_n 0, 1) := dk_42 (by decide +kernel)
theorem dX12_common_27 : decode cX12_common 27 = .ok (.bipush 6, 2) := dk_16 (by decide +kernel)
theorem dX12_common_29 : decode cX12_common 29 = .ok (.invokevirtual 353, 3) := dk_182 (by decide +kernel)
theorem dX12_common_32 : decode cX12_common 32 = .ok (.ifCond .ge 9, 3) := dk_156 (by decide +kernel)
theorem dX12_common_35 : decode cX12_common 35 = .ok (.aload_n 0, 1) := dk_42 (by decide +kernel)
theorem dX12_common_36 : decode cX12_common 36 = .ok (.bipush 6, 2) := dk_16 (by decide +kernel)
theorem dX12_common_38 : decode cX12_common 38 = .ok (.invokevirtual 379, 3) := dk_182 (by decide +kernel)
theorem dX12_common_41 : decode cX12_common 41 = .ok (.aload_n 0, 1) := dk_42 (by decide +kernel)
theorem dX12_common_42 : decode cX12_common 42 = .ok (.bipush 6, 2) := dk_16 (by decide +kernel)
theorem dX12_common_44 : decode cX12_common 44 = .ok (.invokevirtual 353, 3) := dk_182 (by decide +kernel)
theorem dX12_common_47 : decode cX12_common 47 = .ok (.ifCond .le 32, 3) := dk_158 (by decide +kernel)
theorem dX12_common_50 : decode cX12_common 50 = .ok (.aload_n 0, 1) := dk_42 (by decide +kernel)
theorem dX12_common_51 : decode cX12_common 51 = .ok (.bipush 7, 2) := dk_16 (by decide +kernel)
theorem dX12_common_53 : decode cX12_common 53 = .ok (.bipush 8, 2) := dk_16 (by decide +kernel)
theorem dX12_common_55 : decode cX12_common 55 = .ok (.iconst 5, 1) := dk_8 (by decide +kernel)
theorem dX12_common_56 : decode cX12_common 56 = .ok (.bipush 6, 2) := dk_16 (by decide +kernel)
theorem dX12_common_58 : decode cX12_common 58 = .ok (.invokevirtual 383, 3) := dk_182 (by decide +kernel)
theorem dX12_common_61 : decode cX12_common 61 = .ok (.aload_n 0, 1) := dk_42 (by decide +kernel)
theorem dX12_common_62 : decode cX12_common 62 = .ok (.iconst 5, 1) := dk_8 (by decide +kernel)
theorem dX12_common_63 : decode cX12_common 63 = .ok (.bipush 6, 2) := dk_16 (by decide +kernel)
theorem dX12_common_65 : decode cX12_common 65 = .ok (.invokevirtual 365, 3) := dk_182 (by decide +kernel)
theorem dX12_common_68 : decode cX12_common 68 = .ok (.aload_n 0, 1) := dk_42 (by decide +kernel)
theorem dX12_common_69 : decode cX12_common 69 = .ok (.bipush 6, 2) := dk_16 (by decide +kernel)
theorem dX12_common_71 : decode cX12_common 71 = .ok (.bipush 8, 2) := dk_16 (by decide +kernel)
theorem dX12_common_73 : decode cX12_common 73 = .ok (.invokevirtual 365, 3) := dk_182 (by decide +kernel)
theorem dX12_common_76 : decode cX12_common 76 = .ok (.goto (-35), 3) := dk_167 (by decide +kernel)
theorem dX12_common_79 : decode cX12_common 79 = .ok (.aload_n 0, 1) := dk_42 (by decide +kernel)
theorem dX12_common_80 : decode cX12_common 80 = .ok (.iload_n 1, 1) := dk_27 (by decide +kernel)
theorem dX12_common_81 : decode cX12_common 81 = .ok (.iconst 5, 1) := dk_8 (by decide +kernel)
theorem dX12_common_82 : decode cX12_common 82 = .ok (.invokevirtual 365, 3) := dk_182 (by decide +kernel)
theorem dX12_common_85 : decode cX12_common 85 = .ok (.return_, 1) := dk_177 (by decide +kernel)
def wsRX12_common : List Cond := .code yX12_common cX12_common 4 none :: ([] ++ wsX120 ++ (wsV RX12 365 RX12 yX12_copy wsRX12_copy) ++ (wsV RX12 353 RX12 yX12_sign wsRX12_sign) ++ (wsV RX12 379 RX12 yX12_turn wsRX12_turn) ++ (wsV RX12 383 RX12 yX12_divide wsRX12_divide))
theorem iwsRX12_common_in12 : ∀ w ∈ wsX120, w ∈ wsRX12_common := fun _ h => List.mem_cons_of_mem _ (List.mem_append_left _ (List.mem_append_left _ (List.mem_append_left _ (List.mem_append_left _ (List.mem_append_right _ h)))))
theorem gwsRX12_common_0 : GoodIn wsRX12_common (wsV RX12 365 RX12 yX12_copy wsRX12_copy) := goodIn_sub (fun _ h => List.mem_cons_of_mem _ (List.mem_append_left _ (List.mem_append_left _ (List.mem_append_left _ (List.mem_append_right _ h))))) (gdV (by decide +kernel) gdwsRX12_copy)
theorem gwsRX12_common_1 : GoodIn wsRX12_common (wsV RX12 353 RX12 yX12_sign wsRX12_sign) := goodIn_sub (fun _ h => List.mem_cons_of_mem _ (List.mem_append_left _ (List.mem_append_left _ (List.mem_append_right _ h)))) (gdV (by decide +kernel) gdwsRX12_sign)
theorem gwsRX12_common_2 : GoodIn wsRX12_common (wsV RX12 379 RX12 yX12_turn wsRX12_turn) := goodIn_sub (fun _ h => List.mem_cons_of_mem _ (List.mem_append_left _ (List.mem_append_right _ h))) (gdV (by decide +kernel) gdwsRX12_turn)
theorem gwsRX12_common_3 : GoodIn wsRX12_common (wsV RX12 383 RX12 yX12_divide wsRX12_divide) := goodIn_sub (fun _ h => List.mem_cons_of_mem _ (List.mem_append_right _ h)) (gdV (by decide +kernel) gdwsRX12_divide)
theorem gdwsRX12_common : wsRX12_common.all goodWord = true := gdC rfl (gdA (gdA (gdA (gdA (gdA (by decide +kernel : ([] : List Cond).all goodWord = true) gdwsX120) (gdV (by decide +kernel) gdwsRX12_copy)) (gdV (by decide +kernel) gdwsRX12_sign)) (gdV (by decide +kernel) gdwsRX12_turn)) (gdV (by decide +kernel) gdwsRX12_divide))
set_option maxHeartbeats 4000000 in
set_option maxRecDepth 100000 in
/-- common(s, a, b) -/
theorem r_X12_common (l : Launch) (dC : Nat → ClassId) (dI : Nat → Nat → Nat) (a : Nat → Nat) (k : Nat → ClassId) (h0 : Nat) (vi : Nat → Int32) (vj : Nat → Int64) (vF : Nat → Nat → Int32) (vG : Nat → Nat → Int64) (sn : Nat) (an : Nat) (bn : Nat) (mg : Nat → Int) (hBg : Bg (vF 0) mg) (xa : Int) (xb : Int) (v_xa : mg an = xa) (v_xb : mg bn = xb) (hna : an < 1100) (hnb : bn < 1100) (hs : sn < 1100) (h58s : (sn < 5 ∨ 8 < sn)) (h58a : (an < 5 ∨ 8 < an)) (h58b : (bn < 5 ∨ 8 < bn)) (sz : Nat) : Met l yX12_common wsRX12_common ({ frames := 2, cells := 0, slots := 0, locals := 62 }) (va_Pc [.ref h0, .int (nI sn), .int (nI an), .int (nI bn)] (fun U => U.heap.size = sz ∧ va_P (dC, dI) vwCl (WR a k h0 vi vj vF vG) U.heap ∧ va_K (dC, dI) vwCl (tX12 k) U ∧ va_D (fun _ => True) (WR a k h0 vi vj vF vG))) (va_Qv (fun (u : (Nat → Int32) × (Nat → Int32) × (Nat → Int32) × (Nat → Int64) × (Nat → Int)) => (Bg (u.1) (u.2.2.2.2)) ∧ ((u.2.2.2.2) sn = ((Int.gcd xa xb : Nat) : Int)) ∧ (∀ q, q ≠ sn → (q < 5 ∨ 8 < q) → (u.2.2.2.2) q = mg q)) (fun (u : (Nat → Int32) × (Nat → Int32) × (Nat → Int32) × (Nat → Int64) × (Nat → Int)) t => va_P (dC, dI) vwCl (WR a k h0 vi vj (fT (fT (fT vF 0 (u.1)) 2 (u.2.1)) 3 (u.2.2.1)) (fT vG 1 (u.2.2.2.1))) t.heap ∧ va_D (va_A (WR a k h0 vi vj vF vG) sz) (WR a k h0 vi vj (fT (fT (fT vF 0 (u.1)) 2 (u.2.1)) 3 (u.2.2.1)) (fT vG 1 (u.2.2.2.1)))) (va_A (WR a k h0 vi vj vF vG) sz)) 0 0 (va_A (WR a k h0 vi vj vF vG) sz) := by
  refine Met.ofW (cc := cX12_common) (maxL := 4) (ret := none) (by decide) rfl ?_
  intro p e s m args below meth c s₁ B hml hv
  obtain ⟨rfl, hsz, hP, hK, hD0⟩ := hv
  have hx := B.exec
  have hb := B.bytes
  have hr := B.returns
  have hts := atoms_spec (ws := wsRX12_common) B.pre
  have hown : s.vm.findClass RX12 = some m.cls := findClass_of_methodNamed B.named
  have hlocks := B.notSynchronized
  subst hsz
  have hD := hD0.self (sz := s.heap.size)
  generalize hAe : va_A (WR a k h0 vi vj vF vG) s.heap.size = A at hD ⊢
  have hA : ∀ q : Nat, s.heap.size ≤ q → A q := fun q h => by rw [← hAe]; exact Or.inr h
  have hS : va_S A s.heap s.heap [] := va_S.rf
  have hl := lv_entry ([.ref h0, .int (nI sn), .int (nI an), .int (nI bn)]) (n := 4) (Nat.le_of_ble_eq_true rfl)
  rw [lg_entry_eq]
  generalize (lg_sl ([.ref h0, .int (nI sn), .int (nI an), .int (nI bn)]) ++ List.replicate (4 - (lg_sl ([.ref h0, .int (nI sn), .int (nI an), .int (nI bn)])).length) Slot.unset).toArray = ls at hl ⊢
  have hl : lv_has ls 4 [(0, .ref h0), (1, .int (nI sn)), (2, .int (nI an)), (3, .int (nI bn))] := hl
  refine lv_aload_n hx hb dX12_common_0 rfl (lv_at hl 0 rfl) ?_
  refine lv_iconst (v := 5) hx hb dX12_common_1 (by decide) ?_
  refine lv_iload_n hx hb dX12_common_2 rfl (lv_at hl 2 rfl) ?_
  have hFc := allFree hD hS hA
  refine va_callv (va_runV (As := [.int 5, .int (nI an)]) (rest := []) ⟨hx, hb, hml, hown, hts⟩ (b_X12_copy l dC dI a k h0 vi vj vF vG 5 an mg hBg xa (by rw [v_xa]) (by first | with_reducible assumption | decide | omega | rfl | assumption) (by first | with_reducible assumption | decide | omega | rfl | assumption) (by first | with_reducible assumption | decide | omega | rfl | assumption) s.heap.size) (cwV 2 hts gwsRX12_common_0 rfl rfl rfl hd_yX12_copy_RX12 (by decide +kernel)) (fz_pre (va_recv hK hP (ci := 12) (q0 := 0) rfl rfl) hP hK hD) rfl rfl hl.1 rfl (lv_room (Nat.le_of_ble_eq_true rfl)) dX12_common_3 (by decide +kernel)) hS (fun q _ h => hFc q h) hFc (fun g3 t9_ H locs ht hvm hw9 hB9 hz1 hk1 hS => ?_)
  have hP : va_P (dC, dI) vwCl (WR a k h0 vi vj (fT vF 0 g3) vG) H := fz_P ht hB9.1
  have hD := fz_sd hP (hB9.2.weaken (fun _ q _ h => hFc q.1 h)) rfl
  have f3_0 := hw9
  try dsimp only at f3_0
  refine lv_aload_n hx hb dX12_common_6 rfl (lv_at hl 0 rfl) ?_
  refine lv_bipush (v := 6) hx hb dX12_common_7 (by decide) ?_
  refine lv_iload_n hx hb dX12_common_9 rfl (lv_at hl 3 rfl) ?_
  have hFc := allFree hD hS hA
  refine va_callv (va_runV (As := [.int 6, .int (nI bn)]) (rest := []) ⟨hx, hb, hml, hown, hts⟩ (b_X12_copy l dC dI a k h0 vi vj (fT vF 0 g3) vG 6 bn (fT mg 5 xa) f3_0 xb (by rw [fT_ne _ _ (by omega), v_xb]) (by first | with_reducible assumption | decide | omega | rfl | assumption) (by first | with_reducible assumption | decide | omega | rfl | assumption) (by first | with_reducible assumption | decide | omega | rfl | assumption) H.size) (cwV 2 hts gwsRX12_common_0 rfl rfl rfl hd_yX12_copy_RX12 (by decide +kernel)) (fz_pre (va_recv hK hP (ci := 12) (q0 := 0) rfl rfl) hP hK hD) rfl rfl hl.1 rfl (lv_room (Nat.le_of_ble_eq_true rfl)) dX12_common_10 (by decide +kernel)) hS (fun q _ h => hFc q h) hFc (fun g10 t9_ H locs ht hvm hw9 hB9 hz1 hk1 hS => ?_)
  have e9F : fT vF 0 g10 = fT (fT vF 0 g3) 0 g10 := (fT_sm _ _ _ _).symm
  have hP := wr_PF e9F (fz_P ht hB9.1)
  have hD := wr_DF e9F (hB9.2.weaken (fun _ q _ h => hFc q.1 h))
  clear e9F
  have f10_0 := hw9
  try dsimp only at f10_0
  refine lv_aload_n hx hb dX12_common_13 rfl (lv_at hl 0 rfl) ?_
  refine lv_iconst (v := 5) hx hb dX12_common_14 (by decide) ?_
  have hFc := allFree hD hS hA
  refine va_calli (va_runV (As := [.int 5]) (rest := []) ⟨hx, hb, hml, hown, hts⟩ (b_X12_sign l dC dI a k h0 vi vj (fT vF 0 g10) vG 5 (fT (fT mg 5 xa) 6 xb) f10_0 xa (by rw [fT_ne _ _ (by omega), fT_eq]) (by first | with_reducible assumption | decide | omega | rfl | assumption) H.size) (cwV 1 hts gwsRX12_common_1 rfl rfl rfl hd_yX12_sign_RX12 (by decide +kernel)) (fz_pre (va_recv hK hP (ci := 12) (q0 := 0) rfl rfl) hP hK hD) rfl rfl hl.1 rfl (lv_room (Nat.le_of_ble_eq_true rfl)) dX12_common_15 (by decide +kernel)) hS (fun q _ h => hFc q h) hFc (fun r15 u t9_ H locs ht hvm hw9 hB9 hz1 hk1 hS => ?_)
  have hP : va_P (dC, dI) vwCl (WR a k h0 vi vj (fT vF 0 g10) vG) H := fz_P ht hB9.1
  have hD := fz_sd hP (hB9.2.weaken (fun _ q _ h => hFc q.1 h)) rfl
  have f15_0 := hw9
  try dsimp only at f15_0
  refine W.cut (pc := 26) (fun H locs ls stk => ∃ (ga : Nat → Int32) (ma : Nat → Int) (y5 : Int) (y6 : Int), (Bg ga ma) ∧ (ma 5 = y5) ∧ (ma 6 = y6) ∧ (y5 = xa.natAbs) ∧ (y6 = xb) ∧ (∀ q, (q < 5 ∨ 8 < q) → ma q = mg q) ∧  stk = [] ∧ va_P (dC, dI) vwCl (WR a k h0 vi vj (fT vF 0 ga) vG) H ∧ va_D A (WR a k h0 vi vj (fT vF 0 ga) vG) ∧ va_S A s.heap H locs ∧ lv_has ls 4 [(0, .ref h0), (1, .int (nI sn))]) (fun join1 => ?_) ?_
  · refine lv_if_ge (tgt := 26) hx hb dX12_common_18 (by decide) (fun c_18 => ?_) (fun c_18 => ?_)
    · have t_18 : (r15).toInt ≥ 0 := toI_ge c_18 rfl (by decide)
      have hl : lv_has _ _ ([(0, .ref h0), (1, .int (nI sn))]) := lv_sub hl [0, 1] rfl
      exact join1 _ _ _ _ ⟨g10, (fT (fT mg 5 xa) 6 xb), xa, xb, f10_0, (by rw [fT_ne _ _ (by omega), fT_eq]), (by rw [fT_eq]), by omega, by omega, fun q hq => by (rw [fT_ne _ _ (by omega), fT_ne _ _ (by omega)]), rfl, hP, hD, hS, hl⟩
    · have t_18 : ¬ (r15).toInt ≥ 0 := toI_nge c_18 rfl (by decide)
      refine lv_aload_n hx hb dX12_common_21 rfl (lv_at hl 0 rfl) ?_
      refine lv_iconst (v := 5) hx hb dX12_common_22 (by decide) ?_
      have hFc := allFree hD hS hA
      refine va_callv (va_runV (As := [.int 5]) (rest := []) ⟨hx, hb, hml, hown, hts⟩ (b_X12_turn l dC dI a k h0 vi vj (fT vF 0 g10) vG 5 (fT (fT mg 5 xa) 6 xb) f10_0 xa (by rw [fT_ne _ _ (by omega), fT_eq]) (by first | with_reducible assumption | decide | omega | rfl | assumption) H.size) (cwV 1 hts gwsRX12_common_2 rfl rfl rfl hd_yX12_turn_RX12 (by decide +kernel)) (fz_pre (va_recv hK hP (ci := 12) (q0 := 0) rfl rfl) hP hK hD) rfl rfl hl.1 rfl (lv_room (Nat.le_of_ble_eq_true rfl)) dX12_common_23 (by decide +kernel)) hS (fun q _ h => hFc q h) hFc (fun u t9_ H locs ht hvm hw9 hB9 hz1 hk1 hS => ?_)
      have e9F : fT vF 0 (upd g10 (nI (24 * 5)).toNatClampNeg (-(g10 (24 * 5)))) = fT (fT vF 0 g10) 0 (upd g10 (nI (24 * 5)).toNatClampNeg (-(g10 (24 * 5)))) := (fT_sm _ _ _ _).symm
      have hP := wr_PF e9F (fz_P ht hB9.1)
      have hD := wr_DF e9F (hB9.2.weaken (fun _ q _ h => hFc q.1 h))
      clear e9F
      have f23_0 := hw9
      try dsimp only at f23_0
      have f23_0 : Bg (upd g10 (nI (24 * 5)).toNatClampNeg (-(g10 (24 * 5)))) (fT (fT (fT mg 5 xa) 6 xb) 5 (-xa)) := f23_0
      have hl : lv_has _ _ ([(0, .ref h0), (1, .int (nI sn))]) := lv_sub hl [0, 1] rfl
      exact join1 _ _ _ _ ⟨(upd g10 (nI (24 * 5)).toNatClampNeg (-(g10 (24 * 5)))), (fT (fT (fT mg 5 xa) 6 xb) 5 (-xa)), (-xa), xb, f23_0, (by rw [fT_eq]), (by rw [fT_ne _ _ (by omega), fT_eq]), by omega, by omega, fun q hq => by (rw [fT_ne _ _ (by omega), fT_ne _ _ (by omega), fT_ne _ _ (by omega)]), rfl, hP, hD, hS, hl⟩
  · rintro H locs ls stk ⟨ga, ma, y5, y6, hBa, v_y5, v_y6, hy5, hy6, hoa, rfl, hP, hD, hS, hl⟩
    refine lv_aload_n hx hb dX12_common_26 rfl (lv_at hl 0 rfl) ?_
    refine lv_bipush (v := 6) hx hb dX12_common_27 (by decide) ?_
    have hFc := allFree hD hS hA
    refine va_calli (va_runV (As := [.int 6]) (rest := []) ⟨hx, hb, hml, hown, hts⟩ (b_X12_sign l dC dI a k h0 vi vj (fT vF 0 ga) vG 6 ma hBa y6 (by rw [v_y6]) (by first | with_reducible assumption | decide | omega | rfl | assumption) H.size) (cwV 1 hts gwsRX12_common_1 rfl rfl rfl hd_yX12_sign_RX12 (by decide +kernel)) (fz_pre (va_recv hK hP (ci := 12) (q0 := 0) rfl rfl) hP hK hD) rfl rfl hl.1 rfl (lv_room (Nat.le_of_ble_eq_true rfl)) dX12_common_29 (by decide +kernel)) hS (fun q _ h => hFc q h) hFc (fun r29 u t9_ H locs ht hvm hw9 hB9 hz1 hk1 hS => ?_)
    have hP : va_P (dC, dI) vwCl (WR a k h0 vi vj (fT vF 0 ga) vG) H := fz_P ht hB9.1
    have hD := fz_sd hP (hB9.2.weaken (fun _ q _ h => hFc q.1 h)) rfl
    have f29_0 := hw9
    try dsimp only at f29_0
    refine W.cut (pc := 41) (fun H locs ls stk => ∃ (gb : Nat → Int32) (mb : Nat → Int) (z5 : Int) (z6 : Int), (Bg gb mb) ∧ (mb 5 = z5) ∧ (mb 6 = z6) ∧ (z5 = xa.natAbs) ∧ (z6 = xb.natAbs) ∧ (∀ q, (q < 5 ∨ 8 < q) → mb q = mg q) ∧  stk = [] ∧ va_P (dC, dI) vwCl (WR a k h0 vi vj (fT vF 0 gb) vG) H ∧ va_D A (WR a k h0 vi vj (fT vF 0 gb) vG) ∧ va_S A s.heap H locs ∧ lv_has ls 4 [(0, .ref h0), (1, .int (nI sn))]) (fun join2 => ?_) ?_
    · refine lv_if_ge (tgt := 41) hx hb dX12_common_32 (by decide) (fun c_32 => ?_) (fun c_32 => ?_)
      · have t_32 : (r29).toInt ≥ 0 := toI_ge c_32 rfl (by decide)
        have hl : lv_has _ _ ([(0, .ref h0), (1, .int (nI sn))]) := lv_sub hl [0, 1] rfl
        exact join2 _ _ _ _ ⟨ga, ma, y5, y6, hBa, (by rw [v_y5]), (by rw [v_y6]), by omega, by omega, hoa, rfl, hP, hD, hS, hl⟩
      · have t_32 : ¬ (r29).toInt ≥ 0 := toI_nge c_32 rfl (by decide)
        refine lv_aload_n hx hb dX12_common_35 rfl (lv_at hl 0 rfl) ?_
        refine lv_bipush (v := 6) hx hb dX12_common_36 (by decide) ?_
        have hFc := allFree hD hS hA
        refine va_callv (va_runV (As := [.int 6]) (rest := []) ⟨hx, hb, hml, hown, hts⟩ (b_X12_turn l dC dI a k h0 vi vj (fT vF 0 ga) vG 6 ma hBa y6 (by rw [v_y6]) (by first | with_reducible assumption | decide | omega | rfl | assumption) H.size) (cwV 1 hts gwsRX12_common_2 rfl rfl rfl hd_yX12_turn_RX12 (by decide +kernel)) (fz_pre (va_recv hK hP (ci := 12) (q0 := 0) rfl rfl) hP hK hD) rfl rfl hl.1 rfl (lv_room (Nat.le_of_ble_eq_true rfl)) dX12_common_38 (by decide +kernel)) hS (fun q _ h => hFc q h) hFc (fun u t9_ H locs ht hvm hw9 hB9 hz1 hk1 hS => ?_)
        have e9F : fT vF 0 (upd ga (nI (24 * 6)).toNatClampNeg (-(ga (24 * 6)))) = fT (fT vF 0 ga) 0 (upd ga (nI (24 * 6)).toNatClampNeg (-(ga (24 * 6)))) := (fT_sm _ _ _ _).symm
        have hP := wr_PF e9F (fz_P ht hB9.1)
        have hD := wr_DF e9F (hB9.2.weaken (fun _ q _ h => hFc q.1 h))
        clear e9F
        have f38_0 := hw9
        try dsimp only at f38_0
        have f38_0 : Bg (upd ga (nI (24 * 6)).toNatClampNeg (-(ga (24 * 6)))) (fT ma 6 (-y6)) := f38_0
        have hl : lv_has _ _ ([(0, .ref h0), (1, .int (nI sn))]) := lv_sub hl [0, 1] rfl
        exact join2 _ _ _ _ ⟨(upd ga (nI (24 * 6)).toNatClampNeg (-(ga (24 * 6)))), (fT ma 6 (-y6)), y5, (-y6), f38_0, (by rw [fT_ne _ _ (by omega), v_y5]), (by rw [fT_eq]), by omega, by omega, fun q hq => by (rw [fT_ne _ _ (by omega)]); exact hoa q hq, rfl, hP, hD, hS, hl⟩
    · rintro H locs ls stk ⟨gb, mb, z5, z6, hBb, v_z5, v_z6, hz5, hz6, hob, rfl, hP, hD, hS, hl⟩
      have e9 : fT (fT (fT vF 0 gb) 2 (vF 2)) 3 (vF 3) = fT vF 0 gb := Eq.trans (mv_1 rfl) (Eq.trans (id_2 rfl) (id_1 rfl))
      have hP := wr_PF e9 hP
      have hD := wr_DF e9 hD
      clear e9
      have e9 : fT vG 1 (vG 1) = vG := by funext q9; by_cases h9_1 : q9 = 1; (subst h9_1; exact (fT_eq _ _ _).trans (Eq.trans (by first | with_reducible rfl | with_reducible assumption | (symm; with_reducible assumption) | rfl | assumption | (symm; assumption) | (subst_vars; rfl)) (Eq.refl _).symm)); exact (fT_ne _ _ h9_1).trans (Eq.refl _).symm
      have hP := wr_PG e9 hP
      have hD := wr_DG e9 hD
      clear e9
      have hl : lv_has _ _ ([(0, .ref h0), (1, .int (nI sn))]) := lv_sub hl [0, 1] rfl
      refine (fun (loop : ∀ (n9 : Nat) (g : Nat → Int32) (f2 : Nat → Int32) (f3 : Nat → Int32) (gs1 : Nat → Int64) (m1 : Nat → Int) (x5 : Int) (x6 : Int) (H : Heap) (locs : List Loc) (ls : Array Slot), (Bg g m1) → (m1 5 = x5) → (m1 6 = x6) → (Int.gcd x5 x6 = Int.gcd xa xb) → (0 ≤ x5) → (0 ≤ x6) → (∀ q, (q < 5 ∨ 8 < q) → m1 q = mg q) →  (x6.natAbs < n9) → va_P (dC, dI) vwCl (WR a k h0 vi vj (fT (fT (fT vF 0 g) 2 f2) 3 f3) (fT vG 1 gs1)) H → va_D A (WR a k h0 vi vj (fT (fT (fT vF 0 g) 2 f2) 3 f3) (fT vG 1 gs1)) → va_S A s.heap H locs → lv_has ls 4 [(0, .ref h0), (1, .int (nI sn))] → W p l e _ s m _ below meth c H locs 0 0 _ (F0 m 41 ls [])) => loop ((z6).natAbs + 1) gb (vF 2) (vF 3) (vG 1) mb z5 z6 _ _ _ (hBb) ((by rw [v_z5])) ((by rw [v_z6])) (by rw [hz5, hz6]; rfl) (by omega) (by omega) (hob) (by omega) hP hD hS hl) ?_
      intro n9
      induction n9 with
      | zero => intro g f2 f3 gs1 m1 x5 x6 H locs ls hB1 v_x5 v_x6 hgc hp5 hp6 ho hf9; exact False.elim (by omega)
      | succ n9 ih41 =>
        intro g f2 f3 gs1 m1 x5 x6 H locs ls hB1 v_x5 v_x6 hgc hp5 hp6 ho hf41 hP hD hS hl
        refine lv_aload_n hx hb dX12_common_41 rfl (lv_at hl 0 rfl) ?_
        refine lv_bipush (v := 6) hx hb dX12_common_42 (by decide) ?_
        have hFc := allFree hD hS hA
        refine va_calli (va_runV (As := [.int 6]) (rest := []) ⟨hx, hb, hml, hown, hts⟩ (b_X12_sign l dC dI a k h0 vi vj (fT (fT (fT vF 0 g) 2 f2) 3 f3) (fT vG 1 gs1) 6 m1 hB1 x6 (by rw [v_x6]) (by first | with_reducible assumption | decide | omega | rfl | assumption) H.size) (cwV 1 hts gwsRX12_common_1 rfl rfl rfl hd_yX12_sign_RX12 (by decide +kernel)) (fz_pre (va_recv hK hP (ci := 12) (q0 := 0) rfl rfl) hP hK hD) rfl rfl hl.1 rfl (lv_room (Nat.le_of_ble_eq_true rfl)) dX12_common_44 (by decide +kernel)) hS (fun q _ h => hFc q h) hFc (fun r44 u t9_ H locs ht hvm hw9 hB9 hz1 hk1 hS => ?_)
        have hP : va_P (dC, dI) vwCl (WR a k h0 vi vj (fT (fT (fT vF 0 g) 2 f2) 3 f3) (fT vG 1 gs1)) H := fz_P ht hB9.1
        have hD := fz_sd hP (hB9.2.weaken (fun _ q _ h => hFc q.1 h)) rfl
        have f44_0 := hw9
        try dsimp only at f44_0
        refine lv_if_le (tgt := 79) hx hb dX12_common_47 (by decide) (fun c_47 => ?_) (fun c_47 => ?_)
        · have t_47 : (r44).toInt ≤ 0 := toI_le c_47 rfl (by decide)
          refine lv_aload_n hx hb dX12_common_79 rfl (lv_at hl 0 rfl) ?_
          refine lv_iload_n hx hb dX12_common_80 rfl (lv_at hl 1 rfl) ?_
          refine lv_iconst (v := 5) hx hb dX12_common_81 (by decide) ?_
          have hFc := allFree hD hS hA
          refine va_callv (va_runV (As := [.int (nI sn), .int 5]) (rest := []) ⟨hx, hb, hml, hown, hts⟩ (b_X12_copy l dC dI a k h0 vi vj (fT (fT (fT vF 0 g) 2 f2) 3 f3) (fT vG 1 gs1) sn 5 m1 hB1 x5 (by rw [v_x5]) (by first | with_reducible assumption | decide | omega | rfl | assumption) (by first | with_reducible assumption | decide | omega | rfl | assumption) (by first | with_reducible assumption | decide | omega | rfl | assumption) H.size) (cwV 2 hts gwsRX12_common_0 rfl rfl rfl hd_yX12_copy_RX12 (by decide +kernel)) (fz_pre (va_recv hK hP (ci := 12) (q0 := 0) rfl rfl) hP hK hD) rfl rfl hl.1 rfl (lv_room (Nat.le_of_ble_eq_true rfl)) dX12_common_82 (by decide +kernel)) hS (fun q _ h => hFc q h) hFc (fun g82 t9_ H locs ht hvm hw9 hB9 hz1 hk1 hS => ?_)
          have e9F : fT (fT (fT vF 0 g82) 2 f2) 3 f3 = fT (fT (fT (fT vF 0 g) 2 f2) 3 f3) 0 g82 := ((fT_sw _ _ _ (Nat.ne_of_beq_eq_false rfl)).trans (congrArg (fun g9 => fT g9 3 f3) ((fT_sw _ _ _ (Nat.ne_of_beq_eq_false rfl)).trans (congrArg (fun g9 => fT g9 2 f2) (fT_sm _ _ _ _))))).symm
          have hP := wr_PF e9F (fz_P ht hB9.1)
          have hD := wr_DF e9F (hB9.2.weaken (fun _ q _ h => hFc q.1 h))
          clear e9F
          have f82_0 := hw9
          try dsimp only at f82_0
          refine W.widen (k := 0) (n := 0) (by decide +kernel) (by decide +kernel) ?_
          exact W.vret hx hb hr (fun t9_ ht hW => ⟨⟨(g82, f2, f3, gs1, (fT m1 sn x5)), rfl, by (try dsimp only); exact ⟨f82_0, by rw [fT_eq, ← hgc]; exact gcd_end (by omega) hp5 (by omega), fun q h1 h2 => by rw [fT_ne _ _ h1]; exact ho q h2⟩, by rw [ht]; exact hP, hD⟩, hS.F ht⟩) hS.2.2 dX12_common_85
        · have t_47 : ¬ (r44).toInt ≤ 0 := toI_nle c_47 rfl (by decide)
          refine lv_aload_n hx hb dX12_common_50 rfl (lv_at hl 0 rfl) ?_
          refine lv_bipush (v := 7) hx hb dX12_common_51 (by decide) ?_
          refine lv_bipush (v := 8) hx hb dX12_common_53 (by decide) ?_
          refine lv_iconst (v := 5) hx hb dX12_common_55 (by decide) ?_
          refine lv_bipush (v := 6) hx hb dX12_common_56 (by decide) ?_
          have hFc := allFree hD hS hA
          refine va_callv (va_runV (As := [.int 7, .int 8, .int 5, .int 6]) (rest := []) ⟨hx, hb, hml, hown, hts⟩ (b_X12_divide l dC dI a k h0 vi vj (fT (fT (fT vF 0 g) 2 f2) 3 f3) (fT vG 1 gs1) 7 8 5 6 m1 hB1 x5 x6 (by rw [v_x5]) (by rw [v_x6]) (by first | with_reducible assumption | decide | omega | rfl | assumption) (by first | with_reducible assumption | decide | omega | rfl | assumption) (by first | with_reducible assumption | decide | omega | rfl | assumption) (by first | with_reducible assumption | decide | omega | rfl | assumption) (by first | with_reducible assumption | decide | omega | rfl | assumption) (by first | with_reducible assumption | decide | omega | rfl | assumption) (by first | with_reducible assumption | decide | omega | rfl | assumption) H.size) (cwV 4 hts gwsRX12_common_3 rfl rfl rfl hd_yX12_divide_RX12 (by decide +kernel)) (fz_pre (va_recv hK hP (ci := 12) (q0 := 0) rfl rfl) hP hK hD) rfl rfl hl.1 rfl (lv_room (Nat.le_of_ble_eq_true rfl)) dX12_common_58 (by decide +kernel)) hS (fun q _ h => hFc q h) hFc (fun u t9_ H locs ht hvm hw9 hB9 hz1 hk1 hS => ?_)
          revert u hw9 hB9
          refine fz_p4 ?_
          intro g58 f2w58 f3w58 gs58 hw9 hB9
          try dsimp only at hw9 hB9
          have e9F : fT (fT (fT vF 0 g58) 2 f2w58) 3 f3w58 = fT (fT (fT (fT (fT (fT vF 0 g) 2 f2) 3 f3) 2 f2w58) 3 f3w58) 0 g58 := ((congrArg (fun g9 => fT (fT g9 3 f3w58) 0 g58) ((fT_sw _ _ _ (Nat.ne_of_beq_eq_false rfl)).trans (congrArg (fun g9 => fT g9 3 f3) (fT_sm _ _ _ _)))).trans ((congrArg (fun g9 => fT g9 0 g58) (fT_sm _ _ _ _)).trans ((fT_sw _ _ _ (Nat.ne_of_beq_eq_false rfl)).trans (congrArg (fun g9 => fT g9 3 f3w58) ((fT_sw _ _ _ (Nat.ne_of_beq_eq_false rfl)).trans (congrArg (fun g9 => fT g9 2 f2w58) (fT_sm _ _ _ _))))))).symm
          have e9G : fT vG 1 gs58 = fT (fT vG 1 gs1) 1 gs58 := (fT_sm _ _ _ _).symm
          have hP := wr_PG e9G (wr_PF e9F (fz_P ht hB9.1))
          have hD := wr_DG e9G (wr_DF e9F (hB9.2.weaken (fun _ q _ h => hFc q.1 h)))
          clear e9F e9G
          have f58_0 := hw9
          try dsimp only at f58_0
          refine lv_aload_n hx hb dX12_common_61 rfl (lv_at hl 0 rfl) ?_
          refine lv_iconst (v := 5) hx hb dX12_common_62 (by decide) ?_
          refine lv_bipush (v := 6) hx hb dX12_common_63 (by decide) ?_
          have hFc := allFree hD hS hA
          refine va_callv (va_runV (As := [.int 5, .int 6]) (rest := []) ⟨hx, hb, hml, hown, hts⟩ (b_X12_copy l dC dI a k h0 vi vj (fT (fT (fT vF 0 g58) 2 f2w58) 3 f3w58) (fT vG 1 gs58) 5 6 (fT (fT m1 7 ((x5).tdiv x6)) 8 ((x5).tmod x6)) f58_0 x6 (by rw [fT_ne _ _ (by omega), fT_ne _ _ (by omega), v_x6]) (by first | with_reducible assumption | decide | omega | rfl | assumption) (by first | with_reducible assumption | decide | omega | rfl | assumption) (by first | with_reducible assumption | decide | omega | rfl | assumption) H.size) (cwV 2 hts gwsRX12_common_0 rfl rfl rfl hd_yX12_copy_RX12 (by decide +kernel)) (fz_pre (va_recv hK hP (ci := 12) (q0 := 0) rfl rfl) hP hK hD) rfl rfl hl.1 rfl (lv_room (Nat.le_of_ble_eq_true rfl)) dX12_common_65 (by decide +kernel)) hS (fun q _ h => hFc q h) hFc (fun g65 t9_ H locs ht hvm hw9 hB9 hz1 hk1 hS => ?_)
          have e9F : fT (fT (fT vF 0 g65) 2 f2w58) 3 f3w58 = fT (fT (fT (fT vF 0 g58) 2 f2w58) 3 f3w58) 0 g65 := ((fT_sw _ _ _ (Nat.ne_of_beq_eq_false rfl)).trans (congrArg (fun g9 => fT g9 3 f3w58) ((fT_sw _ _ _ (Nat.ne_of_beq_eq_false rfl)).trans (congrArg (fun g9 => fT g9 2 f2w58) (fT_sm _ _ _ _))))).symm
          have hP := wr_PF e9F (fz_P ht hB9.1)
          have hD := wr_DF e9F (hB9.2.weaken (fun _ q _ h => hFc q.1 h))
          clear e9F
          have f65_0 := hw9
          try dsimp only at f65_0
          refine lv_aload_n hx hb dX12_common_68 rfl (lv_at hl 0 rfl) ?_
          refine lv_bipush (v := 6) hx hb dX12_common_69 (by decide) ?_
          refine lv_bipush (v := 8) hx hb dX12_common_71 (by decide) ?_
          have hFc := allFree hD hS hA
          refine va_callv (va_runV (As := [.int 6, .int 8]) (rest := []) ⟨hx, hb, hml, hown, hts⟩ (b_X12_copy l dC dI a k h0 vi vj (fT (fT (fT vF 0 g65) 2 f2w58) 3 f3w58) (fT vG 1 gs58) 6 8 (fT (fT (fT m1 7 ((x5).tdiv x6)) 8 ((x5).tmod x6)) 5 x6) f65_0 ((x5).tmod x6) (by rw [fT_ne _ _ (by omega), fT_eq]) (by first | with_reducible assumption | decide | omega | rfl | assumption) (by first | with_reducible assumption | decide | omega | rfl | assumption) (by first | with_reducible assumption | decide | omega | rfl | assumption) H.size) (cwV 2 hts gwsRX12_common_0 rfl rfl rfl hd_yX12_copy_RX12 (by decide +kernel)) (fz_pre (va_recv hK hP (ci := 12) (q0 := 0) rfl rfl) hP hK hD) rfl rfl hl.1 rfl (lv_room (Nat.le_of_ble_eq_true rfl)) dX12_common_73 (by decide +kernel)) hS (fun q _ h => hFc q h) hFc (fun g73 t9_ H locs ht hvm hw9 hB9 hz1 hk1 hS => ?_)
          have e9F : fT (fT (fT vF 0 g73) 2 f2w58) 3 f3w58 = fT (fT (fT (fT vF 0 g65) 2 f2w58) 3 f3w58) 0 g73 := ((fT_sw _ _ _ (Nat.ne_of_beq_eq_false rfl)).trans (congrArg (fun g9 => fT g9 3 f3w58) ((fT_sw _ _ _ (Nat.ne_of_beq_eq_false rfl)).trans (congrArg (fun g9 => fT g9 2 f2w58) (fT_sm _ _ _ _))))).symm
          have hP := wr_PF e9F (fz_P ht hB9.1)
          have hD := wr_DF e9F (hB9.2.weaken (fun _ q _ h => hFc q.1 h))
          clear e9F
          have f73_0 := hw9
          try dsimp only at f73_0
          refine lv_goto (tgt := 41) hx hb dX12_common_76 (by decide) ?_
          have hl : lv_has _ _ ([(0, .ref h0), (1, .int (nI sn))]) := lv_sub hl [0, 1] rfl
          exact ih41 g73 f2w58 f3w58 gs58 (fT (fT (fT (fT m1 7 ((x5).tdiv x6)) 8 ((x5).tmod x6)) 5 x6) 6 ((x5).tmod x6)) x6 ((x5).tmod x6) _ _ _ (f73_0) ((by rw [fT_ne _ _ (by omega), fT_eq])) ((by rw [fT_eq])) ((gcd_step x5 x6).trans hgc) (by omega) (tmod_nn hp5 x6) (fun q hq => by (rw [fT_ne _ _ (by omega), fT_ne _ _ (by omega), fT_ne _ _ (by omega), fT_ne _ _ (by omega)]); exact ho q hq) (by have h9 := tmod_abs (x := x5) (y := x6) (by omega); omega) hP hD hS hl
theorem dX12_shorten_0 : decode cX12_shorten 0 = .ok (.aload_n 0, 1) := dk_42 (by decide +kernel)
theorem dX12_shorten_1 : decode cX12_shorten 1 = .ok (.iload_n 2, 1) := dk_28 (by decide +kernel)
theorem dX12_shorten_2 : decode cX12_shorten 2 = .ok (.invokevirtual 353, 3) := dk_182 (by decide +kernel)
theorem dX12_shorten_5 : decode cX12_shorten 5 = .ok (.ifCond .ge 13, 3) := dk_156 (by decide +kernel)
theorem dX12_shorten_8 : decode cX12_shorten 8 = .ok (.aload_n 0, 1) := dk_42 (by decide +kernel)
theorem dX12_shorten_9 : decode cX12_shorten 9 = .ok (.iload_n 1, 1) := dk_27 (by decide +kernel)
theorem dX12_shorten_10 : decode cX12_shorten 10 = .ok (.invokevirtual 379, 3) := dk_182 (by decide +kernel)
theorem dX12_shorten_13 : decode cX12_shorten 13 = .ok (.aload_n 0, 1) := dk_42 (by decide +kernel)
theorem dX12_shorten_14 : decode cX12_shorten 14 = .ok (.iload_n 2, 1) := dk_28 (by decide +kernel)
theorem dX12_shorten_15 : decode cX12_shorten 15 = .ok (.invokevirtual 379, 3) := dk_182 (by decide +kernel)
theorem dX12_shorten_18 : decode cX12_shorten 18 = .ok (.aload_n 0, 1) := dk_42 (by decide +kernel)
theorem dX12_shorten_19 : decode cX12_shorten 19 = .ok (.bipush 9, 2) := dk_16 (by decide +kernel)
theorem dX12_shorten_21 : decode cX12_shorten 21 = .ok (.iload_n 1, 1) := dk_27 (by decide +kernel)
theorem dX12_shorten_22 : decode cX12_shorten 22 = .ok (.iload_n 2, 1) := dk_28 (by decide +kernel)
theorem dX12_shorten_23 : decode cX12_shorten 23 = .ok (.invokevirtual 387, 3) := dk_182 (by decide +kernel)
theorem dX12_shorten_26 : decode cX12_shorten 26 = .ok (.aload_n 0, 1) := dk_42 (by decide +kernel)
theorem dX12_shorten_27 : decode cX12_shorten 27 = .ok (.bipush 7, 2) := dk_16 (by decide +kernel)
theorem dX12_shorten_29 : decode cX12_shorten 29 = .ok (.bipush 8, 2) := dk_16 (by decide +kernel)
theorem dX12_shorten_31 : decode cX12_shorten 31 = .ok (.iload_n 1, 1) := dk_27 (by decide +kernel)
theorem dX12_shorten_32 : decode cX12_shorten 32 = .ok (.bipush 9, 2) := dk_16 (by decide +kernel)
theorem dX12_shorten_34 : decode cX12_shorten 34 = .ok (.invokevirtual 383, 3) := dk_182 (by decide +kernel)
theorem dX12_shorten_37 : decode cX12_shorten 37 = .ok (.aload_n 0, 1) := dk_42 (by decide +kernel)
theorem dX12_shorten_38 : decode cX12_shorten 38 = .ok (.iload_n 1, 1) := dk_27 (by decide +kernel)
theorem dX12_shorten_39 : decode cX12_shorten 39 = .ok (.bipush 7, 2) := dk_16 (by decide +kernel)
theorem dX12_shorten_41 : decode cX12_shorten 41 = .ok (.invokevirtual 365, 3) := dk_182 (by decide +kernel)
theorem dX12_shorten_44 : decode cX12_shorten 44 = .ok (.aload_n 0, 1) := dk_42 (by decide +kernel)
theorem dX12_shorten_45 : decode cX12_shorten 45 = .ok (.bipush 7, 2) := dk_16 (by decide +kernel)
theorem dX12_shorten_47 : decode cX12_shorten 47 = .ok (.bipush 8, 2) := dk_16 (by decide +kernel)
theorem dX12_shorten_49 : decode cX12_shorten 49 = .ok (.iload_n 2, 1) := dk_28 (by decide +kernel)
theorem dX12_shorten_50 : decode cX12_shorten 50 = .ok (.bipush 9, 2) := dk_16 (by decide +kernel)
theorem dX12_shorten_52 : decode cX12_shorten 52 = .ok (.invokevirtual 383, 3) := dk_182 (by decide +kernel)
theorem dX12_shorten_55 : decode cX12_shorten 55 = .ok (.aload_n 0, 1) := dk_42 (by decide +kernel)
theorem dX12_shorten_56 : decode cX12_shorten 56 = .ok (.iload_n 2, 1) := dk_28 (by decide +kernel)
theorem dX12_shorten_57 : decode cX12_shorten 57 = .ok (.bipush 7, 2) := dk_16 (by decide +kernel)
theorem dX12_shorten_59 : decode cX12_shorten 59 = .ok (.invokevirtual 365, 3) := dk_182 (by decide +kernel)
theorem dX12_shorten_62 : decode cX12_shorten 62 = .ok (.return_, 1) := dk_177 (by decide +kernel)
def wsRX12_shorten : List Cond := .code yX12_shorten cX12_shorten 3 none :: ([] ++ wsX120 ++ (wsV RX12 353 RX12 yX12_sign wsRX12_sign) ++ (wsV RX12 387 RX12 yX12_common wsRX12_common) ++ (wsV RX12 383 RX12 yX12_divide wsRX12_divide) ++ (wsV RX12 365 RX12 yX12_copy wsRX12_copy) ++ (wsV RX12 379 RX12 yX12_turn wsRX12_turn))
theorem iwsRX12_shorten_in12 : ∀ w ∈ wsX120, w ∈ wsRX12_shorten := fun _ h => List.mem_cons_of_mem _ (List.mem_append_left _ (List.mem_append_left _ (List.mem_append_left _ (List.mem_append_left _ (List.mem_append_left _ (List.mem_append_right _ h))))))
theorem gwsRX12_shorten_0 : GoodIn wsRX12_shorten (wsV RX12 353 RX12 yX12_sign wsRX12_sign) := goodIn_sub (fun _ h => List.mem_cons_of_mem _ (List.mem_append_left _ (List.mem_append_left _ (List.mem_append_left _ (List.mem_append_left _ (List.mem_append_right _ h)))))) (gdV (by decide +kernel) gdwsRX12_sign)
theorem gwsRX12_shorten_1 : GoodIn wsRX12_shorten (wsV RX12 387 RX12 yX12_common wsRX12_common) := goodIn_sub (fun _ h => List.mem_cons_of_mem _ (List.mem_append_left _ (List.mem_append_left _ (List.mem_append_left _ (List.mem_append_right _ h))))) (gdV (by decide +kernel) gdwsRX12_common)
theorem gwsRX12_shorten_2 : GoodIn wsRX12_shorten (wsV RX12 383 RX12 yX12_divide wsRX12_divide) := goodIn_sub (fun _ h => List.mem_cons_of_mem _ (List.mem_append_left _ (List.mem_append_left _ (List.mem_append_right _ h)))) (gdV (by decide +kernel) gdwsRX12_divide)
theorem gwsRX12_shorten_3 : GoodIn wsRX12_shorten (wsV RX12 365 RX12 yX12_copy wsRX12_copy) := goodIn_sub (fun _ h => List.mem_cons_of_mem _ (List.mem_append_left _ (List.mem_append_right _ h))) (gdV (by decide +kernel) gdwsRX12_copy)
theorem gwsRX12_shorten_4 : GoodIn wsRX12_shorten (wsV RX12 379 RX12 yX12_turn wsRX12_turn) := goodIn_sub (fun _ h => List.mem_cons_of_mem _ (List.mem_append_right _ h)) (gdV (by decide +kernel) gdwsRX12_turn)
theorem gdwsRX12_shorten : wsRX12_shorten.all goodWord = true := gdC rfl (gdA (gdA (gdA (gdA (gdA (gdA (by decide +kernel : ([] : List Cond).all goodWord = true) gdwsX120) (gdV (by decide +kernel) gdwsRX12_sign)) (gdV (by decide +kernel) gdwsRX12_common)) (gdV (by decide +kernel) gdwsRX12_divide)) (gdV (by decide +kernel) gdwsRX12_copy)) (gdV (by decide +kernel) gdwsRX12_turn))
set_option maxHeartbeats 4000000 in
set_option maxRecDepth 100000 in
/-- shorten(n, d) -/
theorem r_X12_shorten (l : Launch) (dC : Nat → ClassId) (dI : Nat → Nat → Nat) (a : Nat → Nat) (k : Nat → ClassId) (h0 : Nat) (vi : Nat → Int32) (vj : Nat → Int64) (vF : Nat → Nat → Int32) (vG : Nat → Nat → Int64) (an : Nat) (bn : Nat) (mg : Nat → Int) (hBg : Bg (vF 0) mg) (xa : Int) (xb : Int) (v_xa : mg an = xa) (v_xb : mg bn = xb) (hna : an < 1100) (hnb : bn < 1100) (hab : an ≠ bn) (h59a : (an < 5 ∨ 9 < an)) (h59b : (bn < 5 ∨ 9 < bn)) (hb0 : xb ≠ 0) (sz : Nat) : Met l yX12_shorten wsRX12_shorten ({ frames := 3, cells := 0, slots := 0, locals := 85 }) (va_Pc [.ref h0, .int (nI an), .int (nI bn)] (fun U => U.heap.size = sz ∧ va_P (dC, dI) vwCl (WR a k h0 vi vj vF vG) U.heap ∧ va_K (dC, dI) vwCl (tX12 k) U ∧ va_D (fun _ => True) (WR a k h0 vi vj vF vG))) (va_Qv (fun (u : (Nat → Int32) × (Nat → Int32) × (Nat → Int32) × (Nat → Int64) × (Nat → Int)) => (Bg (u.1) (u.2.2.2.2)) ∧ (((u.2.2.2.2) an).natAbs ≤ xa.natAbs) ∧ (((u.2.2.2.2) bn).natAbs ≤ xb.natAbs) ∧ (∀ q, q ≠ an → q ≠ bn → (q < 5 ∨ 9 < q) → (u.2.2.2.2) q = mg q) ∧ (0 < (u.2.2.2.2) bn)) (fun (u : (Nat → Int32) × (Nat → Int32) × (Nat → Int32) × (Nat → Int64) × (Nat → Int)) t => va_P (dC, dI) vwCl (WR a k h0 vi vj (fT (fT (fT vF 0 (u.1)) 2 (u.2.1)) 3 (u.2.2.1)) (fT vG 1 (u.2.2.2.1))) t.heap ∧ va_D (va_A (WR a k h0 vi vj vF vG) sz) (WR a k h0 vi vj (fT (fT (fT vF 0 (u.1)) 2 (u.2.1)) 3 (u.2.2.1)) (fT vG 1 (u.2.2.2.1)))) (va_A (WR a k h0 vi vj vF vG) sz)) 0 0 (va_A (WR a k h0 vi vj vF vG) sz) := by
  refine Met.ofW (cc := cX12_shorten) (maxL := 3) (ret := none) (by decide) rfl ?_
  intro p e s m args below meth c s₁ B hml hv
  obtain ⟨rfl, hsz, hP, hK, hD0⟩ := hv
  have hx := B.exec
  have hb := B.bytes
  have hr := B.returns
  have hts := atoms_spec (ws := wsRX12_shorten) B.pre
  have hown : s.vm.findClass RX12 = some m.cls := findClass_of_methodNamed B.named
  have hlocks := B.notSynchronized
  subst hsz
  have hD := hD0.self (sz := s.heap.size)
  generalize hAe : va_A (WR a k h0 vi vj vF vG) s.heap.size = A at hD ⊢
  have hA : ∀ q : Nat, s.heap.size ≤ q → A q := fun q h => by rw [← hAe]; exact Or.inr h
  have hS : va_S A s.heap s.heap [] := va_S.rf
  have hl := lv_entry ([.ref h0, .int (nI an), .int (nI bn)]) (n := 3) (Nat.le_of_ble_eq_true rfl)
  rw [lg_entry_eq]
  generalize (lg_sl ([.ref h0, .int (nI an), .int (nI bn)]) ++ List.replicate (3 - (lg_sl ([.ref h0, .int (nI an), .int (nI bn)])).length) Slot.unset).toArray = ls at hl ⊢
  have hl : lv_has ls 3 [(0, .ref h0), (1, .int (nI an)), (2, .int (nI bn))] := hl
  refine lv_aload_n hx hb dX12_shorten_0 rfl (lv_at hl 0 rfl) ?_
  refine lv_iload_n hx hb dX12_shorten_1 rfl (lv_at hl 2 rfl) ?_
  have hFc := allFree hD hS hA
  refine va_calli (va_runV (As := [.int (nI bn)]) (rest := []) ⟨hx, hb, hml, hown, hts⟩ (b_X12_sign l dC dI a k h0 vi vj vF vG bn mg hBg xb (by rw [v_xb]) (by first | with_reducible assumption | decide | omega | rfl | assumption) s.heap.size) (cwV 1 hts gwsRX12_shorten_0 rfl rfl rfl hd_yX12_sign_RX12 (by decide +kernel)) (fz_pre (va_recv hK hP (ci := 12) (q0 := 0) rfl rfl) hP hK hD) rfl rfl hl.1 rfl (lv_room (Nat.le_of_ble_eq_true rfl)) dX12_shorten_2 (by decide +kernel)) hS (fun q _ h => hFc q h) hFc (fun r2 u t9_ H locs ht hvm hw9 hB9 hz1 hk1 hS => ?_)
  have hP : va_P (dC, dI) vwCl (WR a k h0 vi vj vF vG) H := fz_P ht hB9.1
  have hD := fz_sd hP (hB9.2.weaken (fun _ q _ h => hFc q.1 h)) rfl
  have f2_0 := hw9
  try dsimp only at f2_0
  refine lv_if_ge (tgt := 18) hx hb dX12_shorten_5 (by decide) (fun c_5 => ?_) (fun c_5 => ?_)
  · have t_5 : (r2).toInt ≥ 0 := toI_ge c_5 rfl (by decide)
    refine lv_aload_n hx hb dX12_shorten_18 rfl (lv_at hl 0 rfl) ?_
    refine lv_bipush (v := 9) hx hb dX12_shorten_19 (by decide) ?_
    refine lv_iload_n hx hb dX12_shorten_21 rfl (lv_at hl 1 rfl) ?_
    refine lv_iload_n hx hb dX12_shorten_22 rfl (lv_at hl 2 rfl) ?_
    have hFc := allFree hD hS hA
    refine va_callv (va_runV (As := [.int 9, .int (nI an), .int (nI bn)]) (rest := []) ⟨hx, hb, hml, hown, hts⟩ (r_X12_common l dC dI a k h0 vi vj vF vG 9 an bn mg hBg xa xb (by rw [v_xa]) (by rw [v_xb]) (by first | with_reducible assumption | decide | omega | rfl | assumption) (by first | with_reducible assumption | decide | omega | rfl | assumption) (by first | with_reducible assumption | decide | omega | rfl | assumption) (by first | with_reducible assumption | decide | omega | rfl | assumption) (by first | with_reducible assumption | decide | omega | rfl | assumption) (by first | with_reducible assumption | decide | omega | rfl | assumption) H.size) (cwV 3 hts gwsRX12_shorten_1 rfl rfl rfl hd_yX12_common_RX12 (by decide +kernel)) (fz_pre (va_recv hK hP (ci := 12) (q0 := 0) rfl rfl) hP hK hD) rfl rfl hl.1 rfl (lv_room (Nat.le_of_ble_eq_true rfl)) dX12_shorten_23 (by decide +kernel)) hS (fun q _ h => hFc q h) hFc (fun u t9_ H locs ht hvm hw9 hB9 hz1 hk1 hS => ?_)
    revert u hw9 hB9
    refine fz_p5 ?_
    intro g23 f2w23 f3w23 gs23 m223 hw9 hB9
    try dsimp only at hw9 hB9
    have hP : va_P (dC, dI) vwCl (WR a k h0 vi vj (fT (fT (fT vF 0 g23) 2 f2w23) 3 f3w23) (fT vG 1 gs23)) H := fz_P ht hB9.1
    have hD := fz_sd hP (hB9.2.weaken (fun _ q _ h => hFc q.1 h)) rfl
    revert hw9
    refine fz_a3 ?_
    intro f23_0 f23_1 f23_2
    refine lv_aload_n hx hb dX12_shorten_26 rfl (lv_at hl 0 rfl) ?_
    refine lv_bipush (v := 7) hx hb dX12_shorten_27 (by decide) ?_
    refine lv_bipush (v := 8) hx hb dX12_shorten_29 (by decide) ?_
    refine lv_iload_n hx hb dX12_shorten_31 rfl (lv_at hl 1 rfl) ?_
    refine lv_bipush (v := 9) hx hb dX12_shorten_32 (by decide) ?_
    have hFc := allFree hD hS hA
    refine va_callv (va_runV (As := [.int 7, .int 8, .int (nI an), .int 9]) (rest := []) ⟨hx, hb, hml, hown, hts⟩ (b_X12_divide l dC dI a k h0 vi vj (fT (fT (fT vF 0 g23) 2 f2w23) 3 f3w23) (fT vG 1 gs23) 7 8 an 9 m223 f23_0 xa ((Int.gcd xa xb : Nat) : Int) (by rw [f23_2 _ (by omega) (by omega), v_xa]) (by rw [f23_1]) (by first | with_reducible assumption | decide | omega | rfl | assumption) (by first | with_reducible assumption | decide | omega | rfl | assumption) (by first | with_reducible assumption | decide | omega | rfl | assumption) (by first | with_reducible assumption | decide | omega | rfl | assumption) (by first | with_reducible assumption | decide | omega | rfl | assumption) (by first | with_reducible assumption | decide | omega | rfl | assumption) (gcd_ne (Or.inr (by omega))) H.size) (cwV 4 hts gwsRX12_shorten_2 rfl rfl rfl hd_yX12_divide_RX12 (by decide +kernel)) (fz_pre (va_recv hK hP (ci := 12) (q0 := 0) rfl rfl) hP hK hD) rfl rfl hl.1 rfl (lv_room (Nat.le_of_ble_eq_true rfl)) dX12_shorten_34 (by decide +kernel)) hS (fun q _ h => hFc q h) hFc (fun u t9_ H locs ht hvm hw9 hB9 hz1 hk1 hS => ?_)
    revert u hw9 hB9
    refine fz_p4 ?_
    intro g34 f2w34 f3w34 gs34 hw9 hB9
    try dsimp only at hw9 hB9
    have e9F : fT (fT (fT vF 0 g34) 2 f2w34) 3 f3w34 = fT (fT (fT (fT (fT (fT vF 0 g23) 2 f2w23) 3 f3w23) 2 f2w34) 3 f3w34) 0 g34 := ((congrArg (fun g9 => fT (fT g9 3 f3w34) 0 g34) ((fT_sw _ _ _ (Nat.ne_of_beq_eq_false rfl)).trans (congrArg (fun g9 => fT g9 3 f3w23) (fT_sm _ _ _ _)))).trans ((congrArg (fun g9 => fT g9 0 g34) (fT_sm _ _ _ _)).trans ((fT_sw _ _ _ (Nat.ne_of_beq_eq_false rfl)).trans (congrArg (fun g9 => fT g9 3 f3w34) ((fT_sw _ _ _ (Nat.ne_of_beq_eq_false rfl)).trans (congrArg (fun g9 => fT g9 2 f2w34) (fT_sm _ _ _ _))))))).symm
    have e9G : fT vG 1 gs34 = fT (fT vG 1 gs23) 1 gs34 := (fT_sm _ _ _ _).symm
    have hP := wr_PG e9G (wr_PF e9F (fz_P ht hB9.1))
    have hD := wr_DG e9G (wr_DF e9F (hB9.2.weaken (fun _ q _ h => hFc q.1 h)))
    clear e9F e9G
    have f34_0 := hw9
    try dsimp only at f34_0
    refine lv_aload_n hx hb dX12_shorten_37 rfl (lv_at hl 0 rfl) ?_
    refine lv_iload_n hx hb dX12_shorten_38 rfl (lv_at hl 1 rfl) ?_
    refine lv_bipush (v := 7) hx hb dX12_shorten_39 (by decide) ?_
    have hFc := allFree hD hS hA
    refine va_callv (va_runV (As := [.int (nI an), .int 7]) (rest := []) ⟨hx, hb, hml, hown, hts⟩ (b_X12_copy l dC dI a k h0 vi vj (fT (fT (fT vF 0 g34) 2 f2w34) 3 f3w34) (fT vG 1 gs34) an 7 (fT (fT m223 7 ((xa).tdiv ((Int.gcd xa xb : Nat) : Int))) 8 ((xa).tmod ((Int.gcd xa xb : Nat) : Int))) f34_0 ((xa).tdiv ((Int.gcd xa xb : Nat) : Int)) (by rw [fT_ne _ _ (by omega), fT_eq]) (by first | with_reducible assumption | decide | omega | rfl | assumption) (by first | with_reducible assumption | decide | omega | rfl | assumption) (by first | with_reducible assumption | decide | omega | rfl | assumption) H.size) (cwV 2 hts gwsRX12_shorten_3 rfl rfl rfl hd_yX12_copy_RX12 (by decide +kernel)) (fz_pre (va_recv hK hP (ci := 12) (q0 := 0) rfl rfl) hP hK hD) rfl rfl hl.1 rfl (lv_room (Nat.le_of_ble_eq_true rfl)) dX12_shorten_41 (by decide +kernel)) hS (fun q _ h => hFc q h) hFc (fun g41 t9_ H locs ht hvm hw9 hB9 hz1 hk1 hS => ?_)
    have e9F : fT (fT (fT vF 0 g41) 2 f2w34) 3 f3w34 = fT (fT (fT (fT vF 0 g34) 2 f2w34) 3 f3w34) 0 g41 := ((fT_sw _ _ _ (Nat.ne_of_beq_eq_false rfl)).trans (congrArg (fun g9 => fT g9 3 f3w34) ((fT_sw _ _ _ (Nat.ne_of_beq_eq_false rfl)).trans (congrArg (fun g9 => fT g9 2 f2w34) (fT_sm _ _ _ _))))).symm
    have hP := wr_PF e9F (fz_P ht hB9.1)
    have hD := wr_DF e9F (hB9.2.weaken (fun _ q _ h => hFc q.1 h))
    clear e9F
    have f41_0 := hw9
    try dsimp only at f41_0
    refine lv_aload_n hx hb dX12_shorten_44 rfl (lv_at hl 0 rfl) ?_
    refine lv_bipush (v := 7) hx hb dX12_shorten_45 (by decide) ?_
    refine lv_bipush (v := 8) hx hb dX12_shorten_47 (by decide) ?_
    refine lv_iload_n hx hb dX12_shorten_49 rfl (lv_at hl 2 rfl) ?_
    refine lv_bipush (v := 9) hx hb dX12_shorten_50 (by decide) ?_
    have hFc := allFree hD hS hA
    refine va_callv (va_runV (As := [.int 7, .int 8, .int (nI bn), .int 9]) (rest := []) ⟨hx, hb, hml, hown, hts⟩ (b_X12_divide l dC dI a k h0 vi vj (fT (fT (fT vF 0 g41) 2 f2w34) 3 f3w34) (fT vG 1 gs34) 7 8 bn 9 (fT (fT (fT m223 7 ((xa).tdiv ((Int.gcd xa xb : Nat) : Int))) 8 ((xa).tmod ((Int.gcd xa xb : Nat) : Int))) an ((xa).tdiv ((Int.gcd xa xb : Nat) : Int))) f41_0 xb ((Int.gcd xa xb : Nat) : Int) (by rw [fT_ne _ _ (by omega), fT_ne _ _ (by omega), fT_ne _ _ (by omega), f23_2 _ (by omega) (by omega), v_xb]) (by rw [fT_ne _ _ (by omega), fT_ne _ _ (by omega), fT_ne _ _ (by omega), f23_1]) (by first | with_reducible assumption | decide | omega | rfl | assumption) (by first | with_reducible assumption | decide | omega | rfl | assumption) (by first | with_reducible assumption | decide | omega | rfl | assumption) (by first | with_reducible assumption | decide | omega | rfl | assumption) (by first | with_reducible assumption | decide | omega | rfl | assumption) (by first | with_reducible assumption | decide | omega | rfl | assumption) (gcd_ne (Or.inr (by omega))) H.size) (cwV 4 hts gwsRX12_shorten_2 rfl rfl rfl hd_yX12_divide_RX12 (by decide +kernel)) (fz_pre (va_recv hK hP (ci := 12) (q0 := 0) rfl rfl) hP hK hD) rfl rfl hl.1 rfl (lv_room (Nat.le_of_ble_eq_true rfl)) dX12_shorten_52 (by decide +kernel)) hS (fun q _ h => hFc q h) hFc (fun u t9_ H locs ht hvm hw9 hB9 hz1 hk1 hS => ?_)
    revert u hw9 hB9
    refine fz_p4 ?_
    intro g52 f2w52 f3w52 gs52 hw9 hB9
    try dsimp only at hw9 hB9
    have e9F : fT (fT (fT vF 0 g52) 2 f2w52) 3 f3w52 = fT (fT (fT (fT (fT (fT vF 0 g41) 2 f2w34) 3 f3w34) 2 f2w52) 3 f3w52) 0 g52 := ((congrArg (fun g9 => fT (fT g9 3 f3w52) 0 g52) ((fT_sw _ _ _ (Nat.ne_of_beq_eq_false rfl)).trans (congrArg (fun g9 => fT g9 3 f3w34) (fT_sm _ _ _ _)))).trans ((congrArg (fun g9 => fT g9 0 g52) (fT_sm _ _ _ _)).trans ((fT_sw _ _ _ (Nat.ne_of_beq_eq_false rfl)).trans (congrArg (fun g9 => fT g9 3 f3w52) ((fT_sw _ _ _ (Nat.ne_of_beq_eq_false rfl)).trans (congrArg (fun g9 => fT g9 2 f2w52) (fT_sm _ _ _ _))))))).symm
    have e9G : fT vG 1 gs52 = fT (fT vG 1 gs34) 1 gs52 := (fT_sm _ _ _ _).symm
    have hP := wr_PG e9G (wr_PF e9F (fz_P ht hB9.1))
    have hD := wr_DG e9G (wr_DF e9F (hB9.2.weaken (fun _ q _ h => hFc q.1 h)))
    clear e9F e9G
    have f52_0 := hw9
    try dsimp only at f52_0
    refine lv_aload_n hx hb dX12_shorten_55 rfl (lv_at hl 0 rfl) ?_
    refine lv_iload_n hx hb dX12_shorten_56 rfl (lv_at hl 2 rfl) ?_
    refine lv_bipush (v := 7) hx hb dX12_shorten_57 (by decide) ?_
    have hFc := allFree hD hS hA
    refine va_callv (va_runV (As := [.int (nI bn), .int 7]) (rest := []) ⟨hx, hb, hml, hown, hts⟩ (b_X12_copy l dC dI a k h0 vi vj (fT (fT (fT vF 0 g52) 2 f2w52) 3 f3w52) (fT vG 1 gs52) bn 7 (fT (fT (fT (fT (fT m223 7 ((xa).tdiv ((Int.gcd xa xb : Nat) : Int))) 8 ((xa).tmod ((Int.gcd xa xb : Nat) : Int))) an ((xa).tdiv ((Int.gcd xa xb : Nat) : Int))) 7 ((xb).tdiv ((Int.gcd xa xb : Nat) : Int))) 8 ((xb).tmod ((Int.gcd xa xb : Nat) : Int))) f52_0 ((xb).tdiv ((Int.gcd xa xb : Nat) : Int)) (by rw [fT_ne _ _ (by omega), fT_eq]) (by first | with_reducible assumption | decide | omega | rfl | assumption) (by first | with_reducible assumption | decide | omega | rfl | assumption) (by first | with_reducible assumption | decide | omega | rfl | assumption) H.size) (cwV 2 hts gwsRX12_shorten_3 rfl rfl rfl hd_yX12_copy_RX12 (by decide +kernel)) (fz_pre (va_recv hK hP (ci := 12) (q0 := 0) rfl rfl) hP hK hD) rfl rfl hl.1 rfl (lv_room (Nat.le_of_ble_eq_true rfl)) dX12_shorten_59 (by decide +kernel)) hS (fun q _ h => hFc q h) hFc (fun g59 t9_ H locs ht hvm hw9 hB9 hz1 hk1 hS => ?_)
    have e9F : fT (fT (fT vF 0 g59) 2 f2w52) 3 f3w52 = fT (fT (fT (fT vF 0 g52) 2 f2w52) 3 f3w52) 0 g59 := ((fT_sw _ _ _ (Nat.ne_of_beq_eq_false rfl)).trans (congrArg (fun g9 => fT g9 3 f3w52) ((fT_sw _ _ _ (Nat.ne_of_beq_eq_false rfl)).trans (congrArg (fun g9 => fT g9 2 f2w52) (fT_sm _ _ _ _))))).symm
    have hP := wr_PF e9F (fz_P ht hB9.1)
    have hD := wr_DF e9F (hB9.2.weaken (fun _ q _ h => hFc q.1 h))
    clear e9F
    have f59_0 := hw9
    try dsimp only at f59_0
    refine W.widen (k := 0) (n := 0) (by decide +kernel) (by decide +kernel) ?_
    exact W.vret hx hb hr (fun t9_ ht hW => ⟨⟨(g59, f2w52, f3w52, gs52, (fT (fT (fT (fT (fT (fT m223 7 ((xa).tdiv ((Int.gcd xa xb : Nat) : Int))) 8 ((xa).tmod ((Int.gcd xa xb : Nat) : Int))) an ((xa).tdiv ((Int.gcd xa xb : Nat) : Int))) 7 ((xb).tdiv ((Int.gcd xa xb : Nat) : Int))) 8 ((xb).tmod ((Int.gcd xa xb : Nat) : Int))) bn ((xb).tdiv ((Int.gcd xa xb : Nat) : Int)))), rfl, by (try dsimp only); exact ⟨f59_0, by (have e9 : (fT (fT (fT (fT (fT (fT m223 7 ((xa).tdiv ((Int.gcd xa xb : Nat) : Int))) 8 ((xa).tmod ((Int.gcd xa xb : Nat) : Int))) an ((xa).tdiv ((Int.gcd xa xb : Nat) : Int))) 7 ((xb).tdiv ((Int.gcd xa xb : Nat) : Int))) 8 ((xb).tmod ((Int.gcd xa xb : Nat) : Int))) bn ((xb).tdiv ((Int.gcd xa xb : Nat) : Int))) an = ((xa).tdiv ((Int.gcd xa xb : Nat) : Int)) := (by rw [fT_ne _ _ (by omega), fT_ne _ _ (by omega), fT_ne _ _ (by omega), fT_eq])); rw [e9]; first | exact sh_le _ _ | exact Nat.le_trans (sh_le _ _) (by rw [Int.natAbs_neg]; exact Nat.le_refl _), by (have e9 : (fT (fT (fT (fT (fT (fT m223 7 ((xa).tdiv ((Int.gcd xa xb : Nat) : Int))) 8 ((xa).tmod ((Int.gcd xa xb : Nat) : Int))) an ((xa).tdiv ((Int.gcd xa xb : Nat) : Int))) 7 ((xb).tdiv ((Int.gcd xa xb : Nat) : Int))) 8 ((xb).tmod ((Int.gcd xa xb : Nat) : Int))) bn ((xb).tdiv ((Int.gcd xa xb : Nat) : Int))) bn = ((xb).tdiv ((Int.gcd xa xb : Nat) : Int)) := (by rw [fT_eq])); rw [e9]; first | exact sh_le _ _ | exact Nat.le_trans (sh_le _ _) (by rw [Int.natAbs_neg]; exact Nat.le_refl _), fun q h1 h2 h3 => by (rw [fT_ne _ _ (by omega), fT_ne _ _ (by omega), fT_ne _ _ (by omega), fT_ne _ _ (by omega), fT_ne _ _ (by omega), fT_ne _ _ (by omega), f23_2 _ (by omega) (by omega)]), by (have e9 : (fT (fT (fT (fT (fT (fT m223 7 ((xa).tdiv ((Int.gcd xa xb : Nat) : Int))) 8 ((xa).tmod ((Int.gcd xa xb : Nat) : Int))) an ((xa).tdiv ((Int.gcd xa xb : Nat) : Int))) 7 ((xb).tdiv ((Int.gcd xa xb : Nat) : Int))) 8 ((xb).tmod ((Int.gcd xa xb : Nat) : Int))) bn ((xb).tdiv ((Int.gcd xa xb : Nat) : Int))) bn = ((xb).tdiv ((Int.gcd xa xb : Nat) : Int)) := (by rw [fT_eq])); rw [e9]; exact tdiv_pos (by omega) (gcd_pos (by omega)) (gcd_le (by omega))⟩, by rw [ht]; exact hP, hD⟩, hS.F ht⟩) hS.2.2 dX12_shorten_62
  · have t_5 : ¬ (r2).toInt ≥ 0 := toI_nge c_5 rfl (by decide)
    refine lv_aload_n hx hb dX12_shorten_8 rfl (lv_at hl 0 rfl) ?_
    refine lv_iload_n hx hb dX12_shorten_9 rfl (lv_at hl 1 rfl) ?_
    have hFc := allFree hD hS hA
    refine va_callv (va_runV (As := [.int (nI an)]) (rest := []) ⟨hx, hb, hml, hown, hts⟩ (b_X12_turn l dC dI a k h0 vi vj vF vG an mg hBg xa (by rw [v_xa]) (by first | with_reducible assumption | decide | omega | rfl | assumption) H.size) (cwV 1 hts gwsRX12_shorten_4 rfl rfl rfl hd_yX12_turn_RX12 (by decide +kernel)) (fz_pre (va_recv hK hP (ci := 12) (q0 := 0) rfl rfl) hP hK hD) rfl rfl hl.1 rfl (lv_room (Nat.le_of_ble_eq_true rfl)) dX12_shorten_10 (by decide +kernel)) hS (fun q _ h => hFc q h) hFc (fun u t9_ H locs ht hvm hw9 hB9 hz1 hk1 hS => ?_)
    have hP : va_P (dC, dI) vwCl (WR a k h0 vi vj (fT vF 0 (upd (vF 0) (nI (24 * an)).toNatClampNeg (-((vF 0) (24 * an))))) vG) H := fz_P ht hB9.1
    have hD := fz_sd hP (hB9.2.weaken (fun _ q _ h => hFc q.1 h)) rfl
    have f10_0 := hw9
    try dsimp only at f10_0
    have f10_0 : Bg (upd (vF 0) (nI (24 * an)).toNatClampNeg (-((vF 0) (24 * an)))) (fT mg an (-xa)) := f10_0
    refine lv_aload_n hx hb dX12_shorten_13 rfl (lv_at hl 0 rfl) ?_
    refine lv_iload_n hx hb dX12_shorten_14 rfl (lv_at hl 2 rfl) ?_
    have hFc := allFree hD hS hA
    refine va_callv (va_runV (As := [.int (nI bn)]) (rest := []) ⟨hx, hb, hml, hown, hts⟩ (b_X12_turn l dC dI a k h0 vi vj (fT vF 0 (upd (vF 0) (nI (24 * an)).toNatClampNeg (-((vF 0) (24 * an))))) vG bn (fT mg an (-xa)) f10_0 xb (by rw [fT_ne _ _ (by omega), v_xb]) (by first | with_reducible assumption | decide | omega | rfl | assumption) H.size) (cwV 1 hts gwsRX12_shorten_4 rfl rfl rfl hd_yX12_turn_RX12 (by decide +kernel)) (fz_pre (va_recv hK hP (ci := 12) (q0 := 0) rfl rfl) hP hK hD) rfl rfl hl.1 rfl (lv_room (Nat.le_of_ble_eq_true rfl)) dX12_shorten_15 (by decide +kernel)) hS (fun q _ h => hFc q h) hFc (fun u t9_ H locs ht hvm hw9 hB9 hz1 hk1 hS => ?_)
    have e9F : fT vF 0 (upd (upd (vF 0) (nI (24 * an)).toNatClampNeg (-((vF 0) (24 * an)))) (nI (24 * bn)).toNatClampNeg (-((upd (vF 0) (nI (24 * an)).toNatClampNeg (-((vF 0) (24 * an)))) (24 * bn)))) = fT (fT vF 0 (upd (vF 0) (nI (24 * an)).toNatClampNeg (-((vF 0) (24 * an))))) 0 (upd (upd (vF 0) (nI (24 * an)).toNatClampNeg (-((vF 0) (24 * an)))) (nI (24 * bn)).toNatClampNeg (-((upd (vF 0) (nI (24 * an)).toNatClampNeg (-((vF 0) (24 * an)))) (24 * bn)))) := (fT_sm _ _ _ _).symm
    have hP := wr_PF e9F (fz_P ht hB9.1)
    have hD := wr_DF e9F (hB9.2.weaken (fun _ q _ h => hFc q.1 h))
    clear e9F
    have f15_0 := hw9
    try dsimp only at f15_0
    have f15_0 : Bg (upd (upd (vF 0) (nI (24 * an)).toNatClampNeg (-((vF 0) (24 * an)))) (nI (24 * bn)).toNatClampNeg (-((upd (vF 0) (nI (24 * an)).toNatClampNeg (-((vF 0) (24 * an)))) (24 * bn)))) (fT (fT mg an (-xa)) bn (-xb)) := f15_0
    refine lv_aload_n hx hb dX12_shorten_18 rfl (lv_at hl 0 rfl) ?_
    refine lv_bipush (v := 9) hx hb dX12_shorten_19 (by decide) ?_
    refine lv_iload_n hx hb dX12_shorten_21 rfl (lv_at hl 1 rfl) ?_
    refine lv_iload_n hx hb dX12_shorten_22 rfl (lv_at hl 2 rfl) ?_
    have hFc := allFree hD hS hA
    refine va_callv (va_runV (As := [.int 9, .int (nI an), .int (nI bn)]) (rest := []) ⟨hx, hb, hml, hown, hts⟩ (r_X12_common l dC dI a k h0 vi vj (fT vF 0 (upd (upd (vF 0) (nI (24 * an)).toNatClampNeg (-((vF 0) (24 * an)))) (nI (24 * bn)).toNatClampNeg (-((upd (vF 0) (nI (24 * an)).toNatClampNeg (-((vF 0) (24 * an)))) (24 * bn))))) vG 9 an bn (fT (fT mg an (-xa)) bn (-xb)) f15_0 (-xa) (-xb) (by rw [fT_ne _ _ (by omega), fT_eq]) (by rw [fT_eq]) (by first | with_reducible assumption | decide | omega | rfl | assumption) (by first | with_reducible assumption | decide | omega | rfl | assumption) (by first | with_reducible assumption | decide | omega | rfl | assumption) (by first | with_reducible assumption | decide | omega | rfl | assumption) (by first | with_reducible assumption | decide | omega | rfl | assumption) (by first | with_reducible assumption | decide | omega | rfl | assumption) H.size) (cwV 3 hts gwsRX12_shorten_1 rfl rfl rfl hd_yX12_common_RX12 (by decide +kernel)) (fz_pre (va_recv hK hP (ci := 12) (q0 := 0) rfl rfl) hP hK hD) rfl rfl hl.1 rfl (lv_room (Nat.le_of_ble_eq_true rfl)) dX12_shorten_23 (by decide +kernel)) hS (fun q _ h => hFc q h) hFc (fun u t9_ H locs ht hvm hw9 hB9 hz1 hk1 hS => ?_)
    revert u hw9 hB9
    refine fz_p5 ?_
    intro g23_1 f2w23_1 f3w23_1 gs23_1 m223_1 hw9 hB9
    try dsimp only at hw9 hB9
    have e9F : fT (fT (fT vF 0 g23_1) 2 f2w23_1) 3 f3w23_1 = fT (fT (fT (fT vF 0 (upd (upd (vF 0) (nI (24 * an)).toNatClampNeg (-((vF 0) (24 * an)))) (nI (24 * bn)).toNatClampNeg (-((upd (vF 0) (nI (24 * an)).toNatClampNeg (-((vF 0) (24 * an)))) (24 * bn))))) 0 g23_1) 2 f2w23_1) 3 f3w23_1 := (congrArg (fun g9 => fT (fT g9 2 f2w23_1) 3 f3w23_1) (fT_sm _ _ _ _)).symm
    have hP := wr_PF e9F (fz_P ht hB9.1)
    have hD := wr_DF e9F (hB9.2.weaken (fun _ q _ h => hFc q.1 h))
    clear e9F
    revert hw9
    refine fz_a3 ?_
    intro f23_1_0 f23_1_1 f23_1_2
    refine lv_aload_n hx hb dX12_shorten_26 rfl (lv_at hl 0 rfl) ?_
    refine lv_bipush (v := 7) hx hb dX12_shorten_27 (by decide) ?_
    refine lv_bipush (v := 8) hx hb dX12_shorten_29 (by decide) ?_
    refine lv_iload_n hx hb dX12_shorten_31 rfl (lv_at hl 1 rfl) ?_
    refine lv_bipush (v := 9) hx hb dX12_shorten_32 (by decide) ?_
    have hFc := allFree hD hS hA
    refine va_callv (va_runV (As := [.int 7, .int 8, .int (nI an), .int 9]) (rest := []) ⟨hx, hb, hml, hown, hts⟩ (b_X12_divide l dC dI a k h0 vi vj (fT (fT (fT vF 0 g23_1) 2 f2w23_1) 3 f3w23_1) (fT vG 1 gs23_1) 7 8 an 9 m223_1 f23_1_0 (-xa) ((Int.gcd (-xa) (-xb) : Nat) : Int) (by rw [f23_1_2 _ (by omega) (by omega), fT_ne _ _ (by omega), fT_eq]) (by rw [f23_1_1]) (by first | with_reducible assumption | decide | omega | rfl | assumption) (by first | with_reducible assumption | decide | omega | rfl | assumption) (by first | with_reducible assumption | decide | omega | rfl | assumption) (by first | with_reducible assumption | decide | omega | rfl | assumption) (by first | with_reducible assumption | decide | omega | rfl | assumption) (by first | with_reducible assumption | decide | omega | rfl | assumption) (gcd_ne (Or.inr (by omega))) H.size) (cwV 4 hts gwsRX12_shorten_2 rfl rfl rfl hd_yX12_divide_RX12 (by decide +kernel)) (fz_pre (va_recv hK hP (ci := 12) (q0 := 0) rfl rfl) hP hK hD) rfl rfl hl.1 rfl (lv_room (Nat.le_of_ble_eq_true rfl)) dX12_shorten_34 (by decide +kernel)) hS (fun q _ h => hFc q h) hFc (fun u t9_ H locs ht hvm hw9 hB9 hz1 hk1 hS => ?_)
    revert u hw9 hB9
    refine fz_p4 ?_
    intro g34_1 f2w34_1 f3w34_1 gs34_1 hw9 hB9
    try dsimp only at hw9 hB9
    have e9F : fT (fT (fT vF 0 g34_1) 2 f2w34_1) 3 f3w34_1 = fT (fT (fT (fT (fT (fT vF 0 g23_1) 2 f2w23_1) 3 f3w23_1) 2 f2w34_1) 3 f3w34_1) 0 g34_1 := ((congrArg (fun g9 => fT (fT g9 3 f3w34_1) 0 g34_1) ((fT_sw _ _ _ (Nat.ne_of_beq_eq_false rfl)).trans (congrArg (fun g9 => fT g9 3 f3w23_1) (fT_sm _ _ _ _)))).trans ((congrArg (fun g9 => fT g9 0 g34_1) (fT_sm _ _ _ _)).trans ((fT_sw _ _ _ (Nat.ne_of_beq_eq_false rfl)).trans (congrArg (fun g9 => fT g9 3 f3w34_1) ((fT_sw _ _ _ (Nat.ne_of_beq_eq_false rfl)).trans (congrArg (fun g9 => fT g9 2 f2w34_1) (fT_sm _ _ _ _))))))).symm
    have e9G : fT vG 1 gs34_1 = fT (fT vG 1 gs23_1) 1 gs34_1 := (fT_sm _ _ _ _).symm
    have hP := wr_PG e9G (wr_PF e9F (fz_P ht hB9.1))
    have hD := wr_DG e9G (wr_DF e9F (hB9.2.weaken (fun _ q _ h => hFc q.1 h)))
    clear e9F e9G
    have f34_1_0 := hw9
    try dsimp only at f34_1_0
    refine lv_aload_n hx hb dX12_shorten_37 rfl (lv_at hl 0 rfl) ?_
    refine lv_iload_n hx hb dX12_shorten_38 rfl (lv_at hl 1 rfl) ?_
    refine lv_bipush (v := 7) hx hb dX12_shorten_39 (by decide) ?_
    have hFc := allFree hD hS hA
    refine va_callv (va_runV (As := [.int (nI an), .int 7]) (rest := []) ⟨hx, hb, hml, hown, hts⟩ (b_X12_copy l dC dI a k h0 vi vj (fT (fT (fT vF 0 g34_1) 2 f2w34_1) 3 f3w34_1) (fT vG 1 gs34_1) an 7 (fT (fT m223_1 7 (((-xa)).tdiv ((Int.gcd (-xa) (-xb) : Nat) : Int))) 8 (((-xa)).tmod ((Int.gcd (-xa) (-xb) : Nat) : Int))) f34_1_0 (((-xa)).tdiv ((Int.gcd (-xa) (-xb) : Nat) : Int)) (by rw [fT_ne _ _ (by omega), fT_eq]) (by first | with_reducible assumption | decide | omega | rfl | assumption) (by first | with_reducible assumption | decide | omega | rfl | assumption) (by first | with_reducible assumption | decide | omega | rfl | assumption) H.size) (cwV 2 hts gwsRX12_shorten_3 rfl rfl rfl hd_yX12_copy_RX12 (by decide +kernel)) (fz_pre (va_recv hK hP (ci := 12) (q0 := 0) rfl rfl) hP hK hD) rfl rfl hl.1 rfl (lv_room (Nat.le_of_ble_eq_true rfl)) dX12_shorten_41 (by decide +kernel)) hS (fun q _ h => hFc q h) hFc (fun g41_1 t9_ H locs ht hvm hw9 hB9 hz1 hk1 hS => ?_)
    have e9F : fT (fT (fT vF 0 g41_1) 2 f2w34_1) 3 f3w34_1 = fT (fT (fT (fT vF 0 g34_1) 2 f2w34_1) 3 f3w34_1) 0 g41_1 := ((fT_sw _ _ _ (Nat.ne_of_beq_eq_false rfl)).trans (congrArg (fun g9 => fT g9 3 f3w34_1) ((fT_sw _ _ _ (Nat.ne_of_beq_eq_false rfl)).trans (congrArg (fun g9 => fT g9 2 f2w34_1) (fT_sm _ _ _ _))))).symm
    have hP := wr_PF e9F (fz_P ht hB9.1)
    have hD := wr_DF e9F (hB9.2.weaken (fun _ q _ h => hFc q.1 h))
    clear e9F
    have f41_1_0 := hw9
    try dsimp only at f41_1_0
    refine lv_aload_n hx hb dX12_shorten_44 rfl (lv_at hl 0 rfl) ?_
    refine lv_bipush (v := 7) hx hb dX12_shorten_45 (by decide) ?_
    refine lv_bipush (v := 8) hx hb dX12_shorten_47 (by decide) ?_
    refine lv_iload_n hx hb dX12_shorten_49 rfl (lv_at hl 2 rfl) ?_
    refine lv_bipush (v := 9) hx hb dX12_shorten_50 (by decide) ?_
    have hFc := allFree hD hS hA
    refine va_callv (va_runV (As := [.int 7, .int 8, .int (nI bn), .int 9]) (rest := []) ⟨hx, hb, hml, hown, hts⟩ (b_X12_divide l dC dI a k h0 vi vj (fT (fT (fT vF 0 g41_1) 2 f2w34_1) 3 f3w34_1) (fT vG 1 gs34_1) 7 8 bn 9 (fT (fT (fT m223_1 7 (((-xa)).tdiv ((Int.gcd (-xa) (-xb) : Nat) : Int))) 8 (((-xa)).tmod ((Int.gcd (-xa) (-xb) : Nat) : Int))) an (((-xa)).tdiv ((Int.gcd (-xa) (-xb) : Nat) : Int))) f41_1_0 (-xb) ((Int.gcd (-xa) (-xb) : Nat) : Int) (by rw [fT_ne _ _ (by omega), fT_ne _ _ (by omega), fT_ne _ _ (by omega), f23_1_2 _ (by omega) (by omega), fT_eq]) (by rw [fT_ne _ _ (by omega), fT_ne _ _ (by omega), fT_ne _ _ (by omega), f23_1_1]) (by first | with_reducible assumption | decide | omega | rfl | assumption) (by first | with_reducible assumption | decide | omega | rfl | assumption) (by first | with_reducible assumption | decide | omega | rfl | assumption) (by first | with_reducible assumption | decide | omega | rfl | assumption) (by first | with_reducible assumption | decide | omega | rfl | assumption) (by first | with_reducible assumption | decide | omega | rfl | assumption) (gcd_ne (Or.inr (by omega))) H.size) (cwV 4 hts gwsRX12_shorten_2 rfl rfl rfl hd_yX12_divide_RX12 (by decide +kernel)) (fz_pre (va_recv hK hP (ci := 12) (q0 := 0) rfl rfl) hP hK hD) rfl rfl hl.1 rfl (lv_room (Nat.le_of_ble_eq_true rfl)) dX12_shorten_52 (by decide +kernel)) hS (fun q _ h => hFc q h) hFc (fun u t9_ H locs ht hvm hw9 hB9 hz1 hk1 hS => ?_)
    revert u hw9 hB9
    refine fz_p4 ?_
    intro g52_1 f2w52_1 f3w52_1 gs52_1 hw9 hB9
    try dsimp only at hw9 hB9
    have e9F : fT (fT (fT vF 0 g52_1) 2 f2w52_1) 3 f3w52_1 = fT (fT (fT (fT (fT (fT vF 0 g41_1) 2 f2w34_1) 3 f3w34_1) 2 f2w52_1) 3 f3w52_1) 0 g52_1 := ((congrArg (fun g9 => fT (fT g9 3 f3w52_1) 0 g52_1) ((fT_sw _ _ _ (Nat.ne_of_beq_eq_false rfl)).trans (congrArg (fun g9 => fT g9 3 f3w34_1) (fT_sm _ _ _ _)))).trans ((congrArg (fun g9 => fT g9 0 g52_1) (fT_sm _ _ _ _)).trans ((fT_sw _ _ _ (Nat.ne_of_beq_eq_false rfl)).trans (congrArg (fun g9 => fT g9 3 f3w52_1) ((fT_sw _ _ _ (Nat.ne_of_beq_eq_false rfl)).trans (congrArg (fun g9 => fT g9 2 f2w52_1) (fT_sm _ _ _ _))))))).symm
    have e9G : fT vG 1 gs52_1 = fT (fT vG 1 gs34_1) 1 gs52_1 := (fT_sm _ _ _ _).symm
    have hP := wr_PG e9G (wr_PF e9F (fz_P ht hB9.1))
    have hD := wr_DG e9G (wr_DF e9F (hB9.2.weaken (fun _ q _ h => hFc q.1 h)))
    clear e9F e9G
    have f52_1_0 := hw9
    try dsimp only at f52_1_0
    refine lv_aload_n hx hb dX12_shorten_55 rfl (lv_at hl 0 rfl) ?_
    refine lv_iload_n hx hb dX12_shorten_56 rfl (lv_at hl 2 rfl) ?_
    refine lv_bipush (v := 7) hx hb dX12_shorten_57 (by decide) ?_
    have hFc := allFree hD hS hA
    refine va_callv (va_runV (As := [.int (nI bn), .int 7]) (rest := []) ⟨hx, hb, hml, hown, hts⟩ (b_X12_copy l dC dI a k h0 vi vj (fT (fT (fT vF 0 g52_1) 2 f2w52_1) 3 f3w52_1) (fT vG 1 gs52_1) bn 7 (fT (fT (fT (fT (fT m223_1 7 (((-xa)).tdiv ((Int.gcd (-xa) (-xb) : Nat) : Int))) 8 (((-xa)).tmod ((Int.gcd (-xa) (-xb) : Nat) : Int))) an (((-xa)).tdiv ((Int.gcd (-xa) (-xb) : Nat) : Int))) 7 (((-xb)).tdiv ((Int.gcd (-xa) (-xb) : Nat) : Int))) 8 (((-xb)).tmod ((Int.gcd (-xa) (-xb) : Nat) : Int))) f52_1_0 (((-xb)).tdiv ((Int.gcd (-xa) (-xb) : Nat) : Int)) (by rw [fT_ne _ _ (by omega), fT_eq]) (by first | with_reducible assumption | decide | omega | rfl | assumption) (by first | with_reducible assumption | decide | omega | rfl | assumption) (by first | with_reducible assumption | decide | omega | rfl | assumption) H.size) (cwV 2 hts gwsRX12_shorten_3 rfl rfl rfl hd_yX12_copy_RX12 (by decide +kernel)) (fz_pre (va_recv hK hP (ci := 12) (q0 := 0) rfl rfl) hP hK hD) rfl rfl hl.1 rfl (lv_room (Nat.le_of_ble_eq_true rfl)) dX12_shorten_59 (by decide +kernel)) hS (fun q _ h => hFc q h) hFc (fun g59_1 t9_ H locs ht hvm hw9 hB9 hz1 hk1 hS => ?_)
    have e9F : fT (fT (fT vF 0 g59_1) 2 f2w52_1) 3 f3w52_1 = fT (fT (fT (fT vF 0 g52_1) 2 f2w52_1) 3 f3w52_1) 0 g59_1 := ((fT_sw _ _ _ (Nat.ne_of_beq_eq_false rfl)).trans (congrArg (fun g9 => fT g9 3 f3w52_1) ((fT_sw _ _ _ (Nat.ne_of_beq_eq_false rfl)).trans (congrArg (fun g9 => fT g9 2 f2w52_1) (fT_sm _ _ _ _))))).symm
    have hP := wr_PF e9F (fz_P ht hB9.1)
    have hD := wr_DF e9F (hB9.2.weaken (fun _ q _ h => hFc q.1 h))
    clear e9F
    have f59_1_0 := hw9
    try dsimp only at f59_1_0
    refine W.widen (k := 0) (n := 0) (by decide +kernel) (by decide +kernel) ?_
    exact W.vret hx hb hr (fun t9_ ht hW => ⟨⟨(g59_1, f2w52_1, f3w52_1, gs52_1, (fT (fT (fT (fT (fT (fT m223_1 7 (((-xa)).tdiv ((Int.gcd (-xa) (-xb) : Nat) : Int))) 8 (((-xa)).tmod ((Int.gcd (-xa) (-xb) : Nat) : Int))) an (((-xa)).tdiv ((Int.gcd (-xa) (-xb) : Nat) : Int))) 7 (((-xb)).tdiv ((Int.gcd (-xa) (-xb) : Nat) : Int))) 8 (((-xb)).tmod ((Int.gcd (-xa) (-xb) : Nat) : Int))) bn (((-xb)).tdiv ((Int.gcd (-xa) (-xb) : Nat) : Int)))), rfl, by (try dsimp only); exact ⟨f59_1_0, by (have e9 : (fT (fT (fT (fT (fT (fT m223_1 7 (((-xa)).tdiv ((Int.gcd (-xa) (-xb) : Nat) : Int))) 8 (((-xa)).tmod ((Int.gcd (-xa) (-xb) : Nat) : Int))) an (((-xa)).tdiv ((Int.gcd (-xa) (-xb) : Nat) : Int))) 7 (((-xb)).tdiv ((Int.gcd (-xa) (-xb) : Nat) : Int))) 8 (((-xb)).tmod ((Int.gcd (-xa) (-xb) : Nat) : Int))) bn (((-xb)).tdiv ((Int.gcd (-xa) (-xb) : Nat) : Int))) an = (((-xa)).tdiv ((Int.gcd (-xa) (-xb) : Nat) : Int)) := (by rw [fT_ne _ _ (by omega), fT_ne _ _ (by omega), fT_ne _ _ (by omega), fT_eq])); rw [e9]; first | exact sh_le _ _ | exact Nat.le_trans (sh_le _ _) (by rw [Int.natAbs_neg]; exact Nat.le_refl _), by (have e9 : (fT (fT (fT (fT (fT (fT m223_1 7 (((-xa)).tdiv ((Int.gcd (-xa) (-xb) : Nat) : Int))) 8 (((-xa)).tmod ((Int.gcd (-xa) (-xb) : Nat) : Int))) an (((-xa)).tdiv ((Int.gcd (-xa) (-xb) : Nat) : Int))) 7 (((-xb)).tdiv ((Int.gcd (-xa) (-xb) : Nat) : Int))) 8 (((-xb)).tmod ((Int.gcd (-xa) (-xb) : Nat) : Int))) bn (((-xb)).tdiv ((Int.gcd (-xa) (-xb) : Nat) : Int))) bn = (((-xb)).tdiv ((Int.gcd (-xa) (-xb) : Nat) : Int)) := (by rw [fT_eq])); rw [e9]; first | exact sh_le _ _ | exact Nat.le_trans (sh_le _ _) (by rw [Int.natAbs_neg]; exact Nat.le_refl _), fun q h1 h2 h3 => by (rw [fT_ne _ _ (by omega), fT_ne _ _ (by omega), fT_ne _ _ (by omega), fT_ne _ _ (by omega), fT_ne _ _ (by omega), fT_ne _ _ (by omega), f23_1_2 _ (by omega) (by omega), fT_ne _ _ (by omega), fT_ne _ _ (by omega)]), by (have e9 : (fT (fT (fT (fT (fT (fT m223_1 7 (((-xa)).tdiv ((Int.gcd (-xa) (-xb) : Nat) : Int))) 8 (((-xa)).tmod ((Int.gcd (-xa) (-xb) : Nat) : Int))) an (((-xa)).tdiv ((Int.gcd (-xa) (-xb) : Nat) : Int))) 7 (((-xb)).tdiv ((Int.gcd (-xa) (-xb) : Nat) : Int))) 8 (((-xb)).tmod ((Int.gcd (-xa) (-xb) : Nat) : Int))) bn (((-xb)).tdiv ((Int.gcd (-xa) (-xb) : Nat) : Int))) bn = (((-xb)).tdiv ((Int.gcd (-xa) (-xb) : Nat) : Int)) := (by rw [fT_eq])); rw [e9]; exact tdiv_pos (by omega) (gcd_pos (by omega)) (gcd_le (by omega))⟩, by rw [ht]; exact hP, hD⟩, hS.F ht⟩) hS.2.2 dX12_shorten_62
theorem dX12_against_0 : decode cX12_against 0 = .ok (.aload_n 0, 1) := dk_42 (by decide +kernel)
theorem dX12_against_1 : decode cX12_against 1 = .ok (.iconst 3, 1) := dk_6 (by decide +kernel)
theorem dX12_against_2 : decode cX12_against 2 = .ok (.iload_n 1, 1) := dk_27 (by decide +kernel)
theorem dX12_against_3 : decode cX12_against 3 = .ok (.iload 4, 2) := dk_21 (by decide +kernel)
theorem dX12_against_5 : decode cX12_against 5 = .ok (.invokevirtual 390, 3) := dk_182 (by decide +kernel)
theorem dX12_against_8 : decode cX12_against 8 = .ok (.aload_n 0, 1) := dk_42 (by decide +kernel)
theorem dX12_against_9 : decode cX12_against 9 = .ok (.iconst 4, 1) := dk_7 (by decide +kernel)
theorem dX12_against_10 : decode cX12_against 10 = .ok (.iload_n 3, 1) := dk_29 (by decide +kernel)
theorem dX12_against_11 : decode cX12_against 11 = .ok (.iload_n 2, 1) := dk_28 (by decide +kernel)
theorem dX12_against_12 : decode cX12_against 12 = .ok (.invokevirtual 390, 3) := dk_182 (by decide +kernel)
theorem dX12_against_15 : decode cX12_against 15 = .ok (.aload_n 0, 1) := dk_42 (by decide +kernel)
theorem dX12_against_16 : decode cX12_against 16 = .ok (.iconst 3, 1) := dk_6 (by decide +kernel)
theorem dX12_against_17 : decode cX12_against 17 = .ok (.iconst 4, 1) := dk_7 (by decide +kernel)
theorem dX12_against_18 : decode cX12_against 18 = .ok (.invokevirtual 393, 3) := dk_182 (by decide +kernel)
theorem dX12_against_21 : decode cX12_against 21 = .ok (.ireturn, 1) := dk_172 (by decide +kernel)
def wsRX12_against : List Cond := .code yX12_against cX12_against 5 (some .int) :: ([] ++ wsX120 ++ (wsV RX12 390 RX12 yX12_times wsRX12_times) ++ (wsV RX12 393 RX12 yX12_compare wsRX12_compare))
theorem iwsRX12_against_in12 : ∀ w ∈ wsX120, w ∈ wsRX12_against := fun _ h => List.mem_cons_of_mem _ (List.mem_append_left _ (List.mem_append_left _ (List.mem_append_right _ h)))
theorem gwsRX12_against_0 : GoodIn wsRX12_against (wsV RX12 390 RX12 yX12_times wsRX12_times) := goodIn_sub (fun _ h => List.mem_cons_of_mem _ (List.mem_append_left _ (List.mem_append_right _ h))) (gdV (by decide +kernel) gdwsRX12_times)
theorem gwsRX12_against_1 : GoodIn wsRX12_against (wsV RX12 393 RX12 yX12_compare wsRX12_compare) := goodIn_sub (fun _ h => List.mem_cons_of_mem _ (List.mem_append_right _ h)) (gdV (by decide +kernel) gdwsRX12_compare)
theorem gdwsRX12_against : wsRX12_against.all goodWord = true := gdC rfl (gdA (gdA (gdA (by decide +kernel : ([] : List Cond).all goodWord = true) gdwsX120) (gdV (by decide +kernel) gdwsRX12_times)) (gdV (by decide +kernel) gdwsRX12_compare))
set_option maxHeartbeats 4000000 in
set_option maxRecDepth 100000 in
/-- against(n, d, m, e) -/
theorem r_X12_against (l : Launch) (dC : Nat → ClassId) (dI : Nat → Nat → Nat) (a : Nat → Nat) (k : Nat → ClassId) (h0 : Nat) (vi : Nat → Int32) (vj : Nat → Int64) (vF : Nat → Nat → Int32) (vG : Nat → Nat → Int64) (nn : Nat) (dn : Nat) (mn : Nat) (en : Nat) (mg : Nat → Int) (hBg : Bg (vF 0) mg) (xn : Int) (xd : Int) (xm : Int) (xe : Int) (v_xn : mg nn = xn) (v_xd : mg dn = xd) (v_xm : mg mn = xm) (v_xe : mg en = xe) (h1 : nn < 1100) (h2 : dn < 1100) (h3 : mn < 1100) (h4 : en < 1100) (h5 : 4 < mn ∧ 4 < dn) (hb1 : xn.natAbs * xe.natAbs < 2 ^ 588) (hb2 : xm.natAbs * xd.natAbs < 2 ^ 588) (sz : Nat) : Met l yX12_against wsRX12_against ({ frames := 2, cells := 0, slots := 0, locals := 59 }) (va_Pc [.ref h0, .int (nI nn), .int (nI dn), .int (nI mn), .int (nI en)] (fun U => U.heap.size = sz ∧ va_P (dC, dI) vwCl (WR a k h0 vi vj vF vG) U.heap ∧ va_K (dC, dI) vwCl (tX12 k) U ∧ va_D (fun _ => True) (WR a k h0 vi vj vF vG))) (va_Qi (fun (r : Int32) (u : (Nat → Int32) × (Nat → Int64) × (Nat → Int)) => (Bg (u.1) (u.2.2)) ∧ (((r).toInt < 0 ∧ xn * xe < xm * xd) ∨ ((r).toInt = 0 ∧ xn * xe = xm * xd) ∨ (0 < (r).toInt ∧ xm * xd < xn * xe)) ∧ (∀ q, (q < 3 ∨ 4 < q) → (u.2.2) q = mg q)) (fun (u : (Nat → Int32) × (Nat → Int64) × (Nat → Int)) t => va_P (dC, dI) vwCl (WR a k h0 vi vj (fT vF 0 (u.1)) (fT vG 1 (u.2.1))) t.heap ∧ va_D (va_A (WR a k h0 vi vj vF vG) sz) (WR a k h0 vi vj (fT vF 0 (u.1)) (fT vG 1 (u.2.1)))) (va_A (WR a k h0 vi vj vF vG) sz)) 0 0 (va_A (WR a k h0 vi vj vF vG) sz) := by
  refine Met.ofW (cc := cX12_against) (maxL := 5) (ret := (some .int)) (by decide) rfl ?_
  intro p e s m args below meth c s₁ B hml hv
  obtain ⟨rfl, hsz, hP, hK, hD0⟩ := hv
  have hx := B.exec
  have hb := B.bytes
  have hr := B.returns
  have hts := atoms_spec (ws := wsRX12_against) B.pre
  have hown : s.vm.findClass RX12 = some m.cls := findClass_of_methodNamed B.named
  have hlocks := B.notSynchronized
  subst hsz
  have hD := hD0.self (sz := s.heap.size)
  generalize hAe : va_A (WR a k h0 vi vj vF vG) s.heap.size = A at hD ⊢
  have hA : ∀ q : Nat, s.heap.size ≤ q → A q := fun q h => by rw [← hAe]; exact Or.inr h
  have hS : va_S A s.heap s.heap [] := va_S.rf
  have hl := lv_entry ([.ref h0, .int (nI nn), .int (nI dn), .int (nI mn), .int (nI en)]) (n := 5) (Nat.le_of_ble_eq_true rfl)
  rw [lg_entry_eq]
  generalize (lg_sl ([.ref h0, .int (nI nn), .int (nI dn), .int (nI mn), .int (nI en)]) ++ List.replicate (5 - (lg_sl ([.ref h0, .int (nI nn), .int (nI dn), .int (nI mn), .int (nI en)])).length) Slot.unset).toArray = ls at hl ⊢
  have hl : lv_has ls 5 [(0, .ref h0), (1, .int (nI nn)), (2, .int (nI dn)), (3, .int (nI mn)), (4, .int (nI en))] := hl
  refine lv_aload_n hx hb dX12_against_0 rfl (lv_at hl 0 rfl) ?_
  refine lv_iconst (v := 3) hx hb dX12_against_1 (by decide) ?_
  refine lv_iload_n hx hb dX12_against_2 rfl (lv_at hl 1 rfl) ?_
  refine lv_iload hx hb dX12_against_3 (lv_at hl 4 rfl) ?_
  have hFc := allFree hD hS hA
  refine va_callv (va_runV (As := [.int 3, .int (nI nn), .int (nI en)]) (rest := []) ⟨hx, hb, hml, hown, hts⟩ (b_X12_times l dC dI a k h0 vi vj vF vG 3 nn en mg hBg xn xe (by rw [v_xn]) (by rw [v_xe]) (by first | with_reducible assumption | decide | omega | rfl | assumption) (by first | with_reducible assumption | decide | omega | rfl | assumption) (by first | with_reducible assumption | decide | omega | rfl | assumption) (by first | with_reducible assumption | decide | omega | rfl | assumption) s.heap.size) (cwV 3 hts gwsRX12_against_0 rfl rfl rfl hd_yX12_times_RX12 (by decide +kernel)) (fz_pre (va_recv hK hP (ci := 12) (q0 := 0) rfl rfl) hP hK hD) rfl rfl hl.1 rfl (lv_room (Nat.le_of_ble_eq_true rfl)) dX12_against_5 (by decide +kernel)) hS (fun q _ h => hFc q h) hFc (fun u t9_ H locs ht hvm hw9 hB9 hz1 hk1 hS => ?_)
  revert u hw9 hB9
  refine fz_p2 ?_
  intro g5 gs5 hw9 hB9
  try dsimp only at hw9 hB9
  have hP : va_P (dC, dI) vwCl (WR a k h0 vi vj (fT vF 0 g5) (fT vG 1 gs5)) H := fz_P ht hB9.1
  have hD := fz_sd hP (hB9.2.weaken (fun _ q _ h => hFc q.1 h)) rfl
  have f5_0 := hw9
  try dsimp only at f5_0
  refine lv_aload_n hx hb dX12_against_8 rfl (lv_at hl 0 rfl) ?_
  refine lv_iconst (v := 4) hx hb dX12_against_9 (by decide) ?_
  refine lv_iload_n hx hb dX12_against_10 rfl (lv_at hl 3 rfl) ?_
  refine lv_iload_n hx hb dX12_against_11 rfl (lv_at hl 2 rfl) ?_
  have hFc := allFree hD hS hA
  refine va_callv (va_runV (As := [.int 4, .int (nI mn), .int (nI dn)]) (rest := []) ⟨hx, hb, hml, hown, hts⟩ (b_X12_times l dC dI a k h0 vi vj (fT vF 0 g5) (fT vG 1 gs5) 4 mn dn (fT mg 3 (xn * xe)) f5_0 xm xd (by rw [fT_ne _ _ (by omega), v_xm]) (by rw [fT_ne _ _ (by omega), v_xd]) (by first | with_reducible assumption | decide | omega | rfl | assumption) (by first | with_reducible assumption | decide | omega | rfl | assumption) (by first | with_reducible assumption | decide | omega | rfl | assumption) (by first | with_reducible assumption | decide | omega | rfl | assumption) H.size) (cwV 3 hts gwsRX12_against_0 rfl rfl rfl hd_yX12_times_RX12 (by decide +kernel)) (fz_pre (va_recv hK hP (ci := 12) (q0 := 0) rfl rfl) hP hK hD) rfl rfl hl.1 rfl (lv_room (Nat.le_of_ble_eq_true rfl)) dX12_against_12 (by decide +kernel)) hS (fun q _ h => hFc q h) hFc (fun u t9_ H locs ht hvm hw9 hB9 hz1 hk1 hS => ?_)
  revert u hw9 hB9
  refine fz_p2 ?_
  intro g12 gs12 hw9 hB9
  try dsimp only at hw9 hB9
  have e9F : fT vF 0 g12 = fT (fT vF 0 g5) 0 g12 := (fT_sm _ _ _ _).symm
  have e9G : fT vG 1 gs12 = fT (fT vG 1 gs5) 1 gs12 := (fT_sm _ _ _ _).symm
  have hP := wr_PG e9G (wr_PF e9F (fz_P ht hB9.1))
  have hD := wr_DG e9G (wr_DF e9F (hB9.2.weaken (fun _ q _ h => hFc q.1 h)))
  clear e9F e9G
  have f12_0 := hw9
  try dsimp only at f12_0
  refine lv_aload_n hx hb dX12_against_15 rfl (lv_at hl 0 rfl) ?_
  refine lv_iconst (v := 3) hx hb dX12_against_16 (by decide) ?_
  refine lv_iconst (v := 4) hx hb dX12_against_17 (by decide) ?_
  have hFc := allFree hD hS hA
  refine va_calli (va_runV (As := [.int 3, .int 4]) (rest := []) ⟨hx, hb, hml, hown, hts⟩ (b_X12_compare l dC dI a k h0 vi vj (fT vF 0 g12) (fT vG 1 gs12) 3 4 (fT (fT mg 3 (xn * xe)) 4 (xm * xd)) f12_0 (xn * xe) (xm * xd) (by rw [fT_ne _ _ (by omega), fT_eq]) (by rw [fT_eq]) (by first | with_reducible assumption | decide | omega | rfl | assumption) (by first | with_reducible assumption | decide | omega | rfl | assumption) H.size) (cwV 2 hts gwsRX12_against_1 rfl rfl rfl hd_yX12_compare_RX12 (by decide +kernel)) (fz_pre (va_recv hK hP (ci := 12) (q0 := 0) rfl rfl) hP hK hD) rfl rfl hl.1 rfl (lv_room (Nat.le_of_ble_eq_true rfl)) dX12_against_18 (by decide +kernel)) hS (fun q _ h => hFc q h) hFc (fun r18 u t9_ H locs ht hvm hw9 hB9 hz1 hk1 hS => ?_)
  have hP : va_P (dC, dI) vwCl (WR a k h0 vi vj (fT vF 0 g12) (fT vG 1 gs12)) H := fz_P ht hB9.1
  have hD := fz_sd hP (hB9.2.weaken (fun _ q _ h => hFc q.1 h)) rfl
  have f18_0 := hw9
  try dsimp only at f18_0
  refine W.widen (k := 0) (n := 0) (by decide +kernel) (by decide +kernel) ?_
  exact W.iret (v := r18) hx hb hr (fun t9_ ht hW => ⟨⟨r18, (g12, gs12, (fT (fT mg 3 (xn * xe)) 4 (xm * xd))), rfl, by (try dsimp only); exact ⟨f12_0, f18_0, fun q h1 => by (rw [fT_ne _ _ (by omega), fT_ne _ _ (by omega)])⟩, by rw [ht]; exact hP, hD⟩, hS.F ht⟩) hS.2.2 dX12_against_21
end
section
theorem worth_big {f : Nat → Int32} {s n : Nat} {x : Int} (h2 : 2 < n) (hL : Lm f (24 * s + 2) n) (ht : 0 < n → f (24 * s + 1 + n) ≠ 0) (hx : x.natAbs = lv28 f (24 * s + 2) n) : 72057594037927936 ≤ x.natAbs := by
  obtain ⟨k, rfl⟩ : ∃ k, n = k + 1 := ⟨n - 1, by omega⟩
  have h := lv28_ge hL (by rw [show 24 * s + 2 + k = 24 * s + 1 + (k + 1) by omega]; exact ht (by omega))
  have h3 : 2 ^ (28 * 2) ≤ 2 ^ (28 * k) := Nat.pow_le_pow_right (by decide) (by omega)
  rw [hx]; omega
theorem limbs_lt {f : Nat → Int32} {o n k : Nat} (hL : Lm f o n) (h : n ≤ k) : lv28 f o n < 2 ^ (28 * k) :=
  Nat.lt_of_lt_of_le (lv28_lt hL) (Nat.pow_le_pow_right (by decide) (by omega))
theorem mulS3 {x y : Int32} (hx : x.toInt = 0 ∨ x.toInt = 1 ∨ x.toInt = -1) (hy : -1073741824 < y.toInt ∧ y.toInt < 1073741824) : (x * y).toInt = x.toInt * y.toInt := by
  rcases hx with h | h | h
  · have e : x = 0 := Int32.toInt_inj.mp (by rw [h]; decide)
    rw [e, Int32.zero_mul]; simp
  · exact mulS (Or.inl h) hy
  · exact mulS (Or.inr h) hy
theorem small_low {f : Nat → Int32} {s n l0 : Nat} {x : Int} (h0 : 0 < n) (hL : Lm f (24 * s + 2) n) (ht : 0 < n → f (24 * s + 1 + n) ≠ 0) (hx : x.natAbs = lv28 f (24 * s + 2) n) (e : f (24 * s + 2 + 0) = nI l0) (hl : l0 < 268435456) (hb : x.natAbs < 268435456) : x.natAbs = l0 := by
  have hn : n = 1 := by
    rcases Nat.lt_or_ge 1 n with h | h
    · exfalso
      obtain ⟨k, rfl⟩ : ∃ k, n = k + 1 := ⟨n - 1, by omega⟩
      have h := lv28_ge hL (by rw [show 24 * s + 2 + k = 24 * s + 1 + (k + 1) by omega]; exact ht (by omega))
      have h3 : 2 ^ (28 * 1) ≤ 2 ^ (28 * k) := Nat.pow_le_pow_right (by decide) (by omega)
      omega
    · omega
  subst hn
  rw [hx]
  simp only [lv28]
  rw [e, nI_clamp (by omega)]
  simp
theorem gcd_stepN (x y : Nat) : Nat.gcd y (x % y) = Nat.gcd x y := by
  rw [Nat.gcd_comm, ← Nat.gcd_rec, Nat.gcd_comm]
end

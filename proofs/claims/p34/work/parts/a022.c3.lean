theorem dX12_bare_0 : decode cX12_bare 0 = .ok (.aload_n 0, 1) := dk_42 (by decide +kernel)
theorem dX12_bare_1 : decode cX12_bare 1 = .ok (.getfield 7, 3) := dk_180 (by decide +kernel)
theorem dX12_bare_4 : decode cX12_bare 4 = .ok (.bipush 24, 2) := dk_16 (by decide +kernel)
theorem dX12_bare_6 : decode cX12_bare 6 = .ok (.iload_n 1, 1) := dk_27 (by decide +kernel)
theorem dX12_bare_7 : decode cX12_bare 7 = .ok (.imul, 1) := dk_104 (by decide +kernel)
theorem dX12_bare_8 : decode cX12_bare 8 = .ok (.iconst 1, 1) := dk_4 (by decide +kernel)
theorem dX12_bare_9 : decode cX12_bare 9 = .ok (.iadd, 1) := dk_96 (by decide +kernel)
theorem dX12_bare_10 : decode cX12_bare 10 = .ok (.iaload, 1) := dk_46 (by decide +kernel)
theorem dX12_bare_11 : decode cX12_bare 11 = .ok (.istore_n 3, 1) := dk_62 (by decide +kernel)
theorem dX12_bare_12 : decode cX12_bare 12 = .ok (.iload_n 3, 1) := dk_29 (by decide +kernel)
theorem dX12_bare_13 : decode cX12_bare 13 = .ok (.aload_n 0, 1) := dk_42 (by decide +kernel)
theorem dX12_bare_14 : decode cX12_bare 14 = .ok (.getfield 7, 3) := dk_180 (by decide +kernel)
theorem dX12_bare_17 : decode cX12_bare 17 = .ok (.bipush 24, 2) := dk_16 (by decide +kernel)
theorem dX12_bare_19 : decode cX12_bare 19 = .ok (.iload_n 2, 1) := dk_28 (by decide +kernel)
theorem dX12_bare_20 : decode cX12_bare 20 = .ok (.imul, 1) := dk_104 (by decide +kernel)
theorem dX12_bare_21 : decode cX12_bare 21 = .ok (.iconst 1, 1) := dk_4 (by decide +kernel)
theorem dX12_bare_22 : decode cX12_bare 22 = .ok (.iadd, 1) := dk_96 (by decide +kernel)
theorem dX12_bare_23 : decode cX12_bare 23 = .ok (.iaload, 1) := dk_46 (by decide +kernel)
theorem dX12_bare_24 : decode cX12_bare 24 = .ok (.if_icmp .eq 17, 3) := dk_159 (by decide +kernel)
theorem dX12_bare_27 : decode cX12_bare 27 = .ok (.iload_n 3, 1) := dk_29 (by decide +kernel)
theorem dX12_bare_28 : decode cX12_bare 28 = .ok (.aload_n 0, 1) := dk_42 (by decide +kernel)
theorem dX12_bare_29 : decode cX12_bare 29 = .ok (.getfield 7, 3) := dk_180 (by decide +kernel)
theorem dX12_bare_32 : decode cX12_bare 32 = .ok (.bipush 24, 2) := dk_16 (by decide +kernel)
theorem dX12_bare_34 : decode cX12_bare 34 = .ok (.iload_n 2, 1) := dk_28 (by decide +kernel)
theorem dX12_bare_35 : decode cX12_bare 35 = .ok (.imul, 1) := dk_104 (by decide +kernel)
theorem dX12_bare_36 : decode cX12_bare 36 = .ok (.iconst 1, 1) := dk_4 (by decide +kernel)
theorem dX12_bare_37 : decode cX12_bare 37 = .ok (.iadd, 1) := dk_96 (by decide +kernel)
theorem dX12_bare_38 : decode cX12_bare 38 = .ok (.iaload, 1) := dk_46 (by decide +kernel)
theorem dX12_bare_39 : decode cX12_bare 39 = .ok (.isub, 1) := dk_100 (by decide +kernel)
theorem dX12_bare_40 : decode cX12_bare 40 = .ok (.ireturn, 1) := dk_172 (by decide +kernel)
theorem dX12_bare_41 : decode cX12_bare 41 = .ok (.iload_n 3, 1) := dk_29 (by decide +kernel)
theorem dX12_bare_42 : decode cX12_bare 42 = .ok (.iconst 1, 1) := dk_4 (by decide +kernel)
theorem dX12_bare_43 : decode cX12_bare 43 = .ok (.isub, 1) := dk_100 (by decide +kernel)
theorem dX12_bare_44 : decode cX12_bare 44 = .ok (.istore 4, 2) := dk_54 (by decide +kernel)
theorem dX12_bare_46 : decode cX12_bare 46 = .ok (.iload 4, 2) := dk_21 (by decide +kernel)
theorem dX12_bare_48 : decode cX12_bare 48 = .ok (.ifCond .lt 70, 3) := dk_155 (by decide +kernel)
theorem dX12_bare_51 : decode cX12_bare 51 = .ok (.aload_n 0, 1) := dk_42 (by decide +kernel)
theorem dX12_bare_52 : decode cX12_bare 52 = .ok (.getfield 7, 3) := dk_180 (by decide +kernel)
theorem dX12_bare_55 : decode cX12_bare 55 = .ok (.bipush 24, 2) := dk_16 (by decide +kernel)
theorem dX12_bare_57 : decode cX12_bare 57 = .ok (.iload_n 1, 1) := dk_27 (by decide +kernel)
theorem dX12_bare_58 : decode cX12_bare 58 = .ok (.imul, 1) := dk_104 (by decide +kernel)
theorem dX12_bare_59 : decode cX12_bare 59 = .ok (.iconst 2, 1) := dk_5 (by decide +kernel)
theorem dX12_bare_60 : decode cX12_bare 60 = .ok (.iadd, 1) := dk_96 (by decide +kernel)
theorem dX12_bare_61 : decode cX12_bare 61 = .ok (.iload 4, 2) := dk_21 (by decide +kernel)
theorem dX12_bare_63 : decode cX12_bare 63 = .ok (.iadd, 1) := dk_96 (by decide +kernel)
theorem dX12_bare_64 : decode cX12_bare 64 = .ok (.iaload, 1) := dk_46 (by decide +kernel)
theorem dX12_bare_65 : decode cX12_bare 65 = .ok (.aload_n 0, 1) := dk_42 (by decide +kernel)
theorem dX12_bare_66 : decode cX12_bare 66 = .ok (.getfield 7, 3) := dk_180 (by decide +kernel)
theorem dX12_bare_69 : decode cX12_bare 69 = .ok (.bipush 24, 2) := dk_16 (by decide +kernel)
theorem dX12_bare_71 : decode cX12_bare 71 = .ok (.iload_n 2, 1) := dk_28 (by decide +kernel)
theorem dX12_bare_72 : decode cX12_bare 72 = .ok (.imul, 1) := dk_104 (by decide +kernel)
theorem dX12_bare_73 : decode cX12_bare 73 = .ok (.iconst 2, 1) := dk_5 (by decide +kernel)
theorem dX12_bare_74 : decode cX12_bare 74 = .ok (.iadd, 1) := dk_96 (by decide +kernel)
theorem dX12_bare_75 : decode cX12_bare 75 = .ok (.iload 4, 2) := dk_21 (by decide +kernel)
theorem dX12_bare_77 : decode cX12_bare 77 = .ok (.iadd, 1) := dk_96 (by decide +kernel)
theorem dX12_bare_78 : decode cX12_bare 78 = .ok (.iaload, 1) := dk_46 (by decide +kernel)
theorem dX12_bare_79 : decode cX12_bare 79 = .ok (.if_icmp .eq 33, 3) := dk_159 (by decide +kernel)
theorem dX12_bare_82 : decode cX12_bare 82 = .ok (.aload_n 0, 1) := dk_42 (by decide +kernel)
theorem dX12_bare_83 : decode cX12_bare 83 = .ok (.getfield 7, 3) := dk_180 (by decide +kernel)
theorem dX12_bare_86 : decode cX12_bare 86 = .ok (.bipush 24, 2) := dk_16 (by decide +kernel)
theorem dX12_bare_88 : decode cX12_bare 88 = .ok (.iload_n 1, 1) := dk_27 (by decide +kernel)
theorem dX12_bare_89 : decode cX12_bare 89 = .ok (.imul, 1) := dk_104 (by decide +kernel)
theorem dX12_bare_90 : decode cX12_bare 90 = .ok (.iconst 2, 1) := dk_5 (by decide +kernel)
theorem dX12_bare_91 : decode cX12_bare 91 = .ok (.iadd, 1) := dk_96 (by decide +kernel)
theorem dX12_bare_92 : decode cX12_bare 92 = .ok (.iload 4, 2) := dk_21 (by decide +kernel)
theorem dX12_bare_94 : decode cX12_bare 94 = .ok (.iadd, 1) := dk_96 (by decide +kernel)
theorem dX12_bare_95 : decode cX12_bare 95 = .ok (.iaload, 1) := dk_46 (by decide +kernel)
theorem dX12_bare_96 : decode cX12_bare 96 = .ok (.aload_n 0, 1) := dk_42 (by decide +kernel)
theorem dX12_bare_97 : decode cX12_bare 97 = .ok (.getfield 7, 3) := dk_180 (by decide +kernel)
theorem dX12_bare_100 : decode cX12_bare 100 = .ok (.bipush 24, 2) := dk_16 (by decide +kernel)
theorem dX12_bare_102 : decode cX12_bare 102 = .ok (.iload_n 2, 1) := dk_28 (by decide +kernel)
theorem dX12_bare_103 : decode cX12_bare 103 = .ok (.imul, 1) := dk_104 (by decide +kernel)
theorem dX12_bare_104 : decode cX12_bare 104 = .ok (.iconst 2, 1) := dk_5 (by decide +kernel)
theorem dX12_bare_105 : decode cX12_bare 105 = .ok (.iadd, 1) := dk_96 (by decide +kernel)
theorem dX12_bare_106 : decode cX12_bare 106 = .ok (.iload 4, 2) := dk_21 (by decide +kernel)
theorem dX12_bare_108 : decode cX12_bare 108 = .ok (.iadd, 1) := dk_96 (by decide +kernel)
theorem dX12_bare_109 : decode cX12_bare 109 = .ok (.iaload, 1) := dk_46 (by decide +kernel)
theorem dX12_bare_110 : decode cX12_bare 110 = .ok (.isub, 1) := dk_100 (by decide +kernel)
theorem dX12_bare_111 : decode cX12_bare 111 = .ok (.ireturn, 1) := dk_172 (by decide +kernel)
theorem dX12_bare_112 : decode cX12_bare 112 = .ok (.iinc 4 (-1), 3) := dk_132 (by decide +kernel)
theorem dX12_bare_115 : decode cX12_bare 115 = .ok (.goto (-69), 3) := dk_167 (by decide +kernel)
theorem dX12_bare_118 : decode cX12_bare 118 = .ok (.iconst 0, 1) := dk_3 (by decide +kernel)
theorem dX12_bare_119 : decode cX12_bare 119 = .ok (.ireturn, 1) := dk_172 (by decide +kernel)
def wsRX12_bare : List Cond := .code yX12_bare cX12_bare 5 (some .int) :: ([.fieldLink RX12 7 "OptimaWorksModel" "big" "[I"] ++ wsX120)
theorem iwsRX12_bare_in12 : ∀ w ∈ wsX120, w ∈ wsRX12_bare := fun _ h => List.mem_cons_of_mem _ (List.mem_append_right _ h)
set_option maxHeartbeats 4000000 in
set_option maxRecDepth 100000 in
/-- bare(a, b) -/
theorem r_X12_bare (l : Launch) (dC : Nat → ClassId) (dI : Nat → Nat → Nat) (a : Nat → Nat) (k : Nat → ClassId) (h0 : Nat) (vi : Nat → Int32) (vj : Nat → Int64) (vF : Nat → Nat → Int32) (vG : Nat → Nat → Int64) (an : Nat) (bn : Nat) (xa : Int) (xb : Int) (hna : an < 1100) (hnb : bn < 1100) (hxa : Nu (vF 0) an xa) (hxb : Nu (vF 0) bn xb) (sz : Nat) : Met l yX12_bare wsRX12_bare ({ frames := 0, cells := 0, slots := 0, locals := 0 }) (va_Pc [.ref h0, .int (nI an), .int (nI bn)] (fun U => U.heap.size = sz ∧ va_P (dC, dI) vwCl (WR a k h0 vi vj vF vG) U.heap ∧ va_K (dC, dI) vwCl (tX12 k) U ∧ va_D (fun _ => True) (WR a k h0 vi vj vF vG))) (va_Qi (fun (r : Int32) (u : Unit) => (((r).toInt < 0 ∧ (xa).natAbs < (xb).natAbs) ∨ ((r).toInt = 0 ∧ (xa).natAbs = (xb).natAbs) ∨ (0 < (r).toInt ∧ (xb).natAbs < (xa).natAbs)) ∧ (-1073741824 < (r).toInt ∧ (r).toInt < 1073741824)) (fun (u : Unit) t => va_P (dC, dI) vwCl (WR a k h0 vi vj vF vG) t.heap ∧ va_D (va_A (WR a k h0 vi vj vF vG) sz) (WR a k h0 vi vj vF vG)) (va_A (WR a k h0 vi vj vF vG) sz)) 0 0 (va_A (WR a k h0 vi vj vF vG) sz) := by
  refine Met.ofW (cc := cX12_bare) (maxL := 5) (ret := (some .int)) (by decide) rfl ?_
  intro p e s m args below meth c s₁ B hml hv
  obtain ⟨rfl, hsz, hP, hK, hD0⟩ := hv
  have hx := B.exec
  have hb := B.bytes
  have hr := B.returns
  have hts := atoms_spec (ws := wsRX12_bare) B.pre
  have hown : s.vm.findClass RX12 = some m.cls := findClass_of_methodNamed B.named
  have hlocks := B.notSynchronized
  subst hsz
  have hD := hD0.self (sz := s.heap.size)
  generalize hAe : va_A (WR a k h0 vi vj vF vG) s.heap.size = A at hD ⊢
  have hA : ∀ q : Nat, s.heap.size ≤ q → A q := fun q h => by rw [← hAe]; exact Or.inr h
  have hS : va_S A s.heap s.heap [] := va_S.rf
  have hl := lv_entry ([.ref h0, .int (nI an), .int (nI bn)]) (n := 5) (Nat.le_of_ble_eq_true rfl)
  rw [lg_entry_eq]
  generalize (lg_sl ([.ref h0, .int (nI an), .int (nI bn)]) ++ List.replicate (5 - (lg_sl ([.ref h0, .int (nI an), .int (nI bn)])).length) Slot.unset).toArray = ls at hl ⊢
  have hl : lv_has ls 5 [(0, .ref h0), (1, .int (nI an)), (2, .int (nI bn))] := hl
  obtain ⟨na, hna1, hna2, hna3, hna4, hna5, hna6⟩ := id hxa
  obtain ⟨nb_, hnb1, hnb2, hnb3, hnb4, hnb5, hnb6⟩ := id hxb
  refine lv_aload_n hx hb dX12_bare_0 rfl (lv_at hl 0 rfl) ?_
  refine va_get (D := (dC, dI)) (ci := 12) (v := .ref (a 0)) (C := RX12) (T := TX12) (N := 163) (fs := fM (vS a vi vj)) hx hb hts iwsRX12_bare_in12 hown hK hP 0 rfl rfl 1 (by decide) (hts (.fieldLink RX12 7 "OptimaWorksModel" "big" "[I") (by decide +kernel)) (fun _ h9 => h9) rfl dX12_bare_1 ?_
  refine lv_bipush (v := 24) hx hb dX12_bare_4 (by decide) ?_
  refine lv_iload_n hx hb dX12_bare_6 rfl (lv_at hl 1 rfl) ?_
  refine lv_imul hx hb dX12_bare_7 ?_
  refine lv_topi (fun y1 hy1 => ?_)
  obtain rfl : (nI (24 * an)) = y1 := (hy1.trans (pk_mul 24 an)).symm
  refine lv_iconst (v := 1) hx hb dX12_bare_8 (by decide) ?_
  refine lv_iadd hx hb dX12_bare_9 ?_
  refine lv_topi (fun y2 hy2 => ?_)
  obtain rfl : (nI ((24 * an) + 1)) = y2 := (hy2.trans (nI_add (24 * an) 1)).symm
  refine va_iald (cA := k 0) (n := 26400) (f := (vF 0)) hx hb hK hP 1 0 (WR_get 0 (by decide)) (TR_get 0 (by decide)) (vp_in_nI (show ((24 * an) + 1) < 26400 by omega) (by omega)) dX12_bare_10 ?_
  refine lv_topi (fun y3 hy3 => ?_)
  obtain rfl : ((vF 0) ((24 * an) + 1)) = y3 := (hy3.trans (by rw [nI_clamp (by omega)])).symm
  refine lv_topi (fun y4 hy4 => ?_)
  obtain rfl : (nI na) = y4 := (hy4.trans (hna2)).symm
  refine lv_istore_n hx hb dX12_bare_11 rfl hl (by decide) rfl (fun ls (hl : lv_has ls _ ([(3, .int (nI na)), (0, .ref h0), (1, .int (nI an)), (2, .int (nI bn))])) => ?_)
  refine lv_iload_n hx hb dX12_bare_12 rfl (lv_at hl 0 rfl) ?_
  refine lv_aload_n hx hb dX12_bare_13 rfl (lv_at hl 1 rfl) ?_
  refine va_get (D := (dC, dI)) (ci := 12) (v := .ref (a 0)) (C := RX12) (T := TX12) (N := 163) (fs := fM (vS a vi vj)) hx hb hts iwsRX12_bare_in12 hown hK hP 0 rfl rfl 1 (by decide) (hts (.fieldLink RX12 7 "OptimaWorksModel" "big" "[I") (by decide +kernel)) (fun _ h9 => h9) rfl dX12_bare_14 ?_
  refine lv_bipush (v := 24) hx hb dX12_bare_17 (by decide) ?_
  refine lv_iload_n hx hb dX12_bare_19 rfl (lv_at hl 3 rfl) ?_
  refine lv_imul hx hb dX12_bare_20 ?_
  refine lv_topi (fun y5 hy5 => ?_)
  obtain rfl : (nI (24 * bn)) = y5 := (hy5.trans (pk_mul 24 bn)).symm
  refine lv_iconst (v := 1) hx hb dX12_bare_21 (by decide) ?_
  refine lv_iadd hx hb dX12_bare_22 ?_
  refine lv_topi (fun y6 hy6 => ?_)
  obtain rfl : (nI ((24 * bn) + 1)) = y6 := (hy6.trans (nI_add (24 * bn) 1)).symm
  refine va_iald (cA := k 0) (n := 26400) (f := (vF 0)) hx hb hK hP 1 0 (WR_get 0 (by decide)) (TR_get 0 (by decide)) (vp_in_nI (show ((24 * bn) + 1) < 26400 by omega) (by omega)) dX12_bare_23 ?_
  refine lv_topi (fun y7 hy7 => ?_)
  obtain rfl : ((vF 0) ((24 * bn) + 1)) = y7 := (hy7.trans (by rw [nI_clamp (by omega)])).symm
  refine lv_topi (fun y8 hy8 => ?_)
  obtain rfl : (nI nb_) = y8 := (hy8.trans (hnb2)).symm
  refine lv_icmp_eq (tgt := 41) hx hb dX12_bare_24 (by decide) (fun c_24 => ?_) (fun c_24 => ?_)
  · have t_24 : ((na : Nat) : Int) = ((nb_ : Nat) : Int) := toI_eq c_24 (nI_toInt (by omega)) (nI_toInt (by omega))
    refine lv_iload_n hx hb dX12_bare_41 rfl (lv_at hl 0 rfl) ?_
    refine lv_iconst (v := 1) hx hb dX12_bare_42 (by decide) ?_
    refine lv_isub hx hb dX12_bare_43 ?_
    refine lv_istore hx hb dX12_bare_44 hl (by decide) rfl (fun ls (hl : lv_has ls _ ([(4, .int ((nI na) - 1)), (3, .int (nI na)), (0, .ref h0), (1, .int (nI an)), (2, .int (nI bn))])) => ?_)
    have hl : lv_has _ _ ([(4, .int ((nI na) - 1)), (0, .ref h0), (1, .int (nI an)), (2, .int (nI bn))]) := lv_sub hl [0, 2, 3, 4] rfl
    refine (fun (loop : ∀ (n9 : Nat) (kq : Int32) (kk1 : Nat) (H : Heap) (locs : List Loc) (ls : Array Slot), ((kq).toInt = (kk1 : Int) - 1) → (kk1 ≤ na) → (∀ q, kk1 ≤ q → q < na → vF 0 (24 * an + 2 + q) = vF 0 (24 * bn + 2 + q)) →  (kk1 < n9) → va_P (dC, dI) vwCl (WR a k h0 vi vj vF vG) H → va_D A (WR a k h0 vi vj vF vG) → va_S A s.heap H locs → lv_has ls 5 [(4, .int kq), (0, .ref h0), (1, .int (nI an)), (2, .int (nI bn))] → W p l e _ s m _ below meth c H locs 0 0 _ (F0 m 46 ls [])) => loop (na + 1) ((nI na) - 1) na _ _ _ (by exact pk_sub_toInt (a := na) (b := 1) (by omega) (by omega)) (by omega) (fun q h1 h2 => absurd h1 (by omega)) (by omega) hP hD hS hl) ?_
    intro n9
    induction n9 with
    | zero => intro kq kk1 H locs ls hkq hkn heq hf9; exact False.elim (by omega)
    | succ n9 ih46 =>
      intro kq kk1 H locs ls hkq hkn heq hf46 hP hD hS hl
      refine lv_iload hx hb dX12_bare_46 (lv_at hl 0 rfl) ?_
      refine lv_if_lt (tgt := 118) hx hb dX12_bare_48 (by decide) (fun c_48 => ?_) (fun c_48 => ?_)
      · have t_48 : (kq).toInt < 0 := toI_lt c_48 rfl (by decide)
        refine lv_iconst (v := 0) hx hb dX12_bare_118 (by decide) ?_
        refine W.widen (k := 0) (n := 0) (by decide +kernel) (by decide +kernel) ?_
        exact W.iret (v := 0) hx hb hr (fun t9_ ht hW => ⟨⟨0, (), rfl, by (try dsimp only); exact ⟨by (have en : nb_ = na := by omega); exact Or.inr (Or.inl ⟨by decide, by rw [hna5, hnb5, en]; exact lv28_congr (fun q hq => heq q (by omega) hq)⟩), by decide⟩, by rw [ht]; exact hP, hD⟩, hS.F ht⟩) hS.2.2 dX12_bare_119
      · have t_48 : ¬ (kq).toInt < 0 := toI_nlt c_48 rfl (by decide)
        obtain ⟨kk, h_kk, rfl⟩ := of_toInt (x := kq) (k := 23) (by omega) (by omega)
        have e_kk : (nI kk).toInt = (kk : Int) := nI_toInt (by omega)
        refine lv_aload_n hx hb dX12_bare_51 rfl (lv_at hl 1 rfl) ?_
        refine va_get (D := (dC, dI)) (ci := 12) (v := .ref (a 0)) (C := RX12) (T := TX12) (N := 163) (fs := fM (vS a vi vj)) hx hb hts iwsRX12_bare_in12 hown hK hP 0 rfl rfl 1 (by decide) (hts (.fieldLink RX12 7 "OptimaWorksModel" "big" "[I") (by decide +kernel)) (fun _ h9 => h9) rfl dX12_bare_52 ?_
        refine lv_bipush (v := 24) hx hb dX12_bare_55 (by decide) ?_
        refine lv_iload_n hx hb dX12_bare_57 rfl (lv_at hl 2 rfl) ?_
        refine lv_imul hx hb dX12_bare_58 ?_
        refine lv_topi (fun y9 hy9 => ?_)
        obtain rfl : (nI (24 * an)) = y9 := (hy9.trans (pk_mul 24 an)).symm
        refine lv_iconst (v := 2) hx hb dX12_bare_59 (by decide) ?_
        refine lv_iadd hx hb dX12_bare_60 ?_
        refine lv_topi (fun y10 hy10 => ?_)
        obtain rfl : (nI ((24 * an) + 2)) = y10 := (hy10.trans (nI_add (24 * an) 2)).symm
        refine lv_iload hx hb dX12_bare_61 (lv_at hl 0 rfl) ?_
        refine lv_iadd hx hb dX12_bare_63 ?_
        refine lv_topi (fun y11 hy11 => ?_)
        obtain rfl : (nI (((24 * an) + 2) + kk)) = y11 := (hy11.trans (nI_add ((24 * an) + 2) kk)).symm
        refine va_iald (cA := k 0) (n := 26400) (f := (vF 0)) hx hb hK hP 1 0 (WR_get 0 (by decide)) (TR_get 0 (by decide)) (vp_in_nI (show (((24 * an) + 2) + kk) < 26400 by omega) (by omega)) dX12_bare_64 ?_
        refine lv_topi (fun y12 hy12 => ?_)
        obtain rfl : ((vF 0) (((24 * an) + 2) + kk)) = y12 := (hy12.trans (by rw [nI_clamp (by omega)])).symm
        refine lv_aload_n hx hb dX12_bare_65 rfl (lv_at hl 1 rfl) ?_
        refine va_get (D := (dC, dI)) (ci := 12) (v := .ref (a 0)) (C := RX12) (T := TX12) (N := 163) (fs := fM (vS a vi vj)) hx hb hts iwsRX12_bare_in12 hown hK hP 0 rfl rfl 1 (by decide) (hts (.fieldLink RX12 7 "OptimaWorksModel" "big" "[I") (by decide +kernel)) (fun _ h9 => h9) rfl dX12_bare_66 ?_
        refine lv_bipush (v := 24) hx hb dX12_bare_69 (by decide) ?_
        refine lv_iload_n hx hb dX12_bare_71 rfl (lv_at hl 3 rfl) ?_
        refine lv_imul hx hb dX12_bare_72 ?_
        refine lv_topi (fun y13 hy13 => ?_)
        obtain rfl : (nI (24 * bn)) = y13 := (hy13.trans (pk_mul 24 bn)).symm
        refine lv_iconst (v := 2) hx hb dX12_bare_73 (by decide) ?_
        refine lv_iadd hx hb dX12_bare_74 ?_
        refine lv_topi (fun y14 hy14 => ?_)
        obtain rfl : (nI ((24 * bn) + 2)) = y14 := (hy14.trans (nI_add (24 * bn) 2)).symm
        refine lv_iload hx hb dX12_bare_75 (lv_at hl 0 rfl) ?_
        refine lv_iadd hx hb dX12_bare_77 ?_
        refine lv_topi (fun y15 hy15 => ?_)
        obtain rfl : (nI (((24 * bn) + 2) + kk)) = y15 := (hy15.trans (nI_add ((24 * bn) + 2) kk)).symm
        refine va_iald (cA := k 0) (n := 26400) (f := (vF 0)) hx hb hK hP 1 0 (WR_get 0 (by decide)) (TR_get 0 (by decide)) (vp_in_nI (show (((24 * bn) + 2) + kk) < 26400 by omega) (by omega)) dX12_bare_78 ?_
        refine lv_topi (fun y16 hy16 => ?_)
        obtain rfl : ((vF 0) (((24 * bn) + 2) + kk)) = y16 := (hy16.trans (by rw [nI_clamp (by omega)])).symm
        refine lv_icmp_eq (tgt := 112) hx hb dX12_bare_79 (by decide) (fun c_79 => ?_) (fun c_79 => ?_)
        · have t_79 : (((vF 0) (((24 * an) + 2) + kk))).toInt = (((vF 0) (((24 * bn) + 2) + kk))).toInt := toI_eq c_79 rfl rfl
          refine lv_iinc (v := ((nI kk) + (-1))) hx hb dX12_bare_112 hl (k := 0) rfl rfl (by decide) rfl (fun ls (hl : lv_has ls _ ([(4, .int ((nI kk) + (-1))), (0, .ref h0), (1, .int (nI an)), (2, .int (nI bn))])) => ?_)
          refine lv_goto (tgt := 46) hx hb dX12_bare_115 (by decide) ?_
          have hl : lv_has _ _ ([(4, .int ((nI kk) + (-1))), (0, .ref h0), (1, .int (nI an)), (2, .int (nI bn))]) := lv_sub hl [0, 1, 2, 3] rfl
          exact ih46 ((nI kk) + (-1)) (kk1 - 1) _ _ _ (by rw [m1T (by omega)]; omega) (by omega) (fun q h1 h2 => by by_cases e9 : q = kk; (rw [e9]; exact c_79); (exact heq q (by omega) h2)) (by omega) hP hD hS hl
        · have t_79 : ¬ (((vF 0) (((24 * an) + 2) + kk))).toInt = (((vF 0) (((24 * bn) + 2) + kk))).toInt := toI_neq c_79 rfl rfl
          have l1 := limb_lt hna3 (q := kk) (by omega)
          have l2 := limb_lt hnb3 (q := kk) (by omega)
          refine lv_aload_n hx hb dX12_bare_82 rfl (lv_at hl 1 rfl) ?_
          refine va_get (D := (dC, dI)) (ci := 12) (v := .ref (a 0)) (C := RX12) (T := TX12) (N := 163) (fs := fM (vS a vi vj)) hx hb hts iwsRX12_bare_in12 hown hK hP 0 rfl rfl 1 (by decide) (hts (.fieldLink RX12 7 "OptimaWorksModel" "big" "[I") (by decide +kernel)) (fun _ h9 => h9) rfl dX12_bare_83 ?_
          refine lv_bipush (v := 24) hx hb dX12_bare_86 (by decide) ?_
          refine lv_iload_n hx hb dX12_bare_88 rfl (lv_at hl 2 rfl) ?_
          refine lv_imul hx hb dX12_bare_89 ?_
          refine lv_topi (fun y17 hy17 => ?_)
          obtain rfl : (nI (24 * an)) = y17 := (hy17.trans (pk_mul 24 an)).symm
          refine lv_iconst (v := 2) hx hb dX12_bare_90 (by decide) ?_
          refine lv_iadd hx hb dX12_bare_91 ?_
          refine lv_topi (fun y18 hy18 => ?_)
          obtain rfl : (nI ((24 * an) + 2)) = y18 := (hy18.trans (nI_add (24 * an) 2)).symm
          refine lv_iload hx hb dX12_bare_92 (lv_at hl 0 rfl) ?_
          refine lv_iadd hx hb dX12_bare_94 ?_
          refine lv_topi (fun y19 hy19 => ?_)
          obtain rfl : (nI (((24 * an) + 2) + kk)) = y19 := (hy19.trans (nI_add ((24 * an) + 2) kk)).symm
          refine va_iald (cA := k 0) (n := 26400) (f := (vF 0)) hx hb hK hP 1 0 (WR_get 0 (by decide)) (TR_get 0 (by decide)) (vp_in_nI (show (((24 * an) + 2) + kk) < 26400 by omega) (by omega)) dX12_bare_95 ?_
          refine lv_topi (fun y20 hy20 => ?_)
          obtain rfl : ((vF 0) (((24 * an) + 2) + kk)) = y20 := (hy20.trans (by rw [nI_clamp (by omega)])).symm
          refine lv_aload_n hx hb dX12_bare_96 rfl (lv_at hl 1 rfl) ?_
          refine va_get (D := (dC, dI)) (ci := 12) (v := .ref (a 0)) (C := RX12) (T := TX12) (N := 163) (fs := fM (vS a vi vj)) hx hb hts iwsRX12_bare_in12 hown hK hP 0 rfl rfl 1 (by decide) (hts (.fieldLink RX12 7 "OptimaWorksModel" "big" "[I") (by decide +kernel)) (fun _ h9 => h9) rfl dX12_bare_97 ?_
          refine lv_bipush (v := 24) hx hb dX12_bare_100 (by decide) ?_
          refine lv_iload_n hx hb dX12_bare_102 rfl (lv_at hl 3 rfl) ?_
          refine lv_imul hx hb dX12_bare_103 ?_
          refine lv_topi (fun y21 hy21 => ?_)
          obtain rfl : (nI (24 * bn)) = y21 := (hy21.trans (pk_mul 24 bn)).symm
          refine lv_iconst (v := 2) hx hb dX12_bare_104 (by decide) ?_
          refine lv_iadd hx hb dX12_bare_105 ?_
          refine lv_topi (fun y22 hy22 => ?_)
          obtain rfl : (nI ((24 * bn) + 2)) = y22 := (hy22.trans (nI_add (24 * bn) 2)).symm
          refine lv_iload hx hb dX12_bare_106 (lv_at hl 0 rfl) ?_
          refine lv_iadd hx hb dX12_bare_108 ?_
          refine lv_topi (fun y23 hy23 => ?_)
          obtain rfl : (nI (((24 * bn) + 2) + kk)) = y23 := (hy23.trans (nI_add ((24 * bn) + 2) kk)).symm
          refine va_iald (cA := k 0) (n := 26400) (f := (vF 0)) hx hb hK hP 1 0 (WR_get 0 (by decide)) (TR_get 0 (by decide)) (vp_in_nI (show (((24 * bn) + 2) + kk) < 26400 by omega) (by omega)) dX12_bare_109 ?_
          refine lv_topi (fun y24 hy24 => ?_)
          obtain rfl : ((vF 0) (((24 * bn) + 2) + kk)) = y24 := (hy24.trans (by rw [nI_clamp (by omega)])).symm
          refine lv_isub hx hb dX12_bare_110 ?_
          refine W.widen (k := 0) (n := 0) (by decide +kernel) (by decide +kernel) ?_
          exact W.iret (v := (((vF 0) (((24 * an) + 2) + kk)) - ((vF 0) (((24 * bn) + 2) + kk)))) hx hb hr (fun t9_ ht hW => ⟨⟨(((vF 0) (((24 * an) + 2) + kk)) - ((vF 0) (((24 * bn) + 2) + kk))), (), rfl, by (try dsimp only); exact ⟨by (have en : nb_ = na := by omega); (have hb3 : Lm (vF 0) (24 * bn + 2) na := by rw [← en]; exact hnb3); (have hb5 : xb.natAbs = lv28 (vF 0) (24 * bn + 2) na := by rw [← en]; exact hnb5); (have e9 : (vF 0 (24 * an + 2 + kk) - vF 0 (24 * bn + 2 + kk)).toInt = (vF 0 (24 * an + 2 + kk)).toInt - (vF 0 (24 * bn + 2 + kk)).toInt := subT ⟨by omega, by omega⟩ ⟨by omega, by omega⟩); rcases Int.lt_or_le (vF 0 (24 * an + 2 + kk)).toInt (vF 0 (24 * bn + 2 + kk)).toInt with h9 | h9; (exact Or.inl ⟨by omega, by rw [hna5, hb5]; exact lv28_less na (k := kk) (by omega) hna3 (fun q h1 h2 => heq q (by omega) h2) (by omega)⟩); (exact Or.inr (Or.inr ⟨by omega, by rw [hna5, hb5]; exact lv28_less na (k := kk) (by omega) hb3 (fun q h1 h2 => (heq q (by omega) h2).symm) (by omega)⟩)), by (have e9 : (vF 0 (24 * an + 2 + kk) - vF 0 (24 * bn + 2 + kk)).toInt = (vF 0 (24 * an + 2 + kk)).toInt - (vF 0 (24 * bn + 2 + kk)).toInt := subT ⟨by omega, by omega⟩ ⟨by omega, by omega⟩); omega⟩, by rw [ht]; exact hP, hD⟩, hS.F ht⟩) hS.2.2 dX12_bare_111
  · have t_24 : ¬ ((na : Nat) : Int) = ((nb_ : Nat) : Int) := toI_neq c_24 (nI_toInt (by omega)) (nI_toInt (by omega))
    refine lv_iload_n hx hb dX12_bare_27 rfl (lv_at hl 0 rfl) ?_
    refine lv_aload_n hx hb dX12_bare_28 rfl (lv_at hl 1 rfl) ?_
    refine va_get (D := (dC, dI)) (ci := 12) (v := .ref (a 0)) (C := RX12) (T := TX12) (N := 163) (fs := fM (vS a vi vj)) hx hb hts iwsRX12_bare_in12 hown hK hP 0 rfl rfl 1 (by decide) (hts (.fieldLink RX12 7 "OptimaWorksModel" "big" "[I") (by decide +kernel)) (fun _ h9 => h9) rfl dX12_bare_29 ?_
    refine lv_bipush (v := 24) hx hb dX12_bare_32 (by decide) ?_
    refine lv_iload_n hx hb dX12_bare_34 rfl (lv_at hl 3 rfl) ?_
    refine lv_imul hx hb dX12_bare_35 ?_
    refine lv_topi (fun y25 hy25 => ?_)
    obtain rfl : (nI (24 * bn)) = y25 := (hy25.trans (pk_mul 24 bn)).symm
    refine lv_iconst (v := 1) hx hb dX12_bare_36 (by decide) ?_
    refine lv_iadd hx hb dX12_bare_37 ?_
    refine lv_topi (fun y26 hy26 => ?_)
    obtain rfl : (nI ((24 * bn) + 1)) = y26 := (hy26.trans (nI_add (24 * bn) 1)).symm
    refine va_iald (cA := k 0) (n := 26400) (f := (vF 0)) hx hb hK hP 1 0 (WR_get 0 (by decide)) (TR_get 0 (by decide)) (vp_in_nI (show ((24 * bn) + 1) < 26400 by omega) (by omega)) dX12_bare_38 ?_
    refine lv_topi (fun y27 hy27 => ?_)
    obtain rfl : ((vF 0) ((24 * bn) + 1)) = y27 := (hy27.trans (by rw [nI_clamp (by omega)])).symm
    refine lv_topi (fun y28 hy28 => ?_)
    obtain rfl : (nI nb_) = y28 := (hy28.trans (hnb2)).symm
    refine lv_isub hx hb dX12_bare_39 ?_
    refine W.widen (k := 0) (n := 0) (by decide +kernel) (by decide +kernel) ?_
    exact W.iret (v := ((nI na) - (nI nb_))) hx hb hr (fun t9_ ht hW => ⟨⟨((nI na) - (nI nb_)), (), rfl, by (try dsimp only); exact ⟨by (have e9 : (nI na - nI nb_).toInt = (na : Int) - nb_ := pk_sub_toInt (by omega) (by omega)); rcases Nat.lt_or_ge na nb_ with h9 | h9; (exact Or.inl ⟨by omega, by rw [hna5, hnb5]; exact lv28_few hna3 hnb3 (by rw [show 24 * bn + 2 + (nb_ - 1) = 24 * bn + 1 + nb_ by omega]; exact hnb4 (by omega)) h9⟩); (exact Or.inr (Or.inr ⟨by omega, by rw [hna5, hnb5]; exact lv28_few hnb3 hna3 (by rw [show 24 * an + 2 + (na - 1) = 24 * an + 1 + na by omega]; exact hna4 (by omega)) (by omega)⟩)), by (have e9 : (nI na - nI nb_).toInt = (na : Int) - nb_ := pk_sub_toInt (by omega) (by omega)); omega⟩, by rw [ht]; exact hP, hD⟩, hS.F ht⟩) hS.2.2 dX12_bare_40
theorem dX12_compare_0 : decode cX12_compare 0 = .ok (.aload_n 0, 1) := dk_42 (by decide +kernel)
theorem dX12_compare_1 : decode cX12_compare 1 = .ok (.iload_n 1, 1) := dk_27 (by decide +kernel)
theorem dX12_compare_2 : decode cX12_compare 2 = .ok (.invokevirtual 353, 3) := dk_182 (by decide +kernel)
theorem dX12_compare_5 : decode cX12_compare 5 = .ok (.istore_n 3, 1) := dk_62 (by decide +kernel)
theorem dX12_compare_6 : decode cX12_compare 6 = .ok (.aload_n 0, 1) := dk_42 (by decide +kernel)
theorem dX12_compare_7 : decode cX12_compare 7 = .ok (.iload_n 2, 1) := dk_28 (by decide +kernel)
theorem dX12_compare_8 : decode cX12_compare 8 = .ok (.invokevirtual 353, 3) := dk_182 (by decide +kernel)
theorem dX12_compare_11 : decode cX12_compare 11 = .ok (.istore 4, 2) := dk_54 (by decide +kernel)
theorem dX12_compare_13 : decode cX12_compare 13 = .ok (.iload_n 3, 1) := dk_29 (by decide +kernel)
theorem dX12_compare_14 : decode cX12_compare 14 = .ok (.iload 4, 2) := dk_21 (by decide +kernel)
theorem dX12_compare_16 : decode cX12_compare 16 = .ok (.if_icmp .eq 10, 3) := dk_159 (by decide +kernel)
theorem dX12_compare_19 : decode cX12_compare 19 = .ok (.iload_n 3, 1) := dk_29 (by decide +kernel)
theorem dX12_compare_20 : decode cX12_compare 20 = .ok (.iload 4, 2) := dk_21 (by decide +kernel)
theorem dX12_compare_22 : decode cX12_compare 22 = .ok (.isub, 1) := dk_100 (by decide +kernel)
theorem dX12_compare_23 : decode cX12_compare 23 = .ok (.goto 19, 3) := dk_167 (by decide +kernel)
theorem dX12_compare_26 : decode cX12_compare 26 = .ok (.iload_n 3, 1) := dk_29 (by decide +kernel)
theorem dX12_compare_27 : decode cX12_compare 27 = .ok (.ifCond .ne 7, 3) := dk_154 (by decide +kernel)
theorem dX12_compare_30 : decode cX12_compare 30 = .ok (.iconst 0, 1) := dk_3 (by decide +kernel)
theorem dX12_compare_31 : decode cX12_compare 31 = .ok (.goto 11, 3) := dk_167 (by decide +kernel)
theorem dX12_compare_34 : decode cX12_compare 34 = .ok (.iload_n 3, 1) := dk_29 (by decide +kernel)
theorem dX12_compare_35 : decode cX12_compare 35 = .ok (.aload_n 0, 1) := dk_42 (by decide +kernel)
theorem dX12_compare_36 : decode cX12_compare 36 = .ok (.iload_n 1, 1) := dk_27 (by decide +kernel)
theorem dX12_compare_37 : decode cX12_compare 37 = .ok (.iload_n 2, 1) := dk_28 (by decide +kernel)
theorem dX12_compare_38 : decode cX12_compare 38 = .ok (.invokevirtual 357, 3) := dk_182 (by decide +kernel)
theorem dX12_compare_41 : decode cX12_compare 41 = .ok (.imul, 1) := dk_104 (by decide +kernel)
theorem dX12_compare_42 : decode cX12_compare 42 = .ok (.ireturn, 1) := dk_172 (by decide +kernel)
def wsRX12_compare : List Cond := .code yX12_compare cX12_compare 5 (some .int) :: ([] ++ wsX120 ++ (wsV RX12 353 RX12 yX12_sign wsRX12_sign) ++ (wsV RX12 357 RX12 yX12_bare wsRX12_bare))
theorem iwsRX12_compare_in12 : ∀ w ∈ wsX120, w ∈ wsRX12_compare := fun _ h => List.mem_cons_of_mem _ (List.mem_append_left _ (List.mem_append_left _ (List.mem_append_right _ h)))
theorem gwsRX12_compare_0 : GoodIn wsRX12_compare (wsV RX12 353 RX12 yX12_sign wsRX12_sign) := goodIn_sub (fun _ h => List.mem_cons_of_mem _ (List.mem_append_left _ (List.mem_append_right _ h))) (by decide +kernel)
theorem gwsRX12_compare_1 : GoodIn wsRX12_compare (wsV RX12 357 RX12 yX12_bare wsRX12_bare) := goodIn_sub (fun _ h => List.mem_cons_of_mem _ (List.mem_append_right _ h)) (by decide +kernel)
set_option maxHeartbeats 4000000 in
set_option maxRecDepth 100000 in
/-- compare(a, b) -/
theorem r_X12_compare (l : Launch) (dC : Nat → ClassId) (dI : Nat → Nat → Nat) (a : Nat → Nat) (k : Nat → ClassId) (h0 : Nat) (vi : Nat → Int32) (vj : Nat → Int64) (vF : Nat → Nat → Int32) (vG : Nat → Nat → Int64) (an : Nat) (bn : Nat) (xa : Int) (xb : Int) (hna : an < 1100) (hnb : bn < 1100) (hxa : Nu (vF 0) an xa) (hxb : Nu (vF 0) bn xb) (sz : Nat) : Met l yX12_compare wsRX12_compare ({ frames := 1, cells := 0, slots := 0, locals := 24 }) (va_Pc [.ref h0, .int (nI an), .int (nI bn)] (fun U => U.heap.size = sz ∧ va_P (dC, dI) vwCl (WR a k h0 vi vj vF vG) U.heap ∧ va_K (dC, dI) vwCl (tX12 k) U ∧ va_D (fun _ => True) (WR a k h0 vi vj vF vG))) (va_Qi (fun (r : Int32) (u : Unit) => (((r).toInt < 0 ∧ xa < xb) ∨ ((r).toInt = 0 ∧ xa = xb) ∨ (0 < (r).toInt ∧ xb < xa))) (fun (u : Unit) t => va_P (dC, dI) vwCl (WR a k h0 vi vj vF vG) t.heap ∧ va_D (va_A (WR a k h0 vi vj vF vG) sz) (WR a k h0 vi vj vF vG)) (va_A (WR a k h0 vi vj vF vG) sz)) 0 0 (va_A (WR a k h0 vi vj vF vG) sz) := by
  refine Met.ofW (cc := cX12_compare) (maxL := 5) (ret := (some .int)) (by decide) rfl ?_
  intro p e s m args below meth c s₁ B hml hv
  obtain ⟨rfl, hsz, hP, hK, hD0⟩ := hv
  have hx := B.exec
  have hb := B.bytes
  have hr := B.returns
  have hts := atoms_spec (ws := wsRX12_compare) B.pre
  have hown : s.vm.findClass RX12 = some m.cls := findClass_of_methodNamed B.named
  have hlocks := B.notSynchronized
  subst hsz
  have hD := hD0.self (sz := s.heap.size)
  generalize hAe : va_A (WR a k h0 vi vj vF vG) s.heap.size = A at hD ⊢
  have hA : ∀ q : Nat, s.heap.size ≤ q → A q := fun q h => by rw [← hAe]; exact Or.inr h
  have hS : va_S A s.heap s.heap [] := va_S.rf
  have hl := lv_entry ([.ref h0, .int (nI an), .int (nI bn)]) (n := 5) (Nat.le_of_ble_eq_true rfl)
  rw [lg_entry_eq]
  generalize (lg_sl ([.ref h0, .int (nI an), .int (nI bn)]) ++ List.replicate (5 - (lg_sl ([.ref h0, .int (nI an), .int (nI bn)])).length) Slot.unset).toArray = ls at hl ⊢
  have hl : lv_has ls 5 [(0, .ref h0), (1, .int (nI an)), (2, .int (nI bn))] := hl
  obtain ⟨na, hna1, hna2, hna3, hna4, hna5, hna6⟩ := id hxa
  obtain ⟨nb_, hnb1, hnb2, hnb3, hnb4, hnb5, hnb6⟩ := id hxb
  have sa := sgT hna6
  have sb := sgT hnb6
  refine lv_aload_n hx hb dX12_compare_0 rfl (lv_at hl 0 rfl) ?_
  refine lv_iload_n hx hb dX12_compare_1 rfl (lv_at hl 1 rfl) ?_
  have hFc := allFree hD hS hA
  refine va_calli (va_runV (As := [.int (nI an)]) (rest := []) ⟨hx, hb, hml, hown, hts⟩ (r_X12_sign l dC dI a k h0 vi vj vF vG an (by first | assumption | decide | omega | rfl) s.heap.size) (cwV 1 hts gwsRX12_compare_0 rfl rfl rfl (by decide +kernel) ⟨by decide +kernel, by decide +kernel⟩) ⟨fun a U g mk q => by obtain ⟨q0, q1, qP, qK, qD⟩ := q; exact ⟨q0, q1, qP, va_K.moved (u := U) (U := U.calling g mk a) (Vm.Alike.refl U.vm) qK, qD⟩, va_recv hK hP (ci := 12) (q0 := 0) rfl rfl, fun U hU9 hW => ⟨rfl, by rw [hU9], by rw [hU9]; exact hP, va_K.moved hW.alike hK, hD.weaken (fun _ _ _ _ => trivial)⟩⟩ rfl rfl hl.1 rfl (lv_room (Nat.le_of_ble_eq_true rfl)) dX12_compare_2 ⟨by decide +kernel, by decide +kernel⟩) hS (fun q _ h => hFc q h) hFc (fun r2 u t9_ H1 locs ht hvm hw9 hB9 hz1 hk1 hS => ?_)
  obtain ⟨hP1, hD1⟩ := hB9
  rw [ht] at hP1
  have hP := hP1
  have hD := hD1.weaken (fun _ q _ h => hFc q.1 h)
  generalize H1 = H at hP hS ⊢
  have hP : va_P (dC, dI) vwCl (WR a k h0 vi vj vF vG) H := hP
  have hD : va_D A (WR a k h0 vi vj vF vG) := hD
  obtain rfl := hw9
  refine lv_istore_n hx hb dX12_compare_5 rfl hl (by decide) rfl (fun ls (hl : lv_has ls _ ([(3, .int (vF 0 (24 * an))), (0, .ref h0), (1, .int (nI an)), (2, .int (nI bn))])) => ?_)
  refine lv_aload_n hx hb dX12_compare_6 rfl (lv_at hl 1 rfl) ?_
  refine lv_iload_n hx hb dX12_compare_7 rfl (lv_at hl 3 rfl) ?_
  have hFc := allFree hD hS hA
  refine va_calli (va_runV (As := [.int (nI bn)]) (rest := []) ⟨hx, hb, hml, hown, hts⟩ (r_X12_sign l dC dI a k h0 vi vj vF vG bn (by first | assumption | decide | omega | rfl) H.size) (cwV 1 hts gwsRX12_compare_0 rfl rfl rfl (by decide +kernel) ⟨by decide +kernel, by decide +kernel⟩) ⟨fun a U g mk q => by obtain ⟨q0, q1, qP, qK, qD⟩ := q; exact ⟨q0, q1, qP, va_K.moved (u := U) (U := U.calling g mk a) (Vm.Alike.refl U.vm) qK, qD⟩, va_recv hK hP (ci := 12) (q0 := 0) rfl rfl, fun U hU9 hW => ⟨rfl, by rw [hU9], by rw [hU9]; exact hP, va_K.moved hW.alike hK, hD.weaken (fun _ _ _ _ => trivial)⟩⟩ rfl rfl hl.1 rfl (lv_room (Nat.le_of_ble_eq_true rfl)) dX12_compare_8 ⟨by decide +kernel, by decide +kernel⟩) hS (fun q _ h => hFc q h) hFc (fun r8 u t9_ H1 locs ht hvm hw9 hB9 hz1 hk1 hS => ?_)
  obtain ⟨hP1, hD1⟩ := hB9
  rw [ht] at hP1
  have hP := hP1
  have hD := hD1.weaken (fun _ q _ h => hFc q.1 h)
  generalize H1 = H at hP hS ⊢
  have hP : va_P (dC, dI) vwCl (WR a k h0 vi vj vF vG) H := hP
  have hD : va_D A (WR a k h0 vi vj vF vG) := hD
  obtain rfl := hw9
  refine lv_istore hx hb dX12_compare_11 hl (by decide) rfl (fun ls (hl : lv_has ls _ ([(4, .int (vF 0 (24 * bn))), (3, .int (vF 0 (24 * an))), (0, .ref h0), (1, .int (nI an)), (2, .int (nI bn))])) => ?_)
  refine lv_iload_n hx hb dX12_compare_13 rfl (lv_at hl 1 rfl) ?_
  refine lv_iload hx hb dX12_compare_14 (lv_at hl 0 rfl) ?_
  refine lv_icmp_eq (tgt := 26) hx hb dX12_compare_16 (by decide) (fun c_16 => ?_) (fun c_16 => ?_)
  · have t_16 : ((vF 0 (24 * an))).toInt = ((vF 0 (24 * bn))).toInt := toI_eq c_16 rfl rfl
    refine lv_iload_n hx hb dX12_compare_26 rfl (lv_at hl 1 rfl) ?_
    refine lv_if_ne (tgt := 34) hx hb dX12_compare_27 (by decide) (fun c_27 => ?_) (fun c_27 => ?_)
    · have t_27 : ((vF 0 (24 * an))).toInt ≠ 0 := toI_ne c_27 rfl (by decide)
      refine lv_iload_n hx hb dX12_compare_34 rfl (lv_at hl 1 rfl) ?_
      refine lv_aload_n hx hb dX12_compare_35 rfl (lv_at hl 2 rfl) ?_
      refine lv_iload_n hx hb dX12_compare_36 rfl (lv_at hl 3 rfl) ?_
      refine lv_iload_n hx hb dX12_compare_37 rfl (lv_at hl 4 rfl) ?_
      have hFc := allFree hD hS hA
      refine va_calli (va_runV (As := [.int (nI an), .int (nI bn)]) (rest := [.int (vF 0 (24 * an))]) ⟨hx, hb, hml, hown, hts⟩ (r_X12_bare l dC dI a k h0 vi vj vF vG an bn xa xb (by first | assumption | decide | omega | rfl) (by first | assumption | decide | omega | rfl) (hxa) (hxb) H.size) (cwV 2 hts gwsRX12_compare_1 rfl rfl rfl (by decide +kernel) ⟨by decide +kernel, by decide +kernel⟩) ⟨fun a U g mk q => by obtain ⟨q0, q1, qP, qK, qD⟩ := q; exact ⟨q0, q1, qP, va_K.moved (u := U) (U := U.calling g mk a) (Vm.Alike.refl U.vm) qK, qD⟩, va_recv hK hP (ci := 12) (q0 := 0) rfl rfl, fun U hU9 hW => ⟨rfl, by rw [hU9], by rw [hU9]; exact hP, va_K.moved hW.alike hK, hD.weaken (fun _ _ _ _ => trivial)⟩⟩ rfl rfl hl.1 rfl (lv_room (Nat.le_of_ble_eq_true rfl)) dX12_compare_38 ⟨by decide +kernel, by decide +kernel⟩) hS (fun q _ h => hFc q h) hFc (fun r38 u t9_ H1 locs ht hvm hw9 hB9 hz1 hk1 hS => ?_)
      obtain ⟨hP1, hD1⟩ := hB9
      rw [ht] at hP1
      have hP := hP1
      have hD := hD1.weaken (fun _ q _ h => hFc q.1 h)
      generalize H1 = H at hP hS ⊢
      have hP : va_P (dC, dI) vwCl (WR a k h0 vi vj vF vG) H := hP
      have hD : va_D A (WR a k h0 vi vj vF vG) := hD
      obtain ⟨f38_0, f38_1⟩ := hw9
      refine lv_imul hx hb dX12_compare_41 ?_
      refine W.widen (k := 0) (n := 0) (by decide +kernel) (by decide +kernel) ?_
      exact W.iret (v := ((vF 0 (24 * an)) * r38)) hx hb hr (fun t9_ ht hW => ⟨⟨((vF 0 (24 * an)) * r38), (), rfl, by (try dsimp only); (have e9 : (((vF 0 (24 * an)) * r38)).toInt = (vF 0 (24 * an)).toInt * (r38).toInt := mulS (by omega) (by omega)); (have e8 : (vF 0 (24 * an)).toInt = 1 ∨ (vF 0 (24 * an)).toInt = -1 := by omega); rcases e8 with e8 | e8 <;> rw [e8] at e9 <;> omega, by rw [ht]; exact hP, hD⟩, hS.F ht⟩) hS.2.2 dX12_compare_42
    · have t_27 : ((vF 0 (24 * an))).toInt = 0 := toI_nne c_27 rfl (by decide)
      refine lv_iconst (v := 0) hx hb dX12_compare_30 (by decide) ?_
      refine lv_goto (tgt := 42) hx hb dX12_compare_31 (by decide) ?_
      refine W.widen (k := 0) (n := 0) (by decide +kernel) (by decide +kernel) ?_
      exact W.iret (v := 0) hx hb hr (fun t9_ ht hW => ⟨⟨0, (), rfl, by (try dsimp only); (have e9 : (0 : Int32).toInt = 0 := by decide); omega, by rw [ht]; exact hP, hD⟩, hS.F ht⟩) hS.2.2 dX12_compare_42
  · have t_16 : ¬ ((vF 0 (24 * an))).toInt = ((vF 0 (24 * bn))).toInt := toI_neq c_16 rfl rfl
    refine lv_iload_n hx hb dX12_compare_19 rfl (lv_at hl 1 rfl) ?_
    refine lv_iload hx hb dX12_compare_20 (lv_at hl 0 rfl) ?_
    refine lv_isub hx hb dX12_compare_22 ?_
    refine lv_goto (tgt := 42) hx hb dX12_compare_23 (by decide) ?_
    refine W.widen (k := 0) (n := 0) (by decide +kernel) (by decide +kernel) ?_
    exact W.iret (v := ((vF 0 (24 * an)) - (vF 0 (24 * bn)))) hx hb hr (fun t9_ ht hW => ⟨⟨((vF 0 (24 * an)) - (vF 0 (24 * bn))), (), rfl, by (try dsimp only); (have e9 : (((vF 0 (24 * an)) - (vF 0 (24 * bn)))).toInt = (vF 0 (24 * an)).toInt - (vF 0 (24 * bn)).toInt := subB (by omega) (by omega)); omega, by rw [ht]; exact hP, hD⟩, hS.F ht⟩) hS.2.2 dX12_compare_42

theorem dX12_isMore_0 : decode cX12_isMore 0 = .ok (.aload_n 0, 1) := dk_42 (by decide +kernel)
theorem dX12_isMore_1 : decode cX12_isMore 1 = .ok (.getfield 17, 3) := dk_180 (by decide +kernel)
theorem dX12_isMore_4 : decode cX12_isMore 4 = .ok (.iload_n 1, 1) := dk_27 (by decide +kernel)
theorem dX12_isMore_5 : decode cX12_isMore 5 = .ok (.iaload, 1) := dk_46 (by decide +kernel)
theorem dX12_isMore_6 : decode cX12_isMore 6 = .ok (.ifCond .le 5, 3) := dk_158 (by decide +kernel)
theorem dX12_isMore_9 : decode cX12_isMore 9 = .ok (.iconst 1, 1) := dk_4 (by decide +kernel)
theorem dX12_isMore_10 : decode cX12_isMore 10 = .ok (.ireturn, 1) := dk_172 (by decide +kernel)
theorem dX12_isMore_11 : decode cX12_isMore 11 = .ok (.iload_n 1, 1) := dk_27 (by decide +kernel)
theorem dX12_isMore_12 : decode cX12_isMore 12 = .ok (.iconst 1, 1) := dk_4 (by decide +kernel)
theorem dX12_isMore_13 : decode cX12_isMore 13 = .ok (.isub, 1) := dk_100 (by decide +kernel)
theorem dX12_isMore_14 : decode cX12_isMore 14 = .ok (.istore_n 2, 1) := dk_61 (by decide +kernel)
theorem dX12_isMore_15 : decode cX12_isMore 15 = .ok (.iload_n 2, 1) := dk_28 (by decide +kernel)
theorem dX12_isMore_16 : decode cX12_isMore 16 = .ok (.ifCond .lt 45, 3) := dk_155 (by decide +kernel)
theorem dX12_isMore_19 : decode cX12_isMore 19 = .ok (.aload_n 0, 1) := dk_42 (by decide +kernel)
theorem dX12_isMore_20 : decode cX12_isMore 20 = .ok (.getfield 17, 3) := dk_180 (by decide +kernel)
theorem dX12_isMore_23 : decode cX12_isMore 23 = .ok (.iload_n 2, 1) := dk_28 (by decide +kernel)
theorem dX12_isMore_24 : decode cX12_isMore 24 = .ok (.iaload, 1) := dk_46 (by decide +kernel)
theorem dX12_isMore_25 : decode cX12_isMore 25 = .ok (.aload_n 0, 1) := dk_42 (by decide +kernel)
theorem dX12_isMore_26 : decode cX12_isMore 26 = .ok (.getfield 20, 3) := dk_180 (by decide +kernel)
theorem dX12_isMore_29 : decode cX12_isMore 29 = .ok (.iload_n 2, 1) := dk_28 (by decide +kernel)
theorem dX12_isMore_30 : decode cX12_isMore 30 = .ok (.iaload, 1) := dk_46 (by decide +kernel)
theorem dX12_isMore_31 : decode cX12_isMore 31 = .ok (.if_icmp .eq 24, 3) := dk_159 (by decide +kernel)
theorem dX12_isMore_34 : decode cX12_isMore 34 = .ok (.aload_n 0, 1) := dk_42 (by decide +kernel)
theorem dX12_isMore_35 : decode cX12_isMore 35 = .ok (.getfield 17, 3) := dk_180 (by decide +kernel)
theorem dX12_isMore_38 : decode cX12_isMore 38 = .ok (.iload_n 2, 1) := dk_28 (by decide +kernel)
theorem dX12_isMore_39 : decode cX12_isMore 39 = .ok (.iaload, 1) := dk_46 (by decide +kernel)
theorem dX12_isMore_40 : decode cX12_isMore 40 = .ok (.aload_n 0, 1) := dk_42 (by decide +kernel)
theorem dX12_isMore_41 : decode cX12_isMore 41 = .ok (.getfield 20, 3) := dk_180 (by decide +kernel)
theorem dX12_isMore_44 : decode cX12_isMore 44 = .ok (.iload_n 2, 1) := dk_28 (by decide +kernel)
theorem dX12_isMore_45 : decode cX12_isMore 45 = .ok (.iaload, 1) := dk_46 (by decide +kernel)
theorem dX12_isMore_46 : decode cX12_isMore 46 = .ok (.if_icmp .le 7, 3) := dk_164 (by decide +kernel)
theorem dX12_isMore_49 : decode cX12_isMore 49 = .ok (.iconst 1, 1) := dk_4 (by decide +kernel)
theorem dX12_isMore_50 : decode cX12_isMore 50 = .ok (.goto 4, 3) := dk_167 (by decide +kernel)
theorem dX12_isMore_53 : decode cX12_isMore 53 = .ok (.iconst 0, 1) := dk_3 (by decide +kernel)
theorem dX12_isMore_54 : decode cX12_isMore 54 = .ok (.ireturn, 1) := dk_172 (by decide +kernel)
theorem dX12_isMore_55 : decode cX12_isMore 55 = .ok (.iinc 2 (-1), 3) := dk_132 (by decide +kernel)
theorem dX12_isMore_58 : decode cX12_isMore 58 = .ok (.goto (-43), 3) := dk_167 (by decide +kernel)
theorem dX12_isMore_61 : decode cX12_isMore 61 = .ok (.iconst 1, 1) := dk_4 (by decide +kernel)
theorem dX12_isMore_62 : decode cX12_isMore 62 = .ok (.ireturn, 1) := dk_172 (by decide +kernel)
def wsRX12_isMore : List Cond := .code yX12_isMore cX12_isMore 3 (some .boolean) :: ([.fieldLink RX12 17 "OptimaWorksModel" "rest" "[I", .fieldLink RX12 20 "OptimaWorksModel" "less" "[I"] ++ wsX120)
theorem iwsRX12_isMore_in12 : ∀ w ∈ wsX120, w ∈ wsRX12_isMore := fun _ h => List.mem_cons_of_mem _ (List.mem_append_right _ h)
set_option maxHeartbeats 4000000 in
set_option maxRecDepth 100000 in
/-- isMore(m) -/
theorem r_X12_isMore (l : Launch) (dC : Nat → ClassId) (dI : Nat → Nat → Nat) (a : Nat → Nat) (k : Nat → ClassId) (h0 : Nat) (vi : Nat → Int32) (vj : Nat → Int64) (vF : Nat → Nat → Int32) (vG : Nat → Nat → Int64) (mn : Nat) (hm : mn ≤ 22) (hlr : Lm (vF 2) 0 (mn + 1)) (hl3 : Lm (vF 3) 0 mn) (sz : Nat) : Met l yX12_isMore wsRX12_isMore ({ frames := 0, cells := 0, slots := 0, locals := 0 }) (va_Pc [.ref h0, .int (nI mn)] (fun U => U.heap.size = sz ∧ va_P (dC, dI) vwCl (WR a k h0 vi vj vF vG) U.heap ∧ va_K (dC, dI) vwCl (tX12 k) U ∧ va_D (fun _ => True) (WR a k h0 vi vj vF vG))) (va_Qi (fun (r : Int32) (u : Unit) => (r = 1 ∧ (lv28 (vF 3) 0 mn ≤ lv28 (vF 2) 0 (mn + 1))) ∨ (r = 0 ∧ (lv28 (vF 2) 0 (mn + 1) < lv28 (vF 3) 0 mn))) (fun (u : Unit) t => va_P (dC, dI) vwCl (WR a k h0 vi vj vF vG) t.heap ∧ va_D (va_A (WR a k h0 vi vj vF vG) sz) (WR a k h0 vi vj vF vG)) (va_A (WR a k h0 vi vj vF vG) sz)) 0 0 (va_A (WR a k h0 vi vj vF vG) sz) := by
  refine Met.ofW (cc := cX12_isMore) (maxL := 3) (ret := (some .boolean)) (by decide) rfl ?_
  intro p e s m args below meth c s₁ B hml hv
  obtain ⟨rfl, hsz, hP, hK, hD0⟩ := hv
  have hx := B.exec
  have hb := B.bytes
  have hr := B.returns
  have hts := atoms_spec (ws := wsRX12_isMore) B.pre
  have hown : s.vm.findClass RX12 = some m.cls := findClass_of_methodNamed B.named
  have hlocks := B.notSynchronized
  subst hsz
  have hD := hD0.self (sz := s.heap.size)
  generalize hAe : va_A (WR a k h0 vi vj vF vG) s.heap.size = A at hD ⊢
  have hA : ∀ q : Nat, s.heap.size ≤ q → A q := fun q h => by rw [← hAe]; exact Or.inr h
  have hS : va_S A s.heap s.heap [] := va_S.rf
  have hl := lv_entry ([.ref h0, .int (nI mn)]) (n := 3) (Nat.le_of_ble_eq_true rfl)
  rw [lg_entry_eq]
  generalize (lg_sl ([.ref h0, .int (nI mn)]) ++ List.replicate (3 - (lg_sl ([.ref h0, .int (nI mn)])).length) Slot.unset).toArray = ls at hl ⊢
  have hl : lv_has ls 3 [(0, .ref h0), (1, .int (nI mn))] := hl
  refine lv_aload_n hx hb dX12_isMore_0 rfl (lv_at hl 0 rfl) ?_
  refine va_get (D := (dC, dI)) (ci := 12) (v := .ref (a 2)) (C := RX12) (T := TX12) (N := 163) (fs := fM (vS a vi vj)) hx hb hts iwsRX12_isMore_in12 hown hK hP 0 rfl rfl 3 (by decide) (hts (.fieldLink RX12 17 "OptimaWorksModel" "rest" "[I") (by decide +kernel)) (fun _ h9 => h9) rfl dX12_isMore_1 ?_
  refine lv_iload_n hx hb dX12_isMore_4 rfl (lv_at hl 1 rfl) ?_
  refine va_iald (cA := k 2) (n := 60) (f := (vF 2)) hx hb hK hP 3 2 (WR_get 2 (by decide)) (TR_get 2 (by decide)) (vp_in_nI (show mn < 60 by omega) (by omega)) dX12_isMore_5 ?_
  refine lv_topi (fun y1 hy1 => ?_)
  obtain rfl : ((vF 2) mn) = y1 := (hy1.trans (by rw [nI_clamp (by omega)])).symm
  refine lv_if_le (tgt := 11) hx hb dX12_isMore_6 (by decide) (fun c_6 => ?_) (fun c_6 => ?_)
  · have t_6 : (((vF 2) mn)).toInt ≤ 0 := toI_le c_6 rfl (by decide)
    refine lv_iload_n hx hb dX12_isMore_11 rfl (lv_at hl 1 rfl) ?_
    refine lv_iconst (v := 1) hx hb dX12_isMore_12 (by decide) ?_
    refine lv_isub hx hb dX12_isMore_13 ?_
    refine lv_istore_n hx hb dX12_isMore_14 rfl hl (by decide) rfl (fun ls (hl : lv_has ls _ ([(2, .int ((nI mn) - 1)), (0, .ref h0), (1, .int (nI mn))])) => ?_)
    have hl : lv_has _ _ ([(2, .int ((nI mn) - 1)), (0, .ref h0), (1, .int (nI mn))]) := lv_sub hl [0, 1, 2] rfl
    refine (fun (loop : ∀ (n9 : Nat) (kq : Int32) (kk1 : Nat) (H : Heap) (locs : List Loc) (ls : Array Slot), ((kq).toInt = (kk1 : Int) - 1) → (kk1 ≤ mn) → (∀ q, kk1 ≤ q → q < mn → vF 2 q = vF 3 q) →  (kk1 < n9) → va_P (dC, dI) vwCl (WR a k h0 vi vj vF vG) H → va_D A (WR a k h0 vi vj vF vG) → va_S A s.heap H locs → lv_has ls 3 [(2, .int kq), (0, .ref h0), (1, .int (nI mn))] → W p l e _ s m _ below meth c H locs 0 0 _ (F0 m 15 ls [])) => loop (mn + 1) ((nI mn) - 1) mn _ _ _ (by exact pk_sub_toInt (a := mn) (b := 1) (by omega) (by omega)) (by omega) (fun q h1 h2 => absurd h1 (by omega)) (by omega) hP hD hS hl) ?_
    intro n9
    induction n9 with
    | zero => intro kq kk1 H locs ls hkq hkn heq hf9; exact False.elim (by omega)
    | succ n9 ih15 =>
      intro kq kk1 H locs ls hkq hkn heq hf15 hP hD hS hl
      refine lv_iload_n hx hb dX12_isMore_15 rfl (lv_at hl 0 rfl) ?_
      refine lv_if_lt (tgt := 61) hx hb dX12_isMore_16 (by decide) (fun c_16 => ?_) (fun c_16 => ?_)
      · have t_16 : (kq).toInt < 0 := toI_lt c_16 rfl (by decide)
        refine lv_iconst (v := 1) hx hb dX12_isMore_61 (by decide) ?_
        refine W.widen (k := 0) (n := 0) (by decide +kernel) (by decide +kernel) ?_
        exact W.zret (v := 1) hx hb hr rfl (fun t9_ ht hW => ⟨⟨1, (), rfl, by (try dsimp only); exact Or.inl ⟨rfl, by simp only [lv28]; rw [lv28_congr (f := vF 3) (g := vF 2) (p := 0) (fun q hq => by rw [Nat.zero_add]; exact (heq q (by omega) hq).symm)]; omega⟩, by rw [ht]; exact hP, hD⟩, hS.F ht⟩) hS.2.2 dX12_isMore_62
      · have t_16 : ¬ (kq).toInt < 0 := toI_nlt c_16 rfl (by decide)
        obtain ⟨kk, h_kk, rfl⟩ := of_toInt (x := kq) (k := 23) (by omega) (by omega)
        have e_kk : (nI kk).toInt = (kk : Int) := nI_toInt (by omega)
        refine lv_aload_n hx hb dX12_isMore_19 rfl (lv_at hl 1 rfl) ?_
        refine va_get (D := (dC, dI)) (ci := 12) (v := .ref (a 2)) (C := RX12) (T := TX12) (N := 163) (fs := fM (vS a vi vj)) hx hb hts iwsRX12_isMore_in12 hown hK hP 0 rfl rfl 3 (by decide) (hts (.fieldLink RX12 17 "OptimaWorksModel" "rest" "[I") (by decide +kernel)) (fun _ h9 => h9) rfl dX12_isMore_20 ?_
        refine lv_iload_n hx hb dX12_isMore_23 rfl (lv_at hl 0 rfl) ?_
        refine va_iald (cA := k 2) (n := 60) (f := (vF 2)) hx hb hK hP 3 2 (WR_get 2 (by decide)) (TR_get 2 (by decide)) (vp_in_nI (show kk < 60 by omega) (by omega)) dX12_isMore_24 ?_
        refine lv_topi (fun y2 hy2 => ?_)
        obtain rfl : ((vF 2) kk) = y2 := (hy2.trans (by rw [nI_clamp (by omega)])).symm
        refine lv_aload_n hx hb dX12_isMore_25 rfl (lv_at hl 1 rfl) ?_
        refine va_get (D := (dC, dI)) (ci := 12) (v := .ref (a 3)) (C := RX12) (T := TX12) (N := 163) (fs := fM (vS a vi vj)) hx hb hts iwsRX12_isMore_in12 hown hK hP 0 rfl rfl 4 (by decide) (hts (.fieldLink RX12 20 "OptimaWorksModel" "less" "[I") (by decide +kernel)) (fun _ h9 => h9) rfl dX12_isMore_26 ?_
        refine lv_iload_n hx hb dX12_isMore_29 rfl (lv_at hl 0 rfl) ?_
        refine va_iald (cA := k 3) (n := 30) (f := (vF 3)) hx hb hK hP 4 3 (WR_get 3 (by decide)) (TR_get 3 (by decide)) (vp_in_nI (show kk < 30 by omega) (by omega)) dX12_isMore_30 ?_
        refine lv_topi (fun y3 hy3 => ?_)
        obtain rfl : ((vF 3) kk) = y3 := (hy3.trans (by rw [nI_clamp (by omega)])).symm
        refine lv_icmp_eq (tgt := 55) hx hb dX12_isMore_31 (by decide) (fun c_31 => ?_) (fun c_31 => ?_)
        · have t_31 : (((vF 2) kk)).toInt = (((vF 3) kk)).toInt := toI_eq c_31 rfl rfl
          refine lv_iinc (v := ((nI kk) + (-1))) hx hb dX12_isMore_55 hl (k := 0) rfl rfl (by decide) rfl (fun ls (hl : lv_has ls _ ([(2, .int ((nI kk) + (-1))), (0, .ref h0), (1, .int (nI mn))])) => ?_)
          refine lv_goto (tgt := 15) hx hb dX12_isMore_58 (by decide) ?_
          have hl : lv_has _ _ ([(2, .int ((nI kk) + (-1))), (0, .ref h0), (1, .int (nI mn))]) := lv_sub hl [0, 1, 2] rfl
          exact ih15 ((nI kk) + (-1)) (kk1 - 1) _ _ _ (by rw [m1T (by omega)]; omega) (by omega) (fun q h1 h2 => by by_cases e9 : q = kk; (rw [e9]; exact c_31); (exact heq q (by omega) h2)) (by omega) hP hD hS hl
        · have t_31 : ¬ (((vF 2) kk)).toInt = (((vF 3) kk)).toInt := toI_neq c_31 rfl rfl
          refine lv_aload_n hx hb dX12_isMore_34 rfl (lv_at hl 1 rfl) ?_
          refine va_get (D := (dC, dI)) (ci := 12) (v := .ref (a 2)) (C := RX12) (T := TX12) (N := 163) (fs := fM (vS a vi vj)) hx hb hts iwsRX12_isMore_in12 hown hK hP 0 rfl rfl 3 (by decide) (hts (.fieldLink RX12 17 "OptimaWorksModel" "rest" "[I") (by decide +kernel)) (fun _ h9 => h9) rfl dX12_isMore_35 ?_
          refine lv_iload_n hx hb dX12_isMore_38 rfl (lv_at hl 0 rfl) ?_
          refine va_iald (cA := k 2) (n := 60) (f := (vF 2)) hx hb hK hP 3 2 (WR_get 2 (by decide)) (TR_get 2 (by decide)) (vp_in_nI (show kk < 60 by omega) (by omega)) dX12_isMore_39 ?_
          refine lv_topi (fun y4 hy4 => ?_)
          obtain rfl : ((vF 2) kk) = y4 := (hy4.trans (by rw [nI_clamp (by omega)])).symm
          refine lv_aload_n hx hb dX12_isMore_40 rfl (lv_at hl 1 rfl) ?_
          refine va_get (D := (dC, dI)) (ci := 12) (v := .ref (a 3)) (C := RX12) (T := TX12) (N := 163) (fs := fM (vS a vi vj)) hx hb hts iwsRX12_isMore_in12 hown hK hP 0 rfl rfl 4 (by decide) (hts (.fieldLink RX12 20 "OptimaWorksModel" "less" "[I") (by decide +kernel)) (fun _ h9 => h9) rfl dX12_isMore_41 ?_
          refine lv_iload_n hx hb dX12_isMore_44 rfl (lv_at hl 0 rfl) ?_
          refine va_iald (cA := k 3) (n := 30) (f := (vF 3)) hx hb hK hP 4 3 (WR_get 3 (by decide)) (TR_get 3 (by decide)) (vp_in_nI (show kk < 30 by omega) (by omega)) dX12_isMore_45 ?_
          refine lv_topi (fun y5 hy5 => ?_)
          obtain rfl : ((vF 3) kk) = y5 := (hy5.trans (by rw [nI_clamp (by omega)])).symm
          have l1 := limb0 hlr (q := kk) (by omega)
          have l2 := limb0 hl3 (q := kk) (by omega)
          refine lv_icmp_le (tgt := 53) hx hb dX12_isMore_46 (by decide) (fun c_46 => ?_) (fun c_46 => ?_)
          · have t_46 : (((vF 2) kk)).toInt ≤ (((vF 3) kk)).toInt := toI_le c_46 rfl rfl
            refine lv_iconst (v := 0) hx hb dX12_isMore_53 (by decide) ?_
            refine W.widen (k := 0) (n := 0) (by decide +kernel) (by decide +kernel) ?_
            exact W.zret (v := 0) hx hb hr rfl (fun t9_ ht hW => ⟨⟨0, (), rfl, by (try dsimp only); (have et : vF 2 mn = 0 := by obtain ⟨d9, hd9, e9⟩ := limb0N hlr (q := mn) (by omega); rw [e9, nI_toInt (by omega)] at t_6; rw [e9, show d9 = 0 by omega]; exact nI_0); exact Or.inr ⟨rfl, by rw [lv28_skip0 et]; exact lv28_less mn (k := kk) (by omega) (hlr.mono (by omega)) (fun q h1 h2 => by rw [Nat.zero_add]; exact heq q (by omega) h2) (by rw [Nat.zero_add]; omega)⟩, by rw [ht]; exact hP, hD⟩, hS.F ht⟩) hS.2.2 dX12_isMore_54
          · have t_46 : ¬ (((vF 2) kk)).toInt ≤ (((vF 3) kk)).toInt := toI_nle c_46 rfl rfl
            refine lv_iconst (v := 1) hx hb dX12_isMore_49 (by decide) ?_
            refine lv_goto (tgt := 54) hx hb dX12_isMore_50 (by decide) ?_
            refine W.widen (k := 0) (n := 0) (by decide +kernel) (by decide +kernel) ?_
            exact W.zret (v := 1) hx hb hr rfl (fun t9_ ht hW => ⟨⟨1, (), rfl, by (try dsimp only); (have et : vF 2 mn = 0 := by obtain ⟨d9, hd9, e9⟩ := limb0N hlr (q := mn) (by omega); rw [e9, nI_toInt (by omega)] at t_6; rw [e9, show d9 = 0 by omega]; exact nI_0); exact Or.inl ⟨rfl, by rw [lv28_skip0 et]; exact Nat.le_of_lt (lv28_less mn (k := kk) (by omega) hl3 (fun q h1 h2 => by rw [Nat.zero_add]; exact (heq q (by omega) h2).symm) (by rw [Nat.zero_add]; omega))⟩, by rw [ht]; exact hP, hD⟩, hS.F ht⟩) hS.2.2 dX12_isMore_54
  · have t_6 : ¬ (((vF 2) mn)).toInt ≤ 0 := toI_nle c_6 rfl (by decide)
    refine lv_iconst (v := 1) hx hb dX12_isMore_9 (by decide) ?_
    refine W.widen (k := 0) (n := 0) (by decide +kernel) (by decide +kernel) ?_
    exact W.zret (v := 1) hx hb hr rfl (fun t9_ ht hW => ⟨⟨1, (), rfl, by (try dsimp only); exact Or.inl ⟨rfl, by obtain ⟨d9, hd9, e9⟩ := limb0N hlr (q := mn) (by omega); rw [e9, nI_toInt (by omega)] at t_6; rw [lv28_one0 e9 (by omega)]; exact Nat.le_of_lt (lv28_few0 hl3 (by omega))⟩, by rw [ht]; exact hP, hD⟩, hS.F ht⟩) hS.2.2 dX12_isMore_10

section
theorem hd_yX12_move_RX12 : yX12_move.cls = RX12 ∧ yX12_move.cls ≠ "java/lang/invoke/MethodHandle" ∧ yX12_move.cls ≠ "java/lang/invoke/VarHandle" ∧ (parseMethodDescriptor yX12_move.desc).map (fun d => d.parameters.length) = some 2 := by decide +kernel
theorem hd_yX12_finds_RX12 : yX12_finds.cls = RX12 ∧ yX12_finds.cls ≠ "java/lang/invoke/MethodHandle" ∧ yX12_finds.cls ≠ "java/lang/invoke/VarHandle" ∧ (parseMethodDescriptor yX12_finds.desc).map (fun d => d.parameters.length) = some 1 := by decide +kernel
theorem dX12_move_0 : decode cX12_move 0 = .ok (.iload_n 2, 1) := dk_28 (by decide +kernel)
theorem dX12_move_1 : decode cX12_move 1 = .ok (.istore_n 3, 1) := dk_62 (by decide +kernel)
theorem dX12_move_2 : decode cX12_move 2 = .ok (.iconst 1, 1) := dk_4 (by decide +kernel)
theorem dX12_move_3 : decode cX12_move 3 = .ok (.istore 4, 2) := dk_54 (by decide +kernel)
theorem dX12_move_5 : decode cX12_move 5 = .ok (.iload 4, 2) := dk_21 (by decide +kernel)
theorem dX12_move_7 : decode cX12_move 7 = .ok (.ifCond .eq 87, 3) := dk_153 (by decide +kernel)
theorem dX12_move_10 : decode cX12_move 10 = .ok (.aload_n 0, 1) := dk_42 (by decide +kernel)
theorem dX12_move_11 : decode cX12_move 11 = .ok (.getfield 287, 3) := dk_180 (by decide +kernel)
theorem dX12_move_14 : decode cX12_move 14 = .ok (.iload_n 3, 1) := dk_29 (by decide +kernel)
theorem dX12_move_15 : decode cX12_move 15 = .ok (.iaload, 1) := dk_46 (by decide +kernel)
theorem dX12_move_16 : decode cX12_move 16 = .ok (.istore 5, 2) := dk_54 (by decide +kernel)
theorem dX12_move_18 : decode cX12_move 18 = .ok (.iconst (-1), 1) := dk_2 (by decide +kernel)
theorem dX12_move_19 : decode cX12_move 19 = .ok (.istore 6, 2) := dk_54 (by decide +kernel)
theorem dX12_move_21 : decode cX12_move 21 = .ok (.iconst 0, 1) := dk_3 (by decide +kernel)
theorem dX12_move_22 : decode cX12_move 22 = .ok (.istore 7, 2) := dk_54 (by decide +kernel)
theorem dX12_move_24 : decode cX12_move 24 = .ok (.iload 7, 2) := dk_21 (by decide +kernel)
theorem dX12_move_26 : decode cX12_move 26 = .ok (.bipush 16, 2) := dk_16 (by decide +kernel)
theorem dX12_move_28 : decode cX12_move 28 = .ok (.if_icmp .ge 25, 3) := dk_162 (by decide +kernel)
theorem dX12_move_31 : decode cX12_move 31 = .ok (.aload_n 0, 1) := dk_42 (by decide +kernel)
theorem dX12_move_32 : decode cX12_move 32 = .ok (.getfield 284, 3) := dk_180 (by decide +kernel)
theorem dX12_move_35 : decode cX12_move 35 = .ok (.iload 7, 2) := dk_21 (by decide +kernel)
theorem dX12_move_37 : decode cX12_move 37 = .ok (.iaload, 1) := dk_46 (by decide +kernel)
theorem dX12_move_38 : decode cX12_move 38 = .ok (.iload 5, 2) := dk_21 (by decide +kernel)
theorem dX12_move_40 : decode cX12_move 40 = .ok (.if_icmp .ne 7, 3) := dk_160 (by decide +kernel)
theorem dX12_move_43 : decode cX12_move 43 = .ok (.iload 7, 2) := dk_21 (by decide +kernel)
theorem dX12_move_45 : decode cX12_move 45 = .ok (.istore 6, 2) := dk_54 (by decide +kernel)
theorem dX12_move_47 : decode cX12_move 47 = .ok (.iinc 7 1, 3) := dk_132 (by decide +kernel)
theorem dX12_move_50 : decode cX12_move 50 = .ok (.goto (-26), 3) := dk_167 (by decide +kernel)
theorem dX12_move_53 : decode cX12_move 53 = .ok (.aload_n 0, 1) := dk_42 (by decide +kernel)
theorem dX12_move_54 : decode cX12_move 54 = .ok (.getfield 284, 3) := dk_180 (by decide +kernel)
theorem dX12_move_57 : decode cX12_move 57 = .ok (.iload_n 3, 1) := dk_29 (by decide +kernel)
theorem dX12_move_58 : decode cX12_move 58 = .ok (.iload 5, 2) := dk_21 (by decide +kernel)
theorem dX12_move_60 : decode cX12_move 60 = .ok (.iastore, 1) := dk_79 (by decide +kernel)
theorem dX12_move_61 : decode cX12_move 61 = .ok (.iload 6, 2) := dk_21 (by decide +kernel)
theorem dX12_move_63 : decode cX12_move 63 = .ok (.iconst (-1), 1) := dk_2 (by decide +kernel)
theorem dX12_move_64 : decode cX12_move 64 = .ok (.if_icmp .eq 11, 3) := dk_159 (by decide +kernel)
theorem dX12_move_67 : decode cX12_move 67 = .ok (.aload_n 0, 1) := dk_42 (by decide +kernel)
theorem dX12_move_68 : decode cX12_move 68 = .ok (.getfield 284, 3) := dk_180 (by decide +kernel)
theorem dX12_move_71 : decode cX12_move 71 = .ok (.iload 6, 2) := dk_21 (by decide +kernel)
theorem dX12_move_73 : decode cX12_move 73 = .ok (.iconst (-1), 1) := dk_2 (by decide +kernel)
theorem dX12_move_74 : decode cX12_move 74 = .ok (.iastore, 1) := dk_79 (by decide +kernel)
theorem dX12_move_75 : decode cX12_move 75 = .ok (.iload 5, 2) := dk_21 (by decide +kernel)
theorem dX12_move_77 : decode cX12_move 77 = .ok (.iload_n 1, 1) := dk_27 (by decide +kernel)
theorem dX12_move_78 : decode cX12_move 78 = .ok (.if_icmp .eq 7, 3) := dk_159 (by decide +kernel)
theorem dX12_move_81 : decode cX12_move 81 = .ok (.iconst 1, 1) := dk_4 (by decide +kernel)
theorem dX12_move_82 : decode cX12_move 82 = .ok (.goto 4, 3) := dk_167 (by decide +kernel)
theorem dX12_move_85 : decode cX12_move 85 = .ok (.iconst 0, 1) := dk_3 (by decide +kernel)
theorem dX12_move_86 : decode cX12_move 86 = .ok (.istore 4, 2) := dk_54 (by decide +kernel)
theorem dX12_move_88 : decode cX12_move 88 = .ok (.iload 6, 2) := dk_21 (by decide +kernel)
theorem dX12_move_90 : decode cX12_move 90 = .ok (.istore_n 3, 1) := dk_62 (by decide +kernel)
theorem dX12_move_91 : decode cX12_move 91 = .ok (.goto (-86), 3) := dk_167 (by decide +kernel)
theorem dX12_move_94 : decode cX12_move 94 = .ok (.return_, 1) := dk_177 (by decide +kernel)
def wsRX12_move : List Cond := .code yX12_move cX12_move 8 none :: ([.fieldLink RX12 287 "OptimaWorksModel" "came" "[I", .fieldLink RX12 284 "OptimaWorksModel" "taker" "[I"] ++ wsX120)
theorem iwsRX12_move_in12 : ∀ w ∈ wsX120, w ∈ wsRX12_move := fun _ h => List.mem_cons_of_mem _ (List.mem_append_right _ h)
theorem gdwsRX12_move : wsRX12_move.all goodWord = true := gdC rfl (gdA (by decide +kernel : ([.fieldLink RX12 287 "OptimaWorksModel" "came" "[I", .fieldLink RX12 284 "OptimaWorksModel" "taker" "[I"] : List Cond).all goodWord = true) gdwsX120)
set_option maxHeartbeats 4000000 in
set_option maxRecDepth 100000 in
/-- move(holder, free) -/
theorem r_X12_move (l : Launch) (dC : Nat → ClassId) (dI : Nat → Nat → Nat) (a : Nat → Nat) (k : Nat → ClassId) (h0 : Nat) (vi : Nat → Int32) (vj : Nat → Int64) (vF : Nat → Nat → Int32) (vG : Nat → Nat → Int64) (iN : Nat) (vN : Nat) (qN : Nat) (hiN : iN < 10) (hvN : vN < 16) (hqN : qN < 17) (hcm0 : vF 88 vN = vF 89 qN) (htk : vF 87 vN = -1) (hT : TkB (vF 87) iN) (hC : Chn (vF 87) (vF 88) (vF 89) iN qN) (hlk : ∀ q, q ≤ qN → ∃ h, h < 10 ∧ vF 89 q = nI h) (sz : Nat) : Met l yX12_move wsRX12_move ({ frames := 0, cells := 0, slots := 0, locals := 0 }) (va_Pc [.ref h0, .int (nI iN), .int (nI vN)] (fun U => U.heap.size = sz ∧ va_P (dC, dI) vwCl (WR a k h0 vi vj vF vG) U.heap ∧ va_K (dC, dI) vwCl (tX12 k) U ∧ va_D (fun _ => True) (WR a k h0 vi vj vF vG))) (va_Qv (fun (u : Nat → Int32) => (TkB u (iN + 1))) (fun (u : Nat → Int32) t => va_P (dC, dI) vwCl (WR a k h0 vi vj (fT vF 87 u) vG) t.heap ∧ va_D (va_A (WR a k h0 vi vj vF vG) sz) (WR a k h0 vi vj (fT vF 87 u) vG)) (va_A (WR a k h0 vi vj vF vG) sz)) 0 0 (va_A (WR a k h0 vi vj vF vG) sz) := by
  refine Met.ofW (cc := cX12_move) (maxL := 8) (ret := none) (by decide) rfl ?_
  intro p e s m args below meth c s₁ B hml hv
  obtain ⟨rfl, hsz, hP, hK, hD0⟩ := hv
  have hx := B.exec
  have hb := B.bytes
  have hr := B.returns
  have hts := atoms_spec (ws := wsRX12_move) B.pre
  have hown : s.vm.findClass RX12 = some m.cls := findClass_of_methodNamed B.named
  have hlocks := B.notSynchronized
  subst hsz
  have hD := hD0.self (sz := s.heap.size)
  generalize hAe : va_A (WR a k h0 vi vj vF vG) s.heap.size = A at hD ⊢
  have hA : ∀ q : Nat, s.heap.size ≤ q → A q := fun q h => by rw [← hAe]; exact Or.inr h
  have hS : va_S A s.heap s.heap [] := va_S.rf
  have hl := lv_entry ([.ref h0, .int (nI iN), .int (nI vN)]) (n := 8) (Nat.le_of_ble_eq_true rfl)
  rw [lg_entry_eq]
  generalize (lg_sl ([.ref h0, .int (nI iN), .int (nI vN)]) ++ List.replicate (8 - (lg_sl ([.ref h0, .int (nI iN), .int (nI vN)])).length) Slot.unset).toArray = ls at hl ⊢
  have hl : lv_has ls 8 [(0, .ref h0), (1, .int (nI iN)), (2, .int (nI vN))] := hl
  refine lv_iload_n hx hb dX12_move_0 rfl (lv_at hl 2 rfl) ?_
  refine lv_istore_n hx hb dX12_move_1 rfl hl (by decide) rfl (fun ls (hl : lv_has ls _ ([(3, .int (nI vN)), (0, .ref h0), (1, .int (nI iN)), (2, .int (nI vN))])) => ?_)
  refine lv_iconst (v := 1) hx hb dX12_move_2 (by decide) ?_
  refine lv_istore hx hb dX12_move_3 hl (by decide) rfl (fun ls (hl : lv_has ls _ ([(4, .int 1), (3, .int (nI vN)), (0, .ref h0), (1, .int (nI iN)), (2, .int (nI vN))])) => ?_)
  have e9 : fT vF 87 (vF 87) = vF := by funext q9; by_cases h9_87 : q9 = 87; (subst h9_87; exact (fT_eq _ _ _).trans (Eq.trans (by first | with_reducible rfl | with_reducible assumption | (symm; with_reducible assumption) | rfl | assumption | (symm; assumption) | (subst_vars; rfl)) (Eq.refl _).symm)); exact (fT_ne _ _ h9_87).trans (Eq.refl _).symm
  have hP : va_P (dC, dI) vwCl (WR a k h0 vi vj (fT vF 87 (vF 87)) vG) s.heap := by rw [e9]; exact hP
  have hD : va_D A (WR a k h0 vi vj (fT vF 87 (vF 87)) vG) := by rw [e9]; exact hD
  clear e9
  have hl : lv_has _ _ ([(0, .ref h0), (1, .int (nI iN)), (3, .int (nI vN)), (4, .int 1)]) := lv_sub hl [2, 3, 1, 0] rfl
  refine (fun (loop : ∀ (n9 : Nat) (mo : Int32) (vq : Int32) (tk : Nat → Int32) (H : Heap) (locs : List Loc) (ls : Array Slot),  ((mo = 1 ∧ ∃ v q, vq = nI v ∧ v < 16 ∧ vF 88 v = vF 89 q ∧ q ≤ qN ∧ tk v = -1 ∧ TkB tk iN ∧ Chn tk (vF 88) (vF 89) iN q ∧ q + 1 < n9) ∨ (mo = 0 ∧ 0 < n9 ∧ TkB tk (iN + 1))) → va_P (dC, dI) vwCl (WR a k h0 vi vj (fT vF 87 tk) vG) H → va_D A (WR a k h0 vi vj (fT vF 87 tk) vG) → va_S A s.heap H locs → lv_has ls 8 [(0, .ref h0), (1, .int (nI iN)), (3, .int vq), (4, .int mo)] → W p l e _ s m _ below meth c H locs 0 0 _ (F0 m 5 ls [])) => loop (qN + 2) 1 (nI vN) (vF 87) _ _ _  (Or.inl ⟨rfl, vN, qN, rfl, hvN, hcm0, Nat.le_refl _, htk, hT, hC, by omega⟩) hP hD hS hl) ?_
  intro n9
  induction n9 with
  | zero => intro mo vq tk H locs ls  hf9; exact False.elim (by omega)
  | succ n9 ih5 =>
    intro mo vq tk H locs ls  hf5 hP hD hS hl
    refine lv_iload hx hb dX12_move_5 (lv_at hl 3 rfl) ?_
    refine lv_if_eq (tgt := 94) hx hb dX12_move_7 (by decide) (fun c_7 => ?_) (fun c_7 => ?_)
    · have t_7 : (mo).toInt = 0 := toI_eq c_7 rfl (by decide)
      refine W.widen (k := 0) (n := 0) (by decide +kernel) (by decide +kernel) ?_
      exact W.vret hx hb hr (fun t9_ ht hW => ⟨⟨tk, rfl, by (try dsimp only); exact (hf5.resolve_left (fun h => by rw [h.1] at c_7; exact absurd c_7 (by decide))).2.2, by rw [ht]; exact hP, hD⟩, hS.F ht⟩) hS.2.2 dX12_move_94
    · have t_7 : ¬ (mo).toInt = 0 := toI_neq c_7 rfl (by decide)
      obtain ⟨v5, q5, ev5, hv5, hcm, hq17, htk0, hTk, hCh, hqn⟩ := (hf5.resolve_right (fun h => c_7 h.1)).2
      subst ev5
      refine lv_aload_n hx hb dX12_move_10 rfl (lv_at hl 0 rfl) ?_
      refine va_get (D := (dC, dI)) (ci := 12) (v := .ref (a 88)) (C := RX12) (T := TX12) (N := 163) (fs := fM (vS a vi vj)) hx hb hts iwsRX12_move_in12 hown hK hP 0 rfl rfl 141 (by decide) (hts (.fieldLink RX12 287 "OptimaWorksModel" "came" "[I") (by decide +kernel)) (fun _ h9 => h9) rfl dX12_move_11 ?_
      refine lv_iload_n hx hb dX12_move_14 rfl (lv_at hl 2 rfl) ?_
      refine va_iald (cA := k 88) (n := 16) (f := (vF 88)) hx hb hK hP 89 88 (WR_get 88 (by decide)) (TR_get 88 (by decide)) (vp_in_nI (show v5 < 16 by omega) (by omega)) dX12_move_15 ?_
      refine lv_topi (fun y1 hy1 => ?_)
      obtain rfl : ((vF 88) v5) = y1 := (hy1.trans (by rw [nI_clamp (by omega)])).symm
      refine lv_istore hx hb dX12_move_16 hl (by decide) rfl (fun ls (hl : lv_has ls _ ([(5, .int ((vF 88) v5)), (0, .ref h0), (1, .int (nI iN)), (3, .int (nI v5)), (4, .int mo)])) => ?_)
      refine lv_iconst (v := (-1)) hx hb dX12_move_18 (by decide) ?_
      refine lv_istore hx hb dX12_move_19 hl (by decide) rfl (fun ls (hl : lv_has ls _ ([(6, .int (-1)), (5, .int ((vF 88) v5)), (0, .ref h0), (1, .int (nI iN)), (3, .int (nI v5)), (4, .int mo)])) => ?_)
      refine lv_iconst (v := 0) hx hb dX12_move_21 (by decide) ?_
      refine lv_istore hx hb dX12_move_22 hl (by decide) rfl (fun ls (hl : lv_has ls _ ([(7, .int 0), (6, .int (-1)), (5, .int ((vF 88) v5)), (0, .ref h0), (1, .int (nI iN)), (3, .int (nI v5)), (4, .int mo)])) => ?_)
      have hl : lv_has _ _ ([(0, .ref h0), (1, .int (nI iN)), (3, .int (nI v5)), (5, .int ((vF 88) v5)), (6, .int (-1)), (7, .int (nI 0))]) := lv_sub hl [3, 4, 5, 2, 1, 0] rfl
      refine (fun (loop : ∀ (n9 : Nat) (w5 : Nat) (hd : Int32) (H : Heap) (locs : List Loc) (ls : Array Slot), (w5 ≤ 16) → ((hd = -1 ∧ ∀ x, x < w5 → tk x ≠ vF 88 v5) ∨ (∃ x, hd = nI x ∧ x < w5 ∧ tk x = vF 88 v5)) →  (16 < w5 + n9) → va_P (dC, dI) vwCl (WR a k h0 vi vj (fT vF 87 tk) vG) H → va_D A (WR a k h0 vi vj (fT vF 87 tk) vG) → va_S A s.heap H locs → lv_has ls 8 [(0, .ref h0), (1, .int (nI iN)), (3, .int (nI v5)), (5, .int ((vF 88) v5)), (6, .int hd), (7, .int (nI w5))] → W p l e _ s m _ below meth c H locs 0 0 _ (F0 m 24 ls [])) => loop (17) 0 (-1) _ _ _ (by omega) (Or.inl ⟨rfl, fun x hx9 => absurd hx9 (by omega)⟩) (by omega) hP hD hS hl) ?_
      intro n9
      induction n9 with
      | zero => intro w5 hd H locs ls hw5 hhd hf9; exact False.elim (by omega)
      | succ n9 ih24_1 =>
        intro w5 hd H locs ls hw5 hhd hf24_1 hP hD hS hl
        refine lv_iload hx hb dX12_move_24 (lv_at hl 5 rfl) ?_
        refine lv_bipush (v := 16) hx hb dX12_move_26 (by decide) ?_
        refine lv_icmp_ge (tgt := 53) hx hb dX12_move_28 (by decide) (fun c_28 => ?_) (fun c_28 => ?_)
        · have t_28 : ((w5 : Nat) : Int) ≥ 16 := toI_ge c_28 (nI_toInt (by omega)) (by decide)
          have ew5 : w5 = 16 := by omega
          refine lv_aload_n hx hb dX12_move_53 rfl (lv_at hl 0 rfl) ?_
          refine va_get (D := (dC, dI)) (ci := 12) (v := .ref (a 87)) (C := RX12) (T := TX12) (N := 163) (fs := fM (vS a vi vj)) hx hb hts iwsRX12_move_in12 hown hK hP 0 rfl rfl 140 (by decide) (hts (.fieldLink RX12 284 "OptimaWorksModel" "taker" "[I") (by decide +kernel)) (fun _ h9 => h9) rfl dX12_move_54 ?_
          refine lv_iload_n hx hb dX12_move_57 rfl (lv_at hl 2 rfl) ?_
          refine lv_iload hx hb dX12_move_58 (lv_at hl 3 rfl) ?_
          refine va_iast (cA := k 87) (n := 16) (f := tk) hx hb hK hP hD hS 88 87 (WR_get 87 (by decide)) (TR_get 87 (by decide)) (vp_in_nI (show v5 < 16 by omega) (by omega)) dX12_move_60 (fun H locs hP hD hS => ?_)
          have e9 : fT vF 87 (upd tk ((nI v5)).toNatClampNeg ((vF 88) v5)) = fT (fT vF 87 tk) 87 (upd tk ((nI v5)).toNatClampNeg ((vF 88) v5)) := (fT_sm _ _ _ _).symm
          have hP : va_P (dC, dI) vwCl (WR a k h0 vi vj (fT vF 87 (upd tk ((nI v5)).toNatClampNeg ((vF 88) v5))) vG) H := by rw [e9, ← WR_F 87 (by decide) _ rfl]; exact hP
          have hD : va_D A (WR a k h0 vi vj (fT vF 87 (upd tk ((nI v5)).toNatClampNeg ((vF 88) v5))) vG) := by rw [e9, ← WR_F 87 (by decide) _ rfl]; exact hD
          clear e9
          refine lv_iload hx hb dX12_move_61 (lv_at hl 4 rfl) ?_
          refine lv_iconst (v := (-1)) hx hb dX12_move_63 (by decide) ?_
          refine lv_icmp_eq (tgt := 75) hx hb dX12_move_64 (by decide) (fun c_64 => ?_) (fun c_64 => ?_)
          · have t_64 : (hd).toInt = -1 := toI_eq c_64 rfl (by decide)
            refine lv_iload hx hb dX12_move_75 (lv_at hl 3 rfl) ?_
            refine lv_iload_n hx hb dX12_move_77 rfl (lv_at hl 1 rfl) ?_
            refine lv_icmp_eq (tgt := 85) hx hb dX12_move_78 (by decide) (fun c_78 => ?_) (fun c_78 => ?_)
            · have t_78 : (((vF 88) v5)).toInt = ((iN : Nat) : Int) := toI_eq c_78 rfl (nI_toInt (by omega))
              refine lv_iconst (v := 0) hx hb dX12_move_85 (by decide) ?_
              refine lv_istore hx hb dX12_move_86 hl (by decide) rfl (fun ls (hl : lv_has ls _ ([(4, .int 0), (0, .ref h0), (1, .int (nI iN)), (3, .int (nI v5)), (5, .int ((vF 88) v5)), (6, .int hd), (7, .int (nI w5))])) => ?_)
              refine lv_iload hx hb dX12_move_88 (lv_at hl 5 rfl) ?_
              refine lv_istore_n hx hb dX12_move_90 rfl hl (by decide) rfl (fun ls (hl : lv_has ls _ ([(3, .int hd), (4, .int 0), (0, .ref h0), (1, .int (nI iN)), (5, .int ((vF 88) v5)), (6, .int hd), (7, .int (nI w5))])) => ?_)
              refine lv_goto (tgt := 5) hx hb dX12_move_91 (by decide) ?_
              have hl : lv_has _ _ ([(0, .ref h0), (1, .int (nI iN)), (3, .int hd), (4, .int 0)]) := lv_sub hl [2, 3, 0, 1] rfl
              exact ih5 0 hd (upd tk ((nI v5)).toNatClampNeg ((vF 88) v5)) _ _ _  (by (have hq0 : q5 = 0 := by rcases Nat.eq_zero_or_pos q5 with h9 | h9; (exact h9); (exfalso; obtain ⟨v1, p1, k1, k2, k3, k4, k6⟩ := hCh.2.2 q5 h9 (Nat.le_refl _); rcases hhd with ⟨h1, h2⟩ | ⟨x, h1, h2, h3⟩; (exact h2 v1 (by omega) (by rw [k3, hcm])); (rw [h1] at c_64; exact nI_nm1 (by omega) c_64))); (have hh0 : vF 88 v5 = nI iN := by rw [hcm, hq0]; exact hCh.1); exact Or.inr ⟨rfl, by omega, hTk.last (by omega) hv5 (by rw [upd_at (by omega), if_pos rfl]; exact hh0) (fun x hx9 => by rw [upd_at (by omega), if_neg hx9])⟩) hP hD hS hl
            · have t_78 : ¬ (((vF 88) v5)).toInt = ((iN : Nat) : Int) := toI_neq c_78 rfl (nI_toInt (by omega))
              refine lv_iconst (v := 1) hx hb dX12_move_81 (by decide) ?_
              refine lv_goto (tgt := 86) hx hb dX12_move_82 (by decide) ?_
              refine lv_istore hx hb dX12_move_86 hl (by decide) rfl (fun ls (hl : lv_has ls _ ([(4, .int 1), (0, .ref h0), (1, .int (nI iN)), (3, .int (nI v5)), (5, .int ((vF 88) v5)), (6, .int hd), (7, .int (nI w5))])) => ?_)
              refine lv_iload hx hb dX12_move_88 (lv_at hl 5 rfl) ?_
              refine lv_istore_n hx hb dX12_move_90 rfl hl (by decide) rfl (fun ls (hl : lv_has ls _ ([(3, .int hd), (4, .int 1), (0, .ref h0), (1, .int (nI iN)), (5, .int ((vF 88) v5)), (6, .int hd), (7, .int (nI w5))])) => ?_)
              refine lv_goto (tgt := 5) hx hb dX12_move_91 (by decide) ?_
              have hl : lv_has _ _ ([(0, .ref h0), (1, .int (nI iN)), (3, .int hd), (4, .int 1)]) := lv_sub hl [2, 3, 0, 1] rfl
              exact ih5 1 hd (upd tk ((nI v5)).toNatClampNeg ((vF 88) v5)) _ _ _  (by (have hq0 : q5 = 0 := by rcases Nat.eq_zero_or_pos q5 with h9 | h9; (exact h9); (exfalso; obtain ⟨v1, p1, k1, k2, k3, k4, k6⟩ := hCh.2.2 q5 h9 (Nat.le_refl _); rcases hhd with ⟨h1, h2⟩ | ⟨x, h1, h2, h3⟩; (exact h2 v1 (by omega) (by rw [k3, hcm])); (rw [h1] at c_64; exact nI_nm1 (by omega) c_64))); (have hh0 : vF 88 v5 = nI iN := by rw [hcm, hq0]; exact hCh.1); exact absurd hh0 c_78) hP hD hS hl
          · have t_64 : ¬ (hd).toInt = -1 := toI_neq c_64 rfl (by decide)
            have hdx : ∃ x, hd = nI x ∧ x < 16 := by rcases hhd with h9 | ⟨x, h1, h2, h3⟩; (exact absurd h9.1 c_64); (exact ⟨x, h1, by omega⟩)
            have hdr : 0 ≤ (hd).toInt ∧ (hd).toInt < 16 := by obtain ⟨x, h1, h2⟩ := hdx; rw [h1, nI_toInt (by omega)]; omega
            refine lv_aload_n hx hb dX12_move_67 rfl (lv_at hl 0 rfl) ?_
            refine va_get (D := (dC, dI)) (ci := 12) (v := .ref (a 87)) (C := RX12) (T := TX12) (N := 163) (fs := fM (vS a vi vj)) hx hb hts iwsRX12_move_in12 hown hK hP 0 rfl rfl 140 (by decide) (hts (.fieldLink RX12 284 "OptimaWorksModel" "taker" "[I") (by decide +kernel)) (fun _ h9 => h9) rfl dX12_move_68 ?_
            refine lv_iload hx hb dX12_move_71 (lv_at hl 4 rfl) ?_
            refine lv_iconst (v := (-1)) hx hb dX12_move_73 (by decide) ?_
            refine va_iast (cA := k 87) (n := 16) (f := (upd tk ((nI v5)).toNatClampNeg ((vF 88) v5))) hx hb hK hP hD hS 88 87 (WR_get 87 (by decide)) (TR_get 87 (by decide)) (vp_in_iff.mpr (by omega)) dX12_move_74 (fun H locs hP hD hS => ?_)
            have e9 : fT vF 87 (upd (upd tk ((nI v5)).toNatClampNeg ((vF 88) v5)) (hd).toNatClampNeg (-1)) = fT (fT vF 87 (upd tk ((nI v5)).toNatClampNeg ((vF 88) v5))) 87 (upd (upd tk ((nI v5)).toNatClampNeg ((vF 88) v5)) (hd).toNatClampNeg (-1)) := (fT_sm _ _ _ _).symm
            have hP : va_P (dC, dI) vwCl (WR a k h0 vi vj (fT vF 87 (upd (upd tk ((nI v5)).toNatClampNeg ((vF 88) v5)) (hd).toNatClampNeg (-1))) vG) H := by rw [e9, ← WR_F 87 (by decide) _ rfl]; exact hP
            have hD : va_D A (WR a k h0 vi vj (fT vF 87 (upd (upd tk ((nI v5)).toNatClampNeg ((vF 88) v5)) (hd).toNatClampNeg (-1))) vG) := by rw [e9, ← WR_F 87 (by decide) _ rfl]; exact hD
            clear e9
            refine lv_iload hx hb dX12_move_75 (lv_at hl 3 rfl) ?_
            refine lv_iload_n hx hb dX12_move_77 rfl (lv_at hl 1 rfl) ?_
            refine lv_icmp_eq (tgt := 85) hx hb dX12_move_78 (by decide) (fun c_78 => ?_) (fun c_78 => ?_)
            · have t_78 : (((vF 88) v5)).toInt = ((iN : Nat) : Int) := toI_eq c_78 rfl (nI_toInt (by omega))
              refine lv_iconst (v := 0) hx hb dX12_move_85 (by decide) ?_
              refine lv_istore hx hb dX12_move_86 hl (by decide) rfl (fun ls (hl : lv_has ls _ ([(4, .int 0), (0, .ref h0), (1, .int (nI iN)), (3, .int (nI v5)), (5, .int ((vF 88) v5)), (6, .int hd), (7, .int (nI w5))])) => ?_)
              refine lv_iload hx hb dX12_move_88 (lv_at hl 5 rfl) ?_
              refine lv_istore_n hx hb dX12_move_90 rfl hl (by decide) rfl (fun ls (hl : lv_has ls _ ([(3, .int hd), (4, .int 0), (0, .ref h0), (1, .int (nI iN)), (5, .int ((vF 88) v5)), (6, .int hd), (7, .int (nI w5))])) => ?_)
              refine lv_goto (tgt := 5) hx hb dX12_move_91 (by decide) ?_
              have hl : lv_has _ _ ([(0, .ref h0), (1, .int (nI iN)), (3, .int hd), (4, .int 0)]) := lv_sub hl [2, 3, 0, 1] rfl
              exact ih5 0 hd (upd (upd tk ((nI v5)).toNatClampNeg ((vF 88) v5)) (hd).toNatClampNeg (-1)) _ _ _  (by (obtain ⟨x5, ex5, hx5, hx6⟩ := hhd.resolve_left (fun h => c_64 h.1)); (have hx1 : tk x5 ≠ -1 := by rw [hx6, hcm]; (obtain ⟨h9, e9⟩ : ∃ h9, h9 < 10 ∧ vF 89 q5 = nI h9 := hlk q5 (by omega)); rw [e9.2]; exact nI_nm1 (by omega)); (have hqp : 0 < q5 := by rcases Nat.eq_zero_or_pos q5 with h9 | h9; (exfalso; rw [hcm, h9, hCh.1] at hx6; exact hTk.fresh (by omega) (show x5 < 16 by omega) hx6); (exact h9)); exfalso; rw [c_78] at hx6; exact hTk.fresh (by omega) (show x5 < 16 by omega) hx6) hP hD hS hl
            · have t_78 : ¬ (((vF 88) v5)).toInt = ((iN : Nat) : Int) := toI_neq c_78 rfl (nI_toInt (by omega))
              refine lv_iconst (v := 1) hx hb dX12_move_81 (by decide) ?_
              refine lv_goto (tgt := 86) hx hb dX12_move_82 (by decide) ?_
              refine lv_istore hx hb dX12_move_86 hl (by decide) rfl (fun ls (hl : lv_has ls _ ([(4, .int 1), (0, .ref h0), (1, .int (nI iN)), (3, .int (nI v5)), (5, .int ((vF 88) v5)), (6, .int hd), (7, .int (nI w5))])) => ?_)
              refine lv_iload hx hb dX12_move_88 (lv_at hl 5 rfl) ?_
              refine lv_istore_n hx hb dX12_move_90 rfl hl (by decide) rfl (fun ls (hl : lv_has ls _ ([(3, .int hd), (4, .int 1), (0, .ref h0), (1, .int (nI iN)), (5, .int ((vF 88) v5)), (6, .int hd), (7, .int (nI w5))])) => ?_)
              refine lv_goto (tgt := 5) hx hb dX12_move_91 (by decide) ?_
              have hl : lv_has _ _ ([(0, .ref h0), (1, .int (nI iN)), (3, .int hd), (4, .int 1)]) := lv_sub hl [2, 3, 0, 1] rfl
              exact ih5 1 hd (upd (upd tk ((nI v5)).toNatClampNeg ((vF 88) v5)) (hd).toNatClampNeg (-1)) _ _ _  (by (obtain ⟨x5, ex5, hx5, hx6⟩ := hhd.resolve_left (fun h => c_64 h.1)); (have hx1 : tk x5 ≠ -1 := by rw [hx6, hcm]; (obtain ⟨h9, e9⟩ : ∃ h9, h9 < 10 ∧ vF 89 q5 = nI h9 := hlk q5 (by omega)); rw [e9.2]; exact nI_nm1 (by omega)); (have hqp : 0 < q5 := by rcases Nat.eq_zero_or_pos q5 with h9 | h9; (exfalso; rw [hcm, h9, hCh.1] at hx6; exact hTk.fresh (by omega) (show x5 < 16 by omega) hx6); (exact h9)); (subst ex5); (obtain ⟨hT2, q6, hq6, hcq, hC2⟩ := hCh.step (tk2 := upd (upd tk (nI v5).toNatClampNeg (vF 88 v5)) (nI x5).toNatClampNeg (-1)) (w := x5) hTk hv5 (by omega) htk0 hqp (by rw [hx6, hcm]) hx1 (by rw [upd_at (by omega), if_neg (fun e9 => hx1 (by rw [← e9]; exact htk0)), upd_at (by omega), if_pos rfl, hcm]) (by rw [upd_at (by omega), if_pos rfl]) (fun x h1 h2 => by rw [upd_at (by omega), if_neg h2, upd_at (by omega), if_neg h1])); exact Or.inl ⟨rfl, x5, q6, rfl, by omega, hcq, by omega, by rw [upd_at (by omega), if_pos rfl], hT2, hC2, by omega⟩) hP hD hS hl
        · have t_28 : ¬ ((w5 : Nat) : Int) ≥ 16 := toI_nge c_28 (nI_toInt (by omega)) (by decide)
          refine lv_aload_n hx hb dX12_move_31 rfl (lv_at hl 0 rfl) ?_
          refine va_get (D := (dC, dI)) (ci := 12) (v := .ref (a 87)) (C := RX12) (T := TX12) (N := 163) (fs := fM (vS a vi vj)) hx hb hts iwsRX12_move_in12 hown hK hP 0 rfl rfl 140 (by decide) (hts (.fieldLink RX12 284 "OptimaWorksModel" "taker" "[I") (by decide +kernel)) (fun _ h9 => h9) rfl dX12_move_32 ?_
          refine lv_iload hx hb dX12_move_35 (lv_at hl 5 rfl) ?_
          refine va_iald (cA := k 87) (n := 16) (f := tk) hx hb hK hP 88 87 (WR_get 87 (by decide)) (TR_get 87 (by decide)) (vp_in_nI (show w5 < 16 by omega) (by omega)) dX12_move_37 ?_
          refine lv_topi (fun y2 hy2 => ?_)
          obtain rfl : (tk w5) = y2 := (hy2.trans (by rw [nI_clamp (by omega)])).symm
          refine lv_iload hx hb dX12_move_38 (lv_at hl 3 rfl) ?_
          refine lv_icmp_ne (tgt := 47) hx hb dX12_move_40 (by decide) (fun c_40 => ?_) (fun c_40 => ?_)
          · have t_40 : ((tk w5)).toInt ≠ (((vF 88) v5)).toInt := toI_ne c_40 rfl rfl
            refine lv_iinc (v := (nI (w5 + 1))) hx hb dX12_move_47 hl (k := 5) rfl (nI_add w5 1) (by decide) rfl (fun ls (hl : lv_has ls _ ([(7, .int (nI (w5 + 1))), (0, .ref h0), (1, .int (nI iN)), (3, .int (nI v5)), (5, .int ((vF 88) v5)), (6, .int hd)])) => ?_)
            refine lv_goto (tgt := 24) hx hb dX12_move_50 (by decide) ?_
            have hl : lv_has _ _ ([(0, .ref h0), (1, .int (nI iN)), (3, .int (nI v5)), (5, .int ((vF 88) v5)), (6, .int hd), (7, .int (nI (w5 + 1)))]) := lv_sub hl [1, 2, 3, 4, 5, 0] rfl
            exact ih24_1 (w5 + 1) hd _ _ _ (by omega) (by rcases hhd with ⟨h1, h2⟩ | ⟨x, h1, h2, h3⟩; (exact Or.inl ⟨h1, fun x hx9 => by by_cases e9 : x = w5; (rw [e9]; exact c_40); (exact h2 x (by omega))⟩); (exact Or.inr ⟨x, h1, by omega, h3⟩)) (by omega) hP hD hS hl
          · have t_40 : ((tk w5)).toInt = (((vF 88) v5)).toInt := toI_nne c_40 rfl rfl
            refine lv_iload hx hb dX12_move_43 (lv_at hl 5 rfl) ?_
            refine lv_istore hx hb dX12_move_45 hl (by decide) rfl (fun ls (hl : lv_has ls _ ([(6, .int (nI w5)), (0, .ref h0), (1, .int (nI iN)), (3, .int (nI v5)), (5, .int ((vF 88) v5)), (7, .int (nI w5))])) => ?_)
            refine lv_iinc (v := (nI (w5 + 1))) hx hb dX12_move_47 hl (k := 5) rfl (nI_add w5 1) (by decide) rfl (fun ls (hl : lv_has ls _ ([(7, .int (nI (w5 + 1))), (6, .int (nI w5)), (0, .ref h0), (1, .int (nI iN)), (3, .int (nI v5)), (5, .int ((vF 88) v5))])) => ?_)
            refine lv_goto (tgt := 24) hx hb dX12_move_50 (by decide) ?_
            have hl : lv_has _ _ ([(0, .ref h0), (1, .int (nI iN)), (3, .int (nI v5)), (5, .int ((vF 88) v5)), (6, .int (nI w5)), (7, .int (nI (w5 + 1)))]) := lv_sub hl [2, 3, 4, 5, 1, 0] rfl
            exact ih24_1 (w5 + 1) (nI w5) _ _ _ (by omega) (Or.inr ⟨w5, rfl, by omega, c_40⟩) (by omega) hP hD hS hl
theorem dX12_finds_0 : decode cX12_finds 0 = .ok (.iconst 0, 1) := dk_3 (by decide +kernel)
theorem dX12_finds_1 : decode cX12_finds 1 = .ok (.istore_n 2, 1) := dk_61 (by decide +kernel)
theorem dX12_finds_2 : decode cX12_finds 2 = .ok (.iload_n 2, 1) := dk_28 (by decide +kernel)
theorem dX12_finds_3 : decode cX12_finds 3 = .ok (.bipush 16, 2) := dk_16 (by decide +kernel)
theorem dX12_finds_5 : decode cX12_finds 5 = .ok (.if_icmp .ge 16, 3) := dk_162 (by decide +kernel)
theorem dX12_finds_8 : decode cX12_finds 8 = .ok (.aload_n 0, 1) := dk_42 (by decide +kernel)
theorem dX12_finds_9 : decode cX12_finds 9 = .ok (.getfield 287, 3) := dk_180 (by decide +kernel)
theorem dX12_finds_12 : decode cX12_finds 12 = .ok (.iload_n 2, 1) := dk_28 (by decide +kernel)
theorem dX12_finds_13 : decode cX12_finds 13 = .ok (.iconst (-1), 1) := dk_2 (by decide +kernel)
theorem dX12_finds_14 : decode cX12_finds 14 = .ok (.iastore, 1) := dk_79 (by decide +kernel)
theorem dX12_finds_15 : decode cX12_finds 15 = .ok (.iinc 2 1, 3) := dk_132 (by decide +kernel)
theorem dX12_finds_18 : decode cX12_finds 18 = .ok (.goto (-16), 3) := dk_167 (by decide +kernel)
theorem dX12_finds_21 : decode cX12_finds 21 = .ok (.iconst 1, 1) := dk_4 (by decide +kernel)
theorem dX12_finds_22 : decode cX12_finds 22 = .ok (.istore_n 2, 1) := dk_61 (by decide +kernel)
theorem dX12_finds_23 : decode cX12_finds 23 = .ok (.aload_n 0, 1) := dk_42 (by decide +kernel)
theorem dX12_finds_24 : decode cX12_finds 24 = .ok (.getfield 290, 3) := dk_180 (by decide +kernel)
theorem dX12_finds_27 : decode cX12_finds 27 = .ok (.iconst 0, 1) := dk_3 (by decide +kernel)
theorem dX12_finds_28 : decode cX12_finds 28 = .ok (.iload_n 1, 1) := dk_27 (by decide +kernel)
theorem dX12_finds_29 : decode cX12_finds 29 = .ok (.iastore, 1) := dk_79 (by decide +kernel)
theorem dX12_finds_30 : decode cX12_finds 30 = .ok (.iconst 0, 1) := dk_3 (by decide +kernel)
theorem dX12_finds_31 : decode cX12_finds 31 = .ok (.istore_n 3, 1) := dk_62 (by decide +kernel)
theorem dX12_finds_32 : decode cX12_finds 32 = .ok (.iload_n 3, 1) := dk_29 (by decide +kernel)
theorem dX12_finds_33 : decode cX12_finds 33 = .ok (.iload_n 2, 1) := dk_28 (by decide +kernel)
theorem dX12_finds_34 : decode cX12_finds 34 = .ok (.if_icmp .ge 110, 3) := dk_162 (by decide +kernel)
theorem dX12_finds_37 : decode cX12_finds 37 = .ok (.iconst 0, 1) := dk_3 (by decide +kernel)
theorem dX12_finds_38 : decode cX12_finds 38 = .ok (.istore 4, 2) := dk_54 (by decide +kernel)
theorem dX12_finds_40 : decode cX12_finds 40 = .ok (.iload 4, 2) := dk_21 (by decide +kernel)
theorem dX12_finds_42 : decode cX12_finds 42 = .ok (.bipush 16, 2) := dk_16 (by decide +kernel)
theorem dX12_finds_44 : decode cX12_finds 44 = .ok (.if_icmp .ge 94, 3) := dk_162 (by decide +kernel)
theorem dX12_finds_47 : decode cX12_finds 47 = .ok (.aload_n 0, 1) := dk_42 (by decide +kernel)
theorem dX12_finds_48 : decode cX12_finds 48 = .ok (.getfield 281, 3) := dk_180 (by decide +kernel)
theorem dX12_finds_51 : decode cX12_finds 51 = .ok (.aload_n 0, 1) := dk_42 (by decide +kernel)
theorem dX12_finds_52 : decode cX12_finds 52 = .ok (.getfield 290, 3) := dk_180 (by decide +kernel)
theorem dX12_finds_55 : decode cX12_finds 55 = .ok (.iload_n 3, 1) := dk_29 (by decide +kernel)
theorem dX12_finds_56 : decode cX12_finds 56 = .ok (.iaload, 1) := dk_46 (by decide +kernel)
theorem dX12_finds_57 : decode cX12_finds 57 = .ok (.iaload, 1) := dk_46 (by decide +kernel)
theorem dX12_finds_58 : decode cX12_finds 58 = .ok (.iload 4, 2) := dk_21 (by decide +kernel)
theorem dX12_finds_60 : decode cX12_finds 60 = .ok (.ishr, 1) := dk_122 (by decide +kernel)
theorem dX12_finds_61 : decode cX12_finds 61 = .ok (.iconst 1, 1) := dk_4 (by decide +kernel)
theorem dX12_finds_62 : decode cX12_finds 62 = .ok (.iand, 1) := dk_126 (by decide +kernel)
theorem dX12_finds_63 : decode cX12_finds 63 = .ok (.ifCond .eq 69, 3) := dk_153 (by decide +kernel)
theorem dX12_finds_66 : decode cX12_finds 66 = .ok (.aload_n 0, 1) := dk_42 (by decide +kernel)
theorem dX12_finds_67 : decode cX12_finds 67 = .ok (.getfield 287, 3) := dk_180 (by decide +kernel)
theorem dX12_finds_70 : decode cX12_finds 70 = .ok (.iload 4, 2) := dk_21 (by decide +kernel)
theorem dX12_finds_72 : decode cX12_finds 72 = .ok (.iaload, 1) := dk_46 (by decide +kernel)
theorem dX12_finds_73 : decode cX12_finds 73 = .ok (.iconst (-1), 1) := dk_2 (by decide +kernel)
theorem dX12_finds_74 : decode cX12_finds 74 = .ok (.if_icmp .eq 6, 3) := dk_159 (by decide +kernel)
theorem dX12_finds_77 : decode cX12_finds 77 = .ok (.goto 55, 3) := dk_167 (by decide +kernel)
theorem dX12_finds_80 : decode cX12_finds 80 = .ok (.aload_n 0, 1) := dk_42 (by decide +kernel)
theorem dX12_finds_81 : decode cX12_finds 81 = .ok (.getfield 287, 3) := dk_180 (by decide +kernel)
theorem dX12_finds_84 : decode cX12_finds 84 = .ok (.iload 4, 2) := dk_21 (by decide +kernel)
theorem dX12_finds_86 : decode cX12_finds 86 = .ok (.aload_n 0, 1) := dk_42 (by decide +kernel)
theorem dX12_finds_87 : decode cX12_finds 87 = .ok (.getfield 290, 3) := dk_180 (by decide +kernel)
theorem dX12_finds_90 : decode cX12_finds 90 = .ok (.iload_n 3, 1) := dk_29 (by decide +kernel)
theorem dX12_finds_91 : decode cX12_finds 91 = .ok (.iaload, 1) := dk_46 (by decide +kernel)
theorem dX12_finds_92 : decode cX12_finds 92 = .ok (.iastore, 1) := dk_79 (by decide +kernel)
theorem dX12_finds_93 : decode cX12_finds 93 = .ok (.aload_n 0, 1) := dk_42 (by decide +kernel)
theorem dX12_finds_94 : decode cX12_finds 94 = .ok (.getfield 284, 3) := dk_180 (by decide +kernel)
theorem dX12_finds_97 : decode cX12_finds 97 = .ok (.iload 4, 2) := dk_21 (by decide +kernel)
theorem dX12_finds_99 : decode cX12_finds 99 = .ok (.iaload, 1) := dk_46 (by decide +kernel)
theorem dX12_finds_100 : decode cX12_finds 100 = .ok (.iconst (-1), 1) := dk_2 (by decide +kernel)
theorem dX12_finds_101 : decode cX12_finds 101 = .ok (.if_icmp .eq 22, 3) := dk_159 (by decide +kernel)
theorem dX12_finds_104 : decode cX12_finds 104 = .ok (.aload_n 0, 1) := dk_42 (by decide +kernel)
theorem dX12_finds_105 : decode cX12_finds 105 = .ok (.getfield 290, 3) := dk_180 (by decide +kernel)
theorem dX12_finds_108 : decode cX12_finds 108 = .ok (.iload_n 2, 1) := dk_28 (by decide +kernel)
theorem dX12_finds_109 : decode cX12_finds 109 = .ok (.aload_n 0, 1) := dk_42 (by decide +kernel)
theorem dX12_finds_110 : decode cX12_finds 110 = .ok (.getfield 284, 3) := dk_180 (by decide +kernel)
theorem dX12_finds_113 : decode cX12_finds 113 = .ok (.iload 4, 2) := dk_21 (by decide +kernel)
theorem dX12_finds_115 : decode cX12_finds 115 = .ok (.iaload, 1) := dk_46 (by decide +kernel)
theorem dX12_finds_116 : decode cX12_finds 116 = .ok (.iastore, 1) := dk_79 (by decide +kernel)
theorem dX12_finds_117 : decode cX12_finds 117 = .ok (.iinc 2 1, 3) := dk_132 (by decide +kernel)
theorem dX12_finds_120 : decode cX12_finds 120 = .ok (.goto 12, 3) := dk_167 (by decide +kernel)
theorem dX12_finds_123 : decode cX12_finds 123 = .ok (.aload_n 0, 1) := dk_42 (by decide +kernel)
theorem dX12_finds_124 : decode cX12_finds 124 = .ok (.iload_n 1, 1) := dk_27 (by decide +kernel)
theorem dX12_finds_125 : decode cX12_finds 125 = .ok (.iload 4, 2) := dk_21 (by decide +kernel)
theorem dX12_finds_127 : decode cX12_finds 127 = .ok (.invokevirtual 1016, 3) := dk_182 (by decide +kernel)
theorem dX12_finds_130 : decode cX12_finds 130 = .ok (.iconst 1, 1) := dk_4 (by decide +kernel)
theorem dX12_finds_131 : decode cX12_finds 131 = .ok (.ireturn, 1) := dk_172 (by decide +kernel)
theorem dX12_finds_132 : decode cX12_finds 132 = .ok (.iinc 4 1, 3) := dk_132 (by decide +kernel)
theorem dX12_finds_135 : decode cX12_finds 135 = .ok (.goto (-95), 3) := dk_167 (by decide +kernel)
theorem dX12_finds_138 : decode cX12_finds 138 = .ok (.iinc 3 1, 3) := dk_132 (by decide +kernel)
theorem dX12_finds_141 : decode cX12_finds 141 = .ok (.goto (-109), 3) := dk_167 (by decide +kernel)
theorem dX12_finds_144 : decode cX12_finds 144 = .ok (.iconst 0, 1) := dk_3 (by decide +kernel)
theorem dX12_finds_145 : decode cX12_finds 145 = .ok (.ireturn, 1) := dk_172 (by decide +kernel)
def wsRX12_finds : List Cond := .code yX12_finds cX12_finds 5 (some .boolean) :: ([.fieldLink RX12 290 "OptimaWorksModel" "looked" "[I", .fieldLink RX12 281 "OptimaWorksModel" "with" "[I", .fieldLink RX12 287 "OptimaWorksModel" "came" "[I", .fieldLink RX12 284 "OptimaWorksModel" "taker" "[I"] ++ wsX120 ++ (wsV RX12 1016 RX12 yX12_move wsRX12_move))
theorem iwsRX12_finds_in12 : ∀ w ∈ wsX120, w ∈ wsRX12_finds := fun _ h => List.mem_cons_of_mem _ (List.mem_append_left _ (List.mem_append_right _ h))
theorem gwsRX12_finds_0 : GoodIn wsRX12_finds (wsV RX12 1016 RX12 yX12_move wsRX12_move) := goodIn_sub (fun _ h => List.mem_cons_of_mem _ (List.mem_append_right _ h)) (gdV (by decide +kernel) gdwsRX12_move)
theorem gdwsRX12_finds : wsRX12_finds.all goodWord = true := gdC rfl (gdA (gdA (by decide +kernel : ([.fieldLink RX12 290 "OptimaWorksModel" "looked" "[I", .fieldLink RX12 281 "OptimaWorksModel" "with" "[I", .fieldLink RX12 287 "OptimaWorksModel" "came" "[I", .fieldLink RX12 284 "OptimaWorksModel" "taker" "[I"] : List Cond).all goodWord = true) gdwsX120) (gdV (by decide +kernel) gdwsRX12_move))
set_option maxHeartbeats 4000000 in
set_option maxRecDepth 100000 in
/-- finds(holder) -/
theorem r_X12_finds (l : Launch) (dC : Nat → ClassId) (dI : Nat → Nat → Nat) (a : Nat → Nat) (k : Nat → ClassId) (h0 : Nat) (vi : Nat → Int32) (vj : Nat → Int64) (vF : Nat → Nat → Int32) (vG : Nat → Nat → Int64) (iN : Nat) (hiN : iN < 10) (hT : TkB (vF 87) iN) (sz : Nat) : Met l yX12_finds wsRX12_finds ({ frames := 1, cells := 0, slots := 0, locals := 27 }) (va_Pc [.ref h0, .int (nI iN)] (fun U => U.heap.size = sz ∧ va_P (dC, dI) vwCl (WR a k h0 vi vj vF vG) U.heap ∧ va_K (dC, dI) vwCl (tX12 k) U ∧ va_D (fun _ => True) (WR a k h0 vi vj vF vG))) (va_Qi (fun (r : Int32) (u : (Nat → Int32) × (Nat → Int32) × (Nat → Int32)) => (r = 1 ∧ (TkB (u.1) (iN + 1))) ∨ (r = 0)) (fun (u : (Nat → Int32) × (Nat → Int32) × (Nat → Int32)) t => va_P (dC, dI) vwCl (WR a k h0 vi vj (fT (fT (fT vF 88 (u.2.1)) 89 (u.2.2)) 87 (u.1)) vG) t.heap ∧ va_D (va_A (WR a k h0 vi vj vF vG) sz) (WR a k h0 vi vj (fT (fT (fT vF 88 (u.2.1)) 89 (u.2.2)) 87 (u.1)) vG)) (va_A (WR a k h0 vi vj vF vG) sz)) 0 0 (va_A (WR a k h0 vi vj vF vG) sz) := by
  refine Met.ofW (cc := cX12_finds) (maxL := 5) (ret := (some .boolean)) (by decide) rfl ?_
  intro p e s m args below meth c s₁ B hml hv
  obtain ⟨rfl, hsz, hP, hK, hD0⟩ := hv
  have hx := B.exec
  have hb := B.bytes
  have hr := B.returns
  have hts := atoms_spec (ws := wsRX12_finds) B.pre
  have hown : s.vm.findClass RX12 = some m.cls := findClass_of_methodNamed B.named
  have hlocks := B.notSynchronized
  subst hsz
  have hD := hD0.self (sz := s.heap.size)
  generalize hAe : va_A (WR a k h0 vi vj vF vG) s.heap.size = A at hD ⊢
  have hA : ∀ q : Nat, s.heap.size ≤ q → A q := fun q h => by rw [← hAe]; exact Or.inr h
  have hS : va_S A s.heap s.heap [] := va_S.rf
  have hl := lv_entry ([.ref h0, .int (nI iN)]) (n := 5) (Nat.le_of_ble_eq_true rfl)
  rw [lg_entry_eq]
  generalize (lg_sl ([.ref h0, .int (nI iN)]) ++ List.replicate (5 - (lg_sl ([.ref h0, .int (nI iN)])).length) Slot.unset).toArray = ls at hl ⊢
  have hl : lv_has ls 5 [(0, .ref h0), (1, .int (nI iN))] := hl
  refine lv_iconst (v := 0) hx hb dX12_finds_0 (by decide) ?_
  refine lv_istore_n hx hb dX12_finds_1 rfl hl (by decide) rfl (fun ls (hl : lv_has ls _ ([(2, .int 0), (0, .ref h0), (1, .int (nI iN))])) => ?_)
  have e9 : fT vF 88 (vF 88) = vF := by funext q9; by_cases h9_88 : q9 = 88; (subst h9_88; exact (fT_eq _ _ _).trans (Eq.trans (by first | with_reducible rfl | with_reducible assumption | (symm; with_reducible assumption) | rfl | assumption | (symm; assumption) | (subst_vars; rfl)) (Eq.refl _).symm)); exact (fT_ne _ _ h9_88).trans (Eq.refl _).symm
  have hP : va_P (dC, dI) vwCl (WR a k h0 vi vj (fT vF 88 (vF 88)) vG) s.heap := by rw [e9]; exact hP
  have hD : va_D A (WR a k h0 vi vj (fT vF 88 (vF 88)) vG) := by rw [e9]; exact hD
  clear e9
  have hl : lv_has _ _ ([(0, .ref h0), (1, .int (nI iN)), (2, .int (nI 0))]) := lv_sub hl [1, 2, 0] rfl
  refine (fun (loop : ∀ (n9 : Nat) (v1 : Nat) (cm0 : Nat → Int32) (H : Heap) (locs : List Loc) (ls : Array Slot), (v1 ≤ 16) → (∀ x, x < v1 → cm0 x = -1) →  (16 < v1 + n9) → va_P (dC, dI) vwCl (WR a k h0 vi vj (fT vF 88 cm0) vG) H → va_D A (WR a k h0 vi vj (fT vF 88 cm0) vG) → va_S A s.heap H locs → lv_has ls 5 [(0, .ref h0), (1, .int (nI iN)), (2, .int (nI v1))] → W p l e _ s m _ below meth c H locs 0 0 _ (F0 m 2 ls [])) => loop (17) 0 (vF 88) _ _ _ (by omega) (fun x hx9 => absurd hx9 (by omega)) (by omega) hP hD hS hl) ?_
  intro n9
  induction n9 with
  | zero => intro v1 cm0 H locs ls hv1 hz1 hf9; exact False.elim (by omega)
  | succ n9 ih2 =>
    intro v1 cm0 H locs ls hv1 hz1 hf2 hP hD hS hl
    refine lv_iload_n hx hb dX12_finds_2 rfl (lv_at hl 2 rfl) ?_
    refine lv_bipush (v := 16) hx hb dX12_finds_3 (by decide) ?_
    refine lv_icmp_ge (tgt := 21) hx hb dX12_finds_5 (by decide) (fun c_5 => ?_) (fun c_5 => ?_)
    · have t_5 : ((v1 : Nat) : Int) ≥ 16 := toI_ge c_5 (nI_toInt (by omega)) (by decide)
      refine lv_iconst (v := 1) hx hb dX12_finds_21 (by decide) ?_
      refine lv_istore_n hx hb dX12_finds_22 rfl hl (by decide) rfl (fun ls (hl : lv_has ls _ ([(2, .int 1), (0, .ref h0), (1, .int (nI iN))])) => ?_)
      refine lv_aload_n hx hb dX12_finds_23 rfl (lv_at hl 1 rfl) ?_
      refine va_get (D := (dC, dI)) (ci := 12) (v := .ref (a 89)) (C := RX12) (T := TX12) (N := 163) (fs := fM (vS a vi vj)) hx hb hts iwsRX12_finds_in12 hown hK hP 0 rfl rfl 142 (by decide) (hts (.fieldLink RX12 290 "OptimaWorksModel" "looked" "[I") (by decide +kernel)) (fun _ h9 => h9) rfl dX12_finds_24 ?_
      refine lv_iconst (v := 0) hx hb dX12_finds_27 (by decide) ?_
      refine lv_iload_n hx hb dX12_finds_28 rfl (lv_at hl 2 rfl) ?_
      refine va_iast (cA := k 89) (n := 17) (f := (vF 89)) hx hb hK hP hD hS 90 89 (WR_get 89 (by decide)) (TR_get 89 (by decide)) (show ¬ ((0 : Int32) < 0 ∨ 17 ≤ (0 : Int32).toNatClampNeg) by decide) dX12_finds_29 (fun H locs hP hD hS => ?_)
      have hP : va_P (dC, dI) vwCl (WR a k h0 vi vj (fT (fT vF 88 cm0) 89 (upd (vF 89) (0 : Int32).toNatClampNeg (nI iN))) vG) H := by rw [← WR_F 89 (by decide) _ rfl]; exact hP
      have hD : va_D A (WR a k h0 vi vj (fT (fT vF 88 cm0) 89 (upd (vF 89) (0 : Int32).toNatClampNeg (nI iN))) vG) := by rw [← WR_F 89 (by decide) _ rfl]; exact hD
      refine lv_iconst (v := 0) hx hb dX12_finds_30 (by decide) ?_
      refine lv_istore_n hx hb dX12_finds_31 rfl hl (by decide) rfl (fun ls (hl : lv_has ls _ ([(3, .int 0), (2, .int 1), (0, .ref h0), (1, .int (nI iN))])) => ?_)
      have hl : lv_has _ _ ([(0, .ref h0), (1, .int (nI iN)), (2, .int (nI 1)), (3, .int (nI 0))]) := lv_sub hl [2, 3, 1, 0] rfl
      refine (fun (loop : ∀ (n9 : Nat) (k5 : Nat) (M5 : Nat) (cm : Nat → Int32) (lk : Nat → Int32) (H : Heap) (locs : List Loc) (ls : Array Slot), (M5 ≤ 17 ∧ k5 ≤ M5) → (M5 ≤ nvs cm 16 + 1) → (Bfs (vF 87) cm lk iN M5) →  (17 < k5 + n9) → va_P (dC, dI) vwCl (WR a k h0 vi vj (fT (fT vF 88 cm) 89 lk) vG) H → va_D A (WR a k h0 vi vj (fT (fT vF 88 cm) 89 lk) vG) → va_S A s.heap H locs → lv_has ls 5 [(0, .ref h0), (1, .int (nI iN)), (2, .int (nI M5)), (3, .int (nI k5))] → W p l e _ s m _ below meth c H locs 0 0 _ (F0 m 32 ls [])) => loop (18) 0 1 cm0 (upd (vF 89) (0 : Int32).toNatClampNeg (nI iN)) _ _ _ (by omega) (by omega) (Bfs.init hiN rfl) (by omega) hP hD hS hl) ?_
      intro n9
      induction n9 with
      | zero => intro k5 M5 cm lk H locs ls hM5 hMn hBf hf9; exact False.elim (by omega)
      | succ n9 ih32_1 =>
        intro k5 M5 cm lk H locs ls hM5 hMn hBf hf32_1 hP hD hS hl
        refine lv_iload_n hx hb dX12_finds_32 rfl (lv_at hl 3 rfl) ?_
        refine lv_iload_n hx hb dX12_finds_33 rfl (lv_at hl 2 rfl) ?_
        refine lv_icmp_ge (tgt := 144) hx hb dX12_finds_34 (by decide) (fun c_34 => ?_) (fun c_34 => ?_)
        · have t_34 : ((k5 : Nat) : Int) ≥ ((M5 : Nat) : Int) := toI_ge c_34 (nI_toInt (by omega)) (nI_toInt (by omega))
          refine lv_iconst (v := 0) hx hb dX12_finds_144 (by decide) ?_
          refine W.widen (k := 0) (n := 0) (by decide +kernel) (by decide +kernel) ?_
          have e9 : fT (fT (fT vF 88 cm) 89 lk) 87 (vF 87) = fT (fT vF 88 cm) 89 lk := fT_id _ _ ((fT_ne _ _ (Nat.ne_of_beq_eq_false rfl)).trans (fT_ne _ _ (Nat.ne_of_beq_eq_false rfl)))
          have hP : va_P (dC, dI) vwCl (WR a k h0 vi vj (fT (fT (fT vF 88 cm) 89 lk) 87 (vF 87)) vG) H := by rw [e9]; exact hP
          have hD : va_D A (WR a k h0 vi vj (fT (fT (fT vF 88 cm) 89 lk) 87 (vF 87)) vG) := by rw [e9]; exact hD
          clear e9
          exact W.zret (v := 0) hx hb hr rfl (fun t9_ ht hW => ⟨⟨0, ((vF 87), cm, lk), rfl, by (try dsimp only); exact Or.inr rfl, by rw [ht]; exact hP, hD⟩, hS.F ht⟩) hS.2.2 dX12_finds_145
        · have t_34 : ¬ ((k5 : Nat) : Int) ≥ ((M5 : Nat) : Int) := toI_nge c_34 (nI_toInt (by omega)) (nI_toInt (by omega))
          refine lv_iconst (v := 0) hx hb dX12_finds_37 (by decide) ?_
          refine lv_istore hx hb dX12_finds_38 hl (by decide) rfl (fun ls (hl : lv_has ls _ ([(4, .int 0), (0, .ref h0), (1, .int (nI iN)), (2, .int (nI M5)), (3, .int (nI k5))])) => ?_)
          have hl : lv_has _ _ ([(0, .ref h0), (1, .int (nI iN)), (2, .int (nI M5)), (3, .int (nI k5)), (4, .int (nI 0))]) := lv_sub hl [1, 2, 3, 4, 0] rfl
          refine (fun (loop : ∀ (n9 : Nat) (v5 : Nat) (M5 : Nat) (cm : Nat → Int32) (lk : Nat → Int32) (H : Heap) (locs : List Loc) (ls : Array Slot), (v5 ≤ 16) → (M5 ≤ 17 ∧ k5 < M5) → (M5 ≤ nvs cm 16 + 1) → (Bfs (vF 87) cm lk iN M5) →  (16 < v5 + n9) → va_P (dC, dI) vwCl (WR a k h0 vi vj (fT (fT vF 88 cm) 89 lk) vG) H → va_D A (WR a k h0 vi vj (fT (fT vF 88 cm) 89 lk) vG) → va_S A s.heap H locs → lv_has ls 5 [(0, .ref h0), (1, .int (nI iN)), (2, .int (nI M5)), (3, .int (nI k5)), (4, .int (nI v5))] → W p l e _ s m _ below meth c H locs 0 0 _ (F0 m 40 ls [])) => loop (17) 0 M5 cm lk _ _ _ (by omega) (by omega) (hMn) (hBf) (by omega) hP hD hS hl) ?_
          intro n9
          induction n9 with
          | zero => intro v5 M5 cm lk H locs ls hv5 hM5 hMn hBf hf9; exact False.elim (by omega)
          | succ n9 ih40_2 =>
            intro v5 M5 cm lk H locs ls hv5 hM5 hMn hBf hf40_2 hP hD hS hl
            refine lv_iload hx hb dX12_finds_40 (lv_at hl 4 rfl) ?_
            refine lv_bipush (v := 16) hx hb dX12_finds_42 (by decide) ?_
            refine lv_icmp_ge (tgt := 138) hx hb dX12_finds_44 (by decide) (fun c_44 => ?_) (fun c_44 => ?_)
            · have t_44 : ((v5 : Nat) : Int) ≥ 16 := toI_ge c_44 (nI_toInt (by omega)) (by decide)
              refine lv_iinc (v := (nI (k5 + 1))) hx hb dX12_finds_138 hl (k := 3) rfl (nI_add k5 1) (by decide) rfl (fun ls (hl : lv_has ls _ ([(3, .int (nI (k5 + 1))), (0, .ref h0), (1, .int (nI iN)), (2, .int (nI M5)), (4, .int (nI v5))])) => ?_)
              refine lv_goto (tgt := 32) hx hb dX12_finds_141 (by decide) ?_
              have hl : lv_has _ _ ([(0, .ref h0), (1, .int (nI iN)), (2, .int (nI M5)), (3, .int (nI (k5 + 1)))]) := lv_sub hl [1, 2, 3, 0] rfl
              exact ih32_1 (k5 + 1) M5 cm lk _ _ _ (by omega) (hMn) (hBf) (by omega) hP hD hS hl
            · have t_44 : ¬ ((v5 : Nat) : Int) ≥ 16 := toI_nge c_44 (nI_toInt (by omega)) (by decide)
              obtain ⟨h5, hh5, eh5, hh6⟩ := hBf.2.2.2 k5 (by omega)
              refine lv_aload_n hx hb dX12_finds_47 rfl (lv_at hl 0 rfl) ?_
              refine va_get (D := (dC, dI)) (ci := 12) (v := .ref (a 86)) (C := RX12) (T := TX12) (N := 163) (fs := fM (vS a vi vj)) hx hb hts iwsRX12_finds_in12 hown hK hP 0 rfl rfl 139 (by decide) (hts (.fieldLink RX12 281 "OptimaWorksModel" "with" "[I") (by decide +kernel)) (fun _ h9 => h9) rfl dX12_finds_48 ?_
              refine lv_aload_n hx hb dX12_finds_51 rfl (lv_at hl 0 rfl) ?_
              refine va_get (D := (dC, dI)) (ci := 12) (v := .ref (a 89)) (C := RX12) (T := TX12) (N := 163) (fs := fM (vS a vi vj)) hx hb hts iwsRX12_finds_in12 hown hK hP 0 rfl rfl 142 (by decide) (hts (.fieldLink RX12 290 "OptimaWorksModel" "looked" "[I") (by decide +kernel)) (fun _ h9 => h9) rfl dX12_finds_52 ?_
              refine lv_iload_n hx hb dX12_finds_55 rfl (lv_at hl 3 rfl) ?_
              refine va_iald (cA := k 89) (n := 17) (f := lk) hx hb hK hP 90 89 (WR_get 89 (by decide)) (TR_get 89 (by decide)) (vp_in_nI (show k5 < 17 by omega) (by omega)) dX12_finds_56 ?_
              refine lv_topi (fun y1 hy1 => ?_)
              obtain rfl : (lk k5) = y1 := (hy1.trans (by rw [nI_clamp (by omega)])).symm
              refine lv_topi (fun y2 hy2 => ?_)
              obtain rfl : (nI h5) = y2 := (hy2.trans (eh5)).symm
              refine va_iald (cA := k 86) (n := 10) (f := (vF 86)) hx hb hK hP 87 86 (WR_get 86 (by decide)) (TR_get 86 (by decide)) (vp_in_nI (show h5 < 10 by omega) (by omega)) dX12_finds_57 ?_
              refine lv_topi (fun y3 hy3 => ?_)
              obtain rfl : ((vF 86) h5) = y3 := (hy3.trans (by rw [nI_clamp (by omega)])).symm
              refine lv_iload hx hb dX12_finds_58 (lv_at hl 4 rfl) ?_
              refine lv_ishr hx hb dX12_finds_60 ?_
              refine lv_iconst (v := 1) hx hb dX12_finds_61 (by decide) ?_
              refine lv_iand hx hb dX12_finds_62 ?_
              refine lv_if_eq (tgt := 132) hx hb dX12_finds_63 (by decide) (fun c_63 => ?_) (fun c_63 => ?_)
              · have t_63 : (((((vF 86) h5) >>> ((nI v5) &&& 31)) &&& 1)).toInt = 0 := toI_eq c_63 rfl (by decide)
                refine lv_iinc (v := (nI (v5 + 1))) hx hb dX12_finds_132 hl (k := 4) rfl (nI_add v5 1) (by decide) rfl (fun ls (hl : lv_has ls _ ([(4, .int (nI (v5 + 1))), (0, .ref h0), (1, .int (nI iN)), (2, .int (nI M5)), (3, .int (nI k5))])) => ?_)
                refine lv_goto (tgt := 40) hx hb dX12_finds_135 (by decide) ?_
                have hl : lv_has _ _ ([(0, .ref h0), (1, .int (nI iN)), (2, .int (nI M5)), (3, .int (nI k5)), (4, .int (nI (v5 + 1)))]) := lv_sub hl [1, 2, 3, 4, 0] rfl
                exact ih40_2 (v5 + 1) M5 cm lk _ _ _ (by omega) (by omega) (hMn) (hBf) (by omega) hP hD hS hl
              · have t_63 : ¬ (((((vF 86) h5) >>> ((nI v5) &&& 31)) &&& 1)).toInt = 0 := toI_neq c_63 rfl (by decide)
                refine lv_aload_n hx hb dX12_finds_66 rfl (lv_at hl 0 rfl) ?_
                refine va_get (D := (dC, dI)) (ci := 12) (v := .ref (a 88)) (C := RX12) (T := TX12) (N := 163) (fs := fM (vS a vi vj)) hx hb hts iwsRX12_finds_in12 hown hK hP 0 rfl rfl 141 (by decide) (hts (.fieldLink RX12 287 "OptimaWorksModel" "came" "[I") (by decide +kernel)) (fun _ h9 => h9) rfl dX12_finds_67 ?_
                refine lv_iload hx hb dX12_finds_70 (lv_at hl 4 rfl) ?_
                refine va_iald (cA := k 88) (n := 16) (f := cm) hx hb hK hP 89 88 (WR_get 88 (by decide)) (TR_get 88 (by decide)) (vp_in_nI (show v5 < 16 by omega) (by omega)) dX12_finds_72 ?_
                refine lv_topi (fun y4 hy4 => ?_)
                obtain rfl : (cm v5) = y4 := (hy4.trans (by rw [nI_clamp (by omega)])).symm
                refine lv_iconst (v := (-1)) hx hb dX12_finds_73 (by decide) ?_
                refine lv_icmp_eq (tgt := 80) hx hb dX12_finds_74 (by decide) (fun c_74 => ?_) (fun c_74 => ?_)
                · have t_74 : ((cm v5)).toInt = -1 := toI_eq c_74 rfl (by decide)
                  have hcv : cm v5 = -1 := c_74
                  refine lv_aload_n hx hb dX12_finds_80 rfl (lv_at hl 0 rfl) ?_
                  refine va_get (D := (dC, dI)) (ci := 12) (v := .ref (a 88)) (C := RX12) (T := TX12) (N := 163) (fs := fM (vS a vi vj)) hx hb hts iwsRX12_finds_in12 hown hK hP 0 rfl rfl 141 (by decide) (hts (.fieldLink RX12 287 "OptimaWorksModel" "came" "[I") (by decide +kernel)) (fun _ h9 => h9) rfl dX12_finds_81 ?_
                  refine lv_iload hx hb dX12_finds_84 (lv_at hl 4 rfl) ?_
                  refine lv_aload_n hx hb dX12_finds_86 rfl (lv_at hl 0 rfl) ?_
                  refine va_get (D := (dC, dI)) (ci := 12) (v := .ref (a 89)) (C := RX12) (T := TX12) (N := 163) (fs := fM (vS a vi vj)) hx hb hts iwsRX12_finds_in12 hown hK hP 0 rfl rfl 142 (by decide) (hts (.fieldLink RX12 290 "OptimaWorksModel" "looked" "[I") (by decide +kernel)) (fun _ h9 => h9) rfl dX12_finds_87 ?_
                  refine lv_iload_n hx hb dX12_finds_90 rfl (lv_at hl 3 rfl) ?_
                  refine va_iald (cA := k 89) (n := 17) (f := lk) hx hb hK hP 90 89 (WR_get 89 (by decide)) (TR_get 89 (by decide)) (vp_in_nI (show k5 < 17 by omega) (by omega)) dX12_finds_91 ?_
                  refine lv_topi (fun y5 hy5 => ?_)
                  obtain rfl : (lk k5) = y5 := (hy5.trans (by rw [nI_clamp (by omega)])).symm
                  refine lv_topi (fun y6 hy6 => ?_)
                  obtain rfl : (nI h5) = y6 := (hy6.trans (eh5)).symm
                  refine va_iast (cA := k 88) (n := 16) (f := cm) hx hb hK hP hD hS 89 88 (WR_get 88 (by decide)) (TR_get 88 (by decide)) (vp_in_nI (show v5 < 16 by omega) (by omega)) dX12_finds_92 (fun H locs hP hD hS => ?_)
                  have e9 : fT (fT vF 88 (upd cm ((nI v5)).toNatClampNeg (nI h5))) 89 lk = fT (fT (fT vF 88 cm) 89 lk) 88 (upd cm ((nI v5)).toNatClampNeg (nI h5)) := ((fT_sw _ _ _ (Nat.ne_of_beq_eq_false rfl)).trans (congrArg (fun g9 => fT g9 89 lk) (fT_sm _ _ _ _))).symm
                  have hP : va_P (dC, dI) vwCl (WR a k h0 vi vj (fT (fT vF 88 (upd cm ((nI v5)).toNatClampNeg (nI h5))) 89 lk) vG) H := by rw [e9, ← WR_F 88 (by decide) _ rfl]; exact hP
                  have hD : va_D A (WR a k h0 vi vj (fT (fT vF 88 (upd cm ((nI v5)).toNatClampNeg (nI h5))) 89 lk) vG) := by rw [e9, ← WR_F 88 (by decide) _ rfl]; exact hD
                  clear e9
                  refine lv_aload_n hx hb dX12_finds_93 rfl (lv_at hl 0 rfl) ?_
                  refine va_get (D := (dC, dI)) (ci := 12) (v := .ref (a 87)) (C := RX12) (T := TX12) (N := 163) (fs := fM (vS a vi vj)) hx hb hts iwsRX12_finds_in12 hown hK hP 0 rfl rfl 140 (by decide) (hts (.fieldLink RX12 284 "OptimaWorksModel" "taker" "[I") (by decide +kernel)) (fun _ h9 => h9) rfl dX12_finds_94 ?_
                  refine lv_iload hx hb dX12_finds_97 (lv_at hl 4 rfl) ?_
                  refine va_iald (cA := k 87) (n := 16) (f := (vF 87)) hx hb hK hP 88 87 (WR_get 87 (by decide)) (TR_get 87 (by decide)) (vp_in_nI (show v5 < 16 by omega) (by omega)) dX12_finds_99 ?_
                  refine lv_topi (fun y7 hy7 => ?_)
                  obtain rfl : ((vF 87) v5) = y7 := (hy7.trans (by rw [nI_clamp (by omega)])).symm
                  refine lv_iconst (v := (-1)) hx hb dX12_finds_100 (by decide) ?_
                  refine lv_icmp_eq (tgt := 123) hx hb dX12_finds_101 (by decide) (fun c_101 => ?_) (fun c_101 => ?_)
                  · have t_101 : (((vF 87) v5)).toInt = -1 := toI_eq c_101 rfl (by decide)
                    have hBm := hBf.mark (cm2 := upd cm (nI v5).toNatClampNeg (nI h5)) hcv (fun x hx9 => by rw [upd_at (by omega), if_neg hx9])
                    refine lv_aload_n hx hb dX12_finds_123 rfl (lv_at hl 0 rfl) ?_
                    refine lv_iload_n hx hb dX12_finds_124 rfl (lv_at hl 1 rfl) ?_
                    refine lv_iload hx hb dX12_finds_125 (lv_at hl 4 rfl) ?_
                    have hFc := allFree hD hS hA
                    refine va_callv (va_runV (As := [.int (nI iN), .int (nI v5)]) (rest := []) ⟨hx, hb, hml, hown, hts⟩ (r_X12_move l dC dI a k h0 vi vj (fT (fT vF 88 (upd cm ((nI v5)).toNatClampNeg (nI h5))) 89 lk) vG iN v5 k5 (by first | with_reducible assumption | decide | omega | rfl | assumption) (by first | with_reducible assumption | decide | omega | rfl | assumption) (by first | with_reducible assumption | decide | omega | rfl | assumption) (by show upd cm (nI v5).toNatClampNeg (nI h5) v5 = lk k5; rw [upd_at (by omega), if_pos rfl, eh5]) (c_101) (hT) (hBm.chn (by omega)) (fun q9 hq9 => by obtain ⟨h9, h8, h7, _⟩ := hBf.2.2.2 q9 (by omega); exact ⟨h9, h8, h7⟩) H.size) (cwV 2 hts gwsRX12_finds_0 rfl rfl rfl hd_yX12_move_RX12 (by decide +kernel)) (fz_pre (va_recv hK hP (ci := 12) (q0 := 0) rfl rfl) hP hK hD) rfl rfl hl.1 rfl (lv_room (Nat.le_of_ble_eq_true rfl)) dX12_finds_127 (by decide +kernel)) hS (fun q _ h => hFc q h) hFc (fun g87127 t9_ H locs ht hvm hw9 hB9 hz1 hk1 hS => ?_)
                    have hP : va_P (dC, dI) vwCl (WR a k h0 vi vj (fT (fT (fT vF 88 (upd cm ((nI v5)).toNatClampNeg (nI h5))) 89 lk) 87 g87127) vG) H := fz_P ht hB9.1
                    have hD : va_D A (WR a k h0 vi vj (fT (fT (fT vF 88 (upd cm ((nI v5)).toNatClampNeg (nI h5))) 89 lk) 87 g87127) vG) := hB9.2.weaken (fun _ q _ h => hFc q.1 h)
                    have f127_0 := hw9
                    try dsimp only at f127_0
                    refine lv_iconst (v := 1) hx hb dX12_finds_130 (by decide) ?_
                    refine W.widen (k := 0) (n := 0) (by decide +kernel) (by decide +kernel) ?_
                    exact W.zret (v := 1) hx hb hr rfl (fun t9_ ht hW => ⟨⟨1, (g87127, (upd cm ((nI v5)).toNatClampNeg (nI h5)), lk), rfl, by (try dsimp only); exact Or.inl ⟨rfl, f127_0⟩, by rw [ht]; exact hP, hD⟩, hS.F ht⟩) hS.2.2 dX12_finds_131
                  · have t_101 : ¬ (((vF 87) v5)).toInt = -1 := toI_neq c_101 rfl (by decide)
                    have hnv := nvs_up (cm := cm) (cm2 := upd cm (nI v5).toNatClampNeg (nI h5)) (v := v5) hcv (by rw [upd_at (by omega), if_pos rfl]; exact nI_nm1 (by omega)) (fun x hx9 => by rw [upd_at (by omega), if_neg hx9]) 16 (by omega)
                    have hnl := nvs_le (upd cm (nI v5).toNatClampNeg (nI h5)) 16
                    have hM16 : M5 < 17 := by omega
                    refine lv_aload_n hx hb dX12_finds_104 rfl (lv_at hl 0 rfl) ?_
                    refine va_get (D := (dC, dI)) (ci := 12) (v := .ref (a 89)) (C := RX12) (T := TX12) (N := 163) (fs := fM (vS a vi vj)) hx hb hts iwsRX12_finds_in12 hown hK hP 0 rfl rfl 142 (by decide) (hts (.fieldLink RX12 290 "OptimaWorksModel" "looked" "[I") (by decide +kernel)) (fun _ h9 => h9) rfl dX12_finds_105 ?_
                    refine lv_iload_n hx hb dX12_finds_108 rfl (lv_at hl 2 rfl) ?_
                    refine lv_aload_n hx hb dX12_finds_109 rfl (lv_at hl 0 rfl) ?_
                    refine va_get (D := (dC, dI)) (ci := 12) (v := .ref (a 87)) (C := RX12) (T := TX12) (N := 163) (fs := fM (vS a vi vj)) hx hb hts iwsRX12_finds_in12 hown hK hP 0 rfl rfl 140 (by decide) (hts (.fieldLink RX12 284 "OptimaWorksModel" "taker" "[I") (by decide +kernel)) (fun _ h9 => h9) rfl dX12_finds_110 ?_
                    refine lv_iload hx hb dX12_finds_113 (lv_at hl 4 rfl) ?_
                    refine va_iald (cA := k 87) (n := 16) (f := (vF 87)) hx hb hK hP 88 87 (WR_get 87 (by decide)) (TR_get 87 (by decide)) (vp_in_nI (show v5 < 16 by omega) (by omega)) dX12_finds_115 ?_
                    refine lv_topi (fun y8 hy8 => ?_)
                    obtain rfl : ((vF 87) v5) = y8 := (hy8.trans (by rw [nI_clamp (by omega)])).symm
                    refine va_iast (cA := k 89) (n := 17) (f := lk) hx hb hK hP hD hS 90 89 (WR_get 89 (by decide)) (TR_get 89 (by decide)) (vp_in_nI (show M5 < 17 by omega) (by omega)) dX12_finds_116 (fun H locs hP hD hS => ?_)
                    have e9 : fT (fT vF 88 (upd cm ((nI v5)).toNatClampNeg (nI h5))) 89 (upd lk ((nI M5)).toNatClampNeg ((vF 87) v5)) = fT (fT (fT vF 88 (upd cm ((nI v5)).toNatClampNeg (nI h5))) 89 lk) 89 (upd lk ((nI M5)).toNatClampNeg ((vF 87) v5)) := (fT_sm _ _ _ _).symm
                    have hP : va_P (dC, dI) vwCl (WR a k h0 vi vj (fT (fT vF 88 (upd cm ((nI v5)).toNatClampNeg (nI h5))) 89 (upd lk ((nI M5)).toNatClampNeg ((vF 87) v5))) vG) H := by rw [e9, ← WR_F 89 (by decide) _ rfl]; exact hP
                    have hD : va_D A (WR a k h0 vi vj (fT (fT vF 88 (upd cm ((nI v5)).toNatClampNeg (nI h5))) 89 (upd lk ((nI M5)).toNatClampNeg ((vF 87) v5))) vG) := by rw [e9, ← WR_F 89 (by decide) _ rfl]; exact hD
                    clear e9
                    refine lv_iinc (v := (nI (M5 + 1))) hx hb dX12_finds_117 hl (k := 2) rfl (nI_add M5 1) (by decide) rfl (fun ls (hl : lv_has ls _ ([(2, .int (nI (M5 + 1))), (0, .ref h0), (1, .int (nI iN)), (3, .int (nI k5)), (4, .int (nI v5))])) => ?_)
                    refine lv_goto (tgt := 132) hx hb dX12_finds_120 (by decide) ?_
                    refine lv_iinc (v := (nI (v5 + 1))) hx hb dX12_finds_132 hl (k := 4) rfl (nI_add v5 1) (by decide) rfl (fun ls (hl : lv_has ls _ ([(4, .int (nI (v5 + 1))), (2, .int (nI (M5 + 1))), (0, .ref h0), (1, .int (nI iN)), (3, .int (nI k5))])) => ?_)
                    refine lv_goto (tgt := 40) hx hb dX12_finds_135 (by decide) ?_
                    have hl : lv_has _ _ ([(0, .ref h0), (1, .int (nI iN)), (2, .int (nI (M5 + 1))), (3, .int (nI k5)), (4, .int (nI (v5 + 1)))]) := lv_sub hl [2, 3, 1, 4, 0] rfl
                    exact ih40_2 (v5 + 1) (M5 + 1) (upd cm ((nI v5)).toNatClampNeg (nI h5)) (upd lk ((nI M5)).toNatClampNeg ((vF 87) v5)) _ _ _ (by omega) (by omega) (by (have h9 := hnv); omega) (hBf.push (k := k5) hT hiN (by omega) hcv c_101 (by omega) (fun x hx9 => by rw [upd_at (by omega), if_neg hx9]) (by rw [upd_at (by omega), if_pos rfl, eh5]) (fun q9 hq9 => by rw [upd_at (by omega), if_neg (by omega)]) (by rw [upd_at (by omega), if_pos rfl])) (by omega) hP hD hS hl
                · have t_74 : ¬ ((cm v5)).toInt = -1 := toI_neq c_74 rfl (by decide)
                  refine lv_goto (tgt := 132) hx hb dX12_finds_77 (by decide) ?_
                  refine lv_iinc (v := (nI (v5 + 1))) hx hb dX12_finds_132 hl (k := 4) rfl (nI_add v5 1) (by decide) rfl (fun ls (hl : lv_has ls _ ([(4, .int (nI (v5 + 1))), (0, .ref h0), (1, .int (nI iN)), (2, .int (nI M5)), (3, .int (nI k5))])) => ?_)
                  refine lv_goto (tgt := 40) hx hb dX12_finds_135 (by decide) ?_
                  have hl : lv_has _ _ ([(0, .ref h0), (1, .int (nI iN)), (2, .int (nI M5)), (3, .int (nI k5)), (4, .int (nI (v5 + 1)))]) := lv_sub hl [1, 2, 3, 4, 0] rfl
                  exact ih40_2 (v5 + 1) M5 cm lk _ _ _ (by omega) (by omega) (hMn) (hBf) (by omega) hP hD hS hl
    · have t_5 : ¬ ((v1 : Nat) : Int) ≥ 16 := toI_nge c_5 (nI_toInt (by omega)) (by decide)
      refine lv_aload_n hx hb dX12_finds_8 rfl (lv_at hl 0 rfl) ?_
      refine va_get (D := (dC, dI)) (ci := 12) (v := .ref (a 88)) (C := RX12) (T := TX12) (N := 163) (fs := fM (vS a vi vj)) hx hb hts iwsRX12_finds_in12 hown hK hP 0 rfl rfl 141 (by decide) (hts (.fieldLink RX12 287 "OptimaWorksModel" "came" "[I") (by decide +kernel)) (fun _ h9 => h9) rfl dX12_finds_9 ?_
      refine lv_iload_n hx hb dX12_finds_12 rfl (lv_at hl 2 rfl) ?_
      refine lv_iconst (v := (-1)) hx hb dX12_finds_13 (by decide) ?_
      refine va_iast (cA := k 88) (n := 16) (f := cm0) hx hb hK hP hD hS 89 88 (WR_get 88 (by decide)) (TR_get 88 (by decide)) (vp_in_nI (show v1 < 16 by omega) (by omega)) dX12_finds_14 (fun H locs hP hD hS => ?_)
      have e9 : fT vF 88 (upd cm0 ((nI v1)).toNatClampNeg (-1)) = fT (fT vF 88 cm0) 88 (upd cm0 ((nI v1)).toNatClampNeg (-1)) := (fT_sm _ _ _ _).symm
      have hP : va_P (dC, dI) vwCl (WR a k h0 vi vj (fT vF 88 (upd cm0 ((nI v1)).toNatClampNeg (-1))) vG) H := by rw [e9, ← WR_F 88 (by decide) _ rfl]; exact hP
      have hD : va_D A (WR a k h0 vi vj (fT vF 88 (upd cm0 ((nI v1)).toNatClampNeg (-1))) vG) := by rw [e9, ← WR_F 88 (by decide) _ rfl]; exact hD
      clear e9
      refine lv_iinc (v := (nI (v1 + 1))) hx hb dX12_finds_15 hl (k := 2) rfl (nI_add v1 1) (by decide) rfl (fun ls (hl : lv_has ls _ ([(2, .int (nI (v1 + 1))), (0, .ref h0), (1, .int (nI iN))])) => ?_)
      refine lv_goto (tgt := 2) hx hb dX12_finds_18 (by decide) ?_
      have hl : lv_has _ _ ([(0, .ref h0), (1, .int (nI iN)), (2, .int (nI (v1 + 1)))]) := lv_sub hl [1, 2, 0] rfl
      exact ih2 (v1 + 1) (upd cm0 ((nI v1)).toNatClampNeg (-1)) _ _ _ (by omega) (fun x hx9 => by rw [upd_at (by omega)]; by_cases e9 : x = v1; (rw [if_pos e9]); (rw [if_neg e9]; exact hz1 x (by omega))) (by omega) hP hD hS hl
theorem dX12_canDiffer_0 : decode cX12_canDiffer 0 = .ok (.iconst 0, 1) := dk_3 (by decide +kernel)
theorem dX12_canDiffer_1 : decode cX12_canDiffer 1 = .ok (.istore_n 2, 1) := dk_61 (by decide +kernel)
theorem dX12_canDiffer_2 : decode cX12_canDiffer 2 = .ok (.iload_n 2, 1) := dk_28 (by decide +kernel)
theorem dX12_canDiffer_3 : decode cX12_canDiffer 3 = .ok (.bipush 16, 2) := dk_16 (by decide +kernel)
theorem dX12_canDiffer_5 : decode cX12_canDiffer 5 = .ok (.if_icmp .ge 16, 3) := dk_162 (by decide +kernel)
theorem dX12_canDiffer_8 : decode cX12_canDiffer 8 = .ok (.aload_n 0, 1) := dk_42 (by decide +kernel)
theorem dX12_canDiffer_9 : decode cX12_canDiffer 9 = .ok (.getfield 284, 3) := dk_180 (by decide +kernel)
theorem dX12_canDiffer_12 : decode cX12_canDiffer 12 = .ok (.iload_n 2, 1) := dk_28 (by decide +kernel)
theorem dX12_canDiffer_13 : decode cX12_canDiffer 13 = .ok (.iconst (-1), 1) := dk_2 (by decide +kernel)
theorem dX12_canDiffer_14 : decode cX12_canDiffer 14 = .ok (.iastore, 1) := dk_79 (by decide +kernel)
theorem dX12_canDiffer_15 : decode cX12_canDiffer 15 = .ok (.iinc 2 1, 3) := dk_132 (by decide +kernel)
theorem dX12_canDiffer_18 : decode cX12_canDiffer 18 = .ok (.goto (-16), 3) := dk_167 (by decide +kernel)
theorem dX12_canDiffer_21 : decode cX12_canDiffer 21 = .ok (.iconst 0, 1) := dk_3 (by decide +kernel)
theorem dX12_canDiffer_22 : decode cX12_canDiffer 22 = .ok (.istore_n 2, 1) := dk_61 (by decide +kernel)
theorem dX12_canDiffer_23 : decode cX12_canDiffer 23 = .ok (.iload_n 2, 1) := dk_28 (by decide +kernel)
theorem dX12_canDiffer_24 : decode cX12_canDiffer 24 = .ok (.aload_n 0, 1) := dk_42 (by decide +kernel)
theorem dX12_canDiffer_25 : decode cX12_canDiffer 25 = .ok (.getfield 978, 3) := dk_180 (by decide +kernel)
theorem dX12_canDiffer_28 : decode cX12_canDiffer 28 = .ok (.if_icmp .ge 28, 3) := dk_162 (by decide +kernel)
theorem dX12_canDiffer_31 : decode cX12_canDiffer 31 = .ok (.iload_n 1, 1) := dk_27 (by decide +kernel)
theorem dX12_canDiffer_32 : decode cX12_canDiffer 32 = .ok (.iload_n 2, 1) := dk_28 (by decide +kernel)
theorem dX12_canDiffer_33 : decode cX12_canDiffer 33 = .ok (.ishr, 1) := dk_122 (by decide +kernel)
theorem dX12_canDiffer_34 : decode cX12_canDiffer 34 = .ok (.iconst 1, 1) := dk_4 (by decide +kernel)
theorem dX12_canDiffer_35 : decode cX12_canDiffer 35 = .ok (.iand, 1) := dk_126 (by decide +kernel)
theorem dX12_canDiffer_36 : decode cX12_canDiffer 36 = .ok (.iconst 1, 1) := dk_4 (by decide +kernel)
theorem dX12_canDiffer_37 : decode cX12_canDiffer 37 = .ok (.if_icmp .ne 13, 3) := dk_160 (by decide +kernel)
theorem dX12_canDiffer_40 : decode cX12_canDiffer 40 = .ok (.aload_n 0, 1) := dk_42 (by decide +kernel)
theorem dX12_canDiffer_41 : decode cX12_canDiffer 41 = .ok (.iload_n 2, 1) := dk_28 (by decide +kernel)
theorem dX12_canDiffer_42 : decode cX12_canDiffer 42 = .ok (.invokevirtual 1013, 3) := dk_182 (by decide +kernel)
theorem dX12_canDiffer_45 : decode cX12_canDiffer 45 = .ok (.ifCond .ne 5, 3) := dk_154 (by decide +kernel)
theorem dX12_canDiffer_48 : decode cX12_canDiffer 48 = .ok (.iconst 0, 1) := dk_3 (by decide +kernel)
theorem dX12_canDiffer_49 : decode cX12_canDiffer 49 = .ok (.ireturn, 1) := dk_172 (by decide +kernel)
theorem dX12_canDiffer_50 : decode cX12_canDiffer 50 = .ok (.iinc 2 1, 3) := dk_132 (by decide +kernel)
theorem dX12_canDiffer_53 : decode cX12_canDiffer 53 = .ok (.goto (-30), 3) := dk_167 (by decide +kernel)
theorem dX12_canDiffer_56 : decode cX12_canDiffer 56 = .ok (.iconst 1, 1) := dk_4 (by decide +kernel)
theorem dX12_canDiffer_57 : decode cX12_canDiffer 57 = .ok (.ireturn, 1) := dk_172 (by decide +kernel)
def wsRX12_canDiffer : List Cond := .code yX12_canDiffer cX12_canDiffer 3 (some .boolean) :: ([.fieldLink RX12 978 "OptimaWorksModel" "holders" "I", .fieldLink RX12 284 "OptimaWorksModel" "taker" "[I"] ++ wsX120 ++ (wsV RX12 1013 RX12 yX12_finds wsRX12_finds))
theorem iwsRX12_canDiffer_in12 : ∀ w ∈ wsX120, w ∈ wsRX12_canDiffer := fun _ h => List.mem_cons_of_mem _ (List.mem_append_left _ (List.mem_append_right _ h))
theorem gwsRX12_canDiffer_0 : GoodIn wsRX12_canDiffer (wsV RX12 1013 RX12 yX12_finds wsRX12_finds) := goodIn_sub (fun _ h => List.mem_cons_of_mem _ (List.mem_append_right _ h)) (gdV (by decide +kernel) gdwsRX12_finds)
theorem gdwsRX12_canDiffer : wsRX12_canDiffer.all goodWord = true := gdC rfl (gdA (gdA (by decide +kernel : ([.fieldLink RX12 978 "OptimaWorksModel" "holders" "I", .fieldLink RX12 284 "OptimaWorksModel" "taker" "[I"] : List Cond).all goodWord = true) gdwsX120) (gdV (by decide +kernel) gdwsRX12_finds))
set_option maxHeartbeats 4000000 in
set_option maxRecDepth 100000 in
/-- canDiffer(set) -/
theorem r_X12_canDiffer (l : Launch) (dC : Nat → ClassId) (dI : Nat → Nat → Nat) (a : Nat → Nat) (k : Nat → ClassId) (h0 : Nat) (vi : Nat → Int32) (vj : Nat → Int64) (vF : Nat → Nat → Int32) (vG : Nat → Nat → Int64) (sI : Int32) (hn : Nat) (hhn : vi 128 = nI hn) (hhn10 : hn ≤ 10) (sz : Nat) : Met l yX12_canDiffer wsRX12_canDiffer ({ frames := 2, cells := 0, slots := 0, locals := 51 }) (va_Pc [.ref h0, .int sI] (fun U => U.heap.size = sz ∧ va_P (dC, dI) vwCl (WR a k h0 vi vj vF vG) U.heap ∧ va_K (dC, dI) vwCl (tX12 k) U ∧ va_D (fun _ => True) (WR a k h0 vi vj vF vG))) (va_Qi (fun (r : Int32) (u : (Nat → Int32) × (Nat → Int32) × (Nat → Int32)) => (r = 1) ∨ (r = 0)) (fun (u : (Nat → Int32) × (Nat → Int32) × (Nat → Int32)) t => va_P (dC, dI) vwCl (WR a k h0 vi vj (fT (fT (fT vF 87 (u.1)) 88 (u.2.1)) 89 (u.2.2)) vG) t.heap ∧ va_D (va_A (WR a k h0 vi vj vF vG) sz) (WR a k h0 vi vj (fT (fT (fT vF 87 (u.1)) 88 (u.2.1)) 89 (u.2.2)) vG)) (va_A (WR a k h0 vi vj vF vG) sz)) 0 0 (va_A (WR a k h0 vi vj vF vG) sz) := by
  refine Met.ofW (cc := cX12_canDiffer) (maxL := 3) (ret := (some .boolean)) (by decide) rfl ?_
  intro p e s m args below meth c s₁ B hml hv
  obtain ⟨rfl, hsz, hP, hK, hD0⟩ := hv
  have hx := B.exec
  have hb := B.bytes
  have hr := B.returns
  have hts := atoms_spec (ws := wsRX12_canDiffer) B.pre
  have hown : s.vm.findClass RX12 = some m.cls := findClass_of_methodNamed B.named
  have hlocks := B.notSynchronized
  subst hsz
  have hD := hD0.self (sz := s.heap.size)
  generalize hAe : va_A (WR a k h0 vi vj vF vG) s.heap.size = A at hD ⊢
  have hA : ∀ q : Nat, s.heap.size ≤ q → A q := fun q h => by rw [← hAe]; exact Or.inr h
  have hS : va_S A s.heap s.heap [] := va_S.rf
  have hl := lv_entry ([.ref h0, .int sI]) (n := 3) (Nat.le_of_ble_eq_true rfl)
  rw [lg_entry_eq]
  generalize (lg_sl ([.ref h0, .int sI]) ++ List.replicate (3 - (lg_sl ([.ref h0, .int sI])).length) Slot.unset).toArray = ls at hl ⊢
  have hl : lv_has ls 3 [(0, .ref h0), (1, .int sI)] := hl
  refine lv_iconst (v := 0) hx hb dX12_canDiffer_0 (by decide) ?_
  refine lv_istore_n hx hb dX12_canDiffer_1 rfl hl (by decide) rfl (fun ls (hl : lv_has ls _ ([(2, .int 0), (0, .ref h0), (1, .int sI)])) => ?_)
  have e9 : fT vF 87 (vF 87) = vF := by funext q9; by_cases h9_87 : q9 = 87; (subst h9_87; exact (fT_eq _ _ _).trans (Eq.trans (by first | with_reducible rfl | with_reducible assumption | (symm; with_reducible assumption) | rfl | assumption | (symm; assumption) | (subst_vars; rfl)) (Eq.refl _).symm)); exact (fT_ne _ _ h9_87).trans (Eq.refl _).symm
  have hP : va_P (dC, dI) vwCl (WR a k h0 vi vj (fT vF 87 (vF 87)) vG) s.heap := by rw [e9]; exact hP
  have hD : va_D A (WR a k h0 vi vj (fT vF 87 (vF 87)) vG) := by rw [e9]; exact hD
  clear e9
  have hl : lv_has _ _ ([(0, .ref h0), (1, .int sI), (2, .int (nI 0))]) := lv_sub hl [1, 2, 0] rfl
  refine (fun (loop : ∀ (n9 : Nat) (v1 : Nat) (tk0 : Nat → Int32) (H : Heap) (locs : List Loc) (ls : Array Slot), (v1 ≤ 16) → (∀ x, x < v1 → tk0 x = -1) →  (16 < v1 + n9) → va_P (dC, dI) vwCl (WR a k h0 vi vj (fT vF 87 tk0) vG) H → va_D A (WR a k h0 vi vj (fT vF 87 tk0) vG) → va_S A s.heap H locs → lv_has ls 3 [(0, .ref h0), (1, .int sI), (2, .int (nI v1))] → W p l e _ s m _ below meth c H locs 0 0 _ (F0 m 2 ls [])) => loop (17) 0 (vF 87) _ _ _ (by omega) (fun x hx9 => absurd hx9 (by omega)) (by omega) hP hD hS hl) ?_
  intro n9
  induction n9 with
  | zero => intro v1 tk0 H locs ls hv1 hz1 hf9; exact False.elim (by omega)
  | succ n9 ih2 =>
    intro v1 tk0 H locs ls hv1 hz1 hf2 hP hD hS hl
    refine lv_iload_n hx hb dX12_canDiffer_2 rfl (lv_at hl 2 rfl) ?_
    refine lv_bipush (v := 16) hx hb dX12_canDiffer_3 (by decide) ?_
    refine lv_icmp_ge (tgt := 21) hx hb dX12_canDiffer_5 (by decide) (fun c_5 => ?_) (fun c_5 => ?_)
    · have t_5 : ((v1 : Nat) : Int) ≥ 16 := toI_ge c_5 (nI_toInt (by omega)) (by decide)
      refine lv_iconst (v := 0) hx hb dX12_canDiffer_21 (by decide) ?_
      refine lv_istore_n hx hb dX12_canDiffer_22 rfl hl (by decide) rfl (fun ls (hl : lv_has ls _ ([(2, .int 0), (0, .ref h0), (1, .int sI)])) => ?_)
      have e9 : fT (fT (fT vF 87 tk0) 88 (vF 88)) 89 (vF 89) = fT vF 87 tk0 := by funext q9; by_cases h9_87 : q9 = 87; (subst h9_87; exact ((fT_ne _ _ (Nat.ne_of_beq_eq_false rfl)).trans ((fT_ne _ _ (Nat.ne_of_beq_eq_false rfl)).trans (fT_eq _ _ _))).trans (Eq.trans (by first | with_reducible rfl | with_reducible assumption | (symm; with_reducible assumption) | rfl | assumption | (symm; assumption) | (subst_vars; rfl)) (fT_eq _ _ _).symm)); by_cases h9_88 : q9 = 88; (subst h9_88; exact ((fT_ne _ _ (Nat.ne_of_beq_eq_false rfl)).trans (fT_eq _ _ _)).trans (Eq.trans (by first | with_reducible rfl | with_reducible assumption | (symm; with_reducible assumption) | rfl | assumption | (symm; assumption) | (subst_vars; rfl)) (fT_ne _ _ (Nat.ne_of_beq_eq_false rfl)).symm)); by_cases h9_89 : q9 = 89; (subst h9_89; exact (fT_eq _ _ _).trans (Eq.trans (by first | with_reducible rfl | with_reducible assumption | (symm; with_reducible assumption) | rfl | assumption | (symm; assumption) | (subst_vars; rfl)) (fT_ne _ _ (Nat.ne_of_beq_eq_false rfl)).symm)); exact ((fT_ne _ _ h9_89).trans ((fT_ne _ _ h9_88).trans (fT_ne _ _ h9_87))).trans (fT_ne _ _ h9_87).symm
      have hP : va_P (dC, dI) vwCl (WR a k h0 vi vj (fT (fT (fT vF 87 tk0) 88 (vF 88)) 89 (vF 89)) vG) H := by rw [e9]; exact hP
      have hD : va_D A (WR a k h0 vi vj (fT (fT (fT vF 87 tk0) 88 (vF 88)) 89 (vF 89)) vG) := by rw [e9]; exact hD
      clear e9
      have hl : lv_has _ _ ([(0, .ref h0), (1, .int sI), (2, .int (nI 0))]) := lv_sub hl [1, 2, 0] rfl
      refine (fun (loop : ∀ (n9 : Nat) (i5 : Nat) (tk : Nat → Int32) (x3_F88 : Nat → Int32) (x3_F89 : Nat → Int32) (H : Heap) (locs : List Loc) (ls : Array Slot), (i5 ≤ hn) → (TkB tk i5) →  (hn < i5 + n9) → va_P (dC, dI) vwCl (WR a k h0 vi vj (fT (fT (fT vF 87 tk) 88 x3_F88) 89 x3_F89) vG) H → va_D A (WR a k h0 vi vj (fT (fT (fT vF 87 tk) 88 x3_F88) 89 x3_F89) vG) → va_S A s.heap H locs → lv_has ls 3 [(0, .ref h0), (1, .int sI), (2, .int (nI i5))] → W p l e _ s m _ below meth c H locs 0 0 _ (F0 m 23 ls [])) => loop (hn + 1) 0 tk0 (vF 88) (vF 89) _ _ _ (by omega) (⟨fun x hx9 => Or.inl (hz1 x (by omega)), fun x y h1 h2 h3 h4 => absurd (hz1 x (by omega)) h4⟩) (by omega) hP hD hS hl) ?_
      intro n9
      induction n9 with
      | zero => intro i5 tk x3_F88 x3_F89 H locs ls hi5 hTk hf9; exact False.elim (by omega)
      | succ n9 ih23_1 =>
        intro i5 tk x3_F88 x3_F89 H locs ls hi5 hTk hf23_1 hP hD hS hl
        refine lv_iload_n hx hb dX12_canDiffer_23 rfl (lv_at hl 2 rfl) ?_
        refine lv_aload_n hx hb dX12_canDiffer_24 rfl (lv_at hl 0 rfl) ?_
        refine va_get (D := (dC, dI)) (ci := 12) (v := .int (vi 128)) (C := RX12) (T := TX12) (N := 163) (fs := fM (vS a vi vj)) hx hb hts iwsRX12_canDiffer_in12 hown hK hP 0 rfl rfl 128 (by decide) (hts (.fieldLink RX12 978 "OptimaWorksModel" "holders" "I") (by decide +kernel)) (fun _ h9 => h9) rfl dX12_canDiffer_25 ?_
        refine lv_topi (fun y1 hy1 => ?_)
        obtain rfl : (nI hn) = y1 := (hy1.trans (hhn)).symm
        refine lv_icmp_ge (tgt := 56) hx hb dX12_canDiffer_28 (by decide) (fun c_28 => ?_) (fun c_28 => ?_)
        · have t_28 : ((i5 : Nat) : Int) ≥ ((hn : Nat) : Int) := toI_ge c_28 (nI_toInt (by omega)) (nI_toInt (by omega))
          refine lv_iconst (v := 1) hx hb dX12_canDiffer_56 (by decide) ?_
          refine W.widen (k := 0) (n := 0) (by decide +kernel) (by decide +kernel) ?_
          exact W.zret (v := 1) hx hb hr rfl (fun t9_ ht hW => ⟨⟨1, (tk, x3_F88, x3_F89), rfl, by (try dsimp only); exact Or.inl rfl, by rw [ht]; exact hP, hD⟩, hS.F ht⟩) hS.2.2 dX12_canDiffer_57
        · have t_28 : ¬ ((i5 : Nat) : Int) ≥ ((hn : Nat) : Int) := toI_nge c_28 (nI_toInt (by omega)) (nI_toInt (by omega))
          refine lv_iload_n hx hb dX12_canDiffer_31 rfl (lv_at hl 1 rfl) ?_
          refine lv_iload_n hx hb dX12_canDiffer_32 rfl (lv_at hl 2 rfl) ?_
          refine lv_ishr hx hb dX12_canDiffer_33 ?_
          refine lv_iconst (v := 1) hx hb dX12_canDiffer_34 (by decide) ?_
          refine lv_iand hx hb dX12_canDiffer_35 ?_
          refine lv_iconst (v := 1) hx hb dX12_canDiffer_36 (by decide) ?_
          refine lv_icmp_ne (tgt := 50) hx hb dX12_canDiffer_37 (by decide) (fun c_37 => ?_) (fun c_37 => ?_)
          · have t_37 : (((sI >>> ((nI i5) &&& 31)) &&& 1)).toInt ≠ 1 := toI_ne c_37 rfl (by decide)
            refine lv_iinc (v := (nI (i5 + 1))) hx hb dX12_canDiffer_50 hl (k := 2) rfl (nI_add i5 1) (by decide) rfl (fun ls (hl : lv_has ls _ ([(2, .int (nI (i5 + 1))), (0, .ref h0), (1, .int sI)])) => ?_)
            refine lv_goto (tgt := 23) hx hb dX12_canDiffer_53 (by decide) ?_
            have hl : lv_has _ _ ([(0, .ref h0), (1, .int sI), (2, .int (nI (i5 + 1)))]) := lv_sub hl [1, 2, 0] rfl
            exact ih23_1 (i5 + 1) tk x3_F88 x3_F89 _ _ _ (by omega) (TkB.up hTk) (by omega) hP hD hS hl
          · have t_37 : (((sI >>> ((nI i5) &&& 31)) &&& 1)).toInt = 1 := toI_nne c_37 rfl (by decide)
            refine lv_aload_n hx hb dX12_canDiffer_40 rfl (lv_at hl 0 rfl) ?_
            refine lv_iload_n hx hb dX12_canDiffer_41 rfl (lv_at hl 2 rfl) ?_
            have hFc := allFree hD hS hA
            refine va_calli (va_runV (As := [.int (nI i5)]) (rest := []) ⟨hx, hb, hml, hown, hts⟩ (r_X12_finds l dC dI a k h0 vi vj (fT (fT (fT vF 87 tk) 88 x3_F88) 89 x3_F89) vG i5 (by first | with_reducible assumption | decide | omega | rfl | assumption) (hTk) H.size) (cwV 1 hts gwsRX12_canDiffer_0 rfl rfl rfl hd_yX12_finds_RX12 (by decide +kernel)) (fz_pre (va_recv hK hP (ci := 12) (q0 := 0) rfl rfl) hP hK hD) rfl rfl hl.1 rfl (lv_room (Nat.le_of_ble_eq_true rfl)) dX12_canDiffer_42 (by decide +kernel)) hS (fun q _ h => hFc q h) hFc (fun r42 u t9_ H locs ht hvm hw9 hB9 hz1 hk1 hS => ?_)
            revert u hw9 hB9
            refine fz_p3 ?_
            intro g8742 g8842 g8942 hw9 hB9
            try dsimp only at hw9 hB9
            have hP : va_P (dC, dI) vwCl (WR a k h0 vi vj (fT (fT (fT (fT (fT (fT vF 87 tk) 88 x3_F88) 89 x3_F89) 88 g8842) 89 g8942) 87 g8742) vG) H := fz_P ht hB9.1
            have hD : va_D A (WR a k h0 vi vj (fT (fT (fT (fT (fT (fT vF 87 tk) 88 x3_F88) 89 x3_F89) 88 g8842) 89 g8942) 87 g8742) vG) := hB9.2.weaken (fun _ q _ h => hFc q.1 h)
            have e9 : fT (fT (fT vF 87 g8742) 88 g8842) 89 g8942 = fT (fT (fT (fT (fT (fT vF 87 tk) 88 x3_F88) 89 x3_F89) 88 g8842) 89 g8942) 87 g8742 := ((congrArg (fun g9 => fT (fT g9 89 g8942) 87 g8742) ((fT_sw _ _ _ (Nat.ne_of_beq_eq_false rfl)).trans (congrArg (fun g9 => fT g9 89 x3_F89) (fT_sm _ _ _ _)))).trans ((congrArg (fun g9 => fT g9 87 g8742) (fT_sm _ _ _ _)).trans ((fT_sw _ _ _ (Nat.ne_of_beq_eq_false rfl)).trans (congrArg (fun g9 => fT g9 89 g8942) ((fT_sw _ _ _ (Nat.ne_of_beq_eq_false rfl)).trans (congrArg (fun g9 => fT g9 88 g8842) (fT_sm _ _ _ _))))))).symm
            rw [← e9] at hP hD
            clear e9
            have hP : va_P (dC, dI) vwCl (WR a k h0 vi vj (fT (fT (fT vF 87 g8742) 88 g8842) 89 g8942) vG) H := hP
            have hD : va_D A (WR a k h0 vi vj (fT (fT (fT vF 87 g8742) 88 g8842) 89 g8942) vG) := hD
            rcases hw9 with ⟨rfl, f42_0⟩ | rfl
            · refine lv_if_ne (tgt := 50) hx hb dX12_canDiffer_45 (by decide) (fun _ => ?_) (fun c9 => absurd c9 (by decide))
              refine lv_iinc (v := (nI (i5 + 1))) hx hb dX12_canDiffer_50 hl (k := 2) rfl (nI_add i5 1) (by decide) rfl (fun ls (hl : lv_has ls _ ([(2, .int (nI (i5 + 1))), (0, .ref h0), (1, .int sI)])) => ?_)
              refine lv_goto (tgt := 23) hx hb dX12_canDiffer_53 (by decide) ?_
              have hl : lv_has _ _ ([(0, .ref h0), (1, .int sI), (2, .int (nI (i5 + 1)))]) := lv_sub hl [1, 2, 0] rfl
              exact ih23_1 (i5 + 1) g8742 g8842 g8942 _ _ _ (by omega) (f42_0) (by omega) hP hD hS hl
            · refine lv_if_ne (tgt := 50) hx hb dX12_canDiffer_45 (by decide) (fun c9 => absurd c9 (by decide)) (fun _ => ?_)
              refine lv_iconst (v := 0) hx hb dX12_canDiffer_48 (by decide) ?_
              refine W.widen (k := 0) (n := 0) (by decide +kernel) (by decide +kernel) ?_
              exact W.zret (v := 0) hx hb hr rfl (fun t9_ ht hW => ⟨⟨0, (g8742, g8842, g8942), rfl, by (try dsimp only); exact Or.inr rfl, by rw [ht]; exact hP, hD⟩, hS.F ht⟩) hS.2.2 dX12_canDiffer_49
    · have t_5 : ¬ ((v1 : Nat) : Int) ≥ 16 := toI_nge c_5 (nI_toInt (by omega)) (by decide)
      refine lv_aload_n hx hb dX12_canDiffer_8 rfl (lv_at hl 0 rfl) ?_
      refine va_get (D := (dC, dI)) (ci := 12) (v := .ref (a 87)) (C := RX12) (T := TX12) (N := 163) (fs := fM (vS a vi vj)) hx hb hts iwsRX12_canDiffer_in12 hown hK hP 0 rfl rfl 140 (by decide) (hts (.fieldLink RX12 284 "OptimaWorksModel" "taker" "[I") (by decide +kernel)) (fun _ h9 => h9) rfl dX12_canDiffer_9 ?_
      refine lv_iload_n hx hb dX12_canDiffer_12 rfl (lv_at hl 2 rfl) ?_
      refine lv_iconst (v := (-1)) hx hb dX12_canDiffer_13 (by decide) ?_
      refine va_iast (cA := k 87) (n := 16) (f := tk0) hx hb hK hP hD hS 88 87 (WR_get 87 (by decide)) (TR_get 87 (by decide)) (vp_in_nI (show v1 < 16 by omega) (by omega)) dX12_canDiffer_14 (fun H locs hP hD hS => ?_)
      have e9 : fT vF 87 (upd tk0 ((nI v1)).toNatClampNeg (-1)) = fT (fT vF 87 tk0) 87 (upd tk0 ((nI v1)).toNatClampNeg (-1)) := (fT_sm _ _ _ _).symm
      have hP : va_P (dC, dI) vwCl (WR a k h0 vi vj (fT vF 87 (upd tk0 ((nI v1)).toNatClampNeg (-1))) vG) H := by rw [e9, ← WR_F 87 (by decide) _ rfl]; exact hP
      have hD : va_D A (WR a k h0 vi vj (fT vF 87 (upd tk0 ((nI v1)).toNatClampNeg (-1))) vG) := by rw [e9, ← WR_F 87 (by decide) _ rfl]; exact hD
      clear e9
      refine lv_iinc (v := (nI (v1 + 1))) hx hb dX12_canDiffer_15 hl (k := 2) rfl (nI_add v1 1) (by decide) rfl (fun ls (hl : lv_has ls _ ([(2, .int (nI (v1 + 1))), (0, .ref h0), (1, .int sI)])) => ?_)
      refine lv_goto (tgt := 2) hx hb dX12_canDiffer_18 (by decide) ?_
      have hl : lv_has _ _ ([(0, .ref h0), (1, .int sI), (2, .int (nI (v1 + 1)))]) := lv_sub hl [1, 2, 0] rfl
      exact ih2 (v1 + 1) (upd tk0 ((nI v1)).toNatClampNeg (-1)) _ _ _ (by omega) (fun x hx9 => by rw [upd_at (by omega)]; by_cases e9 : x = v1; (rw [if_pos e9]); (rw [if_neg e9]; exact hz1 x (by omega))) (by omega) hP hD hS hl
theorem dX12_canOrder_0 : decode cX12_canOrder 0 = .ok (.iload_n 1, 1) := dk_27 (by decide +kernel)
theorem dX12_canOrder_1 : decode cX12_canOrder 1 = .ok (.iload_n 3, 1) := dk_29 (by decide +kernel)
theorem dX12_canOrder_2 : decode cX12_canOrder 2 = .ok (.if_icmp .ne 13, 3) := dk_160 (by decide +kernel)
theorem dX12_canOrder_5 : decode cX12_canOrder 5 = .ok (.iload_n 2, 1) := dk_28 (by decide +kernel)
theorem dX12_canOrder_6 : decode cX12_canOrder 6 = .ok (.ifCond .gt 7, 3) := dk_157 (by decide +kernel)
theorem dX12_canOrder_9 : decode cX12_canOrder 9 = .ok (.iconst 1, 1) := dk_4 (by decide +kernel)
theorem dX12_canOrder_10 : decode cX12_canOrder 10 = .ok (.goto 4, 3) := dk_167 (by decide +kernel)
theorem dX12_canOrder_13 : decode cX12_canOrder 13 = .ok (.iconst 0, 1) := dk_3 (by decide +kernel)
theorem dX12_canOrder_14 : decode cX12_canOrder 14 = .ok (.ireturn, 1) := dk_172 (by decide +kernel)
theorem dX12_canOrder_15 : decode cX12_canOrder 15 = .ok (.iconst 0, 1) := dk_3 (by decide +kernel)
theorem dX12_canOrder_16 : decode cX12_canOrder 16 = .ok (.istore 4, 2) := dk_54 (by decide +kernel)
theorem dX12_canOrder_18 : decode cX12_canOrder 18 = .ok (.iload 4, 2) := dk_21 (by decide +kernel)
theorem dX12_canOrder_20 : decode cX12_canOrder 20 = .ok (.bipush 16, 2) := dk_16 (by decide +kernel)
theorem dX12_canOrder_22 : decode cX12_canOrder 22 = .ok (.if_icmp .ge 66, 3) := dk_162 (by decide +kernel)
theorem dX12_canOrder_25 : decode cX12_canOrder 25 = .ok (.iconst 0, 1) := dk_3 (by decide +kernel)
theorem dX12_canOrder_26 : decode cX12_canOrder 26 = .ok (.istore 5, 2) := dk_54 (by decide +kernel)
theorem dX12_canOrder_28 : decode cX12_canOrder 28 = .ok (.iload 5, 2) := dk_21 (by decide +kernel)
theorem dX12_canOrder_30 : decode cX12_canOrder 30 = .ok (.bipush 16, 2) := dk_16 (by decide +kernel)
theorem dX12_canOrder_32 : decode cX12_canOrder 32 = .ok (.if_icmp .ge 50, 3) := dk_162 (by decide +kernel)
theorem dX12_canOrder_35 : decode cX12_canOrder 35 = .ok (.aload_n 0, 1) := dk_42 (by decide +kernel)
theorem dX12_canOrder_36 : decode cX12_canOrder 36 = .ok (.getfield 281, 3) := dk_180 (by decide +kernel)
theorem dX12_canOrder_39 : decode cX12_canOrder 39 = .ok (.iload_n 1, 1) := dk_27 (by decide +kernel)
theorem dX12_canOrder_40 : decode cX12_canOrder 40 = .ok (.iaload, 1) := dk_46 (by decide +kernel)
theorem dX12_canOrder_41 : decode cX12_canOrder 41 = .ok (.iload 4, 2) := dk_21 (by decide +kernel)
theorem dX12_canOrder_43 : decode cX12_canOrder 43 = .ok (.ishr, 1) := dk_122 (by decide +kernel)
theorem dX12_canOrder_44 : decode cX12_canOrder 44 = .ok (.iconst 1, 1) := dk_4 (by decide +kernel)
theorem dX12_canOrder_45 : decode cX12_canOrder 45 = .ok (.iand, 1) := dk_126 (by decide +kernel)
theorem dX12_canOrder_46 : decode cX12_canOrder 46 = .ok (.iconst 1, 1) := dk_4 (by decide +kernel)
theorem dX12_canOrder_47 : decode cX12_canOrder 47 = .ok (.if_icmp .ne 29, 3) := dk_160 (by decide +kernel)
theorem dX12_canOrder_50 : decode cX12_canOrder 50 = .ok (.aload_n 0, 1) := dk_42 (by decide +kernel)
theorem dX12_canOrder_51 : decode cX12_canOrder 51 = .ok (.getfield 281, 3) := dk_180 (by decide +kernel)
theorem dX12_canOrder_54 : decode cX12_canOrder 54 = .ok (.iload_n 3, 1) := dk_29 (by decide +kernel)
theorem dX12_canOrder_55 : decode cX12_canOrder 55 = .ok (.iaload, 1) := dk_46 (by decide +kernel)
theorem dX12_canOrder_56 : decode cX12_canOrder 56 = .ok (.iload 5, 2) := dk_21 (by decide +kernel)
theorem dX12_canOrder_58 : decode cX12_canOrder 58 = .ok (.ishr, 1) := dk_122 (by decide +kernel)
theorem dX12_canOrder_59 : decode cX12_canOrder 59 = .ok (.iconst 1, 1) := dk_4 (by decide +kernel)
theorem dX12_canOrder_60 : decode cX12_canOrder 60 = .ok (.iand, 1) := dk_126 (by decide +kernel)
theorem dX12_canOrder_61 : decode cX12_canOrder 61 = .ok (.iconst 1, 1) := dk_4 (by decide +kernel)
theorem dX12_canOrder_62 : decode cX12_canOrder 62 = .ok (.if_icmp .ne 14, 3) := dk_160 (by decide +kernel)
theorem dX12_canOrder_65 : decode cX12_canOrder 65 = .ok (.iload 4, 2) := dk_21 (by decide +kernel)
theorem dX12_canOrder_67 : decode cX12_canOrder 67 = .ok (.iload_n 2, 1) := dk_28 (by decide +kernel)
theorem dX12_canOrder_68 : decode cX12_canOrder 68 = .ok (.iadd, 1) := dk_96 (by decide +kernel)
theorem dX12_canOrder_69 : decode cX12_canOrder 69 = .ok (.iload 5, 2) := dk_21 (by decide +kernel)
theorem dX12_canOrder_71 : decode cX12_canOrder 71 = .ok (.if_icmp .gt 5, 3) := dk_163 (by decide +kernel)
theorem dX12_canOrder_74 : decode cX12_canOrder 74 = .ok (.iconst 1, 1) := dk_4 (by decide +kernel)
theorem dX12_canOrder_75 : decode cX12_canOrder 75 = .ok (.ireturn, 1) := dk_172 (by decide +kernel)
theorem dX12_canOrder_76 : decode cX12_canOrder 76 = .ok (.iinc 5 1, 3) := dk_132 (by decide +kernel)
theorem dX12_canOrder_79 : decode cX12_canOrder 79 = .ok (.goto (-51), 3) := dk_167 (by decide +kernel)
theorem dX12_canOrder_82 : decode cX12_canOrder 82 = .ok (.iinc 4 1, 3) := dk_132 (by decide +kernel)
theorem dX12_canOrder_85 : decode cX12_canOrder 85 = .ok (.goto (-67), 3) := dk_167 (by decide +kernel)
theorem dX12_canOrder_88 : decode cX12_canOrder 88 = .ok (.iconst 0, 1) := dk_3 (by decide +kernel)
theorem dX12_canOrder_89 : decode cX12_canOrder 89 = .ok (.ireturn, 1) := dk_172 (by decide +kernel)
def wsRX12_canOrder : List Cond := .code yX12_canOrder cX12_canOrder 6 (some .boolean) :: ([.fieldLink RX12 281 "OptimaWorksModel" "with" "[I"] ++ wsX120)
theorem iwsRX12_canOrder_in12 : ∀ w ∈ wsX120, w ∈ wsRX12_canOrder := fun _ h => List.mem_cons_of_mem _ (List.mem_append_right _ h)
theorem gdwsRX12_canOrder : wsRX12_canOrder.all goodWord = true := gdC rfl (gdA (by decide +kernel : ([.fieldLink RX12 281 "OptimaWorksModel" "with" "[I"] : List Cond).all goodWord = true) gdwsX120)
set_option maxHeartbeats 4000000 in
set_option maxRecDepth 100000 in
/-- canOrder(i, k, j) -/
theorem r_X12_canOrder (l : Launch) (dC : Nat → ClassId) (dI : Nat → Nat → Nat) (a : Nat → Nat) (k : Nat → ClassId) (h0 : Nat) (vi : Nat → Int32) (vj : Nat → Int64) (vF : Nat → Nat → Int32) (vG : Nat → Nat → Int64) (iN : Nat) (kI : Int32) (jN : Nat) (hiN : iN < 10) (hjN : jN < 10) (sz : Nat) : Met l yX12_canOrder wsRX12_canOrder ({ frames := 0, cells := 0, slots := 0, locals := 0 }) (va_Pc [.ref h0, .int (nI iN), .int kI, .int (nI jN)] (fun U => U.heap.size = sz ∧ va_P (dC, dI) vwCl (WR a k h0 vi vj vF vG) U.heap ∧ va_K (dC, dI) vwCl (tX12 k) U ∧ va_D (fun _ => True) (WR a k h0 vi vj vF vG))) (va_Qi (fun (r : Int32) (u : Unit) => (r = 1) ∨ (r = 0)) (fun (u : Unit) t => va_P (dC, dI) vwCl (WR a k h0 vi vj vF vG) t.heap ∧ va_D (va_A (WR a k h0 vi vj vF vG) sz) (WR a k h0 vi vj vF vG)) (va_A (WR a k h0 vi vj vF vG) sz)) 0 0 (va_A (WR a k h0 vi vj vF vG) sz) := by
  refine Met.ofW (cc := cX12_canOrder) (maxL := 6) (ret := (some .boolean)) (by decide) rfl ?_
  intro p e s m args below meth c s₁ B hml hv
  obtain ⟨rfl, hsz, hP, hK, hD0⟩ := hv
  have hx := B.exec
  have hb := B.bytes
  have hr := B.returns
  have hts := atoms_spec (ws := wsRX12_canOrder) B.pre
  have hown : s.vm.findClass RX12 = some m.cls := findClass_of_methodNamed B.named
  have hlocks := B.notSynchronized
  subst hsz
  have hD := hD0.self (sz := s.heap.size)
  generalize hAe : va_A (WR a k h0 vi vj vF vG) s.heap.size = A at hD ⊢
  have hA : ∀ q : Nat, s.heap.size ≤ q → A q := fun q h => by rw [← hAe]; exact Or.inr h
  have hS : va_S A s.heap s.heap [] := va_S.rf
  have hl := lv_entry ([.ref h0, .int (nI iN), .int kI, .int (nI jN)]) (n := 6) (Nat.le_of_ble_eq_true rfl)
  rw [lg_entry_eq]
  generalize (lg_sl ([.ref h0, .int (nI iN), .int kI, .int (nI jN)]) ++ List.replicate (6 - (lg_sl ([.ref h0, .int (nI iN), .int kI, .int (nI jN)])).length) Slot.unset).toArray = ls at hl ⊢
  have hl : lv_has ls 6 [(0, .ref h0), (1, .int (nI iN)), (2, .int kI), (3, .int (nI jN))] := hl
  refine lv_iload_n hx hb dX12_canOrder_0 rfl (lv_at hl 1 rfl) ?_
  refine lv_iload_n hx hb dX12_canOrder_1 rfl (lv_at hl 3 rfl) ?_
  refine lv_icmp_ne (tgt := 15) hx hb dX12_canOrder_2 (by decide) (fun c_2 => ?_) (fun c_2 => ?_)
  · have t_2 : ((iN : Nat) : Int) ≠ ((jN : Nat) : Int) := toI_ne c_2 (nI_toInt (by omega)) (nI_toInt (by omega))
    refine lv_iconst (v := 0) hx hb dX12_canOrder_15 (by decide) ?_
    refine lv_istore hx hb dX12_canOrder_16 hl (by decide) rfl (fun ls (hl : lv_has ls _ ([(4, .int 0), (0, .ref h0), (1, .int (nI iN)), (2, .int kI), (3, .int (nI jN))])) => ?_)
    have hl : lv_has _ _ ([(0, .ref h0), (1, .int (nI iN)), (2, .int kI), (3, .int (nI jN)), (4, .int (nI 0))]) := lv_sub hl [1, 2, 3, 4, 0] rfl
    refine (fun (loop : ∀ (n9 : Nat) (x5 : Nat) (H : Heap) (locs : List Loc) (ls : Array Slot), (x5 ≤ 16) →  (16 < x5 + n9) → va_P (dC, dI) vwCl (WR a k h0 vi vj vF vG) H → va_D A (WR a k h0 vi vj vF vG) → va_S A s.heap H locs → lv_has ls 6 [(0, .ref h0), (1, .int (nI iN)), (2, .int kI), (3, .int (nI jN)), (4, .int (nI x5))] → W p l e _ s m _ below meth c H locs 0 0 _ (F0 m 18 ls [])) => loop (17) 0 _ _ _ (by omega) (by omega) hP hD hS hl) ?_
    intro n9
    induction n9 with
    | zero => intro x5 H locs ls hx5 hf9; exact False.elim (by omega)
    | succ n9 ih18 =>
      intro x5 H locs ls hx5 hf18 hP hD hS hl
      refine lv_iload hx hb dX12_canOrder_18 (lv_at hl 4 rfl) ?_
      refine lv_bipush (v := 16) hx hb dX12_canOrder_20 (by decide) ?_
      refine lv_icmp_ge (tgt := 88) hx hb dX12_canOrder_22 (by decide) (fun c_22 => ?_) (fun c_22 => ?_)
      · have t_22 : ((x5 : Nat) : Int) ≥ 16 := toI_ge c_22 (nI_toInt (by omega)) (by decide)
        refine lv_iconst (v := 0) hx hb dX12_canOrder_88 (by decide) ?_
        refine W.widen (k := 0) (n := 0) (by decide +kernel) (by decide +kernel) ?_
        exact W.zret (v := 0) hx hb hr rfl (fun t9_ ht hW => ⟨⟨0, (), rfl, by (try dsimp only); exact Or.inr rfl, by rw [ht]; exact hP, hD⟩, hS.F ht⟩) hS.2.2 dX12_canOrder_89
      · have t_22 : ¬ ((x5 : Nat) : Int) ≥ 16 := toI_nge c_22 (nI_toInt (by omega)) (by decide)
        refine lv_iconst (v := 0) hx hb dX12_canOrder_25 (by decide) ?_
        refine lv_istore hx hb dX12_canOrder_26 hl (by decide) rfl (fun ls (hl : lv_has ls _ ([(5, .int 0), (0, .ref h0), (1, .int (nI iN)), (2, .int kI), (3, .int (nI jN)), (4, .int (nI x5))])) => ?_)
        have hl : lv_has _ _ ([(0, .ref h0), (1, .int (nI iN)), (2, .int kI), (3, .int (nI jN)), (4, .int (nI x5)), (5, .int (nI 0))]) := lv_sub hl [1, 2, 3, 4, 5, 0] rfl
        refine (fun (loop : ∀ (n9 : Nat) (y5 : Nat) (H : Heap) (locs : List Loc) (ls : Array Slot), (y5 ≤ 16) →  (16 < y5 + n9) → va_P (dC, dI) vwCl (WR a k h0 vi vj vF vG) H → va_D A (WR a k h0 vi vj vF vG) → va_S A s.heap H locs → lv_has ls 6 [(0, .ref h0), (1, .int (nI iN)), (2, .int kI), (3, .int (nI jN)), (4, .int (nI x5)), (5, .int (nI y5))] → W p l e _ s m _ below meth c H locs 0 0 _ (F0 m 28 ls [])) => loop (17) 0 _ _ _ (by omega) (by omega) hP hD hS hl) ?_
        intro n9
        induction n9 with
        | zero => intro y5 H locs ls hy5 hf9; exact False.elim (by omega)
        | succ n9 ih28_1 =>
          intro y5 H locs ls hy5 hf28_1 hP hD hS hl
          refine lv_iload hx hb dX12_canOrder_28 (lv_at hl 5 rfl) ?_
          refine lv_bipush (v := 16) hx hb dX12_canOrder_30 (by decide) ?_
          refine lv_icmp_ge (tgt := 82) hx hb dX12_canOrder_32 (by decide) (fun c_32 => ?_) (fun c_32 => ?_)
          · have t_32 : ((y5 : Nat) : Int) ≥ 16 := toI_ge c_32 (nI_toInt (by omega)) (by decide)
            refine lv_iinc (v := (nI (x5 + 1))) hx hb dX12_canOrder_82 hl (k := 4) rfl (nI_add x5 1) (by decide) rfl (fun ls (hl : lv_has ls _ ([(4, .int (nI (x5 + 1))), (0, .ref h0), (1, .int (nI iN)), (2, .int kI), (3, .int (nI jN)), (5, .int (nI y5))])) => ?_)
            refine lv_goto (tgt := 18) hx hb dX12_canOrder_85 (by decide) ?_
            have hl : lv_has _ _ ([(0, .ref h0), (1, .int (nI iN)), (2, .int kI), (3, .int (nI jN)), (4, .int (nI (x5 + 1)))]) := lv_sub hl [1, 2, 3, 4, 0] rfl
            exact ih18 (x5 + 1) _ _ _ (by omega) (by omega) hP hD hS hl
          · have t_32 : ¬ ((y5 : Nat) : Int) ≥ 16 := toI_nge c_32 (nI_toInt (by omega)) (by decide)
            refine lv_aload_n hx hb dX12_canOrder_35 rfl (lv_at hl 0 rfl) ?_
            refine va_get (D := (dC, dI)) (ci := 12) (v := .ref (a 86)) (C := RX12) (T := TX12) (N := 163) (fs := fM (vS a vi vj)) hx hb hts iwsRX12_canOrder_in12 hown hK hP 0 rfl rfl 139 (by decide) (hts (.fieldLink RX12 281 "OptimaWorksModel" "with" "[I") (by decide +kernel)) (fun _ h9 => h9) rfl dX12_canOrder_36 ?_
            refine lv_iload_n hx hb dX12_canOrder_39 rfl (lv_at hl 1 rfl) ?_
            refine va_iald (cA := k 86) (n := 10) (f := (vF 86)) hx hb hK hP 87 86 (WR_get 86 (by decide)) (TR_get 86 (by decide)) (vp_in_nI (show iN < 10 by omega) (by omega)) dX12_canOrder_40 ?_
            refine lv_topi (fun y1 hy1 => ?_)
            obtain rfl : ((vF 86) iN) = y1 := (hy1.trans (by rw [nI_clamp (by omega)])).symm
            refine lv_iload hx hb dX12_canOrder_41 (lv_at hl 4 rfl) ?_
            refine lv_ishr hx hb dX12_canOrder_43 ?_
            refine lv_iconst (v := 1) hx hb dX12_canOrder_44 (by decide) ?_
            refine lv_iand hx hb dX12_canOrder_45 ?_
            refine lv_iconst (v := 1) hx hb dX12_canOrder_46 (by decide) ?_
            refine lv_icmp_ne (tgt := 76) hx hb dX12_canOrder_47 (by decide) (fun c_47 => ?_) (fun c_47 => ?_)
            · have t_47 : (((((vF 86) iN) >>> ((nI x5) &&& 31)) &&& 1)).toInt ≠ 1 := toI_ne c_47 rfl (by decide)
              refine lv_iinc (v := (nI (y5 + 1))) hx hb dX12_canOrder_76 hl (k := 5) rfl (nI_add y5 1) (by decide) rfl (fun ls (hl : lv_has ls _ ([(5, .int (nI (y5 + 1))), (0, .ref h0), (1, .int (nI iN)), (2, .int kI), (3, .int (nI jN)), (4, .int (nI x5))])) => ?_)
              refine lv_goto (tgt := 28) hx hb dX12_canOrder_79 (by decide) ?_
              have hl : lv_has _ _ ([(0, .ref h0), (1, .int (nI iN)), (2, .int kI), (3, .int (nI jN)), (4, .int (nI x5)), (5, .int (nI (y5 + 1)))]) := lv_sub hl [1, 2, 3, 4, 5, 0] rfl
              exact ih28_1 (y5 + 1) _ _ _ (by omega) (by omega) hP hD hS hl
            · have t_47 : (((((vF 86) iN) >>> ((nI x5) &&& 31)) &&& 1)).toInt = 1 := toI_nne c_47 rfl (by decide)
              refine lv_aload_n hx hb dX12_canOrder_50 rfl (lv_at hl 0 rfl) ?_
              refine va_get (D := (dC, dI)) (ci := 12) (v := .ref (a 86)) (C := RX12) (T := TX12) (N := 163) (fs := fM (vS a vi vj)) hx hb hts iwsRX12_canOrder_in12 hown hK hP 0 rfl rfl 139 (by decide) (hts (.fieldLink RX12 281 "OptimaWorksModel" "with" "[I") (by decide +kernel)) (fun _ h9 => h9) rfl dX12_canOrder_51 ?_
              refine lv_iload_n hx hb dX12_canOrder_54 rfl (lv_at hl 3 rfl) ?_
              refine va_iald (cA := k 86) (n := 10) (f := (vF 86)) hx hb hK hP 87 86 (WR_get 86 (by decide)) (TR_get 86 (by decide)) (vp_in_nI (show jN < 10 by omega) (by omega)) dX12_canOrder_55 ?_
              refine lv_topi (fun y2 hy2 => ?_)
              obtain rfl : ((vF 86) jN) = y2 := (hy2.trans (by rw [nI_clamp (by omega)])).symm
              refine lv_iload hx hb dX12_canOrder_56 (lv_at hl 5 rfl) ?_
              refine lv_ishr hx hb dX12_canOrder_58 ?_
              refine lv_iconst (v := 1) hx hb dX12_canOrder_59 (by decide) ?_
              refine lv_iand hx hb dX12_canOrder_60 ?_
              refine lv_iconst (v := 1) hx hb dX12_canOrder_61 (by decide) ?_
              refine lv_icmp_ne (tgt := 76) hx hb dX12_canOrder_62 (by decide) (fun c_62 => ?_) (fun c_62 => ?_)
              · have t_62 : (((((vF 86) jN) >>> ((nI y5) &&& 31)) &&& 1)).toInt ≠ 1 := toI_ne c_62 rfl (by decide)
                refine lv_iinc (v := (nI (y5 + 1))) hx hb dX12_canOrder_76 hl (k := 5) rfl (nI_add y5 1) (by decide) rfl (fun ls (hl : lv_has ls _ ([(5, .int (nI (y5 + 1))), (0, .ref h0), (1, .int (nI iN)), (2, .int kI), (3, .int (nI jN)), (4, .int (nI x5))])) => ?_)
                refine lv_goto (tgt := 28) hx hb dX12_canOrder_79 (by decide) ?_
                have hl : lv_has _ _ ([(0, .ref h0), (1, .int (nI iN)), (2, .int kI), (3, .int (nI jN)), (4, .int (nI x5)), (5, .int (nI (y5 + 1)))]) := lv_sub hl [1, 2, 3, 4, 5, 0] rfl
                exact ih28_1 (y5 + 1) _ _ _ (by omega) (by omega) hP hD hS hl
              · have t_62 : (((((vF 86) jN) >>> ((nI y5) &&& 31)) &&& 1)).toInt = 1 := toI_nne c_62 rfl (by decide)
                refine lv_iload hx hb dX12_canOrder_65 (lv_at hl 4 rfl) ?_
                refine lv_iload_n hx hb dX12_canOrder_67 rfl (lv_at hl 2 rfl) ?_
                refine lv_iadd hx hb dX12_canOrder_68 ?_
                refine lv_iload hx hb dX12_canOrder_69 (lv_at hl 5 rfl) ?_
                refine lv_icmp_gt (tgt := 76) hx hb dX12_canOrder_71 (by decide) (fun c_71 => ?_) (fun c_71 => ?_)
                · have t_71 : (((nI x5) + kI)).toInt > ((y5 : Nat) : Int) := toI_gt c_71 rfl (nI_toInt (by omega))
                  refine lv_iinc (v := (nI (y5 + 1))) hx hb dX12_canOrder_76 hl (k := 5) rfl (nI_add y5 1) (by decide) rfl (fun ls (hl : lv_has ls _ ([(5, .int (nI (y5 + 1))), (0, .ref h0), (1, .int (nI iN)), (2, .int kI), (3, .int (nI jN)), (4, .int (nI x5))])) => ?_)
                  refine lv_goto (tgt := 28) hx hb dX12_canOrder_79 (by decide) ?_
                  have hl : lv_has _ _ ([(0, .ref h0), (1, .int (nI iN)), (2, .int kI), (3, .int (nI jN)), (4, .int (nI x5)), (5, .int (nI (y5 + 1)))]) := lv_sub hl [1, 2, 3, 4, 5, 0] rfl
                  exact ih28_1 (y5 + 1) _ _ _ (by omega) (by omega) hP hD hS hl
                · have t_71 : ¬ (((nI x5) + kI)).toInt > ((y5 : Nat) : Int) := toI_ngt c_71 rfl (nI_toInt (by omega))
                  refine lv_iconst (v := 1) hx hb dX12_canOrder_74 (by decide) ?_
                  refine W.widen (k := 0) (n := 0) (by decide +kernel) (by decide +kernel) ?_
                  exact W.zret (v := 1) hx hb hr rfl (fun t9_ ht hW => ⟨⟨1, (), rfl, by (try dsimp only); exact Or.inl rfl, by rw [ht]; exact hP, hD⟩, hS.F ht⟩) hS.2.2 dX12_canOrder_75
  · have t_2 : ((iN : Nat) : Int) = ((jN : Nat) : Int) := toI_nne c_2 (nI_toInt (by omega)) (nI_toInt (by omega))
    refine lv_iload_n hx hb dX12_canOrder_5 rfl (lv_at hl 2 rfl) ?_
    refine lv_if_gt (tgt := 13) hx hb dX12_canOrder_6 (by decide) (fun c_6 => ?_) (fun c_6 => ?_)
    · have t_6 : (kI).toInt > 0 := toI_gt c_6 rfl (by decide)
      refine lv_iconst (v := 0) hx hb dX12_canOrder_13 (by decide) ?_
      refine W.widen (k := 0) (n := 0) (by decide +kernel) (by decide +kernel) ?_
      exact W.zret (v := 0) hx hb hr rfl (fun t9_ ht hW => ⟨⟨0, (), rfl, by (try dsimp only); exact Or.inr rfl, by rw [ht]; exact hP, hD⟩, hS.F ht⟩) hS.2.2 dX12_canOrder_14
    · have t_6 : ¬ (kI).toInt > 0 := toI_ngt c_6 rfl (by decide)
      refine lv_iconst (v := 1) hx hb dX12_canOrder_9 (by decide) ?_
      refine lv_goto (tgt := 14) hx hb dX12_canOrder_10 (by decide) ?_
      refine W.widen (k := 0) (n := 0) (by decide +kernel) (by decide +kernel) ?_
      exact W.zret (v := 1) hx hb hr rfl (fun t9_ ht hW => ⟨⟨1, (), rfl, by (try dsimp only); exact Or.inl rfl, by rw [ht]; exact hP, hD⟩, hS.F ht⟩) hS.2.2 dX12_canOrder_14
theorem dX12_canSum_0 : decode cX12_canSum 0 = .ok (.lconst 1, 1) := dk_10 (by decide +kernel)
theorem dX12_canSum_1 : decode cX12_canSum 1 = .ok (.lstore 4, 2) := dk_55 (by decide +kernel)
theorem dX12_canSum_3 : decode cX12_canSum 3 = .ok (.lconst 0, 1) := dk_9 (by decide +kernel)
theorem dX12_canSum_4 : decode cX12_canSum 4 = .ok (.lstore 6, 2) := dk_55 (by decide +kernel)
theorem dX12_canSum_6 : decode cX12_canSum 6 = .ok (.lconst 0, 1) := dk_9 (by decide +kernel)
theorem dX12_canSum_7 : decode cX12_canSum 7 = .ok (.lstore 8, 2) := dk_55 (by decide +kernel)
theorem dX12_canSum_9 : decode cX12_canSum 9 = .ok (.iconst 0, 1) := dk_3 (by decide +kernel)
theorem dX12_canSum_10 : decode cX12_canSum 10 = .ok (.istore 10, 2) := dk_54 (by decide +kernel)
theorem dX12_canSum_12 : decode cX12_canSum 12 = .ok (.iload 10, 2) := dk_21 (by decide +kernel)
theorem dX12_canSum_14 : decode cX12_canSum 14 = .ok (.aload_n 0, 1) := dk_42 (by decide +kernel)
theorem dX12_canSum_15 : decode cX12_canSum 15 = .ok (.getfield 978, 3) := dk_180 (by decide +kernel)
theorem dX12_canSum_18 : decode cX12_canSum 18 = .ok (.if_icmp .ge 144, 3) := dk_162 (by decide +kernel)
theorem dX12_canSum_21 : decode cX12_canSum 21 = .ok (.iload_n 1, 1) := dk_27 (by decide +kernel)
theorem dX12_canSum_22 : decode cX12_canSum 22 = .ok (.iload 10, 2) := dk_21 (by decide +kernel)
theorem dX12_canSum_24 : decode cX12_canSum 24 = .ok (.ishr, 1) := dk_122 (by decide +kernel)
theorem dX12_canSum_25 : decode cX12_canSum 25 = .ok (.iconst 1, 1) := dk_4 (by decide +kernel)
theorem dX12_canSum_26 : decode cX12_canSum 26 = .ok (.iand, 1) := dk_126 (by decide +kernel)
theorem dX12_canSum_27 : decode cX12_canSum 27 = .ok (.ifCond .ne 6, 3) := dk_154 (by decide +kernel)
theorem dX12_canSum_30 : decode cX12_canSum 30 = .ok (.goto 126, 3) := dk_167 (by decide +kernel)
theorem dX12_canSum_33 : decode cX12_canSum 33 = .ok (.lconst 0, 1) := dk_9 (by decide +kernel)
theorem dX12_canSum_34 : decode cX12_canSum 34 = .ok (.lstore 11, 2) := dk_55 (by decide +kernel)
theorem dX12_canSum_36 : decode cX12_canSum 36 = .ok (.lconst 0, 1) := dk_9 (by decide +kernel)
theorem dX12_canSum_37 : decode cX12_canSum 37 = .ok (.lstore 13, 2) := dk_55 (by decide +kernel)
theorem dX12_canSum_39 : decode cX12_canSum 39 = .ok (.lconst 0, 1) := dk_9 (by decide +kernel)
theorem dX12_canSum_40 : decode cX12_canSum 40 = .ok (.lstore 15, 2) := dk_55 (by decide +kernel)
theorem dX12_canSum_42 : decode cX12_canSum 42 = .ok (.iconst 0, 1) := dk_3 (by decide +kernel)
theorem dX12_canSum_43 : decode cX12_canSum 43 = .ok (.istore 17, 2) := dk_54 (by decide +kernel)
theorem dX12_canSum_45 : decode cX12_canSum 45 = .ok (.iload 17, 2) := dk_21 (by decide +kernel)
theorem dX12_canSum_47 : decode cX12_canSum 47 = .ok (.bipush 16, 2) := dk_16 (by decide +kernel)
theorem dX12_canSum_49 : decode cX12_canSum 49 = .ok (.if_icmp .ge 95, 3) := dk_162 (by decide +kernel)
theorem dX12_canSum_52 : decode cX12_canSum 52 = .ok (.aload_n 0, 1) := dk_42 (by decide +kernel)
theorem dX12_canSum_53 : decode cX12_canSum 53 = .ok (.getfield 281, 3) := dk_180 (by decide +kernel)
theorem dX12_canSum_56 : decode cX12_canSum 56 = .ok (.iload 10, 2) := dk_21 (by decide +kernel)
theorem dX12_canSum_58 : decode cX12_canSum 58 = .ok (.iaload, 1) := dk_46 (by decide +kernel)
theorem dX12_canSum_59 : decode cX12_canSum 59 = .ok (.iload 17, 2) := dk_21 (by decide +kernel)
theorem dX12_canSum_61 : decode cX12_canSum 61 = .ok (.ishr, 1) := dk_122 (by decide +kernel)
theorem dX12_canSum_62 : decode cX12_canSum 62 = .ok (.iconst 1, 1) := dk_4 (by decide +kernel)
theorem dX12_canSum_63 : decode cX12_canSum 63 = .ok (.iand, 1) := dk_126 (by decide +kernel)
theorem dX12_canSum_64 : decode cX12_canSum 64 = .ok (.ifCond .ne 6, 3) := dk_154 (by decide +kernel)
theorem dX12_canSum_67 : decode cX12_canSum 67 = .ok (.goto 71, 3) := dk_167 (by decide +kernel)
theorem dX12_canSum_70 : decode cX12_canSum 70 = .ok (.lload 11, 2) := dk_22 (by decide +kernel)
theorem dX12_canSum_72 : decode cX12_canSum 72 = .ok (.lload 4, 2) := dk_22 (by decide +kernel)
theorem dX12_canSum_74 : decode cX12_canSum 74 = .ok (.iload 17, 2) := dk_21 (by decide +kernel)
theorem dX12_canSum_76 : decode cX12_canSum 76 = .ok (.lshl, 1) := dk_121 (by decide +kernel)
theorem dX12_canSum_77 : decode cX12_canSum 77 = .ok (.lor, 1) := dk_129 (by decide +kernel)
theorem dX12_canSum_78 : decode cX12_canSum 78 = .ok (.lstore 11, 2) := dk_55 (by decide +kernel)
theorem dX12_canSum_80 : decode cX12_canSum 80 = .ok (.lload 13, 2) := dk_22 (by decide +kernel)
theorem dX12_canSum_82 : decode cX12_canSum 82 = .ok (.iload 17, 2) := dk_21 (by decide +kernel)
theorem dX12_canSum_84 : decode cX12_canSum 84 = .ok (.ifCond .ne 8, 3) := dk_154 (by decide +kernel)
theorem dX12_canSum_87 : decode cX12_canSum 87 = .ok (.lload 6, 2) := dk_22 (by decide +kernel)
theorem dX12_canSum_89 : decode cX12_canSum 89 = .ok (.goto 17, 3) := dk_167 (by decide +kernel)
theorem dX12_canSum_92 : decode cX12_canSum 92 = .ok (.lload 6, 2) := dk_22 (by decide +kernel)
theorem dX12_canSum_94 : decode cX12_canSum 94 = .ok (.iload 17, 2) := dk_21 (by decide +kernel)
theorem dX12_canSum_96 : decode cX12_canSum 96 = .ok (.lshl, 1) := dk_121 (by decide +kernel)
theorem dX12_canSum_97 : decode cX12_canSum 97 = .ok (.lload 4, 2) := dk_22 (by decide +kernel)
theorem dX12_canSum_99 : decode cX12_canSum 99 = .ok (.bipush 64, 2) := dk_16 (by decide +kernel)
theorem dX12_canSum_101 : decode cX12_canSum 101 = .ok (.iload 17, 2) := dk_21 (by decide +kernel)
theorem dX12_canSum_103 : decode cX12_canSum 103 = .ok (.isub, 1) := dk_100 (by decide +kernel)
theorem dX12_canSum_104 : decode cX12_canSum 104 = .ok (.lushr, 1) := dk_125 (by decide +kernel)
theorem dX12_canSum_105 : decode cX12_canSum 105 = .ok (.lor, 1) := dk_129 (by decide +kernel)
theorem dX12_canSum_106 : decode cX12_canSum 106 = .ok (.lor, 1) := dk_129 (by decide +kernel)
theorem dX12_canSum_107 : decode cX12_canSum 107 = .ok (.lstore 13, 2) := dk_55 (by decide +kernel)
theorem dX12_canSum_109 : decode cX12_canSum 109 = .ok (.lload 15, 2) := dk_22 (by decide +kernel)
theorem dX12_canSum_111 : decode cX12_canSum 111 = .ok (.iload 17, 2) := dk_21 (by decide +kernel)
theorem dX12_canSum_113 : decode cX12_canSum 113 = .ok (.ifCond .ne 8, 3) := dk_154 (by decide +kernel)
theorem dX12_canSum_116 : decode cX12_canSum 116 = .ok (.lload 8, 2) := dk_22 (by decide +kernel)
theorem dX12_canSum_118 : decode cX12_canSum 118 = .ok (.goto 17, 3) := dk_167 (by decide +kernel)
theorem dX12_canSum_121 : decode cX12_canSum 121 = .ok (.lload 8, 2) := dk_22 (by decide +kernel)
theorem dX12_canSum_123 : decode cX12_canSum 123 = .ok (.iload 17, 2) := dk_21 (by decide +kernel)
theorem dX12_canSum_125 : decode cX12_canSum 125 = .ok (.lshl, 1) := dk_121 (by decide +kernel)
theorem dX12_canSum_126 : decode cX12_canSum 126 = .ok (.lload 6, 2) := dk_22 (by decide +kernel)
theorem dX12_canSum_128 : decode cX12_canSum 128 = .ok (.bipush 64, 2) := dk_16 (by decide +kernel)
theorem dX12_canSum_130 : decode cX12_canSum 130 = .ok (.iload 17, 2) := dk_21 (by decide +kernel)
theorem dX12_canSum_132 : decode cX12_canSum 132 = .ok (.isub, 1) := dk_100 (by decide +kernel)
theorem dX12_canSum_133 : decode cX12_canSum 133 = .ok (.lushr, 1) := dk_125 (by decide +kernel)
theorem dX12_canSum_134 : decode cX12_canSum 134 = .ok (.lor, 1) := dk_129 (by decide +kernel)
theorem dX12_canSum_135 : decode cX12_canSum 135 = .ok (.lor, 1) := dk_129 (by decide +kernel)
theorem dX12_canSum_136 : decode cX12_canSum 136 = .ok (.lstore 15, 2) := dk_55 (by decide +kernel)
theorem dX12_canSum_138 : decode cX12_canSum 138 = .ok (.iinc 17 1, 3) := dk_132 (by decide +kernel)
theorem dX12_canSum_141 : decode cX12_canSum 141 = .ok (.goto (-96), 3) := dk_167 (by decide +kernel)
theorem dX12_canSum_144 : decode cX12_canSum 144 = .ok (.lload 11, 2) := dk_22 (by decide +kernel)
theorem dX12_canSum_146 : decode cX12_canSum 146 = .ok (.lstore 4, 2) := dk_55 (by decide +kernel)
theorem dX12_canSum_148 : decode cX12_canSum 148 = .ok (.lload 13, 2) := dk_22 (by decide +kernel)
theorem dX12_canSum_150 : decode cX12_canSum 150 = .ok (.lstore 6, 2) := dk_55 (by decide +kernel)
theorem dX12_canSum_152 : decode cX12_canSum 152 = .ok (.lload 15, 2) := dk_22 (by decide +kernel)
theorem dX12_canSum_154 : decode cX12_canSum 154 = .ok (.lstore 8, 2) := dk_55 (by decide +kernel)
theorem dX12_canSum_156 : decode cX12_canSum 156 = .ok (.iinc 10 1, 3) := dk_132 (by decide +kernel)
theorem dX12_canSum_159 : decode cX12_canSum 159 = .ok (.goto (-147), 3) := dk_167 (by decide +kernel)
theorem dX12_canSum_162 : decode cX12_canSum 162 = .ok (.iload_n 2, 1) := dk_28 (by decide +kernel)
theorem dX12_canSum_163 : decode cX12_canSum 163 = .ok (.ifCond .ge 7, 3) := dk_156 (by decide +kernel)
theorem dX12_canSum_166 : decode cX12_canSum 166 = .ok (.iconst 0, 1) := dk_3 (by decide +kernel)
theorem dX12_canSum_167 : decode cX12_canSum 167 = .ok (.goto 4, 3) := dk_167 (by decide +kernel)
theorem dX12_canSum_170 : decode cX12_canSum 170 = .ok (.iload_n 2, 1) := dk_28 (by decide +kernel)
theorem dX12_canSum_171 : decode cX12_canSum 171 = .ok (.istore 10, 2) := dk_54 (by decide +kernel)
theorem dX12_canSum_173 : decode cX12_canSum 173 = .ok (.iload 10, 2) := dk_21 (by decide +kernel)
theorem dX12_canSum_175 : decode cX12_canSum 175 = .ok (.iload_n 3, 1) := dk_29 (by decide +kernel)
theorem dX12_canSum_176 : decode cX12_canSum 176 = .ok (.if_icmp .gt 59, 3) := dk_163 (by decide +kernel)
theorem dX12_canSum_179 : decode cX12_canSum 179 = .ok (.iload 10, 2) := dk_21 (by decide +kernel)
theorem dX12_canSum_181 : decode cX12_canSum 181 = .ok (.sipush 192, 3) := dk_17 (by decide +kernel)
theorem dX12_canSum_184 : decode cX12_canSum 184 = .ok (.if_icmp .ge 51, 3) := dk_162 (by decide +kernel)
theorem dX12_canSum_187 : decode cX12_canSum 187 = .ok (.iload 10, 2) := dk_21 (by decide +kernel)
theorem dX12_canSum_189 : decode cX12_canSum 189 = .ok (.bipush 64, 2) := dk_16 (by decide +kernel)
theorem dX12_canSum_191 : decode cX12_canSum 191 = .ok (.if_icmp .ge 8, 3) := dk_162 (by decide +kernel)
theorem dX12_canSum_194 : decode cX12_canSum 194 = .ok (.lload 4, 2) := dk_22 (by decide +kernel)
theorem dX12_canSum_196 : decode cX12_canSum 196 = .ok (.goto 18, 3) := dk_167 (by decide +kernel)
theorem dX12_canSum_199 : decode cX12_canSum 199 = .ok (.iload 10, 2) := dk_21 (by decide +kernel)
theorem dX12_canSum_201 : decode cX12_canSum 201 = .ok (.sipush 128, 3) := dk_17 (by decide +kernel)
theorem dX12_canSum_204 : decode cX12_canSum 204 = .ok (.if_icmp .ge 8, 3) := dk_162 (by decide +kernel)
theorem dX12_canSum_207 : decode cX12_canSum 207 = .ok (.lload 6, 2) := dk_22 (by decide +kernel)
theorem dX12_canSum_209 : decode cX12_canSum 209 = .ok (.goto 5, 3) := dk_167 (by decide +kernel)
theorem dX12_canSum_212 : decode cX12_canSum 212 = .ok (.lload 8, 2) := dk_22 (by decide +kernel)
theorem dX12_canSum_214 : decode cX12_canSum 214 = .ok (.iload 10, 2) := dk_21 (by decide +kernel)
theorem dX12_canSum_216 : decode cX12_canSum 216 = .ok (.bipush 63, 2) := dk_16 (by decide +kernel)
theorem dX12_canSum_218 : decode cX12_canSum 218 = .ok (.iand, 1) := dk_126 (by decide +kernel)
theorem dX12_canSum_219 : decode cX12_canSum 219 = .ok (.lushr, 1) := dk_125 (by decide +kernel)
theorem dX12_canSum_220 : decode cX12_canSum 220 = .ok (.lconst 1, 1) := dk_10 (by decide +kernel)
theorem dX12_canSum_221 : decode cX12_canSum 221 = .ok (.land, 1) := dk_127 (by decide +kernel)
theorem dX12_canSum_222 : decode cX12_canSum 222 = .ok (.lconst 1, 1) := dk_10 (by decide +kernel)
theorem dX12_canSum_223 : decode cX12_canSum 223 = .ok (.lcmp, 1) := dk_148 (by decide +kernel)
theorem dX12_canSum_224 : decode cX12_canSum 224 = .ok (.ifCond .ne 5, 3) := dk_154 (by decide +kernel)
theorem dX12_canSum_227 : decode cX12_canSum 227 = .ok (.iconst 1, 1) := dk_4 (by decide +kernel)
theorem dX12_canSum_228 : decode cX12_canSum 228 = .ok (.ireturn, 1) := dk_172 (by decide +kernel)
theorem dX12_canSum_229 : decode cX12_canSum 229 = .ok (.iinc 10 1, 3) := dk_132 (by decide +kernel)
theorem dX12_canSum_232 : decode cX12_canSum 232 = .ok (.goto (-59), 3) := dk_167 (by decide +kernel)
theorem dX12_canSum_235 : decode cX12_canSum 235 = .ok (.iconst 0, 1) := dk_3 (by decide +kernel)
theorem dX12_canSum_236 : decode cX12_canSum 236 = .ok (.ireturn, 1) := dk_172 (by decide +kernel)
def wsRX12_canSum : List Cond := .code yX12_canSum cX12_canSum 18 (some .boolean) :: ([.fieldLink RX12 978 "OptimaWorksModel" "holders" "I", .fieldLink RX12 281 "OptimaWorksModel" "with" "[I"] ++ wsX120)
theorem iwsRX12_canSum_in12 : ∀ w ∈ wsX120, w ∈ wsRX12_canSum := fun _ h => List.mem_cons_of_mem _ (List.mem_append_right _ h)
theorem gdwsRX12_canSum : wsRX12_canSum.all goodWord = true := gdC rfl (gdA (by decide +kernel : ([.fieldLink RX12 978 "OptimaWorksModel" "holders" "I", .fieldLink RX12 281 "OptimaWorksModel" "with" "[I"] : List Cond).all goodWord = true) gdwsX120)
set_option maxHeartbeats 4000000 in
set_option maxRecDepth 100000 in
/-- canSum(set, lo, hi) -/
theorem r_X12_canSum (l : Launch) (dC : Nat → ClassId) (dI : Nat → Nat → Nat) (a : Nat → Nat) (k : Nat → ClassId) (h0 : Nat) (vi : Nat → Int32) (vj : Nat → Int64) (vF : Nat → Nat → Int32) (vG : Nat → Nat → Int64) (sI : Int32) (lo : Int32) (hi : Int32) (hn : Nat) (hhn : vi 128 = nI hn) (hhn10 : hn ≤ 10) (sz : Nat) : Met l yX12_canSum wsRX12_canSum ({ frames := 0, cells := 0, slots := 0, locals := 0 }) (va_Pc [.ref h0, .int sI, .int lo, .int hi] (fun U => U.heap.size = sz ∧ va_P (dC, dI) vwCl (WR a k h0 vi vj vF vG) U.heap ∧ va_K (dC, dI) vwCl (tX12 k) U ∧ va_D (fun _ => True) (WR a k h0 vi vj vF vG))) (va_Qi (fun (r : Int32) (u : Unit) => (r = 1) ∨ (r = 0)) (fun (u : Unit) t => va_P (dC, dI) vwCl (WR a k h0 vi vj vF vG) t.heap ∧ va_D (va_A (WR a k h0 vi vj vF vG) sz) (WR a k h0 vi vj vF vG)) (va_A (WR a k h0 vi vj vF vG) sz)) 0 0 (va_A (WR a k h0 vi vj vF vG) sz) := by
  refine Met.ofW (cc := cX12_canSum) (maxL := 18) (ret := (some .boolean)) (by decide) rfl ?_
  intro p e s m args below meth c s₁ B hml hv
  obtain ⟨rfl, hsz, hP, hK, hD0⟩ := hv
  have hx := B.exec
  have hb := B.bytes
  have hr := B.returns
  have hts := atoms_spec (ws := wsRX12_canSum) B.pre
  have hown : s.vm.findClass RX12 = some m.cls := findClass_of_methodNamed B.named
  have hlocks := B.notSynchronized
  subst hsz
  have hD := hD0.self (sz := s.heap.size)
  generalize hAe : va_A (WR a k h0 vi vj vF vG) s.heap.size = A at hD ⊢
  have hA : ∀ q : Nat, s.heap.size ≤ q → A q := fun q h => by rw [← hAe]; exact Or.inr h
  have hS : va_S A s.heap s.heap [] := va_S.rf
  have hl := lv_entry ([.ref h0, .int sI, .int lo, .int hi]) (n := 18) (Nat.le_of_ble_eq_true rfl)
  rw [lg_entry_eq]
  generalize (lg_sl ([.ref h0, .int sI, .int lo, .int hi]) ++ List.replicate (18 - (lg_sl ([.ref h0, .int sI, .int lo, .int hi])).length) Slot.unset).toArray = ls at hl ⊢
  have hl : lv_has ls 18 [(0, .ref h0), (1, .int sI), (2, .int lo), (3, .int hi)] := hl
  refine lv_lconst (v := 1) hx hb dX12_canSum_0 (by decide) ?_
  refine lv_lstore hx hb dX12_canSum_1 hl (by decide) rfl (fun ls (hl : lv_has ls _ ([(4, .long 1), (0, .ref h0), (1, .int sI), (2, .int lo), (3, .int hi)])) => ?_)
  refine lv_lconst (v := 0) hx hb dX12_canSum_3 (by decide) ?_
  refine lv_lstore hx hb dX12_canSum_4 hl (by decide) rfl (fun ls (hl : lv_has ls _ ([(6, .long 0), (4, .long 1), (0, .ref h0), (1, .int sI), (2, .int lo), (3, .int hi)])) => ?_)
  refine lv_lconst (v := 0) hx hb dX12_canSum_6 (by decide) ?_
  refine lv_lstore hx hb dX12_canSum_7 hl (by decide) rfl (fun ls (hl : lv_has ls _ ([(8, .long 0), (6, .long 0), (4, .long 1), (0, .ref h0), (1, .int sI), (2, .int lo), (3, .int hi)])) => ?_)
  refine lv_iconst (v := 0) hx hb dX12_canSum_9 (by decide) ?_
  refine lv_istore hx hb dX12_canSum_10 hl (by decide) rfl (fun ls (hl : lv_has ls _ ([(10, .int 0), (8, .long 0), (6, .long 0), (4, .long 1), (0, .ref h0), (1, .int sI), (2, .int lo), (3, .int hi)])) => ?_)
  have hl : lv_has _ _ ([(0, .ref h0), (1, .int sI), (2, .int lo), (3, .int hi), (4, .long 1), (6, .long 0), (8, .long 0), (10, .int (nI 0))]) := lv_sub hl [4, 5, 6, 7, 3, 2, 1, 0] rfl
  refine (fun (loop : ∀ (n9 : Nat) (i5 : Nat) (a5 : Int64) (b5 : Int64) (c5 : Int64) (H : Heap) (locs : List Loc) (ls : Array Slot), (i5 ≤ hn) →  (hn < i5 + n9) → va_P (dC, dI) vwCl (WR a k h0 vi vj vF vG) H → va_D A (WR a k h0 vi vj vF vG) → va_S A s.heap H locs → lv_has ls 18 [(0, .ref h0), (1, .int sI), (2, .int lo), (3, .int hi), (4, .long a5), (6, .long b5), (8, .long c5), (10, .int (nI i5))] → W p l e _ s m _ below meth c H locs 0 0 _ (F0 m 12 ls [])) => loop (hn + 1) 0 1 0 0 _ _ _ (by omega) (by omega) hP hD hS hl) ?_
  intro n9
  induction n9 with
  | zero => intro i5 a5 b5 c5 H locs ls hi5 hf9; exact False.elim (by omega)
  | succ n9 ih12 =>
    intro i5 a5 b5 c5 H locs ls hi5 hf12 hP hD hS hl
    refine lv_iload hx hb dX12_canSum_12 (lv_at hl 7 rfl) ?_
    refine lv_aload_n hx hb dX12_canSum_14 rfl (lv_at hl 0 rfl) ?_
    refine va_get (D := (dC, dI)) (ci := 12) (v := .int (vi 128)) (C := RX12) (T := TX12) (N := 163) (fs := fM (vS a vi vj)) hx hb hts iwsRX12_canSum_in12 hown hK hP 0 rfl rfl 128 (by decide) (hts (.fieldLink RX12 978 "OptimaWorksModel" "holders" "I") (by decide +kernel)) (fun _ h9 => h9) rfl dX12_canSum_15 ?_
    refine lv_topi (fun y1 hy1 => ?_)
    obtain rfl : (nI hn) = y1 := (hy1.trans (hhn)).symm
    refine lv_icmp_ge (tgt := 162) hx hb dX12_canSum_18 (by decide) (fun c_18 => ?_) (fun c_18 => ?_)
    · have t_18 : ((i5 : Nat) : Int) ≥ ((hn : Nat) : Int) := toI_ge c_18 (nI_toInt (by omega)) (nI_toInt (by omega))
      refine lv_iload_n hx hb dX12_canSum_162 rfl (lv_at hl 2 rfl) ?_
      refine W.cut (pc := 171) (fun H locs ls stk => ∃ (s0 : Int32), (0 ≤ (s0).toInt) ∧  stk = [.int s0] ∧ va_P (dC, dI) vwCl (WR a k h0 vi vj vF vG) H ∧ va_D A (WR a k h0 vi vj vF vG) ∧ va_S A s.heap H locs ∧ lv_has ls 18 [(0, .ref h0), (3, .int hi), (4, .long a5), (6, .long b5), (8, .long c5)]) (fun join1 => ?_) ?_
      · refine lv_if_ge (tgt := 170) hx hb dX12_canSum_163 (by decide) (fun c_163 => ?_) (fun c_163 => ?_)
        · have t_163 : (lo).toInt ≥ 0 := toI_ge c_163 rfl (by decide)
          refine lv_iload_n hx hb dX12_canSum_170 rfl (lv_at hl 2 rfl) ?_
          have hl : lv_has _ _ ([(0, .ref h0), (3, .int hi), (4, .long a5), (6, .long b5), (8, .long c5)]) := lv_sub hl [0, 3, 4, 5, 6] rfl
          exact join1 _ _ _ _ ⟨lo, by omega, rfl, hP, hD, hS, hl⟩
        · have t_163 : ¬ (lo).toInt ≥ 0 := toI_nge c_163 rfl (by decide)
          refine lv_iconst (v := 0) hx hb dX12_canSum_166 (by decide) ?_
          refine lv_goto (tgt := 171) hx hb dX12_canSum_167 (by decide) ?_
          have hl : lv_has _ _ ([(0, .ref h0), (3, .int hi), (4, .long a5), (6, .long b5), (8, .long c5)]) := lv_sub hl [0, 3, 4, 5, 6] rfl
          exact join1 _ _ _ _ ⟨0, by decide, rfl, hP, hD, hS, hl⟩
      · rintro H locs ls stk ⟨s0, hs0, rfl, hP, hD, hS, hl⟩
        refine lv_istore hx hb dX12_canSum_171 hl (by decide) rfl (fun ls (hl : lv_has ls _ ([(10, .int s0), (0, .ref h0), (3, .int hi), (4, .long a5), (6, .long b5), (8, .long c5)])) => ?_)
        have hl : lv_has _ _ ([(0, .ref h0), (3, .int hi), (4, .long a5), (6, .long b5), (8, .long c5), (10, .int s0)]) := lv_sub hl [1, 2, 3, 4, 5, 0] rfl
        refine (fun (loop : ∀ (n9 : Nat) (s9 : Int32) (H : Heap) (locs : List Loc) (ls : Array Slot), (0 ≤ (s9).toInt) →  (0 < n9 ∧ 192 < (s9).toInt + (n9 : Int)) → va_P (dC, dI) vwCl (WR a k h0 vi vj vF vG) H → va_D A (WR a k h0 vi vj vF vG) → va_S A s.heap H locs → lv_has ls 18 [(0, .ref h0), (3, .int hi), (4, .long a5), (6, .long b5), (8, .long c5), (10, .int s9)] → W p l e _ s m _ below meth c H locs 0 0 _ (F0 m 173 ls [])) => loop (193) s0 _ _ _ (hs0) (by omega) hP hD hS hl) ?_
        intro n9
        induction n9 with
        | zero => intro s9 H locs ls hs9 hf9; exact False.elim (by omega)
        | succ n9 ih173_1 =>
          intro s9 H locs ls hs9 hf173_1 hP hD hS hl
          refine lv_iload hx hb dX12_canSum_173 (lv_at hl 5 rfl) ?_
          refine lv_iload_n hx hb dX12_canSum_175 rfl (lv_at hl 1 rfl) ?_
          refine lv_icmp_gt (tgt := 235) hx hb dX12_canSum_176 (by decide) (fun c_176 => ?_) (fun c_176 => ?_)
          · have t_176 : (s9).toInt > (hi).toInt := toI_gt c_176 rfl rfl
            refine lv_iconst (v := 0) hx hb dX12_canSum_235 (by decide) ?_
            refine W.widen (k := 0) (n := 0) (by decide +kernel) (by decide +kernel) ?_
            exact W.zret (v := 0) hx hb hr rfl (fun t9_ ht hW => ⟨⟨0, (), rfl, by (try dsimp only); exact Or.inr rfl, by rw [ht]; exact hP, hD⟩, hS.F ht⟩) hS.2.2 dX12_canSum_236
          · have t_176 : ¬ (s9).toInt > (hi).toInt := toI_ngt c_176 rfl rfl
            refine lv_iload hx hb dX12_canSum_179 (lv_at hl 5 rfl) ?_
            refine lv_sipush (v := 192) hx hb dX12_canSum_181 (by decide) ?_
            refine lv_icmp_ge (tgt := 235) hx hb dX12_canSum_184 (by decide) (fun c_184 => ?_) (fun c_184 => ?_)
            · have t_184 : (s9).toInt ≥ 192 := toI_ge c_184 rfl (by decide)
              refine lv_iconst (v := 0) hx hb dX12_canSum_235 (by decide) ?_
              refine W.widen (k := 0) (n := 0) (by decide +kernel) (by decide +kernel) ?_
              exact W.zret (v := 0) hx hb hr rfl (fun t9_ ht hW => ⟨⟨0, (), rfl, by (try dsimp only); exact Or.inr rfl, by rw [ht]; exact hP, hD⟩, hS.F ht⟩) hS.2.2 dX12_canSum_236
            · have t_184 : ¬ (s9).toInt ≥ 192 := toI_nge c_184 rfl (by decide)
              refine lv_iload hx hb dX12_canSum_187 (lv_at hl 5 rfl) ?_
              refine lv_bipush (v := 64) hx hb dX12_canSum_189 (by decide) ?_
              refine W.cut (pc := 214) (fun H locs ls stk => ∃ (j2_s0 : Int64),  stk = [.long j2_s0] ∧ va_P (dC, dI) vwCl (WR a k h0 vi vj vF vG) H ∧ va_D A (WR a k h0 vi vj vF vG) ∧ va_S A s.heap H locs ∧ lv_has ls 18 [(0, .ref h0), (3, .int hi), (4, .long a5), (6, .long b5), (8, .long c5), (10, .int s9)]) (fun join2 => ?_) ?_
              · refine lv_icmp_ge (tgt := 199) hx hb dX12_canSum_191 (by decide) (fun c_191 => ?_) (fun c_191 => ?_)
                · have t_191 : (s9).toInt ≥ 64 := toI_ge c_191 rfl (by decide)
                  refine lv_iload hx hb dX12_canSum_199 (lv_at hl 5 rfl) ?_
                  refine lv_sipush (v := 128) hx hb dX12_canSum_201 (by decide) ?_
                  refine lv_icmp_ge (tgt := 212) hx hb dX12_canSum_204 (by decide) (fun c_204 => ?_) (fun c_204 => ?_)
                  · have t_204 : (s9).toInt ≥ 128 := toI_ge c_204 rfl (by decide)
                    refine lv_lload hx hb dX12_canSum_212 (lv_at hl 4 rfl) ?_
                    have hl : lv_has _ _ ([(0, .ref h0), (3, .int hi), (4, .long a5), (6, .long b5), (8, .long c5), (10, .int s9)]) := lv_sub hl [0, 1, 2, 3, 4, 5] rfl
                    exact join2 _ _ _ _ ⟨c5, rfl, hP, hD, hS, hl⟩
                  · have t_204 : ¬ (s9).toInt ≥ 128 := toI_nge c_204 rfl (by decide)
                    refine lv_lload hx hb dX12_canSum_207 (lv_at hl 3 rfl) ?_
                    refine lv_goto (tgt := 214) hx hb dX12_canSum_209 (by decide) ?_
                    have hl : lv_has _ _ ([(0, .ref h0), (3, .int hi), (4, .long a5), (6, .long b5), (8, .long c5), (10, .int s9)]) := lv_sub hl [0, 1, 2, 3, 4, 5] rfl
                    exact join2 _ _ _ _ ⟨b5, rfl, hP, hD, hS, hl⟩
                · have t_191 : ¬ (s9).toInt ≥ 64 := toI_nge c_191 rfl (by decide)
                  refine lv_lload hx hb dX12_canSum_194 (lv_at hl 2 rfl) ?_
                  refine lv_goto (tgt := 214) hx hb dX12_canSum_196 (by decide) ?_
                  have hl : lv_has _ _ ([(0, .ref h0), (3, .int hi), (4, .long a5), (6, .long b5), (8, .long c5), (10, .int s9)]) := lv_sub hl [0, 1, 2, 3, 4, 5] rfl
                  exact join2 _ _ _ _ ⟨a5, rfl, hP, hD, hS, hl⟩
              · rintro H locs ls stk ⟨j2_s0, rfl, hP, hD, hS, hl⟩
                refine lv_iload hx hb dX12_canSum_214 (lv_at hl 5 rfl) ?_
                refine lv_bipush (v := 63) hx hb dX12_canSum_216 (by decide) ?_
                refine lv_iand hx hb dX12_canSum_218 ?_
                refine lv_lushr hx hb dX12_canSum_219 rfl ?_
                refine lv_lconst (v := 1) hx hb dX12_canSum_220 (by decide) ?_
                refine lv_land hx hb dX12_canSum_221 ?_
                refine lv_lconst (v := 1) hx hb dX12_canSum_222 (by decide) ?_
                refine W.lcmp hx hb dX12_canSum_223 ?_
                refine lv_if_ne (tgt := 229) hx hb dX12_canSum_224 (by decide) (fun c_224 => ?_) (fun c_224 => ?_)
                · have t_224 : (((((j2_s0).toUInt64 >>> (((s9 &&& 63) : Int32).toInt64.toUInt64 &&& Int64.toUInt64 63)).toInt64) &&& 1)).toInt ≠ 1 := toL_ne c_224 rfl (by decide)
                  have es1 : (s9 + 1).toInt = (s9).toInt + 1 := by rw [addB (by omega) (by decide)]; rfl
                  refine lv_iinc (v := (s9 + 1)) hx hb dX12_canSum_229 hl (k := 5) rfl rfl (by decide) rfl (fun ls (hl : lv_has ls _ ([(10, .int (s9 + 1)), (0, .ref h0), (3, .int hi), (4, .long a5), (6, .long b5), (8, .long c5)])) => ?_)
                  refine lv_goto (tgt := 173) hx hb dX12_canSum_232 (by decide) ?_
                  have hl : lv_has _ _ ([(0, .ref h0), (3, .int hi), (4, .long a5), (6, .long b5), (8, .long c5), (10, .int (s9 + 1))]) := lv_sub hl [1, 2, 3, 4, 5, 0] rfl
                  exact ih173_1 (s9 + 1) _ _ _ (by omega) (by omega) hP hD hS hl
                · have t_224 : (((((j2_s0).toUInt64 >>> (((s9 &&& 63) : Int32).toInt64.toUInt64 &&& Int64.toUInt64 63)).toInt64) &&& 1)).toInt = 1 := toL_nne c_224 rfl (by decide)
                  refine lv_iconst (v := 1) hx hb dX12_canSum_227 (by decide) ?_
                  refine W.widen (k := 0) (n := 0) (by decide +kernel) (by decide +kernel) ?_
                  exact W.zret (v := 1) hx hb hr rfl (fun t9_ ht hW => ⟨⟨1, (), rfl, by (try dsimp only); exact Or.inl rfl, by rw [ht]; exact hP, hD⟩, hS.F ht⟩) hS.2.2 dX12_canSum_228
    · have t_18 : ¬ ((i5 : Nat) : Int) ≥ ((hn : Nat) : Int) := toI_nge c_18 (nI_toInt (by omega)) (nI_toInt (by omega))
      refine lv_iload_n hx hb dX12_canSum_21 rfl (lv_at hl 1 rfl) ?_
      refine lv_iload hx hb dX12_canSum_22 (lv_at hl 7 rfl) ?_
      refine lv_ishr hx hb dX12_canSum_24 ?_
      refine lv_iconst (v := 1) hx hb dX12_canSum_25 (by decide) ?_
      refine lv_iand hx hb dX12_canSum_26 ?_
      refine lv_if_ne (tgt := 33) hx hb dX12_canSum_27 (by decide) (fun c_27 => ?_) (fun c_27 => ?_)
      · have t_27 : (((sI >>> ((nI i5) &&& 31)) &&& 1)).toInt ≠ 0 := toI_ne c_27 rfl (by decide)
        refine lv_lconst (v := 0) hx hb dX12_canSum_33 (by decide) ?_
        refine lv_lstore hx hb dX12_canSum_34 hl (by decide) rfl (fun ls (hl : lv_has ls _ ([(11, .long 0), (0, .ref h0), (1, .int sI), (2, .int lo), (3, .int hi), (4, .long a5), (6, .long b5), (8, .long c5), (10, .int (nI i5))])) => ?_)
        refine lv_lconst (v := 0) hx hb dX12_canSum_36 (by decide) ?_
        refine lv_lstore hx hb dX12_canSum_37 hl (by decide) rfl (fun ls (hl : lv_has ls _ ([(13, .long 0), (11, .long 0), (0, .ref h0), (1, .int sI), (2, .int lo), (3, .int hi), (4, .long a5), (6, .long b5), (8, .long c5), (10, .int (nI i5))])) => ?_)
        refine lv_lconst (v := 0) hx hb dX12_canSum_39 (by decide) ?_
        refine lv_lstore hx hb dX12_canSum_40 hl (by decide) rfl (fun ls (hl : lv_has ls _ ([(15, .long 0), (13, .long 0), (11, .long 0), (0, .ref h0), (1, .int sI), (2, .int lo), (3, .int hi), (4, .long a5), (6, .long b5), (8, .long c5), (10, .int (nI i5))])) => ?_)
        refine lv_iconst (v := 0) hx hb dX12_canSum_42 (by decide) ?_
        refine lv_istore hx hb dX12_canSum_43 hl (by decide) rfl (fun ls (hl : lv_has ls _ ([(17, .int 0), (15, .long 0), (13, .long 0), (11, .long 0), (0, .ref h0), (1, .int sI), (2, .int lo), (3, .int hi), (4, .long a5), (6, .long b5), (8, .long c5), (10, .int (nI i5))])) => ?_)
        have hl : lv_has _ _ ([(0, .ref h0), (1, .int sI), (2, .int lo), (3, .int hi), (4, .long a5), (6, .long b5), (8, .long c5), (10, .int (nI i5)), (11, .long 0), (13, .long 0), (15, .long 0), (17, .int (nI 0))]) := lv_sub hl [4, 5, 6, 7, 8, 9, 10, 11, 3, 2, 1, 0] rfl
        refine (fun (loop : ∀ (n9 : Nat) (v5 : Nat) (x5 : Int64) (y5 : Int64) (z5 : Int64) (H : Heap) (locs : List Loc) (ls : Array Slot), (v5 ≤ 16) →  (16 < v5 + n9) → va_P (dC, dI) vwCl (WR a k h0 vi vj vF vG) H → va_D A (WR a k h0 vi vj vF vG) → va_S A s.heap H locs → lv_has ls 18 [(0, .ref h0), (1, .int sI), (2, .int lo), (3, .int hi), (4, .long a5), (6, .long b5), (8, .long c5), (10, .int (nI i5)), (11, .long x5), (13, .long y5), (15, .long z5), (17, .int (nI v5))] → W p l e _ s m _ below meth c H locs 0 0 _ (F0 m 45 ls [])) => loop (17) 0 0 0 0 _ _ _ (by omega) (by omega) hP hD hS hl) ?_
        intro n9
        induction n9 with
        | zero => intro v5 x5 y5 z5 H locs ls hv5 hf9; exact False.elim (by omega)
        | succ n9 ih45_2 =>
          intro v5 x5 y5 z5 H locs ls hv5 hf45_2 hP hD hS hl
          refine lv_iload hx hb dX12_canSum_45 (lv_at hl 11 rfl) ?_
          refine lv_bipush (v := 16) hx hb dX12_canSum_47 (by decide) ?_
          refine lv_icmp_ge (tgt := 144) hx hb dX12_canSum_49 (by decide) (fun c_49 => ?_) (fun c_49 => ?_)
          · have t_49 : ((v5 : Nat) : Int) ≥ 16 := toI_ge c_49 (nI_toInt (by omega)) (by decide)
            refine lv_lload hx hb dX12_canSum_144 (lv_at hl 8 rfl) ?_
            refine lv_lstore hx hb dX12_canSum_146 hl (by decide) rfl (fun ls (hl : lv_has ls _ ([(4, .long x5), (0, .ref h0), (1, .int sI), (2, .int lo), (3, .int hi), (6, .long b5), (8, .long c5), (10, .int (nI i5)), (11, .long x5), (13, .long y5), (15, .long z5), (17, .int (nI v5))])) => ?_)
            refine lv_lload hx hb dX12_canSum_148 (lv_at hl 9 rfl) ?_
            refine lv_lstore hx hb dX12_canSum_150 hl (by decide) rfl (fun ls (hl : lv_has ls _ ([(6, .long y5), (4, .long x5), (0, .ref h0), (1, .int sI), (2, .int lo), (3, .int hi), (8, .long c5), (10, .int (nI i5)), (11, .long x5), (13, .long y5), (15, .long z5), (17, .int (nI v5))])) => ?_)
            refine lv_lload hx hb dX12_canSum_152 (lv_at hl 10 rfl) ?_
            refine lv_lstore hx hb dX12_canSum_154 hl (by decide) rfl (fun ls (hl : lv_has ls _ ([(8, .long z5), (6, .long y5), (4, .long x5), (0, .ref h0), (1, .int sI), (2, .int lo), (3, .int hi), (10, .int (nI i5)), (11, .long x5), (13, .long y5), (15, .long z5), (17, .int (nI v5))])) => ?_)
            refine lv_iinc (v := (nI (i5 + 1))) hx hb dX12_canSum_156 hl (k := 7) rfl (nI_add i5 1) (by decide) rfl (fun ls (hl : lv_has ls _ ([(10, .int (nI (i5 + 1))), (8, .long z5), (6, .long y5), (4, .long x5), (0, .ref h0), (1, .int sI), (2, .int lo), (3, .int hi), (11, .long x5), (13, .long y5), (15, .long z5), (17, .int (nI v5))])) => ?_)
            refine lv_goto (tgt := 12) hx hb dX12_canSum_159 (by decide) ?_
            have hl : lv_has _ _ ([(0, .ref h0), (1, .int sI), (2, .int lo), (3, .int hi), (4, .long x5), (6, .long y5), (8, .long z5), (10, .int (nI (i5 + 1)))]) := lv_sub hl [4, 5, 6, 7, 3, 2, 1, 0] rfl
            exact ih12 (i5 + 1) x5 y5 z5 _ _ _ (by omega) (by omega) hP hD hS hl
          · have t_49 : ¬ ((v5 : Nat) : Int) ≥ 16 := toI_nge c_49 (nI_toInt (by omega)) (by decide)
            refine lv_aload_n hx hb dX12_canSum_52 rfl (lv_at hl 0 rfl) ?_
            refine va_get (D := (dC, dI)) (ci := 12) (v := .ref (a 86)) (C := RX12) (T := TX12) (N := 163) (fs := fM (vS a vi vj)) hx hb hts iwsRX12_canSum_in12 hown hK hP 0 rfl rfl 139 (by decide) (hts (.fieldLink RX12 281 "OptimaWorksModel" "with" "[I") (by decide +kernel)) (fun _ h9 => h9) rfl dX12_canSum_53 ?_
            refine lv_iload hx hb dX12_canSum_56 (lv_at hl 7 rfl) ?_
            refine va_iald (cA := k 86) (n := 10) (f := (vF 86)) hx hb hK hP 87 86 (WR_get 86 (by decide)) (TR_get 86 (by decide)) (vp_in_nI (show i5 < 10 by omega) (by omega)) dX12_canSum_58 ?_
            refine lv_topi (fun y2 hy2 => ?_)
            obtain rfl : ((vF 86) i5) = y2 := (hy2.trans (by rw [nI_clamp (by omega)])).symm
            refine lv_iload hx hb dX12_canSum_59 (lv_at hl 11 rfl) ?_
            refine lv_ishr hx hb dX12_canSum_61 ?_
            refine lv_iconst (v := 1) hx hb dX12_canSum_62 (by decide) ?_
            refine lv_iand hx hb dX12_canSum_63 ?_
            refine lv_if_ne (tgt := 70) hx hb dX12_canSum_64 (by decide) (fun c_64 => ?_) (fun c_64 => ?_)
            · have t_64 : (((((vF 86) i5) >>> ((nI v5) &&& 31)) &&& 1)).toInt ≠ 0 := toI_ne c_64 rfl (by decide)
              refine lv_lload hx hb dX12_canSum_70 (lv_at hl 8 rfl) ?_
              refine lv_lload hx hb dX12_canSum_72 (lv_at hl 4 rfl) ?_
              refine lv_iload hx hb dX12_canSum_74 (lv_at hl 11 rfl) ?_
              refine lv_lshl hx hb dX12_canSum_76 rfl ?_
              refine lv_lor hx hb dX12_canSum_77 ?_
              refine lv_lstore hx hb dX12_canSum_78 hl (by decide) rfl (fun ls (hl : lv_has ls _ ([(11, .long (x5 ||| (a5 <<< (((nI v5) : Int32).toInt64 &&& 63)))), (0, .ref h0), (1, .int sI), (2, .int lo), (3, .int hi), (4, .long a5), (6, .long b5), (8, .long c5), (10, .int (nI i5)), (13, .long y5), (15, .long z5), (17, .int (nI v5))])) => ?_)
              refine lv_lload hx hb dX12_canSum_80 (lv_at hl 9 rfl) ?_
              refine lv_iload hx hb dX12_canSum_82 (lv_at hl 11 rfl) ?_
              refine W.cut (pc := 106) (fun H locs ls stk => ∃ (j3_s0 : Int64),  stk = [.long j3_s0, .long y5] ∧ va_P (dC, dI) vwCl (WR a k h0 vi vj vF vG) H ∧ va_D A (WR a k h0 vi vj vF vG) ∧ va_S A s.heap H locs ∧ lv_has ls 18 [(11, .long (x5 ||| (a5 <<< (((nI v5) : Int32).toInt64 &&& 63)))), (0, .ref h0), (1, .int sI), (2, .int lo), (3, .int hi), (4, .long a5), (6, .long b5), (8, .long c5), (10, .int (nI i5)), (13, .long y5), (15, .long z5), (17, .int (nI v5))]) (fun join3 => ?_) ?_
              · refine lv_if_ne (tgt := 92) hx hb dX12_canSum_84 (by decide) (fun c_84 => ?_) (fun c_84 => ?_)
                · have t_84 : ((v5 : Nat) : Int) ≠ 0 := toI_ne c_84 (nI_toInt (by omega)) (by decide)
                  refine lv_lload hx hb dX12_canSum_92 (lv_at hl 6 rfl) ?_
                  refine lv_iload hx hb dX12_canSum_94 (lv_at hl 11 rfl) ?_
                  refine lv_lshl hx hb dX12_canSum_96 rfl ?_
                  refine lv_lload hx hb dX12_canSum_97 (lv_at hl 5 rfl) ?_
                  refine lv_bipush (v := 64) hx hb dX12_canSum_99 (by decide) ?_
                  refine lv_iload hx hb dX12_canSum_101 (lv_at hl 11 rfl) ?_
                  refine lv_isub hx hb dX12_canSum_103 ?_
                  refine lv_lushr hx hb dX12_canSum_104 rfl ?_
                  refine lv_lor hx hb dX12_canSum_105 ?_
                  have hl : lv_has _ _ ([(11, .long (x5 ||| (a5 <<< (((nI v5) : Int32).toInt64 &&& 63)))), (0, .ref h0), (1, .int sI), (2, .int lo), (3, .int hi), (4, .long a5), (6, .long b5), (8, .long c5), (10, .int (nI i5)), (13, .long y5), (15, .long z5), (17, .int (nI v5))]) := lv_sub hl [0, 1, 2, 3, 4, 5, 6, 7, 8, 9, 10, 11] rfl
                  exact join3 _ _ _ _ ⟨((b5 <<< (((nI v5) : Int32).toInt64 &&& 63)) ||| (((a5).toUInt64 >>> (((64 - (nI v5)) : Int32).toInt64.toUInt64 &&& Int64.toUInt64 63)).toInt64)), rfl, hP, hD, hS, hl⟩
                · have t_84 : ((v5 : Nat) : Int) = 0 := toI_nne c_84 (nI_toInt (by omega)) (by decide)
                  refine lv_lload hx hb dX12_canSum_87 (lv_at hl 6 rfl) ?_
                  refine lv_goto (tgt := 106) hx hb dX12_canSum_89 (by decide) ?_
                  have hl : lv_has _ _ ([(11, .long (x5 ||| (a5 <<< (((nI v5) : Int32).toInt64 &&& 63)))), (0, .ref h0), (1, .int sI), (2, .int lo), (3, .int hi), (4, .long a5), (6, .long b5), (8, .long c5), (10, .int (nI i5)), (13, .long y5), (15, .long z5), (17, .int (nI v5))]) := lv_sub hl [0, 1, 2, 3, 4, 5, 6, 7, 8, 9, 10, 11] rfl
                  exact join3 _ _ _ _ ⟨b5, rfl, hP, hD, hS, hl⟩
              · rintro H locs ls stk ⟨j3_s0, rfl, hP, hD, hS, hl⟩
                refine lv_lor hx hb dX12_canSum_106 ?_
                refine lv_lstore hx hb dX12_canSum_107 hl (by decide) rfl (fun ls (hl : lv_has ls _ ([(13, .long (y5 ||| j3_s0)), (11, .long (x5 ||| (a5 <<< (((nI v5) : Int32).toInt64 &&& 63)))), (0, .ref h0), (1, .int sI), (2, .int lo), (3, .int hi), (4, .long a5), (6, .long b5), (8, .long c5), (10, .int (nI i5)), (15, .long z5), (17, .int (nI v5))])) => ?_)
                refine lv_lload hx hb dX12_canSum_109 (lv_at hl 10 rfl) ?_
                refine lv_iload hx hb dX12_canSum_111 (lv_at hl 11 rfl) ?_
                refine W.cut (pc := 135) (fun H locs ls stk => ∃ (j4_s0 : Int64),  stk = [.long j4_s0, .long z5] ∧ va_P (dC, dI) vwCl (WR a k h0 vi vj vF vG) H ∧ va_D A (WR a k h0 vi vj vF vG) ∧ va_S A s.heap H locs ∧ lv_has ls 18 [(13, .long (y5 ||| j3_s0)), (11, .long (x5 ||| (a5 <<< (((nI v5) : Int32).toInt64 &&& 63)))), (0, .ref h0), (1, .int sI), (2, .int lo), (3, .int hi), (4, .long a5), (6, .long b5), (8, .long c5), (10, .int (nI i5)), (15, .long z5), (17, .int (nI v5))]) (fun join4 => ?_) ?_
                · refine lv_if_ne (tgt := 121) hx hb dX12_canSum_113 (by decide) (fun c_113 => ?_) (fun c_113 => ?_)
                  · have t_113 : ((v5 : Nat) : Int) ≠ 0 := toI_ne c_113 (nI_toInt (by omega)) (by decide)
                    refine lv_lload hx hb dX12_canSum_121 (lv_at hl 8 rfl) ?_
                    refine lv_iload hx hb dX12_canSum_123 (lv_at hl 11 rfl) ?_
                    refine lv_lshl hx hb dX12_canSum_125 rfl ?_
                    refine lv_lload hx hb dX12_canSum_126 (lv_at hl 7 rfl) ?_
                    refine lv_bipush (v := 64) hx hb dX12_canSum_128 (by decide) ?_
                    refine lv_iload hx hb dX12_canSum_130 (lv_at hl 11 rfl) ?_
                    refine lv_isub hx hb dX12_canSum_132 ?_
                    refine lv_lushr hx hb dX12_canSum_133 rfl ?_
                    refine lv_lor hx hb dX12_canSum_134 ?_
                    have hl : lv_has _ _ ([(13, .long (y5 ||| j3_s0)), (11, .long (x5 ||| (a5 <<< (((nI v5) : Int32).toInt64 &&& 63)))), (0, .ref h0), (1, .int sI), (2, .int lo), (3, .int hi), (4, .long a5), (6, .long b5), (8, .long c5), (10, .int (nI i5)), (15, .long z5), (17, .int (nI v5))]) := lv_sub hl [0, 1, 2, 3, 4, 5, 6, 7, 8, 9, 10, 11] rfl
                    exact join4 _ _ _ _ ⟨((c5 <<< (((nI v5) : Int32).toInt64 &&& 63)) ||| (((b5).toUInt64 >>> (((64 - (nI v5)) : Int32).toInt64.toUInt64 &&& Int64.toUInt64 63)).toInt64)), rfl, hP, hD, hS, hl⟩
                  · have t_113 : ((v5 : Nat) : Int) = 0 := toI_nne c_113 (nI_toInt (by omega)) (by decide)
                    refine lv_lload hx hb dX12_canSum_116 (lv_at hl 8 rfl) ?_
                    refine lv_goto (tgt := 135) hx hb dX12_canSum_118 (by decide) ?_
                    have hl : lv_has _ _ ([(13, .long (y5 ||| j3_s0)), (11, .long (x5 ||| (a5 <<< (((nI v5) : Int32).toInt64 &&& 63)))), (0, .ref h0), (1, .int sI), (2, .int lo), (3, .int hi), (4, .long a5), (6, .long b5), (8, .long c5), (10, .int (nI i5)), (15, .long z5), (17, .int (nI v5))]) := lv_sub hl [0, 1, 2, 3, 4, 5, 6, 7, 8, 9, 10, 11] rfl
                    exact join4 _ _ _ _ ⟨c5, rfl, hP, hD, hS, hl⟩
                · rintro H locs ls stk ⟨j4_s0, rfl, hP, hD, hS, hl⟩
                  refine lv_lor hx hb dX12_canSum_135 ?_
                  refine lv_lstore hx hb dX12_canSum_136 hl (by decide) rfl (fun ls (hl : lv_has ls _ ([(15, .long (z5 ||| j4_s0)), (13, .long (y5 ||| j3_s0)), (11, .long (x5 ||| (a5 <<< (((nI v5) : Int32).toInt64 &&& 63)))), (0, .ref h0), (1, .int sI), (2, .int lo), (3, .int hi), (4, .long a5), (6, .long b5), (8, .long c5), (10, .int (nI i5)), (17, .int (nI v5))])) => ?_)
                  refine lv_iinc (v := (nI (v5 + 1))) hx hb dX12_canSum_138 hl (k := 11) rfl (nI_add v5 1) (by decide) rfl (fun ls (hl : lv_has ls _ ([(17, .int (nI (v5 + 1))), (15, .long (z5 ||| j4_s0)), (13, .long (y5 ||| j3_s0)), (11, .long (x5 ||| (a5 <<< (((nI v5) : Int32).toInt64 &&& 63)))), (0, .ref h0), (1, .int sI), (2, .int lo), (3, .int hi), (4, .long a5), (6, .long b5), (8, .long c5), (10, .int (nI i5))])) => ?_)
                  refine lv_goto (tgt := 45) hx hb dX12_canSum_141 (by decide) ?_
                  have hl : lv_has _ _ ([(0, .ref h0), (1, .int sI), (2, .int lo), (3, .int hi), (4, .long a5), (6, .long b5), (8, .long c5), (10, .int (nI i5)), (11, .long (x5 ||| (a5 <<< (((nI v5) : Int32).toInt64 &&& 63)))), (13, .long (y5 ||| j3_s0)), (15, .long (z5 ||| j4_s0)), (17, .int (nI (v5 + 1)))]) := lv_sub hl [4, 5, 6, 7, 8, 9, 10, 11, 3, 2, 1, 0] rfl
                  exact ih45_2 (v5 + 1) (x5 ||| (a5 <<< (((nI v5) : Int32).toInt64 &&& 63))) (y5 ||| j3_s0) (z5 ||| j4_s0) _ _ _ (by omega) (by omega) hP hD hS hl
            · have t_64 : (((((vF 86) i5) >>> ((nI v5) &&& 31)) &&& 1)).toInt = 0 := toI_nne c_64 rfl (by decide)
              refine lv_goto (tgt := 138) hx hb dX12_canSum_67 (by decide) ?_
              refine lv_iinc (v := (nI (v5 + 1))) hx hb dX12_canSum_138 hl (k := 11) rfl (nI_add v5 1) (by decide) rfl (fun ls (hl : lv_has ls _ ([(17, .int (nI (v5 + 1))), (0, .ref h0), (1, .int sI), (2, .int lo), (3, .int hi), (4, .long a5), (6, .long b5), (8, .long c5), (10, .int (nI i5)), (11, .long x5), (13, .long y5), (15, .long z5)])) => ?_)
              refine lv_goto (tgt := 45) hx hb dX12_canSum_141 (by decide) ?_
              have hl : lv_has _ _ ([(0, .ref h0), (1, .int sI), (2, .int lo), (3, .int hi), (4, .long a5), (6, .long b5), (8, .long c5), (10, .int (nI i5)), (11, .long x5), (13, .long y5), (15, .long z5), (17, .int (nI (v5 + 1)))]) := lv_sub hl [1, 2, 3, 4, 5, 6, 7, 8, 9, 10, 11, 0] rfl
              exact ih45_2 (v5 + 1) x5 y5 z5 _ _ _ (by omega) (by omega) hP hD hS hl
      · have t_27 : (((sI >>> ((nI i5) &&& 31)) &&& 1)).toInt = 0 := toI_nne c_27 rfl (by decide)
        refine lv_goto (tgt := 156) hx hb dX12_canSum_30 (by decide) ?_
        refine lv_iinc (v := (nI (i5 + 1))) hx hb dX12_canSum_156 hl (k := 7) rfl (nI_add i5 1) (by decide) rfl (fun ls (hl : lv_has ls _ ([(10, .int (nI (i5 + 1))), (0, .ref h0), (1, .int sI), (2, .int lo), (3, .int hi), (4, .long a5), (6, .long b5), (8, .long c5)])) => ?_)
        refine lv_goto (tgt := 12) hx hb dX12_canSum_159 (by decide) ?_
        have hl : lv_has _ _ ([(0, .ref h0), (1, .int sI), (2, .int lo), (3, .int hi), (4, .long a5), (6, .long b5), (8, .long c5), (10, .int (nI (i5 + 1)))]) := lv_sub hl [1, 2, 3, 4, 5, 6, 7, 0] rfl
        exact ih12 (i5 + 1) a5 b5 c5 _ _ _ (by omega) (by omega) hP hD hS hl
theorem dX12_must_0 : decode cX12_must 0 = .ok (.iconst 0, 1) := dk_3 (by decide +kernel)
theorem dX12_must_1 : decode cX12_must 1 = .ok (.istore_n 3, 1) := dk_62 (by decide +kernel)
theorem dX12_must_2 : decode cX12_must 2 = .ok (.iconst 0, 1) := dk_3 (by decide +kernel)
theorem dX12_must_3 : decode cX12_must 3 = .ok (.istore 4, 2) := dk_54 (by decide +kernel)
theorem dX12_must_5 : decode cX12_must 5 = .ok (.iload 4, 2) := dk_21 (by decide +kernel)
theorem dX12_must_7 : decode cX12_must 7 = .ok (.aload_n 0, 1) := dk_42 (by decide +kernel)
theorem dX12_must_8 : decode cX12_must 8 = .ok (.getfield 978, 3) := dk_180 (by decide +kernel)
theorem dX12_must_11 : decode cX12_must 11 = .ok (.if_icmp .ge 38, 3) := dk_162 (by decide +kernel)
theorem dX12_must_14 : decode cX12_must 14 = .ok (.iload_n 3, 1) := dk_29 (by decide +kernel)
theorem dX12_must_15 : decode cX12_must 15 = .ok (.iload_n 1, 1) := dk_27 (by decide +kernel)
theorem dX12_must_16 : decode cX12_must 16 = .ok (.iload 4, 2) := dk_21 (by decide +kernel)
theorem dX12_must_18 : decode cX12_must 18 = .ok (.ishr, 1) := dk_122 (by decide +kernel)
theorem dX12_must_19 : decode cX12_must 19 = .ok (.iconst 1, 1) := dk_4 (by decide +kernel)
theorem dX12_must_20 : decode cX12_must 20 = .ok (.iand, 1) := dk_126 (by decide +kernel)
theorem dX12_must_21 : decode cX12_must 21 = .ok (.iconst 1, 1) := dk_4 (by decide +kernel)
theorem dX12_must_22 : decode cX12_must 22 = .ok (.if_icmp .ne 18, 3) := dk_160 (by decide +kernel)
theorem dX12_must_25 : decode cX12_must 25 = .ok (.aload_n 0, 1) := dk_42 (by decide +kernel)
theorem dX12_must_26 : decode cX12_must 26 = .ok (.getfield 281, 3) := dk_180 (by decide +kernel)
theorem dX12_must_29 : decode cX12_must 29 = .ok (.iload 4, 2) := dk_21 (by decide +kernel)
theorem dX12_must_31 : decode cX12_must 31 = .ok (.iaload, 1) := dk_46 (by decide +kernel)
theorem dX12_must_32 : decode cX12_must 32 = .ok (.iload_n 2, 1) := dk_28 (by decide +kernel)
theorem dX12_must_33 : decode cX12_must 33 = .ok (.if_icmp .ne 7, 3) := dk_160 (by decide +kernel)
theorem dX12_must_36 : decode cX12_must 36 = .ok (.iconst 1, 1) := dk_4 (by decide +kernel)
theorem dX12_must_37 : decode cX12_must 37 = .ok (.goto 4, 3) := dk_167 (by decide +kernel)
theorem dX12_must_40 : decode cX12_must 40 = .ok (.iconst 0, 1) := dk_3 (by decide +kernel)
theorem dX12_must_41 : decode cX12_must 41 = .ok (.iadd, 1) := dk_96 (by decide +kernel)
theorem dX12_must_42 : decode cX12_must 42 = .ok (.istore_n 3, 1) := dk_62 (by decide +kernel)
theorem dX12_must_43 : decode cX12_must 43 = .ok (.iinc 4 1, 3) := dk_132 (by decide +kernel)
theorem dX12_must_46 : decode cX12_must 46 = .ok (.goto (-41), 3) := dk_167 (by decide +kernel)
theorem dX12_must_49 : decode cX12_must 49 = .ok (.iload_n 3, 1) := dk_29 (by decide +kernel)
theorem dX12_must_50 : decode cX12_must 50 = .ok (.ireturn, 1) := dk_172 (by decide +kernel)
def wsRX12_must : List Cond := .code yX12_must cX12_must 5 (some .int) :: ([.fieldLink RX12 978 "OptimaWorksModel" "holders" "I", .fieldLink RX12 281 "OptimaWorksModel" "with" "[I"] ++ wsX120)
theorem iwsRX12_must_in12 : ∀ w ∈ wsX120, w ∈ wsRX12_must := fun _ h => List.mem_cons_of_mem _ (List.mem_append_right _ h)
theorem gdwsRX12_must : wsRX12_must.all goodWord = true := gdC rfl (gdA (by decide +kernel : ([.fieldLink RX12 978 "OptimaWorksModel" "holders" "I", .fieldLink RX12 281 "OptimaWorksModel" "with" "[I"] : List Cond).all goodWord = true) gdwsX120)
set_option maxHeartbeats 4000000 in
set_option maxRecDepth 100000 in
/-- must(set, bit) -/
theorem r_X12_must (l : Launch) (dC : Nat → ClassId) (dI : Nat → Nat → Nat) (a : Nat → Nat) (k : Nat → ClassId) (h0 : Nat) (vi : Nat → Int32) (vj : Nat → Int64) (vF : Nat → Nat → Int32) (vG : Nat → Nat → Int64) (sI : Int32) (bI : Int32) (hn : Nat) (hhn : vi 128 = nI hn) (hhn10 : hn ≤ 10) (sz : Nat) : Met l yX12_must wsRX12_must ({ frames := 0, cells := 0, slots := 0, locals := 0 }) (va_Pc [.ref h0, .int sI, .int bI] (fun U => U.heap.size = sz ∧ va_P (dC, dI) vwCl (WR a k h0 vi vj vF vG) U.heap ∧ va_K (dC, dI) vwCl (tX12 k) U ∧ va_D (fun _ => True) (WR a k h0 vi vj vF vG))) (va_Qi (fun (r : Int32) (u : Unit) => True) (fun (u : Unit) t => va_P (dC, dI) vwCl (WR a k h0 vi vj vF vG) t.heap ∧ va_D (va_A (WR a k h0 vi vj vF vG) sz) (WR a k h0 vi vj vF vG)) (va_A (WR a k h0 vi vj vF vG) sz)) 0 0 (va_A (WR a k h0 vi vj vF vG) sz) := by
  refine Met.ofW (cc := cX12_must) (maxL := 5) (ret := (some .int)) (by decide) rfl ?_
  intro p e s m args below meth c s₁ B hml hv
  obtain ⟨rfl, hsz, hP, hK, hD0⟩ := hv
  have hx := B.exec
  have hb := B.bytes
  have hr := B.returns
  have hts := atoms_spec (ws := wsRX12_must) B.pre
  have hown : s.vm.findClass RX12 = some m.cls := findClass_of_methodNamed B.named
  have hlocks := B.notSynchronized
  subst hsz
  have hD := hD0.self (sz := s.heap.size)
  generalize hAe : va_A (WR a k h0 vi vj vF vG) s.heap.size = A at hD ⊢
  have hA : ∀ q : Nat, s.heap.size ≤ q → A q := fun q h => by rw [← hAe]; exact Or.inr h
  have hS : va_S A s.heap s.heap [] := va_S.rf
  have hl := lv_entry ([.ref h0, .int sI, .int bI]) (n := 5) (Nat.le_of_ble_eq_true rfl)
  rw [lg_entry_eq]
  generalize (lg_sl ([.ref h0, .int sI, .int bI]) ++ List.replicate (5 - (lg_sl ([.ref h0, .int sI, .int bI])).length) Slot.unset).toArray = ls at hl ⊢
  have hl : lv_has ls 5 [(0, .ref h0), (1, .int sI), (2, .int bI)] := hl
  refine lv_iconst (v := 0) hx hb dX12_must_0 (by decide) ?_
  refine lv_istore_n hx hb dX12_must_1 rfl hl (by decide) rfl (fun ls (hl : lv_has ls _ ([(3, .int 0), (0, .ref h0), (1, .int sI), (2, .int bI)])) => ?_)
  refine lv_iconst (v := 0) hx hb dX12_must_2 (by decide) ?_
  refine lv_istore hx hb dX12_must_3 hl (by decide) rfl (fun ls (hl : lv_has ls _ ([(4, .int 0), (3, .int 0), (0, .ref h0), (1, .int sI), (2, .int bI)])) => ?_)
  have hl : lv_has _ _ ([(0, .ref h0), (1, .int sI), (2, .int bI), (3, .int 0), (4, .int (nI 0))]) := lv_sub hl [2, 3, 4, 1, 0] rfl
  refine (fun (loop : ∀ (n9 : Nat) (i5 : Nat) (nq : Int32) (H : Heap) (locs : List Loc) (ls : Array Slot), (i5 ≤ hn) →  (hn < i5 + n9) → va_P (dC, dI) vwCl (WR a k h0 vi vj vF vG) H → va_D A (WR a k h0 vi vj vF vG) → va_S A s.heap H locs → lv_has ls 5 [(0, .ref h0), (1, .int sI), (2, .int bI), (3, .int nq), (4, .int (nI i5))] → W p l e _ s m _ below meth c H locs 0 0 _ (F0 m 5 ls [])) => loop (hn + 1) 0 0 _ _ _ (by omega) (by omega) hP hD hS hl) ?_
  intro n9
  induction n9 with
  | zero => intro i5 nq H locs ls hi5 hf9; exact False.elim (by omega)
  | succ n9 ih5 =>
    intro i5 nq H locs ls hi5 hf5 hP hD hS hl
    refine lv_iload hx hb dX12_must_5 (lv_at hl 4 rfl) ?_
    refine lv_aload_n hx hb dX12_must_7 rfl (lv_at hl 0 rfl) ?_
    refine va_get (D := (dC, dI)) (ci := 12) (v := .int (vi 128)) (C := RX12) (T := TX12) (N := 163) (fs := fM (vS a vi vj)) hx hb hts iwsRX12_must_in12 hown hK hP 0 rfl rfl 128 (by decide) (hts (.fieldLink RX12 978 "OptimaWorksModel" "holders" "I") (by decide +kernel)) (fun _ h9 => h9) rfl dX12_must_8 ?_
    refine lv_topi (fun y1 hy1 => ?_)
    obtain rfl : (nI hn) = y1 := (hy1.trans (hhn)).symm
    refine lv_icmp_ge (tgt := 49) hx hb dX12_must_11 (by decide) (fun c_11 => ?_) (fun c_11 => ?_)
    · have t_11 : ((i5 : Nat) : Int) ≥ ((hn : Nat) : Int) := toI_ge c_11 (nI_toInt (by omega)) (nI_toInt (by omega))
      refine lv_iload_n hx hb dX12_must_49 rfl (lv_at hl 3 rfl) ?_
      refine W.widen (k := 0) (n := 0) (by decide +kernel) (by decide +kernel) ?_
      exact W.iret (v := nq) hx hb hr (fun t9_ ht hW => ⟨⟨nq, (), rfl, trivial, by rw [ht]; exact hP, hD⟩, hS.F ht⟩) hS.2.2 dX12_must_50
    · have t_11 : ¬ ((i5 : Nat) : Int) ≥ ((hn : Nat) : Int) := toI_nge c_11 (nI_toInt (by omega)) (nI_toInt (by omega))
      refine lv_iload_n hx hb dX12_must_14 rfl (lv_at hl 3 rfl) ?_
      refine lv_iload_n hx hb dX12_must_15 rfl (lv_at hl 1 rfl) ?_
      refine lv_iload hx hb dX12_must_16 (lv_at hl 4 rfl) ?_
      refine lv_ishr hx hb dX12_must_18 ?_
      refine lv_iconst (v := 1) hx hb dX12_must_19 (by decide) ?_
      refine lv_iand hx hb dX12_must_20 ?_
      refine lv_iconst (v := 1) hx hb dX12_must_21 (by decide) ?_
      refine W.cut (pc := 41) (fun H locs ls stk => ∃ (j1_s0 : Int32),  stk = [.int j1_s0, .int nq] ∧ va_P (dC, dI) vwCl (WR a k h0 vi vj vF vG) H ∧ va_D A (WR a k h0 vi vj vF vG) ∧ va_S A s.heap H locs ∧ lv_has ls 5 [(0, .ref h0), (1, .int sI), (2, .int bI), (3, .int nq), (4, .int (nI i5))]) (fun join1 => ?_) ?_
      · refine lv_icmp_ne (tgt := 40) hx hb dX12_must_22 (by decide) (fun c_22 => ?_) (fun c_22 => ?_)
        · have t_22 : (((sI >>> ((nI i5) &&& 31)) &&& 1)).toInt ≠ 1 := toI_ne c_22 rfl (by decide)
          refine lv_iconst (v := 0) hx hb dX12_must_40 (by decide) ?_
          have hl : lv_has _ _ ([(0, .ref h0), (1, .int sI), (2, .int bI), (3, .int nq), (4, .int (nI i5))]) := lv_sub hl [0, 1, 2, 3, 4] rfl
          exact join1 _ _ _ _ ⟨0, rfl, hP, hD, hS, hl⟩
        · have t_22 : (((sI >>> ((nI i5) &&& 31)) &&& 1)).toInt = 1 := toI_nne c_22 rfl (by decide)
          refine lv_aload_n hx hb dX12_must_25 rfl (lv_at hl 0 rfl) ?_
          refine va_get (D := (dC, dI)) (ci := 12) (v := .ref (a 86)) (C := RX12) (T := TX12) (N := 163) (fs := fM (vS a vi vj)) hx hb hts iwsRX12_must_in12 hown hK hP 0 rfl rfl 139 (by decide) (hts (.fieldLink RX12 281 "OptimaWorksModel" "with" "[I") (by decide +kernel)) (fun _ h9 => h9) rfl dX12_must_26 ?_
          refine lv_iload hx hb dX12_must_29 (lv_at hl 4 rfl) ?_
          refine va_iald (cA := k 86) (n := 10) (f := (vF 86)) hx hb hK hP 87 86 (WR_get 86 (by decide)) (TR_get 86 (by decide)) (vp_in_nI (show i5 < 10 by omega) (by omega)) dX12_must_31 ?_
          refine lv_topi (fun y2 hy2 => ?_)
          obtain rfl : ((vF 86) i5) = y2 := (hy2.trans (by rw [nI_clamp (by omega)])).symm
          refine lv_iload_n hx hb dX12_must_32 rfl (lv_at hl 2 rfl) ?_
          refine lv_icmp_ne (tgt := 40) hx hb dX12_must_33 (by decide) (fun c_33 => ?_) (fun c_33 => ?_)
          · have t_33 : (((vF 86) i5)).toInt ≠ (bI).toInt := toI_ne c_33 rfl rfl
            refine lv_iconst (v := 0) hx hb dX12_must_40 (by decide) ?_
            have hl : lv_has _ _ ([(0, .ref h0), (1, .int sI), (2, .int bI), (3, .int nq), (4, .int (nI i5))]) := lv_sub hl [0, 1, 2, 3, 4] rfl
            exact join1 _ _ _ _ ⟨0, rfl, hP, hD, hS, hl⟩
          · have t_33 : (((vF 86) i5)).toInt = (bI).toInt := toI_nne c_33 rfl rfl
            refine lv_iconst (v := 1) hx hb dX12_must_36 (by decide) ?_
            refine lv_goto (tgt := 41) hx hb dX12_must_37 (by decide) ?_
            have hl : lv_has _ _ ([(0, .ref h0), (1, .int sI), (2, .int bI), (3, .int nq), (4, .int (nI i5))]) := lv_sub hl [0, 1, 2, 3, 4] rfl
            exact join1 _ _ _ _ ⟨1, rfl, hP, hD, hS, hl⟩
      · rintro H locs ls stk ⟨j1_s0, rfl, hP, hD, hS, hl⟩
        refine lv_iadd hx hb dX12_must_41 ?_
        refine lv_istore_n hx hb dX12_must_42 rfl hl (by decide) rfl (fun ls (hl : lv_has ls _ ([(3, .int (nq + j1_s0)), (0, .ref h0), (1, .int sI), (2, .int bI), (4, .int (nI i5))])) => ?_)
        refine lv_iinc (v := (nI (i5 + 1))) hx hb dX12_must_43 hl (k := 4) rfl (nI_add i5 1) (by decide) rfl (fun ls (hl : lv_has ls _ ([(4, .int (nI (i5 + 1))), (3, .int (nq + j1_s0)), (0, .ref h0), (1, .int sI), (2, .int bI)])) => ?_)
        refine lv_goto (tgt := 5) hx hb dX12_must_46 (by decide) ?_
        have hl : lv_has _ _ ([(0, .ref h0), (1, .int sI), (2, .int bI), (3, .int (nq + j1_s0)), (4, .int (nI (i5 + 1)))]) := lv_sub hl [2, 3, 4, 1, 0] rfl
        exact ih5 (i5 + 1) (nq + j1_s0) _ _ _ (by omega) (by omega) hP hD hS hl
theorem dX12_canPair_0 : decode cX12_canPair 0 = .ok (.aload_n 0, 1) := dk_42 (by decide +kernel)
theorem dX12_canPair_1 : decode cX12_canPair 1 = .ok (.getfield 266, 3) := dk_180 (by decide +kernel)
theorem dX12_canPair_4 : decode cX12_canPair 4 = .ok (.iload_n 1, 1) := dk_27 (by decide +kernel)
theorem dX12_canPair_5 : decode cX12_canPair 5 = .ok (.iaload, 1) := dk_46 (by decide +kernel)
theorem dX12_canPair_6 : decode cX12_canPair 6 = .ok (.istore_n 2, 1) := dk_61 (by decide +kernel)
theorem dX12_canPair_7 : decode cX12_canPair 7 = .ok (.aload_n 0, 1) := dk_42 (by decide +kernel)
theorem dX12_canPair_8 : decode cX12_canPair 8 = .ok (.getfield 269, 3) := dk_180 (by decide +kernel)
theorem dX12_canPair_11 : decode cX12_canPair 11 = .ok (.iload_n 1, 1) := dk_27 (by decide +kernel)
theorem dX12_canPair_12 : decode cX12_canPair 12 = .ok (.iaload, 1) := dk_46 (by decide +kernel)
theorem dX12_canPair_13 : decode cX12_canPair 13 = .ok (.istore_n 3, 1) := dk_62 (by decide +kernel)
theorem dX12_canPair_14 : decode cX12_canPair 14 = .ok (.iconst 0, 1) := dk_3 (by decide +kernel)
theorem dX12_canPair_15 : decode cX12_canPair 15 = .ok (.istore 4, 2) := dk_54 (by decide +kernel)
theorem dX12_canPair_17 : decode cX12_canPair 17 = .ok (.iload 4, 2) := dk_21 (by decide +kernel)
theorem dX12_canPair_19 : decode cX12_canPair 19 = .ok (.bipush 16, 2) := dk_16 (by decide +kernel)
theorem dX12_canPair_21 : decode cX12_canPair 21 = .ok (.if_icmp .ge 48, 3) := dk_162 (by decide +kernel)
theorem dX12_canPair_24 : decode cX12_canPair 24 = .ok (.aload_n 0, 1) := dk_42 (by decide +kernel)
theorem dX12_canPair_25 : decode cX12_canPair 25 = .ok (.getfield 281, 3) := dk_180 (by decide +kernel)
theorem dX12_canPair_28 : decode cX12_canPair 28 = .ok (.iload_n 2, 1) := dk_28 (by decide +kernel)
theorem dX12_canPair_29 : decode cX12_canPair 29 = .ok (.iaload, 1) := dk_46 (by decide +kernel)
theorem dX12_canPair_30 : decode cX12_canPair 30 = .ok (.iload 4, 2) := dk_21 (by decide +kernel)
theorem dX12_canPair_32 : decode cX12_canPair 32 = .ok (.ishr, 1) := dk_122 (by decide +kernel)
theorem dX12_canPair_33 : decode cX12_canPair 33 = .ok (.iconst 1, 1) := dk_4 (by decide +kernel)
theorem dX12_canPair_34 : decode cX12_canPair 34 = .ok (.iand, 1) := dk_126 (by decide +kernel)
theorem dX12_canPair_35 : decode cX12_canPair 35 = .ok (.iconst 1, 1) := dk_4 (by decide +kernel)
theorem dX12_canPair_36 : decode cX12_canPair 36 = .ok (.if_icmp .ne 27, 3) := dk_160 (by decide +kernel)
theorem dX12_canPair_39 : decode cX12_canPair 39 = .ok (.aload_n 0, 1) := dk_42 (by decide +kernel)
theorem dX12_canPair_40 : decode cX12_canPair 40 = .ok (.getfield 281, 3) := dk_180 (by decide +kernel)
theorem dX12_canPair_43 : decode cX12_canPair 43 = .ok (.iload_n 3, 1) := dk_29 (by decide +kernel)
theorem dX12_canPair_44 : decode cX12_canPair 44 = .ok (.iaload, 1) := dk_46 (by decide +kernel)
theorem dX12_canPair_45 : decode cX12_canPair 45 = .ok (.aload_n 0, 1) := dk_42 (by decide +kernel)
theorem dX12_canPair_46 : decode cX12_canPair 46 = .ok (.getfield 275, 3) := dk_180 (by decide +kernel)
theorem dX12_canPair_49 : decode cX12_canPair 49 = .ok (.bipush 16, 2) := dk_16 (by decide +kernel)
theorem dX12_canPair_51 : decode cX12_canPair 51 = .ok (.iload_n 1, 1) := dk_27 (by decide +kernel)
theorem dX12_canPair_52 : decode cX12_canPair 52 = .ok (.imul, 1) := dk_104 (by decide +kernel)
theorem dX12_canPair_53 : decode cX12_canPair 53 = .ok (.iload 4, 2) := dk_21 (by decide +kernel)
theorem dX12_canPair_55 : decode cX12_canPair 55 = .ok (.iadd, 1) := dk_96 (by decide +kernel)
theorem dX12_canPair_56 : decode cX12_canPair 56 = .ok (.iaload, 1) := dk_46 (by decide +kernel)
theorem dX12_canPair_57 : decode cX12_canPair 57 = .ok (.iand, 1) := dk_126 (by decide +kernel)
theorem dX12_canPair_58 : decode cX12_canPair 58 = .ok (.ifCond .eq 5, 3) := dk_153 (by decide +kernel)
theorem dX12_canPair_61 : decode cX12_canPair 61 = .ok (.iconst 1, 1) := dk_4 (by decide +kernel)
theorem dX12_canPair_62 : decode cX12_canPair 62 = .ok (.ireturn, 1) := dk_172 (by decide +kernel)
theorem dX12_canPair_63 : decode cX12_canPair 63 = .ok (.iinc 4 1, 3) := dk_132 (by decide +kernel)
theorem dX12_canPair_66 : decode cX12_canPair 66 = .ok (.goto (-49), 3) := dk_167 (by decide +kernel)
theorem dX12_canPair_69 : decode cX12_canPair 69 = .ok (.iconst 0, 1) := dk_3 (by decide +kernel)
theorem dX12_canPair_70 : decode cX12_canPair 70 = .ok (.ireturn, 1) := dk_172 (by decide +kernel)
def wsRX12_canPair : List Cond := .code yX12_canPair cX12_canPair 5 (some .boolean) :: ([.fieldLink RX12 266 "OptimaWorksModel" "ruleA" "[I", .fieldLink RX12 269 "OptimaWorksModel" "ruleB" "[I", .fieldLink RX12 281 "OptimaWorksModel" "with" "[I", .fieldLink RX12 275 "OptimaWorksModel" "rulePairs" "[I"] ++ wsX120)
theorem iwsRX12_canPair_in12 : ∀ w ∈ wsX120, w ∈ wsRX12_canPair := fun _ h => List.mem_cons_of_mem _ (List.mem_append_right _ h)
theorem gdwsRX12_canPair : wsRX12_canPair.all goodWord = true := gdC rfl (gdA (by decide +kernel : ([.fieldLink RX12 266 "OptimaWorksModel" "ruleA" "[I", .fieldLink RX12 269 "OptimaWorksModel" "ruleB" "[I", .fieldLink RX12 281 "OptimaWorksModel" "with" "[I", .fieldLink RX12 275 "OptimaWorksModel" "rulePairs" "[I"] : List Cond).all goodWord = true) gdwsX120)
set_option maxHeartbeats 4000000 in
set_option maxRecDepth 100000 in
/-- canPair(r) -/
theorem r_X12_canPair (l : Launch) (dC : Nat → ClassId) (dI : Nat → Nat → Nat) (a : Nat → Nat) (k : Nat → ClassId) (h0 : Nat) (vi : Nat → Int32) (vj : Nat → Int64) (vF : Nat → Nat → Int32) (vG : Nat → Nat → Int64) (rN : Nat) (xN : Nat) (yN : Nat) (hrN : rN < 12) (hxN : xN < 10) (hyN : yN < 10) (eA : vF 81 rN = nI xN) (eB : vF 82 rN = nI yN) (sz : Nat) : Met l yX12_canPair wsRX12_canPair ({ frames := 0, cells := 0, slots := 0, locals := 0 }) (va_Pc [.ref h0, .int (nI rN)] (fun U => U.heap.size = sz ∧ va_P (dC, dI) vwCl (WR a k h0 vi vj vF vG) U.heap ∧ va_K (dC, dI) vwCl (tX12 k) U ∧ va_D (fun _ => True) (WR a k h0 vi vj vF vG))) (va_Qi (fun (r : Int32) (u : Unit) => (r = 1) ∨ (r = 0)) (fun (u : Unit) t => va_P (dC, dI) vwCl (WR a k h0 vi vj vF vG) t.heap ∧ va_D (va_A (WR a k h0 vi vj vF vG) sz) (WR a k h0 vi vj vF vG)) (va_A (WR a k h0 vi vj vF vG) sz)) 0 0 (va_A (WR a k h0 vi vj vF vG) sz) := by
  refine Met.ofW (cc := cX12_canPair) (maxL := 5) (ret := (some .boolean)) (by decide) rfl ?_
  intro p e s m args below meth c s₁ B hml hv
  obtain ⟨rfl, hsz, hP, hK, hD0⟩ := hv
  have hx := B.exec
  have hb := B.bytes
  have hr := B.returns
  have hts := atoms_spec (ws := wsRX12_canPair) B.pre
  have hown : s.vm.findClass RX12 = some m.cls := findClass_of_methodNamed B.named
  have hlocks := B.notSynchronized
  subst hsz
  have hD := hD0.self (sz := s.heap.size)
  generalize hAe : va_A (WR a k h0 vi vj vF vG) s.heap.size = A at hD ⊢
  have hA : ∀ q : Nat, s.heap.size ≤ q → A q := fun q h => by rw [← hAe]; exact Or.inr h
  have hS : va_S A s.heap s.heap [] := va_S.rf
  have hl := lv_entry ([.ref h0, .int (nI rN)]) (n := 5) (Nat.le_of_ble_eq_true rfl)
  rw [lg_entry_eq]
  generalize (lg_sl ([.ref h0, .int (nI rN)]) ++ List.replicate (5 - (lg_sl ([.ref h0, .int (nI rN)])).length) Slot.unset).toArray = ls at hl ⊢
  have hl : lv_has ls 5 [(0, .ref h0), (1, .int (nI rN))] := hl
  refine lv_aload_n hx hb dX12_canPair_0 rfl (lv_at hl 0 rfl) ?_
  refine va_get (D := (dC, dI)) (ci := 12) (v := .ref (a 81)) (C := RX12) (T := TX12) (N := 163) (fs := fM (vS a vi vj)) hx hb hts iwsRX12_canPair_in12 hown hK hP 0 rfl rfl 133 (by decide) (hts (.fieldLink RX12 266 "OptimaWorksModel" "ruleA" "[I") (by decide +kernel)) (fun _ h9 => h9) rfl dX12_canPair_1 ?_
  refine lv_iload_n hx hb dX12_canPair_4 rfl (lv_at hl 1 rfl) ?_
  refine va_iald (cA := k 81) (n := 12) (f := (vF 81)) hx hb hK hP 82 81 (WR_get 81 (by decide)) (TR_get 81 (by decide)) (vp_in_nI (show rN < 12 by omega) (by omega)) dX12_canPair_5 ?_
  refine lv_topi (fun y1 hy1 => ?_)
  obtain rfl : ((vF 81) rN) = y1 := (hy1.trans (by rw [nI_clamp (by omega)])).symm
  refine lv_topi (fun y2 hy2 => ?_)
  obtain rfl : (nI xN) = y2 := (hy2.trans (eA)).symm
  refine lv_istore_n hx hb dX12_canPair_6 rfl hl (by decide) rfl (fun ls (hl : lv_has ls _ ([(2, .int (nI xN)), (0, .ref h0), (1, .int (nI rN))])) => ?_)
  refine lv_aload_n hx hb dX12_canPair_7 rfl (lv_at hl 1 rfl) ?_
  refine va_get (D := (dC, dI)) (ci := 12) (v := .ref (a 82)) (C := RX12) (T := TX12) (N := 163) (fs := fM (vS a vi vj)) hx hb hts iwsRX12_canPair_in12 hown hK hP 0 rfl rfl 134 (by decide) (hts (.fieldLink RX12 269 "OptimaWorksModel" "ruleB" "[I") (by decide +kernel)) (fun _ h9 => h9) rfl dX12_canPair_8 ?_
  refine lv_iload_n hx hb dX12_canPair_11 rfl (lv_at hl 2 rfl) ?_
  refine va_iald (cA := k 82) (n := 12) (f := (vF 82)) hx hb hK hP 83 82 (WR_get 82 (by decide)) (TR_get 82 (by decide)) (vp_in_nI (show rN < 12 by omega) (by omega)) dX12_canPair_12 ?_
  refine lv_topi (fun y3 hy3 => ?_)
  obtain rfl : ((vF 82) rN) = y3 := (hy3.trans (by rw [nI_clamp (by omega)])).symm
  refine lv_topi (fun y4 hy4 => ?_)
  obtain rfl : (nI yN) = y4 := (hy4.trans (eB)).symm
  refine lv_istore_n hx hb dX12_canPair_13 rfl hl (by decide) rfl (fun ls (hl : lv_has ls _ ([(3, .int (nI yN)), (2, .int (nI xN)), (0, .ref h0), (1, .int (nI rN))])) => ?_)
  refine lv_iconst (v := 0) hx hb dX12_canPair_14 (by decide) ?_
  refine lv_istore hx hb dX12_canPair_15 hl (by decide) rfl (fun ls (hl : lv_has ls _ ([(4, .int 0), (3, .int (nI yN)), (2, .int (nI xN)), (0, .ref h0), (1, .int (nI rN))])) => ?_)
  have hl : lv_has _ _ ([(0, .ref h0), (1, .int (nI rN)), (2, .int (nI xN)), (3, .int (nI yN)), (4, .int (nI 0))]) := lv_sub hl [3, 4, 2, 1, 0] rfl
  refine (fun (loop : ∀ (n9 : Nat) (v5 : Nat) (H : Heap) (locs : List Loc) (ls : Array Slot), (v5 ≤ 16) →  (16 < v5 + n9) → va_P (dC, dI) vwCl (WR a k h0 vi vj vF vG) H → va_D A (WR a k h0 vi vj vF vG) → va_S A s.heap H locs → lv_has ls 5 [(0, .ref h0), (1, .int (nI rN)), (2, .int (nI xN)), (3, .int (nI yN)), (4, .int (nI v5))] → W p l e _ s m _ below meth c H locs 0 0 _ (F0 m 17 ls [])) => loop (17) 0 _ _ _ (by omega) (by omega) hP hD hS hl) ?_
  intro n9
  induction n9 with
  | zero => intro v5 H locs ls hv5 hf9; exact False.elim (by omega)
  | succ n9 ih17 =>
    intro v5 H locs ls hv5 hf17 hP hD hS hl
    refine lv_iload hx hb dX12_canPair_17 (lv_at hl 4 rfl) ?_
    refine lv_bipush (v := 16) hx hb dX12_canPair_19 (by decide) ?_
    refine lv_icmp_ge (tgt := 69) hx hb dX12_canPair_21 (by decide) (fun c_21 => ?_) (fun c_21 => ?_)
    · have t_21 : ((v5 : Nat) : Int) ≥ 16 := toI_ge c_21 (nI_toInt (by omega)) (by decide)
      refine lv_iconst (v := 0) hx hb dX12_canPair_69 (by decide) ?_
      refine W.widen (k := 0) (n := 0) (by decide +kernel) (by decide +kernel) ?_
      exact W.zret (v := 0) hx hb hr rfl (fun t9_ ht hW => ⟨⟨0, (), rfl, by (try dsimp only); exact Or.inr rfl, by rw [ht]; exact hP, hD⟩, hS.F ht⟩) hS.2.2 dX12_canPair_70
    · have t_21 : ¬ ((v5 : Nat) : Int) ≥ 16 := toI_nge c_21 (nI_toInt (by omega)) (by decide)
      refine lv_aload_n hx hb dX12_canPair_24 rfl (lv_at hl 0 rfl) ?_
      refine va_get (D := (dC, dI)) (ci := 12) (v := .ref (a 86)) (C := RX12) (T := TX12) (N := 163) (fs := fM (vS a vi vj)) hx hb hts iwsRX12_canPair_in12 hown hK hP 0 rfl rfl 139 (by decide) (hts (.fieldLink RX12 281 "OptimaWorksModel" "with" "[I") (by decide +kernel)) (fun _ h9 => h9) rfl dX12_canPair_25 ?_
      refine lv_iload_n hx hb dX12_canPair_28 rfl (lv_at hl 2 rfl) ?_
      refine va_iald (cA := k 86) (n := 10) (f := (vF 86)) hx hb hK hP 87 86 (WR_get 86 (by decide)) (TR_get 86 (by decide)) (vp_in_nI (show xN < 10 by omega) (by omega)) dX12_canPair_29 ?_
      refine lv_topi (fun y5 hy5 => ?_)
      obtain rfl : ((vF 86) xN) = y5 := (hy5.trans (by rw [nI_clamp (by omega)])).symm
      refine lv_iload hx hb dX12_canPair_30 (lv_at hl 4 rfl) ?_
      refine lv_ishr hx hb dX12_canPair_32 ?_
      refine lv_iconst (v := 1) hx hb dX12_canPair_33 (by decide) ?_
      refine lv_iand hx hb dX12_canPair_34 ?_
      refine lv_iconst (v := 1) hx hb dX12_canPair_35 (by decide) ?_
      refine lv_icmp_ne (tgt := 63) hx hb dX12_canPair_36 (by decide) (fun c_36 => ?_) (fun c_36 => ?_)
      · have t_36 : (((((vF 86) xN) >>> ((nI v5) &&& 31)) &&& 1)).toInt ≠ 1 := toI_ne c_36 rfl (by decide)
        refine lv_iinc (v := (nI (v5 + 1))) hx hb dX12_canPair_63 hl (k := 4) rfl (nI_add v5 1) (by decide) rfl (fun ls (hl : lv_has ls _ ([(4, .int (nI (v5 + 1))), (0, .ref h0), (1, .int (nI rN)), (2, .int (nI xN)), (3, .int (nI yN))])) => ?_)
        refine lv_goto (tgt := 17) hx hb dX12_canPair_66 (by decide) ?_
        have hl : lv_has _ _ ([(0, .ref h0), (1, .int (nI rN)), (2, .int (nI xN)), (3, .int (nI yN)), (4, .int (nI (v5 + 1)))]) := lv_sub hl [1, 2, 3, 4, 0] rfl
        exact ih17 (v5 + 1) _ _ _ (by omega) (by omega) hP hD hS hl
      · have t_36 : (((((vF 86) xN) >>> ((nI v5) &&& 31)) &&& 1)).toInt = 1 := toI_nne c_36 rfl (by decide)
        refine lv_aload_n hx hb dX12_canPair_39 rfl (lv_at hl 0 rfl) ?_
        refine va_get (D := (dC, dI)) (ci := 12) (v := .ref (a 86)) (C := RX12) (T := TX12) (N := 163) (fs := fM (vS a vi vj)) hx hb hts iwsRX12_canPair_in12 hown hK hP 0 rfl rfl 139 (by decide) (hts (.fieldLink RX12 281 "OptimaWorksModel" "with" "[I") (by decide +kernel)) (fun _ h9 => h9) rfl dX12_canPair_40 ?_
        refine lv_iload_n hx hb dX12_canPair_43 rfl (lv_at hl 3 rfl) ?_
        refine va_iald (cA := k 86) (n := 10) (f := (vF 86)) hx hb hK hP 87 86 (WR_get 86 (by decide)) (TR_get 86 (by decide)) (vp_in_nI (show yN < 10 by omega) (by omega)) dX12_canPair_44 ?_
        refine lv_topi (fun y6 hy6 => ?_)
        obtain rfl : ((vF 86) yN) = y6 := (hy6.trans (by rw [nI_clamp (by omega)])).symm
        refine lv_aload_n hx hb dX12_canPair_45 rfl (lv_at hl 0 rfl) ?_
        refine va_get (D := (dC, dI)) (ci := 12) (v := .ref (a 84)) (C := RX12) (T := TX12) (N := 163) (fs := fM (vS a vi vj)) hx hb hts iwsRX12_canPair_in12 hown hK hP 0 rfl rfl 136 (by decide) (hts (.fieldLink RX12 275 "OptimaWorksModel" "rulePairs" "[I") (by decide +kernel)) (fun _ h9 => h9) rfl dX12_canPair_46 ?_
        refine lv_bipush (v := 16) hx hb dX12_canPair_49 (by decide) ?_
        refine lv_iload_n hx hb dX12_canPair_51 rfl (lv_at hl 1 rfl) ?_
        refine lv_imul hx hb dX12_canPair_52 ?_
        refine lv_topi (fun y7 hy7 => ?_)
        obtain rfl : (nI (16 * rN)) = y7 := (hy7.trans (pk_mul 16 rN)).symm
        refine lv_iload hx hb dX12_canPair_53 (lv_at hl 4 rfl) ?_
        refine lv_iadd hx hb dX12_canPair_55 ?_
        refine lv_topi (fun y8 hy8 => ?_)
        obtain rfl : (nI ((16 * rN) + v5)) = y8 := (hy8.trans (nI_add (16 * rN) v5)).symm
        refine va_iald (cA := k 84) (n := 192) (f := (vF 84)) hx hb hK hP 85 84 (WR_get 84 (by decide)) (TR_get 84 (by decide)) (vp_in_nI (show ((16 * rN) + v5) < 192 by omega) (by omega)) dX12_canPair_56 ?_
        refine lv_topi (fun y9 hy9 => ?_)
        obtain rfl : ((vF 84) ((16 * rN) + v5)) = y9 := (hy9.trans (by rw [nI_clamp (by omega)])).symm
        refine lv_iand hx hb dX12_canPair_57 ?_
        refine lv_if_eq (tgt := 63) hx hb dX12_canPair_58 (by decide) (fun c_58 => ?_) (fun c_58 => ?_)
        · have t_58 : ((((vF 86) yN) &&& ((vF 84) ((16 * rN) + v5)))).toInt = 0 := toI_eq c_58 rfl (by decide)
          refine lv_iinc (v := (nI (v5 + 1))) hx hb dX12_canPair_63 hl (k := 4) rfl (nI_add v5 1) (by decide) rfl (fun ls (hl : lv_has ls _ ([(4, .int (nI (v5 + 1))), (0, .ref h0), (1, .int (nI rN)), (2, .int (nI xN)), (3, .int (nI yN))])) => ?_)
          refine lv_goto (tgt := 17) hx hb dX12_canPair_66 (by decide) ?_
          have hl : lv_has _ _ ([(0, .ref h0), (1, .int (nI rN)), (2, .int (nI xN)), (3, .int (nI yN)), (4, .int (nI (v5 + 1)))]) := lv_sub hl [1, 2, 3, 4, 0] rfl
          exact ih17 (v5 + 1) _ _ _ (by omega) (by omega) hP hD hS hl
        · have t_58 : ¬ ((((vF 86) yN) &&& ((vF 84) ((16 * rN) + v5)))).toInt = 0 := toI_neq c_58 rfl (by decide)
          refine lv_iconst (v := 1) hx hb dX12_canPair_61 (by decide) ?_
          refine W.widen (k := 0) (n := 0) (by decide +kernel) (by decide +kernel) ?_
          exact W.zret (v := 1) hx hb hr rfl (fun t9_ ht hW => ⟨⟨1, (), rfl, by (try dsimp only); exact Or.inl rfl, by rw [ht]; exact hP, hD⟩, hS.F ht⟩) hS.2.2 dX12_canPair_62
end
section
theorem sum_dec {f g : Nat → Nat} {h : Nat} (e : ∀ q, q ≠ h → g q = f q) (hl : g h < f h) : ∀ n, h < n → sumN n g < sumN n f := by
  intro n
  induction n with
  | zero => intro h9; omega
  | succ n ih =>
    intro h9
    simp only [sumN]
    by_cases e9 : h = n
    · subst e9
      have : sumN h g = sumN h f := by
        have key : ∀ k, k ≤ h → sumN k g = sumN k f := by
          intro k
          induction k with
          | zero => intro _; rfl
          | succ k ih2 => intro hk; simp only [sumN]; rw [ih2 (by omega), e k (by omega)]
        exact key h (Nat.le_refl _)
      omega
    · have := ih (by omega); rw [e n (by omega)]; omega
theorem inc_nI {x : Int32} (h : -1 ≤ x.toInt ∧ x.toInt ≤ 16) : ∃ v : Nat, x + 1 = nI v ∧ (v : Int) = x.toInt + 1 ∧ v ≤ 17 := by
  have e1 : (x + 1).toInt = x.toInt + 1 := by rw [addB (by omega) (by decide)]; rfl
  obtain ⟨v, hv, ev⟩ := of_toInt (x := x + 1) (k := 18) (by omega) (by omega)
  refine ⟨v, ev, ?_, by omega⟩
  rw [← e1, ev, nI_toInt (by omega)]
/-- the figures of a row of values -/
def dgR (f : Nat → Int32) (h : Nat) : Nat := ((f h).toInt + 1).toNat
def RvO (f : Nat → Int32) (hn : Nat) : Prop := ∀ h, h < hn → -1 ≤ (f h).toInt ∧ (f h).toInt ≤ 16
theorem RvO.dg {f : Nat → Int32} {hn : Nat} (h : RvO f hn) {q : Nat} (hq : q < hn) : dgR f q < 18 := by
  have := h q hq
  unfold dgR; omega
theorem RvO.set {f g : Nat → Int32} {hn k : Nat} (h : RvO f hn) (e : ∀ q, q ≠ k → g q = f q) (h1 : -1 ≤ (g k).toInt ∧ (g k).toInt ≤ 16) : RvO g hn := fun q hq => by
  by_cases e9 : q = k
  · subst e9; exact h1
  · rw [e q e9]; exact h q hq
end
section
theorem hd_yX12_scope_RX12 : yX12_scope.cls = RX12 ∧ yX12_scope.cls ≠ "java/lang/invoke/MethodHandle" ∧ yX12_scope.cls ≠ "java/lang/invoke/VarHandle" ∧ (parseMethodDescriptor yX12_scope.desc).map (fun d => d.parameters.length) = some 1 := by decide +kernel
theorem hd_yX12_canDiffer_RX12 : yX12_canDiffer.cls = RX12 ∧ yX12_canDiffer.cls ≠ "java/lang/invoke/MethodHandle" ∧ yX12_canDiffer.cls ≠ "java/lang/invoke/VarHandle" ∧ (parseMethodDescriptor yX12_canDiffer.desc).map (fun d => d.parameters.length) = some 1 := by decide +kernel
theorem hd_yX12_canOrder_RX12 : yX12_canOrder.cls = RX12 ∧ yX12_canOrder.cls ≠ "java/lang/invoke/MethodHandle" ∧ yX12_canOrder.cls ≠ "java/lang/invoke/VarHandle" ∧ (parseMethodDescriptor yX12_canOrder.desc).map (fun d => d.parameters.length) = some 3 := by decide +kernel
theorem hd_yX12_canSum_RX12 : yX12_canSum.cls = RX12 ∧ yX12_canSum.cls ≠ "java/lang/invoke/MethodHandle" ∧ yX12_canSum.cls ≠ "java/lang/invoke/VarHandle" ∧ (parseMethodDescriptor yX12_canSum.desc).map (fun d => d.parameters.length) = some 3 := by decide +kernel
theorem hd_yX12_must_RX12 : yX12_must.cls = RX12 ∧ yX12_must.cls ≠ "java/lang/invoke/MethodHandle" ∧ yX12_must.cls ≠ "java/lang/invoke/VarHandle" ∧ (parseMethodDescriptor yX12_must.desc).map (fun d => d.parameters.length) = some 2 := by decide +kernel
theorem hd_yX12_canPair_RX12 : yX12_canPair.cls = RX12 ∧ yX12_canPair.cls ≠ "java/lang/invoke/MethodHandle" ∧ yX12_canPair.cls ≠ "java/lang/invoke/VarHandle" ∧ (parseMethodDescriptor yX12_canPair.desc).map (fun d => d.parameters.length) = some 1 := by decide +kernel
theorem hd_yX12_canHold_RX12 : yX12_canHold.cls = RX12 ∧ yX12_canHold.cls ≠ "java/lang/invoke/MethodHandle" ∧ yX12_canHold.cls ≠ "java/lang/invoke/VarHandle" ∧ (parseMethodDescriptor yX12_canHold.desc).map (fun d => d.parameters.length) = some 1 := by decide +kernel
theorem hd_yX12_supports_RX12 : yX12_supports.cls = RX12 ∧ yX12_supports.cls ≠ "java/lang/invoke/MethodHandle" ∧ yX12_supports.cls ≠ "java/lang/invoke/VarHandle" ∧ (parseMethodDescriptor yX12_supports.desc).map (fun d => d.parameters.length) = some 3 := by decide +kernel
theorem hd_yX12_leave_RX12 : yX12_leave.cls = RX12 ∧ yX12_leave.cls ≠ "java/lang/invoke/MethodHandle" ∧ yX12_leave.cls ≠ "java/lang/invoke/VarHandle" ∧ (parseMethodDescriptor yX12_leave.desc).map (fun d => d.parameters.length) = some 0 := by decide +kernel
theorem hd_yX12_leaveAll_RX12 : yX12_leaveAll.cls = RX12 ∧ yX12_leaveAll.cls ≠ "java/lang/invoke/MethodHandle" ∧ yX12_leaveAll.cls ≠ "java/lang/invoke/VarHandle" ∧ (parseMethodDescriptor yX12_leaveAll.desc).map (fun d => d.parameters.length) = some 0 := by decide +kernel
theorem dX12_scope_0 : decode cX12_scope 0 = .ok (.aload_n 0, 1) := dk_42 (by decide +kernel)
theorem dX12_scope_1 : decode cX12_scope 1 = .ok (.getfield 263, 3) := dk_180 (by decide +kernel)
theorem dX12_scope_4 : decode cX12_scope 4 = .ok (.iload_n 1, 1) := dk_27 (by decide +kernel)
theorem dX12_scope_5 : decode cX12_scope 5 = .ok (.iaload, 1) := dk_46 (by decide +kernel)
theorem dX12_scope_6 : decode cX12_scope 6 = .ok (.istore_n 2, 1) := dk_61 (by decide +kernel)
theorem dX12_scope_7 : decode cX12_scope 7 = .ok (.iload_n 2, 1) := dk_28 (by decide +kernel)
theorem dX12_scope_8 : decode cX12_scope 8 = .ok (.iconst 1, 1) := dk_4 (by decide +kernel)
theorem dX12_scope_9 : decode cX12_scope 9 = .ok (.if_icmp .ne 23, 3) := dk_160 (by decide +kernel)
theorem dX12_scope_12 : decode cX12_scope 12 = .ok (.iconst 1, 1) := dk_4 (by decide +kernel)
theorem dX12_scope_13 : decode cX12_scope 13 = .ok (.aload_n 0, 1) := dk_42 (by decide +kernel)
theorem dX12_scope_14 : decode cX12_scope 14 = .ok (.getfield 266, 3) := dk_180 (by decide +kernel)
theorem dX12_scope_17 : decode cX12_scope 17 = .ok (.iload_n 1, 1) := dk_27 (by decide +kernel)
theorem dX12_scope_18 : decode cX12_scope 18 = .ok (.iaload, 1) := dk_46 (by decide +kernel)
theorem dX12_scope_19 : decode cX12_scope 19 = .ok (.ishl, 1) := dk_120 (by decide +kernel)
theorem dX12_scope_20 : decode cX12_scope 20 = .ok (.iconst 1, 1) := dk_4 (by decide +kernel)
theorem dX12_scope_21 : decode cX12_scope 21 = .ok (.aload_n 0, 1) := dk_42 (by decide +kernel)
theorem dX12_scope_22 : decode cX12_scope 22 = .ok (.getfield 272, 3) := dk_180 (by decide +kernel)
theorem dX12_scope_25 : decode cX12_scope 25 = .ok (.iload_n 1, 1) := dk_27 (by decide +kernel)
theorem dX12_scope_26 : decode cX12_scope 26 = .ok (.iaload, 1) := dk_46 (by decide +kernel)
theorem dX12_scope_27 : decode cX12_scope 27 = .ok (.ishl, 1) := dk_120 (by decide +kernel)
theorem dX12_scope_28 : decode cX12_scope 28 = .ok (.ior, 1) := dk_128 (by decide +kernel)
theorem dX12_scope_29 : decode cX12_scope 29 = .ok (.goto 34, 3) := dk_167 (by decide +kernel)
theorem dX12_scope_32 : decode cX12_scope 32 = .ok (.iload_n 2, 1) := dk_28 (by decide +kernel)
theorem dX12_scope_33 : decode cX12_scope 33 = .ok (.iconst 4, 1) := dk_7 (by decide +kernel)
theorem dX12_scope_34 : decode cX12_scope 34 = .ok (.if_icmp .ne 23, 3) := dk_160 (by decide +kernel)
theorem dX12_scope_37 : decode cX12_scope 37 = .ok (.iconst 1, 1) := dk_4 (by decide +kernel)
theorem dX12_scope_38 : decode cX12_scope 38 = .ok (.aload_n 0, 1) := dk_42 (by decide +kernel)
theorem dX12_scope_39 : decode cX12_scope 39 = .ok (.getfield 266, 3) := dk_180 (by decide +kernel)
theorem dX12_scope_42 : decode cX12_scope 42 = .ok (.iload_n 1, 1) := dk_27 (by decide +kernel)
theorem dX12_scope_43 : decode cX12_scope 43 = .ok (.iaload, 1) := dk_46 (by decide +kernel)
theorem dX12_scope_44 : decode cX12_scope 44 = .ok (.ishl, 1) := dk_120 (by decide +kernel)
theorem dX12_scope_45 : decode cX12_scope 45 = .ok (.iconst 1, 1) := dk_4 (by decide +kernel)
theorem dX12_scope_46 : decode cX12_scope 46 = .ok (.aload_n 0, 1) := dk_42 (by decide +kernel)
theorem dX12_scope_47 : decode cX12_scope 47 = .ok (.getfield 269, 3) := dk_180 (by decide +kernel)
theorem dX12_scope_50 : decode cX12_scope 50 = .ok (.iload_n 1, 1) := dk_27 (by decide +kernel)
theorem dX12_scope_51 : decode cX12_scope 51 = .ok (.iaload, 1) := dk_46 (by decide +kernel)
theorem dX12_scope_52 : decode cX12_scope 52 = .ok (.ishl, 1) := dk_120 (by decide +kernel)
theorem dX12_scope_53 : decode cX12_scope 53 = .ok (.ior, 1) := dk_128 (by decide +kernel)
theorem dX12_scope_54 : decode cX12_scope 54 = .ok (.goto 9, 3) := dk_167 (by decide +kernel)
theorem dX12_scope_57 : decode cX12_scope 57 = .ok (.aload_n 0, 1) := dk_42 (by decide +kernel)
theorem dX12_scope_58 : decode cX12_scope 58 = .ok (.getfield 266, 3) := dk_180 (by decide +kernel)
theorem dX12_scope_61 : decode cX12_scope 61 = .ok (.iload_n 1, 1) := dk_27 (by decide +kernel)
theorem dX12_scope_62 : decode cX12_scope 62 = .ok (.iaload, 1) := dk_46 (by decide +kernel)
theorem dX12_scope_63 : decode cX12_scope 63 = .ok (.ireturn, 1) := dk_172 (by decide +kernel)
def wsRX12_scope : List Cond := .code yX12_scope cX12_scope 3 (some .int) :: ([.fieldLink RX12 263 "OptimaWorksModel" "ruleKind" "[I", .fieldLink RX12 266 "OptimaWorksModel" "ruleA" "[I", .fieldLink RX12 269 "OptimaWorksModel" "ruleB" "[I", .fieldLink RX12 272 "OptimaWorksModel" "ruleC" "[I"] ++ wsX120)
theorem iwsRX12_scope_in12 : ∀ w ∈ wsX120, w ∈ wsRX12_scope := fun _ h => List.mem_cons_of_mem _ (List.mem_append_right _ h)
theorem gdwsRX12_scope : wsRX12_scope.all goodWord = true := gdC rfl (gdA (by decide +kernel : ([.fieldLink RX12 263 "OptimaWorksModel" "ruleKind" "[I", .fieldLink RX12 266 "OptimaWorksModel" "ruleA" "[I", .fieldLink RX12 269 "OptimaWorksModel" "ruleB" "[I", .fieldLink RX12 272 "OptimaWorksModel" "ruleC" "[I"] : List Cond).all goodWord = true) gdwsX120)
set_option maxHeartbeats 4000000 in
set_option maxRecDepth 100000 in
/-- scope(r) -/
theorem r_X12_scope (l : Launch) (dC : Nat → ClassId) (dI : Nat → Nat → Nat) (a : Nat → Nat) (k : Nat → ClassId) (h0 : Nat) (vi : Nat → Int32) (vj : Nat → Int64) (vF : Nat → Nat → Int32) (vG : Nat → Nat → Int64) (rN : Nat) (hrN : rN < 12) (sz : Nat) : Met l yX12_scope wsRX12_scope ({ frames := 0, cells := 0, slots := 0, locals := 0 }) (va_Pc [.ref h0, .int (nI rN)] (fun U => U.heap.size = sz ∧ va_P (dC, dI) vwCl (WR a k h0 vi vj vF vG) U.heap ∧ va_K (dC, dI) vwCl (tX12 k) U ∧ va_D (fun _ => True) (WR a k h0 vi vj vF vG))) (va_Qi (fun (r : Int32) (u : Unit) => True) (fun (u : Unit) t => va_P (dC, dI) vwCl (WR a k h0 vi vj vF vG) t.heap ∧ va_D (va_A (WR a k h0 vi vj vF vG) sz) (WR a k h0 vi vj vF vG)) (va_A (WR a k h0 vi vj vF vG) sz)) 0 0 (va_A (WR a k h0 vi vj vF vG) sz) := by
  refine Met.ofW (cc := cX12_scope) (maxL := 3) (ret := (some .int)) (by decide) rfl ?_
  intro p e s m args below meth c s₁ B hml hv
  obtain ⟨rfl, hsz, hP, hK, hD0⟩ := hv
  have hx := B.exec
  have hb := B.bytes
  have hr := B.returns
  have hts := atoms_spec (ws := wsRX12_scope) B.pre
  have hown : s.vm.findClass RX12 = some m.cls := findClass_of_methodNamed B.named
  have hlocks := B.notSynchronized
  subst hsz
  have hD := hD0.self (sz := s.heap.size)
  generalize hAe : va_A (WR a k h0 vi vj vF vG) s.heap.size = A at hD ⊢
  have hA : ∀ q : Nat, s.heap.size ≤ q → A q := fun q h => by rw [← hAe]; exact Or.inr h
  have hS : va_S A s.heap s.heap [] := va_S.rf
  have hl := lv_entry ([.ref h0, .int (nI rN)]) (n := 3) (Nat.le_of_ble_eq_true rfl)
  rw [lg_entry_eq]
  generalize (lg_sl ([.ref h0, .int (nI rN)]) ++ List.replicate (3 - (lg_sl ([.ref h0, .int (nI rN)])).length) Slot.unset).toArray = ls at hl ⊢
  have hl : lv_has ls 3 [(0, .ref h0), (1, .int (nI rN))] := hl
  refine lv_aload_n hx hb dX12_scope_0 rfl (lv_at hl 0 rfl) ?_
  refine va_get (D := (dC, dI)) (ci := 12) (v := .ref (a 80)) (C := RX12) (T := TX12) (N := 163) (fs := fM (vS a vi vj)) hx hb hts iwsRX12_scope_in12 hown hK hP 0 rfl rfl 132 (by decide) (hts (.fieldLink RX12 263 "OptimaWorksModel" "ruleKind" "[I") (by decide +kernel)) (fun _ h9 => h9) rfl dX12_scope_1 ?_
  refine lv_iload_n hx hb dX12_scope_4 rfl (lv_at hl 1 rfl) ?_
  refine va_iald (cA := k 80) (n := 12) (f := (vF 80)) hx hb hK hP 81 80 (WR_get 80 (by decide)) (TR_get 80 (by decide)) (vp_in_nI (show rN < 12 by omega) (by omega)) dX12_scope_5 ?_
  refine lv_topi (fun y1 hy1 => ?_)
  obtain rfl : ((vF 80) rN) = y1 := (hy1.trans (by rw [nI_clamp (by omega)])).symm
  refine lv_istore_n hx hb dX12_scope_6 rfl hl (by decide) rfl (fun ls (hl : lv_has ls _ ([(2, .int ((vF 80) rN)), (0, .ref h0), (1, .int (nI rN))])) => ?_)
  refine lv_iload_n hx hb dX12_scope_7 rfl (lv_at hl 0 rfl) ?_
  refine lv_iconst (v := 1) hx hb dX12_scope_8 (by decide) ?_
  refine W.cut (pc := 63) (fun H locs ls stk => ∃ (j1_s0 : Int32),  stk = [.int j1_s0] ∧ va_P (dC, dI) vwCl (WR a k h0 vi vj vF vG) H ∧ va_D A (WR a k h0 vi vj vF vG) ∧ va_S A s.heap H locs ∧ lv_has ls 3 [(2, .int ((vF 80) rN)), (0, .ref h0), (1, .int (nI rN))]) (fun join1 => ?_) ?_
  · refine lv_icmp_ne (tgt := 32) hx hb dX12_scope_9 (by decide) (fun c_9 => ?_) (fun c_9 => ?_)
    · have t_9 : (((vF 80) rN)).toInt ≠ 1 := toI_ne c_9 rfl (by decide)
      refine lv_iload_n hx hb dX12_scope_32 rfl (lv_at hl 0 rfl) ?_
      refine lv_iconst (v := 4) hx hb dX12_scope_33 (by decide) ?_
      refine lv_icmp_ne (tgt := 57) hx hb dX12_scope_34 (by decide) (fun c_34 => ?_) (fun c_34 => ?_)
      · have t_34 : (((vF 80) rN)).toInt ≠ 4 := toI_ne c_34 rfl (by decide)
        refine lv_aload_n hx hb dX12_scope_57 rfl (lv_at hl 1 rfl) ?_
        refine va_get (D := (dC, dI)) (ci := 12) (v := .ref (a 81)) (C := RX12) (T := TX12) (N := 163) (fs := fM (vS a vi vj)) hx hb hts iwsRX12_scope_in12 hown hK hP 0 rfl rfl 133 (by decide) (hts (.fieldLink RX12 266 "OptimaWorksModel" "ruleA" "[I") (by decide +kernel)) (fun _ h9 => h9) rfl dX12_scope_58 ?_
        refine lv_iload_n hx hb dX12_scope_61 rfl (lv_at hl 2 rfl) ?_
        refine va_iald (cA := k 81) (n := 12) (f := (vF 81)) hx hb hK hP 82 81 (WR_get 81 (by decide)) (TR_get 81 (by decide)) (vp_in_nI (show rN < 12 by omega) (by omega)) dX12_scope_62 ?_
        refine lv_topi (fun y2 hy2 => ?_)
        obtain rfl : ((vF 81) rN) = y2 := (hy2.trans (by rw [nI_clamp (by omega)])).symm
        have hl : lv_has _ _ ([(2, .int ((vF 80) rN)), (0, .ref h0), (1, .int (nI rN))]) := lv_sub hl [0, 1, 2] rfl
        exact join1 _ _ _ _ ⟨((vF 81) rN), rfl, hP, hD, hS, hl⟩
      · have t_34 : (((vF 80) rN)).toInt = 4 := toI_nne c_34 rfl (by decide)
        refine lv_iconst (v := 1) hx hb dX12_scope_37 (by decide) ?_
        refine lv_aload_n hx hb dX12_scope_38 rfl (lv_at hl 1 rfl) ?_
        refine va_get (D := (dC, dI)) (ci := 12) (v := .ref (a 81)) (C := RX12) (T := TX12) (N := 163) (fs := fM (vS a vi vj)) hx hb hts iwsRX12_scope_in12 hown hK hP 0 rfl rfl 133 (by decide) (hts (.fieldLink RX12 266 "OptimaWorksModel" "ruleA" "[I") (by decide +kernel)) (fun _ h9 => h9) rfl dX12_scope_39 ?_
        refine lv_iload_n hx hb dX12_scope_42 rfl (lv_at hl 2 rfl) ?_
        refine va_iald (cA := k 81) (n := 12) (f := (vF 81)) hx hb hK hP 82 81 (WR_get 81 (by decide)) (TR_get 81 (by decide)) (vp_in_nI (show rN < 12 by omega) (by omega)) dX12_scope_43 ?_
        refine lv_topi (fun y3 hy3 => ?_)
        obtain rfl : ((vF 81) rN) = y3 := (hy3.trans (by rw [nI_clamp (by omega)])).symm
        refine lv_ishl hx hb dX12_scope_44 ?_
        refine lv_iconst (v := 1) hx hb dX12_scope_45 (by decide) ?_
        refine lv_aload_n hx hb dX12_scope_46 rfl (lv_at hl 1 rfl) ?_
        refine va_get (D := (dC, dI)) (ci := 12) (v := .ref (a 82)) (C := RX12) (T := TX12) (N := 163) (fs := fM (vS a vi vj)) hx hb hts iwsRX12_scope_in12 hown hK hP 0 rfl rfl 134 (by decide) (hts (.fieldLink RX12 269 "OptimaWorksModel" "ruleB" "[I") (by decide +kernel)) (fun _ h9 => h9) rfl dX12_scope_47 ?_
        refine lv_iload_n hx hb dX12_scope_50 rfl (lv_at hl 2 rfl) ?_
        refine va_iald (cA := k 82) (n := 12) (f := (vF 82)) hx hb hK hP 83 82 (WR_get 82 (by decide)) (TR_get 82 (by decide)) (vp_in_nI (show rN < 12 by omega) (by omega)) dX12_scope_51 ?_
        refine lv_topi (fun y4 hy4 => ?_)
        obtain rfl : ((vF 82) rN) = y4 := (hy4.trans (by rw [nI_clamp (by omega)])).symm
        refine lv_ishl hx hb dX12_scope_52 ?_
        refine lv_ior hx hb dX12_scope_53 ?_
        refine lv_goto (tgt := 63) hx hb dX12_scope_54 (by decide) ?_
        have hl : lv_has _ _ ([(2, .int ((vF 80) rN)), (0, .ref h0), (1, .int (nI rN))]) := lv_sub hl [0, 1, 2] rfl
        exact join1 _ _ _ _ ⟨((1 <<< (((vF 81) rN) &&& 31)) ||| (1 <<< (((vF 82) rN) &&& 31))), rfl, hP, hD, hS, hl⟩
    · have t_9 : (((vF 80) rN)).toInt = 1 := toI_nne c_9 rfl (by decide)
      refine lv_iconst (v := 1) hx hb dX12_scope_12 (by decide) ?_
      refine lv_aload_n hx hb dX12_scope_13 rfl (lv_at hl 1 rfl) ?_
      refine va_get (D := (dC, dI)) (ci := 12) (v := .ref (a 81)) (C := RX12) (T := TX12) (N := 163) (fs := fM (vS a vi vj)) hx hb hts iwsRX12_scope_in12 hown hK hP 0 rfl rfl 133 (by decide) (hts (.fieldLink RX12 266 "OptimaWorksModel" "ruleA" "[I") (by decide +kernel)) (fun _ h9 => h9) rfl dX12_scope_14 ?_
      refine lv_iload_n hx hb dX12_scope_17 rfl (lv_at hl 2 rfl) ?_
      refine va_iald (cA := k 81) (n := 12) (f := (vF 81)) hx hb hK hP 82 81 (WR_get 81 (by decide)) (TR_get 81 (by decide)) (vp_in_nI (show rN < 12 by omega) (by omega)) dX12_scope_18 ?_
      refine lv_topi (fun y5 hy5 => ?_)
      obtain rfl : ((vF 81) rN) = y5 := (hy5.trans (by rw [nI_clamp (by omega)])).symm
      refine lv_ishl hx hb dX12_scope_19 ?_
      refine lv_iconst (v := 1) hx hb dX12_scope_20 (by decide) ?_
      refine lv_aload_n hx hb dX12_scope_21 rfl (lv_at hl 1 rfl) ?_
      refine va_get (D := (dC, dI)) (ci := 12) (v := .ref (a 83)) (C := RX12) (T := TX12) (N := 163) (fs := fM (vS a vi vj)) hx hb hts iwsRX12_scope_in12 hown hK hP 0 rfl rfl 135 (by decide) (hts (.fieldLink RX12 272 "OptimaWorksModel" "ruleC" "[I") (by decide +kernel)) (fun _ h9 => h9) rfl dX12_scope_22 ?_
      refine lv_iload_n hx hb dX12_scope_25 rfl (lv_at hl 2 rfl) ?_
      refine va_iald (cA := k 83) (n := 12) (f := (vF 83)) hx hb hK hP 84 83 (WR_get 83 (by decide)) (TR_get 83 (by decide)) (vp_in_nI (show rN < 12 by omega) (by omega)) dX12_scope_26 ?_
      refine lv_topi (fun y6 hy6 => ?_)
      obtain rfl : ((vF 83) rN) = y6 := (hy6.trans (by rw [nI_clamp (by omega)])).symm
      refine lv_ishl hx hb dX12_scope_27 ?_
      refine lv_ior hx hb dX12_scope_28 ?_
      refine lv_goto (tgt := 63) hx hb dX12_scope_29 (by decide) ?_
      have hl : lv_has _ _ ([(2, .int ((vF 80) rN)), (0, .ref h0), (1, .int (nI rN))]) := lv_sub hl [0, 1, 2] rfl
      exact join1 _ _ _ _ ⟨((1 <<< (((vF 81) rN) &&& 31)) ||| (1 <<< (((vF 83) rN) &&& 31))), rfl, hP, hD, hS, hl⟩
  · rintro H locs ls stk ⟨j1_s0, rfl, hP, hD, hS, hl⟩
    refine W.widen (k := 0) (n := 0) (by decide +kernel) (by decide +kernel) ?_
    exact W.iret (v := j1_s0) hx hb hr (fun t9_ ht hW => ⟨⟨j1_s0, (), rfl, trivial, by rw [ht]; exact hP, hD⟩, hS.F ht⟩) hS.2.2 dX12_scope_63
theorem dX12_canHold_0 : decode cX12_canHold 0 = .ok (.aload_n 0, 1) := dk_42 (by decide +kernel)
theorem dX12_canHold_1 : decode cX12_canHold 1 = .ok (.iload_n 1, 1) := dk_27 (by decide +kernel)
theorem dX12_canHold_2 : decode cX12_canHold 2 = .ok (.invokevirtual 994, 3) := dk_182 (by decide +kernel)
theorem dX12_canHold_5 : decode cX12_canHold 5 = .ok (.istore_n 2, 1) := dk_61 (by decide +kernel)
theorem dX12_canHold_6 : decode cX12_canHold 6 = .ok (.iconst 0, 1) := dk_3 (by decide +kernel)
theorem dX12_canHold_7 : decode cX12_canHold 7 = .ok (.istore_n 3, 1) := dk_62 (by decide +kernel)
theorem dX12_canHold_8 : decode cX12_canHold 8 = .ok (.iload_n 3, 1) := dk_29 (by decide +kernel)
theorem dX12_canHold_9 : decode cX12_canHold 9 = .ok (.aload_n 0, 1) := dk_42 (by decide +kernel)
theorem dX12_canHold_10 : decode cX12_canHold 10 = .ok (.getfield 978, 3) := dk_180 (by decide +kernel)
theorem dX12_canHold_13 : decode cX12_canHold 13 = .ok (.if_icmp .ge 29, 3) := dk_162 (by decide +kernel)
theorem dX12_canHold_16 : decode cX12_canHold 16 = .ok (.iload_n 2, 1) := dk_28 (by decide +kernel)
theorem dX12_canHold_17 : decode cX12_canHold 17 = .ok (.iload_n 3, 1) := dk_29 (by decide +kernel)
theorem dX12_canHold_18 : decode cX12_canHold 18 = .ok (.ishr, 1) := dk_122 (by decide +kernel)
theorem dX12_canHold_19 : decode cX12_canHold 19 = .ok (.iconst 1, 1) := dk_4 (by decide +kernel)
theorem dX12_canHold_20 : decode cX12_canHold 20 = .ok (.iand, 1) := dk_126 (by decide +kernel)
theorem dX12_canHold_21 : decode cX12_canHold 21 = .ok (.iconst 1, 1) := dk_4 (by decide +kernel)
theorem dX12_canHold_22 : decode cX12_canHold 22 = .ok (.if_icmp .ne 14, 3) := dk_160 (by decide +kernel)
theorem dX12_canHold_25 : decode cX12_canHold 25 = .ok (.aload_n 0, 1) := dk_42 (by decide +kernel)
theorem dX12_canHold_26 : decode cX12_canHold 26 = .ok (.getfield 281, 3) := dk_180 (by decide +kernel)
theorem dX12_canHold_29 : decode cX12_canHold 29 = .ok (.iload_n 3, 1) := dk_29 (by decide +kernel)
theorem dX12_canHold_30 : decode cX12_canHold 30 = .ok (.iaload, 1) := dk_46 (by decide +kernel)
theorem dX12_canHold_31 : decode cX12_canHold 31 = .ok (.ifCond .ne 5, 3) := dk_154 (by decide +kernel)
theorem dX12_canHold_34 : decode cX12_canHold 34 = .ok (.iconst 0, 1) := dk_3 (by decide +kernel)
theorem dX12_canHold_35 : decode cX12_canHold 35 = .ok (.ireturn, 1) := dk_172 (by decide +kernel)
theorem dX12_canHold_36 : decode cX12_canHold 36 = .ok (.iinc 3 1, 3) := dk_132 (by decide +kernel)
theorem dX12_canHold_39 : decode cX12_canHold 39 = .ok (.goto (-31), 3) := dk_167 (by decide +kernel)
theorem dX12_canHold_42 : decode cX12_canHold 42 = .ok (.aload_n 0, 1) := dk_42 (by decide +kernel)
theorem dX12_canHold_43 : decode cX12_canHold 43 = .ok (.getfield 263, 3) := dk_180 (by decide +kernel)
theorem dX12_canHold_46 : decode cX12_canHold 46 = .ok (.iload_n 1, 1) := dk_27 (by decide +kernel)
theorem dX12_canHold_47 : decode cX12_canHold 47 = .ok (.iaload, 1) := dk_46 (by decide +kernel)
theorem dX12_canHold_48 : decode cX12_canHold 48 = .ok (.tableswitch 107 0 3 #[32, 38, 61, 79], 32) := by decide +kernel
theorem dX12_canHold_80 : decode cX12_canHold 80 = .ok (.aload_n 0, 1) := dk_42 (by decide +kernel)
theorem dX12_canHold_81 : decode cX12_canHold 81 = .ok (.iload_n 2, 1) := dk_28 (by decide +kernel)
theorem dX12_canHold_82 : decode cX12_canHold 82 = .ok (.invokevirtual 997, 3) := dk_182 (by decide +kernel)
theorem dX12_canHold_85 : decode cX12_canHold 85 = .ok (.ireturn, 1) := dk_172 (by decide +kernel)
theorem dX12_canHold_86 : decode cX12_canHold 86 = .ok (.aload_n 0, 1) := dk_42 (by decide +kernel)
theorem dX12_canHold_87 : decode cX12_canHold 87 = .ok (.aload_n 0, 1) := dk_42 (by decide +kernel)
theorem dX12_canHold_88 : decode cX12_canHold 88 = .ok (.getfield 266, 3) := dk_180 (by decide +kernel)
theorem dX12_canHold_91 : decode cX12_canHold 91 = .ok (.iload_n 1, 1) := dk_27 (by decide +kernel)
theorem dX12_canHold_92 : decode cX12_canHold 92 = .ok (.iaload, 1) := dk_46 (by decide +kernel)
theorem dX12_canHold_93 : decode cX12_canHold 93 = .ok (.aload_n 0, 1) := dk_42 (by decide +kernel)
theorem dX12_canHold_94 : decode cX12_canHold 94 = .ok (.getfield 269, 3) := dk_180 (by decide +kernel)
theorem dX12_canHold_97 : decode cX12_canHold 97 = .ok (.iload_n 1, 1) := dk_27 (by decide +kernel)
theorem dX12_canHold_98 : decode cX12_canHold 98 = .ok (.iaload, 1) := dk_46 (by decide +kernel)
theorem dX12_canHold_99 : decode cX12_canHold 99 = .ok (.aload_n 0, 1) := dk_42 (by decide +kernel)
theorem dX12_canHold_100 : decode cX12_canHold 100 = .ok (.getfield 272, 3) := dk_180 (by decide +kernel)
theorem dX12_canHold_103 : decode cX12_canHold 103 = .ok (.iload_n 1, 1) := dk_27 (by decide +kernel)
theorem dX12_canHold_104 : decode cX12_canHold 104 = .ok (.iaload, 1) := dk_46 (by decide +kernel)
theorem dX12_canHold_105 : decode cX12_canHold 105 = .ok (.invokevirtual 1000, 3) := dk_182 (by decide +kernel)
theorem dX12_canHold_108 : decode cX12_canHold 108 = .ok (.ireturn, 1) := dk_172 (by decide +kernel)
theorem dX12_canHold_109 : decode cX12_canHold 109 = .ok (.aload_n 0, 1) := dk_42 (by decide +kernel)
theorem dX12_canHold_110 : decode cX12_canHold 110 = .ok (.iload_n 2, 1) := dk_28 (by decide +kernel)
theorem dX12_canHold_111 : decode cX12_canHold 111 = .ok (.aload_n 0, 1) := dk_42 (by decide +kernel)
theorem dX12_canHold_112 : decode cX12_canHold 112 = .ok (.getfield 269, 3) := dk_180 (by decide +kernel)
theorem dX12_canHold_115 : decode cX12_canHold 115 = .ok (.iload_n 1, 1) := dk_27 (by decide +kernel)
theorem dX12_canHold_116 : decode cX12_canHold 116 = .ok (.iaload, 1) := dk_46 (by decide +kernel)
theorem dX12_canHold_117 : decode cX12_canHold 117 = .ok (.aload_n 0, 1) := dk_42 (by decide +kernel)
theorem dX12_canHold_118 : decode cX12_canHold 118 = .ok (.getfield 272, 3) := dk_180 (by decide +kernel)
theorem dX12_canHold_121 : decode cX12_canHold 121 = .ok (.iload_n 1, 1) := dk_27 (by decide +kernel)
theorem dX12_canHold_122 : decode cX12_canHold 122 = .ok (.iaload, 1) := dk_46 (by decide +kernel)
theorem dX12_canHold_123 : decode cX12_canHold 123 = .ok (.invokevirtual 1004, 3) := dk_182 (by decide +kernel)
theorem dX12_canHold_126 : decode cX12_canHold 126 = .ok (.ireturn, 1) := dk_172 (by decide +kernel)
theorem dX12_canHold_127 : decode cX12_canHold 127 = .ok (.aload_n 0, 1) := dk_42 (by decide +kernel)
theorem dX12_canHold_128 : decode cX12_canHold 128 = .ok (.iload_n 2, 1) := dk_28 (by decide +kernel)
theorem dX12_canHold_129 : decode cX12_canHold 129 = .ok (.iconst 1, 1) := dk_4 (by decide +kernel)
theorem dX12_canHold_130 : decode cX12_canHold 130 = .ok (.aload_n 0, 1) := dk_42 (by decide +kernel)
theorem dX12_canHold_131 : decode cX12_canHold 131 = .ok (.getfield 272, 3) := dk_180 (by decide +kernel)
theorem dX12_canHold_134 : decode cX12_canHold 134 = .ok (.iload_n 1, 1) := dk_27 (by decide +kernel)
theorem dX12_canHold_135 : decode cX12_canHold 135 = .ok (.iaload, 1) := dk_46 (by decide +kernel)
theorem dX12_canHold_136 : decode cX12_canHold 136 = .ok (.ishl, 1) := dk_120 (by decide +kernel)
theorem dX12_canHold_137 : decode cX12_canHold 137 = .ok (.invokevirtual 1007, 3) := dk_182 (by decide +kernel)
theorem dX12_canHold_140 : decode cX12_canHold 140 = .ok (.aload_n 0, 1) := dk_42 (by decide +kernel)
theorem dX12_canHold_141 : decode cX12_canHold 141 = .ok (.getfield 269, 3) := dk_180 (by decide +kernel)
theorem dX12_canHold_144 : decode cX12_canHold 144 = .ok (.iload_n 1, 1) := dk_27 (by decide +kernel)
theorem dX12_canHold_145 : decode cX12_canHold 145 = .ok (.iaload, 1) := dk_46 (by decide +kernel)
theorem dX12_canHold_146 : decode cX12_canHold 146 = .ok (.if_icmp .gt 7, 3) := dk_163 (by decide +kernel)
theorem dX12_canHold_149 : decode cX12_canHold 149 = .ok (.iconst 1, 1) := dk_4 (by decide +kernel)
theorem dX12_canHold_150 : decode cX12_canHold 150 = .ok (.goto 4, 3) := dk_167 (by decide +kernel)
theorem dX12_canHold_153 : decode cX12_canHold 153 = .ok (.iconst 0, 1) := dk_3 (by decide +kernel)
theorem dX12_canHold_154 : decode cX12_canHold 154 = .ok (.ireturn, 1) := dk_172 (by decide +kernel)
theorem dX12_canHold_155 : decode cX12_canHold 155 = .ok (.aload_n 0, 1) := dk_42 (by decide +kernel)
theorem dX12_canHold_156 : decode cX12_canHold 156 = .ok (.iload_n 1, 1) := dk_27 (by decide +kernel)
theorem dX12_canHold_157 : decode cX12_canHold 157 = .ok (.invokevirtual 1010, 3) := dk_182 (by decide +kernel)
theorem dX12_canHold_160 : decode cX12_canHold 160 = .ok (.ireturn, 1) := dk_172 (by decide +kernel)
def wsRX12_canHold : List Cond := .code yX12_canHold cX12_canHold 4 (some .boolean) :: ([.fieldLink RX12 978 "OptimaWorksModel" "holders" "I", .fieldLink RX12 263 "OptimaWorksModel" "ruleKind" "[I", .fieldLink RX12 266 "OptimaWorksModel" "ruleA" "[I", .fieldLink RX12 269 "OptimaWorksModel" "ruleB" "[I", .fieldLink RX12 272 "OptimaWorksModel" "ruleC" "[I", .fieldLink RX12 281 "OptimaWorksModel" "with" "[I"] ++ wsX120 ++ (wsV RX12 994 RX12 yX12_scope wsRX12_scope) ++ (wsV RX12 997 RX12 yX12_canDiffer wsRX12_canDiffer) ++ (wsV RX12 1000 RX12 yX12_canOrder wsRX12_canOrder) ++ (wsV RX12 1004 RX12 yX12_canSum wsRX12_canSum) ++ (wsV RX12 1007 RX12 yX12_must wsRX12_must) ++ (wsV RX12 1010 RX12 yX12_canPair wsRX12_canPair))
theorem iwsRX12_canHold_in12 : ∀ w ∈ wsX120, w ∈ wsRX12_canHold := fun _ h => List.mem_cons_of_mem _ (List.mem_append_left _ (List.mem_append_left _ (List.mem_append_left _ (List.mem_append_left _ (List.mem_append_left _ (List.mem_append_left _ (List.mem_append_right _ h)))))))
theorem gwsRX12_canHold_0 : GoodIn wsRX12_canHold (wsV RX12 994 RX12 yX12_scope wsRX12_scope) := goodIn_sub (fun _ h => List.mem_cons_of_mem _ (List.mem_append_left _ (List.mem_append_left _ (List.mem_append_left _ (List.mem_append_left _ (List.mem_append_left _ (List.mem_append_right _ h))))))) (gdV (by decide +kernel) gdwsRX12_scope)
theorem gwsRX12_canHold_1 : GoodIn wsRX12_canHold (wsV RX12 997 RX12 yX12_canDiffer wsRX12_canDiffer) := goodIn_sub (fun _ h => List.mem_cons_of_mem _ (List.mem_append_left _ (List.mem_append_left _ (List.mem_append_left _ (List.mem_append_left _ (List.mem_append_right _ h)))))) (gdV (by decide +kernel) gdwsRX12_canDiffer)
theorem gwsRX12_canHold_2 : GoodIn wsRX12_canHold (wsV RX12 1000 RX12 yX12_canOrder wsRX12_canOrder) := goodIn_sub (fun _ h => List.mem_cons_of_mem _ (List.mem_append_left _ (List.mem_append_left _ (List.mem_append_left _ (List.mem_append_right _ h))))) (gdV (by decide +kernel) gdwsRX12_canOrder)
theorem gwsRX12_canHold_3 : GoodIn wsRX12_canHold (wsV RX12 1004 RX12 yX12_canSum wsRX12_canSum) := goodIn_sub (fun _ h => List.mem_cons_of_mem _ (List.mem_append_left _ (List.mem_append_left _ (List.mem_append_right _ h)))) (gdV (by decide +kernel) gdwsRX12_canSum)
theorem gwsRX12_canHold_4 : GoodIn wsRX12_canHold (wsV RX12 1007 RX12 yX12_must wsRX12_must) := goodIn_sub (fun _ h => List.mem_cons_of_mem _ (List.mem_append_left _ (List.mem_append_right _ h))) (gdV (by decide +kernel) gdwsRX12_must)
theorem gwsRX12_canHold_5 : GoodIn wsRX12_canHold (wsV RX12 1010 RX12 yX12_canPair wsRX12_canPair) := goodIn_sub (fun _ h => List.mem_cons_of_mem _ (List.mem_append_right _ h)) (gdV (by decide +kernel) gdwsRX12_canPair)
theorem gdwsRX12_canHold : wsRX12_canHold.all goodWord = true := gdC rfl (gdA (gdA (gdA (gdA (gdA (gdA (gdA (by decide +kernel : ([.fieldLink RX12 978 "OptimaWorksModel" "holders" "I", .fieldLink RX12 263 "OptimaWorksModel" "ruleKind" "[I", .fieldLink RX12 266 "OptimaWorksModel" "ruleA" "[I", .fieldLink RX12 269 "OptimaWorksModel" "ruleB" "[I", .fieldLink RX12 272 "OptimaWorksModel" "ruleC" "[I", .fieldLink RX12 281 "OptimaWorksModel" "with" "[I"] : List Cond).all goodWord = true) gdwsX120) (gdV (by decide +kernel) gdwsRX12_scope)) (gdV (by decide +kernel) gdwsRX12_canDiffer)) (gdV (by decide +kernel) gdwsRX12_canOrder)) (gdV (by decide +kernel) gdwsRX12_canSum)) (gdV (by decide +kernel) gdwsRX12_must)) (gdV (by decide +kernel) gdwsRX12_canPair))
set_option maxHeartbeats 4000000 in
set_option maxRecDepth 100000 in
/-- canHold(r) -/
theorem r_X12_canHold (l : Launch) (dC : Nat → ClassId) (dI : Nat → Nat → Nat) (a : Nat → Nat) (k : Nat → ClassId) (h0 : Nat) (vi : Nat → Int32) (vj : Nat → Int64) (vF : Nat → Nat → Int32) (vG : Nat → Nat → Int64) (rN : Nat) (hn : Nat) (hrN : rN < 12) (hhn : vi 128 = nI hn) (hhn10 : hn ≤ 10) (hRV : RulV (vF 80 rN) (vF 81 rN) (vF 82 rN) (vF 83 rN) hn) (sz : Nat) : Met l yX12_canHold wsRX12_canHold ({ frames := 3, cells := 0, slots := 0, locals := 73 }) (va_Pc [.ref h0, .int (nI rN)] (fun U => U.heap.size = sz ∧ va_P (dC, dI) vwCl (WR a k h0 vi vj vF vG) U.heap ∧ va_K (dC, dI) vwCl (tX12 k) U ∧ va_D (fun _ => True) (WR a k h0 vi vj vF vG))) (va_Qi (fun (r : Int32) (u : (Nat → Int32) × (Nat → Int32) × (Nat → Int32)) => (r = 1) ∨ (r = 0)) (fun (u : (Nat → Int32) × (Nat → Int32) × (Nat → Int32)) t => va_P (dC, dI) vwCl (WR a k h0 vi vj (fT (fT (fT vF 87 (u.1)) 88 (u.2.1)) 89 (u.2.2)) vG) t.heap ∧ va_D (va_A (WR a k h0 vi vj vF vG) sz) (WR a k h0 vi vj (fT (fT (fT vF 87 (u.1)) 88 (u.2.1)) 89 (u.2.2)) vG)) (va_A (WR a k h0 vi vj vF vG) sz)) 0 0 (va_A (WR a k h0 vi vj vF vG) sz) := by
  refine Met.ofW (cc := cX12_canHold) (maxL := 4) (ret := (some .boolean)) (by decide) rfl ?_
  intro p e s m args below meth c s₁ B hml hv
  obtain ⟨rfl, hsz, hP, hK, hD0⟩ := hv
  have hx := B.exec
  have hb := B.bytes
  have hr := B.returns
  have hts := atoms_spec (ws := wsRX12_canHold) B.pre
  have hown : s.vm.findClass RX12 = some m.cls := findClass_of_methodNamed B.named
  have hlocks := B.notSynchronized
  subst hsz
  have hD := hD0.self (sz := s.heap.size)
  generalize hAe : va_A (WR a k h0 vi vj vF vG) s.heap.size = A at hD ⊢
  have hA : ∀ q : Nat, s.heap.size ≤ q → A q := fun q h => by rw [← hAe]; exact Or.inr h
  have hS : va_S A s.heap s.heap [] := va_S.rf
  have hl := lv_entry ([.ref h0, .int (nI rN)]) (n := 4) (Nat.le_of_ble_eq_true rfl)
  rw [lg_entry_eq]
  generalize (lg_sl ([.ref h0, .int (nI rN)]) ++ List.replicate (4 - (lg_sl ([.ref h0, .int (nI rN)])).length) Slot.unset).toArray = ls at hl ⊢
  have hl : lv_has ls 4 [(0, .ref h0), (1, .int (nI rN))] := hl
  refine lv_aload_n hx hb dX12_canHold_0 rfl (lv_at hl 0 rfl) ?_
  refine lv_iload_n hx hb dX12_canHold_1 rfl (lv_at hl 1 rfl) ?_
  have hFc := allFree hD hS hA
  refine va_calli (va_runV (As := [.int (nI rN)]) (rest := []) ⟨hx, hb, hml, hown, hts⟩ (r_X12_scope l dC dI a k h0 vi vj vF vG rN (by first | with_reducible assumption | decide | omega | rfl | assumption) s.heap.size) (cwV 1 hts gwsRX12_canHold_0 rfl rfl rfl hd_yX12_scope_RX12 (by decide +kernel)) (fz_pre (va_recv hK hP (ci := 12) (q0 := 0) rfl rfl) hP hK hD) rfl rfl hl.1 rfl (lv_room (Nat.le_of_ble_eq_true rfl)) dX12_canHold_2 (by decide +kernel)) hS (fun q _ h => hFc q h) hFc (fun r2 u t9_ H locs ht hvm hw9 hB9 hz1 hk1 hS => ?_)
  have hP : va_P (dC, dI) vwCl (WR a k h0 vi vj vF vG) H := fz_P ht hB9.1
  have hD : va_D A (WR a k h0 vi vj vF vG) := hB9.2.weaken (fun _ q _ h => hFc q.1 h)
  refine lv_istore_n hx hb dX12_canHold_5 rfl hl (by decide) rfl (fun ls (hl : lv_has ls _ ([(2, .int r2), (0, .ref h0), (1, .int (nI rN))])) => ?_)
  refine lv_iconst (v := 0) hx hb dX12_canHold_6 (by decide) ?_
  refine lv_istore_n hx hb dX12_canHold_7 rfl hl (by decide) rfl (fun ls (hl : lv_has ls _ ([(3, .int 0), (2, .int r2), (0, .ref h0), (1, .int (nI rN))])) => ?_)
  have hl : lv_has _ _ ([(0, .ref h0), (1, .int (nI rN)), (2, .int r2), (3, .int (nI 0))]) := lv_sub hl [2, 3, 1, 0] rfl
  refine (fun (loop : ∀ (n9 : Nat) (i5 : Nat) (H : Heap) (locs : List Loc) (ls : Array Slot), (i5 ≤ hn) →  (hn < i5 + n9) → va_P (dC, dI) vwCl (WR a k h0 vi vj vF vG) H → va_D A (WR a k h0 vi vj vF vG) → va_S A s.heap H locs → lv_has ls 4 [(0, .ref h0), (1, .int (nI rN)), (2, .int r2), (3, .int (nI i5))] → W p l e _ s m _ below meth c H locs 0 0 _ (F0 m 8 ls [])) => loop (hn + 1) 0 _ _ _ (by omega) (by omega) hP hD hS hl) ?_
  intro n9
  induction n9 with
  | zero => intro i5 H locs ls hi5 hf9; exact False.elim (by omega)
  | succ n9 ih8 =>
    intro i5 H locs ls hi5 hf8 hP hD hS hl
    refine lv_iload_n hx hb dX12_canHold_8 rfl (lv_at hl 3 rfl) ?_
    refine lv_aload_n hx hb dX12_canHold_9 rfl (lv_at hl 0 rfl) ?_
    refine va_get (D := (dC, dI)) (ci := 12) (v := .int (vi 128)) (C := RX12) (T := TX12) (N := 163) (fs := fM (vS a vi vj)) hx hb hts iwsRX12_canHold_in12 hown hK hP 0 rfl rfl 128 (by decide) (hts (.fieldLink RX12 978 "OptimaWorksModel" "holders" "I") (by decide +kernel)) (fun _ h9 => h9) rfl dX12_canHold_10 ?_
    refine lv_topi (fun y1 hy1 => ?_)
    obtain rfl : (nI hn) = y1 := (hy1.trans (hhn)).symm
    refine lv_icmp_ge (tgt := 42) hx hb dX12_canHold_13 (by decide) (fun c_13 => ?_) (fun c_13 => ?_)
    · have t_13 : ((i5 : Nat) : Int) ≥ ((hn : Nat) : Int) := toI_ge c_13 (nI_toInt (by omega)) (nI_toInt (by omega))
      refine lv_aload_n hx hb dX12_canHold_42 rfl (lv_at hl 0 rfl) ?_
      refine va_get (D := (dC, dI)) (ci := 12) (v := .ref (a 80)) (C := RX12) (T := TX12) (N := 163) (fs := fM (vS a vi vj)) hx hb hts iwsRX12_canHold_in12 hown hK hP 0 rfl rfl 132 (by decide) (hts (.fieldLink RX12 263 "OptimaWorksModel" "ruleKind" "[I") (by decide +kernel)) (fun _ h9 => h9) rfl dX12_canHold_43 ?_
      refine lv_iload_n hx hb dX12_canHold_46 rfl (lv_at hl 1 rfl) ?_
      refine va_iald (cA := k 80) (n := 12) (f := (vF 80)) hx hb hK hP 81 80 (WR_get 80 (by decide)) (TR_get 80 (by decide)) (vp_in_nI (show rN < 12 by omega) (by omega)) dX12_canHold_47 ?_
      refine lv_topi (fun y2 hy2 => ?_)
      obtain rfl : ((vF 80) rN) = y2 := (hy2.trans (by rw [nI_clamp (by omega)])).symm
      by_cases s_48_0 : ((vF 80) rN) = 0
      · have ts_48_0 : (((vF 80) rN)).toInt = 0 := toI_eq s_48_0 rfl (by decide)
        refine lv_tableIn (off := 32) (tgt := 80) hx hb dX12_canHold_48 (by rw [s_48_0]; decide) (by rw [s_48_0]; decide) (by rw [s_48_0]; decide) (by decide) ?_
        refine lv_aload_n hx hb dX12_canHold_80 rfl (lv_at hl 0 rfl) ?_
        refine lv_iload_n hx hb dX12_canHold_81 rfl (lv_at hl 2 rfl) ?_
        have hFc := allFree hD hS hA
        refine va_calli (va_runV (As := [.int r2]) (rest := []) ⟨hx, hb, hml, hown, hts⟩ (r_X12_canDiffer l dC dI a k h0 vi vj vF vG r2 hn hhn (by first | with_reducible assumption | decide | omega | rfl | assumption) H.size) (cwV 1 hts gwsRX12_canHold_1 rfl rfl rfl hd_yX12_canDiffer_RX12 (by decide +kernel)) (fz_pre (va_recv hK hP (ci := 12) (q0 := 0) rfl rfl) hP hK hD) rfl rfl hl.1 rfl (lv_room (Nat.le_of_ble_eq_true rfl)) dX12_canHold_82 (by decide +kernel)) hS (fun q _ h => hFc q h) hFc (fun r82 u t9_ H locs ht hvm hw9 hB9 hz1 hk1 hS => ?_)
        revert u hw9 hB9
        refine fz_p3 ?_
        intro g8782 g8882 g8982 hw9 hB9
        try dsimp only at hw9 hB9
        have hP : va_P (dC, dI) vwCl (WR a k h0 vi vj (fT (fT (fT vF 87 g8782) 88 g8882) 89 g8982) vG) H := fz_P ht hB9.1
        have hD : va_D A (WR a k h0 vi vj (fT (fT (fT vF 87 g8782) 88 g8882) 89 g8982) vG) := hB9.2.weaken (fun _ q _ h => hFc q.1 h)
        rcases hw9 with rfl | rfl
        · refine W.widen (k := 0) (n := 0) (by decide +kernel) (by decide +kernel) ?_
          exact W.zret (v := 1) hx hb hr rfl (fun t9_ ht hW => ⟨⟨1, (g8782, g8882, g8982), rfl, by (try dsimp only); exact Or.inl rfl, by rw [ht]; exact hP, hD⟩, hS.F ht⟩) hS.2.2 dX12_canHold_85
        · refine W.widen (k := 0) (n := 0) (by decide +kernel) (by decide +kernel) ?_
          exact W.zret (v := 0) hx hb hr rfl (fun t9_ ht hW => ⟨⟨0, (g8782, g8882, g8982), rfl, by (try dsimp only); exact Or.inr rfl, by rw [ht]; exact hP, hD⟩, hS.F ht⟩) hS.2.2 dX12_canHold_85
      · have ts_48_0 : ¬ (((vF 80) rN)).toInt = 0 := toI_neq s_48_0 rfl (by decide)
        by_cases s_48_1 : ((vF 80) rN) = 1
        · have ts_48_1 : (((vF 80) rN)).toInt = 1 := toI_eq s_48_1 rfl (by decide)
          refine lv_tableIn (off := 38) (tgt := 86) hx hb dX12_canHold_48 (by rw [s_48_1]; decide) (by rw [s_48_1]; decide) (by rw [s_48_1]; decide) (by decide) ?_
          obtain ⟨⟨x5, hx5, ex5⟩, y5, hy5, ey5⟩ : (∃ x, x < hn ∧ vF 81 rN = nI x) ∧ ∃ x, x < hn ∧ vF 83 rN = nI x := by rcases hRV with h9 | h9 | h9; (exfalso; rw [s_48_1] at h9; revert h9; decide); (exact h9.2); (exfalso; (have h8 := h9.1); rw [s_48_1] at h8; exact absurd h8 (by decide))
          refine lv_aload_n hx hb dX12_canHold_86 rfl (lv_at hl 0 rfl) ?_
          refine lv_aload_n hx hb dX12_canHold_87 rfl (lv_at hl 0 rfl) ?_
          refine va_get (D := (dC, dI)) (ci := 12) (v := .ref (a 81)) (C := RX12) (T := TX12) (N := 163) (fs := fM (vS a vi vj)) hx hb hts iwsRX12_canHold_in12 hown hK hP 0 rfl rfl 133 (by decide) (hts (.fieldLink RX12 266 "OptimaWorksModel" "ruleA" "[I") (by decide +kernel)) (fun _ h9 => h9) rfl dX12_canHold_88 ?_
          refine lv_iload_n hx hb dX12_canHold_91 rfl (lv_at hl 1 rfl) ?_
          refine va_iald (cA := k 81) (n := 12) (f := (vF 81)) hx hb hK hP 82 81 (WR_get 81 (by decide)) (TR_get 81 (by decide)) (vp_in_nI (show rN < 12 by omega) (by omega)) dX12_canHold_92 ?_
          refine lv_topi (fun y3 hy3 => ?_)
          obtain rfl : ((vF 81) rN) = y3 := (hy3.trans (by rw [nI_clamp (by omega)])).symm
          refine lv_topi (fun y4 hy4 => ?_)
          obtain rfl : (nI x5) = y4 := (hy4.trans (ex5)).symm
          refine lv_aload_n hx hb dX12_canHold_93 rfl (lv_at hl 0 rfl) ?_
          refine va_get (D := (dC, dI)) (ci := 12) (v := .ref (a 82)) (C := RX12) (T := TX12) (N := 163) (fs := fM (vS a vi vj)) hx hb hts iwsRX12_canHold_in12 hown hK hP 0 rfl rfl 134 (by decide) (hts (.fieldLink RX12 269 "OptimaWorksModel" "ruleB" "[I") (by decide +kernel)) (fun _ h9 => h9) rfl dX12_canHold_94 ?_
          refine lv_iload_n hx hb dX12_canHold_97 rfl (lv_at hl 1 rfl) ?_
          refine va_iald (cA := k 82) (n := 12) (f := (vF 82)) hx hb hK hP 83 82 (WR_get 82 (by decide)) (TR_get 82 (by decide)) (vp_in_nI (show rN < 12 by omega) (by omega)) dX12_canHold_98 ?_
          refine lv_topi (fun y5 hy5 => ?_)
          obtain rfl : ((vF 82) rN) = y5 := (hy5.trans (by rw [nI_clamp (by omega)])).symm
          refine lv_aload_n hx hb dX12_canHold_99 rfl (lv_at hl 0 rfl) ?_
          refine va_get (D := (dC, dI)) (ci := 12) (v := .ref (a 83)) (C := RX12) (T := TX12) (N := 163) (fs := fM (vS a vi vj)) hx hb hts iwsRX12_canHold_in12 hown hK hP 0 rfl rfl 135 (by decide) (hts (.fieldLink RX12 272 "OptimaWorksModel" "ruleC" "[I") (by decide +kernel)) (fun _ h9 => h9) rfl dX12_canHold_100 ?_
          refine lv_iload_n hx hb dX12_canHold_103 rfl (lv_at hl 1 rfl) ?_
          refine va_iald (cA := k 83) (n := 12) (f := (vF 83)) hx hb hK hP 84 83 (WR_get 83 (by decide)) (TR_get 83 (by decide)) (vp_in_nI (show rN < 12 by omega) (by omega)) dX12_canHold_104 ?_
          refine lv_topi (fun y6 hy6 => ?_)
          obtain rfl : ((vF 83) rN) = y6 := (hy6.trans (by rw [nI_clamp (by omega)])).symm
          refine lv_topi (fun y7 hy7 => ?_)
          obtain rfl : (nI y5) = y7 := (hy7.trans (ey5)).symm
          have hFc := allFree hD hS hA
          refine va_calli (va_runV (As := [.int (nI x5), .int ((vF 82) rN), .int (nI y5)]) (rest := []) ⟨hx, hb, hml, hown, hts⟩ (r_X12_canOrder l dC dI a k h0 vi vj vF vG x5 ((vF 82) rN) y5 (by first | with_reducible assumption | decide | omega | rfl | assumption) (by first | with_reducible assumption | decide | omega | rfl | assumption) H.size) (cwV 3 hts gwsRX12_canHold_2 rfl rfl rfl hd_yX12_canOrder_RX12 (by decide +kernel)) (fz_pre (va_recv hK hP (ci := 12) (q0 := 0) rfl rfl) hP hK hD) rfl rfl hl.1 rfl (lv_room (Nat.le_of_ble_eq_true rfl)) dX12_canHold_105 (by decide +kernel)) hS (fun q _ h => hFc q h) hFc (fun r105 u t9_ H locs ht hvm hw9 hB9 hz1 hk1 hS => ?_)
          have hP : va_P (dC, dI) vwCl (WR a k h0 vi vj vF vG) H := fz_P ht hB9.1
          have hD : va_D A (WR a k h0 vi vj vF vG) := hB9.2.weaken (fun _ q _ h => hFc q.1 h)
          rcases hw9 with rfl | rfl
          · refine W.widen (k := 0) (n := 0) (by decide +kernel) (by decide +kernel) ?_
            have e9 : fT (fT (fT vF 87 (vF 87)) 88 (vF 88)) 89 (vF 89) = vF := (fT_id _ _ ((fT_ne _ _ (Nat.ne_of_beq_eq_false rfl)).trans (fT_ne _ _ (Nat.ne_of_beq_eq_false rfl)))).trans ((fT_id _ _ (fT_ne _ _ (Nat.ne_of_beq_eq_false rfl))).trans (fT_id _ _ (rfl)))
            have hP : va_P (dC, dI) vwCl (WR a k h0 vi vj (fT (fT (fT vF 87 (vF 87)) 88 (vF 88)) 89 (vF 89)) vG) H := by rw [e9]; exact hP
            have hD : va_D A (WR a k h0 vi vj (fT (fT (fT vF 87 (vF 87)) 88 (vF 88)) 89 (vF 89)) vG) := by rw [e9]; exact hD
            clear e9
            exact W.zret (v := 1) hx hb hr rfl (fun t9_ ht hW => ⟨⟨1, ((vF 87), (vF 88), (vF 89)), rfl, by (try dsimp only); exact Or.inl rfl, by rw [ht]; exact hP, hD⟩, hS.F ht⟩) hS.2.2 dX12_canHold_108
          · refine W.widen (k := 0) (n := 0) (by decide +kernel) (by decide +kernel) ?_
            have e9 : fT (fT (fT vF 87 (vF 87)) 88 (vF 88)) 89 (vF 89) = vF := (fT_id _ _ ((fT_ne _ _ (Nat.ne_of_beq_eq_false rfl)).trans (fT_ne _ _ (Nat.ne_of_beq_eq_false rfl)))).trans ((fT_id _ _ (fT_ne _ _ (Nat.ne_of_beq_eq_false rfl))).trans (fT_id _ _ (rfl)))
            have hP : va_P (dC, dI) vwCl (WR a k h0 vi vj (fT (fT (fT vF 87 (vF 87)) 88 (vF 88)) 89 (vF 89)) vG) H := by rw [e9]; exact hP
            have hD : va_D A (WR a k h0 vi vj (fT (fT (fT vF 87 (vF 87)) 88 (vF 88)) 89 (vF 89)) vG) := by rw [e9]; exact hD
            clear e9
            exact W.zret (v := 0) hx hb hr rfl (fun t9_ ht hW => ⟨⟨0, ((vF 87), (vF 88), (vF 89)), rfl, by (try dsimp only); exact Or.inr rfl, by rw [ht]; exact hP, hD⟩, hS.F ht⟩) hS.2.2 dX12_canHold_108
        · have ts_48_1 : ¬ (((vF 80) rN)).toInt = 1 := toI_neq s_48_1 rfl (by decide)
          by_cases s_48_2 : ((vF 80) rN) = 2
          · have ts_48_2 : (((vF 80) rN)).toInt = 2 := toI_eq s_48_2 rfl (by decide)
            refine lv_tableIn (off := 61) (tgt := 109) hx hb dX12_canHold_48 (by rw [s_48_2]; decide) (by rw [s_48_2]; decide) (by rw [s_48_2]; decide) (by decide) ?_
            refine lv_aload_n hx hb dX12_canHold_109 rfl (lv_at hl 0 rfl) ?_
            refine lv_iload_n hx hb dX12_canHold_110 rfl (lv_at hl 2 rfl) ?_
            refine lv_aload_n hx hb dX12_canHold_111 rfl (lv_at hl 0 rfl) ?_
            refine va_get (D := (dC, dI)) (ci := 12) (v := .ref (a 82)) (C := RX12) (T := TX12) (N := 163) (fs := fM (vS a vi vj)) hx hb hts iwsRX12_canHold_in12 hown hK hP 0 rfl rfl 134 (by decide) (hts (.fieldLink RX12 269 "OptimaWorksModel" "ruleB" "[I") (by decide +kernel)) (fun _ h9 => h9) rfl dX12_canHold_112 ?_
            refine lv_iload_n hx hb dX12_canHold_115 rfl (lv_at hl 1 rfl) ?_
            refine va_iald (cA := k 82) (n := 12) (f := (vF 82)) hx hb hK hP 83 82 (WR_get 82 (by decide)) (TR_get 82 (by decide)) (vp_in_nI (show rN < 12 by omega) (by omega)) dX12_canHold_116 ?_
            refine lv_topi (fun y8 hy8 => ?_)
            obtain rfl : ((vF 82) rN) = y8 := (hy8.trans (by rw [nI_clamp (by omega)])).symm
            refine lv_aload_n hx hb dX12_canHold_117 rfl (lv_at hl 0 rfl) ?_
            refine va_get (D := (dC, dI)) (ci := 12) (v := .ref (a 83)) (C := RX12) (T := TX12) (N := 163) (fs := fM (vS a vi vj)) hx hb hts iwsRX12_canHold_in12 hown hK hP 0 rfl rfl 135 (by decide) (hts (.fieldLink RX12 272 "OptimaWorksModel" "ruleC" "[I") (by decide +kernel)) (fun _ h9 => h9) rfl dX12_canHold_118 ?_
            refine lv_iload_n hx hb dX12_canHold_121 rfl (lv_at hl 1 rfl) ?_
            refine va_iald (cA := k 83) (n := 12) (f := (vF 83)) hx hb hK hP 84 83 (WR_get 83 (by decide)) (TR_get 83 (by decide)) (vp_in_nI (show rN < 12 by omega) (by omega)) dX12_canHold_122 ?_
            refine lv_topi (fun y9 hy9 => ?_)
            obtain rfl : ((vF 83) rN) = y9 := (hy9.trans (by rw [nI_clamp (by omega)])).symm
            have hFc := allFree hD hS hA
            refine va_calli (va_runV (As := [.int r2, .int ((vF 82) rN), .int ((vF 83) rN)]) (rest := []) ⟨hx, hb, hml, hown, hts⟩ (r_X12_canSum l dC dI a k h0 vi vj vF vG r2 ((vF 82) rN) ((vF 83) rN) hn hhn (by first | with_reducible assumption | decide | omega | rfl | assumption) H.size) (cwV 3 hts gwsRX12_canHold_3 rfl rfl rfl hd_yX12_canSum_RX12 (by decide +kernel)) (fz_pre (va_recv hK hP (ci := 12) (q0 := 0) rfl rfl) hP hK hD) rfl rfl hl.1 rfl (lv_room (Nat.le_of_ble_eq_true rfl)) dX12_canHold_123 (by decide +kernel)) hS (fun q _ h => hFc q h) hFc (fun r123 u t9_ H locs ht hvm hw9 hB9 hz1 hk1 hS => ?_)
            have hP : va_P (dC, dI) vwCl (WR a k h0 vi vj vF vG) H := fz_P ht hB9.1
            have hD : va_D A (WR a k h0 vi vj vF vG) := hB9.2.weaken (fun _ q _ h => hFc q.1 h)
            rcases hw9 with rfl | rfl
            · refine W.widen (k := 0) (n := 0) (by decide +kernel) (by decide +kernel) ?_
              have e9 : fT (fT (fT vF 87 (vF 87)) 88 (vF 88)) 89 (vF 89) = vF := (fT_id _ _ ((fT_ne _ _ (Nat.ne_of_beq_eq_false rfl)).trans (fT_ne _ _ (Nat.ne_of_beq_eq_false rfl)))).trans ((fT_id _ _ (fT_ne _ _ (Nat.ne_of_beq_eq_false rfl))).trans (fT_id _ _ (rfl)))
              have hP : va_P (dC, dI) vwCl (WR a k h0 vi vj (fT (fT (fT vF 87 (vF 87)) 88 (vF 88)) 89 (vF 89)) vG) H := by rw [e9]; exact hP
              have hD : va_D A (WR a k h0 vi vj (fT (fT (fT vF 87 (vF 87)) 88 (vF 88)) 89 (vF 89)) vG) := by rw [e9]; exact hD
              clear e9
              exact W.zret (v := 1) hx hb hr rfl (fun t9_ ht hW => ⟨⟨1, ((vF 87), (vF 88), (vF 89)), rfl, by (try dsimp only); exact Or.inl rfl, by rw [ht]; exact hP, hD⟩, hS.F ht⟩) hS.2.2 dX12_canHold_126
            · refine W.widen (k := 0) (n := 0) (by decide +kernel) (by decide +kernel) ?_
              have e9 : fT (fT (fT vF 87 (vF 87)) 88 (vF 88)) 89 (vF 89) = vF := (fT_id _ _ ((fT_ne _ _ (Nat.ne_of_beq_eq_false rfl)).trans (fT_ne _ _ (Nat.ne_of_beq_eq_false rfl)))).trans ((fT_id _ _ (fT_ne _ _ (Nat.ne_of_beq_eq_false rfl))).trans (fT_id _ _ (rfl)))
              have hP : va_P (dC, dI) vwCl (WR a k h0 vi vj (fT (fT (fT vF 87 (vF 87)) 88 (vF 88)) 89 (vF 89)) vG) H := by rw [e9]; exact hP
              have hD : va_D A (WR a k h0 vi vj (fT (fT (fT vF 87 (vF 87)) 88 (vF 88)) 89 (vF 89)) vG) := by rw [e9]; exact hD
              clear e9
              exact W.zret (v := 0) hx hb hr rfl (fun t9_ ht hW => ⟨⟨0, ((vF 87), (vF 88), (vF 89)), rfl, by (try dsimp only); exact Or.inr rfl, by rw [ht]; exact hP, hD⟩, hS.F ht⟩) hS.2.2 dX12_canHold_126
          · have ts_48_2 : ¬ (((vF 80) rN)).toInt = 2 := toI_neq s_48_2 rfl (by decide)
            by_cases s_48_3 : ((vF 80) rN) = 3
            · have ts_48_3 : (((vF 80) rN)).toInt = 3 := toI_eq s_48_3 rfl (by decide)
              refine lv_tableIn (off := 79) (tgt := 127) hx hb dX12_canHold_48 (by rw [s_48_3]; decide) (by rw [s_48_3]; decide) (by rw [s_48_3]; decide) (by decide) ?_
              refine lv_aload_n hx hb dX12_canHold_127 rfl (lv_at hl 0 rfl) ?_
              refine lv_iload_n hx hb dX12_canHold_128 rfl (lv_at hl 2 rfl) ?_
              refine lv_iconst (v := 1) hx hb dX12_canHold_129 (by decide) ?_
              refine lv_aload_n hx hb dX12_canHold_130 rfl (lv_at hl 0 rfl) ?_
              refine va_get (D := (dC, dI)) (ci := 12) (v := .ref (a 83)) (C := RX12) (T := TX12) (N := 163) (fs := fM (vS a vi vj)) hx hb hts iwsRX12_canHold_in12 hown hK hP 0 rfl rfl 135 (by decide) (hts (.fieldLink RX12 272 "OptimaWorksModel" "ruleC" "[I") (by decide +kernel)) (fun _ h9 => h9) rfl dX12_canHold_131 ?_
              refine lv_iload_n hx hb dX12_canHold_134 rfl (lv_at hl 1 rfl) ?_
              refine va_iald (cA := k 83) (n := 12) (f := (vF 83)) hx hb hK hP 84 83 (WR_get 83 (by decide)) (TR_get 83 (by decide)) (vp_in_nI (show rN < 12 by omega) (by omega)) dX12_canHold_135 ?_
              refine lv_topi (fun y10 hy10 => ?_)
              obtain rfl : ((vF 83) rN) = y10 := (hy10.trans (by rw [nI_clamp (by omega)])).symm
              refine lv_ishl hx hb dX12_canHold_136 ?_
              have hFc := allFree hD hS hA
              refine va_calli (va_runV (As := [.int r2, .int (1 <<< (((vF 83) rN) &&& 31))]) (rest := []) ⟨hx, hb, hml, hown, hts⟩ (r_X12_must l dC dI a k h0 vi vj vF vG r2 (1 <<< (((vF 83) rN) &&& 31)) hn hhn (by first | with_reducible assumption | decide | omega | rfl | assumption) H.size) (cwV 2 hts gwsRX12_canHold_4 rfl rfl rfl hd_yX12_must_RX12 (by decide +kernel)) (fz_pre (va_recv hK hP (ci := 12) (q0 := 0) rfl rfl) hP hK hD) rfl rfl hl.1 rfl (lv_room (Nat.le_of_ble_eq_true rfl)) dX12_canHold_137 (by decide +kernel)) hS (fun q _ h => hFc q h) hFc (fun r137 u t9_ H locs ht hvm hw9 hB9 hz1 hk1 hS => ?_)
              have hP : va_P (dC, dI) vwCl (WR a k h0 vi vj vF vG) H := fz_P ht hB9.1
              have hD : va_D A (WR a k h0 vi vj vF vG) := hB9.2.weaken (fun _ q _ h => hFc q.1 h)
              refine lv_aload_n hx hb dX12_canHold_140 rfl (lv_at hl 0 rfl) ?_
              refine va_get (D := (dC, dI)) (ci := 12) (v := .ref (a 82)) (C := RX12) (T := TX12) (N := 163) (fs := fM (vS a vi vj)) hx hb hts iwsRX12_canHold_in12 hown hK hP 0 rfl rfl 134 (by decide) (hts (.fieldLink RX12 269 "OptimaWorksModel" "ruleB" "[I") (by decide +kernel)) (fun _ h9 => h9) rfl dX12_canHold_141 ?_
              refine lv_iload_n hx hb dX12_canHold_144 rfl (lv_at hl 1 rfl) ?_
              refine va_iald (cA := k 82) (n := 12) (f := (vF 82)) hx hb hK hP 83 82 (WR_get 82 (by decide)) (TR_get 82 (by decide)) (vp_in_nI (show rN < 12 by omega) (by omega)) dX12_canHold_145 ?_
              refine lv_topi (fun y11 hy11 => ?_)
              obtain rfl : ((vF 82) rN) = y11 := (hy11.trans (by rw [nI_clamp (by omega)])).symm
              refine lv_icmp_gt (tgt := 153) hx hb dX12_canHold_146 (by decide) (fun c_146 => ?_) (fun c_146 => ?_)
              · have t_146 : (r137).toInt > (((vF 82) rN)).toInt := toI_gt c_146 rfl rfl
                refine lv_iconst (v := 0) hx hb dX12_canHold_153 (by decide) ?_
                refine W.widen (k := 0) (n := 0) (by decide +kernel) (by decide +kernel) ?_
                have e9 : fT (fT (fT vF 87 (vF 87)) 88 (vF 88)) 89 (vF 89) = vF := (fT_id _ _ ((fT_ne _ _ (Nat.ne_of_beq_eq_false rfl)).trans (fT_ne _ _ (Nat.ne_of_beq_eq_false rfl)))).trans ((fT_id _ _ (fT_ne _ _ (Nat.ne_of_beq_eq_false rfl))).trans (fT_id _ _ (rfl)))
                have hP : va_P (dC, dI) vwCl (WR a k h0 vi vj (fT (fT (fT vF 87 (vF 87)) 88 (vF 88)) 89 (vF 89)) vG) H := by rw [e9]; exact hP
                have hD : va_D A (WR a k h0 vi vj (fT (fT (fT vF 87 (vF 87)) 88 (vF 88)) 89 (vF 89)) vG) := by rw [e9]; exact hD
                clear e9
                exact W.zret (v := 0) hx hb hr rfl (fun t9_ ht hW => ⟨⟨0, ((vF 87), (vF 88), (vF 89)), rfl, by (try dsimp only); exact Or.inr rfl, by rw [ht]; exact hP, hD⟩, hS.F ht⟩) hS.2.2 dX12_canHold_154
              · have t_146 : ¬ (r137).toInt > (((vF 82) rN)).toInt := toI_ngt c_146 rfl rfl
                refine lv_iconst (v := 1) hx hb dX12_canHold_149 (by decide) ?_
                refine lv_goto (tgt := 154) hx hb dX12_canHold_150 (by decide) ?_
                refine W.widen (k := 0) (n := 0) (by decide +kernel) (by decide +kernel) ?_
                have e9 : fT (fT (fT vF 87 (vF 87)) 88 (vF 88)) 89 (vF 89) = vF := (fT_id _ _ ((fT_ne _ _ (Nat.ne_of_beq_eq_false rfl)).trans (fT_ne _ _ (Nat.ne_of_beq_eq_false rfl)))).trans ((fT_id _ _ (fT_ne _ _ (Nat.ne_of_beq_eq_false rfl))).trans (fT_id _ _ (rfl)))
                have hP : va_P (dC, dI) vwCl (WR a k h0 vi vj (fT (fT (fT vF 87 (vF 87)) 88 (vF 88)) 89 (vF 89)) vG) H := by rw [e9]; exact hP
                have hD : va_D A (WR a k h0 vi vj (fT (fT (fT vF 87 (vF 87)) 88 (vF 88)) 89 (vF 89)) vG) := by rw [e9]; exact hD
                clear e9
                exact W.zret (v := 1) hx hb hr rfl (fun t9_ ht hW => ⟨⟨1, ((vF 87), (vF 88), (vF 89)), rfl, by (try dsimp only); exact Or.inl rfl, by rw [ht]; exact hP, hD⟩, hS.F ht⟩) hS.2.2 dX12_canHold_154
            · have ts_48_3 : ¬ (((vF 80) rN)).toInt = 3 := toI_neq s_48_3 rfl (by decide)
              refine lv_tableOut (tgt := 155) hx hb dX12_canHold_48 (by have := lv_neT s_48_0 (show Int32.toInt 0 = 0 by decide); have := lv_neT s_48_1 (show Int32.toInt 1 = 1 by decide); have := lv_neT s_48_2 (show Int32.toInt 2 = 2 by decide); have := lv_neT s_48_3 (show Int32.toInt 3 = 3 by decide); omega) (by decide) ?_
              obtain ⟨⟨x5, hx5, ex5⟩, y5, hy5, ey5⟩ : (∃ x, x < hn ∧ vF 81 rN = nI x) ∧ ∃ x, x < hn ∧ vF 82 rN = nI x := by rcases hRV with h9 | h9 | h9; (exfalso; rcases h9 with h9 | h9 | h9; (exact s_48_0 h9); (exact s_48_2 h9); (exact s_48_3 h9)); (exact absurd h9.1 s_48_1); (exact h9.2)
              refine lv_aload_n hx hb dX12_canHold_155 rfl (lv_at hl 0 rfl) ?_
              refine lv_iload_n hx hb dX12_canHold_156 rfl (lv_at hl 1 rfl) ?_
              have hFc := allFree hD hS hA
              refine va_calli (va_runV (As := [.int (nI rN)]) (rest := []) ⟨hx, hb, hml, hown, hts⟩ (r_X12_canPair l dC dI a k h0 vi vj vF vG rN x5 y5 (by first | with_reducible assumption | decide | omega | rfl | assumption) (by first | with_reducible assumption | decide | omega | rfl | assumption) (by first | with_reducible assumption | decide | omega | rfl | assumption) (ex5) (ey5) H.size) (cwV 1 hts gwsRX12_canHold_5 rfl rfl rfl hd_yX12_canPair_RX12 (by decide +kernel)) (fz_pre (va_recv hK hP (ci := 12) (q0 := 0) rfl rfl) hP hK hD) rfl rfl hl.1 rfl (lv_room (Nat.le_of_ble_eq_true rfl)) dX12_canHold_157 (by decide +kernel)) hS (fun q _ h => hFc q h) hFc (fun r157 u t9_ H locs ht hvm hw9 hB9 hz1 hk1 hS => ?_)
              have hP : va_P (dC, dI) vwCl (WR a k h0 vi vj vF vG) H := fz_P ht hB9.1
              have hD : va_D A (WR a k h0 vi vj vF vG) := hB9.2.weaken (fun _ q _ h => hFc q.1 h)
              rcases hw9 with rfl | rfl
              · refine W.widen (k := 0) (n := 0) (by decide +kernel) (by decide +kernel) ?_
                have e9 : fT (fT (fT vF 87 (vF 87)) 88 (vF 88)) 89 (vF 89) = vF := (fT_id _ _ ((fT_ne _ _ (Nat.ne_of_beq_eq_false rfl)).trans (fT_ne _ _ (Nat.ne_of_beq_eq_false rfl)))).trans ((fT_id _ _ (fT_ne _ _ (Nat.ne_of_beq_eq_false rfl))).trans (fT_id _ _ (rfl)))
                have hP : va_P (dC, dI) vwCl (WR a k h0 vi vj (fT (fT (fT vF 87 (vF 87)) 88 (vF 88)) 89 (vF 89)) vG) H := by rw [e9]; exact hP
                have hD : va_D A (WR a k h0 vi vj (fT (fT (fT vF 87 (vF 87)) 88 (vF 88)) 89 (vF 89)) vG) := by rw [e9]; exact hD
                clear e9
                exact W.zret (v := 1) hx hb hr rfl (fun t9_ ht hW => ⟨⟨1, ((vF 87), (vF 88), (vF 89)), rfl, by (try dsimp only); exact Or.inl rfl, by rw [ht]; exact hP, hD⟩, hS.F ht⟩) hS.2.2 dX12_canHold_160
              · refine W.widen (k := 0) (n := 0) (by decide +kernel) (by decide +kernel) ?_
                have e9 : fT (fT (fT vF 87 (vF 87)) 88 (vF 88)) 89 (vF 89) = vF := (fT_id _ _ ((fT_ne _ _ (Nat.ne_of_beq_eq_false rfl)).trans (fT_ne _ _ (Nat.ne_of_beq_eq_false rfl)))).trans ((fT_id _ _ (fT_ne _ _ (Nat.ne_of_beq_eq_false rfl))).trans (fT_id _ _ (rfl)))
                have hP : va_P (dC, dI) vwCl (WR a k h0 vi vj (fT (fT (fT vF 87 (vF 87)) 88 (vF 88)) 89 (vF 89)) vG) H := by rw [e9]; exact hP
                have hD : va_D A (WR a k h0 vi vj (fT (fT (fT vF 87 (vF 87)) 88 (vF 88)) 89 (vF 89)) vG) := by rw [e9]; exact hD
                clear e9
                exact W.zret (v := 0) hx hb hr rfl (fun t9_ ht hW => ⟨⟨0, ((vF 87), (vF 88), (vF 89)), rfl, by (try dsimp only); exact Or.inr rfl, by rw [ht]; exact hP, hD⟩, hS.F ht⟩) hS.2.2 dX12_canHold_160
    · have t_13 : ¬ ((i5 : Nat) : Int) ≥ ((hn : Nat) : Int) := toI_nge c_13 (nI_toInt (by omega)) (nI_toInt (by omega))
      refine lv_iload_n hx hb dX12_canHold_16 rfl (lv_at hl 2 rfl) ?_
      refine lv_iload_n hx hb dX12_canHold_17 rfl (lv_at hl 3 rfl) ?_
      refine lv_ishr hx hb dX12_canHold_18 ?_
      refine lv_iconst (v := 1) hx hb dX12_canHold_19 (by decide) ?_
      refine lv_iand hx hb dX12_canHold_20 ?_
      refine lv_iconst (v := 1) hx hb dX12_canHold_21 (by decide) ?_
      refine lv_icmp_ne (tgt := 36) hx hb dX12_canHold_22 (by decide) (fun c_22 => ?_) (fun c_22 => ?_)
      · have t_22 : (((r2 >>> ((nI i5) &&& 31)) &&& 1)).toInt ≠ 1 := toI_ne c_22 rfl (by decide)
        refine lv_iinc (v := (nI (i5 + 1))) hx hb dX12_canHold_36 hl (k := 3) rfl (nI_add i5 1) (by decide) rfl (fun ls (hl : lv_has ls _ ([(3, .int (nI (i5 + 1))), (0, .ref h0), (1, .int (nI rN)), (2, .int r2)])) => ?_)
        refine lv_goto (tgt := 8) hx hb dX12_canHold_39 (by decide) ?_
        have hl : lv_has _ _ ([(0, .ref h0), (1, .int (nI rN)), (2, .int r2), (3, .int (nI (i5 + 1)))]) := lv_sub hl [1, 2, 3, 0] rfl
        exact ih8 (i5 + 1) _ _ _ (by omega) (by omega) hP hD hS hl
      · have t_22 : (((r2 >>> ((nI i5) &&& 31)) &&& 1)).toInt = 1 := toI_nne c_22 rfl (by decide)
        refine lv_aload_n hx hb dX12_canHold_25 rfl (lv_at hl 0 rfl) ?_
        refine va_get (D := (dC, dI)) (ci := 12) (v := .ref (a 86)) (C := RX12) (T := TX12) (N := 163) (fs := fM (vS a vi vj)) hx hb hts iwsRX12_canHold_in12 hown hK hP 0 rfl rfl 139 (by decide) (hts (.fieldLink RX12 281 "OptimaWorksModel" "with" "[I") (by decide +kernel)) (fun _ h9 => h9) rfl dX12_canHold_26 ?_
        refine lv_iload_n hx hb dX12_canHold_29 rfl (lv_at hl 3 rfl) ?_
        refine va_iald (cA := k 86) (n := 10) (f := (vF 86)) hx hb hK hP 87 86 (WR_get 86 (by decide)) (TR_get 86 (by decide)) (vp_in_nI (show i5 < 10 by omega) (by omega)) dX12_canHold_30 ?_
        refine lv_topi (fun y12 hy12 => ?_)
        obtain rfl : ((vF 86) i5) = y12 := (hy12.trans (by rw [nI_clamp (by omega)])).symm
        refine lv_if_ne (tgt := 36) hx hb dX12_canHold_31 (by decide) (fun c_31 => ?_) (fun c_31 => ?_)
        · have t_31 : (((vF 86) i5)).toInt ≠ 0 := toI_ne c_31 rfl (by decide)
          refine lv_iinc (v := (nI (i5 + 1))) hx hb dX12_canHold_36 hl (k := 3) rfl (nI_add i5 1) (by decide) rfl (fun ls (hl : lv_has ls _ ([(3, .int (nI (i5 + 1))), (0, .ref h0), (1, .int (nI rN)), (2, .int r2)])) => ?_)
          refine lv_goto (tgt := 8) hx hb dX12_canHold_39 (by decide) ?_
          have hl : lv_has _ _ ([(0, .ref h0), (1, .int (nI rN)), (2, .int r2), (3, .int (nI (i5 + 1)))]) := lv_sub hl [1, 2, 3, 0] rfl
          exact ih8 (i5 + 1) _ _ _ (by omega) (by omega) hP hD hS hl
        · have t_31 : (((vF 86) i5)).toInt = 0 := toI_nne c_31 rfl (by decide)
          refine lv_iconst (v := 0) hx hb dX12_canHold_34 (by decide) ?_
          refine W.widen (k := 0) (n := 0) (by decide +kernel) (by decide +kernel) ?_
          have e9 : fT (fT (fT vF 87 (vF 87)) 88 (vF 88)) 89 (vF 89) = vF := (fT_id _ _ ((fT_ne _ _ (Nat.ne_of_beq_eq_false rfl)).trans (fT_ne _ _ (Nat.ne_of_beq_eq_false rfl)))).trans ((fT_id _ _ (fT_ne _ _ (Nat.ne_of_beq_eq_false rfl))).trans (fT_id _ _ (rfl)))
          have hP : va_P (dC, dI) vwCl (WR a k h0 vi vj (fT (fT (fT vF 87 (vF 87)) 88 (vF 88)) 89 (vF 89)) vG) H := by rw [e9]; exact hP
          have hD : va_D A (WR a k h0 vi vj (fT (fT (fT vF 87 (vF 87)) 88 (vF 88)) 89 (vF 89)) vG) := by rw [e9]; exact hD
          clear e9
          exact W.zret (v := 0) hx hb hr rfl (fun t9_ ht hW => ⟨⟨0, ((vF 87), (vF 88), (vF 89)), rfl, by (try dsimp only); exact Or.inr rfl, by rw [ht]; exact hP, hD⟩, hS.F ht⟩) hS.2.2 dX12_canHold_35
theorem dX12_supports_0 : decode cX12_supports 0 = .ok (.iconst 0, 1) := dk_3 (by decide +kernel)
theorem dX12_supports_1 : decode cX12_supports 1 = .ok (.istore 4, 2) := dk_54 (by decide +kernel)
theorem dX12_supports_3 : decode cX12_supports 3 = .ok (.iload 4, 2) := dk_21 (by decide +kernel)
theorem dX12_supports_5 : decode cX12_supports 5 = .ok (.aload_n 0, 1) := dk_42 (by decide +kernel)
theorem dX12_supports_6 : decode cX12_supports 6 = .ok (.getfield 978, 3) := dk_180 (by decide +kernel)
theorem dX12_supports_9 : decode cX12_supports 9 = .ok (.if_icmp .ge 35, 3) := dk_162 (by decide +kernel)
theorem dX12_supports_12 : decode cX12_supports 12 = .ok (.aload_n 0, 1) := dk_42 (by decide +kernel)
theorem dX12_supports_13 : decode cX12_supports 13 = .ok (.getfield 281, 3) := dk_180 (by decide +kernel)
theorem dX12_supports_16 : decode cX12_supports 16 = .ok (.iload 4, 2) := dk_21 (by decide +kernel)
theorem dX12_supports_18 : decode cX12_supports 18 = .ok (.iload 4, 2) := dk_21 (by decide +kernel)
theorem dX12_supports_20 : decode cX12_supports 20 = .ok (.iload_n 2, 1) := dk_28 (by decide +kernel)
theorem dX12_supports_21 : decode cX12_supports 21 = .ok (.if_icmp .ne 9, 3) := dk_160 (by decide +kernel)
theorem dX12_supports_24 : decode cX12_supports 24 = .ok (.iconst 1, 1) := dk_4 (by decide +kernel)
theorem dX12_supports_25 : decode cX12_supports 25 = .ok (.iload_n 3, 1) := dk_29 (by decide +kernel)
theorem dX12_supports_26 : decode cX12_supports 26 = .ok (.ishl, 1) := dk_120 (by decide +kernel)
theorem dX12_supports_27 : decode cX12_supports 27 = .ok (.goto 10, 3) := dk_167 (by decide +kernel)
theorem dX12_supports_30 : decode cX12_supports 30 = .ok (.aload_n 0, 1) := dk_42 (by decide +kernel)
theorem dX12_supports_31 : decode cX12_supports 31 = .ok (.getfield 260, 3) := dk_180 (by decide +kernel)
theorem dX12_supports_34 : decode cX12_supports 34 = .ok (.iload 4, 2) := dk_21 (by decide +kernel)
theorem dX12_supports_36 : decode cX12_supports 36 = .ok (.iaload, 1) := dk_46 (by decide +kernel)
theorem dX12_supports_37 : decode cX12_supports 37 = .ok (.iastore, 1) := dk_79 (by decide +kernel)
theorem dX12_supports_38 : decode cX12_supports 38 = .ok (.iinc 4 1, 3) := dk_132 (by decide +kernel)
theorem dX12_supports_41 : decode cX12_supports 41 = .ok (.goto (-38), 3) := dk_167 (by decide +kernel)
theorem dX12_supports_44 : decode cX12_supports 44 = .ok (.aload_n 0, 1) := dk_42 (by decide +kernel)
theorem dX12_supports_45 : decode cX12_supports 45 = .ok (.iload_n 1, 1) := dk_27 (by decide +kernel)
theorem dX12_supports_46 : decode cX12_supports 46 = .ok (.invokevirtual 1019, 3) := dk_182 (by decide +kernel)
theorem dX12_supports_49 : decode cX12_supports 49 = .ok (.ireturn, 1) := dk_172 (by decide +kernel)
def wsRX12_supports : List Cond := .code yX12_supports cX12_supports 5 (some .boolean) :: ([.fieldLink RX12 978 "OptimaWorksModel" "holders" "I", .fieldLink RX12 281 "OptimaWorksModel" "with" "[I", .fieldLink RX12 260 "OptimaWorksModel" "now" "[I"] ++ wsX120 ++ (wsV RX12 1019 RX12 yX12_canHold wsRX12_canHold))
theorem iwsRX12_supports_in12 : ∀ w ∈ wsX120, w ∈ wsRX12_supports := fun _ h => List.mem_cons_of_mem _ (List.mem_append_left _ (List.mem_append_right _ h))
theorem gwsRX12_supports_0 : GoodIn wsRX12_supports (wsV RX12 1019 RX12 yX12_canHold wsRX12_canHold) := goodIn_sub (fun _ h => List.mem_cons_of_mem _ (List.mem_append_right _ h)) (gdV (by decide +kernel) gdwsRX12_canHold)
theorem gdwsRX12_supports : wsRX12_supports.all goodWord = true := gdC rfl (gdA (gdA (by decide +kernel : ([.fieldLink RX12 978 "OptimaWorksModel" "holders" "I", .fieldLink RX12 281 "OptimaWorksModel" "with" "[I", .fieldLink RX12 260 "OptimaWorksModel" "now" "[I"] : List Cond).all goodWord = true) gdwsX120) (gdV (by decide +kernel) gdwsRX12_canHold))
set_option maxHeartbeats 4000000 in
set_option maxRecDepth 100000 in
/-- supports(r, h, v) -/
theorem r_X12_supports (l : Launch) (dC : Nat → ClassId) (dI : Nat → Nat → Nat) (a : Nat → Nat) (k : Nat → ClassId) (h0 : Nat) (vi : Nat → Int32) (vj : Nat → Int64) (vF : Nat → Nat → Int32) (vG : Nat → Nat → Int64) (rN : Nat) (hn : Nat) (hI : Int32) (vI : Int32) (hrN : rN < 12) (hhn : vi 128 = nI hn) (hhn10 : hn ≤ 10) (hRV : RulV (vF 80 rN) (vF 81 rN) (vF 82 rN) (vF 83 rN) hn) (sz : Nat) : Met l yX12_supports wsRX12_supports ({ frames := 4, cells := 0, slots := 0, locals := 96 }) (va_Pc [.ref h0, .int (nI rN), .int hI, .int vI] (fun U => U.heap.size = sz ∧ va_P (dC, dI) vwCl (WR a k h0 vi vj vF vG) U.heap ∧ va_K (dC, dI) vwCl (tX12 k) U ∧ va_D (fun _ => True) (WR a k h0 vi vj vF vG))) (va_Qi (fun (r : Int32) (u : (Nat → Int32) × (Nat → Int32) × (Nat → Int32) × (Nat → Int32)) => (r = 1) ∨ (r = 0)) (fun (u : (Nat → Int32) × (Nat → Int32) × (Nat → Int32) × (Nat → Int32)) t => va_P (dC, dI) vwCl (WR a k h0 vi vj (fT (fT (fT (fT vF 86 (u.1)) 87 (u.2.1)) 88 (u.2.2.1)) 89 (u.2.2.2)) vG) t.heap ∧ va_D (va_A (WR a k h0 vi vj vF vG) sz) (WR a k h0 vi vj (fT (fT (fT (fT vF 86 (u.1)) 87 (u.2.1)) 88 (u.2.2.1)) 89 (u.2.2.2)) vG)) (va_A (WR a k h0 vi vj vF vG) sz)) 0 0 (va_A (WR a k h0 vi vj vF vG) sz) := by
  refine Met.ofW (cc := cX12_supports) (maxL := 5) (ret := (some .boolean)) (by decide) rfl ?_
  intro p e s m args below meth c s₁ B hml hv
  obtain ⟨rfl, hsz, hP, hK, hD0⟩ := hv
  have hx := B.exec
  have hb := B.bytes
  have hr := B.returns
  have hts := atoms_spec (ws := wsRX12_supports) B.pre
  have hown : s.vm.findClass RX12 = some m.cls := findClass_of_methodNamed B.named
  have hlocks := B.notSynchronized
  subst hsz
  have hD := hD0.self (sz := s.heap.size)
  generalize hAe : va_A (WR a k h0 vi vj vF vG) s.heap.size = A at hD ⊢
  have hA : ∀ q : Nat, s.heap.size ≤ q → A q := fun q h => by rw [← hAe]; exact Or.inr h
  have hS : va_S A s.heap s.heap [] := va_S.rf
  have hl := lv_entry ([.ref h0, .int (nI rN), .int hI, .int vI]) (n := 5) (Nat.le_of_ble_eq_true rfl)
  rw [lg_entry_eq]
  generalize (lg_sl ([.ref h0, .int (nI rN), .int hI, .int vI]) ++ List.replicate (5 - (lg_sl ([.ref h0, .int (nI rN), .int hI, .int vI])).length) Slot.unset).toArray = ls at hl ⊢
  have hl : lv_has ls 5 [(0, .ref h0), (1, .int (nI rN)), (2, .int hI), (3, .int vI)] := hl
  refine lv_iconst (v := 0) hx hb dX12_supports_0 (by decide) ?_
  refine lv_istore hx hb dX12_supports_1 hl (by decide) rfl (fun ls (hl : lv_has ls _ ([(4, .int 0), (0, .ref h0), (1, .int (nI rN)), (2, .int hI), (3, .int vI)])) => ?_)
  have e9 : fT vF 86 (vF 86) = vF := by funext q9; by_cases h9_86 : q9 = 86; (subst h9_86; exact (fT_eq _ _ _).trans (Eq.trans (by first | with_reducible rfl | with_reducible assumption | (symm; with_reducible assumption) | rfl | assumption | (symm; assumption) | (subst_vars; rfl)) (Eq.refl _).symm)); exact (fT_ne _ _ h9_86).trans (Eq.refl _).symm
  have hP : va_P (dC, dI) vwCl (WR a k h0 vi vj (fT vF 86 (vF 86)) vG) s.heap := by rw [e9]; exact hP
  have hD : va_D A (WR a k h0 vi vj (fT vF 86 (vF 86)) vG) := by rw [e9]; exact hD
  clear e9
  have hl : lv_has _ _ ([(0, .ref h0), (1, .int (nI rN)), (2, .int hI), (3, .int vI), (4, .int (nI 0))]) := lv_sub hl [1, 2, 3, 4, 0] rfl
  refine (fun (loop : ∀ (n9 : Nat) (i5 : Nat) (x2_F86 : Nat → Int32) (H : Heap) (locs : List Loc) (ls : Array Slot), (i5 ≤ hn) →  (hn < i5 + n9) → va_P (dC, dI) vwCl (WR a k h0 vi vj (fT vF 86 x2_F86) vG) H → va_D A (WR a k h0 vi vj (fT vF 86 x2_F86) vG) → va_S A s.heap H locs → lv_has ls 5 [(0, .ref h0), (1, .int (nI rN)), (2, .int hI), (3, .int vI), (4, .int (nI i5))] → W p l e _ s m _ below meth c H locs 0 0 _ (F0 m 3 ls [])) => loop (hn + 1) 0 (vF 86) _ _ _ (by omega) (by omega) hP hD hS hl) ?_
  intro n9
  induction n9 with
  | zero => intro i5 x2_F86 H locs ls hi5 hf9; exact False.elim (by omega)
  | succ n9 ih3 =>
    intro i5 x2_F86 H locs ls hi5 hf3 hP hD hS hl
    refine lv_iload hx hb dX12_supports_3 (lv_at hl 4 rfl) ?_
    refine lv_aload_n hx hb dX12_supports_5 rfl (lv_at hl 0 rfl) ?_
    refine va_get (D := (dC, dI)) (ci := 12) (v := .int (vi 128)) (C := RX12) (T := TX12) (N := 163) (fs := fM (vS a vi vj)) hx hb hts iwsRX12_supports_in12 hown hK hP 0 rfl rfl 128 (by decide) (hts (.fieldLink RX12 978 "OptimaWorksModel" "holders" "I") (by decide +kernel)) (fun _ h9 => h9) rfl dX12_supports_6 ?_
    refine lv_topi (fun y1 hy1 => ?_)
    obtain rfl : (nI hn) = y1 := (hy1.trans (hhn)).symm
    refine lv_icmp_ge (tgt := 44) hx hb dX12_supports_9 (by decide) (fun c_9 => ?_) (fun c_9 => ?_)
    · have t_9 : ((i5 : Nat) : Int) ≥ ((hn : Nat) : Int) := toI_ge c_9 (nI_toInt (by omega)) (nI_toInt (by omega))
      refine lv_aload_n hx hb dX12_supports_44 rfl (lv_at hl 0 rfl) ?_
      refine lv_iload_n hx hb dX12_supports_45 rfl (lv_at hl 1 rfl) ?_
      have hFc := allFree hD hS hA
      refine va_calli (va_runV (As := [.int (nI rN)]) (rest := []) ⟨hx, hb, hml, hown, hts⟩ (r_X12_canHold l dC dI a k h0 vi vj (fT vF 86 x2_F86) vG rN hn (by first | with_reducible assumption | decide | omega | rfl | assumption) hhn (by first | with_reducible assumption | decide | omega | rfl | assumption) (hRV) H.size) (cwV 1 hts gwsRX12_supports_0 rfl rfl rfl hd_yX12_canHold_RX12 (by decide +kernel)) (fz_pre (va_recv hK hP (ci := 12) (q0 := 0) rfl rfl) hP hK hD) rfl rfl hl.1 rfl (lv_room (Nat.le_of_ble_eq_true rfl)) dX12_supports_46 (by decide +kernel)) hS (fun q _ h => hFc q h) hFc (fun r46 u t9_ H locs ht hvm hw9 hB9 hz1 hk1 hS => ?_)
      revert u hw9 hB9
      refine fz_p3 ?_
      intro g8746 g8846 g8946 hw9 hB9
      try dsimp only at hw9 hB9
      have hP : va_P (dC, dI) vwCl (WR a k h0 vi vj (fT (fT (fT (fT vF 86 x2_F86) 87 g8746) 88 g8846) 89 g8946) vG) H := fz_P ht hB9.1
      have hD : va_D A (WR a k h0 vi vj (fT (fT (fT (fT vF 86 x2_F86) 87 g8746) 88 g8846) 89 g8946) vG) := hB9.2.weaken (fun _ q _ h => hFc q.1 h)
      rcases hw9 with rfl | rfl
      · refine W.widen (k := 0) (n := 0) (by decide +kernel) (by decide +kernel) ?_
        exact W.zret (v := 1) hx hb hr rfl (fun t9_ ht hW => ⟨⟨1, (x2_F86, g8746, g8846, g8946), rfl, by (try dsimp only); exact Or.inl rfl, by rw [ht]; exact hP, hD⟩, hS.F ht⟩) hS.2.2 dX12_supports_49
      · refine W.widen (k := 0) (n := 0) (by decide +kernel) (by decide +kernel) ?_
        exact W.zret (v := 0) hx hb hr rfl (fun t9_ ht hW => ⟨⟨0, (x2_F86, g8746, g8846, g8946), rfl, by (try dsimp only); exact Or.inr rfl, by rw [ht]; exact hP, hD⟩, hS.F ht⟩) hS.2.2 dX12_supports_49
    · have t_9 : ¬ ((i5 : Nat) : Int) ≥ ((hn : Nat) : Int) := toI_nge c_9 (nI_toInt (by omega)) (nI_toInt (by omega))
      refine lv_aload_n hx hb dX12_supports_12 rfl (lv_at hl 0 rfl) ?_
      refine va_get (D := (dC, dI)) (ci := 12) (v := .ref (a 86)) (C := RX12) (T := TX12) (N := 163) (fs := fM (vS a vi vj)) hx hb hts iwsRX12_supports_in12 hown hK hP 0 rfl rfl 139 (by decide) (hts (.fieldLink RX12 281 "OptimaWorksModel" "with" "[I") (by decide +kernel)) (fun _ h9 => h9) rfl dX12_supports_13 ?_
      refine lv_iload hx hb dX12_supports_16 (lv_at hl 4 rfl) ?_
      refine lv_iload hx hb dX12_supports_18 (lv_at hl 4 rfl) ?_
      refine lv_iload_n hx hb dX12_supports_20 rfl (lv_at hl 2 rfl) ?_
      refine W.cut (pc := 37) (fun H locs ls stk => ∃ (j3_s0 : Int32),  stk = [.int j3_s0, .int (nI i5), .ref (a 86)] ∧ va_P (dC, dI) vwCl (WR a k h0 vi vj (fT vF 86 x2_F86) vG) H ∧ va_D A (WR a k h0 vi vj (fT vF 86 x2_F86) vG) ∧ va_S A s.heap H locs ∧ lv_has ls 5 [(0, .ref h0), (1, .int (nI rN)), (2, .int hI), (3, .int vI), (4, .int (nI i5))]) (fun join1 => ?_) ?_
      · refine lv_icmp_ne (tgt := 30) hx hb dX12_supports_21 (by decide) (fun c_21 => ?_) (fun c_21 => ?_)
        · have t_21 : ((i5 : Nat) : Int) ≠ (hI).toInt := toI_ne c_21 (nI_toInt (by omega)) rfl
          refine lv_aload_n hx hb dX12_supports_30 rfl (lv_at hl 0 rfl) ?_
          refine va_get (D := (dC, dI)) (ci := 12) (v := .ref (a 79)) (C := RX12) (T := TX12) (N := 163) (fs := fM (vS a vi vj)) hx hb hts iwsRX12_supports_in12 hown hK hP 0 rfl rfl 131 (by decide) (hts (.fieldLink RX12 260 "OptimaWorksModel" "now" "[I") (by decide +kernel)) (fun _ h9 => h9) rfl dX12_supports_31 ?_
          refine lv_iload hx hb dX12_supports_34 (lv_at hl 4 rfl) ?_
          refine va_iald (cA := k 79) (n := 10) (f := (vF 79)) hx hb hK hP 80 79 (WR_get 79 (by decide)) (TR_get 79 (by decide)) (vp_in_nI (show i5 < 10 by omega) (by omega)) dX12_supports_36 ?_
          refine lv_topi (fun y2 hy2 => ?_)
          obtain rfl : ((vF 79) i5) = y2 := (hy2.trans (by rw [nI_clamp (by omega)])).symm
          have hl : lv_has _ _ ([(0, .ref h0), (1, .int (nI rN)), (2, .int hI), (3, .int vI), (4, .int (nI i5))]) := lv_sub hl [0, 1, 2, 3, 4] rfl
          exact join1 _ _ _ _ ⟨((vF 79) i5), rfl, hP, hD, hS, hl⟩
        · have t_21 : ((i5 : Nat) : Int) = (hI).toInt := toI_nne c_21 (nI_toInt (by omega)) rfl
          refine lv_iconst (v := 1) hx hb dX12_supports_24 (by decide) ?_
          refine lv_iload_n hx hb dX12_supports_25 rfl (lv_at hl 3 rfl) ?_
          refine lv_ishl hx hb dX12_supports_26 ?_
          refine lv_goto (tgt := 37) hx hb dX12_supports_27 (by decide) ?_
          have hl : lv_has _ _ ([(0, .ref h0), (1, .int (nI rN)), (2, .int hI), (3, .int vI), (4, .int (nI i5))]) := lv_sub hl [0, 1, 2, 3, 4] rfl
          exact join1 _ _ _ _ ⟨(1 <<< (vI &&& 31)), rfl, hP, hD, hS, hl⟩
      · rintro H locs ls stk ⟨j3_s0, rfl, hP, hD, hS, hl⟩
        refine va_iast (cA := k 86) (n := 10) (f := x2_F86) hx hb hK hP hD hS 87 86 (WR_get 86 (by decide)) (TR_get 86 (by decide)) (vp_in_nI (show i5 < 10 by omega) (by omega)) dX12_supports_37 (fun H locs hP hD hS => ?_)
        have e9 : fT vF 86 (upd x2_F86 ((nI i5)).toNatClampNeg j3_s0) = fT (fT vF 86 x2_F86) 86 (upd x2_F86 ((nI i5)).toNatClampNeg j3_s0) := (fT_sm _ _ _ _).symm
        have hP : va_P (dC, dI) vwCl (WR a k h0 vi vj (fT vF 86 (upd x2_F86 ((nI i5)).toNatClampNeg j3_s0)) vG) H := by rw [e9, ← WR_F 86 (by decide) _ rfl]; exact hP
        have hD : va_D A (WR a k h0 vi vj (fT vF 86 (upd x2_F86 ((nI i5)).toNatClampNeg j3_s0)) vG) := by rw [e9, ← WR_F 86 (by decide) _ rfl]; exact hD
        clear e9
        refine lv_iinc (v := (nI (i5 + 1))) hx hb dX12_supports_38 hl (k := 4) rfl (nI_add i5 1) (by decide) rfl (fun ls (hl : lv_has ls _ ([(4, .int (nI (i5 + 1))), (0, .ref h0), (1, .int (nI rN)), (2, .int hI), (3, .int vI)])) => ?_)
        refine lv_goto (tgt := 3) hx hb dX12_supports_41 (by decide) ?_
        have hl : lv_has _ _ ([(0, .ref h0), (1, .int (nI rN)), (2, .int hI), (3, .int vI), (4, .int (nI (i5 + 1)))]) := lv_sub hl [1, 2, 3, 4, 0] rfl
        exact ih3 (i5 + 1) (upd x2_F86 ((nI i5)).toNatClampNeg j3_s0) _ _ _ (by omega) (by omega) hP hD hS hl
theorem dX12_leave_0 : decode cX12_leave 0 = .ok (.sipush 1023, 3) := dk_17 (by decide +kernel)
theorem dX12_leave_3 : decode cX12_leave 3 = .ok (.istore_n 1, 1) := dk_60 (by decide +kernel)
theorem dX12_leave_4 : decode cX12_leave 4 = .ok (.iload_n 1, 1) := dk_27 (by decide +kernel)
theorem dX12_leave_5 : decode cX12_leave 5 = .ok (.ifCond .eq 228, 3) := dk_153 (by decide +kernel)
theorem dX12_leave_8 : decode cX12_leave 8 = .ok (.iload_n 1, 1) := dk_27 (by decide +kernel)
theorem dX12_leave_9 : decode cX12_leave 9 = .ok (.istore_n 2, 1) := dk_61 (by decide +kernel)
theorem dX12_leave_10 : decode cX12_leave 10 = .ok (.iconst 0, 1) := dk_3 (by decide +kernel)
theorem dX12_leave_11 : decode cX12_leave 11 = .ok (.istore_n 1, 1) := dk_60 (by decide +kernel)
theorem dX12_leave_12 : decode cX12_leave 12 = .ok (.iconst 0, 1) := dk_3 (by decide +kernel)
theorem dX12_leave_13 : decode cX12_leave 13 = .ok (.istore_n 3, 1) := dk_62 (by decide +kernel)
theorem dX12_leave_14 : decode cX12_leave 14 = .ok (.iload_n 3, 1) := dk_29 (by decide +kernel)
theorem dX12_leave_15 : decode cX12_leave 15 = .ok (.aload_n 0, 1) := dk_42 (by decide +kernel)
theorem dX12_leave_16 : decode cX12_leave 16 = .ok (.getfield 990, 3) := dk_180 (by decide +kernel)
theorem dX12_leave_19 : decode cX12_leave 19 = .ok (.if_icmp .ge 136, 3) := dk_162 (by decide +kernel)
theorem dX12_leave_22 : decode cX12_leave 22 = .ok (.aload_n 0, 1) := dk_42 (by decide +kernel)
theorem dX12_leave_23 : decode cX12_leave 23 = .ok (.getfield 1022, 3) := dk_180 (by decide +kernel)
theorem dX12_leave_26 : decode cX12_leave 26 = .ok (.iload_n 3, 1) := dk_29 (by decide +kernel)
theorem dX12_leave_27 : decode cX12_leave 27 = .ok (.ishr, 1) := dk_122 (by decide +kernel)
theorem dX12_leave_28 : decode cX12_leave 28 = .ok (.iconst 1, 1) := dk_4 (by decide +kernel)
theorem dX12_leave_29 : decode cX12_leave 29 = .ok (.iand, 1) := dk_126 (by decide +kernel)
theorem dX12_leave_30 : decode cX12_leave 30 = .ok (.iconst 1, 1) := dk_4 (by decide +kernel)
theorem dX12_leave_31 : decode cX12_leave 31 = .ok (.if_icmp .eq 118, 3) := dk_159 (by decide +kernel)
theorem dX12_leave_34 : decode cX12_leave 34 = .ok (.aload_n 0, 1) := dk_42 (by decide +kernel)
theorem dX12_leave_35 : decode cX12_leave 35 = .ok (.iload_n 3, 1) := dk_29 (by decide +kernel)
theorem dX12_leave_36 : decode cX12_leave 36 = .ok (.invokevirtual 994, 3) := dk_182 (by decide +kernel)
theorem dX12_leave_39 : decode cX12_leave 39 = .ok (.iload_n 2, 1) := dk_28 (by decide +kernel)
theorem dX12_leave_40 : decode cX12_leave 40 = .ok (.iload_n 1, 1) := dk_27 (by decide +kernel)
theorem dX12_leave_41 : decode cX12_leave 41 = .ok (.ior, 1) := dk_128 (by decide +kernel)
theorem dX12_leave_42 : decode cX12_leave 42 = .ok (.iand, 1) := dk_126 (by decide +kernel)
theorem dX12_leave_43 : decode cX12_leave 43 = .ok (.ifCond .ne 6, 3) := dk_154 (by decide +kernel)
theorem dX12_leave_46 : decode cX12_leave 46 = .ok (.goto 103, 3) := dk_167 (by decide +kernel)
theorem dX12_leave_49 : decode cX12_leave 49 = .ok (.iconst 0, 1) := dk_3 (by decide +kernel)
theorem dX12_leave_50 : decode cX12_leave 50 = .ok (.istore 4, 2) := dk_54 (by decide +kernel)
theorem dX12_leave_52 : decode cX12_leave 52 = .ok (.iload 4, 2) := dk_21 (by decide +kernel)
theorem dX12_leave_54 : decode cX12_leave 54 = .ok (.aload_n 0, 1) := dk_42 (by decide +kernel)
theorem dX12_leave_55 : decode cX12_leave 55 = .ok (.getfield 978, 3) := dk_180 (by decide +kernel)
theorem dX12_leave_58 : decode cX12_leave 58 = .ok (.if_icmp .ge 91, 3) := dk_162 (by decide +kernel)
theorem dX12_leave_61 : decode cX12_leave 61 = .ok (.iconst 0, 1) := dk_3 (by decide +kernel)
theorem dX12_leave_62 : decode cX12_leave 62 = .ok (.istore 5, 2) := dk_54 (by decide +kernel)
theorem dX12_leave_64 : decode cX12_leave 64 = .ok (.iload 5, 2) := dk_21 (by decide +kernel)
theorem dX12_leave_66 : decode cX12_leave 66 = .ok (.bipush 16, 2) := dk_16 (by decide +kernel)
theorem dX12_leave_68 : decode cX12_leave 68 = .ok (.if_icmp .ge 75, 3) := dk_162 (by decide +kernel)
theorem dX12_leave_71 : decode cX12_leave 71 = .ok (.aload_n 0, 1) := dk_42 (by decide +kernel)
theorem dX12_leave_72 : decode cX12_leave 72 = .ok (.iload_n 3, 1) := dk_29 (by decide +kernel)
theorem dX12_leave_73 : decode cX12_leave 73 = .ok (.invokevirtual 994, 3) := dk_182 (by decide +kernel)
theorem dX12_leave_76 : decode cX12_leave 76 = .ok (.iload 4, 2) := dk_21 (by decide +kernel)
theorem dX12_leave_78 : decode cX12_leave 78 = .ok (.ishr, 1) := dk_122 (by decide +kernel)
theorem dX12_leave_79 : decode cX12_leave 79 = .ok (.iconst 1, 1) := dk_4 (by decide +kernel)
theorem dX12_leave_80 : decode cX12_leave 80 = .ok (.iand, 1) := dk_126 (by decide +kernel)
theorem dX12_leave_81 : decode cX12_leave 81 = .ok (.ifCond .eq 56, 3) := dk_153 (by decide +kernel)
theorem dX12_leave_84 : decode cX12_leave 84 = .ok (.aload_n 0, 1) := dk_42 (by decide +kernel)
theorem dX12_leave_85 : decode cX12_leave 85 = .ok (.getfield 260, 3) := dk_180 (by decide +kernel)
theorem dX12_leave_88 : decode cX12_leave 88 = .ok (.iload 4, 2) := dk_21 (by decide +kernel)
theorem dX12_leave_90 : decode cX12_leave 90 = .ok (.iaload, 1) := dk_46 (by decide +kernel)
theorem dX12_leave_91 : decode cX12_leave 91 = .ok (.iload 5, 2) := dk_21 (by decide +kernel)
theorem dX12_leave_93 : decode cX12_leave 93 = .ok (.ishr, 1) := dk_122 (by decide +kernel)
theorem dX12_leave_94 : decode cX12_leave 94 = .ok (.iconst 1, 1) := dk_4 (by decide +kernel)
theorem dX12_leave_95 : decode cX12_leave 95 = .ok (.iand, 1) := dk_126 (by decide +kernel)
theorem dX12_leave_96 : decode cX12_leave 96 = .ok (.ifCond .eq 41, 3) := dk_153 (by decide +kernel)
theorem dX12_leave_99 : decode cX12_leave 99 = .ok (.aload_n 0, 1) := dk_42 (by decide +kernel)
theorem dX12_leave_100 : decode cX12_leave 100 = .ok (.iload_n 3, 1) := dk_29 (by decide +kernel)
theorem dX12_leave_101 : decode cX12_leave 101 = .ok (.iload 4, 2) := dk_21 (by decide +kernel)
theorem dX12_leave_103 : decode cX12_leave 103 = .ok (.iload 5, 2) := dk_21 (by decide +kernel)
theorem dX12_leave_105 : decode cX12_leave 105 = .ok (.invokevirtual 1025, 3) := dk_182 (by decide +kernel)
theorem dX12_leave_108 : decode cX12_leave 108 = .ok (.ifCond .eq 6, 3) := dk_153 (by decide +kernel)
theorem dX12_leave_111 : decode cX12_leave 111 = .ok (.goto 26, 3) := dk_167 (by decide +kernel)
theorem dX12_leave_114 : decode cX12_leave 114 = .ok (.aload_n 0, 1) := dk_42 (by decide +kernel)
theorem dX12_leave_115 : decode cX12_leave 115 = .ok (.getfield 260, 3) := dk_180 (by decide +kernel)
theorem dX12_leave_118 : decode cX12_leave 118 = .ok (.iload 4, 2) := dk_21 (by decide +kernel)
theorem dX12_leave_120 : decode cX12_leave 120 = .ok (.dup2, 1) := dk_92 (by decide +kernel)
theorem dX12_leave_121 : decode cX12_leave 121 = .ok (.iaload, 1) := dk_46 (by decide +kernel)
theorem dX12_leave_122 : decode cX12_leave 122 = .ok (.iconst 1, 1) := dk_4 (by decide +kernel)
theorem dX12_leave_123 : decode cX12_leave 123 = .ok (.iload 5, 2) := dk_21 (by decide +kernel)
theorem dX12_leave_125 : decode cX12_leave 125 = .ok (.ishl, 1) := dk_120 (by decide +kernel)
theorem dX12_leave_126 : decode cX12_leave 126 = .ok (.iconst (-1), 1) := dk_2 (by decide +kernel)
theorem dX12_leave_127 : decode cX12_leave 127 = .ok (.ixor, 1) := dk_130 (by decide +kernel)
theorem dX12_leave_128 : decode cX12_leave 128 = .ok (.iand, 1) := dk_126 (by decide +kernel)
theorem dX12_leave_129 : decode cX12_leave 129 = .ok (.iastore, 1) := dk_79 (by decide +kernel)
theorem dX12_leave_130 : decode cX12_leave 130 = .ok (.iload_n 1, 1) := dk_27 (by decide +kernel)
theorem dX12_leave_131 : decode cX12_leave 131 = .ok (.iconst 1, 1) := dk_4 (by decide +kernel)
theorem dX12_leave_132 : decode cX12_leave 132 = .ok (.iload 4, 2) := dk_21 (by decide +kernel)
theorem dX12_leave_134 : decode cX12_leave 134 = .ok (.ishl, 1) := dk_120 (by decide +kernel)
theorem dX12_leave_135 : decode cX12_leave 135 = .ok (.ior, 1) := dk_128 (by decide +kernel)
theorem dX12_leave_136 : decode cX12_leave 136 = .ok (.istore_n 1, 1) := dk_60 (by decide +kernel)
theorem dX12_leave_137 : decode cX12_leave 137 = .ok (.iinc 5 1, 3) := dk_132 (by decide +kernel)
theorem dX12_leave_140 : decode cX12_leave 140 = .ok (.goto (-76), 3) := dk_167 (by decide +kernel)
theorem dX12_leave_143 : decode cX12_leave 143 = .ok (.iinc 4 1, 3) := dk_132 (by decide +kernel)
theorem dX12_leave_146 : decode cX12_leave 146 = .ok (.goto (-94), 3) := dk_167 (by decide +kernel)
theorem dX12_leave_149 : decode cX12_leave 149 = .ok (.iinc 3 1, 3) := dk_132 (by decide +kernel)
theorem dX12_leave_152 : decode cX12_leave 152 = .ok (.goto (-138), 3) := dk_167 (by decide +kernel)
theorem dX12_leave_155 : decode cX12_leave 155 = .ok (.iconst 0, 1) := dk_3 (by decide +kernel)
theorem dX12_leave_156 : decode cX12_leave 156 = .ok (.istore_n 3, 1) := dk_62 (by decide +kernel)
theorem dX12_leave_157 : decode cX12_leave 157 = .ok (.iconst 0, 1) := dk_3 (by decide +kernel)
theorem dX12_leave_158 : decode cX12_leave 158 = .ok (.istore 4, 2) := dk_54 (by decide +kernel)
theorem dX12_leave_160 : decode cX12_leave 160 = .ok (.iload 4, 2) := dk_21 (by decide +kernel)
theorem dX12_leave_162 : decode cX12_leave 162 = .ok (.aload_n 0, 1) := dk_42 (by decide +kernel)
theorem dX12_leave_163 : decode cX12_leave 163 = .ok (.getfield 978, 3) := dk_180 (by decide +kernel)
theorem dX12_leave_166 : decode cX12_leave 166 = .ok (.if_icmp .ge 29, 3) := dk_162 (by decide +kernel)
theorem dX12_leave_169 : decode cX12_leave 169 = .ok (.iload_n 3, 1) := dk_29 (by decide +kernel)
theorem dX12_leave_170 : decode cX12_leave 170 = .ok (.ifCond .ne 13, 3) := dk_154 (by decide +kernel)
theorem dX12_leave_173 : decode cX12_leave 173 = .ok (.aload_n 0, 1) := dk_42 (by decide +kernel)
theorem dX12_leave_174 : decode cX12_leave 174 = .ok (.getfield 260, 3) := dk_180 (by decide +kernel)
theorem dX12_leave_177 : decode cX12_leave 177 = .ok (.iload 4, 2) := dk_21 (by decide +kernel)
theorem dX12_leave_179 : decode cX12_leave 179 = .ok (.iaload, 1) := dk_46 (by decide +kernel)
theorem dX12_leave_180 : decode cX12_leave 180 = .ok (.ifCond .ne 7, 3) := dk_154 (by decide +kernel)
theorem dX12_leave_183 : decode cX12_leave 183 = .ok (.iconst 1, 1) := dk_4 (by decide +kernel)
theorem dX12_leave_184 : decode cX12_leave 184 = .ok (.goto 4, 3) := dk_167 (by decide +kernel)
theorem dX12_leave_187 : decode cX12_leave 187 = .ok (.iconst 0, 1) := dk_3 (by decide +kernel)
theorem dX12_leave_188 : decode cX12_leave 188 = .ok (.istore_n 3, 1) := dk_62 (by decide +kernel)
theorem dX12_leave_189 : decode cX12_leave 189 = .ok (.iinc 4 1, 3) := dk_132 (by decide +kernel)
theorem dX12_leave_192 : decode cX12_leave 192 = .ok (.goto (-32), 3) := dk_167 (by decide +kernel)
theorem dX12_leave_195 : decode cX12_leave 195 = .ok (.iconst 0, 1) := dk_3 (by decide +kernel)
theorem dX12_leave_196 : decode cX12_leave 196 = .ok (.istore 4, 2) := dk_54 (by decide +kernel)
theorem dX12_leave_198 : decode cX12_leave 198 = .ok (.iload 4, 2) := dk_21 (by decide +kernel)
theorem dX12_leave_200 : decode cX12_leave 200 = .ok (.aload_n 0, 1) := dk_42 (by decide +kernel)
theorem dX12_leave_201 : decode cX12_leave 201 = .ok (.getfield 978, 3) := dk_180 (by decide +kernel)
theorem dX12_leave_204 : decode cX12_leave 204 = .ok (.if_icmp .ge 21, 3) := dk_162 (by decide +kernel)
theorem dX12_leave_207 : decode cX12_leave 207 = .ok (.iload_n 3, 1) := dk_29 (by decide +kernel)
theorem dX12_leave_208 : decode cX12_leave 208 = .ok (.ifCond .eq 17, 3) := dk_153 (by decide +kernel)
theorem dX12_leave_211 : decode cX12_leave 211 = .ok (.aload_n 0, 1) := dk_42 (by decide +kernel)
theorem dX12_leave_212 : decode cX12_leave 212 = .ok (.getfield 260, 3) := dk_180 (by decide +kernel)
theorem dX12_leave_215 : decode cX12_leave 215 = .ok (.iload 4, 2) := dk_21 (by decide +kernel)
theorem dX12_leave_217 : decode cX12_leave 217 = .ok (.iconst 0, 1) := dk_3 (by decide +kernel)
theorem dX12_leave_218 : decode cX12_leave 218 = .ok (.iastore, 1) := dk_79 (by decide +kernel)
theorem dX12_leave_219 : decode cX12_leave 219 = .ok (.iinc 4 1, 3) := dk_132 (by decide +kernel)
theorem dX12_leave_222 : decode cX12_leave 222 = .ok (.goto (-24), 3) := dk_167 (by decide +kernel)
theorem dX12_leave_225 : decode cX12_leave 225 = .ok (.iload_n 3, 1) := dk_29 (by decide +kernel)
theorem dX12_leave_226 : decode cX12_leave 226 = .ok (.ifCond .eq 4, 3) := dk_153 (by decide +kernel)
theorem dX12_leave_229 : decode cX12_leave 229 = .ok (.return_, 1) := dk_177 (by decide +kernel)
theorem dX12_leave_230 : decode cX12_leave 230 = .ok (.goto (-226), 3) := dk_167 (by decide +kernel)
theorem dX12_leave_233 : decode cX12_leave 233 = .ok (.return_, 1) := dk_177 (by decide +kernel)
def wsRX12_leave : List Cond := .code yX12_leave cX12_leave 6 none :: ([.fieldLink RX12 990 "OptimaWorksModel" "rules" "I", .fieldLink RX12 978 "OptimaWorksModel" "holders" "I", .fieldLink RX12 260 "OptimaWorksModel" "now" "[I", .fieldLink RX12 1022 "OptimaWorksModel" "barred" "I"] ++ wsX120 ++ (wsV RX12 994 RX12 yX12_scope wsRX12_scope) ++ (wsV RX12 1025 RX12 yX12_supports wsRX12_supports))
theorem iwsRX12_leave_in12 : ∀ w ∈ wsX120, w ∈ wsRX12_leave := fun _ h => List.mem_cons_of_mem _ (List.mem_append_left _ (List.mem_append_left _ (List.mem_append_right _ h)))
theorem gwsRX12_leave_0 : GoodIn wsRX12_leave (wsV RX12 994 RX12 yX12_scope wsRX12_scope) := goodIn_sub (fun _ h => List.mem_cons_of_mem _ (List.mem_append_left _ (List.mem_append_right _ h))) (gdV (by decide +kernel) gdwsRX12_scope)
theorem gwsRX12_leave_1 : GoodIn wsRX12_leave (wsV RX12 1025 RX12 yX12_supports wsRX12_supports) := goodIn_sub (fun _ h => List.mem_cons_of_mem _ (List.mem_append_right _ h)) (gdV (by decide +kernel) gdwsRX12_supports)
theorem gdwsRX12_leave : wsRX12_leave.all goodWord = true := gdC rfl (gdA (gdA (gdA (by decide +kernel : ([.fieldLink RX12 990 "OptimaWorksModel" "rules" "I", .fieldLink RX12 978 "OptimaWorksModel" "holders" "I", .fieldLink RX12 260 "OptimaWorksModel" "now" "[I", .fieldLink RX12 1022 "OptimaWorksModel" "barred" "I"] : List Cond).all goodWord = true) gdwsX120) (gdV (by decide +kernel) gdwsRX12_scope)) (gdV (by decide +kernel) gdwsRX12_supports))
set_option maxHeartbeats 4000000 in
set_option maxRecDepth 100000 in
/-- leave() -/
theorem r_X12_leave (l : Launch) (dC : Nat → ClassId) (dI : Nat → Nat → Nat) (a : Nat → Nat) (k : Nat → ClassId) (h0 : Nat) (vi : Nat → Int32) (vj : Nat → Int64) (vF : Nat → Nat → Int32) (vG : Nat → Nat → Int64) (hn : Nat) (ru : Nat) (hhn : vi 128 = nI hn) (hhn10 : hn ≤ 10) (hru : vi 129 = nI ru) (hru12 : ru ≤ 12) (hRu : RuO (vF 80) (vF 81) (vF 82) (vF 83) hn ru) (hNw : DoO (vF 79) hn) (sz : Nat) : Met l yX12_leave wsRX12_leave ({ frames := 5, cells := 0, slots := 0, locals := 120 }) (va_Pc [.ref h0] (fun U => U.heap.size = sz ∧ va_P (dC, dI) vwCl (WR a k h0 vi vj vF vG) U.heap ∧ va_K (dC, dI) vwCl (tX12 k) U ∧ va_D (fun _ => True) (WR a k h0 vi vj vF vG))) (va_Qv (fun (u : (Nat → Int32) × (Nat → Int32) × (Nat → Int32) × (Nat → Int32) × (Nat → Int32)) => (DoO (u.1) hn)) (fun (u : (Nat → Int32) × (Nat → Int32) × (Nat → Int32) × (Nat → Int32) × (Nat → Int32)) t => va_P (dC, dI) vwCl (WR a k h0 vi vj (fT (fT (fT (fT (fT vF 79 (u.1)) 86 (u.2.1)) 87 (u.2.2.1)) 88 (u.2.2.2.1)) 89 (u.2.2.2.2)) vG) t.heap ∧ va_D (va_A (WR a k h0 vi vj vF vG) sz) (WR a k h0 vi vj (fT (fT (fT (fT (fT vF 79 (u.1)) 86 (u.2.1)) 87 (u.2.2.1)) 88 (u.2.2.2.1)) 89 (u.2.2.2.2)) vG)) (va_A (WR a k h0 vi vj vF vG) sz)) 0 0 (va_A (WR a k h0 vi vj vF vG) sz) := by
  refine Met.ofW (cc := cX12_leave) (maxL := 6) (ret := none) (by decide) rfl ?_
  intro p e s m args below meth c s₁ B hml hv
  obtain ⟨rfl, hsz, hP, hK, hD0⟩ := hv
  have hx := B.exec
  have hb := B.bytes
  have hr := B.returns
  have hts := atoms_spec (ws := wsRX12_leave) B.pre
  have hown : s.vm.findClass RX12 = some m.cls := findClass_of_methodNamed B.named
  have hlocks := B.notSynchronized
  subst hsz
  have hD := hD0.self (sz := s.heap.size)
  generalize hAe : va_A (WR a k h0 vi vj vF vG) s.heap.size = A at hD ⊢
  have hA : ∀ q : Nat, s.heap.size ≤ q → A q := fun q h => by rw [← hAe]; exact Or.inr h
  have hS : va_S A s.heap s.heap [] := va_S.rf
  have hl := lv_entry ([.ref h0]) (n := 6) (Nat.le_of_ble_eq_true rfl)
  rw [lg_entry_eq]
  generalize (lg_sl ([.ref h0]) ++ List.replicate (6 - (lg_sl ([.ref h0])).length) Slot.unset).toArray = ls at hl ⊢
  have hl : lv_has ls 6 [(0, .ref h0)] := hl
  refine lv_sipush (v := 1023) hx hb dX12_leave_0 (by decide) ?_
  refine lv_istore_n hx hb dX12_leave_3 rfl hl (by decide) rfl (fun ls (hl : lv_has ls _ ([(1, .int 1023), (0, .ref h0)])) => ?_)
  have e9 : fT (fT (fT (fT (fT vF 79 (vF 79)) 86 (vF 86)) 87 (vF 87)) 88 (vF 88)) 89 (vF 89) = vF := by funext q9; by_cases h9_79 : q9 = 79; (subst h9_79; exact ((fT_ne _ _ (Nat.ne_of_beq_eq_false rfl)).trans ((fT_ne _ _ (Nat.ne_of_beq_eq_false rfl)).trans ((fT_ne _ _ (Nat.ne_of_beq_eq_false rfl)).trans ((fT_ne _ _ (Nat.ne_of_beq_eq_false rfl)).trans (fT_eq _ _ _))))).trans (Eq.trans (by first | with_reducible rfl | with_reducible assumption | (symm; with_reducible assumption) | rfl | assumption | (symm; assumption) | (subst_vars; rfl)) (Eq.refl _).symm)); by_cases h9_86 : q9 = 86; (subst h9_86; exact ((fT_ne _ _ (Nat.ne_of_beq_eq_false rfl)).trans ((fT_ne _ _ (Nat.ne_of_beq_eq_false rfl)).trans ((fT_ne _ _ (Nat.ne_of_beq_eq_false rfl)).trans (fT_eq _ _ _)))).trans (Eq.trans (by first | with_reducible rfl | with_reducible assumption | (symm; with_reducible assumption) | rfl | assumption | (symm; assumption) | (subst_vars; rfl)) (Eq.refl _).symm)); by_cases h9_87 : q9 = 87; (subst h9_87; exact ((fT_ne _ _ (Nat.ne_of_beq_eq_false rfl)).trans ((fT_ne _ _ (Nat.ne_of_beq_eq_false rfl)).trans (fT_eq _ _ _))).trans (Eq.trans (by first | with_reducible rfl | with_reducible assumption | (symm; with_reducible assumption) | rfl | assumption | (symm; assumption) | (subst_vars; rfl)) (Eq.refl _).symm)); by_cases h9_88 : q9 = 88; (subst h9_88; exact ((fT_ne _ _ (Nat.ne_of_beq_eq_false rfl)).trans (fT_eq _ _ _)).trans (Eq.trans (by first | with_reducible rfl | with_reducible assumption | (symm; with_reducible assumption) | rfl | assumption | (symm; assumption) | (subst_vars; rfl)) (Eq.refl _).symm)); by_cases h9_89 : q9 = 89; (subst h9_89; exact (fT_eq _ _ _).trans (Eq.trans (by first | with_reducible rfl | with_reducible assumption | (symm; with_reducible assumption) | rfl | assumption | (symm; assumption) | (subst_vars; rfl)) (Eq.refl _).symm)); exact ((fT_ne _ _ h9_89).trans ((fT_ne _ _ h9_88).trans ((fT_ne _ _ h9_87).trans ((fT_ne _ _ h9_86).trans (fT_ne _ _ h9_79))))).trans (Eq.refl _).symm
  have hP : va_P (dC, dI) vwCl (WR a k h0 vi vj (fT (fT (fT (fT (fT vF 79 (vF 79)) 86 (vF 86)) 87 (vF 87)) 88 (vF 88)) 89 (vF 89)) vG) s.heap := by rw [e9]; exact hP
  have hD : va_D A (WR a k h0 vi vj (fT (fT (fT (fT (fT vF 79 (vF 79)) 86 (vF 86)) 87 (vF 87)) 88 (vF 88)) 89 (vF 89)) vG) := by rw [e9]; exact hD
  clear e9
  have hl : lv_has _ _ ([(0, .ref h0), (1, .int 1023)]) := lv_sub hl [1, 0] rfl
  refine (fun (loop : ∀ (n9 : Nat) (ch : Int32) (nw : Nat → Int32) (x10_F86 : Nat → Int32) (x10_F87 : Nat → Int32) (x10_F88 : Nat → Int32) (x10_F89 : Nat → Int32) (H : Heap) (locs : List Loc) (ls : Array Slot), (DoO nw hn) →  ((ch = 0 ∧ 0 < n9) ∨ sumN hn (cD nw) + 1 < n9) → va_P (dC, dI) vwCl (WR a k h0 vi vj (fT (fT (fT (fT (fT vF 79 nw) 86 x10_F86) 87 x10_F87) 88 x10_F88) 89 x10_F89) vG) H → va_D A (WR a k h0 vi vj (fT (fT (fT (fT (fT vF 79 nw) 86 x10_F86) 87 x10_F87) 88 x10_F88) 89 x10_F89) vG) → va_S A s.heap H locs → lv_has ls 6 [(0, .ref h0), (1, .int ch)] → W p l e _ s m _ below meth c H locs 0 0 _ (F0 m 4 ls [])) => loop (sumN hn (cD (vF 79)) + 2) 1023 (vF 79) (vF 86) (vF 87) (vF 88) (vF 89) _ _ _ (hNw) (Or.inr (by omega)) hP hD hS hl) ?_
  intro n9
  induction n9 with
  | zero => intro ch nw x10_F86 x10_F87 x10_F88 x10_F89 H locs ls hNn hf9; exact False.elim (by omega)
  | succ n9 ih4 =>
    intro ch nw x10_F86 x10_F87 x10_F88 x10_F89 H locs ls hNn hf4 hP hD hS hl
    have hf9 := hf4
    refine lv_iload_n hx hb dX12_leave_4 rfl (lv_at hl 1 rfl) ?_
    refine lv_if_eq (tgt := 233) hx hb dX12_leave_5 (by decide) (fun c_5 => ?_) (fun c_5 => ?_)
    · have t_5 : (ch).toInt = 0 := toI_eq c_5 rfl (by decide)
      refine W.widen (k := 0) (n := 0) (by decide +kernel) (by decide +kernel) ?_
      exact W.vret hx hb hr (fun t9_ ht hW => ⟨⟨(nw, x10_F86, x10_F87, x10_F88, x10_F89), rfl, by (try dsimp only); exact hNn, by rw [ht]; exact hP, hD⟩, hS.F ht⟩) hS.2.2 dX12_leave_233
    · have t_5 : ¬ (ch).toInt = 0 := toI_neq c_5 rfl (by decide)
      refine lv_iload_n hx hb dX12_leave_8 rfl (lv_at hl 1 rfl) ?_
      refine lv_istore_n hx hb dX12_leave_9 rfl hl (by decide) rfl (fun ls (hl : lv_has ls _ ([(2, .int ch), (0, .ref h0), (1, .int ch)])) => ?_)
      refine lv_iconst (v := 0) hx hb dX12_leave_10 (by decide) ?_
      refine lv_istore_n hx hb dX12_leave_11 rfl hl (by decide) rfl (fun ls (hl : lv_has ls _ ([(1, .int 0), (2, .int ch), (0, .ref h0)])) => ?_)
      refine lv_iconst (v := 0) hx hb dX12_leave_12 (by decide) ?_
      refine lv_istore_n hx hb dX12_leave_13 rfl hl (by decide) rfl (fun ls (hl : lv_has ls _ ([(3, .int 0), (1, .int 0), (2, .int ch), (0, .ref h0)])) => ?_)
      have hl : lv_has _ _ ([(0, .ref h0), (1, .int 0), (2, .int ch), (3, .int (nI 0))]) := lv_sub hl [3, 1, 2, 0] rfl
      refine (fun (loop : ∀ (n9 : Nat) (c1 : Int32) (nw1 : Nat → Int32) (r5 : Nat) (x15_F86 : Nat → Int32) (x15_F87 : Nat → Int32) (x15_F88 : Nat → Int32) (x15_F89 : Nat → Int32) (H : Heap) (locs : List Loc) (ls : Array Slot), (r5 ≤ ru) → (DoO nw1 hn) → ((c1 = 0 ∧ sumN hn (cD nw1) ≤ sumN hn (cD nw)) ∨ sumN hn (cD nw1) < sumN hn (cD nw)) →  (ru < r5 + n9) → va_P (dC, dI) vwCl (WR a k h0 vi vj (fT (fT (fT (fT (fT vF 79 nw1) 86 x15_F86) 87 x15_F87) 88 x15_F88) 89 x15_F89) vG) H → va_D A (WR a k h0 vi vj (fT (fT (fT (fT (fT vF 79 nw1) 86 x15_F86) 87 x15_F87) 88 x15_F88) 89 x15_F89) vG) → va_S A s.heap H locs → lv_has ls 6 [(0, .ref h0), (1, .int c1), (2, .int ch), (3, .int (nI r5))] → W p l e _ s m _ below meth c H locs 0 0 _ (F0 m 14 ls [])) => loop (ru + 1) 0 nw 0 x10_F86 x10_F87 x10_F88 x10_F89 _ _ _ (by omega) (hNn) (Or.inl ⟨rfl, Nat.le_refl _⟩) (by omega) hP hD hS hl) ?_
      intro n9
      induction n9 with
      | zero => intro c1 nw1 r5 x15_F86 x15_F87 x15_F88 x15_F89 H locs ls hr5 hN1 hM1 hf9; exact False.elim (by omega)
      | succ n9 ih14_1 =>
        intro c1 nw1 r5 x15_F86 x15_F87 x15_F88 x15_F89 H locs ls hr5 hN1 hM1 hf14_1 hP hD hS hl
        refine lv_iload_n hx hb dX12_leave_14 rfl (lv_at hl 3 rfl) ?_
        refine lv_aload_n hx hb dX12_leave_15 rfl (lv_at hl 0 rfl) ?_
        refine va_get (D := (dC, dI)) (ci := 12) (v := .int (vi 129)) (C := RX12) (T := TX12) (N := 163) (fs := fM (vS a vi vj)) hx hb hts iwsRX12_leave_in12 hown hK hP 0 rfl rfl 129 (by decide) (hts (.fieldLink RX12 990 "OptimaWorksModel" "rules" "I") (by decide +kernel)) (fun _ h9 => h9) rfl dX12_leave_16 ?_
        refine lv_topi (fun y1 hy1 => ?_)
        obtain rfl : (nI ru) = y1 := (hy1.trans (hru)).symm
        refine lv_icmp_ge (tgt := 155) hx hb dX12_leave_19 (by decide) (fun c_19 => ?_) (fun c_19 => ?_)
        · have t_19 : ((r5 : Nat) : Int) ≥ ((ru : Nat) : Int) := toI_ge c_19 (nI_toInt (by omega)) (nI_toInt (by omega))
          refine lv_iconst (v := 0) hx hb dX12_leave_155 (by decide) ?_
          refine lv_istore_n hx hb dX12_leave_156 rfl hl (by decide) rfl (fun ls (hl : lv_has ls _ ([(3, .int 0), (0, .ref h0), (1, .int c1), (2, .int ch)])) => ?_)
          refine lv_iconst (v := 0) hx hb dX12_leave_157 (by decide) ?_
          refine lv_istore hx hb dX12_leave_158 hl (by decide) rfl (fun ls (hl : lv_has ls _ ([(4, .int 0), (3, .int 0), (0, .ref h0), (1, .int c1), (2, .int ch)])) => ?_)
          have hl : lv_has _ _ ([(0, .ref h0), (1, .int c1), (3, .int 0), (4, .int (nI 0))]) := lv_sub hl [2, 3, 1, 0] rfl
          refine (fun (loop : ∀ (n9 : Nat) (h6 : Nat) (no : Int32) (H : Heap) (locs : List Loc) (ls : Array Slot), (h6 ≤ hn) →  (hn < h6 + n9) → va_P (dC, dI) vwCl (WR a k h0 vi vj (fT (fT (fT (fT (fT vF 79 nw1) 86 x15_F86) 87 x15_F87) 88 x15_F88) 89 x15_F89) vG) H → va_D A (WR a k h0 vi vj (fT (fT (fT (fT (fT vF 79 nw1) 86 x15_F86) 87 x15_F87) 88 x15_F88) 89 x15_F89) vG) → va_S A s.heap H locs → lv_has ls 6 [(0, .ref h0), (1, .int c1), (3, .int no), (4, .int (nI h6))] → W p l e _ s m _ below meth c H locs 0 0 _ (F0 m 160 ls [])) => loop (hn + 1) 0 0 _ _ _ (by omega) (by omega) hP hD hS hl) ?_
          intro n9
          induction n9 with
          | zero => intro h6 no H locs ls hh6 hf9; exact False.elim (by omega)
          | succ n9 ih160_2 =>
            intro h6 no H locs ls hh6 hf160_2 hP hD hS hl
            refine lv_iload hx hb dX12_leave_160 (lv_at hl 3 rfl) ?_
            refine lv_aload_n hx hb dX12_leave_162 rfl (lv_at hl 0 rfl) ?_
            refine va_get (D := (dC, dI)) (ci := 12) (v := .int (vi 128)) (C := RX12) (T := TX12) (N := 163) (fs := fM (vS a vi vj)) hx hb hts iwsRX12_leave_in12 hown hK hP 0 rfl rfl 128 (by decide) (hts (.fieldLink RX12 978 "OptimaWorksModel" "holders" "I") (by decide +kernel)) (fun _ h9 => h9) rfl dX12_leave_163 ?_
            refine lv_topi (fun y2 hy2 => ?_)
            obtain rfl : (nI hn) = y2 := (hy2.trans (hhn)).symm
            refine lv_icmp_ge (tgt := 195) hx hb dX12_leave_166 (by decide) (fun c_166 => ?_) (fun c_166 => ?_)
            · have t_166 : ((h6 : Nat) : Int) ≥ ((hn : Nat) : Int) := toI_ge c_166 (nI_toInt (by omega)) (nI_toInt (by omega))
              refine lv_iconst (v := 0) hx hb dX12_leave_195 (by decide) ?_
              refine lv_istore hx hb dX12_leave_196 hl (by decide) rfl (fun ls (hl : lv_has ls _ ([(4, .int 0), (0, .ref h0), (1, .int c1), (3, .int no)])) => ?_)
              have hl : lv_has _ _ ([(0, .ref h0), (1, .int c1), (3, .int no), (4, .int (nI 0))]) := lv_sub hl [1, 2, 3, 0] rfl
              refine (fun (loop : ∀ (n9 : Nat) (h7 : Nat) (nw5 : Nat → Int32) (H : Heap) (locs : List Loc) (ls : Array Slot), (h7 ≤ hn) → (no = 0 → nw5 = nw1) → (DoO nw5 hn) →  (hn < h7 + n9) → va_P (dC, dI) vwCl (WR a k h0 vi vj (fT (fT (fT (fT (fT vF 79 nw5) 86 x15_F86) 87 x15_F87) 88 x15_F88) 89 x15_F89) vG) H → va_D A (WR a k h0 vi vj (fT (fT (fT (fT (fT vF 79 nw5) 86 x15_F86) 87 x15_F87) 88 x15_F88) 89 x15_F89) vG) → va_S A s.heap H locs → lv_has ls 6 [(0, .ref h0), (1, .int c1), (3, .int no), (4, .int (nI h7))] → W p l e _ s m _ below meth c H locs 0 0 _ (F0 m 198 ls [])) => loop (hn + 1) 0 nw1 _ _ _ (by omega) (fun _ => rfl) (hN1) (by omega) hP hD hS hl) ?_
              intro n9
              induction n9 with
              | zero => intro h7 nw5 H locs ls hh7 hno hN5 hf9; exact False.elim (by omega)
              | succ n9 ih198_3 =>
                intro h7 nw5 H locs ls hh7 hno hN5 hf198_3 hP hD hS hl
                refine lv_iload hx hb dX12_leave_198 (lv_at hl 3 rfl) ?_
                refine lv_aload_n hx hb dX12_leave_200 rfl (lv_at hl 0 rfl) ?_
                refine va_get (D := (dC, dI)) (ci := 12) (v := .int (vi 128)) (C := RX12) (T := TX12) (N := 163) (fs := fM (vS a vi vj)) hx hb hts iwsRX12_leave_in12 hown hK hP 0 rfl rfl 128 (by decide) (hts (.fieldLink RX12 978 "OptimaWorksModel" "holders" "I") (by decide +kernel)) (fun _ h9 => h9) rfl dX12_leave_201 ?_
                refine lv_topi (fun y3 hy3 => ?_)
                obtain rfl : (nI hn) = y3 := (hy3.trans (hhn)).symm
                refine lv_icmp_ge (tgt := 225) hx hb dX12_leave_204 (by decide) (fun c_204 => ?_) (fun c_204 => ?_)
                · have t_204 : ((h7 : Nat) : Int) ≥ ((hn : Nat) : Int) := toI_ge c_204 (nI_toInt (by omega)) (nI_toInt (by omega))
                  refine lv_iload_n hx hb dX12_leave_225 rfl (lv_at hl 2 rfl) ?_
                  refine lv_if_eq (tgt := 230) hx hb dX12_leave_226 (by decide) (fun c_226 => ?_) (fun c_226 => ?_)
                  · have t_226 : (no).toInt = 0 := toI_eq c_226 rfl (by decide)
                    refine lv_goto (tgt := 4) hx hb dX12_leave_230 (by decide) ?_
                    have hl : lv_has _ _ ([(0, .ref h0), (1, .int c1)]) := lv_sub hl [0, 1] rfl
                    exact ih4 c1 nw5 x15_F86 x15_F87 x15_F88 x15_F89 _ _ _ (by rw [hno c_226]; exact hN1) (by rw [hno c_226]; (have h8 := hf9.resolve_left (fun h => c_5 h.1)); rcases hM1 with ⟨h1, h2⟩ | h1; (exact Or.inl ⟨h1, by omega⟩); (exact Or.inr (by omega))) hP hD hS hl
                  · have t_226 : ¬ (no).toInt = 0 := toI_neq c_226 rfl (by decide)
                    refine W.widen (k := 0) (n := 0) (by decide +kernel) (by decide +kernel) ?_
                    exact W.vret hx hb hr (fun t9_ ht hW => ⟨⟨(nw5, x15_F86, x15_F87, x15_F88, x15_F89), rfl, by (try dsimp only); exact hN5, by rw [ht]; exact hP, hD⟩, hS.F ht⟩) hS.2.2 dX12_leave_229
                · have t_204 : ¬ ((h7 : Nat) : Int) ≥ ((hn : Nat) : Int) := toI_nge c_204 (nI_toInt (by omega)) (nI_toInt (by omega))
                  refine lv_iload_n hx hb dX12_leave_207 rfl (lv_at hl 2 rfl) ?_
                  refine lv_if_eq (tgt := 225) hx hb dX12_leave_208 (by decide) (fun c_208 => ?_) (fun c_208 => ?_)
                  · have t_208 : (no).toInt = 0 := toI_eq c_208 rfl (by decide)
                    refine lv_iload_n hx hb dX12_leave_225 rfl (lv_at hl 2 rfl) ?_
                    refine lv_if_eq (tgt := 230) hx hb dX12_leave_226 (by decide) (fun c_226 => ?_) (fun c_226 => ?_)
                    · have t_226 : (no).toInt = 0 := toI_eq c_226 rfl (by decide)
                      refine lv_goto (tgt := 4) hx hb dX12_leave_230 (by decide) ?_
                      have hl : lv_has _ _ ([(0, .ref h0), (1, .int c1)]) := lv_sub hl [0, 1] rfl
                      exact ih4 c1 nw5 x15_F86 x15_F87 x15_F88 x15_F89 _ _ _ (by rw [hno c_226]; exact hN1) (by rw [hno c_226]; (have h8 := hf9.resolve_left (fun h => c_5 h.1)); rcases hM1 with ⟨h1, h2⟩ | h1; (exact Or.inl ⟨h1, by omega⟩); (exact Or.inr (by omega))) hP hD hS hl
                    · have t_226 : ¬ (no).toInt = 0 := toI_neq c_226 rfl (by decide)
                      refine W.widen (k := 0) (n := 0) (by decide +kernel) (by decide +kernel) ?_
                      exact W.vret hx hb hr (fun t9_ ht hW => ⟨⟨(nw5, x15_F86, x15_F87, x15_F88, x15_F89), rfl, by (try dsimp only); exact hN5, by rw [ht]; exact hP, hD⟩, hS.F ht⟩) hS.2.2 dX12_leave_229
                  · have t_208 : ¬ (no).toInt = 0 := toI_neq c_208 rfl (by decide)
                    refine lv_aload_n hx hb dX12_leave_211 rfl (lv_at hl 0 rfl) ?_
                    refine va_get (D := (dC, dI)) (ci := 12) (v := .ref (a 79)) (C := RX12) (T := TX12) (N := 163) (fs := fM (vS a vi vj)) hx hb hts iwsRX12_leave_in12 hown hK hP 0 rfl rfl 131 (by decide) (hts (.fieldLink RX12 260 "OptimaWorksModel" "now" "[I") (by decide +kernel)) (fun _ h9 => h9) rfl dX12_leave_212 ?_
                    refine lv_iload hx hb dX12_leave_215 (lv_at hl 3 rfl) ?_
                    refine lv_iconst (v := 0) hx hb dX12_leave_217 (by decide) ?_
                    refine va_iast (cA := k 79) (n := 10) (f := nw5) hx hb hK hP hD hS 80 79 (WR_get 79 (by decide)) (TR_get 79 (by decide)) (vp_in_nI (show h7 < 10 by omega) (by omega)) dX12_leave_218 (fun H locs hP hD hS => ?_)
                    have e9 : fT (fT (fT (fT (fT vF 79 (upd nw5 ((nI h7)).toNatClampNeg 0)) 86 x15_F86) 87 x15_F87) 88 x15_F88) 89 x15_F89 = fT (fT (fT (fT (fT (fT vF 79 nw5) 86 x15_F86) 87 x15_F87) 88 x15_F88) 89 x15_F89) 79 (upd nw5 ((nI h7)).toNatClampNeg 0) := ((fT_sw _ _ _ (Nat.ne_of_beq_eq_false rfl)).trans (congrArg (fun g9 => fT g9 89 x15_F89) ((fT_sw _ _ _ (Nat.ne_of_beq_eq_false rfl)).trans (congrArg (fun g9 => fT g9 88 x15_F88) ((fT_sw _ _ _ (Nat.ne_of_beq_eq_false rfl)).trans (congrArg (fun g9 => fT g9 87 x15_F87) ((fT_sw _ _ _ (Nat.ne_of_beq_eq_false rfl)).trans (congrArg (fun g9 => fT g9 86 x15_F86) (fT_sm _ _ _ _))))))))).symm
                    have hP : va_P (dC, dI) vwCl (WR a k h0 vi vj (fT (fT (fT (fT (fT vF 79 (upd nw5 ((nI h7)).toNatClampNeg 0)) 86 x15_F86) 87 x15_F87) 88 x15_F88) 89 x15_F89) vG) H := by rw [e9, ← WR_F 79 (by decide) _ rfl]; exact hP
                    have hD : va_D A (WR a k h0 vi vj (fT (fT (fT (fT (fT vF 79 (upd nw5 ((nI h7)).toNatClampNeg 0)) 86 x15_F86) 87 x15_F87) 88 x15_F88) 89 x15_F89) vG) := by rw [e9, ← WR_F 79 (by decide) _ rfl]; exact hD
                    clear e9
                    refine lv_iinc (v := (nI (h7 + 1))) hx hb dX12_leave_219 hl (k := 3) rfl (nI_add h7 1) (by decide) rfl (fun ls (hl : lv_has ls _ ([(4, .int (nI (h7 + 1))), (0, .ref h0), (1, .int c1), (3, .int no)])) => ?_)
                    refine lv_goto (tgt := 198) hx hb dX12_leave_222 (by decide) ?_
                    have hl : lv_has _ _ ([(0, .ref h0), (1, .int c1), (3, .int no), (4, .int (nI (h7 + 1)))]) := lv_sub hl [1, 2, 3, 0] rfl
                    exact ih198_3 (h7 + 1) (upd nw5 ((nI h7)).toNatClampNeg 0) _ _ _ (by omega) (fun h9 => absurd h9 c_208) (fun h hh => by rw [upd_at (by omega)]; by_cases e9 : h = h7; (rw [if_pos e9]; exact ⟨0, by decide, nI_0.symm⟩); (rw [if_neg e9]; exact hN5 h hh)) (by omega) hP hD hS hl
            · have t_166 : ¬ ((h6 : Nat) : Int) ≥ ((hn : Nat) : Int) := toI_nge c_166 (nI_toInt (by omega)) (nI_toInt (by omega))
              refine lv_iload_n hx hb dX12_leave_169 rfl (lv_at hl 2 rfl) ?_
              refine W.cut (pc := 188) (fun H locs ls stk => ∃ (j16_s0 : Int32),  stk = [.int j16_s0] ∧ va_P (dC, dI) vwCl (WR a k h0 vi vj (fT (fT (fT (fT (fT vF 79 nw1) 86 x15_F86) 87 x15_F87) 88 x15_F88) 89 x15_F89) vG) H ∧ va_D A (WR a k h0 vi vj (fT (fT (fT (fT (fT vF 79 nw1) 86 x15_F86) 87 x15_F87) 88 x15_F88) 89 x15_F89) vG) ∧ va_S A s.heap H locs ∧ lv_has ls 6 [(0, .ref h0), (1, .int c1), (3, .int no), (4, .int (nI h6))]) (fun join1 => ?_) ?_
              · refine lv_if_ne (tgt := 183) hx hb dX12_leave_170 (by decide) (fun c_170 => ?_) (fun c_170 => ?_)
                · have t_170 : (no).toInt ≠ 0 := toI_ne c_170 rfl (by decide)
                  refine lv_iconst (v := 1) hx hb dX12_leave_183 (by decide) ?_
                  refine lv_goto (tgt := 188) hx hb dX12_leave_184 (by decide) ?_
                  have hl : lv_has _ _ ([(0, .ref h0), (1, .int c1), (3, .int no), (4, .int (nI h6))]) := lv_sub hl [0, 1, 2, 3] rfl
                  exact join1 _ _ _ _ ⟨1, rfl, hP, hD, hS, hl⟩
                · have t_170 : (no).toInt = 0 := toI_nne c_170 rfl (by decide)
                  refine lv_aload_n hx hb dX12_leave_173 rfl (lv_at hl 0 rfl) ?_
                  refine va_get (D := (dC, dI)) (ci := 12) (v := .ref (a 79)) (C := RX12) (T := TX12) (N := 163) (fs := fM (vS a vi vj)) hx hb hts iwsRX12_leave_in12 hown hK hP 0 rfl rfl 131 (by decide) (hts (.fieldLink RX12 260 "OptimaWorksModel" "now" "[I") (by decide +kernel)) (fun _ h9 => h9) rfl dX12_leave_174 ?_
                  refine lv_iload hx hb dX12_leave_177 (lv_at hl 3 rfl) ?_
                  refine va_iald (cA := k 79) (n := 10) (f := nw1) hx hb hK hP 80 79 (WR_get 79 (by decide)) (TR_get 79 (by decide)) (vp_in_nI (show h6 < 10 by omega) (by omega)) dX12_leave_179 ?_
                  refine lv_topi (fun y4 hy4 => ?_)
                  obtain rfl : (nw1 h6) = y4 := (hy4.trans (by rw [nI_clamp (by omega)])).symm
                  refine lv_if_ne (tgt := 187) hx hb dX12_leave_180 (by decide) (fun c_180 => ?_) (fun c_180 => ?_)
                  · have t_180 : ((nw1 h6)).toInt ≠ 0 := toI_ne c_180 rfl (by decide)
                    refine lv_iconst (v := 0) hx hb dX12_leave_187 (by decide) ?_
                    have hl : lv_has _ _ ([(0, .ref h0), (1, .int c1), (3, .int no), (4, .int (nI h6))]) := lv_sub hl [0, 1, 2, 3] rfl
                    exact join1 _ _ _ _ ⟨0, rfl, hP, hD, hS, hl⟩
                  · have t_180 : ((nw1 h6)).toInt = 0 := toI_nne c_180 rfl (by decide)
                    refine lv_iconst (v := 1) hx hb dX12_leave_183 (by decide) ?_
                    refine lv_goto (tgt := 188) hx hb dX12_leave_184 (by decide) ?_
                    have hl : lv_has _ _ ([(0, .ref h0), (1, .int c1), (3, .int no), (4, .int (nI h6))]) := lv_sub hl [0, 1, 2, 3] rfl
                    exact join1 _ _ _ _ ⟨1, rfl, hP, hD, hS, hl⟩
              · rintro H locs ls stk ⟨j16_s0, rfl, hP, hD, hS, hl⟩
                refine lv_istore_n hx hb dX12_leave_188 rfl hl (by decide) rfl (fun ls (hl : lv_has ls _ ([(3, .int j16_s0), (0, .ref h0), (1, .int c1), (4, .int (nI h6))])) => ?_)
                refine lv_iinc (v := (nI (h6 + 1))) hx hb dX12_leave_189 hl (k := 3) rfl (nI_add h6 1) (by decide) rfl (fun ls (hl : lv_has ls _ ([(4, .int (nI (h6 + 1))), (3, .int j16_s0), (0, .ref h0), (1, .int c1)])) => ?_)
                refine lv_goto (tgt := 160) hx hb dX12_leave_192 (by decide) ?_
                have hl : lv_has _ _ ([(0, .ref h0), (1, .int c1), (3, .int j16_s0), (4, .int (nI (h6 + 1)))]) := lv_sub hl [2, 3, 1, 0] rfl
                exact ih160_2 (h6 + 1) j16_s0 _ _ _ (by omega) (by omega) hP hD hS hl
        · have t_19 : ¬ ((r5 : Nat) : Int) ≥ ((ru : Nat) : Int) := toI_nge c_19 (nI_toInt (by omega)) (nI_toInt (by omega))
          refine lv_aload_n hx hb dX12_leave_22 rfl (lv_at hl 0 rfl) ?_
          refine va_get (D := (dC, dI)) (ci := 12) (v := .int (vi 138)) (C := RX12) (T := TX12) (N := 163) (fs := fM (vS a vi vj)) hx hb hts iwsRX12_leave_in12 hown hK hP 0 rfl rfl 138 (by decide) (hts (.fieldLink RX12 1022 "OptimaWorksModel" "barred" "I") (by decide +kernel)) (fun _ h9 => h9) rfl dX12_leave_23 ?_
          refine lv_iload_n hx hb dX12_leave_26 rfl (lv_at hl 3 rfl) ?_
          refine lv_ishr hx hb dX12_leave_27 ?_
          refine lv_iconst (v := 1) hx hb dX12_leave_28 (by decide) ?_
          refine lv_iand hx hb dX12_leave_29 ?_
          refine lv_iconst (v := 1) hx hb dX12_leave_30 (by decide) ?_
          refine lv_icmp_eq (tgt := 149) hx hb dX12_leave_31 (by decide) (fun c_31 => ?_) (fun c_31 => ?_)
          · have t_31 : ((((vi 138) >>> ((nI r5) &&& 31)) &&& 1)).toInt = 1 := toI_eq c_31 rfl (by decide)
            refine lv_iinc (v := (nI (r5 + 1))) hx hb dX12_leave_149 hl (k := 3) rfl (nI_add r5 1) (by decide) rfl (fun ls (hl : lv_has ls _ ([(3, .int (nI (r5 + 1))), (0, .ref h0), (1, .int c1), (2, .int ch)])) => ?_)
            refine lv_goto (tgt := 14) hx hb dX12_leave_152 (by decide) ?_
            have hl : lv_has _ _ ([(0, .ref h0), (1, .int c1), (2, .int ch), (3, .int (nI (r5 + 1)))]) := lv_sub hl [1, 2, 3, 0] rfl
            exact ih14_1 c1 nw1 (r5 + 1) x15_F86 x15_F87 x15_F88 x15_F89 _ _ _ (by omega) (hN1) (hM1) (by omega) hP hD hS hl
          · have t_31 : ¬ ((((vi 138) >>> ((nI r5) &&& 31)) &&& 1)).toInt = 1 := toI_neq c_31 rfl (by decide)
            refine lv_aload_n hx hb dX12_leave_34 rfl (lv_at hl 0 rfl) ?_
            refine lv_iload_n hx hb dX12_leave_35 rfl (lv_at hl 3 rfl) ?_
            have hFc := allFree hD hS hA
            refine va_calli (va_runV (As := [.int (nI r5)]) (rest := []) ⟨hx, hb, hml, hown, hts⟩ (r_X12_scope l dC dI a k h0 vi vj (fT (fT (fT (fT (fT vF 79 nw1) 86 x15_F86) 87 x15_F87) 88 x15_F88) 89 x15_F89) vG r5 (by first | with_reducible assumption | decide | omega | rfl | assumption) H.size) (cwV 1 hts gwsRX12_leave_0 rfl rfl rfl hd_yX12_scope_RX12 (by decide +kernel)) (fz_pre (va_recv hK hP (ci := 12) (q0 := 0) rfl rfl) hP hK hD) rfl rfl hl.1 rfl (lv_room (Nat.le_of_ble_eq_true rfl)) dX12_leave_36 (by decide +kernel)) hS (fun q _ h => hFc q h) hFc (fun r36 u t9_ H locs ht hvm hw9 hB9 hz1 hk1 hS => ?_)
            have hP : va_P (dC, dI) vwCl (WR a k h0 vi vj (fT (fT (fT (fT (fT vF 79 nw1) 86 x15_F86) 87 x15_F87) 88 x15_F88) 89 x15_F89) vG) H := fz_P ht hB9.1
            have hD : va_D A (WR a k h0 vi vj (fT (fT (fT (fT (fT vF 79 nw1) 86 x15_F86) 87 x15_F87) 88 x15_F88) 89 x15_F89) vG) := hB9.2.weaken (fun _ q _ h => hFc q.1 h)
            refine lv_iload_n hx hb dX12_leave_39 rfl (lv_at hl 2 rfl) ?_
            refine lv_iload_n hx hb dX12_leave_40 rfl (lv_at hl 1 rfl) ?_
            refine lv_ior hx hb dX12_leave_41 ?_
            refine lv_iand hx hb dX12_leave_42 ?_
            refine lv_if_ne (tgt := 49) hx hb dX12_leave_43 (by decide) (fun c_43 => ?_) (fun c_43 => ?_)
            · have t_43 : ((r36 &&& (ch ||| c1))).toInt ≠ 0 := toI_ne c_43 rfl (by decide)
              refine lv_iconst (v := 0) hx hb dX12_leave_49 (by decide) ?_
              refine lv_istore hx hb dX12_leave_50 hl (by decide) rfl (fun ls (hl : lv_has ls _ ([(4, .int 0), (0, .ref h0), (1, .int c1), (2, .int ch), (3, .int (nI r5))])) => ?_)
              have hl : lv_has _ _ ([(0, .ref h0), (1, .int c1), (2, .int ch), (3, .int (nI r5)), (4, .int (nI 0))]) := lv_sub hl [1, 2, 3, 4, 0] rfl
              refine (fun (loop : ∀ (n9 : Nat) (c2 : Int32) (nw2 : Nat → Int32) (h5 : Nat) (x18_F86 : Nat → Int32) (x18_F87 : Nat → Int32) (x18_F88 : Nat → Int32) (x18_F89 : Nat → Int32) (H : Heap) (locs : List Loc) (ls : Array Slot), (h5 ≤ hn) → (DoO nw2 hn) → ((c2 = 0 ∧ sumN hn (cD nw2) ≤ sumN hn (cD nw)) ∨ sumN hn (cD nw2) < sumN hn (cD nw)) →  (hn < h5 + n9) → va_P (dC, dI) vwCl (WR a k h0 vi vj (fT (fT (fT (fT (fT vF 79 nw2) 86 x18_F86) 87 x18_F87) 88 x18_F88) 89 x18_F89) vG) H → va_D A (WR a k h0 vi vj (fT (fT (fT (fT (fT vF 79 nw2) 86 x18_F86) 87 x18_F87) 88 x18_F88) 89 x18_F89) vG) → va_S A s.heap H locs → lv_has ls 6 [(0, .ref h0), (1, .int c2), (2, .int ch), (3, .int (nI r5)), (4, .int (nI h5))] → W p l e _ s m _ below meth c H locs 0 0 _ (F0 m 52 ls [])) => loop (hn + 1) c1 nw1 0 x15_F86 x15_F87 x15_F88 x15_F89 _ _ _ (by omega) (hN1) (hM1) (by omega) hP hD hS hl) ?_
              intro n9
              induction n9 with
              | zero => intro c2 nw2 h5 x18_F86 x18_F87 x18_F88 x18_F89 H locs ls hh5 hN2 hM2 hf9; exact False.elim (by omega)
              | succ n9 ih52_4 =>
                intro c2 nw2 h5 x18_F86 x18_F87 x18_F88 x18_F89 H locs ls hh5 hN2 hM2 hf52_4 hP hD hS hl
                refine lv_iload hx hb dX12_leave_52 (lv_at hl 4 rfl) ?_
                refine lv_aload_n hx hb dX12_leave_54 rfl (lv_at hl 0 rfl) ?_
                refine va_get (D := (dC, dI)) (ci := 12) (v := .int (vi 128)) (C := RX12) (T := TX12) (N := 163) (fs := fM (vS a vi vj)) hx hb hts iwsRX12_leave_in12 hown hK hP 0 rfl rfl 128 (by decide) (hts (.fieldLink RX12 978 "OptimaWorksModel" "holders" "I") (by decide +kernel)) (fun _ h9 => h9) rfl dX12_leave_55 ?_
                refine lv_topi (fun y5 hy5 => ?_)
                obtain rfl : (nI hn) = y5 := (hy5.trans (hhn)).symm
                refine lv_icmp_ge (tgt := 149) hx hb dX12_leave_58 (by decide) (fun c_58 => ?_) (fun c_58 => ?_)
                · have t_58 : ((h5 : Nat) : Int) ≥ ((hn : Nat) : Int) := toI_ge c_58 (nI_toInt (by omega)) (nI_toInt (by omega))
                  refine lv_iinc (v := (nI (r5 + 1))) hx hb dX12_leave_149 hl (k := 3) rfl (nI_add r5 1) (by decide) rfl (fun ls (hl : lv_has ls _ ([(3, .int (nI (r5 + 1))), (0, .ref h0), (1, .int c2), (2, .int ch), (4, .int (nI h5))])) => ?_)
                  refine lv_goto (tgt := 14) hx hb dX12_leave_152 (by decide) ?_
                  have hl : lv_has _ _ ([(0, .ref h0), (1, .int c2), (2, .int ch), (3, .int (nI (r5 + 1)))]) := lv_sub hl [1, 2, 3, 0] rfl
                  exact ih14_1 c2 nw2 (r5 + 1) x18_F86 x18_F87 x18_F88 x18_F89 _ _ _ (by omega) (hN2) (hM2) (by omega) hP hD hS hl
                · have t_58 : ¬ ((h5 : Nat) : Int) ≥ ((hn : Nat) : Int) := toI_nge c_58 (nI_toInt (by omega)) (nI_toInt (by omega))
                  refine lv_iconst (v := 0) hx hb dX12_leave_61 (by decide) ?_
                  refine lv_istore hx hb dX12_leave_62 hl (by decide) rfl (fun ls (hl : lv_has ls _ ([(5, .int 0), (0, .ref h0), (1, .int c2), (2, .int ch), (3, .int (nI r5)), (4, .int (nI h5))])) => ?_)
                  have hl : lv_has _ _ ([(0, .ref h0), (1, .int c2), (2, .int ch), (3, .int (nI r5)), (4, .int (nI h5)), (5, .int (nI 0))]) := lv_sub hl [1, 2, 3, 4, 5, 0] rfl
                  refine (fun (loop : ∀ (n9 : Nat) (c3 : Int32) (nw3 : Nat → Int32) (v5 : Nat) (x19_F86 : Nat → Int32) (x19_F87 : Nat → Int32) (x19_F88 : Nat → Int32) (x19_F89 : Nat → Int32) (H : Heap) (locs : List Loc) (ls : Array Slot), (v5 ≤ 16) → (DoO nw3 hn) → ((c3 = 0 ∧ sumN hn (cD nw3) ≤ sumN hn (cD nw)) ∨ sumN hn (cD nw3) < sumN hn (cD nw)) →  (16 < v5 + n9) → va_P (dC, dI) vwCl (WR a k h0 vi vj (fT (fT (fT (fT (fT vF 79 nw3) 86 x19_F86) 87 x19_F87) 88 x19_F88) 89 x19_F89) vG) H → va_D A (WR a k h0 vi vj (fT (fT (fT (fT (fT vF 79 nw3) 86 x19_F86) 87 x19_F87) 88 x19_F88) 89 x19_F89) vG) → va_S A s.heap H locs → lv_has ls 6 [(0, .ref h0), (1, .int c3), (2, .int ch), (3, .int (nI r5)), (4, .int (nI h5)), (5, .int (nI v5))] → W p l e _ s m _ below meth c H locs 0 0 _ (F0 m 64 ls [])) => loop (17) c2 nw2 0 x18_F86 x18_F87 x18_F88 x18_F89 _ _ _ (by omega) (hN2) (hM2) (by omega) hP hD hS hl) ?_
                  intro n9
                  induction n9 with
                  | zero => intro c3 nw3 v5 x19_F86 x19_F87 x19_F88 x19_F89 H locs ls hv5 hN3 hM3 hf9; exact False.elim (by omega)
                  | succ n9 ih64_5 =>
                    intro c3 nw3 v5 x19_F86 x19_F87 x19_F88 x19_F89 H locs ls hv5 hN3 hM3 hf64_5 hP hD hS hl
                    refine lv_iload hx hb dX12_leave_64 (lv_at hl 5 rfl) ?_
                    refine lv_bipush (v := 16) hx hb dX12_leave_66 (by decide) ?_
                    refine lv_icmp_ge (tgt := 143) hx hb dX12_leave_68 (by decide) (fun c_68 => ?_) (fun c_68 => ?_)
                    · have t_68 : ((v5 : Nat) : Int) ≥ 16 := toI_ge c_68 (nI_toInt (by omega)) (by decide)
                      refine lv_iinc (v := (nI (h5 + 1))) hx hb dX12_leave_143 hl (k := 4) rfl (nI_add h5 1) (by decide) rfl (fun ls (hl : lv_has ls _ ([(4, .int (nI (h5 + 1))), (0, .ref h0), (1, .int c3), (2, .int ch), (3, .int (nI r5)), (5, .int (nI v5))])) => ?_)
                      refine lv_goto (tgt := 52) hx hb dX12_leave_146 (by decide) ?_
                      have hl : lv_has _ _ ([(0, .ref h0), (1, .int c3), (2, .int ch), (3, .int (nI r5)), (4, .int (nI (h5 + 1)))]) := lv_sub hl [1, 2, 3, 4, 0] rfl
                      exact ih52_4 c3 nw3 (h5 + 1) x19_F86 x19_F87 x19_F88 x19_F89 _ _ _ (by omega) (hN3) (hM3) (by omega) hP hD hS hl
                    · have t_68 : ¬ ((v5 : Nat) : Int) ≥ 16 := toI_nge c_68 (nI_toInt (by omega)) (by decide)
                      refine lv_aload_n hx hb dX12_leave_71 rfl (lv_at hl 0 rfl) ?_
                      refine lv_iload_n hx hb dX12_leave_72 rfl (lv_at hl 3 rfl) ?_
                      have hFc := allFree hD hS hA
                      refine va_calli (va_runV (As := [.int (nI r5)]) (rest := []) ⟨hx, hb, hml, hown, hts⟩ (r_X12_scope l dC dI a k h0 vi vj (fT (fT (fT (fT (fT vF 79 nw3) 86 x19_F86) 87 x19_F87) 88 x19_F88) 89 x19_F89) vG r5 (by first | with_reducible assumption | decide | omega | rfl | assumption) H.size) (cwV 1 hts gwsRX12_leave_0 rfl rfl rfl hd_yX12_scope_RX12 (by decide +kernel)) (fz_pre (va_recv hK hP (ci := 12) (q0 := 0) rfl rfl) hP hK hD) rfl rfl hl.1 rfl (lv_room (Nat.le_of_ble_eq_true rfl)) dX12_leave_73 (by decide +kernel)) hS (fun q _ h => hFc q h) hFc (fun r73 u t9_ H locs ht hvm hw9 hB9 hz1 hk1 hS => ?_)
                      have hP : va_P (dC, dI) vwCl (WR a k h0 vi vj (fT (fT (fT (fT (fT vF 79 nw3) 86 x19_F86) 87 x19_F87) 88 x19_F88) 89 x19_F89) vG) H := fz_P ht hB9.1
                      have hD : va_D A (WR a k h0 vi vj (fT (fT (fT (fT (fT vF 79 nw3) 86 x19_F86) 87 x19_F87) 88 x19_F88) 89 x19_F89) vG) := hB9.2.weaken (fun _ q _ h => hFc q.1 h)
                      refine lv_iload hx hb dX12_leave_76 (lv_at hl 4 rfl) ?_
                      refine lv_ishr hx hb dX12_leave_78 ?_
                      refine lv_iconst (v := 1) hx hb dX12_leave_79 (by decide) ?_
                      refine lv_iand hx hb dX12_leave_80 ?_
                      refine lv_if_eq (tgt := 137) hx hb dX12_leave_81 (by decide) (fun c_81 => ?_) (fun c_81 => ?_)
                      · have t_81 : (((r73 >>> ((nI h5) &&& 31)) &&& 1)).toInt = 0 := toI_eq c_81 rfl (by decide)
                        refine lv_iinc (v := (nI (v5 + 1))) hx hb dX12_leave_137 hl (k := 5) rfl (nI_add v5 1) (by decide) rfl (fun ls (hl : lv_has ls _ ([(5, .int (nI (v5 + 1))), (0, .ref h0), (1, .int c3), (2, .int ch), (3, .int (nI r5)), (4, .int (nI h5))])) => ?_)
                        refine lv_goto (tgt := 64) hx hb dX12_leave_140 (by decide) ?_
                        have hl : lv_has _ _ ([(0, .ref h0), (1, .int c3), (2, .int ch), (3, .int (nI r5)), (4, .int (nI h5)), (5, .int (nI (v5 + 1)))]) := lv_sub hl [1, 2, 3, 4, 5, 0] rfl
                        exact ih64_5 c3 nw3 (v5 + 1) x19_F86 x19_F87 x19_F88 x19_F89 _ _ _ (by omega) (hN3) (hM3) (by omega) hP hD hS hl
                      · have t_81 : ¬ (((r73 >>> ((nI h5) &&& 31)) &&& 1)).toInt = 0 := toI_neq c_81 rfl (by decide)
                        refine lv_aload_n hx hb dX12_leave_84 rfl (lv_at hl 0 rfl) ?_
                        refine va_get (D := (dC, dI)) (ci := 12) (v := .ref (a 79)) (C := RX12) (T := TX12) (N := 163) (fs := fM (vS a vi vj)) hx hb hts iwsRX12_leave_in12 hown hK hP 0 rfl rfl 131 (by decide) (hts (.fieldLink RX12 260 "OptimaWorksModel" "now" "[I") (by decide +kernel)) (fun _ h9 => h9) rfl dX12_leave_85 ?_
                        refine lv_iload hx hb dX12_leave_88 (lv_at hl 4 rfl) ?_
                        refine va_iald (cA := k 79) (n := 10) (f := nw3) hx hb hK hP 80 79 (WR_get 79 (by decide)) (TR_get 79 (by decide)) (vp_in_nI (show h5 < 10 by omega) (by omega)) dX12_leave_90 ?_
                        refine lv_topi (fun y6 hy6 => ?_)
                        obtain rfl : (nw3 h5) = y6 := (hy6.trans (by rw [nI_clamp (by omega)])).symm
                        refine lv_iload hx hb dX12_leave_91 (lv_at hl 5 rfl) ?_
                        refine lv_ishr hx hb dX12_leave_93 ?_
                        refine lv_iconst (v := 1) hx hb dX12_leave_94 (by decide) ?_
                        refine lv_iand hx hb dX12_leave_95 ?_
                        refine lv_if_eq (tgt := 137) hx hb dX12_leave_96 (by decide) (fun c_96 => ?_) (fun c_96 => ?_)
                        · have t_96 : ((((nw3 h5) >>> ((nI v5) &&& 31)) &&& 1)).toInt = 0 := toI_eq c_96 rfl (by decide)
                          refine lv_iinc (v := (nI (v5 + 1))) hx hb dX12_leave_137 hl (k := 5) rfl (nI_add v5 1) (by decide) rfl (fun ls (hl : lv_has ls _ ([(5, .int (nI (v5 + 1))), (0, .ref h0), (1, .int c3), (2, .int ch), (3, .int (nI r5)), (4, .int (nI h5))])) => ?_)
                          refine lv_goto (tgt := 64) hx hb dX12_leave_140 (by decide) ?_
                          have hl : lv_has _ _ ([(0, .ref h0), (1, .int c3), (2, .int ch), (3, .int (nI r5)), (4, .int (nI h5)), (5, .int (nI (v5 + 1)))]) := lv_sub hl [1, 2, 3, 4, 5, 0] rfl
                          exact ih64_5 c3 nw3 (v5 + 1) x19_F86 x19_F87 x19_F88 x19_F89 _ _ _ (by omega) (hN3) (hM3) (by omega) hP hD hS hl
                        · have t_96 : ¬ ((((nw3 h5) >>> ((nI v5) &&& 31)) &&& 1)).toInt = 0 := toI_neq c_96 rfl (by decide)
                          refine lv_aload_n hx hb dX12_leave_99 rfl (lv_at hl 0 rfl) ?_
                          refine lv_iload_n hx hb dX12_leave_100 rfl (lv_at hl 3 rfl) ?_
                          refine lv_iload hx hb dX12_leave_101 (lv_at hl 4 rfl) ?_
                          refine lv_iload hx hb dX12_leave_103 (lv_at hl 5 rfl) ?_
                          have hFc := allFree hD hS hA
                          refine va_calli (va_runV (As := [.int (nI r5), .int (nI h5), .int (nI v5)]) (rest := []) ⟨hx, hb, hml, hown, hts⟩ (r_X12_supports l dC dI a k h0 vi vj (fT (fT (fT (fT (fT vF 79 nw3) 86 x19_F86) 87 x19_F87) 88 x19_F88) 89 x19_F89) vG r5 hn (nI h5) (nI v5) (by first | with_reducible assumption | decide | omega | rfl | assumption) hhn (by first | with_reducible assumption | decide | omega | rfl | assumption) (hRu r5 (by omega)) H.size) (cwV 3 hts gwsRX12_leave_1 rfl rfl rfl hd_yX12_supports_RX12 (by decide +kernel)) (fz_pre (va_recv hK hP (ci := 12) (q0 := 0) rfl rfl) hP hK hD) rfl rfl hl.1 rfl (lv_room (Nat.le_of_ble_eq_true rfl)) dX12_leave_105 (by decide +kernel)) hS (fun q _ h => hFc q h) hFc (fun r105 u t9_ H locs ht hvm hw9 hB9 hz1 hk1 hS => ?_)
                          revert u hw9 hB9
                          refine fz_p4 ?_
                          intro g86105 g87105 g88105 g89105 hw9 hB9
                          try dsimp only at hw9 hB9
                          have hP : va_P (dC, dI) vwCl (WR a k h0 vi vj (fT (fT (fT (fT (fT (fT (fT (fT (fT vF 79 nw3) 86 x19_F86) 87 x19_F87) 88 x19_F88) 89 x19_F89) 86 g86105) 87 g87105) 88 g88105) 89 g89105) vG) H := fz_P ht hB9.1
                          have hD : va_D A (WR a k h0 vi vj (fT (fT (fT (fT (fT (fT (fT (fT (fT vF 79 nw3) 86 x19_F86) 87 x19_F87) 88 x19_F88) 89 x19_F89) 86 g86105) 87 g87105) 88 g88105) 89 g89105) vG) := hB9.2.weaken (fun _ q _ h => hFc q.1 h)
                          have e9 : fT (fT (fT (fT (fT vF 79 nw3) 86 g86105) 87 g87105) 88 g88105) 89 g89105 = fT (fT (fT (fT (fT (fT (fT (fT (fT vF 79 nw3) 86 x19_F86) 87 x19_F87) 88 x19_F88) 89 x19_F89) 86 g86105) 87 g87105) 88 g88105) 89 g89105 := ((congrArg (fun g9 => fT (fT (fT g9 87 g87105) 88 g88105) 89 g89105) ((fT_sw _ _ _ (Nat.ne_of_beq_eq_false rfl)).trans (congrArg (fun g9 => fT g9 89 x19_F89) ((fT_sw _ _ _ (Nat.ne_of_beq_eq_false rfl)).trans (congrArg (fun g9 => fT g9 88 x19_F88) ((fT_sw _ _ _ (Nat.ne_of_beq_eq_false rfl)).trans (congrArg (fun g9 => fT g9 87 x19_F87) (fT_sm _ _ _ _)))))))).trans ((congrArg (fun g9 => fT (fT g9 88 g88105) 89 g89105) ((fT_sw _ _ _ (Nat.ne_of_beq_eq_false rfl)).trans (congrArg (fun g9 => fT g9 89 x19_F89) ((fT_sw _ _ _ (Nat.ne_of_beq_eq_false rfl)).trans (congrArg (fun g9 => fT g9 88 x19_F88) (fT_sm _ _ _ _)))))).trans ((congrArg (fun g9 => fT g9 89 g89105) ((fT_sw _ _ _ (Nat.ne_of_beq_eq_false rfl)).trans (congrArg (fun g9 => fT g9 89 x19_F89) (fT_sm _ _ _ _)))).trans (fT_sm _ _ _ _)))).symm
                          rw [← e9] at hP hD
                          clear e9
                          have hP : va_P (dC, dI) vwCl (WR a k h0 vi vj (fT (fT (fT (fT (fT vF 79 nw3) 86 g86105) 87 g87105) 88 g88105) 89 g89105) vG) H := hP
                          have hD : va_D A (WR a k h0 vi vj (fT (fT (fT (fT (fT vF 79 nw3) 86 g86105) 87 g87105) 88 g88105) 89 g89105) vG) := hD
                          rcases hw9 with rfl | rfl
                          · refine lv_if_eq (tgt := 114) hx hb dX12_leave_108 (by decide) (fun c9 => absurd c9 (by decide)) (fun _ => ?_)
                            refine lv_goto (tgt := 137) hx hb dX12_leave_111 (by decide) ?_
                            refine lv_iinc (v := (nI (v5 + 1))) hx hb dX12_leave_137 hl (k := 5) rfl (nI_add v5 1) (by decide) rfl (fun ls (hl : lv_has ls _ ([(5, .int (nI (v5 + 1))), (0, .ref h0), (1, .int c3), (2, .int ch), (3, .int (nI r5)), (4, .int (nI h5))])) => ?_)
                            refine lv_goto (tgt := 64) hx hb dX12_leave_140 (by decide) ?_
                            have hl : lv_has _ _ ([(0, .ref h0), (1, .int c3), (2, .int ch), (3, .int (nI r5)), (4, .int (nI h5)), (5, .int (nI (v5 + 1)))]) := lv_sub hl [1, 2, 3, 4, 5, 0] rfl
                            exact ih64_5 c3 nw3 (v5 + 1) g86105 g87105 g88105 g89105 _ _ _ (by omega) (hN3) (hM3) (by omega) hP hD hS hl
                          · refine lv_if_eq (tgt := 114) hx hb dX12_leave_108 (by decide) (fun _ => ?_) (fun c9 => absurd (by decide) c9)
                            obtain ⟨b0, hb0, eb0⟩ := hN3 h5 (by omega)
                            obtain ⟨b2, hb2, eb2⟩ := clrB (v := v5) hb0 (by omega) (by rw [← eb0]; exact c_96)
                            have hS9 := sum_dec (f := cD nw3) (g := cD (upd nw3 (nI h5).toNatClampNeg (nI b2))) (h := h5) (fun q hq => by unfold cD; rw [upd_at (by omega), if_neg hq]) (by unfold cD; rw [upd_at (by omega), if_pos rfl, eb0, nI_clamp (by omega), nI_clamp (by omega)]; exact hb2) hn (by omega)
                            refine lv_aload_n hx hb dX12_leave_114 rfl (lv_at hl 0 rfl) ?_
                            refine va_get (D := (dC, dI)) (ci := 12) (v := .ref (a 79)) (C := RX12) (T := TX12) (N := 163) (fs := fM (vS a vi vj)) hx hb hts iwsRX12_leave_in12 hown hK hP 0 rfl rfl 131 (by decide) (hts (.fieldLink RX12 260 "OptimaWorksModel" "now" "[I") (by decide +kernel)) (fun _ h9 => h9) rfl dX12_leave_115 ?_
                            refine lv_iload hx hb dX12_leave_118 (lv_at hl 4 rfl) ?_
                            refine lv_dup2_11 hx hb dX12_leave_120 rfl rfl ?_
                            refine va_iald (cA := k 79) (n := 10) (f := nw3) hx hb hK hP 80 79 (WR_get 79 (by decide)) (TR_get 79 (by decide)) (vp_in_nI (show h5 < 10 by omega) (by omega)) dX12_leave_121 ?_
                            refine lv_topi (fun y7 hy7 => ?_)
                            obtain rfl : (nw3 h5) = y7 := (hy7.trans (by rw [nI_clamp (by omega)])).symm
                            refine lv_iconst (v := 1) hx hb dX12_leave_122 (by decide) ?_
                            refine lv_iload hx hb dX12_leave_123 (lv_at hl 5 rfl) ?_
                            refine lv_ishl hx hb dX12_leave_125 ?_
                            refine lv_iconst (v := (-1)) hx hb dX12_leave_126 (by decide) ?_
                            refine lv_ixor hx hb dX12_leave_127 ?_
                            refine lv_iand hx hb dX12_leave_128 ?_
                            refine lv_topi (fun y8 hy8 => ?_)
                            obtain rfl : (nI b2) = y8 := (hy8.trans (by rw [eb0]; exact eb2)).symm
                            refine va_iast (cA := k 79) (n := 10) (f := nw3) hx hb hK hP hD hS 80 79 (WR_get 79 (by decide)) (TR_get 79 (by decide)) (vp_in_nI (show h5 < 10 by omega) (by omega)) dX12_leave_129 (fun H locs hP hD hS => ?_)
                            have e9 : fT (fT (fT (fT (fT vF 79 (upd nw3 ((nI h5)).toNatClampNeg (nI b2))) 86 g86105) 87 g87105) 88 g88105) 89 g89105 = fT (fT (fT (fT (fT (fT vF 79 nw3) 86 g86105) 87 g87105) 88 g88105) 89 g89105) 79 (upd nw3 ((nI h5)).toNatClampNeg (nI b2)) := ((fT_sw _ _ _ (Nat.ne_of_beq_eq_false rfl)).trans (congrArg (fun g9 => fT g9 89 g89105) ((fT_sw _ _ _ (Nat.ne_of_beq_eq_false rfl)).trans (congrArg (fun g9 => fT g9 88 g88105) ((fT_sw _ _ _ (Nat.ne_of_beq_eq_false rfl)).trans (congrArg (fun g9 => fT g9 87 g87105) ((fT_sw _ _ _ (Nat.ne_of_beq_eq_false rfl)).trans (congrArg (fun g9 => fT g9 86 g86105) (fT_sm _ _ _ _))))))))).symm
                            have hP : va_P (dC, dI) vwCl (WR a k h0 vi vj (fT (fT (fT (fT (fT vF 79 (upd nw3 ((nI h5)).toNatClampNeg (nI b2))) 86 g86105) 87 g87105) 88 g88105) 89 g89105) vG) H := by rw [e9, ← WR_F 79 (by decide) _ rfl]; exact hP
                            have hD : va_D A (WR a k h0 vi vj (fT (fT (fT (fT (fT vF 79 (upd nw3 ((nI h5)).toNatClampNeg (nI b2))) 86 g86105) 87 g87105) 88 g88105) 89 g89105) vG) := by rw [e9, ← WR_F 79 (by decide) _ rfl]; exact hD
                            clear e9
                            refine lv_iload_n hx hb dX12_leave_130 rfl (lv_at hl 1 rfl) ?_
                            refine lv_iconst (v := 1) hx hb dX12_leave_131 (by decide) ?_
                            refine lv_iload hx hb dX12_leave_132 (lv_at hl 4 rfl) ?_
                            refine lv_ishl hx hb dX12_leave_134 ?_
                            refine lv_ior hx hb dX12_leave_135 ?_
                            refine lv_istore_n hx hb dX12_leave_136 rfl hl (by decide) rfl (fun ls (hl : lv_has ls _ ([(1, .int (c3 ||| (1 <<< ((nI h5) &&& 31)))), (0, .ref h0), (2, .int ch), (3, .int (nI r5)), (4, .int (nI h5)), (5, .int (nI v5))])) => ?_)
                            refine lv_iinc (v := (nI (v5 + 1))) hx hb dX12_leave_137 hl (k := 5) rfl (nI_add v5 1) (by decide) rfl (fun ls (hl : lv_has ls _ ([(5, .int (nI (v5 + 1))), (1, .int (c3 ||| (1 <<< ((nI h5) &&& 31)))), (0, .ref h0), (2, .int ch), (3, .int (nI r5)), (4, .int (nI h5))])) => ?_)
                            refine lv_goto (tgt := 64) hx hb dX12_leave_140 (by decide) ?_
                            have hl : lv_has _ _ ([(0, .ref h0), (1, .int (c3 ||| (1 <<< ((nI h5) &&& 31)))), (2, .int ch), (3, .int (nI r5)), (4, .int (nI h5)), (5, .int (nI (v5 + 1)))]) := lv_sub hl [2, 1, 3, 4, 5, 0] rfl
                            exact ih64_5 (c3 ||| (1 <<< ((nI h5) &&& 31))) (upd nw3 ((nI h5)).toNatClampNeg (nI b2)) (v5 + 1) g86105 g87105 g88105 g89105 _ _ _ (by omega) (fun h hh => by rw [upd_at (by omega)]; by_cases e9 : h = h5; (rw [if_pos e9]; exact ⟨b2, by omega, rfl⟩); (rw [if_neg e9]; exact hN3 h hh)) (by (have h8 := hS9); rcases hM3 with ⟨h1, h2⟩ | h1; (exact Or.inr (by omega)); (exact Or.inr (by omega))) (by omega) hP hD hS hl
            · have t_43 : ((r36 &&& (ch ||| c1))).toInt = 0 := toI_nne c_43 rfl (by decide)
              refine lv_goto (tgt := 149) hx hb dX12_leave_46 (by decide) ?_
              refine lv_iinc (v := (nI (r5 + 1))) hx hb dX12_leave_149 hl (k := 3) rfl (nI_add r5 1) (by decide) rfl (fun ls (hl : lv_has ls _ ([(3, .int (nI (r5 + 1))), (0, .ref h0), (1, .int c1), (2, .int ch)])) => ?_)
              refine lv_goto (tgt := 14) hx hb dX12_leave_152 (by decide) ?_
              have hl : lv_has _ _ ([(0, .ref h0), (1, .int c1), (2, .int ch), (3, .int (nI (r5 + 1)))]) := lv_sub hl [1, 2, 3, 0] rfl
              exact ih14_1 c1 nw1 (r5 + 1) x15_F86 x15_F87 x15_F88 x15_F89 _ _ _ (by omega) (hN1) (hM1) (by omega) hP hD hS hl
theorem dX12_leaveAll_0 : decode cX12_leaveAll 0 = .ok (.iconst 0, 1) := dk_3 (by decide +kernel)
theorem dX12_leaveAll_1 : decode cX12_leaveAll 1 = .ok (.istore_n 1, 1) := dk_60 (by decide +kernel)
theorem dX12_leaveAll_2 : decode cX12_leaveAll 2 = .ok (.iload_n 1, 1) := dk_27 (by decide +kernel)
theorem dX12_leaveAll_3 : decode cX12_leaveAll 3 = .ok (.aload_n 0, 1) := dk_42 (by decide +kernel)
theorem dX12_leaveAll_4 : decode cX12_leaveAll 4 = .ok (.getfield 978, 3) := dk_180 (by decide +kernel)
theorem dX12_leaveAll_7 : decode cX12_leaveAll 7 = .ok (.if_icmp .ge 21, 3) := dk_162 (by decide +kernel)
theorem dX12_leaveAll_10 : decode cX12_leaveAll 10 = .ok (.aload_n 0, 1) := dk_42 (by decide +kernel)
theorem dX12_leaveAll_11 : decode cX12_leaveAll 11 = .ok (.getfield 260, 3) := dk_180 (by decide +kernel)
theorem dX12_leaveAll_14 : decode cX12_leaveAll 14 = .ok (.iload_n 1, 1) := dk_27 (by decide +kernel)
theorem dX12_leaveAll_15 : decode cX12_leaveAll 15 = .ok (.aload_n 0, 1) := dk_42 (by decide +kernel)
theorem dX12_leaveAll_16 : decode cX12_leaveAll 16 = .ok (.getfield 257, 3) := dk_180 (by decide +kernel)
theorem dX12_leaveAll_19 : decode cX12_leaveAll 19 = .ok (.iload_n 1, 1) := dk_27 (by decide +kernel)
theorem dX12_leaveAll_20 : decode cX12_leaveAll 20 = .ok (.iaload, 1) := dk_46 (by decide +kernel)
theorem dX12_leaveAll_21 : decode cX12_leaveAll 21 = .ok (.iastore, 1) := dk_79 (by decide +kernel)
theorem dX12_leaveAll_22 : decode cX12_leaveAll 22 = .ok (.iinc 1 1, 3) := dk_132 (by decide +kernel)
theorem dX12_leaveAll_25 : decode cX12_leaveAll 25 = .ok (.goto (-23), 3) := dk_167 (by decide +kernel)
theorem dX12_leaveAll_28 : decode cX12_leaveAll 28 = .ok (.aload_n 0, 1) := dk_42 (by decide +kernel)
theorem dX12_leaveAll_29 : decode cX12_leaveAll 29 = .ok (.invokevirtual 1028, 3) := dk_182 (by decide +kernel)
theorem dX12_leaveAll_32 : decode cX12_leaveAll 32 = .ok (.return_, 1) := dk_177 (by decide +kernel)
def wsRX12_leaveAll : List Cond := .code yX12_leaveAll cX12_leaveAll 2 none :: ([.fieldLink RX12 978 "OptimaWorksModel" "holders" "I", .fieldLink RX12 260 "OptimaWorksModel" "now" "[I", .fieldLink RX12 257 "OptimaWorksModel" "domain" "[I"] ++ wsX120 ++ (wsV RX12 1028 RX12 yX12_leave wsRX12_leave))
theorem iwsRX12_leaveAll_in12 : ∀ w ∈ wsX120, w ∈ wsRX12_leaveAll := fun _ h => List.mem_cons_of_mem _ (List.mem_append_left _ (List.mem_append_right _ h))
theorem gwsRX12_leaveAll_0 : GoodIn wsRX12_leaveAll (wsV RX12 1028 RX12 yX12_leave wsRX12_leave) := goodIn_sub (fun _ h => List.mem_cons_of_mem _ (List.mem_append_right _ h)) (gdV (by decide +kernel) gdwsRX12_leave)
theorem gdwsRX12_leaveAll : wsRX12_leaveAll.all goodWord = true := gdC rfl (gdA (gdA (by decide +kernel : ([.fieldLink RX12 978 "OptimaWorksModel" "holders" "I", .fieldLink RX12 260 "OptimaWorksModel" "now" "[I", .fieldLink RX12 257 "OptimaWorksModel" "domain" "[I"] : List Cond).all goodWord = true) gdwsX120) (gdV (by decide +kernel) gdwsRX12_leave))
set_option maxHeartbeats 4000000 in
set_option maxRecDepth 100000 in
/-- leaveAll() -/
theorem r_X12_leaveAll (l : Launch) (dC : Nat → ClassId) (dI : Nat → Nat → Nat) (a : Nat → Nat) (k : Nat → ClassId) (h0 : Nat) (vi : Nat → Int32) (vj : Nat → Int64) (vF : Nat → Nat → Int32) (vG : Nat → Nat → Int64) (hn : Nat) (ru : Nat) (hhn : vi 128 = nI hn) (hhn10 : hn ≤ 10) (hru : vi 129 = nI ru) (hru12 : ru ≤ 12) (hRu : RuO (vF 80) (vF 81) (vF 82) (vF 83) hn ru) (hDo : DoO (vF 78) hn) (sz : Nat) : Met l yX12_leaveAll wsRX12_leaveAll ({ frames := 6, cells := 0, slots := 0, locals := 145 }) (va_Pc [.ref h0] (fun U => U.heap.size = sz ∧ va_P (dC, dI) vwCl (WR a k h0 vi vj vF vG) U.heap ∧ va_K (dC, dI) vwCl (tX12 k) U ∧ va_D (fun _ => True) (WR a k h0 vi vj vF vG))) (va_Qv (fun (u : (Nat → Int32) × (Nat → Int32) × (Nat → Int32) × (Nat → Int32) × (Nat → Int32)) => (DoO (u.1) hn)) (fun (u : (Nat → Int32) × (Nat → Int32) × (Nat → Int32) × (Nat → Int32) × (Nat → Int32)) t => va_P (dC, dI) vwCl (WR a k h0 vi vj (fT (fT (fT (fT (fT vF 79 (u.1)) 86 (u.2.1)) 87 (u.2.2.1)) 88 (u.2.2.2.1)) 89 (u.2.2.2.2)) vG) t.heap ∧ va_D (va_A (WR a k h0 vi vj vF vG) sz) (WR a k h0 vi vj (fT (fT (fT (fT (fT vF 79 (u.1)) 86 (u.2.1)) 87 (u.2.2.1)) 88 (u.2.2.2.1)) 89 (u.2.2.2.2)) vG)) (va_A (WR a k h0 vi vj vF vG) sz)) 0 0 (va_A (WR a k h0 vi vj vF vG) sz) := by
  refine Met.ofW (cc := cX12_leaveAll) (maxL := 2) (ret := none) (by decide) rfl ?_
  intro p e s m args below meth c s₁ B hml hv
  obtain ⟨rfl, hsz, hP, hK, hD0⟩ := hv
  have hx := B.exec
  have hb := B.bytes
  have hr := B.returns
  have hts := atoms_spec (ws := wsRX12_leaveAll) B.pre
  have hown : s.vm.findClass RX12 = some m.cls := findClass_of_methodNamed B.named
  have hlocks := B.notSynchronized
  subst hsz
  have hD := hD0.self (sz := s.heap.size)
  generalize hAe : va_A (WR a k h0 vi vj vF vG) s.heap.size = A at hD ⊢
  have hA : ∀ q : Nat, s.heap.size ≤ q → A q := fun q h => by rw [← hAe]; exact Or.inr h
  have hS : va_S A s.heap s.heap [] := va_S.rf
  have hl := lv_entry ([.ref h0]) (n := 2) (Nat.le_of_ble_eq_true rfl)
  rw [lg_entry_eq]
  generalize (lg_sl ([.ref h0]) ++ List.replicate (2 - (lg_sl ([.ref h0])).length) Slot.unset).toArray = ls at hl ⊢
  have hl : lv_has ls 2 [(0, .ref h0)] := hl
  refine lv_iconst (v := 0) hx hb dX12_leaveAll_0 (by decide) ?_
  refine lv_istore_n hx hb dX12_leaveAll_1 rfl hl (by decide) rfl (fun ls (hl : lv_has ls _ ([(1, .int 0), (0, .ref h0)])) => ?_)
  have e9 : fT vF 79 (vF 79) = vF := by funext q9; by_cases h9_79 : q9 = 79; (subst h9_79; exact (fT_eq _ _ _).trans (Eq.trans (by first | with_reducible rfl | with_reducible assumption | (symm; with_reducible assumption) | rfl | assumption | (symm; assumption) | (subst_vars; rfl)) (Eq.refl _).symm)); exact (fT_ne _ _ h9_79).trans (Eq.refl _).symm
  have hP : va_P (dC, dI) vwCl (WR a k h0 vi vj (fT vF 79 (vF 79)) vG) s.heap := by rw [e9]; exact hP
  have hD : va_D A (WR a k h0 vi vj (fT vF 79 (vF 79)) vG) := by rw [e9]; exact hD
  clear e9
  have hl : lv_has _ _ ([(0, .ref h0), (1, .int (nI 0))]) := lv_sub hl [1, 0] rfl
  refine (fun (loop : ∀ (n9 : Nat) (h5 : Nat) (nw : Nat → Int32) (H : Heap) (locs : List Loc) (ls : Array Slot), (h5 ≤ hn) → (∀ h, h < h5 → ∃ b, b < 65536 ∧ nw h = nI b) →  (hn < h5 + n9) → va_P (dC, dI) vwCl (WR a k h0 vi vj (fT vF 79 nw) vG) H → va_D A (WR a k h0 vi vj (fT vF 79 nw) vG) → va_S A s.heap H locs → lv_has ls 2 [(0, .ref h0), (1, .int (nI h5))] → W p l e _ s m _ below meth c H locs 0 0 _ (F0 m 2 ls [])) => loop (hn + 1) 0 (vF 79) _ _ _ (by omega) (fun h hh => absurd hh (by omega)) (by omega) hP hD hS hl) ?_
  intro n9
  induction n9 with
  | zero => intro h5 nw H locs ls hh5 hz hf9; exact False.elim (by omega)
  | succ n9 ih2 =>
    intro h5 nw H locs ls hh5 hz hf2 hP hD hS hl
    refine lv_iload_n hx hb dX12_leaveAll_2 rfl (lv_at hl 1 rfl) ?_
    refine lv_aload_n hx hb dX12_leaveAll_3 rfl (lv_at hl 0 rfl) ?_
    refine va_get (D := (dC, dI)) (ci := 12) (v := .int (vi 128)) (C := RX12) (T := TX12) (N := 163) (fs := fM (vS a vi vj)) hx hb hts iwsRX12_leaveAll_in12 hown hK hP 0 rfl rfl 128 (by decide) (hts (.fieldLink RX12 978 "OptimaWorksModel" "holders" "I") (by decide +kernel)) (fun _ h9 => h9) rfl dX12_leaveAll_4 ?_
    refine lv_topi (fun y1 hy1 => ?_)
    obtain rfl : (nI hn) = y1 := (hy1.trans (hhn)).symm
    refine lv_icmp_ge (tgt := 28) hx hb dX12_leaveAll_7 (by decide) (fun c_7 => ?_) (fun c_7 => ?_)
    · have t_7 : ((h5 : Nat) : Int) ≥ ((hn : Nat) : Int) := toI_ge c_7 (nI_toInt (by omega)) (nI_toInt (by omega))
      have hN4 : DoO nw hn := fun h hh => hz h (by omega)
      refine lv_aload_n hx hb dX12_leaveAll_28 rfl (lv_at hl 0 rfl) ?_
      have hFc := allFree hD hS hA
      refine va_callv (va_runV (As := []) (rest := []) ⟨hx, hb, hml, hown, hts⟩ (r_X12_leave l dC dI a k h0 vi vj (fT vF 79 nw) vG hn ru hhn (by first | with_reducible assumption | decide | omega | rfl | assumption) hru (by first | with_reducible assumption | decide | omega | rfl | assumption) (by first | with_reducible assumption | decide | omega | rfl | assumption) (hN4) H.size) (cwV 0 hts gwsRX12_leaveAll_0 rfl rfl rfl hd_yX12_leave_RX12 (by decide +kernel)) (fz_pre (va_recv hK hP (ci := 12) (q0 := 0) rfl rfl) hP hK hD) rfl rfl hl.1 rfl (lv_room (Nat.le_of_ble_eq_true rfl)) dX12_leaveAll_29 (by decide +kernel)) hS (fun q _ h => hFc q h) hFc (fun u t9_ H locs ht hvm hw9 hB9 hz1 hk1 hS => ?_)
      revert u hw9 hB9
      refine fz_p5 ?_
      intro g7929 g8629 g8729 g8829 g8929 hw9 hB9
      try dsimp only at hw9 hB9
      have hP : va_P (dC, dI) vwCl (WR a k h0 vi vj (fT (fT (fT (fT (fT (fT vF 79 nw) 79 g7929) 86 g8629) 87 g8729) 88 g8829) 89 g8929) vG) H := fz_P ht hB9.1
      have hD : va_D A (WR a k h0 vi vj (fT (fT (fT (fT (fT (fT vF 79 nw) 79 g7929) 86 g8629) 87 g8729) 88 g8829) 89 g8929) vG) := hB9.2.weaken (fun _ q _ h => hFc q.1 h)
      have e9 : fT (fT (fT (fT (fT vF 79 g7929) 86 g8629) 87 g8729) 88 g8829) 89 g8929 = fT (fT (fT (fT (fT (fT vF 79 nw) 79 g7929) 86 g8629) 87 g8729) 88 g8829) 89 g8929 := (congrArg (fun g9 => fT (fT (fT (fT g9 86 g8629) 87 g8729) 88 g8829) 89 g8929) (fT_sm _ _ _ _)).symm
      rw [← e9] at hP hD
      clear e9
      have hP : va_P (dC, dI) vwCl (WR a k h0 vi vj (fT (fT (fT (fT (fT vF 79 g7929) 86 g8629) 87 g8729) 88 g8829) 89 g8929) vG) H := hP
      have hD : va_D A (WR a k h0 vi vj (fT (fT (fT (fT (fT vF 79 g7929) 86 g8629) 87 g8729) 88 g8829) 89 g8929) vG) := hD
      have f29_0 := hw9
      try dsimp only at f29_0
      refine W.widen (k := 0) (n := 0) (by decide +kernel) (by decide +kernel) ?_
      exact W.vret hx hb hr (fun t9_ ht hW => ⟨⟨(g7929, g8629, g8729, g8829, g8929), rfl, by (try dsimp only); exact f29_0, by rw [ht]; exact hP, hD⟩, hS.F ht⟩) hS.2.2 dX12_leaveAll_32
    · have t_7 : ¬ ((h5 : Nat) : Int) ≥ ((hn : Nat) : Int) := toI_nge c_7 (nI_toInt (by omega)) (nI_toInt (by omega))
      refine lv_aload_n hx hb dX12_leaveAll_10 rfl (lv_at hl 0 rfl) ?_
      refine va_get (D := (dC, dI)) (ci := 12) (v := .ref (a 79)) (C := RX12) (T := TX12) (N := 163) (fs := fM (vS a vi vj)) hx hb hts iwsRX12_leaveAll_in12 hown hK hP 0 rfl rfl 131 (by decide) (hts (.fieldLink RX12 260 "OptimaWorksModel" "now" "[I") (by decide +kernel)) (fun _ h9 => h9) rfl dX12_leaveAll_11 ?_
      refine lv_iload_n hx hb dX12_leaveAll_14 rfl (lv_at hl 1 rfl) ?_
      refine lv_aload_n hx hb dX12_leaveAll_15 rfl (lv_at hl 0 rfl) ?_
      refine va_get (D := (dC, dI)) (ci := 12) (v := .ref (a 78)) (C := RX12) (T := TX12) (N := 163) (fs := fM (vS a vi vj)) hx hb hts iwsRX12_leaveAll_in12 hown hK hP 0 rfl rfl 130 (by decide) (hts (.fieldLink RX12 257 "OptimaWorksModel" "domain" "[I") (by decide +kernel)) (fun _ h9 => h9) rfl dX12_leaveAll_16 ?_
      refine lv_iload_n hx hb dX12_leaveAll_19 rfl (lv_at hl 1 rfl) ?_
      refine va_iald (cA := k 78) (n := 10) (f := (vF 78)) hx hb hK hP 79 78 (WR_get 78 (by decide)) (TR_get 78 (by decide)) (vp_in_nI (show h5 < 10 by omega) (by omega)) dX12_leaveAll_20 ?_
      refine lv_topi (fun y2 hy2 => ?_)
      obtain rfl : ((vF 78) h5) = y2 := (hy2.trans (by rw [nI_clamp (by omega)])).symm
      refine va_iast (cA := k 79) (n := 10) (f := nw) hx hb hK hP hD hS 80 79 (WR_get 79 (by decide)) (TR_get 79 (by decide)) (vp_in_nI (show h5 < 10 by omega) (by omega)) dX12_leaveAll_21 (fun H locs hP hD hS => ?_)
      have e9 : fT vF 79 (upd nw ((nI h5)).toNatClampNeg ((vF 78) h5)) = fT (fT vF 79 nw) 79 (upd nw ((nI h5)).toNatClampNeg ((vF 78) h5)) := (fT_sm _ _ _ _).symm
      have hP : va_P (dC, dI) vwCl (WR a k h0 vi vj (fT vF 79 (upd nw ((nI h5)).toNatClampNeg ((vF 78) h5))) vG) H := by rw [e9, ← WR_F 79 (by decide) _ rfl]; exact hP
      have hD : va_D A (WR a k h0 vi vj (fT vF 79 (upd nw ((nI h5)).toNatClampNeg ((vF 78) h5))) vG) := by rw [e9, ← WR_F 79 (by decide) _ rfl]; exact hD
      clear e9
      refine lv_iinc (v := (nI (h5 + 1))) hx hb dX12_leaveAll_22 hl (k := 1) rfl (nI_add h5 1) (by decide) rfl (fun ls (hl : lv_has ls _ ([(1, .int (nI (h5 + 1))), (0, .ref h0)])) => ?_)
      refine lv_goto (tgt := 2) hx hb dX12_leaveAll_25 (by decide) ?_
      have hl : lv_has _ _ ([(0, .ref h0), (1, .int (nI (h5 + 1)))]) := lv_sub hl [1, 0] rfl
      exact ih2 (h5 + 1) (upd nw ((nI h5)).toNatClampNeg ((vF 78) h5)) _ _ _ (by omega) (fun h hh => by rw [upd_at (by omega)]; by_cases e9 : h = h5; (rw [if_pos e9, ← e9]; exact hDo h (by omega)); (rw [if_neg e9]; exact hz h (by omega))) (by omega) hP hD hS hl
theorem dX12_left_0 : decode cX12_left 0 = .ok (.aload_n 0, 1) := dk_42 (by decide +kernel)
theorem dX12_left_1 : decode cX12_left 1 = .ok (.iconst 0, 1) := dk_3 (by decide +kernel)
theorem dX12_left_2 : decode cX12_left 2 = .ok (.putfield 348, 3) := dk_181 (by decide +kernel)
theorem dX12_left_5 : decode cX12_left 5 = .ok (.aload_n 0, 1) := dk_42 (by decide +kernel)
theorem dX12_left_6 : decode cX12_left 6 = .ok (.iload_n 1, 1) := dk_27 (by decide +kernel)
theorem dX12_left_7 : decode cX12_left 7 = .ok (.invokevirtual 984, 3) := dk_182 (by decide +kernel)
theorem dX12_left_10 : decode cX12_left 10 = .ok (.ifCond .ne 5, 3) := dk_154 (by decide +kernel)
theorem dX12_left_13 : decode cX12_left 13 = .ok (.iconst (-1), 1) := dk_2 (by decide +kernel)
theorem dX12_left_14 : decode cX12_left 14 = .ok (.ireturn, 1) := dk_172 (by decide +kernel)
theorem dX12_left_15 : decode cX12_left 15 = .ok (.aload_n 0, 1) := dk_42 (by decide +kernel)
theorem dX12_left_16 : decode cX12_left 16 = .ok (.iconst 0, 1) := dk_3 (by decide +kernel)
theorem dX12_left_17 : decode cX12_left 17 = .ok (.putfield 1022, 3) := dk_181 (by decide +kernel)
theorem dX12_left_20 : decode cX12_left 20 = .ok (.aload_n 0, 1) := dk_42 (by decide +kernel)
theorem dX12_left_21 : decode cX12_left 21 = .ok (.invokevirtual 1031, 3) := dk_182 (by decide +kernel)
theorem dX12_left_24 : decode cX12_left 24 = .ok (.aload_n 0, 1) := dk_42 (by decide +kernel)
theorem dX12_left_25 : decode cX12_left 25 = .ok (.getfield 260, 3) := dk_180 (by decide +kernel)
theorem dX12_left_28 : decode cX12_left 28 = .ok (.iload_n 1, 1) := dk_27 (by decide +kernel)
theorem dX12_left_29 : decode cX12_left 29 = .ok (.iaload, 1) := dk_46 (by decide +kernel)
theorem dX12_left_30 : decode cX12_left 30 = .ok (.ireturn, 1) := dk_172 (by decide +kernel)
def wsRX12_left : List Cond := .code yX12_left cX12_left 2 (some .int) :: ([.fieldLink RX12 348 "OptimaWorksModel" "thrown" "I", .fieldLink RX12 1022 "OptimaWorksModel" "barred" "I", .fieldLink RX12 260 "OptimaWorksModel" "now" "[I"] ++ wsX120 ++ (wsV RX12 984 RX12 yX12_isHolder wsRX12_isHolder) ++ (wsV RX12 1031 RX12 yX12_leaveAll wsRX12_leaveAll))
theorem iwsRX12_left_in12 : ∀ w ∈ wsX120, w ∈ wsRX12_left := fun _ h => List.mem_cons_of_mem _ (List.mem_append_left _ (List.mem_append_left _ (List.mem_append_right _ h)))
theorem gwsRX12_left_0 : GoodIn wsRX12_left (wsV RX12 984 RX12 yX12_isHolder wsRX12_isHolder) := goodIn_sub (fun _ h => List.mem_cons_of_mem _ (List.mem_append_left _ (List.mem_append_right _ h))) (gdV (by decide +kernel) gdwsRX12_isHolder)
theorem gwsRX12_left_1 : GoodIn wsRX12_left (wsV RX12 1031 RX12 yX12_leaveAll wsRX12_leaveAll) := goodIn_sub (fun _ h => List.mem_cons_of_mem _ (List.mem_append_right _ h)) (gdV (by decide +kernel) gdwsRX12_leaveAll)
theorem gdwsRX12_left : wsRX12_left.all goodWord = true := gdC rfl (gdA (gdA (gdA (by decide +kernel : ([.fieldLink RX12 348 "OptimaWorksModel" "thrown" "I", .fieldLink RX12 1022 "OptimaWorksModel" "barred" "I", .fieldLink RX12 260 "OptimaWorksModel" "now" "[I"] : List Cond).all goodWord = true) gdwsX120) (gdV (by decide +kernel) gdwsRX12_isHolder)) (gdV (by decide +kernel) gdwsRX12_leaveAll))
set_option maxHeartbeats 4000000 in
set_option maxRecDepth 100000 in
/-- left(h) -/
theorem r_X12_left (l : Launch) (dC : Nat → ClassId) (dI : Nat → Nat → Nat) (a : Nat → Nat) (k : Nat → ClassId) (h0 : Nat) (vi : Nat → Int32) (vj : Nat → Int64) (vF : Nat → Nat → Int32) (vG : Nat → Nat → Int64) (hI : Int32) (hn : Nat) (ru : Nat) (hhn : vi 128 = nI hn) (hhn10 : hn ≤ 10) (hru : vi 129 = nI ru) (hru12 : ru ≤ 12) (hRu : RuO (vF 80) (vF 81) (vF 82) (vF 83) hn ru) (hDo : DoO (vF 78) hn) (sz : Nat) : Met l yX12_left wsRX12_left ({ frames := 7, cells := 0, slots := 0, locals := 166 }) (va_Pc [.ref h0, .int hI] (fun U => U.heap.size = sz ∧ va_P (dC, dI) vwCl (WR a k h0 vi vj vF vG) U.heap ∧ va_K (dC, dI) vwCl (tX12 k) U ∧ va_D (fun _ => True) (WR a k h0 vi vj vF vG))) (va_Qi (fun (r : Int32) (u : (Nat → Int32) × (Nat → Int32) × (Nat → Int32) × (Nat → Int32) × (Nat → Int32) × (Int32)) => True) (fun (u : (Nat → Int32) × (Nat → Int32) × (Nat → Int32) × (Nat → Int32) × (Nat → Int32) × (Int32)) t => va_P (dC, dI) vwCl (WR a k h0 (fT (fT vi 0 0) 138 (u.2.2.2.2.2)) vj (fT (fT (fT (fT (fT vF 79 (u.1)) 86 (u.2.1)) 87 (u.2.2.1)) 88 (u.2.2.2.1)) 89 (u.2.2.2.2.1)) vG) t.heap ∧ va_D (va_A (WR a k h0 vi vj vF vG) sz) (WR a k h0 (fT (fT vi 0 0) 138 (u.2.2.2.2.2)) vj (fT (fT (fT (fT (fT vF 79 (u.1)) 86 (u.2.1)) 87 (u.2.2.1)) 88 (u.2.2.2.1)) 89 (u.2.2.2.2.1)) vG)) (va_A (WR a k h0 vi vj vF vG) sz)) 0 0 (va_A (WR a k h0 vi vj vF vG) sz) := by
  refine Met.ofW (cc := cX12_left) (maxL := 2) (ret := (some .int)) (by decide) rfl ?_
  intro p e s m args below meth c s₁ B hml hv
  obtain ⟨rfl, hsz, hP, hK, hD0⟩ := hv
  have hx := B.exec
  have hb := B.bytes
  have hr := B.returns
  have hts := atoms_spec (ws := wsRX12_left) B.pre
  have hown : s.vm.findClass RX12 = some m.cls := findClass_of_methodNamed B.named
  have hlocks := B.notSynchronized
  subst hsz
  have hD := hD0.self (sz := s.heap.size)
  generalize hAe : va_A (WR a k h0 vi vj vF vG) s.heap.size = A at hD ⊢
  have hA : ∀ q : Nat, s.heap.size ≤ q → A q := fun q h => by rw [← hAe]; exact Or.inr h
  have hS : va_S A s.heap s.heap [] := va_S.rf
  have hl := lv_entry ([.ref h0, .int hI]) (n := 2) (Nat.le_of_ble_eq_true rfl)
  rw [lg_entry_eq]
  generalize (lg_sl ([.ref h0, .int hI]) ++ List.replicate (2 - (lg_sl ([.ref h0, .int hI])).length) Slot.unset).toArray = ls at hl ⊢
  have hl : lv_has ls 2 [(0, .ref h0), (1, .int hI)] := hl
  refine lv_aload_n hx hb dX12_left_0 rfl (lv_at hl 0 rfl) ?_
  refine lv_iconst (v := 0) hx hb dX12_left_1 (by decide) ?_
  refine va_put (D := (dC, dI)) (ci := 12) (v := .int 0) (ty := .int) (C := RX12) (T := TX12) (N := 163) (fs := fM (vS a vi vj)) hx hb hts iwsRX12_left_in12 tyX12 tyX12_ok nmX12 hown hK hP hD hS 0 rfl rfl 0 (by decide) (hts (.fieldLink RX12 348 "OptimaWorksModel" "thrown" "I") (by decide +kernel)) (fun _ h9 => h9) rfl (by decide +kernel) rfl rfl (Nat.le_of_ble_eq_true rfl) dX12_left_2 (fun H locs hP hD hS => ?_)
  have hP : va_P (dC, dI) vwCl (WR a k h0 (fT vi 0 0) vj vF vG) H := by rw [← WR_i 0 _ rfl]; exact hP
  have hD : va_D A (WR a k h0 (fT vi 0 0) vj vF vG) := by rw [← WR_i 0 _ rfl]; exact hD
  refine lv_aload_n hx hb dX12_left_5 rfl (lv_at hl 0 rfl) ?_
  refine lv_iload_n hx hb dX12_left_6 rfl (lv_at hl 1 rfl) ?_
  have hFc := allFree hD hS hA
  refine va_calli (va_runV (As := [.int hI]) (rest := []) ⟨hx, hb, hml, hown, hts⟩ (r_X12_isHolder l dC dI a k h0 (fT vi 0 0) vj vF vG hI hn hhn (by first | with_reducible assumption | decide | omega | rfl | assumption) H.size) (cwV 1 hts gwsRX12_left_0 rfl rfl rfl hd_yX12_isHolder_RX12 (by decide +kernel)) (fz_pre (va_recv hK hP (ci := 12) (q0 := 0) rfl rfl) hP hK hD) rfl rfl hl.1 rfl (lv_room (Nat.le_of_ble_eq_true rfl)) dX12_left_7 (by decide +kernel)) hS (fun q _ h => hFc q h) hFc (fun r7 u t9_ H locs ht hvm hw9 hB9 hz1 hk1 hS => ?_)
  have hP : va_P (dC, dI) vwCl (WR a k h0 (fT vi 0 0) vj vF vG) H := fz_P ht hB9.1
  have hD : va_D A (WR a k h0 (fT vi 0 0) vj vF vG) := hB9.2.weaken (fun _ q _ h => hFc q.1 h)
  rcases hw9 with ⟨rfl, f7_0, f7_1⟩ | ⟨rfl, f7_0⟩
  · refine lv_if_ne (tgt := 15) hx hb dX12_left_10 (by decide) (fun _ => ?_) (fun c9 => absurd c9 (by decide))
    obtain ⟨x5, hx5, ex5⟩ := f7_0
    subst ex5
    refine lv_aload_n hx hb dX12_left_15 rfl (lv_at hl 0 rfl) ?_
    refine lv_iconst (v := 0) hx hb dX12_left_16 (by decide) ?_
    refine va_put (D := (dC, dI)) (ci := 12) (v := .int 0) (ty := .int) (C := RX12) (T := TX12) (N := 163) (fs := fM (vS a (fT vi 0 0) vj)) hx hb hts iwsRX12_left_in12 tyX12 tyX12_ok nmX12 hown hK hP hD hS 0 rfl rfl 138 (by decide) (hts (.fieldLink RX12 1022 "OptimaWorksModel" "barred" "I") (by decide +kernel)) (fun _ h9 => h9) rfl (by decide +kernel) rfl rfl (Nat.le_of_ble_eq_true rfl) dX12_left_17 (fun H locs hP hD hS => ?_)
    have hP : va_P (dC, dI) vwCl (WR a k h0 (fT (fT vi 0 0) 138 0) vj vF vG) H := by rw [← WR_i 138 _ rfl]; exact hP
    have hD : va_D A (WR a k h0 (fT (fT vi 0 0) 138 0) vj vF vG) := by rw [← WR_i 138 _ rfl]; exact hD
    refine lv_aload_n hx hb dX12_left_20 rfl (lv_at hl 0 rfl) ?_
    have hFc := allFree hD hS hA
    refine va_callv (va_runV (As := []) (rest := []) ⟨hx, hb, hml, hown, hts⟩ (r_X12_leaveAll l dC dI a k h0 (fT (fT vi 0 0) 138 0) vj vF vG hn ru hhn (by first | with_reducible assumption | decide | omega | rfl | assumption) hru (by first | with_reducible assumption | decide | omega | rfl | assumption) (by first | with_reducible assumption | decide | omega | rfl | assumption) (by first | with_reducible assumption | decide | omega | rfl | assumption) H.size) (cwV 0 hts gwsRX12_left_1 rfl rfl rfl hd_yX12_leaveAll_RX12 (by decide +kernel)) (fz_pre (va_recv hK hP (ci := 12) (q0 := 0) rfl rfl) hP hK hD) rfl rfl hl.1 rfl (lv_room (Nat.le_of_ble_eq_true rfl)) dX12_left_21 (by decide +kernel)) hS (fun q _ h => hFc q h) hFc (fun u t9_ H locs ht hvm hw9 hB9 hz1 hk1 hS => ?_)
    revert u hw9 hB9
    refine fz_p5 ?_
    intro g7921 g8621 g8721 g8821 g8921 hw9 hB9
    try dsimp only at hw9 hB9
    have hP : va_P (dC, dI) vwCl (WR a k h0 (fT (fT vi 0 0) 138 0) vj (fT (fT (fT (fT (fT vF 79 g7921) 86 g8621) 87 g8721) 88 g8821) 89 g8921) vG) H := fz_P ht hB9.1
    have hD : va_D A (WR a k h0 (fT (fT vi 0 0) 138 0) vj (fT (fT (fT (fT (fT vF 79 g7921) 86 g8621) 87 g8721) 88 g8821) 89 g8921) vG) := hB9.2.weaken (fun _ q _ h => hFc q.1 h)
    have f21_0 := hw9
    try dsimp only at f21_0
    refine lv_aload_n hx hb dX12_left_24 rfl (lv_at hl 0 rfl) ?_
    refine va_get (D := (dC, dI)) (ci := 12) (v := .ref (a 79)) (C := RX12) (T := TX12) (N := 163) (fs := fM (vS a (fT (fT vi 0 0) 138 0) vj)) hx hb hts iwsRX12_left_in12 hown hK hP 0 rfl rfl 131 (by decide) (hts (.fieldLink RX12 260 "OptimaWorksModel" "now" "[I") (by decide +kernel)) (fun _ h9 => h9) rfl dX12_left_25 ?_
    refine lv_iload_n hx hb dX12_left_28 rfl (lv_at hl 1 rfl) ?_
    refine va_iald (cA := k 79) (n := 10) (f := g7921) hx hb hK hP 80 79 (WR_get 79 (by decide)) (TR_get 79 (by decide)) (vp_in_nI (show x5 < 10 by omega) (by omega)) dX12_left_29 ?_
    refine lv_topi (fun y1 hy1 => ?_)
    obtain rfl : (g7921 x5) = y1 := (hy1.trans (by rw [nI_clamp (by omega)])).symm
    refine W.widen (k := 0) (n := 0) (by decide +kernel) (by decide +kernel) ?_
    exact W.iret (v := (g7921 x5)) hx hb hr (fun t9_ ht hW => ⟨⟨(g7921 x5), (g7921, g8621, g8721, g8821, g8921, 0), rfl, trivial, by rw [ht]; exact hP, hD⟩, hS.F ht⟩) hS.2.2 dX12_left_30
  · refine lv_if_ne (tgt := 15) hx hb dX12_left_10 (by decide) (fun c9 => absurd c9 (by decide)) (fun _ => ?_)
    refine lv_iconst (v := (-1)) hx hb dX12_left_13 (by decide) ?_
    refine W.widen (k := 0) (n := 0) (by decide +kernel) (by decide +kernel) ?_
    have e9 : fT (fT vi 0 0) 138 (vi 138) = fT vi 0 0 := fT_id _ _ (fT_ne _ _ (Nat.ne_of_beq_eq_false rfl))
    have hP : va_P (dC, dI) vwCl (WR a k h0 (fT (fT vi 0 0) 138 (vi 138)) vj vF vG) H := by rw [e9]; exact hP
    have hD : va_D A (WR a k h0 (fT (fT vi 0 0) 138 (vi 138)) vj vF vG) := by rw [e9]; exact hD
    clear e9
    have e9 : fT (fT (fT (fT (fT vF 79 (vF 79)) 86 (vF 86)) 87 (vF 87)) 88 (vF 88)) 89 (vF 89) = vF := (fT_id _ _ ((fT_ne _ _ (Nat.ne_of_beq_eq_false rfl)).trans ((fT_ne _ _ (Nat.ne_of_beq_eq_false rfl)).trans ((fT_ne _ _ (Nat.ne_of_beq_eq_false rfl)).trans (fT_ne _ _ (Nat.ne_of_beq_eq_false rfl)))))).trans ((fT_id _ _ ((fT_ne _ _ (Nat.ne_of_beq_eq_false rfl)).trans ((fT_ne _ _ (Nat.ne_of_beq_eq_false rfl)).trans (fT_ne _ _ (Nat.ne_of_beq_eq_false rfl))))).trans ((fT_id _ _ ((fT_ne _ _ (Nat.ne_of_beq_eq_false rfl)).trans (fT_ne _ _ (Nat.ne_of_beq_eq_false rfl)))).trans ((fT_id _ _ (fT_ne _ _ (Nat.ne_of_beq_eq_false rfl))).trans (fT_id _ _ (rfl)))))
    have hP : va_P (dC, dI) vwCl (WR a k h0 (fT (fT vi 0 0) 138 (vi 138)) vj (fT (fT (fT (fT (fT vF 79 (vF 79)) 86 (vF 86)) 87 (vF 87)) 88 (vF 88)) 89 (vF 89)) vG) H := by rw [e9]; exact hP
    have hD : va_D A (WR a k h0 (fT (fT vi 0 0) 138 (vi 138)) vj (fT (fT (fT (fT (fT vF 79 (vF 79)) 86 (vF 86)) 87 (vF 87)) 88 (vF 88)) 89 (vF 89)) vG) := by rw [e9]; exact hD
    clear e9
    exact W.iret (v := (-1)) hx hb hr (fun t9_ ht hW => ⟨⟨(-1), ((vF 79), (vF 86), (vF 87), (vF 88), (vF 89), (vi 138)), rfl, trivial, by rw [ht]; exact hP, hD⟩, hS.F ht⟩) hS.2.2 dX12_left_14
theorem dX12_reason_0 : decode cX12_reason 0 = .ok (.aload_n 0, 1) := dk_42 (by decide +kernel)
theorem dX12_reason_1 : decode cX12_reason 1 = .ok (.iconst 0, 1) := dk_3 (by decide +kernel)
theorem dX12_reason_2 : decode cX12_reason 2 = .ok (.putfield 348, 3) := dk_181 (by decide +kernel)
theorem dX12_reason_5 : decode cX12_reason 5 = .ok (.aload_n 0, 1) := dk_42 (by decide +kernel)
theorem dX12_reason_6 : decode cX12_reason 6 = .ok (.iload_n 1, 1) := dk_27 (by decide +kernel)
theorem dX12_reason_7 : decode cX12_reason 7 = .ok (.invokevirtual 984, 3) := dk_182 (by decide +kernel)
theorem dX12_reason_10 : decode cX12_reason 10 = .ok (.ifCond .eq 26, 3) := dk_153 (by decide +kernel)
theorem dX12_reason_13 : decode cX12_reason 13 = .ok (.iload_n 2, 1) := dk_28 (by decide +kernel)
theorem dX12_reason_14 : decode cX12_reason 14 = .ok (.ifCond .lt 22, 3) := dk_155 (by decide +kernel)
theorem dX12_reason_17 : decode cX12_reason 17 = .ok (.iload_n 2, 1) := dk_28 (by decide +kernel)
theorem dX12_reason_18 : decode cX12_reason 18 = .ok (.bipush 15, 2) := dk_16 (by decide +kernel)
theorem dX12_reason_20 : decode cX12_reason 20 = .ok (.if_icmp .gt 16, 3) := dk_163 (by decide +kernel)
theorem dX12_reason_23 : decode cX12_reason 23 = .ok (.aload_n 0, 1) := dk_42 (by decide +kernel)
theorem dX12_reason_24 : decode cX12_reason 24 = .ok (.getfield 257, 3) := dk_180 (by decide +kernel)
theorem dX12_reason_27 : decode cX12_reason 27 = .ok (.iload_n 1, 1) := dk_27 (by decide +kernel)
theorem dX12_reason_28 : decode cX12_reason 28 = .ok (.iaload, 1) := dk_46 (by decide +kernel)
theorem dX12_reason_29 : decode cX12_reason 29 = .ok (.iload_n 2, 1) := dk_28 (by decide +kernel)
theorem dX12_reason_30 : decode cX12_reason 30 = .ok (.ishr, 1) := dk_122 (by decide +kernel)
theorem dX12_reason_31 : decode cX12_reason 31 = .ok (.iconst 1, 1) := dk_4 (by decide +kernel)
theorem dX12_reason_32 : decode cX12_reason 32 = .ok (.iand, 1) := dk_126 (by decide +kernel)
theorem dX12_reason_33 : decode cX12_reason 33 = .ok (.ifCond .ne 5, 3) := dk_154 (by decide +kernel)
theorem dX12_reason_36 : decode cX12_reason 36 = .ok (.iconst (-1), 1) := dk_2 (by decide +kernel)
theorem dX12_reason_37 : decode cX12_reason 37 = .ok (.ireturn, 1) := dk_172 (by decide +kernel)
theorem dX12_reason_38 : decode cX12_reason 38 = .ok (.aload_n 0, 1) := dk_42 (by decide +kernel)
theorem dX12_reason_39 : decode cX12_reason 39 = .ok (.iconst 0, 1) := dk_3 (by decide +kernel)
theorem dX12_reason_40 : decode cX12_reason 40 = .ok (.putfield 1022, 3) := dk_181 (by decide +kernel)
theorem dX12_reason_43 : decode cX12_reason 43 = .ok (.aload_n 0, 1) := dk_42 (by decide +kernel)
theorem dX12_reason_44 : decode cX12_reason 44 = .ok (.invokevirtual 1031, 3) := dk_182 (by decide +kernel)
theorem dX12_reason_47 : decode cX12_reason 47 = .ok (.aload_n 0, 1) := dk_42 (by decide +kernel)
theorem dX12_reason_48 : decode cX12_reason 48 = .ok (.getfield 260, 3) := dk_180 (by decide +kernel)
theorem dX12_reason_51 : decode cX12_reason 51 = .ok (.iload_n 1, 1) := dk_27 (by decide +kernel)
theorem dX12_reason_52 : decode cX12_reason 52 = .ok (.iaload, 1) := dk_46 (by decide +kernel)
theorem dX12_reason_53 : decode cX12_reason 53 = .ok (.iload_n 2, 1) := dk_28 (by decide +kernel)
theorem dX12_reason_54 : decode cX12_reason 54 = .ok (.ishr, 1) := dk_122 (by decide +kernel)
theorem dX12_reason_55 : decode cX12_reason 55 = .ok (.iconst 1, 1) := dk_4 (by decide +kernel)
theorem dX12_reason_56 : decode cX12_reason 56 = .ok (.iand, 1) := dk_126 (by decide +kernel)
theorem dX12_reason_57 : decode cX12_reason 57 = .ok (.iconst 1, 1) := dk_4 (by decide +kernel)
theorem dX12_reason_58 : decode cX12_reason 58 = .ok (.if_icmp .ne 5, 3) := dk_160 (by decide +kernel)
theorem dX12_reason_61 : decode cX12_reason 61 = .ok (.iconst (-1), 1) := dk_2 (by decide +kernel)
theorem dX12_reason_62 : decode cX12_reason 62 = .ok (.ireturn, 1) := dk_172 (by decide +kernel)
theorem dX12_reason_63 : decode cX12_reason 63 = .ok (.aload_n 0, 1) := dk_42 (by decide +kernel)
theorem dX12_reason_64 : decode cX12_reason 64 = .ok (.getfield 990, 3) := dk_180 (by decide +kernel)
theorem dX12_reason_67 : decode cX12_reason 67 = .ok (.iconst 1, 1) := dk_4 (by decide +kernel)
theorem dX12_reason_68 : decode cX12_reason 68 = .ok (.isub, 1) := dk_100 (by decide +kernel)
theorem dX12_reason_69 : decode cX12_reason 69 = .ok (.istore_n 3, 1) := dk_62 (by decide +kernel)
theorem dX12_reason_70 : decode cX12_reason 70 = .ok (.iload_n 3, 1) := dk_29 (by decide +kernel)
theorem dX12_reason_71 : decode cX12_reason 71 = .ok (.ifCond .lt 53, 3) := dk_155 (by decide +kernel)
theorem dX12_reason_74 : decode cX12_reason 74 = .ok (.aload_n 0, 1) := dk_42 (by decide +kernel)
theorem dX12_reason_75 : decode cX12_reason 75 = .ok (.dup, 1) := dk_89 (by decide +kernel)
theorem dX12_reason_76 : decode cX12_reason 76 = .ok (.getfield 1022, 3) := dk_180 (by decide +kernel)
theorem dX12_reason_79 : decode cX12_reason 79 = .ok (.iconst 1, 1) := dk_4 (by decide +kernel)
theorem dX12_reason_80 : decode cX12_reason 80 = .ok (.iload_n 3, 1) := dk_29 (by decide +kernel)
theorem dX12_reason_81 : decode cX12_reason 81 = .ok (.ishl, 1) := dk_120 (by decide +kernel)
theorem dX12_reason_82 : decode cX12_reason 82 = .ok (.ior, 1) := dk_128 (by decide +kernel)
theorem dX12_reason_83 : decode cX12_reason 83 = .ok (.putfield 1022, 3) := dk_181 (by decide +kernel)
theorem dX12_reason_86 : decode cX12_reason 86 = .ok (.aload_n 0, 1) := dk_42 (by decide +kernel)
theorem dX12_reason_87 : decode cX12_reason 87 = .ok (.invokevirtual 1031, 3) := dk_182 (by decide +kernel)
theorem dX12_reason_90 : decode cX12_reason 90 = .ok (.aload_n 0, 1) := dk_42 (by decide +kernel)
theorem dX12_reason_91 : decode cX12_reason 91 = .ok (.getfield 260, 3) := dk_180 (by decide +kernel)
theorem dX12_reason_94 : decode cX12_reason 94 = .ok (.iload_n 1, 1) := dk_27 (by decide +kernel)
theorem dX12_reason_95 : decode cX12_reason 95 = .ok (.iaload, 1) := dk_46 (by decide +kernel)
theorem dX12_reason_96 : decode cX12_reason 96 = .ok (.iload_n 2, 1) := dk_28 (by decide +kernel)
theorem dX12_reason_97 : decode cX12_reason 97 = .ok (.ishr, 1) := dk_122 (by decide +kernel)
theorem dX12_reason_98 : decode cX12_reason 98 = .ok (.iconst 1, 1) := dk_4 (by decide +kernel)
theorem dX12_reason_99 : decode cX12_reason 99 = .ok (.iand, 1) := dk_126 (by decide +kernel)
theorem dX12_reason_100 : decode cX12_reason 100 = .ok (.iconst 1, 1) := dk_4 (by decide +kernel)
theorem dX12_reason_101 : decode cX12_reason 101 = .ok (.if_icmp .ne 17, 3) := dk_160 (by decide +kernel)
theorem dX12_reason_104 : decode cX12_reason 104 = .ok (.aload_n 0, 1) := dk_42 (by decide +kernel)
theorem dX12_reason_105 : decode cX12_reason 105 = .ok (.dup, 1) := dk_89 (by decide +kernel)
theorem dX12_reason_106 : decode cX12_reason 106 = .ok (.getfield 1022, 3) := dk_180 (by decide +kernel)
theorem dX12_reason_109 : decode cX12_reason 109 = .ok (.iconst 1, 1) := dk_4 (by decide +kernel)
theorem dX12_reason_110 : decode cX12_reason 110 = .ok (.iload_n 3, 1) := dk_29 (by decide +kernel)
theorem dX12_reason_111 : decode cX12_reason 111 = .ok (.ishl, 1) := dk_120 (by decide +kernel)
theorem dX12_reason_112 : decode cX12_reason 112 = .ok (.iconst (-1), 1) := dk_2 (by decide +kernel)
theorem dX12_reason_113 : decode cX12_reason 113 = .ok (.ixor, 1) := dk_130 (by decide +kernel)
theorem dX12_reason_114 : decode cX12_reason 114 = .ok (.iand, 1) := dk_126 (by decide +kernel)
theorem dX12_reason_115 : decode cX12_reason 115 = .ok (.putfield 1022, 3) := dk_181 (by decide +kernel)
theorem dX12_reason_118 : decode cX12_reason 118 = .ok (.iinc 3 (-1), 3) := dk_132 (by decide +kernel)
theorem dX12_reason_121 : decode cX12_reason 121 = .ok (.goto (-51), 3) := dk_167 (by decide +kernel)
theorem dX12_reason_124 : decode cX12_reason 124 = .ok (.iconst 1, 1) := dk_4 (by decide +kernel)
theorem dX12_reason_125 : decode cX12_reason 125 = .ok (.aload_n 0, 1) := dk_42 (by decide +kernel)
theorem dX12_reason_126 : decode cX12_reason 126 = .ok (.getfield 990, 3) := dk_180 (by decide +kernel)
theorem dX12_reason_129 : decode cX12_reason 129 = .ok (.ishl, 1) := dk_120 (by decide +kernel)
theorem dX12_reason_130 : decode cX12_reason 130 = .ok (.iconst 1, 1) := dk_4 (by decide +kernel)
theorem dX12_reason_131 : decode cX12_reason 131 = .ok (.isub, 1) := dk_100 (by decide +kernel)
theorem dX12_reason_132 : decode cX12_reason 132 = .ok (.aload_n 0, 1) := dk_42 (by decide +kernel)
theorem dX12_reason_133 : decode cX12_reason 133 = .ok (.getfield 1022, 3) := dk_180 (by decide +kernel)
theorem dX12_reason_136 : decode cX12_reason 136 = .ok (.iconst (-1), 1) := dk_2 (by decide +kernel)
theorem dX12_reason_137 : decode cX12_reason 137 = .ok (.ixor, 1) := dk_130 (by decide +kernel)
theorem dX12_reason_138 : decode cX12_reason 138 = .ok (.iand, 1) := dk_126 (by decide +kernel)
theorem dX12_reason_139 : decode cX12_reason 139 = .ok (.ireturn, 1) := dk_172 (by decide +kernel)
def wsRX12_reason : List Cond := .code yX12_reason cX12_reason 4 (some .int) :: ([.fieldLink RX12 348 "OptimaWorksModel" "thrown" "I", .fieldLink RX12 257 "OptimaWorksModel" "domain" "[I", .fieldLink RX12 1022 "OptimaWorksModel" "barred" "I", .fieldLink RX12 260 "OptimaWorksModel" "now" "[I", .fieldLink RX12 990 "OptimaWorksModel" "rules" "I"] ++ wsX120 ++ (wsV RX12 984 RX12 yX12_isHolder wsRX12_isHolder) ++ (wsV RX12 1031 RX12 yX12_leaveAll wsRX12_leaveAll))
theorem iwsRX12_reason_in12 : ∀ w ∈ wsX120, w ∈ wsRX12_reason := fun _ h => List.mem_cons_of_mem _ (List.mem_append_left _ (List.mem_append_left _ (List.mem_append_right _ h)))
theorem gwsRX12_reason_0 : GoodIn wsRX12_reason (wsV RX12 984 RX12 yX12_isHolder wsRX12_isHolder) := goodIn_sub (fun _ h => List.mem_cons_of_mem _ (List.mem_append_left _ (List.mem_append_right _ h))) (gdV (by decide +kernel) gdwsRX12_isHolder)
theorem gwsRX12_reason_1 : GoodIn wsRX12_reason (wsV RX12 1031 RX12 yX12_leaveAll wsRX12_leaveAll) := goodIn_sub (fun _ h => List.mem_cons_of_mem _ (List.mem_append_right _ h)) (gdV (by decide +kernel) gdwsRX12_leaveAll)
theorem gdwsRX12_reason : wsRX12_reason.all goodWord = true := gdC rfl (gdA (gdA (gdA (by decide +kernel : ([.fieldLink RX12 348 "OptimaWorksModel" "thrown" "I", .fieldLink RX12 257 "OptimaWorksModel" "domain" "[I", .fieldLink RX12 1022 "OptimaWorksModel" "barred" "I", .fieldLink RX12 260 "OptimaWorksModel" "now" "[I", .fieldLink RX12 990 "OptimaWorksModel" "rules" "I"] : List Cond).all goodWord = true) gdwsX120) (gdV (by decide +kernel) gdwsRX12_isHolder)) (gdV (by decide +kernel) gdwsRX12_leaveAll))
set_option maxHeartbeats 4000000 in
set_option maxRecDepth 100000 in
/-- reason(h, v) -/
theorem r_X12_reason (l : Launch) (dC : Nat → ClassId) (dI : Nat → Nat → Nat) (a : Nat → Nat) (k : Nat → ClassId) (h0 : Nat) (vi : Nat → Int32) (vj : Nat → Int64) (vF : Nat → Nat → Int32) (vG : Nat → Nat → Int64) (hI : Int32) (vI : Int32) (hn : Nat) (ru : Nat) (hhn : vi 128 = nI hn) (hhn10 : hn ≤ 10) (hru : vi 129 = nI ru) (hru12 : ru ≤ 12) (hRu : RuO (vF 80) (vF 81) (vF 82) (vF 83) hn ru) (hDo : DoO (vF 78) hn) (sz : Nat) : Met l yX12_reason wsRX12_reason ({ frames := 7, cells := 0, slots := 0, locals := 166 }) (va_Pc [.ref h0, .int hI, .int vI] (fun U => U.heap.size = sz ∧ va_P (dC, dI) vwCl (WR a k h0 vi vj vF vG) U.heap ∧ va_K (dC, dI) vwCl (tX12 k) U ∧ va_D (fun _ => True) (WR a k h0 vi vj vF vG))) (va_Qi (fun (r : Int32) (u : (Nat → Int32) × (Nat → Int32) × (Nat → Int32) × (Nat → Int32) × (Nat → Int32) × (Int32)) => True) (fun (u : (Nat → Int32) × (Nat → Int32) × (Nat → Int32) × (Nat → Int32) × (Nat → Int32) × (Int32)) t => va_P (dC, dI) vwCl (WR a k h0 (fT (fT vi 0 0) 138 (u.2.2.2.2.2)) vj (fT (fT (fT (fT (fT vF 79 (u.1)) 86 (u.2.1)) 87 (u.2.2.1)) 88 (u.2.2.2.1)) 89 (u.2.2.2.2.1)) vG) t.heap ∧ va_D (va_A (WR a k h0 vi vj vF vG) sz) (WR a k h0 (fT (fT vi 0 0) 138 (u.2.2.2.2.2)) vj (fT (fT (fT (fT (fT vF 79 (u.1)) 86 (u.2.1)) 87 (u.2.2.1)) 88 (u.2.2.2.1)) 89 (u.2.2.2.2.1)) vG)) (va_A (WR a k h0 vi vj vF vG) sz)) 0 0 (va_A (WR a k h0 vi vj vF vG) sz) := by
  refine Met.ofW (cc := cX12_reason) (maxL := 4) (ret := (some .int)) (by decide) rfl ?_
  intro p e s m args below meth c s₁ B hml hv
  obtain ⟨rfl, hsz, hP, hK, hD0⟩ := hv
  have hx := B.exec
  have hb := B.bytes
  have hr := B.returns
  have hts := atoms_spec (ws := wsRX12_reason) B.pre
  have hown : s.vm.findClass RX12 = some m.cls := findClass_of_methodNamed B.named
  have hlocks := B.notSynchronized
  subst hsz
  have hD := hD0.self (sz := s.heap.size)
  generalize hAe : va_A (WR a k h0 vi vj vF vG) s.heap.size = A at hD ⊢
  have hA : ∀ q : Nat, s.heap.size ≤ q → A q := fun q h => by rw [← hAe]; exact Or.inr h
  have hS : va_S A s.heap s.heap [] := va_S.rf
  have hl := lv_entry ([.ref h0, .int hI, .int vI]) (n := 4) (Nat.le_of_ble_eq_true rfl)
  rw [lg_entry_eq]
  generalize (lg_sl ([.ref h0, .int hI, .int vI]) ++ List.replicate (4 - (lg_sl ([.ref h0, .int hI, .int vI])).length) Slot.unset).toArray = ls at hl ⊢
  have hl : lv_has ls 4 [(0, .ref h0), (1, .int hI), (2, .int vI)] := hl
  refine lv_aload_n hx hb dX12_reason_0 rfl (lv_at hl 0 rfl) ?_
  refine lv_iconst (v := 0) hx hb dX12_reason_1 (by decide) ?_
  refine va_put (D := (dC, dI)) (ci := 12) (v := .int 0) (ty := .int) (C := RX12) (T := TX12) (N := 163) (fs := fM (vS a vi vj)) hx hb hts iwsRX12_reason_in12 tyX12 tyX12_ok nmX12 hown hK hP hD hS 0 rfl rfl 0 (by decide) (hts (.fieldLink RX12 348 "OptimaWorksModel" "thrown" "I") (by decide +kernel)) (fun _ h9 => h9) rfl (by decide +kernel) rfl rfl (Nat.le_of_ble_eq_true rfl) dX12_reason_2 (fun H locs hP hD hS => ?_)
  have hP : va_P (dC, dI) vwCl (WR a k h0 (fT vi 0 0) vj vF vG) H := by rw [← WR_i 0 _ rfl]; exact hP
  have hD : va_D A (WR a k h0 (fT vi 0 0) vj vF vG) := by rw [← WR_i 0 _ rfl]; exact hD
  refine lv_aload_n hx hb dX12_reason_5 rfl (lv_at hl 0 rfl) ?_
  refine lv_iload_n hx hb dX12_reason_6 rfl (lv_at hl 1 rfl) ?_
  have hFc := allFree hD hS hA
  refine va_calli (va_runV (As := [.int hI]) (rest := []) ⟨hx, hb, hml, hown, hts⟩ (r_X12_isHolder l dC dI a k h0 (fT vi 0 0) vj vF vG hI hn hhn (by first | with_reducible assumption | decide | omega | rfl | assumption) H.size) (cwV 1 hts gwsRX12_reason_0 rfl rfl rfl hd_yX12_isHolder_RX12 (by decide +kernel)) (fz_pre (va_recv hK hP (ci := 12) (q0 := 0) rfl rfl) hP hK hD) rfl rfl hl.1 rfl (lv_room (Nat.le_of_ble_eq_true rfl)) dX12_reason_7 (by decide +kernel)) hS (fun q _ h => hFc q h) hFc (fun r7 u t9_ H locs ht hvm hw9 hB9 hz1 hk1 hS => ?_)
  have hP : va_P (dC, dI) vwCl (WR a k h0 (fT vi 0 0) vj vF vG) H := fz_P ht hB9.1
  have hD : va_D A (WR a k h0 (fT vi 0 0) vj vF vG) := hB9.2.weaken (fun _ q _ h => hFc q.1 h)
  rcases hw9 with ⟨rfl, f7_0, f7_1⟩ | ⟨rfl, f7_0⟩
  · refine lv_if_eq (tgt := 36) hx hb dX12_reason_10 (by decide) (fun c9 => absurd c9 (by decide)) (fun _ => ?_)
    obtain ⟨x5, hx5, ex5⟩ := f7_0
    subst ex5
    refine lv_iload_n hx hb dX12_reason_13 rfl (lv_at hl 2 rfl) ?_
    refine lv_if_lt (tgt := 36) hx hb dX12_reason_14 (by decide) (fun c_14 => ?_) (fun c_14 => ?_)
    · have t_14 : (vI).toInt < 0 := toI_lt c_14 rfl (by decide)
      refine lv_iconst (v := (-1)) hx hb dX12_reason_36 (by decide) ?_
      refine W.widen (k := 0) (n := 0) (by decide +kernel) (by decide +kernel) ?_
      have e9 : fT (fT vi 0 0) 138 (vi 138) = fT vi 0 0 := fT_id _ _ (fT_ne _ _ (Nat.ne_of_beq_eq_false rfl))
      have hP : va_P (dC, dI) vwCl (WR a k h0 (fT (fT vi 0 0) 138 (vi 138)) vj vF vG) H := by rw [e9]; exact hP
      have hD : va_D A (WR a k h0 (fT (fT vi 0 0) 138 (vi 138)) vj vF vG) := by rw [e9]; exact hD
      clear e9
      have e9 : fT (fT (fT (fT (fT vF 79 (vF 79)) 86 (vF 86)) 87 (vF 87)) 88 (vF 88)) 89 (vF 89) = vF := (fT_id _ _ ((fT_ne _ _ (Nat.ne_of_beq_eq_false rfl)).trans ((fT_ne _ _ (Nat.ne_of_beq_eq_false rfl)).trans ((fT_ne _ _ (Nat.ne_of_beq_eq_false rfl)).trans (fT_ne _ _ (Nat.ne_of_beq_eq_false rfl)))))).trans ((fT_id _ _ ((fT_ne _ _ (Nat.ne_of_beq_eq_false rfl)).trans ((fT_ne _ _ (Nat.ne_of_beq_eq_false rfl)).trans (fT_ne _ _ (Nat.ne_of_beq_eq_false rfl))))).trans ((fT_id _ _ ((fT_ne _ _ (Nat.ne_of_beq_eq_false rfl)).trans (fT_ne _ _ (Nat.ne_of_beq_eq_false rfl)))).trans ((fT_id _ _ (fT_ne _ _ (Nat.ne_of_beq_eq_false rfl))).trans (fT_id _ _ (rfl)))))
      have hP : va_P (dC, dI) vwCl (WR a k h0 (fT (fT vi 0 0) 138 (vi 138)) vj (fT (fT (fT (fT (fT vF 79 (vF 79)) 86 (vF 86)) 87 (vF 87)) 88 (vF 88)) 89 (vF 89)) vG) H := by rw [e9]; exact hP
      have hD : va_D A (WR a k h0 (fT (fT vi 0 0) 138 (vi 138)) vj (fT (fT (fT (fT (fT vF 79 (vF 79)) 86 (vF 86)) 87 (vF 87)) 88 (vF 88)) 89 (vF 89)) vG) := by rw [e9]; exact hD
      clear e9
      exact W.iret (v := (-1)) hx hb hr (fun t9_ ht hW => ⟨⟨(-1), ((vF 79), (vF 86), (vF 87), (vF 88), (vF 89), (vi 138)), rfl, trivial, by rw [ht]; exact hP, hD⟩, hS.F ht⟩) hS.2.2 dX12_reason_37
    · have t_14 : ¬ (vI).toInt < 0 := toI_nlt c_14 rfl (by decide)
      refine lv_iload_n hx hb dX12_reason_17 rfl (lv_at hl 2 rfl) ?_
      refine lv_bipush (v := 15) hx hb dX12_reason_18 (by decide) ?_
      refine lv_icmp_gt (tgt := 36) hx hb dX12_reason_20 (by decide) (fun c_20 => ?_) (fun c_20 => ?_)
      · have t_20 : (vI).toInt > 15 := toI_gt c_20 rfl (by decide)
        refine lv_iconst (v := (-1)) hx hb dX12_reason_36 (by decide) ?_
        refine W.widen (k := 0) (n := 0) (by decide +kernel) (by decide +kernel) ?_
        have e9 : fT (fT vi 0 0) 138 (vi 138) = fT vi 0 0 := fT_id _ _ (fT_ne _ _ (Nat.ne_of_beq_eq_false rfl))
        have hP : va_P (dC, dI) vwCl (WR a k h0 (fT (fT vi 0 0) 138 (vi 138)) vj vF vG) H := by rw [e9]; exact hP
        have hD : va_D A (WR a k h0 (fT (fT vi 0 0) 138 (vi 138)) vj vF vG) := by rw [e9]; exact hD
        clear e9
        have e9 : fT (fT (fT (fT (fT vF 79 (vF 79)) 86 (vF 86)) 87 (vF 87)) 88 (vF 88)) 89 (vF 89) = vF := (fT_id _ _ ((fT_ne _ _ (Nat.ne_of_beq_eq_false rfl)).trans ((fT_ne _ _ (Nat.ne_of_beq_eq_false rfl)).trans ((fT_ne _ _ (Nat.ne_of_beq_eq_false rfl)).trans (fT_ne _ _ (Nat.ne_of_beq_eq_false rfl)))))).trans ((fT_id _ _ ((fT_ne _ _ (Nat.ne_of_beq_eq_false rfl)).trans ((fT_ne _ _ (Nat.ne_of_beq_eq_false rfl)).trans (fT_ne _ _ (Nat.ne_of_beq_eq_false rfl))))).trans ((fT_id _ _ ((fT_ne _ _ (Nat.ne_of_beq_eq_false rfl)).trans (fT_ne _ _ (Nat.ne_of_beq_eq_false rfl)))).trans ((fT_id _ _ (fT_ne _ _ (Nat.ne_of_beq_eq_false rfl))).trans (fT_id _ _ (rfl)))))
        have hP : va_P (dC, dI) vwCl (WR a k h0 (fT (fT vi 0 0) 138 (vi 138)) vj (fT (fT (fT (fT (fT vF 79 (vF 79)) 86 (vF 86)) 87 (vF 87)) 88 (vF 88)) 89 (vF 89)) vG) H := by rw [e9]; exact hP
        have hD : va_D A (WR a k h0 (fT (fT vi 0 0) 138 (vi 138)) vj (fT (fT (fT (fT (fT vF 79 (vF 79)) 86 (vF 86)) 87 (vF 87)) 88 (vF 88)) 89 (vF 89)) vG) := by rw [e9]; exact hD
        clear e9
        exact W.iret (v := (-1)) hx hb hr (fun t9_ ht hW => ⟨⟨(-1), ((vF 79), (vF 86), (vF 87), (vF 88), (vF 89), (vi 138)), rfl, trivial, by rw [ht]; exact hP, hD⟩, hS.F ht⟩) hS.2.2 dX12_reason_37
      · have t_20 : ¬ (vI).toInt > 15 := toI_ngt c_20 rfl (by decide)
        refine lv_aload_n hx hb dX12_reason_23 rfl (lv_at hl 0 rfl) ?_
        refine va_get (D := (dC, dI)) (ci := 12) (v := .ref (a 78)) (C := RX12) (T := TX12) (N := 163) (fs := fM (vS a (fT vi 0 0) vj)) hx hb hts iwsRX12_reason_in12 hown hK hP 0 rfl rfl 130 (by decide) (hts (.fieldLink RX12 257 "OptimaWorksModel" "domain" "[I") (by decide +kernel)) (fun _ h9 => h9) rfl dX12_reason_24 ?_
        refine lv_iload_n hx hb dX12_reason_27 rfl (lv_at hl 1 rfl) ?_
        refine va_iald (cA := k 78) (n := 10) (f := (vF 78)) hx hb hK hP 79 78 (WR_get 78 (by decide)) (TR_get 78 (by decide)) (vp_in_nI (show x5 < 10 by omega) (by omega)) dX12_reason_28 ?_
        refine lv_topi (fun y1 hy1 => ?_)
        obtain rfl : ((vF 78) x5) = y1 := (hy1.trans (by rw [nI_clamp (by omega)])).symm
        refine lv_iload_n hx hb dX12_reason_29 rfl (lv_at hl 2 rfl) ?_
        refine lv_ishr hx hb dX12_reason_30 ?_
        refine lv_iconst (v := 1) hx hb dX12_reason_31 (by decide) ?_
        refine lv_iand hx hb dX12_reason_32 ?_
        refine lv_if_ne (tgt := 38) hx hb dX12_reason_33 (by decide) (fun c_33 => ?_) (fun c_33 => ?_)
        · have t_33 : (((((vF 78) x5) >>> (vI &&& 31)) &&& 1)).toInt ≠ 0 := toI_ne c_33 rfl (by decide)
          refine lv_aload_n hx hb dX12_reason_38 rfl (lv_at hl 0 rfl) ?_
          refine lv_iconst (v := 0) hx hb dX12_reason_39 (by decide) ?_
          refine va_put (D := (dC, dI)) (ci := 12) (v := .int 0) (ty := .int) (C := RX12) (T := TX12) (N := 163) (fs := fM (vS a (fT vi 0 0) vj)) hx hb hts iwsRX12_reason_in12 tyX12 tyX12_ok nmX12 hown hK hP hD hS 0 rfl rfl 138 (by decide) (hts (.fieldLink RX12 1022 "OptimaWorksModel" "barred" "I") (by decide +kernel)) (fun _ h9 => h9) rfl (by decide +kernel) rfl rfl (Nat.le_of_ble_eq_true rfl) dX12_reason_40 (fun H locs hP hD hS => ?_)
          have hP : va_P (dC, dI) vwCl (WR a k h0 (fT (fT vi 0 0) 138 0) vj vF vG) H := by rw [← WR_i 138 _ rfl]; exact hP
          have hD : va_D A (WR a k h0 (fT (fT vi 0 0) 138 0) vj vF vG) := by rw [← WR_i 138 _ rfl]; exact hD
          refine lv_aload_n hx hb dX12_reason_43 rfl (lv_at hl 0 rfl) ?_
          have hFc := allFree hD hS hA
          refine va_callv (va_runV (As := []) (rest := []) ⟨hx, hb, hml, hown, hts⟩ (r_X12_leaveAll l dC dI a k h0 (fT (fT vi 0 0) 138 0) vj vF vG hn ru hhn (by first | with_reducible assumption | decide | omega | rfl | assumption) hru (by first | with_reducible assumption | decide | omega | rfl | assumption) (by first | with_reducible assumption | decide | omega | rfl | assumption) (by first | with_reducible assumption | decide | omega | rfl | assumption) H.size) (cwV 0 hts gwsRX12_reason_1 rfl rfl rfl hd_yX12_leaveAll_RX12 (by decide +kernel)) (fz_pre (va_recv hK hP (ci := 12) (q0 := 0) rfl rfl) hP hK hD) rfl rfl hl.1 rfl (lv_room (Nat.le_of_ble_eq_true rfl)) dX12_reason_44 (by decide +kernel)) hS (fun q _ h => hFc q h) hFc (fun u t9_ H locs ht hvm hw9 hB9 hz1 hk1 hS => ?_)
          revert u hw9 hB9
          refine fz_p5 ?_
          intro g7944 g8644 g8744 g8844 g8944 hw9 hB9
          try dsimp only at hw9 hB9
          have hP : va_P (dC, dI) vwCl (WR a k h0 (fT (fT vi 0 0) 138 0) vj (fT (fT (fT (fT (fT vF 79 g7944) 86 g8644) 87 g8744) 88 g8844) 89 g8944) vG) H := fz_P ht hB9.1
          have hD : va_D A (WR a k h0 (fT (fT vi 0 0) 138 0) vj (fT (fT (fT (fT (fT vF 79 g7944) 86 g8644) 87 g8744) 88 g8844) 89 g8944) vG) := hB9.2.weaken (fun _ q _ h => hFc q.1 h)
          have f44_0 := hw9
          try dsimp only at f44_0
          refine lv_aload_n hx hb dX12_reason_47 rfl (lv_at hl 0 rfl) ?_
          refine va_get (D := (dC, dI)) (ci := 12) (v := .ref (a 79)) (C := RX12) (T := TX12) (N := 163) (fs := fM (vS a (fT (fT vi 0 0) 138 0) vj)) hx hb hts iwsRX12_reason_in12 hown hK hP 0 rfl rfl 131 (by decide) (hts (.fieldLink RX12 260 "OptimaWorksModel" "now" "[I") (by decide +kernel)) (fun _ h9 => h9) rfl dX12_reason_48 ?_
          refine lv_iload_n hx hb dX12_reason_51 rfl (lv_at hl 1 rfl) ?_
          refine va_iald (cA := k 79) (n := 10) (f := g7944) hx hb hK hP 80 79 (WR_get 79 (by decide)) (TR_get 79 (by decide)) (vp_in_nI (show x5 < 10 by omega) (by omega)) dX12_reason_52 ?_
          refine lv_topi (fun y2 hy2 => ?_)
          obtain rfl : (g7944 x5) = y2 := (hy2.trans (by rw [nI_clamp (by omega)])).symm
          refine lv_iload_n hx hb dX12_reason_53 rfl (lv_at hl 2 rfl) ?_
          refine lv_ishr hx hb dX12_reason_54 ?_
          refine lv_iconst (v := 1) hx hb dX12_reason_55 (by decide) ?_
          refine lv_iand hx hb dX12_reason_56 ?_
          refine lv_iconst (v := 1) hx hb dX12_reason_57 (by decide) ?_
          refine lv_icmp_ne (tgt := 63) hx hb dX12_reason_58 (by decide) (fun c_58 => ?_) (fun c_58 => ?_)
          · have t_58 : ((((g7944 x5) >>> (vI &&& 31)) &&& 1)).toInt ≠ 1 := toI_ne c_58 rfl (by decide)
            refine lv_aload_n hx hb dX12_reason_63 rfl (lv_at hl 0 rfl) ?_
            refine va_get (D := (dC, dI)) (ci := 12) (v := .int (vi 129)) (C := RX12) (T := TX12) (N := 163) (fs := fM (vS a (fT (fT vi 0 0) 138 0) vj)) hx hb hts iwsRX12_reason_in12 hown hK hP 0 rfl rfl 129 (by decide) (hts (.fieldLink RX12 990 "OptimaWorksModel" "rules" "I") (by decide +kernel)) (fun _ h9 => h9) rfl dX12_reason_64 ?_
            refine lv_topi (fun y3 hy3 => ?_)
            obtain rfl : (nI ru) = y3 := (hy3.trans (hru)).symm
            refine lv_iconst (v := 1) hx hb dX12_reason_67 (by decide) ?_
            refine lv_isub hx hb dX12_reason_68 ?_
            refine lv_istore_n hx hb dX12_reason_69 rfl hl (by decide) rfl (fun ls (hl : lv_has ls _ ([(3, .int ((nI ru) - 1)), (0, .ref h0), (1, .int (nI x5)), (2, .int vI)])) => ?_)
            have hl : lv_has _ _ ([(0, .ref h0), (1, .int (nI x5)), (2, .int vI), (3, .int ((nI ru) - 1))]) := lv_sub hl [1, 2, 3, 0] rfl
            refine (fun (loop : ∀ (n9 : Nat) (kq : Int32) (kk1 : Nat) (x2_i138 : Int32) (x2_F79 : Nat → Int32) (x2_F86 : Nat → Int32) (x2_F87 : Nat → Int32) (x2_F88 : Nat → Int32) (x2_F89 : Nat → Int32) (H : Heap) (locs : List Loc) (ls : Array Slot), ((kq).toInt = (kk1 : Int) - 1) → (kk1 ≤ ru) →  (kk1 < n9) → va_P (dC, dI) vwCl (WR a k h0 (fT (fT vi 0 0) 138 x2_i138) vj (fT (fT (fT (fT (fT vF 79 x2_F79) 86 x2_F86) 87 x2_F87) 88 x2_F88) 89 x2_F89) vG) H → va_D A (WR a k h0 (fT (fT vi 0 0) 138 x2_i138) vj (fT (fT (fT (fT (fT vF 79 x2_F79) 86 x2_F86) 87 x2_F87) 88 x2_F88) 89 x2_F89) vG) → va_S A s.heap H locs → lv_has ls 4 [(0, .ref h0), (1, .int (nI x5)), (2, .int vI), (3, .int kq)] → W p l e _ s m _ below meth c H locs 0 0 _ (F0 m 70 ls [])) => loop (ru + 1) ((nI ru) - 1) ru 0 g7944 g8644 g8744 g8844 g8944 _ _ _ (by exact pk_sub_toInt (a := ru) (b := 1) (by omega) (by omega)) (by omega) (by omega) hP hD hS hl) ?_
            intro n9
            induction n9 with
            | zero => intro kq kk1 x2_i138 x2_F79 x2_F86 x2_F87 x2_F88 x2_F89 H locs ls hkq hkn hf9; exact False.elim (by omega)
            | succ n9 ih70 =>
              intro kq kk1 x2_i138 x2_F79 x2_F86 x2_F87 x2_F88 x2_F89 H locs ls hkq hkn hf70 hP hD hS hl
              refine lv_iload_n hx hb dX12_reason_70 rfl (lv_at hl 3 rfl) ?_
              refine lv_if_lt (tgt := 124) hx hb dX12_reason_71 (by decide) (fun c_71 => ?_) (fun c_71 => ?_)
              · have t_71 : (kq).toInt < 0 := toI_lt c_71 rfl (by decide)
                refine lv_iconst (v := 1) hx hb dX12_reason_124 (by decide) ?_
                refine lv_aload_n hx hb dX12_reason_125 rfl (lv_at hl 0 rfl) ?_
                refine va_get (D := (dC, dI)) (ci := 12) (v := .int (vi 129)) (C := RX12) (T := TX12) (N := 163) (fs := fM (vS a (fT (fT vi 0 0) 138 x2_i138) vj)) hx hb hts iwsRX12_reason_in12 hown hK hP 0 rfl rfl 129 (by decide) (hts (.fieldLink RX12 990 "OptimaWorksModel" "rules" "I") (by decide +kernel)) (fun _ h9 => h9) rfl dX12_reason_126 ?_
                refine lv_topi (fun y4 hy4 => ?_)
                obtain rfl : (nI ru) = y4 := (hy4.trans (hru)).symm
                refine lv_ishl hx hb dX12_reason_129 ?_
                refine lv_iconst (v := 1) hx hb dX12_reason_130 (by decide) ?_
                refine lv_isub hx hb dX12_reason_131 ?_
                refine lv_aload_n hx hb dX12_reason_132 rfl (lv_at hl 0 rfl) ?_
                refine va_get (D := (dC, dI)) (ci := 12) (v := .int x2_i138) (C := RX12) (T := TX12) (N := 163) (fs := fM (vS a (fT (fT vi 0 0) 138 x2_i138) vj)) hx hb hts iwsRX12_reason_in12 hown hK hP 0 rfl rfl 138 (by decide) (hts (.fieldLink RX12 1022 "OptimaWorksModel" "barred" "I") (by decide +kernel)) (fun _ h9 => h9) rfl dX12_reason_133 ?_
                refine lv_iconst (v := (-1)) hx hb dX12_reason_136 (by decide) ?_
                refine lv_ixor hx hb dX12_reason_137 ?_
                refine lv_iand hx hb dX12_reason_138 ?_
                refine W.widen (k := 0) (n := 0) (by decide +kernel) (by decide +kernel) ?_
                exact W.iret (v := (((1 <<< ((nI ru) &&& 31)) - 1) &&& (x2_i138 ^^^ (-1)))) hx hb hr (fun t9_ ht hW => ⟨⟨(((1 <<< ((nI ru) &&& 31)) - 1) &&& (x2_i138 ^^^ (-1))), (x2_F79, x2_F86, x2_F87, x2_F88, x2_F89, x2_i138), rfl, trivial, by rw [ht]; exact hP, hD⟩, hS.F ht⟩) hS.2.2 dX12_reason_139
              · have t_71 : ¬ (kq).toInt < 0 := toI_nlt c_71 rfl (by decide)
                obtain ⟨kk, h_kk, rfl⟩ := of_toInt (x := kq) (k := 12) (by omega) (by omega)
                have e_kk : (nI kk).toInt = (kk : Int) := nI_toInt (by omega)
                refine lv_aload_n hx hb dX12_reason_74 rfl (lv_at hl 0 rfl) ?_
                refine lv_dup hx hb dX12_reason_75 rfl ?_
                refine va_get (D := (dC, dI)) (ci := 12) (v := .int x2_i138) (C := RX12) (T := TX12) (N := 163) (fs := fM (vS a (fT (fT vi 0 0) 138 x2_i138) vj)) hx hb hts iwsRX12_reason_in12 hown hK hP 0 rfl rfl 138 (by decide) (hts (.fieldLink RX12 1022 "OptimaWorksModel" "barred" "I") (by decide +kernel)) (fun _ h9 => h9) rfl dX12_reason_76 ?_
                refine lv_iconst (v := 1) hx hb dX12_reason_79 (by decide) ?_
                refine lv_iload_n hx hb dX12_reason_80 rfl (lv_at hl 3 rfl) ?_
                refine lv_ishl hx hb dX12_reason_81 ?_
                refine lv_ior hx hb dX12_reason_82 ?_
                refine va_put (D := (dC, dI)) (ci := 12) (v := .int (x2_i138 ||| (1 <<< ((nI kk) &&& 31)))) (ty := .int) (C := RX12) (T := TX12) (N := 163) (fs := fM (vS a (fT (fT vi 0 0) 138 x2_i138) vj)) hx hb hts iwsRX12_reason_in12 tyX12 tyX12_ok nmX12 hown hK hP hD hS 0 rfl rfl 138 (by decide) (hts (.fieldLink RX12 1022 "OptimaWorksModel" "barred" "I") (by decide +kernel)) (fun _ h9 => h9) rfl (by decide +kernel) rfl rfl (Nat.le_of_ble_eq_true rfl) dX12_reason_83 (fun H locs hP hD hS => ?_)
                have e9 : fT (fT vi 0 0) 138 (x2_i138 ||| (1 <<< ((nI kk) &&& 31))) = fT (fT (fT vi 0 0) 138 x2_i138) 138 (x2_i138 ||| (1 <<< ((nI kk) &&& 31))) := (fT_sm _ _ _ _).symm
                have hP : va_P (dC, dI) vwCl (WR a k h0 (fT (fT vi 0 0) 138 (x2_i138 ||| (1 <<< ((nI kk) &&& 31)))) vj (fT (fT (fT (fT (fT vF 79 x2_F79) 86 x2_F86) 87 x2_F87) 88 x2_F88) 89 x2_F89) vG) H := by rw [e9, ← WR_i 138 _ rfl]; exact hP
                have hD : va_D A (WR a k h0 (fT (fT vi 0 0) 138 (x2_i138 ||| (1 <<< ((nI kk) &&& 31)))) vj (fT (fT (fT (fT (fT vF 79 x2_F79) 86 x2_F86) 87 x2_F87) 88 x2_F88) 89 x2_F89) vG) := by rw [e9, ← WR_i 138 _ rfl]; exact hD
                clear e9
                refine lv_aload_n hx hb dX12_reason_86 rfl (lv_at hl 0 rfl) ?_
                have hFc := allFree hD hS hA
                refine va_callv (va_runV (As := []) (rest := []) ⟨hx, hb, hml, hown, hts⟩ (r_X12_leaveAll l dC dI a k h0 (fT (fT vi 0 0) 138 (x2_i138 ||| (1 <<< ((nI kk) &&& 31)))) vj (fT (fT (fT (fT (fT vF 79 x2_F79) 86 x2_F86) 87 x2_F87) 88 x2_F88) 89 x2_F89) vG hn ru hhn (by first | with_reducible assumption | decide | omega | rfl | assumption) hru (by first | with_reducible assumption | decide | omega | rfl | assumption) (by first | with_reducible assumption | decide | omega | rfl | assumption) (by first | with_reducible assumption | decide | omega | rfl | assumption) H.size) (cwV 0 hts gwsRX12_reason_1 rfl rfl rfl hd_yX12_leaveAll_RX12 (by decide +kernel)) (fz_pre (va_recv hK hP (ci := 12) (q0 := 0) rfl rfl) hP hK hD) rfl rfl hl.1 rfl (lv_room (Nat.le_of_ble_eq_true rfl)) dX12_reason_87 (by decide +kernel)) hS (fun q _ h => hFc q h) hFc (fun u t9_ H locs ht hvm hw9 hB9 hz1 hk1 hS => ?_)
                revert u hw9 hB9
                refine fz_p5 ?_
                intro g7987 g8687 g8787 g8887 g8987 hw9 hB9
                try dsimp only at hw9 hB9
                have hP : va_P (dC, dI) vwCl (WR a k h0 (fT (fT vi 0 0) 138 (x2_i138 ||| (1 <<< ((nI kk) &&& 31)))) vj (fT (fT (fT (fT (fT (fT (fT (fT (fT (fT vF 79 x2_F79) 86 x2_F86) 87 x2_F87) 88 x2_F88) 89 x2_F89) 79 g7987) 86 g8687) 87 g8787) 88 g8887) 89 g8987) vG) H := fz_P ht hB9.1
                have hD : va_D A (WR a k h0 (fT (fT vi 0 0) 138 (x2_i138 ||| (1 <<< ((nI kk) &&& 31)))) vj (fT (fT (fT (fT (fT (fT (fT (fT (fT (fT vF 79 x2_F79) 86 x2_F86) 87 x2_F87) 88 x2_F88) 89 x2_F89) 79 g7987) 86 g8687) 87 g8787) 88 g8887) 89 g8987) vG) := hB9.2.weaken (fun _ q _ h => hFc q.1 h)
                have e9 : fT (fT (fT (fT (fT vF 79 g7987) 86 g8687) 87 g8787) 88 g8887) 89 g8987 = fT (fT (fT (fT (fT (fT (fT (fT (fT (fT vF 79 x2_F79) 86 x2_F86) 87 x2_F87) 88 x2_F88) 89 x2_F89) 79 g7987) 86 g8687) 87 g8787) 88 g8887) 89 g8987 := ((congrArg (fun g9 => fT (fT (fT (fT g9 86 g8687) 87 g8787) 88 g8887) 89 g8987) ((fT_sw _ _ _ (Nat.ne_of_beq_eq_false rfl)).trans (congrArg (fun g9 => fT g9 89 x2_F89) ((fT_sw _ _ _ (Nat.ne_of_beq_eq_false rfl)).trans (congrArg (fun g9 => fT g9 88 x2_F88) ((fT_sw _ _ _ (Nat.ne_of_beq_eq_false rfl)).trans (congrArg (fun g9 => fT g9 87 x2_F87) ((fT_sw _ _ _ (Nat.ne_of_beq_eq_false rfl)).trans (congrArg (fun g9 => fT g9 86 x2_F86) (fT_sm _ _ _ _)))))))))).trans ((congrArg (fun g9 => fT (fT (fT g9 87 g8787) 88 g8887) 89 g8987) ((fT_sw _ _ _ (Nat.ne_of_beq_eq_false rfl)).trans (congrArg (fun g9 => fT g9 89 x2_F89) ((fT_sw _ _ _ (Nat.ne_of_beq_eq_false rfl)).trans (congrArg (fun g9 => fT g9 88 x2_F88) ((fT_sw _ _ _ (Nat.ne_of_beq_eq_false rfl)).trans (congrArg (fun g9 => fT g9 87 x2_F87) (fT_sm _ _ _ _)))))))).trans ((congrArg (fun g9 => fT (fT g9 88 g8887) 89 g8987) ((fT_sw _ _ _ (Nat.ne_of_beq_eq_false rfl)).trans (congrArg (fun g9 => fT g9 89 x2_F89) ((fT_sw _ _ _ (Nat.ne_of_beq_eq_false rfl)).trans (congrArg (fun g9 => fT g9 88 x2_F88) (fT_sm _ _ _ _)))))).trans ((congrArg (fun g9 => fT g9 89 g8987) ((fT_sw _ _ _ (Nat.ne_of_beq_eq_false rfl)).trans (congrArg (fun g9 => fT g9 89 x2_F89) (fT_sm _ _ _ _)))).trans (fT_sm _ _ _ _))))).symm
                rw [← e9] at hP hD
                clear e9
                have hP : va_P (dC, dI) vwCl (WR a k h0 (fT (fT vi 0 0) 138 (x2_i138 ||| (1 <<< ((nI kk) &&& 31)))) vj (fT (fT (fT (fT (fT vF 79 g7987) 86 g8687) 87 g8787) 88 g8887) 89 g8987) vG) H := hP
                have hD : va_D A (WR a k h0 (fT (fT vi 0 0) 138 (x2_i138 ||| (1 <<< ((nI kk) &&& 31)))) vj (fT (fT (fT (fT (fT vF 79 g7987) 86 g8687) 87 g8787) 88 g8887) 89 g8987) vG) := hD
                have f87_0 := hw9
                try dsimp only at f87_0
                refine lv_aload_n hx hb dX12_reason_90 rfl (lv_at hl 0 rfl) ?_
                refine va_get (D := (dC, dI)) (ci := 12) (v := .ref (a 79)) (C := RX12) (T := TX12) (N := 163) (fs := fM (vS a (fT (fT vi 0 0) 138 (x2_i138 ||| (1 <<< ((nI kk) &&& 31)))) vj)) hx hb hts iwsRX12_reason_in12 hown hK hP 0 rfl rfl 131 (by decide) (hts (.fieldLink RX12 260 "OptimaWorksModel" "now" "[I") (by decide +kernel)) (fun _ h9 => h9) rfl dX12_reason_91 ?_
                refine lv_iload_n hx hb dX12_reason_94 rfl (lv_at hl 1 rfl) ?_
                refine va_iald (cA := k 79) (n := 10) (f := g7987) hx hb hK hP 80 79 (WR_get 79 (by decide)) (TR_get 79 (by decide)) (vp_in_nI (show x5 < 10 by omega) (by omega)) dX12_reason_95 ?_
                refine lv_topi (fun y5 hy5 => ?_)
                obtain rfl : (g7987 x5) = y5 := (hy5.trans (by rw [nI_clamp (by omega)])).symm
                refine lv_iload_n hx hb dX12_reason_96 rfl (lv_at hl 2 rfl) ?_
                refine lv_ishr hx hb dX12_reason_97 ?_
                refine lv_iconst (v := 1) hx hb dX12_reason_98 (by decide) ?_
                refine lv_iand hx hb dX12_reason_99 ?_
                refine lv_iconst (v := 1) hx hb dX12_reason_100 (by decide) ?_
                refine W.cut (pc := 118) (fun H locs ls stk => ∃ (j3_i138 : Int32),  stk = [] ∧ va_P (dC, dI) vwCl (WR a k h0 (fT (fT vi 0 0) 138 j3_i138) vj (fT (fT (fT (fT (fT vF 79 g7987) 86 g8687) 87 g8787) 88 g8887) 89 g8987) vG) H ∧ va_D A (WR a k h0 (fT (fT vi 0 0) 138 j3_i138) vj (fT (fT (fT (fT (fT vF 79 g7987) 86 g8687) 87 g8787) 88 g8887) 89 g8987) vG) ∧ va_S A s.heap H locs ∧ lv_has ls 4 [(0, .ref h0), (1, .int (nI x5)), (2, .int vI), (3, .int (nI kk))]) (fun join1 => ?_) ?_
                · refine lv_icmp_ne (tgt := 118) hx hb dX12_reason_101 (by decide) (fun c_101 => ?_) (fun c_101 => ?_)
                  · have t_101 : ((((g7987 x5) >>> (vI &&& 31)) &&& 1)).toInt ≠ 1 := toI_ne c_101 rfl (by decide)
                    have hl : lv_has _ _ ([(0, .ref h0), (1, .int (nI x5)), (2, .int vI), (3, .int (nI kk))]) := lv_sub hl [0, 1, 2, 3] rfl
                    exact join1 _ _ _ _ ⟨(x2_i138 ||| (1 <<< ((nI kk) &&& 31))), rfl, hP, hD, hS, hl⟩
                  · have t_101 : ((((g7987 x5) >>> (vI &&& 31)) &&& 1)).toInt = 1 := toI_nne c_101 rfl (by decide)
                    refine lv_aload_n hx hb dX12_reason_104 rfl (lv_at hl 0 rfl) ?_
                    refine lv_dup hx hb dX12_reason_105 rfl ?_
                    refine va_get (D := (dC, dI)) (ci := 12) (v := .int (x2_i138 ||| (1 <<< ((nI kk) &&& 31)))) (C := RX12) (T := TX12) (N := 163) (fs := fM (vS a (fT (fT vi 0 0) 138 (x2_i138 ||| (1 <<< ((nI kk) &&& 31)))) vj)) hx hb hts iwsRX12_reason_in12 hown hK hP 0 rfl rfl 138 (by decide) (hts (.fieldLink RX12 1022 "OptimaWorksModel" "barred" "I") (by decide +kernel)) (fun _ h9 => h9) rfl dX12_reason_106 ?_
                    refine lv_iconst (v := 1) hx hb dX12_reason_109 (by decide) ?_
                    refine lv_iload_n hx hb dX12_reason_110 rfl (lv_at hl 3 rfl) ?_
                    refine lv_ishl hx hb dX12_reason_111 ?_
                    refine lv_iconst (v := (-1)) hx hb dX12_reason_112 (by decide) ?_
                    refine lv_ixor hx hb dX12_reason_113 ?_
                    refine lv_iand hx hb dX12_reason_114 ?_
                    refine va_put (D := (dC, dI)) (ci := 12) (v := .int ((x2_i138 ||| (1 <<< ((nI kk) &&& 31))) &&& ((1 <<< ((nI kk) &&& 31)) ^^^ (-1)))) (ty := .int) (C := RX12) (T := TX12) (N := 163) (fs := fM (vS a (fT (fT vi 0 0) 138 (x2_i138 ||| (1 <<< ((nI kk) &&& 31)))) vj)) hx hb hts iwsRX12_reason_in12 tyX12 tyX12_ok nmX12 hown hK hP hD hS 0 rfl rfl 138 (by decide) (hts (.fieldLink RX12 1022 "OptimaWorksModel" "barred" "I") (by decide +kernel)) (fun _ h9 => h9) rfl (by decide +kernel) rfl rfl (Nat.le_of_ble_eq_true rfl) dX12_reason_115 (fun H locs hP hD hS => ?_)
                    have e9 : fT (fT vi 0 0) 138 ((x2_i138 ||| (1 <<< ((nI kk) &&& 31))) &&& ((1 <<< ((nI kk) &&& 31)) ^^^ (-1))) = fT (fT (fT vi 0 0) 138 (x2_i138 ||| (1 <<< ((nI kk) &&& 31)))) 138 ((x2_i138 ||| (1 <<< ((nI kk) &&& 31))) &&& ((1 <<< ((nI kk) &&& 31)) ^^^ (-1))) := (fT_sm _ _ _ _).symm
                    have hP : va_P (dC, dI) vwCl (WR a k h0 (fT (fT vi 0 0) 138 ((x2_i138 ||| (1 <<< ((nI kk) &&& 31))) &&& ((1 <<< ((nI kk) &&& 31)) ^^^ (-1)))) vj (fT (fT (fT (fT (fT vF 79 g7987) 86 g8687) 87 g8787) 88 g8887) 89 g8987) vG) H := by rw [e9, ← WR_i 138 _ rfl]; exact hP
                    have hD : va_D A (WR a k h0 (fT (fT vi 0 0) 138 ((x2_i138 ||| (1 <<< ((nI kk) &&& 31))) &&& ((1 <<< ((nI kk) &&& 31)) ^^^ (-1)))) vj (fT (fT (fT (fT (fT vF 79 g7987) 86 g8687) 87 g8787) 88 g8887) 89 g8987) vG) := by rw [e9, ← WR_i 138 _ rfl]; exact hD
                    clear e9
                    have hl : lv_has _ _ ([(0, .ref h0), (1, .int (nI x5)), (2, .int vI), (3, .int (nI kk))]) := lv_sub hl [0, 1, 2, 3] rfl
                    exact join1 _ _ _ _ ⟨((x2_i138 ||| (1 <<< ((nI kk) &&& 31))) &&& ((1 <<< ((nI kk) &&& 31)) ^^^ (-1))), rfl, hP, hD, hS, hl⟩
                · rintro H locs ls stk ⟨j3_i138, rfl, hP, hD, hS, hl⟩
                  refine lv_iinc (v := ((nI kk) + (-1))) hx hb dX12_reason_118 hl (k := 3) rfl rfl (by decide) rfl (fun ls (hl : lv_has ls _ ([(3, .int ((nI kk) + (-1))), (0, .ref h0), (1, .int (nI x5)), (2, .int vI)])) => ?_)
                  refine lv_goto (tgt := 70) hx hb dX12_reason_121 (by decide) ?_
                  have hl : lv_has _ _ ([(0, .ref h0), (1, .int (nI x5)), (2, .int vI), (3, .int ((nI kk) + (-1)))]) := lv_sub hl [1, 2, 3, 0] rfl
                  exact ih70 ((nI kk) + (-1)) (kk1 - 1) j3_i138 g7987 g8687 g8787 g8887 g8987 _ _ _ (by rw [m1T (by omega)]; omega) (by omega) (by omega) hP hD hS hl
          · have t_58 : ((((g7944 x5) >>> (vI &&& 31)) &&& 1)).toInt = 1 := toI_nne c_58 rfl (by decide)
            refine lv_iconst (v := (-1)) hx hb dX12_reason_61 (by decide) ?_
            refine W.widen (k := 0) (n := 0) (by decide +kernel) (by decide +kernel) ?_
            exact W.iret (v := (-1)) hx hb hr (fun t9_ ht hW => ⟨⟨(-1), (g7944, g8644, g8744, g8844, g8944, 0), rfl, trivial, by rw [ht]; exact hP, hD⟩, hS.F ht⟩) hS.2.2 dX12_reason_62
        · have t_33 : (((((vF 78) x5) >>> (vI &&& 31)) &&& 1)).toInt = 0 := toI_nne c_33 rfl (by decide)
          refine lv_iconst (v := (-1)) hx hb dX12_reason_36 (by decide) ?_
          refine W.widen (k := 0) (n := 0) (by decide +kernel) (by decide +kernel) ?_
          have e9 : fT (fT vi 0 0) 138 (vi 138) = fT vi 0 0 := fT_id _ _ (fT_ne _ _ (Nat.ne_of_beq_eq_false rfl))
          have hP : va_P (dC, dI) vwCl (WR a k h0 (fT (fT vi 0 0) 138 (vi 138)) vj vF vG) H := by rw [e9]; exact hP
          have hD : va_D A (WR a k h0 (fT (fT vi 0 0) 138 (vi 138)) vj vF vG) := by rw [e9]; exact hD
          clear e9
          have e9 : fT (fT (fT (fT (fT vF 79 (vF 79)) 86 (vF 86)) 87 (vF 87)) 88 (vF 88)) 89 (vF 89) = vF := (fT_id _ _ ((fT_ne _ _ (Nat.ne_of_beq_eq_false rfl)).trans ((fT_ne _ _ (Nat.ne_of_beq_eq_false rfl)).trans ((fT_ne _ _ (Nat.ne_of_beq_eq_false rfl)).trans (fT_ne _ _ (Nat.ne_of_beq_eq_false rfl)))))).trans ((fT_id _ _ ((fT_ne _ _ (Nat.ne_of_beq_eq_false rfl)).trans ((fT_ne _ _ (Nat.ne_of_beq_eq_false rfl)).trans (fT_ne _ _ (Nat.ne_of_beq_eq_false rfl))))).trans ((fT_id _ _ ((fT_ne _ _ (Nat.ne_of_beq_eq_false rfl)).trans (fT_ne _ _ (Nat.ne_of_beq_eq_false rfl)))).trans ((fT_id _ _ (fT_ne _ _ (Nat.ne_of_beq_eq_false rfl))).trans (fT_id _ _ (rfl)))))
          have hP : va_P (dC, dI) vwCl (WR a k h0 (fT (fT vi 0 0) 138 (vi 138)) vj (fT (fT (fT (fT (fT vF 79 (vF 79)) 86 (vF 86)) 87 (vF 87)) 88 (vF 88)) 89 (vF 89)) vG) H := by rw [e9]; exact hP
          have hD : va_D A (WR a k h0 (fT (fT vi 0 0) 138 (vi 138)) vj (fT (fT (fT (fT (fT vF 79 (vF 79)) 86 (vF 86)) 87 (vF 87)) 88 (vF 88)) 89 (vF 89)) vG) := by rw [e9]; exact hD
          clear e9
          exact W.iret (v := (-1)) hx hb hr (fun t9_ ht hW => ⟨⟨(-1), ((vF 79), (vF 86), (vF 87), (vF 88), (vF 89), (vi 138)), rfl, trivial, by rw [ht]; exact hP, hD⟩, hS.F ht⟩) hS.2.2 dX12_reason_37
  · refine lv_if_eq (tgt := 36) hx hb dX12_reason_10 (by decide) (fun _ => ?_) (fun c9 => absurd (by decide) c9)
    refine lv_iconst (v := (-1)) hx hb dX12_reason_36 (by decide) ?_
    refine W.widen (k := 0) (n := 0) (by decide +kernel) (by decide +kernel) ?_
    have e9 : fT (fT vi 0 0) 138 (vi 138) = fT vi 0 0 := fT_id _ _ (fT_ne _ _ (Nat.ne_of_beq_eq_false rfl))
    have hP : va_P (dC, dI) vwCl (WR a k h0 (fT (fT vi 0 0) 138 (vi 138)) vj vF vG) H := by rw [e9]; exact hP
    have hD : va_D A (WR a k h0 (fT (fT vi 0 0) 138 (vi 138)) vj vF vG) := by rw [e9]; exact hD
    clear e9
    have e9 : fT (fT (fT (fT (fT vF 79 (vF 79)) 86 (vF 86)) 87 (vF 87)) 88 (vF 88)) 89 (vF 89) = vF := (fT_id _ _ ((fT_ne _ _ (Nat.ne_of_beq_eq_false rfl)).trans ((fT_ne _ _ (Nat.ne_of_beq_eq_false rfl)).trans ((fT_ne _ _ (Nat.ne_of_beq_eq_false rfl)).trans (fT_ne _ _ (Nat.ne_of_beq_eq_false rfl)))))).trans ((fT_id _ _ ((fT_ne _ _ (Nat.ne_of_beq_eq_false rfl)).trans ((fT_ne _ _ (Nat.ne_of_beq_eq_false rfl)).trans (fT_ne _ _ (Nat.ne_of_beq_eq_false rfl))))).trans ((fT_id _ _ ((fT_ne _ _ (Nat.ne_of_beq_eq_false rfl)).trans (fT_ne _ _ (Nat.ne_of_beq_eq_false rfl)))).trans ((fT_id _ _ (fT_ne _ _ (Nat.ne_of_beq_eq_false rfl))).trans (fT_id _ _ (rfl)))))
    have hP : va_P (dC, dI) vwCl (WR a k h0 (fT (fT vi 0 0) 138 (vi 138)) vj (fT (fT (fT (fT (fT vF 79 (vF 79)) 86 (vF 86)) 87 (vF 87)) 88 (vF 88)) 89 (vF 89)) vG) H := by rw [e9]; exact hP
    have hD : va_D A (WR a k h0 (fT (fT vi 0 0) 138 (vi 138)) vj (fT (fT (fT (fT (fT vF 79 (vF 79)) 86 (vF 86)) 87 (vF 87)) 88 (vF 88)) 89 (vF 89)) vG) := by rw [e9]; exact hD
    clear e9
    exact W.iret (v := (-1)) hx hb hr (fun t9_ ht hW => ⟨⟨(-1), ((vF 79), (vF 86), (vF 87), (vF 88), (vF 89), (vi 138)), rfl, trivial, by rw [ht]; exact hP, hD⟩, hS.F ht⟩) hS.2.2 dX12_reason_37
theorem dX12_keepsRule_0 : decode cX12_keepsRule 0 = .ok (.iconst 0, 1) := dk_3 (by decide +kernel)
theorem dX12_keepsRule_1 : decode cX12_keepsRule 1 = .ok (.istore_n 2, 1) := dk_61 (by decide +kernel)
theorem dX12_keepsRule_2 : decode cX12_keepsRule 2 = .ok (.iload_n 2, 1) := dk_28 (by decide +kernel)
theorem dX12_keepsRule_3 : decode cX12_keepsRule 3 = .ok (.aload_n 0, 1) := dk_42 (by decide +kernel)
theorem dX12_keepsRule_4 : decode cX12_keepsRule 4 = .ok (.getfield 978, 3) := dk_180 (by decide +kernel)
theorem dX12_keepsRule_7 : decode cX12_keepsRule 7 = .ok (.if_icmp .ge 23, 3) := dk_162 (by decide +kernel)
theorem dX12_keepsRule_10 : decode cX12_keepsRule 10 = .ok (.aload_n 0, 1) := dk_42 (by decide +kernel)
theorem dX12_keepsRule_11 : decode cX12_keepsRule 11 = .ok (.getfield 281, 3) := dk_180 (by decide +kernel)
theorem dX12_keepsRule_14 : decode cX12_keepsRule 14 = .ok (.iload_n 2, 1) := dk_28 (by decide +kernel)
theorem dX12_keepsRule_15 : decode cX12_keepsRule 15 = .ok (.iconst 1, 1) := dk_4 (by decide +kernel)
theorem dX12_keepsRule_16 : decode cX12_keepsRule 16 = .ok (.aload_n 0, 1) := dk_42 (by decide +kernel)
theorem dX12_keepsRule_17 : decode cX12_keepsRule 17 = .ok (.getfield 293, 3) := dk_180 (by decide +kernel)
theorem dX12_keepsRule_20 : decode cX12_keepsRule 20 = .ok (.iload_n 2, 1) := dk_28 (by decide +kernel)
theorem dX12_keepsRule_21 : decode cX12_keepsRule 21 = .ok (.iaload, 1) := dk_46 (by decide +kernel)
theorem dX12_keepsRule_22 : decode cX12_keepsRule 22 = .ok (.ishl, 1) := dk_120 (by decide +kernel)
theorem dX12_keepsRule_23 : decode cX12_keepsRule 23 = .ok (.iastore, 1) := dk_79 (by decide +kernel)
theorem dX12_keepsRule_24 : decode cX12_keepsRule 24 = .ok (.iinc 2 1, 3) := dk_132 (by decide +kernel)
theorem dX12_keepsRule_27 : decode cX12_keepsRule 27 = .ok (.goto (-25), 3) := dk_167 (by decide +kernel)
theorem dX12_keepsRule_30 : decode cX12_keepsRule 30 = .ok (.aload_n 0, 1) := dk_42 (by decide +kernel)
theorem dX12_keepsRule_31 : decode cX12_keepsRule 31 = .ok (.iload_n 1, 1) := dk_27 (by decide +kernel)
theorem dX12_keepsRule_32 : decode cX12_keepsRule 32 = .ok (.invokevirtual 1019, 3) := dk_182 (by decide +kernel)
theorem dX12_keepsRule_35 : decode cX12_keepsRule 35 = .ok (.ireturn, 1) := dk_172 (by decide +kernel)
def wsRX12_keepsRule : List Cond := .code yX12_keepsRule cX12_keepsRule 3 (some .boolean) :: ([.fieldLink RX12 978 "OptimaWorksModel" "holders" "I", .fieldLink RX12 281 "OptimaWorksModel" "with" "[I", .fieldLink RX12 293 "OptimaWorksModel" "rowValue" "[I"] ++ wsX120 ++ (wsV RX12 1019 RX12 yX12_canHold wsRX12_canHold))
theorem iwsRX12_keepsRule_in12 : ∀ w ∈ wsX120, w ∈ wsRX12_keepsRule := fun _ h => List.mem_cons_of_mem _ (List.mem_append_left _ (List.mem_append_right _ h))
theorem gwsRX12_keepsRule_0 : GoodIn wsRX12_keepsRule (wsV RX12 1019 RX12 yX12_canHold wsRX12_canHold) := goodIn_sub (fun _ h => List.mem_cons_of_mem _ (List.mem_append_right _ h)) (gdV (by decide +kernel) gdwsRX12_canHold)
theorem gdwsRX12_keepsRule : wsRX12_keepsRule.all goodWord = true := gdC rfl (gdA (gdA (by decide +kernel : ([.fieldLink RX12 978 "OptimaWorksModel" "holders" "I", .fieldLink RX12 281 "OptimaWorksModel" "with" "[I", .fieldLink RX12 293 "OptimaWorksModel" "rowValue" "[I"] : List Cond).all goodWord = true) gdwsX120) (gdV (by decide +kernel) gdwsRX12_canHold))
set_option maxHeartbeats 4000000 in
set_option maxRecDepth 100000 in
/-- keepsRule(r) -/
theorem r_X12_keepsRule (l : Launch) (dC : Nat → ClassId) (dI : Nat → Nat → Nat) (a : Nat → Nat) (k : Nat → ClassId) (h0 : Nat) (vi : Nat → Int32) (vj : Nat → Int64) (vF : Nat → Nat → Int32) (vG : Nat → Nat → Int64) (rN : Nat) (hn : Nat) (hrN : rN < 12) (hhn : vi 128 = nI hn) (hhn10 : hn ≤ 10) (hRV : RulV (vF 80 rN) (vF 81 rN) (vF 82 rN) (vF 83 rN) hn) (sz : Nat) : Met l yX12_keepsRule wsRX12_keepsRule ({ frames := 4, cells := 0, slots := 0, locals := 96 }) (va_Pc [.ref h0, .int (nI rN)] (fun U => U.heap.size = sz ∧ va_P (dC, dI) vwCl (WR a k h0 vi vj vF vG) U.heap ∧ va_K (dC, dI) vwCl (tX12 k) U ∧ va_D (fun _ => True) (WR a k h0 vi vj vF vG))) (va_Qi (fun (r : Int32) (u : (Nat → Int32) × (Nat → Int32) × (Nat → Int32) × (Nat → Int32)) => (r = 1) ∨ (r = 0)) (fun (u : (Nat → Int32) × (Nat → Int32) × (Nat → Int32) × (Nat → Int32)) t => va_P (dC, dI) vwCl (WR a k h0 vi vj (fT (fT (fT (fT vF 86 (u.1)) 87 (u.2.1)) 88 (u.2.2.1)) 89 (u.2.2.2)) vG) t.heap ∧ va_D (va_A (WR a k h0 vi vj vF vG) sz) (WR a k h0 vi vj (fT (fT (fT (fT vF 86 (u.1)) 87 (u.2.1)) 88 (u.2.2.1)) 89 (u.2.2.2)) vG)) (va_A (WR a k h0 vi vj vF vG) sz)) 0 0 (va_A (WR a k h0 vi vj vF vG) sz) := by
  refine Met.ofW (cc := cX12_keepsRule) (maxL := 3) (ret := (some .boolean)) (by decide) rfl ?_
  intro p e s m args below meth c s₁ B hml hv
  obtain ⟨rfl, hsz, hP, hK, hD0⟩ := hv
  have hx := B.exec
  have hb := B.bytes
  have hr := B.returns
  have hts := atoms_spec (ws := wsRX12_keepsRule) B.pre
  have hown : s.vm.findClass RX12 = some m.cls := findClass_of_methodNamed B.named
  have hlocks := B.notSynchronized
  subst hsz
  have hD := hD0.self (sz := s.heap.size)
  generalize hAe : va_A (WR a k h0 vi vj vF vG) s.heap.size = A at hD ⊢
  have hA : ∀ q : Nat, s.heap.size ≤ q → A q := fun q h => by rw [← hAe]; exact Or.inr h
  have hS : va_S A s.heap s.heap [] := va_S.rf
  have hl := lv_entry ([.ref h0, .int (nI rN)]) (n := 3) (Nat.le_of_ble_eq_true rfl)
  rw [lg_entry_eq]
  generalize (lg_sl ([.ref h0, .int (nI rN)]) ++ List.replicate (3 - (lg_sl ([.ref h0, .int (nI rN)])).length) Slot.unset).toArray = ls at hl ⊢
  have hl : lv_has ls 3 [(0, .ref h0), (1, .int (nI rN))] := hl
  refine lv_iconst (v := 0) hx hb dX12_keepsRule_0 (by decide) ?_
  refine lv_istore_n hx hb dX12_keepsRule_1 rfl hl (by decide) rfl (fun ls (hl : lv_has ls _ ([(2, .int 0), (0, .ref h0), (1, .int (nI rN))])) => ?_)
  have e9 : fT vF 86 (vF 86) = vF := by funext q9; by_cases h9_86 : q9 = 86; (subst h9_86; exact (fT_eq _ _ _).trans (Eq.trans (by first | with_reducible rfl | with_reducible assumption | (symm; with_reducible assumption) | rfl | assumption | (symm; assumption) | (subst_vars; rfl)) (Eq.refl _).symm)); exact (fT_ne _ _ h9_86).trans (Eq.refl _).symm
  have hP : va_P (dC, dI) vwCl (WR a k h0 vi vj (fT vF 86 (vF 86)) vG) s.heap := by rw [e9]; exact hP
  have hD : va_D A (WR a k h0 vi vj (fT vF 86 (vF 86)) vG) := by rw [e9]; exact hD
  clear e9
  have hl : lv_has _ _ ([(0, .ref h0), (1, .int (nI rN)), (2, .int (nI 0))]) := lv_sub hl [1, 2, 0] rfl
  refine (fun (loop : ∀ (n9 : Nat) (i5 : Nat) (x1_F86 : Nat → Int32) (H : Heap) (locs : List Loc) (ls : Array Slot), (i5 ≤ hn) →  (hn < i5 + n9) → va_P (dC, dI) vwCl (WR a k h0 vi vj (fT vF 86 x1_F86) vG) H → va_D A (WR a k h0 vi vj (fT vF 86 x1_F86) vG) → va_S A s.heap H locs → lv_has ls 3 [(0, .ref h0), (1, .int (nI rN)), (2, .int (nI i5))] → W p l e _ s m _ below meth c H locs 0 0 _ (F0 m 2 ls [])) => loop (hn + 1) 0 (vF 86) _ _ _ (by omega) (by omega) hP hD hS hl) ?_
  intro n9
  induction n9 with
  | zero => intro i5 x1_F86 H locs ls hi5 hf9; exact False.elim (by omega)
  | succ n9 ih2 =>
    intro i5 x1_F86 H locs ls hi5 hf2 hP hD hS hl
    refine lv_iload_n hx hb dX12_keepsRule_2 rfl (lv_at hl 2 rfl) ?_
    refine lv_aload_n hx hb dX12_keepsRule_3 rfl (lv_at hl 0 rfl) ?_
    refine va_get (D := (dC, dI)) (ci := 12) (v := .int (vi 128)) (C := RX12) (T := TX12) (N := 163) (fs := fM (vS a vi vj)) hx hb hts iwsRX12_keepsRule_in12 hown hK hP 0 rfl rfl 128 (by decide) (hts (.fieldLink RX12 978 "OptimaWorksModel" "holders" "I") (by decide +kernel)) (fun _ h9 => h9) rfl dX12_keepsRule_4 ?_
    refine lv_topi (fun y1 hy1 => ?_)
    obtain rfl : (nI hn) = y1 := (hy1.trans (hhn)).symm
    refine lv_icmp_ge (tgt := 30) hx hb dX12_keepsRule_7 (by decide) (fun c_7 => ?_) (fun c_7 => ?_)
    · have t_7 : ((i5 : Nat) : Int) ≥ ((hn : Nat) : Int) := toI_ge c_7 (nI_toInt (by omega)) (nI_toInt (by omega))
      refine lv_aload_n hx hb dX12_keepsRule_30 rfl (lv_at hl 0 rfl) ?_
      refine lv_iload_n hx hb dX12_keepsRule_31 rfl (lv_at hl 1 rfl) ?_
      have hFc := allFree hD hS hA
      refine va_calli (va_runV (As := [.int (nI rN)]) (rest := []) ⟨hx, hb, hml, hown, hts⟩ (r_X12_canHold l dC dI a k h0 vi vj (fT vF 86 x1_F86) vG rN hn (by first | with_reducible assumption | decide | omega | rfl | assumption) hhn (by first | with_reducible assumption | decide | omega | rfl | assumption) (hRV) H.size) (cwV 1 hts gwsRX12_keepsRule_0 rfl rfl rfl hd_yX12_canHold_RX12 (by decide +kernel)) (fz_pre (va_recv hK hP (ci := 12) (q0 := 0) rfl rfl) hP hK hD) rfl rfl hl.1 rfl (lv_room (Nat.le_of_ble_eq_true rfl)) dX12_keepsRule_32 (by decide +kernel)) hS (fun q _ h => hFc q h) hFc (fun r32 u t9_ H locs ht hvm hw9 hB9 hz1 hk1 hS => ?_)
      revert u hw9 hB9
      refine fz_p3 ?_
      intro g8732 g8832 g8932 hw9 hB9
      try dsimp only at hw9 hB9
      have hP : va_P (dC, dI) vwCl (WR a k h0 vi vj (fT (fT (fT (fT vF 86 x1_F86) 87 g8732) 88 g8832) 89 g8932) vG) H := fz_P ht hB9.1
      have hD : va_D A (WR a k h0 vi vj (fT (fT (fT (fT vF 86 x1_F86) 87 g8732) 88 g8832) 89 g8932) vG) := hB9.2.weaken (fun _ q _ h => hFc q.1 h)
      rcases hw9 with rfl | rfl
      · refine W.widen (k := 0) (n := 0) (by decide +kernel) (by decide +kernel) ?_
        exact W.zret (v := 1) hx hb hr rfl (fun t9_ ht hW => ⟨⟨1, (x1_F86, g8732, g8832, g8932), rfl, by (try dsimp only); exact Or.inl rfl, by rw [ht]; exact hP, hD⟩, hS.F ht⟩) hS.2.2 dX12_keepsRule_35
      · refine W.widen (k := 0) (n := 0) (by decide +kernel) (by decide +kernel) ?_
        exact W.zret (v := 0) hx hb hr rfl (fun t9_ ht hW => ⟨⟨0, (x1_F86, g8732, g8832, g8932), rfl, by (try dsimp only); exact Or.inr rfl, by rw [ht]; exact hP, hD⟩, hS.F ht⟩) hS.2.2 dX12_keepsRule_35
    · have t_7 : ¬ ((i5 : Nat) : Int) ≥ ((hn : Nat) : Int) := toI_nge c_7 (nI_toInt (by omega)) (nI_toInt (by omega))
      refine lv_aload_n hx hb dX12_keepsRule_10 rfl (lv_at hl 0 rfl) ?_
      refine va_get (D := (dC, dI)) (ci := 12) (v := .ref (a 86)) (C := RX12) (T := TX12) (N := 163) (fs := fM (vS a vi vj)) hx hb hts iwsRX12_keepsRule_in12 hown hK hP 0 rfl rfl 139 (by decide) (hts (.fieldLink RX12 281 "OptimaWorksModel" "with" "[I") (by decide +kernel)) (fun _ h9 => h9) rfl dX12_keepsRule_11 ?_
      refine lv_iload_n hx hb dX12_keepsRule_14 rfl (lv_at hl 2 rfl) ?_
      refine lv_iconst (v := 1) hx hb dX12_keepsRule_15 (by decide) ?_
      refine lv_aload_n hx hb dX12_keepsRule_16 rfl (lv_at hl 0 rfl) ?_
      refine va_get (D := (dC, dI)) (ci := 12) (v := .ref (a 90)) (C := RX12) (T := TX12) (N := 163) (fs := fM (vS a vi vj)) hx hb hts iwsRX12_keepsRule_in12 hown hK hP 0 rfl rfl 143 (by decide) (hts (.fieldLink RX12 293 "OptimaWorksModel" "rowValue" "[I") (by decide +kernel)) (fun _ h9 => h9) rfl dX12_keepsRule_17 ?_
      refine lv_iload_n hx hb dX12_keepsRule_20 rfl (lv_at hl 2 rfl) ?_
      refine va_iald (cA := k 90) (n := 10) (f := (vF 90)) hx hb hK hP 91 90 (WR_get 90 (by decide)) (TR_get 90 (by decide)) (vp_in_nI (show i5 < 10 by omega) (by omega)) dX12_keepsRule_21 ?_
      refine lv_topi (fun y2 hy2 => ?_)
      obtain rfl : ((vF 90) i5) = y2 := (hy2.trans (by rw [nI_clamp (by omega)])).symm
      refine lv_ishl hx hb dX12_keepsRule_22 ?_
      refine va_iast (cA := k 86) (n := 10) (f := x1_F86) hx hb hK hP hD hS 87 86 (WR_get 86 (by decide)) (TR_get 86 (by decide)) (vp_in_nI (show i5 < 10 by omega) (by omega)) dX12_keepsRule_23 (fun H locs hP hD hS => ?_)
      have e9 : fT vF 86 (upd x1_F86 ((nI i5)).toNatClampNeg (1 <<< (((vF 90) i5) &&& 31))) = fT (fT vF 86 x1_F86) 86 (upd x1_F86 ((nI i5)).toNatClampNeg (1 <<< (((vF 90) i5) &&& 31))) := (fT_sm _ _ _ _).symm
      have hP : va_P (dC, dI) vwCl (WR a k h0 vi vj (fT vF 86 (upd x1_F86 ((nI i5)).toNatClampNeg (1 <<< (((vF 90) i5) &&& 31)))) vG) H := by rw [e9, ← WR_F 86 (by decide) _ rfl]; exact hP
      have hD : va_D A (WR a k h0 vi vj (fT vF 86 (upd x1_F86 ((nI i5)).toNatClampNeg (1 <<< (((vF 90) i5) &&& 31)))) vG) := by rw [e9, ← WR_F 86 (by decide) _ rfl]; exact hD
      clear e9
      refine lv_iinc (v := (nI (i5 + 1))) hx hb dX12_keepsRule_24 hl (k := 2) rfl (nI_add i5 1) (by decide) rfl (fun ls (hl : lv_has ls _ ([(2, .int (nI (i5 + 1))), (0, .ref h0), (1, .int (nI rN))])) => ?_)
      refine lv_goto (tgt := 2) hx hb dX12_keepsRule_27 (by decide) ?_
      have hl : lv_has _ _ ([(0, .ref h0), (1, .int (nI rN)), (2, .int (nI (i5 + 1)))]) := lv_sub hl [1, 2, 0] rfl
      exact ih2 (i5 + 1) (upd x1_F86 ((nI i5)).toNatClampNeg (1 <<< (((vF 90) i5) &&& 31))) _ _ _ (by omega) (by omega) hP hD hS hl
theorem dX12_above_0 : decode cX12_above 0 = .ok (.aload_n 0, 1) := dk_42 (by decide +kernel)
theorem dX12_above_1 : decode cX12_above 1 = .ok (.getfield 293, 3) := dk_180 (by decide +kernel)
theorem dX12_above_4 : decode cX12_above 4 = .ok (.iload_n 1, 1) := dk_27 (by decide +kernel)
theorem dX12_above_5 : decode cX12_above 5 = .ok (.iaload, 1) := dk_46 (by decide +kernel)
theorem dX12_above_6 : decode cX12_above 6 = .ok (.iconst 1, 1) := dk_4 (by decide +kernel)
theorem dX12_above_7 : decode cX12_above 7 = .ok (.iadd, 1) := dk_96 (by decide +kernel)
theorem dX12_above_8 : decode cX12_above 8 = .ok (.istore_n 2, 1) := dk_61 (by decide +kernel)
theorem dX12_above_9 : decode cX12_above 9 = .ok (.iload_n 2, 1) := dk_28 (by decide +kernel)
theorem dX12_above_10 : decode cX12_above 10 = .ok (.bipush 16, 2) := dk_16 (by decide +kernel)
theorem dX12_above_12 : decode cX12_above 12 = .ok (.if_icmp .ge 22, 3) := dk_162 (by decide +kernel)
theorem dX12_above_15 : decode cX12_above 15 = .ok (.aload_n 0, 1) := dk_42 (by decide +kernel)
theorem dX12_above_16 : decode cX12_above 16 = .ok (.getfield 257, 3) := dk_180 (by decide +kernel)
theorem dX12_above_19 : decode cX12_above 19 = .ok (.iload_n 1, 1) := dk_27 (by decide +kernel)
theorem dX12_above_20 : decode cX12_above 20 = .ok (.iaload, 1) := dk_46 (by decide +kernel)
theorem dX12_above_21 : decode cX12_above 21 = .ok (.iload_n 2, 1) := dk_28 (by decide +kernel)
theorem dX12_above_22 : decode cX12_above 22 = .ok (.ishr, 1) := dk_122 (by decide +kernel)
theorem dX12_above_23 : decode cX12_above 23 = .ok (.iconst 1, 1) := dk_4 (by decide +kernel)
theorem dX12_above_24 : decode cX12_above 24 = .ok (.iand, 1) := dk_126 (by decide +kernel)
theorem dX12_above_25 : decode cX12_above 25 = .ok (.ifCond .ne 9, 3) := dk_154 (by decide +kernel)
theorem dX12_above_28 : decode cX12_above 28 = .ok (.iinc 2 1, 3) := dk_132 (by decide +kernel)
theorem dX12_above_31 : decode cX12_above 31 = .ok (.goto (-22), 3) := dk_167 (by decide +kernel)
theorem dX12_above_34 : decode cX12_above 34 = .ok (.iload_n 2, 1) := dk_28 (by decide +kernel)
theorem dX12_above_35 : decode cX12_above 35 = .ok (.ireturn, 1) := dk_172 (by decide +kernel)
def wsRX12_above : List Cond := .code yX12_above cX12_above 3 (some .int) :: ([.fieldLink RX12 293 "OptimaWorksModel" "rowValue" "[I", .fieldLink RX12 257 "OptimaWorksModel" "domain" "[I"] ++ wsX120)
theorem iwsRX12_above_in12 : ∀ w ∈ wsX120, w ∈ wsRX12_above := fun _ h => List.mem_cons_of_mem _ (List.mem_append_right _ h)
theorem gdwsRX12_above : wsRX12_above.all goodWord = true := gdC rfl (gdA (by decide +kernel : ([.fieldLink RX12 293 "OptimaWorksModel" "rowValue" "[I", .fieldLink RX12 257 "OptimaWorksModel" "domain" "[I"] : List Cond).all goodWord = true) gdwsX120)
set_option maxHeartbeats 4000000 in
set_option maxRecDepth 100000 in
/-- above(h) -/
theorem r_X12_above (l : Launch) (dC : Nat → ClassId) (dI : Nat → Nat → Nat) (a : Nat → Nat) (k : Nat → ClassId) (h0 : Nat) (vi : Nat → Int32) (vj : Nat → Int64) (vF : Nat → Nat → Int32) (vG : Nat → Nat → Int64) (hN_ : Nat) (hhN : hN_ < 10) (hrv : -1 ≤ (vF 90 hN_).toInt ∧ (vF 90 hN_).toInt ≤ 16) (sz : Nat) : Met l yX12_above wsRX12_above ({ frames := 0, cells := 0, slots := 0, locals := 0 }) (va_Pc [.ref h0, .int (nI hN_)] (fun U => U.heap.size = sz ∧ va_P (dC, dI) vwCl (WR a k h0 vi vj vF vG) U.heap ∧ va_K (dC, dI) vwCl (tX12 k) U ∧ va_D (fun _ => True) (WR a k h0 vi vj vF vG))) (va_Qi (fun (r : Int32) (u : Unit) => ((vF 90 hN_).toInt < (r).toInt ∧ (r).toInt ≤ 17 ∧ ((vF 90 hN_).toInt < 16 → (r).toInt ≤ 16))) (fun (u : Unit) t => va_P (dC, dI) vwCl (WR a k h0 vi vj vF vG) t.heap ∧ va_D (va_A (WR a k h0 vi vj vF vG) sz) (WR a k h0 vi vj vF vG)) (va_A (WR a k h0 vi vj vF vG) sz)) 0 0 (va_A (WR a k h0 vi vj vF vG) sz) := by
  refine Met.ofW (cc := cX12_above) (maxL := 3) (ret := (some .int)) (by decide) rfl ?_
  intro p e s m args below meth c s₁ B hml hv
  obtain ⟨rfl, hsz, hP, hK, hD0⟩ := hv
  have hx := B.exec
  have hb := B.bytes
  have hr := B.returns
  have hts := atoms_spec (ws := wsRX12_above) B.pre
  have hown : s.vm.findClass RX12 = some m.cls := findClass_of_methodNamed B.named
  have hlocks := B.notSynchronized
  subst hsz
  have hD := hD0.self (sz := s.heap.size)
  generalize hAe : va_A (WR a k h0 vi vj vF vG) s.heap.size = A at hD ⊢
  have hA : ∀ q : Nat, s.heap.size ≤ q → A q := fun q h => by rw [← hAe]; exact Or.inr h
  have hS : va_S A s.heap s.heap [] := va_S.rf
  have hl := lv_entry ([.ref h0, .int (nI hN_)]) (n := 3) (Nat.le_of_ble_eq_true rfl)
  rw [lg_entry_eq]
  generalize (lg_sl ([.ref h0, .int (nI hN_)]) ++ List.replicate (3 - (lg_sl ([.ref h0, .int (nI hN_)])).length) Slot.unset).toArray = ls at hl ⊢
  have hl : lv_has ls 3 [(0, .ref h0), (1, .int (nI hN_))] := hl
  obtain ⟨v0, ev0, ev1, ev2⟩ := inc_nI hrv
  refine lv_aload_n hx hb dX12_above_0 rfl (lv_at hl 0 rfl) ?_
  refine va_get (D := (dC, dI)) (ci := 12) (v := .ref (a 90)) (C := RX12) (T := TX12) (N := 163) (fs := fM (vS a vi vj)) hx hb hts iwsRX12_above_in12 hown hK hP 0 rfl rfl 143 (by decide) (hts (.fieldLink RX12 293 "OptimaWorksModel" "rowValue" "[I") (by decide +kernel)) (fun _ h9 => h9) rfl dX12_above_1 ?_
  refine lv_iload_n hx hb dX12_above_4 rfl (lv_at hl 1 rfl) ?_
  refine va_iald (cA := k 90) (n := 10) (f := (vF 90)) hx hb hK hP 91 90 (WR_get 90 (by decide)) (TR_get 90 (by decide)) (vp_in_nI (show hN_ < 10 by omega) (by omega)) dX12_above_5 ?_
  refine lv_topi (fun y1 hy1 => ?_)
  obtain rfl : ((vF 90) hN_) = y1 := (hy1.trans (by rw [nI_clamp (by omega)])).symm
  refine lv_iconst (v := 1) hx hb dX12_above_6 (by decide) ?_
  refine lv_iadd hx hb dX12_above_7 ?_
  refine lv_topi (fun y2 hy2 => ?_)
  obtain rfl : (nI v0) = y2 := (hy2.trans (ev0)).symm
  refine lv_istore_n hx hb dX12_above_8 rfl hl (by decide) rfl (fun ls (hl : lv_has ls _ ([(2, .int (nI v0)), (0, .ref h0), (1, .int (nI hN_))])) => ?_)
  have hl : lv_has _ _ ([(0, .ref h0), (1, .int (nI hN_)), (2, .int (nI v0))]) := lv_sub hl [1, 2, 0] rfl
  refine (fun (loop : ∀ (n9 : Nat) (v5 : Nat) (H : Heap) (locs : List Loc) (ls : Array Slot), (v0 ≤ v5 ∧ v5 ≤ 17 ∧ (v5 = v0 ∨ v5 ≤ 16)) →  (17 < v5 + n9) → va_P (dC, dI) vwCl (WR a k h0 vi vj vF vG) H → va_D A (WR a k h0 vi vj vF vG) → va_S A s.heap H locs → lv_has ls 3 [(0, .ref h0), (1, .int (nI hN_)), (2, .int (nI v5))] → W p l e _ s m _ below meth c H locs 0 0 _ (F0 m 9 ls [])) => loop (18) v0 _ _ _ (by omega) (by omega) hP hD hS hl) ?_
  intro n9
  induction n9 with
  | zero => intro v5 H locs ls hv5 hf9; exact False.elim (by omega)
  | succ n9 ih9 =>
    intro v5 H locs ls hv5 hf9 hP hD hS hl
    refine lv_iload_n hx hb dX12_above_9 rfl (lv_at hl 2 rfl) ?_
    refine lv_bipush (v := 16) hx hb dX12_above_10 (by decide) ?_
    refine lv_icmp_ge (tgt := 34) hx hb dX12_above_12 (by decide) (fun c_12 => ?_) (fun c_12 => ?_)
    · have t_12 : ((v5 : Nat) : Int) ≥ 16 := toI_ge c_12 (nI_toInt (by omega)) (by decide)
      refine lv_iload_n hx hb dX12_above_34 rfl (lv_at hl 2 rfl) ?_
      refine W.widen (k := 0) (n := 0) (by decide +kernel) (by decide +kernel) ?_
      exact W.iret (v := (nI v5)) hx hb hr (fun t9_ ht hW => ⟨⟨(nI v5), (), rfl, by (try dsimp only); rw [nI_toInt (by omega)]; omega, by rw [ht]; exact hP, hD⟩, hS.F ht⟩) hS.2.2 dX12_above_35
    · have t_12 : ¬ ((v5 : Nat) : Int) ≥ 16 := toI_nge c_12 (nI_toInt (by omega)) (by decide)
      refine lv_aload_n hx hb dX12_above_15 rfl (lv_at hl 0 rfl) ?_
      refine va_get (D := (dC, dI)) (ci := 12) (v := .ref (a 78)) (C := RX12) (T := TX12) (N := 163) (fs := fM (vS a vi vj)) hx hb hts iwsRX12_above_in12 hown hK hP 0 rfl rfl 130 (by decide) (hts (.fieldLink RX12 257 "OptimaWorksModel" "domain" "[I") (by decide +kernel)) (fun _ h9 => h9) rfl dX12_above_16 ?_
      refine lv_iload_n hx hb dX12_above_19 rfl (lv_at hl 1 rfl) ?_
      refine va_iald (cA := k 78) (n := 10) (f := (vF 78)) hx hb hK hP 79 78 (WR_get 78 (by decide)) (TR_get 78 (by decide)) (vp_in_nI (show hN_ < 10 by omega) (by omega)) dX12_above_20 ?_
      refine lv_topi (fun y3 hy3 => ?_)
      obtain rfl : ((vF 78) hN_) = y3 := (hy3.trans (by rw [nI_clamp (by omega)])).symm
      refine lv_iload_n hx hb dX12_above_21 rfl (lv_at hl 2 rfl) ?_
      refine lv_ishr hx hb dX12_above_22 ?_
      refine lv_iconst (v := 1) hx hb dX12_above_23 (by decide) ?_
      refine lv_iand hx hb dX12_above_24 ?_
      refine lv_if_ne (tgt := 34) hx hb dX12_above_25 (by decide) (fun c_25 => ?_) (fun c_25 => ?_)
      · have t_25 : (((((vF 78) hN_) >>> ((nI v5) &&& 31)) &&& 1)).toInt ≠ 0 := toI_ne c_25 rfl (by decide)
        refine lv_iload_n hx hb dX12_above_34 rfl (lv_at hl 2 rfl) ?_
        refine W.widen (k := 0) (n := 0) (by decide +kernel) (by decide +kernel) ?_
        exact W.iret (v := (nI v5)) hx hb hr (fun t9_ ht hW => ⟨⟨(nI v5), (), rfl, by (try dsimp only); rw [nI_toInt (by omega)]; omega, by rw [ht]; exact hP, hD⟩, hS.F ht⟩) hS.2.2 dX12_above_35
      · have t_25 : (((((vF 78) hN_) >>> ((nI v5) &&& 31)) &&& 1)).toInt = 0 := toI_nne c_25 rfl (by decide)
        refine lv_iinc (v := (nI (v5 + 1))) hx hb dX12_above_28 hl (k := 2) rfl (nI_add v5 1) (by decide) rfl (fun ls (hl : lv_has ls _ ([(2, .int (nI (v5 + 1))), (0, .ref h0), (1, .int (nI hN_))])) => ?_)
        refine lv_goto (tgt := 9) hx hb dX12_above_31 (by decide) ?_
        have hl : lv_has _ _ ([(0, .ref h0), (1, .int (nI hN_)), (2, .int (nI (v5 + 1)))]) := lv_sub hl [1, 2, 0] rfl
        exact ih9 (v5 + 1) _ _ _ (by omega) (by omega) hP hD hS hl
end

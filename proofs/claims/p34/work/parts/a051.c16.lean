theorem dX12_leaving_0 : decode cX12_leaving 0 = .ok (.iconst (-1), 1) := dk_2 (by decide +kernel)
theorem dX12_leaving_1 : decode cX12_leaving 1 = .ok (.istore_n 2, 1) := dk_61 (by decide +kernel)
theorem dX12_leaving_2 : decode cX12_leaving 2 = .ok (.iconst 0, 1) := dk_3 (by decide +kernel)
theorem dX12_leaving_3 : decode cX12_leaving 3 = .ok (.istore_n 3, 1) := dk_62 (by decide +kernel)
theorem dX12_leaving_4 : decode cX12_leaving 4 = .ok (.iload_n 3, 1) := dk_29 (by decide +kernel)
theorem dX12_leaving_5 : decode cX12_leaving 5 = .ok (.aload_n 0, 1) := dk_42 (by decide +kernel)
theorem dX12_leaving_6 : decode cX12_leaving 6 = .ok (.getfield 399, 3) := dk_180 (by decide +kernel)
theorem dX12_leaving_9 : decode cX12_leaving 9 = .ok (.if_icmp .ge 67, 3) := dk_162 (by decide +kernel)
theorem dX12_leaving_12 : decode cX12_leaving 12 = .ok (.aload_n 0, 1) := dk_42 (by decide +kernel)
theorem dX12_leaving_13 : decode cX12_leaving 13 = .ok (.iload_n 3, 1) := dk_29 (by decide +kernel)
theorem dX12_leaving_14 : decode cX12_leaving 14 = .ok (.iload_n 1, 1) := dk_27 (by decide +kernel)
theorem dX12_leaving_15 : decode cX12_leaving 15 = .ok (.invokevirtual 446, 3) := dk_182 (by decide +kernel)
theorem dX12_leaving_18 : decode cX12_leaving 18 = .ok (.ifCond .gt 6, 3) := dk_157 (by decide +kernel)
theorem dX12_leaving_21 : decode cX12_leaving 21 = .ok (.goto 49, 3) := dk_167 (by decide +kernel)
theorem dX12_leaving_24 : decode cX12_leaving 24 = .ok (.iload_n 2, 1) := dk_28 (by decide +kernel)
theorem dX12_leaving_25 : decode cX12_leaving 25 = .ok (.iconst (-1), 1) := dk_2 (by decide +kernel)
theorem dX12_leaving_26 : decode cX12_leaving 26 = .ok (.if_icmp .ne 8, 3) := dk_160 (by decide +kernel)
theorem dX12_leaving_29 : decode cX12_leaving 29 = .ok (.iload_n 3, 1) := dk_29 (by decide +kernel)
theorem dX12_leaving_30 : decode cX12_leaving 30 = .ok (.istore_n 2, 1) := dk_61 (by decide +kernel)
theorem dX12_leaving_31 : decode cX12_leaving 31 = .ok (.goto 39, 3) := dk_167 (by decide +kernel)
theorem dX12_leaving_34 : decode cX12_leaving 34 = .ok (.aload_n 0, 1) := dk_42 (by decide +kernel)
theorem dX12_leaving_35 : decode cX12_leaving 35 = .ok (.iload_n 3, 1) := dk_29 (by decide +kernel)
theorem dX12_leaving_36 : decode cX12_leaving 36 = .ok (.iload_n 2, 1) := dk_28 (by decide +kernel)
theorem dX12_leaving_37 : decode cX12_leaving 37 = .ok (.iload_n 1, 1) := dk_27 (by decide +kernel)
theorem dX12_leaving_38 : decode cX12_leaving 38 = .ok (.invokevirtual 449, 3) := dk_182 (by decide +kernel)
theorem dX12_leaving_41 : decode cX12_leaving 41 = .ok (.istore 4, 2) := dk_54 (by decide +kernel)
theorem dX12_leaving_43 : decode cX12_leaving 43 = .ok (.iload 4, 2) := dk_21 (by decide +kernel)
theorem dX12_leaving_45 : decode cX12_leaving 45 = .ok (.ifCond .lt 23, 3) := dk_155 (by decide +kernel)
theorem dX12_leaving_48 : decode cX12_leaving 48 = .ok (.iload 4, 2) := dk_21 (by decide +kernel)
theorem dX12_leaving_50 : decode cX12_leaving 50 = .ok (.ifCond .ne 20, 3) := dk_154 (by decide +kernel)
theorem dX12_leaving_53 : decode cX12_leaving 53 = .ok (.aload_n 0, 1) := dk_42 (by decide +kernel)
theorem dX12_leaving_54 : decode cX12_leaving 54 = .ok (.getfield 26, 3) := dk_180 (by decide +kernel)
theorem dX12_leaving_57 : decode cX12_leaving 57 = .ok (.iload_n 3, 1) := dk_29 (by decide +kernel)
theorem dX12_leaving_58 : decode cX12_leaving 58 = .ok (.iaload, 1) := dk_46 (by decide +kernel)
theorem dX12_leaving_59 : decode cX12_leaving 59 = .ok (.aload_n 0, 1) := dk_42 (by decide +kernel)
theorem dX12_leaving_60 : decode cX12_leaving 60 = .ok (.getfield 26, 3) := dk_180 (by decide +kernel)
theorem dX12_leaving_63 : decode cX12_leaving 63 = .ok (.iload_n 2, 1) := dk_28 (by decide +kernel)
theorem dX12_leaving_64 : decode cX12_leaving 64 = .ok (.iaload, 1) := dk_46 (by decide +kernel)
theorem dX12_leaving_65 : decode cX12_leaving 65 = .ok (.if_icmp .ge 5, 3) := dk_162 (by decide +kernel)
theorem dX12_leaving_68 : decode cX12_leaving 68 = .ok (.iload_n 3, 1) := dk_29 (by decide +kernel)
theorem dX12_leaving_69 : decode cX12_leaving 69 = .ok (.istore_n 2, 1) := dk_61 (by decide +kernel)
theorem dX12_leaving_70 : decode cX12_leaving 70 = .ok (.iinc 3 1, 3) := dk_132 (by decide +kernel)
theorem dX12_leaving_73 : decode cX12_leaving 73 = .ok (.goto (-69), 3) := dk_167 (by decide +kernel)
theorem dX12_leaving_76 : decode cX12_leaving 76 = .ok (.iload_n 2, 1) := dk_28 (by decide +kernel)
theorem dX12_leaving_77 : decode cX12_leaving 77 = .ok (.ireturn, 1) := dk_172 (by decide +kernel)
def wsRX12_leaving : List Cond := .code yX12_leaving cX12_leaving 5 (some .int) :: ([.fieldLink RX12 399 "OptimaWorksModel" "rows" "I", .fieldLink RX12 26 "OptimaWorksModel" "rowOf" "[I"] ++ wsX120 ++ (wsV RX12 446 RX12 yX12_signAt wsRX12_signAt) ++ (wsV RX12 449 RX12 yX12_lies wsRX12_lies))
theorem iwsRX12_leaving_in12 : ∀ w ∈ wsX120, w ∈ wsRX12_leaving := fun _ h => List.mem_cons_of_mem _ (List.mem_append_left _ (List.mem_append_left _ (List.mem_append_right _ h)))
theorem gwsRX12_leaving_0 : GoodIn wsRX12_leaving (wsV RX12 446 RX12 yX12_signAt wsRX12_signAt) := goodIn_sub (fun _ h => List.mem_cons_of_mem _ (List.mem_append_left _ (List.mem_append_right _ h))) (gdV (by decide +kernel) gdwsRX12_signAt)
theorem gwsRX12_leaving_1 : GoodIn wsRX12_leaving (wsV RX12 449 RX12 yX12_lies wsRX12_lies) := goodIn_sub (fun _ h => List.mem_cons_of_mem _ (List.mem_append_right _ h)) (gdV (by decide +kernel) gdwsRX12_lies)
theorem gdwsRX12_leaving : wsRX12_leaving.all goodWord = true := gdC rfl (gdA (gdA (gdA (by decide +kernel : ([.fieldLink RX12 399 "OptimaWorksModel" "rows" "I", .fieldLink RX12 26 "OptimaWorksModel" "rowOf" "[I"] : List Cond).all goodWord = true) gdwsX120) (gdV (by decide +kernel) gdwsRX12_signAt)) (gdV (by decide +kernel) gdwsRX12_lies))
set_option maxHeartbeats 4000000 in
set_option maxRecDepth 100000 in
/-- leaving(c) -/
theorem r_X12_leaving (l : Launch) (dC : Nat → ClassId) (dI : Nat → Nat → Nat) (a : Nat → Nat) (k : Nat → ClassId) (h0 : Nat) (vi : Nat → Int32) (vj : Nat → Int64) (vF : Nat → Nat → Int32) (vG : Nat → Nat → Int64) (cn : Nat) (lr : Nat → Nat) (C : Nat) (R : Nat) (Gq : Nat) (t : Nat → Nat → Int) (D : Int) (mg : Nat → Int) (hBg : Bg (vF 0) mg) (hC : vi 5 = nI C) (hR : vi 6 = nI R) (hG : vi 7 = nI Gq) (hC45 : 0 < C ∧ C ≤ 45) (hT60 : R + Gq < 60) (hsz : (R + Gq) * (C + 1) ≤ 970) (hT : Tab (vi 11) C (R + Gq) mg (vG 7) (vj 12) t D) (hcn : cn ≤ C) (hbd : ∀ i, i < R + Gq → ∀ j, j ≤ C → (t i j).natAbs < 2 ^ 294) (hlr : ∀ i, i < R → lr i < 200 ∧ vF 5 i = nI (lr i)) (sz : Nat) : Met l yX12_leaving wsRX12_leaving ({ frames := 3, cells := 0, slots := 0, locals := 86 }) (va_Pc [.ref h0, .int (nI cn)] (fun U => U.heap.size = sz ∧ va_P (dC, dI) vwCl (WR a k h0 vi vj vF vG) U.heap ∧ va_K (dC, dI) vwCl (tX12 k) U ∧ va_D (fun _ => True) (WR a k h0 vi vj vF vG))) (va_Qi (fun (r : Int32) (u : (Nat → Int32) × (Nat → Int64) × (Nat → Int) × (Nat)) => (r = (-1) ∧ (Bg (u.1) (u.2.2.1)) ∧ (∀ q, q ≠ 22 → q ≠ 23 → (u.2.2.1) q = mg q) ∧ (∀ i, i < R → t i cn ≤ 0)) ∨ (r = (nI (u.2.2.2)) ∧ (Bg (u.1) (u.2.2.1)) ∧ (∀ q, q ≠ 22 → q ≠ 23 → (u.2.2.1) q = mg q) ∧ ((u.2.2.2) < R) ∧ (Bst t C cn lr R (u.2.2.2)))) (fun (u : (Nat → Int32) × (Nat → Int64) × (Nat → Int) × (Nat)) t => va_P (dC, dI) vwCl (WR a k h0 vi vj (fT vF 0 (u.1)) (fT vG 1 (u.2.1))) t.heap ∧ va_D (va_A (WR a k h0 vi vj vF vG) sz) (WR a k h0 vi vj (fT vF 0 (u.1)) (fT vG 1 (u.2.1)))) (va_A (WR a k h0 vi vj vF vG) sz)) 0 0 (va_A (WR a k h0 vi vj vF vG) sz) := by
  refine Met.ofW (cc := cX12_leaving) (maxL := 5) (ret := (some .int)) (by decide) rfl ?_
  intro p e s m args below meth c s₁ B hml hv
  obtain ⟨rfl, hsz, hP, hK, hD0⟩ := hv
  have hx := B.exec
  have hb := B.bytes
  have hr := B.returns
  have hts := atoms_spec (ws := wsRX12_leaving) B.pre
  have hown : s.vm.findClass RX12 = some m.cls := findClass_of_methodNamed B.named
  have hlocks := B.notSynchronized
  subst hsz
  have hD := hD0.self (sz := s.heap.size)
  generalize hAe : va_A (WR a k h0 vi vj vF vG) s.heap.size = A at hD ⊢
  have hA : ∀ q : Nat, s.heap.size ≤ q → A q := fun q h => by rw [← hAe]; exact Or.inr h
  have hS : va_S A s.heap s.heap [] := va_S.rf
  have hl := lv_entry ([.ref h0, .int (nI cn)]) (n := 5) (Nat.le_of_ble_eq_true rfl)
  rw [lg_entry_eq]
  generalize (lg_sl ([.ref h0, .int (nI cn)]) ++ List.replicate (5 - (lg_sl ([.ref h0, .int (nI cn)])).length) Slot.unset).toArray = ls at hl ⊢
  have hl : lv_has ls 5 [(0, .ref h0), (1, .int (nI cn))] := hl
  refine lv_iconst (v := (-1)) hx hb dX12_leaving_0 (by decide) ?_
  refine lv_istore_n hx hb dX12_leaving_1 rfl hl (by decide) rfl (fun ls (hl : lv_has ls _ ([(2, .int (-1)), (0, .ref h0), (1, .int (nI cn))])) => ?_)
  refine lv_iconst (v := 0) hx hb dX12_leaving_2 (by decide) ?_
  refine lv_istore_n hx hb dX12_leaving_3 rfl hl (by decide) rfl (fun ls (hl : lv_has ls _ ([(3, .int 0), (2, .int (-1)), (0, .ref h0), (1, .int (nI cn))])) => ?_)
  have e9 : fT vF 0 (vF 0) = vF := by funext q9; by_cases h9_0 : q9 = 0; (subst h9_0; exact (fT_eq _ _ _).trans (Eq.trans (by first | rfl | assumption | (symm; assumption) | (subst_vars; rfl)) (Eq.refl _).symm)); exact (fT_ne _ _ h9_0).trans (Eq.refl _).symm
  have hP : va_P (dC, dI) vwCl (WR a k h0 vi vj (fT vF 0 (vF 0)) vG) s.heap := by rw [e9]; exact hP
  have hD : va_D A (WR a k h0 vi vj (fT vF 0 (vF 0)) vG) := by rw [e9]; exact hD
  clear e9
  have e9 : fT vG 1 (vG 1) = vG := by funext q9; by_cases h9_1 : q9 = 1; (subst h9_1; exact (fT_eq _ _ _).trans (Eq.trans (by first | rfl | assumption | (symm; assumption) | (subst_vars; rfl)) (Eq.refl _).symm)); exact (fT_ne _ _ h9_1).trans (Eq.refl _).symm
  have hP : va_P (dC, dI) vwCl (WR a k h0 vi vj (fT vF 0 (vF 0)) (fT vG 1 (vG 1))) s.heap := by rw [e9]; exact hP
  have hD : va_D A (WR a k h0 vi vj (fT vF 0 (vF 0)) (fT vG 1 (vG 1))) := by rw [e9]; exact hD
  clear e9
  have hl : lv_has _ _ ([(0, .ref h0), (1, .int (nI cn)), (2, .int (-1)), (3, .int (nI 0))]) := lv_sub hl [2, 3, 1, 0] rfl
  refine (fun (loop : ∀ (n9 : Nat) (i : Nat) (bq : Int32) (bb : Nat) (g1 : Nat → Int32) (gs1 : Nat → Int64) (m1 : Nat → Int) (H : Heap) (locs : List Loc) (ls : Array Slot), (Bg g1 m1) → (i ≤ R) → (Tab (vi 11) C (R + Gq) m1 (vG 7) (vj 12) t D) → (∀ q, q ≠ 22 → q ≠ 23 → m1 q = mg q) → ((bq = -1 ∧ ∀ i2, i2 < i → t i2 cn ≤ 0) ∨ (bq = nI bb ∧ bb < i ∧ Bst t C cn lr i bb)) →  (R < i + n9) → va_P (dC, dI) vwCl (WR a k h0 vi vj (fT vF 0 g1) (fT vG 1 gs1)) H → va_D A (WR a k h0 vi vj (fT vF 0 g1) (fT vG 1 gs1)) → va_S A s.heap H locs → lv_has ls 5 [(0, .ref h0), (1, .int (nI cn)), (2, .int bq), (3, .int (nI i))] → W p l e _ s m _ below meth c H locs 0 0 _ (F0 m 4 ls [])) => loop (R + 1) 0 (-1) 0 (vF 0) (vG 1) mg _ _ _ (hBg) (by omega) (hT) (fun q _ _ => rfl) (Or.inl ⟨rfl, fun i2 h2 => absurd h2 (by omega)⟩) (by omega) hP hD hS hl) ?_
  intro n9
  induction n9 with
  | zero => intro i bq bb g1 gs1 m1 H locs ls hB1 hi hT1 ho hbs hf9; exact False.elim (by omega)
  | succ n9 ih4 =>
    intro i bq bb g1 gs1 m1 H locs ls hB1 hi hT1 ho hbs hf4 hP hD hS hl
    refine lv_iload_n hx hb dX12_leaving_4 rfl (lv_at hl 3 rfl) ?_
    refine lv_aload_n hx hb dX12_leaving_5 rfl (lv_at hl 0 rfl) ?_
    refine va_get (D := (dC, dI)) (ci := 12) (v := .int (vi 6)) (C := RX12) (T := TX12) (N := 163) (fs := fM (vS a vi vj)) hx hb hts iwsRX12_leaving_in12 hown hK hP 0 rfl rfl 6 (by decide) (hts (.fieldLink RX12 399 "OptimaWorksModel" "rows" "I") (by decide +kernel)) (fun _ h9 => h9) rfl dX12_leaving_6 ?_
    refine lv_topi (fun y1 hy1 => ?_)
    obtain rfl : (nI R) = y1 := (hy1.trans (hR)).symm
    refine lv_icmp_ge (tgt := 76) hx hb dX12_leaving_9 (by decide) (fun c_9 => ?_) (fun c_9 => ?_)
    · have t_9 : ((i : Nat) : Int) ≥ ((R : Nat) : Int) := toI_ge c_9 (nI_toInt (by omega)) (nI_toInt (by omega))
      refine lv_iload_n hx hb dX12_leaving_76 rfl (lv_at hl 2 rfl) ?_
      refine W.widen (k := 0) (n := 0) (by decide +kernel) (by decide +kernel) ?_
      exact W.iret (v := bq) hx hb hr (fun t9_ ht hW => ⟨⟨bq, (g1, gs1, m1, bb), rfl, by (try dsimp only); (have ei : i = R := by omega); rcases hbs with ⟨h1, h2⟩ | ⟨h1, h2, h3⟩; (exact Or.inl ⟨h1, hB1, ho, fun i2 hi2 => h2 i2 (by omega)⟩); (exact Or.inr ⟨h1, hB1, ho, by omega, by rw [ei] at h3; exact h3⟩), by rw [ht]; exact hP, hD⟩, hS.F ht⟩) hS.2.2 dX12_leaving_77
    · have t_9 : ¬ ((i : Nat) : Int) ≥ ((R : Nat) : Int) := toI_nge c_9 (nI_toInt (by omega)) (nI_toInt (by omega))
      refine lv_aload_n hx hb dX12_leaving_12 rfl (lv_at hl 0 rfl) ?_
      refine lv_iload_n hx hb dX12_leaving_13 rfl (lv_at hl 3 rfl) ?_
      refine lv_iload_n hx hb dX12_leaving_14 rfl (lv_at hl 1 rfl) ?_
      have hFc := allFree hD hS hA
      refine va_calli (va_runV (As := [.int (nI i), .int (nI cn)]) (rest := []) ⟨hx, hb, hml, hown, hts⟩ (r_X12_signAt l dC dI a k h0 vi vj (fT vF 0 g1) (fT vG 1 gs1) i cn C (R + Gq) t D m1 hB1 (by first | assumption | decide | omega | rfl) (hT1) (by first | assumption | decide | omega | rfl) (by first | assumption | decide | omega | rfl) (by first | assumption | decide | omega | rfl) (by first | assumption | decide | omega | rfl) (by first | assumption | decide | omega | rfl) H.size) (cwV 2 hts gwsRX12_leaving_0 rfl rfl rfl (by decide +kernel) ⟨by decide +kernel, by decide +kernel⟩) ⟨fun a U g mk q => by obtain ⟨q0, q1, qP, qK, qD⟩ := q; exact ⟨q0, q1, qP, va_K.moved (u := U) (U := U.calling g mk a) (Vm.Alike.refl U.vm) qK, qD⟩, va_recv hK hP (ci := 12) (q0 := 0) rfl rfl, fun U hU9 hW => ⟨rfl, by rw [hU9], by rw [hU9]; exact hP, va_K.moved hW.alike hK, hD.weaken (fun _ _ _ _ => trivial)⟩⟩ rfl rfl hl.1 rfl (lv_room (Nat.le_of_ble_eq_true rfl)) dX12_leaving_15 ⟨by decide +kernel, by decide +kernel⟩) hS (fun q _ h => hFc q h) hFc (fun r15 u t9_ H1 locs ht hvm hw9 hB9 hz1 hk1 hS => ?_)
      obtain ⟨hP1, hD1⟩ := hB9
      rw [ht] at hP1
      have hP := hP1
      have hD := hD1.weaken (fun _ q _ h => hFc q.1 h)
      generalize H1 = H at hP hS ⊢
      have hP : va_P (dC, dI) vwCl (WR a k h0 vi vj (fT vF 0 g1) (fT vG 1 gs1)) H := hP
      have hD : va_D A (WR a k h0 vi vj (fT vF 0 g1) (fT vG 1 gs1)) := hD
      have f15_0 := hw9
      try dsimp only at f15_0
      refine lv_if_gt (tgt := 24) hx hb dX12_leaving_18 (by decide) (fun c_18 => ?_) (fun c_18 => ?_)
      · have t_18 : (r15).toInt > 0 := toI_gt c_18 rfl (by decide)
        refine lv_iload_n hx hb dX12_leaving_24 rfl (lv_at hl 2 rfl) ?_
        refine lv_iconst (v := (-1)) hx hb dX12_leaving_25 (by decide) ?_
        refine lv_icmp_ne (tgt := 34) hx hb dX12_leaving_26 (by decide) (fun c_26 => ?_) (fun c_26 => ?_)
        · have t_26 : (bq).toInt ≠ -1 := toI_ne c_26 rfl (by decide)
          obtain ⟨h1b, h2b, h3b⟩ := hbs.resolve_left (fun h => c_26 h.1)
          subst h1b
          refine lv_aload_n hx hb dX12_leaving_34 rfl (lv_at hl 0 rfl) ?_
          refine lv_iload_n hx hb dX12_leaving_35 rfl (lv_at hl 3 rfl) ?_
          refine lv_iload_n hx hb dX12_leaving_36 rfl (lv_at hl 2 rfl) ?_
          refine lv_iload_n hx hb dX12_leaving_37 rfl (lv_at hl 1 rfl) ?_
          have hFc := allFree hD hS hA
          refine va_calli (va_runV (As := [.int (nI i), .int (nI bb), .int (nI cn)]) (rest := []) ⟨hx, hb, hml, hown, hts⟩ (r_X12_lies l dC dI a k h0 vi vj (fT vF 0 g1) (fT vG 1 gs1) i bb cn C (R + Gq) t D m1 hB1 (by first | assumption | decide | omega | rfl) (hT1) (by first | assumption | decide | omega | rfl) (by first | assumption | decide | omega | rfl) (by first | assumption | decide | omega | rfl) (by first | assumption | decide | omega | rfl) (by first | assumption | decide | omega | rfl) (by first | assumption | decide | omega | rfl) (hbd) H.size) (cwV 3 hts gwsRX12_leaving_1 rfl rfl rfl (by decide +kernel) ⟨by decide +kernel, by decide +kernel⟩) ⟨fun a U g mk q => by obtain ⟨q0, q1, qP, qK, qD⟩ := q; exact ⟨q0, q1, qP, va_K.moved (u := U) (U := U.calling g mk a) (Vm.Alike.refl U.vm) qK, qD⟩, va_recv hK hP (ci := 12) (q0 := 0) rfl rfl, fun U hU9 hW => ⟨rfl, by rw [hU9], by rw [hU9]; exact hP, va_K.moved hW.alike hK, hD.weaken (fun _ _ _ _ => trivial)⟩⟩ rfl rfl hl.1 rfl (lv_room (Nat.le_of_ble_eq_true rfl)) dX12_leaving_38 ⟨by decide +kernel, by decide +kernel⟩) hS (fun q _ h => hFc q h) hFc (fun r38 u t9_ H1 locs ht hvm hw9 hB9 hz1 hk1 hS => ?_)
          obtain ⟨g38, gs38, m238⟩ := u
          try dsimp only at hw9 hB9
          obtain ⟨hP1, hD1⟩ := hB9
          rw [ht] at hP1
          have hP := hP1
          have hD := hD1.weaken (fun _ q _ h => hFc q.1 h)
          generalize H1 = H at hP hS ⊢
          have hP : va_P (dC, dI) vwCl (WR a k h0 vi vj (fT (fT vF 0 g1) 0 g38) (fT (fT vG 1 gs1) 1 gs38)) H := hP
          have hD : va_D A (WR a k h0 vi vj (fT (fT vF 0 g1) 0 g38) (fT (fT vG 1 gs1) 1 gs38)) := hD
          have e9 : fT vF 0 g38 = fT (fT vF 0 g1) 0 g38 := (fT_sm _ _ _ _).symm
          rw [← e9] at hP hD
          clear e9
          have e9 : fT vG 1 gs38 = fT (fT vG 1 gs1) 1 gs38 := (fT_sm _ _ _ _).symm
          rw [← e9] at hP hD
          clear e9
          have hP : va_P (dC, dI) vwCl (WR a k h0 vi vj (fT vF 0 g38) (fT vG 1 gs38)) H := hP
          have hD : va_D A (WR a k h0 vi vj (fT vF 0 g38) (fT vG 1 gs38)) := hD
          obtain ⟨f38_0, f38_1, f38_2⟩ := hw9
          refine lv_istore hx hb dX12_leaving_41 hl (by decide) rfl (fun ls (hl : lv_has ls _ ([(4, .int r38), (0, .ref h0), (1, .int (nI cn)), (2, .int (nI bb)), (3, .int (nI i))])) => ?_)
          refine lv_iload hx hb dX12_leaving_43 (lv_at hl 0 rfl) ?_
          refine lv_if_lt (tgt := 68) hx hb dX12_leaving_45 (by decide) (fun c_45 => ?_) (fun c_45 => ?_)
          · have t_45 : (r38).toInt < 0 := toI_lt c_45 rfl (by decide)
            refine lv_iload_n hx hb dX12_leaving_68 rfl (lv_at hl 4 rfl) ?_
            refine lv_istore_n hx hb dX12_leaving_69 rfl hl (by decide) rfl (fun ls (hl : lv_has ls _ ([(2, .int (nI i)), (4, .int r38), (0, .ref h0), (1, .int (nI cn)), (3, .int (nI i))])) => ?_)
            refine lv_iinc (v := (nI (i + 1))) hx hb dX12_leaving_70 hl (k := 4) rfl (nI_add i 1) (by decide) rfl (fun ls (hl : lv_has ls _ ([(3, .int (nI (i + 1))), (2, .int (nI i)), (4, .int r38), (0, .ref h0), (1, .int (nI cn))])) => ?_)
            refine lv_goto (tgt := 4) hx hb dX12_leaving_73 (by decide) ?_
            have hl : lv_has _ _ ([(0, .ref h0), (1, .int (nI cn)), (2, .int (nI i)), (3, .int (nI (i + 1)))]) := lv_sub hl [3, 4, 1, 0] rfl
            exact ih4 (i + 1) (nI i) i g38 gs38 m238 _ _ _ (f38_0) (by omega) (hT1.frame (fun p hp => f38_1 p (by omega) (by omega))) (fun q h1 h2 => by (rw [f38_1 _ (by omega) (by omega)]); exact ho q h1 h2) (Or.inr ⟨rfl, by omega, h3b.new (by omega) (by (have fl := f38_2); omega)⟩) (by omega) hP hD hS hl
          · have t_45 : ¬ (r38).toInt < 0 := toI_nlt c_45 rfl (by decide)
            refine lv_iload hx hb dX12_leaving_48 (lv_at hl 0 rfl) ?_
            refine lv_if_ne (tgt := 70) hx hb dX12_leaving_50 (by decide) (fun c_50 => ?_) (fun c_50 => ?_)
            · have t_50 : (r38).toInt ≠ 0 := toI_ne c_50 rfl (by decide)
              refine lv_iinc (v := (nI (i + 1))) hx hb dX12_leaving_70 hl (k := 4) rfl (nI_add i 1) (by decide) rfl (fun ls (hl : lv_has ls _ ([(3, .int (nI (i + 1))), (4, .int r38), (0, .ref h0), (1, .int (nI cn)), (2, .int (nI bb))])) => ?_)
              refine lv_goto (tgt := 4) hx hb dX12_leaving_73 (by decide) ?_
              have hl : lv_has _ _ ([(0, .ref h0), (1, .int (nI cn)), (2, .int (nI bb)), (3, .int (nI (i + 1)))]) := lv_sub hl [2, 3, 4, 0] rfl
              exact ih4 (i + 1) (nI bb) bb g38 gs38 m238 _ _ _ (f38_0) (by omega) (hT1.frame (fun p hp => f38_1 p (by omega) (by omega))) (fun q h1 h2 => by (rw [f38_1 _ (by omega) (by omega)]); exact ho q h1 h2) (Or.inr ⟨rfl, by omega, h3b.keep (by (have fl := f38_2); omega)⟩) (by omega) hP hD hS hl
            · have t_50 : (r38).toInt = 0 := toI_nne c_50 rfl (by decide)
              have l1 := (hlr i (by omega)).1
              have l2 := (hlr bb (by omega)).1
              refine lv_aload_n hx hb dX12_leaving_53 rfl (lv_at hl 1 rfl) ?_
              refine va_get (D := (dC, dI)) (ci := 12) (v := .ref (a 5)) (C := RX12) (T := TX12) (N := 163) (fs := fM (vS a vi vj)) hx hb hts iwsRX12_leaving_in12 hown hK hP 0 rfl rfl 9 (by decide) (hts (.fieldLink RX12 26 "OptimaWorksModel" "rowOf" "[I") (by decide +kernel)) (fun _ h9 => h9) rfl dX12_leaving_54 ?_
              refine lv_iload_n hx hb dX12_leaving_57 rfl (lv_at hl 4 rfl) ?_
              refine va_iald (cA := k 5) (n := 60) (f := (vF 5)) hx hb hK hP 6 5 (WR_get 5 (by decide)) (TR_get 5 (by decide)) (vp_in_nI (show i < 60 by omega) (by omega)) dX12_leaving_58 ?_
              refine lv_topi (fun y2 hy2 => ?_)
              obtain rfl : ((vF 5) i) = y2 := (hy2.trans (by rw [nI_clamp (by omega)])).symm
              refine lv_topi (fun y3 hy3 => ?_)
              obtain rfl : (nI (lr i)) = y3 := (hy3.trans ((hlr i (by omega)).2)).symm
              refine lv_aload_n hx hb dX12_leaving_59 rfl (lv_at hl 1 rfl) ?_
              refine va_get (D := (dC, dI)) (ci := 12) (v := .ref (a 5)) (C := RX12) (T := TX12) (N := 163) (fs := fM (vS a vi vj)) hx hb hts iwsRX12_leaving_in12 hown hK hP 0 rfl rfl 9 (by decide) (hts (.fieldLink RX12 26 "OptimaWorksModel" "rowOf" "[I") (by decide +kernel)) (fun _ h9 => h9) rfl dX12_leaving_60 ?_
              refine lv_iload_n hx hb dX12_leaving_63 rfl (lv_at hl 3 rfl) ?_
              refine va_iald (cA := k 5) (n := 60) (f := (vF 5)) hx hb hK hP 6 5 (WR_get 5 (by decide)) (TR_get 5 (by decide)) (vp_in_nI (show bb < 60 by omega) (by omega)) dX12_leaving_64 ?_
              refine lv_topi (fun y4 hy4 => ?_)
              obtain rfl : ((vF 5) bb) = y4 := (hy4.trans (by rw [nI_clamp (by omega)])).symm
              refine lv_topi (fun y5 hy5 => ?_)
              obtain rfl : (nI (lr bb)) = y5 := (hy5.trans ((hlr bb (by omega)).2)).symm
              refine lv_icmp_ge (tgt := 70) hx hb dX12_leaving_65 (by decide) (fun c_65 => ?_) (fun c_65 => ?_)
              · have t_65 : (((lr i) : Nat) : Int) ≥ (((lr bb) : Nat) : Int) := toI_ge c_65 (nI_toInt (by omega)) (nI_toInt (by omega))
                refine lv_iinc (v := (nI (i + 1))) hx hb dX12_leaving_70 hl (k := 4) rfl (nI_add i 1) (by decide) rfl (fun ls (hl : lv_has ls _ ([(3, .int (nI (i + 1))), (4, .int r38), (0, .ref h0), (1, .int (nI cn)), (2, .int (nI bb))])) => ?_)
                refine lv_goto (tgt := 4) hx hb dX12_leaving_73 (by decide) ?_
                have hl : lv_has _ _ ([(0, .ref h0), (1, .int (nI cn)), (2, .int (nI bb)), (3, .int (nI (i + 1)))]) := lv_sub hl [2, 3, 4, 0] rfl
                exact ih4 (i + 1) (nI bb) bb g38 gs38 m238 _ _ _ (f38_0) (by omega) (hT1.frame (fun p hp => f38_1 p (by omega) (by omega))) (fun q h1 h2 => by (rw [f38_1 _ (by omega) (by omega)]); exact ho q h1 h2) (Or.inr ⟨rfl, by omega, h3b.keep (by (have fl := f38_2); omega)⟩) (by omega) hP hD hS hl
              · have t_65 : ¬ (((lr i) : Nat) : Int) ≥ (((lr bb) : Nat) : Int) := toI_nge c_65 (nI_toInt (by omega)) (nI_toInt (by omega))
                refine lv_iload_n hx hb dX12_leaving_68 rfl (lv_at hl 4 rfl) ?_
                refine lv_istore_n hx hb dX12_leaving_69 rfl hl (by decide) rfl (fun ls (hl : lv_has ls _ ([(2, .int (nI i)), (4, .int r38), (0, .ref h0), (1, .int (nI cn)), (3, .int (nI i))])) => ?_)
                refine lv_iinc (v := (nI (i + 1))) hx hb dX12_leaving_70 hl (k := 4) rfl (nI_add i 1) (by decide) rfl (fun ls (hl : lv_has ls _ ([(3, .int (nI (i + 1))), (2, .int (nI i)), (4, .int r38), (0, .ref h0), (1, .int (nI cn))])) => ?_)
                refine lv_goto (tgt := 4) hx hb dX12_leaving_73 (by decide) ?_
                have hl : lv_has _ _ ([(0, .ref h0), (1, .int (nI cn)), (2, .int (nI i)), (3, .int (nI (i + 1)))]) := lv_sub hl [3, 4, 1, 0] rfl
                exact ih4 (i + 1) (nI i) i g38 gs38 m238 _ _ _ (f38_0) (by omega) (hT1.frame (fun p hp => f38_1 p (by omega) (by omega))) (fun q h1 h2 => by (rw [f38_1 _ (by omega) (by omega)]); exact ho q h1 h2) (Or.inr ⟨rfl, by omega, h3b.new (by omega) (by (have fl := f38_2); omega)⟩) (by omega) hP hD hS hl
        · have t_26 : (bq).toInt = -1 := toI_nne c_26 rfl (by decide)
          refine lv_iload_n hx hb dX12_leaving_29 rfl (lv_at hl 3 rfl) ?_
          refine lv_istore_n hx hb dX12_leaving_30 rfl hl (by decide) rfl (fun ls (hl : lv_has ls _ ([(2, .int (nI i)), (0, .ref h0), (1, .int (nI cn)), (3, .int (nI i))])) => ?_)
          refine lv_goto (tgt := 70) hx hb dX12_leaving_31 (by decide) ?_
          refine lv_iinc (v := (nI (i + 1))) hx hb dX12_leaving_70 hl (k := 3) rfl (nI_add i 1) (by decide) rfl (fun ls (hl : lv_has ls _ ([(3, .int (nI (i + 1))), (2, .int (nI i)), (0, .ref h0), (1, .int (nI cn))])) => ?_)
          refine lv_goto (tgt := 4) hx hb dX12_leaving_73 (by decide) ?_
          have hl : lv_has _ _ ([(0, .ref h0), (1, .int (nI cn)), (2, .int (nI i)), (3, .int (nI (i + 1)))]) := lv_sub hl [2, 3, 1, 0] rfl
          exact ih4 (i + 1) (nI i) i g1 gs1 m1 _ _ _ (hB1) (by omega) (hT1) (ho) (by (have h1 : ∀ i2, i2 < i → t i2 cn ≤ 0 := by rcases hbs with ⟨h1, h2⟩ | ⟨h1, h2, h3⟩; (exact h2); (exfalso; (have h9 := nI_toInt (n := bb) (by omega)); rw [← h1, c_26] at h9; (have h8 : ((-1 : Int32)).toInt = -1 := by decide); omega)); exact Or.inr ⟨rfl, by omega, Bst.first h1 (by omega)⟩) (by omega) hP hD hS hl
      · have t_18 : ¬ (r15).toInt > 0 := toI_ngt c_18 rfl (by decide)
        refine lv_goto (tgt := 70) hx hb dX12_leaving_21 (by decide) ?_
        refine lv_iinc (v := (nI (i + 1))) hx hb dX12_leaving_70 hl (k := 3) rfl (nI_add i 1) (by decide) rfl (fun ls (hl : lv_has ls _ ([(3, .int (nI (i + 1))), (0, .ref h0), (1, .int (nI cn)), (2, .int bq)])) => ?_)
        refine lv_goto (tgt := 4) hx hb dX12_leaving_73 (by decide) ?_
        have hl : lv_has _ _ ([(0, .ref h0), (1, .int (nI cn)), (2, .int bq), (3, .int (nI (i + 1)))]) := lv_sub hl [1, 2, 3, 0] rfl
        exact ih4 (i + 1) bq bb g1 gs1 m1 _ _ _ (hB1) (by omega) (hT1) (ho) (by rcases hbs with ⟨h1, h2⟩ | ⟨h1, h2, h3⟩; (exact Or.inl ⟨h1, fun i2 hi2 => by by_cases e9 : i2 = i; (rw [e9]; omega); (exact h2 i2 (by omega))⟩); (exact Or.inr ⟨h1, by omega, h3.skip (by omega)⟩)) (by omega) hP hD hS hl

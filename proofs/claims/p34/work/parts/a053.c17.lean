theorem dX12_raise_0 : decode cX12_raise 0 = .ok (.iconst 0, 1) := dk_3 (by decide +kernel)
theorem dX12_raise_1 : decode cX12_raise 1 = .ok (.istore_n 2, 1) := dk_61 (by decide +kernel)
theorem dX12_raise_2 : decode cX12_raise 2 = .ok (.iload_n 2, 1) := dk_28 (by decide +kernel)
theorem dX12_raise_3 : decode cX12_raise 3 = .ok (.iconst (-1), 1) := dk_2 (by decide +kernel)
theorem dX12_raise_4 : decode cX12_raise 4 = .ok (.if_icmp .eq 91, 3) := dk_159 (by decide +kernel)
theorem dX12_raise_7 : decode cX12_raise 7 = .ok (.iconst (-1), 1) := dk_2 (by decide +kernel)
theorem dX12_raise_8 : decode cX12_raise 8 = .ok (.istore_n 2, 1) := dk_61 (by decide +kernel)
theorem dX12_raise_9 : decode cX12_raise 9 = .ok (.iconst 0, 1) := dk_3 (by decide +kernel)
theorem dX12_raise_10 : decode cX12_raise 10 = .ok (.istore_n 3, 1) := dk_62 (by decide +kernel)
theorem dX12_raise_11 : decode cX12_raise 11 = .ok (.iload_n 3, 1) := dk_29 (by decide +kernel)
theorem dX12_raise_12 : decode cX12_raise 12 = .ok (.aload_n 0, 1) := dk_42 (by decide +kernel)
theorem dX12_raise_13 : decode cX12_raise 13 = .ok (.getfield 396, 3) := dk_180 (by decide +kernel)
theorem dX12_raise_16 : decode cX12_raise 16 = .ok (.if_icmp .ge 49, 3) := dk_162 (by decide +kernel)
theorem dX12_raise_19 : decode cX12_raise 19 = .ok (.aload_n 0, 1) := dk_42 (by decide +kernel)
theorem dX12_raise_20 : decode cX12_raise 20 = .ok (.getfield 29, 3) := dk_180 (by decide +kernel)
theorem dX12_raise_23 : decode cX12_raise 23 = .ok (.iload_n 3, 1) := dk_29 (by decide +kernel)
theorem dX12_raise_24 : decode cX12_raise 24 = .ok (.baload, 1) := dk_51 (by decide +kernel)
theorem dX12_raise_25 : decode cX12_raise 25 = .ok (.ifCond .ne 34, 3) := dk_154 (by decide +kernel)
theorem dX12_raise_28 : decode cX12_raise 28 = .ok (.aload_n 0, 1) := dk_42 (by decide +kernel)
theorem dX12_raise_29 : decode cX12_raise 29 = .ok (.iload_n 1, 1) := dk_27 (by decide +kernel)
theorem dX12_raise_30 : decode cX12_raise 30 = .ok (.iload_n 3, 1) := dk_29 (by decide +kernel)
theorem dX12_raise_31 : decode cX12_raise 31 = .ok (.invokevirtual 446, 3) := dk_182 (by decide +kernel)
theorem dX12_raise_34 : decode cX12_raise 34 = .ok (.ifCond .ge 25, 3) := dk_156 (by decide +kernel)
theorem dX12_raise_37 : decode cX12_raise 37 = .ok (.iload_n 2, 1) := dk_28 (by decide +kernel)
theorem dX12_raise_38 : decode cX12_raise 38 = .ok (.iconst (-1), 1) := dk_2 (by decide +kernel)
theorem dX12_raise_39 : decode cX12_raise 39 = .ok (.if_icmp .eq 18, 3) := dk_159 (by decide +kernel)
theorem dX12_raise_42 : decode cX12_raise 42 = .ok (.aload_n 0, 1) := dk_42 (by decide +kernel)
theorem dX12_raise_43 : decode cX12_raise 43 = .ok (.getfield 23, 3) := dk_180 (by decide +kernel)
theorem dX12_raise_46 : decode cX12_raise 46 = .ok (.iload_n 3, 1) := dk_29 (by decide +kernel)
theorem dX12_raise_47 : decode cX12_raise 47 = .ok (.iaload, 1) := dk_46 (by decide +kernel)
theorem dX12_raise_48 : decode cX12_raise 48 = .ok (.aload_n 0, 1) := dk_42 (by decide +kernel)
theorem dX12_raise_49 : decode cX12_raise 49 = .ok (.getfield 23, 3) := dk_180 (by decide +kernel)
theorem dX12_raise_52 : decode cX12_raise 52 = .ok (.iload_n 2, 1) := dk_28 (by decide +kernel)
theorem dX12_raise_53 : decode cX12_raise 53 = .ok (.iaload, 1) := dk_46 (by decide +kernel)
theorem dX12_raise_54 : decode cX12_raise 54 = .ok (.if_icmp .ge 5, 3) := dk_162 (by decide +kernel)
theorem dX12_raise_57 : decode cX12_raise 57 = .ok (.iload_n 3, 1) := dk_29 (by decide +kernel)
theorem dX12_raise_58 : decode cX12_raise 58 = .ok (.istore_n 2, 1) := dk_61 (by decide +kernel)
theorem dX12_raise_59 : decode cX12_raise 59 = .ok (.iinc 3 1, 3) := dk_132 (by decide +kernel)
theorem dX12_raise_62 : decode cX12_raise 62 = .ok (.goto (-51), 3) := dk_167 (by decide +kernel)
theorem dX12_raise_65 : decode cX12_raise 65 = .ok (.iload_n 2, 1) := dk_28 (by decide +kernel)
theorem dX12_raise_66 : decode cX12_raise 66 = .ok (.iconst (-1), 1) := dk_2 (by decide +kernel)
theorem dX12_raise_67 : decode cX12_raise 67 = .ok (.if_icmp .ne 6, 3) := dk_160 (by decide +kernel)
theorem dX12_raise_70 : decode cX12_raise 70 = .ok (.goto (-68), 3) := dk_167 (by decide +kernel)
theorem dX12_raise_73 : decode cX12_raise 73 = .ok (.aload_n 0, 1) := dk_42 (by decide +kernel)
theorem dX12_raise_74 : decode cX12_raise 74 = .ok (.iload_n 2, 1) := dk_28 (by decide +kernel)
theorem dX12_raise_75 : decode cX12_raise 75 = .ok (.invokevirtual 453, 3) := dk_182 (by decide +kernel)
theorem dX12_raise_78 : decode cX12_raise 78 = .ok (.istore_n 3, 1) := dk_62 (by decide +kernel)
theorem dX12_raise_79 : decode cX12_raise 79 = .ok (.iload_n 3, 1) := dk_29 (by decide +kernel)
theorem dX12_raise_80 : decode cX12_raise 80 = .ok (.iconst (-1), 1) := dk_2 (by decide +kernel)
theorem dX12_raise_81 : decode cX12_raise 81 = .ok (.if_icmp .ne 5, 3) := dk_160 (by decide +kernel)
theorem dX12_raise_84 : decode cX12_raise 84 = .ok (.iconst 0, 1) := dk_3 (by decide +kernel)
theorem dX12_raise_85 : decode cX12_raise 85 = .ok (.ireturn, 1) := dk_172 (by decide +kernel)
theorem dX12_raise_86 : decode cX12_raise 86 = .ok (.aload_n 0, 1) := dk_42 (by decide +kernel)
theorem dX12_raise_87 : decode cX12_raise 87 = .ok (.iload_n 3, 1) := dk_29 (by decide +kernel)
theorem dX12_raise_88 : decode cX12_raise 88 = .ok (.iload_n 2, 1) := dk_28 (by decide +kernel)
theorem dX12_raise_89 : decode cX12_raise 89 = .ok (.invokevirtual 456, 3) := dk_182 (by decide +kernel)
theorem dX12_raise_92 : decode cX12_raise 92 = .ok (.goto (-90), 3) := dk_167 (by decide +kernel)
theorem dX12_raise_95 : decode cX12_raise 95 = .ok (.iconst 0, 1) := dk_3 (by decide +kernel)
theorem dX12_raise_96 : decode cX12_raise 96 = .ok (.istore_n 3, 1) := dk_62 (by decide +kernel)
theorem dX12_raise_97 : decode cX12_raise 97 = .ok (.iload_n 3, 1) := dk_29 (by decide +kernel)
theorem dX12_raise_98 : decode cX12_raise 98 = .ok (.aload_n 0, 1) := dk_42 (by decide +kernel)
theorem dX12_raise_99 : decode cX12_raise 99 = .ok (.getfield 396, 3) := dk_180 (by decide +kernel)
theorem dX12_raise_102 : decode cX12_raise 102 = .ok (.if_icmp .ge 38, 3) := dk_162 (by decide +kernel)
theorem dX12_raise_105 : decode cX12_raise 105 = .ok (.aload_n 0, 1) := dk_42 (by decide +kernel)
theorem dX12_raise_106 : decode cX12_raise 106 = .ok (.getfield 29, 3) := dk_180 (by decide +kernel)
theorem dX12_raise_109 : decode cX12_raise 109 = .ok (.iload_n 3, 1) := dk_29 (by decide +kernel)
theorem dX12_raise_110 : decode cX12_raise 110 = .ok (.aload_n 0, 1) := dk_42 (by decide +kernel)
theorem dX12_raise_111 : decode cX12_raise 111 = .ok (.getfield 29, 3) := dk_180 (by decide +kernel)
theorem dX12_raise_114 : decode cX12_raise 114 = .ok (.iload_n 3, 1) := dk_29 (by decide +kernel)
theorem dX12_raise_115 : decode cX12_raise 115 = .ok (.baload, 1) := dk_51 (by decide +kernel)
theorem dX12_raise_116 : decode cX12_raise 116 = .ok (.ifCond .ne 12, 3) := dk_154 (by decide +kernel)
theorem dX12_raise_119 : decode cX12_raise 119 = .ok (.aload_n 0, 1) := dk_42 (by decide +kernel)
theorem dX12_raise_120 : decode cX12_raise 120 = .ok (.iload_n 1, 1) := dk_27 (by decide +kernel)
theorem dX12_raise_121 : decode cX12_raise 121 = .ok (.iload_n 3, 1) := dk_29 (by decide +kernel)
theorem dX12_raise_122 : decode cX12_raise 122 = .ok (.invokevirtual 446, 3) := dk_182 (by decide +kernel)
theorem dX12_raise_125 : decode cX12_raise 125 = .ok (.ifCond .le 7, 3) := dk_158 (by decide +kernel)
theorem dX12_raise_128 : decode cX12_raise 128 = .ok (.iconst 1, 1) := dk_4 (by decide +kernel)
theorem dX12_raise_129 : decode cX12_raise 129 = .ok (.goto 4, 3) := dk_167 (by decide +kernel)
theorem dX12_raise_132 : decode cX12_raise 132 = .ok (.iconst 0, 1) := dk_3 (by decide +kernel)
theorem dX12_raise_133 : decode cX12_raise 133 = .ok (.bastore, 1) := dk_84 (by decide +kernel)
theorem dX12_raise_134 : decode cX12_raise 134 = .ok (.iinc 3 1, 3) := dk_132 (by decide +kernel)
theorem dX12_raise_137 : decode cX12_raise 137 = .ok (.goto (-40), 3) := dk_167 (by decide +kernel)
theorem dX12_raise_140 : decode cX12_raise 140 = .ok (.iconst 1, 1) := dk_4 (by decide +kernel)
theorem dX12_raise_141 : decode cX12_raise 141 = .ok (.ireturn, 1) := dk_172 (by decide +kernel)
def wsRX12_raise : List Cond := .code yX12_raise cX12_raise 4 (some .boolean) :: ([.fieldLink RX12 396 "OptimaWorksModel" "columns" "I", .fieldLink RX12 29 "OptimaWorksModel" "still" "[Z", .fieldLink RX12 23 "OptimaWorksModel" "columnOf" "[I"] ++ wsX120 ++ (wsV RX12 446 RX12 yX12_signAt wsRX12_signAt) ++ (wsV RX12 453 RX12 yX12_leaving wsRX12_leaving) ++ (wsV RX12 456 RX12 yX12_pivot wsRX12_pivot))
theorem iwsRX12_raise_in12 : ∀ w ∈ wsX120, w ∈ wsRX12_raise := fun _ h => List.mem_cons_of_mem _ (List.mem_append_left _ (List.mem_append_left _ (List.mem_append_left _ (List.mem_append_right _ h))))
theorem gwsRX12_raise_0 : GoodIn wsRX12_raise (wsV RX12 446 RX12 yX12_signAt wsRX12_signAt) := goodIn_sub (fun _ h => List.mem_cons_of_mem _ (List.mem_append_left _ (List.mem_append_left _ (List.mem_append_right _ h)))) (gdV (by decide +kernel) gdwsRX12_signAt)
theorem gwsRX12_raise_1 : GoodIn wsRX12_raise (wsV RX12 453 RX12 yX12_leaving wsRX12_leaving) := goodIn_sub (fun _ h => List.mem_cons_of_mem _ (List.mem_append_left _ (List.mem_append_right _ h))) (gdV (by decide +kernel) gdwsRX12_leaving)
theorem gwsRX12_raise_2 : GoodIn wsRX12_raise (wsV RX12 456 RX12 yX12_pivot wsRX12_pivot) := goodIn_sub (fun _ h => List.mem_cons_of_mem _ (List.mem_append_right _ h)) (gdV (by decide +kernel) gdwsRX12_pivot)
theorem gdwsRX12_raise : wsRX12_raise.all goodWord = true := gdC rfl (gdA (gdA (gdA (gdA (by decide +kernel : ([.fieldLink RX12 396 "OptimaWorksModel" "columns" "I", .fieldLink RX12 29 "OptimaWorksModel" "still" "[Z", .fieldLink RX12 23 "OptimaWorksModel" "columnOf" "[I"] : List Cond).all goodWord = true) gdwsX120) (gdV (by decide +kernel) gdwsRX12_signAt)) (gdV (by decide +kernel) gdwsRX12_leaving)) (gdV (by decide +kernel) gdwsRX12_pivot))
set_option maxHeartbeats 4000000 in
set_option maxRecDepth 100000 in
/-- raise(goal) -/
theorem r_X12_raise (l : Launch) (dC : Nat → ClassId) (dI : Nat → Nat → Nat) (a : Nat → Nat) (k : Nat → ClassId) (h0 : Nat) (vi : Nat → Int32) (vj : Nat → Int64) (vF : Nat → Nat → Int32) (vG : Nat → Nat → Int64) (gn : Nat) (a_ : Nat → Nat → Int) (C : Nat) (R : Nat) (Gq : Nat) (t : Nat → Nat → Int) (D : Int) (mg : Nat → Int) (hBg : Bg (vF 0) mg) (hC : vi 5 = nI C) (hR : vi 6 = nI R) (hG : vi 7 = nI Gq) (hC45 : 0 < C ∧ C ≤ 45) (hT60 : R + Gq < 60) (hsz : (R + Gq) * (C + 1) ≤ 970) (hT : Tab (vi 11) C (R + Gq) mg (vG 7) (vj 12) t D) (hSx : Sx C R (R + Gq) a_ t D (vF 4) (vF 5)) (hsm : Small C R (R + Gq) a_) (hG0 : ∀ i, i < R → 0 ≤ t i C) (hRgn : R ≤ gn) (hgT : gn < R + Gq) (sz : Nat) : Met l yX12_raise wsRX12_raise ({ frames := 4, cells := 0, slots := 0, locals := 110 }) (va_Pc [.ref h0, .int (nI gn)] (fun U => U.heap.size = sz ∧ va_P (dC, dI) vwCl (WR a k h0 vi vj vF vG) U.heap ∧ va_K (dC, dI) vwCl (tX12 k) U ∧ va_D (fun _ => True) (WR a k h0 vi vj vF vG))) (va_Qi (fun (r : Int32) (u : (Nat → Int32) × (Nat → Int32) × (Nat → Int32) × (Nat → Int32) × (Nat → Int32) × (Nat → Int32) × (Nat → Int64) × (Nat → Int64) × (Nat → Int64) × (Int32) × (Int64) × (Nat → Int) × (Nat → Nat → Int) × (Int)) => (Bg (u.1) (u.2.2.2.2.2.2.2.2.2.2.2.1)) ∧ (Tab (u.2.2.2.2.2.2.2.2.2.1) C (R + Gq) (u.2.2.2.2.2.2.2.2.2.2.2.1) (u.2.2.2.2.2.2.2.1) (u.2.2.2.2.2.2.2.2.2.2.1) (u.2.2.2.2.2.2.2.2.2.2.2.2.1) (u.2.2.2.2.2.2.2.2.2.2.2.2.2)) ∧ (Sx C R (R + Gq) a_ (u.2.2.2.2.2.2.2.2.2.2.2.2.1) (u.2.2.2.2.2.2.2.2.2.2.2.2.2) (u.2.2.2.1) (u.2.2.2.2.1)) ∧ (∀ i, i < R → 0 ≤ (u.2.2.2.2.2.2.2.2.2.2.2.2.1) i C) ∧ (∀ q, (q < 20 ∨ (26 < q ∧ q < 30) ∨ 30 + (R + Gq) * (C + 1) ≤ q) → (u.2.2.2.2.2.2.2.2.2.2.2.1) q = mg q) ∧ ((r) = 0 ∨ (r) = 1)) (fun (u : (Nat → Int32) × (Nat → Int32) × (Nat → Int32) × (Nat → Int32) × (Nat → Int32) × (Nat → Int32) × (Nat → Int64) × (Nat → Int64) × (Nat → Int64) × (Int32) × (Int64) × (Nat → Int) × (Nat → Nat → Int) × (Int)) t => va_P (dC, dI) vwCl (WR a k h0 (fT vi 11 (u.2.2.2.2.2.2.2.2.2.1)) (fT vj 12 (u.2.2.2.2.2.2.2.2.2.2.1)) (fT (fT (fT (fT (fT (fT vF 0 (u.1)) 2 (u.2.1)) 3 (u.2.2.1)) 4 (u.2.2.2.1)) 5 (u.2.2.2.2.1)) 6 (u.2.2.2.2.2.1)) (fT (fT (fT vG 1 (u.2.2.2.2.2.2.1)) 7 (u.2.2.2.2.2.2.2.1)) 8 (u.2.2.2.2.2.2.2.2.1))) t.heap ∧ va_D (va_A (WR a k h0 vi vj vF vG) sz) (WR a k h0 (fT vi 11 (u.2.2.2.2.2.2.2.2.2.1)) (fT vj 12 (u.2.2.2.2.2.2.2.2.2.2.1)) (fT (fT (fT (fT (fT (fT vF 0 (u.1)) 2 (u.2.1)) 3 (u.2.2.1)) 4 (u.2.2.2.1)) 5 (u.2.2.2.2.1)) 6 (u.2.2.2.2.2.1)) (fT (fT (fT vG 1 (u.2.2.2.2.2.2.1)) 7 (u.2.2.2.2.2.2.2.1)) 8 (u.2.2.2.2.2.2.2.2.1)))) (va_A (WR a k h0 vi vj vF vG) sz)) 0 0 (va_A (WR a k h0 vi vj vF vG) sz) := by
  refine Met.ofW (cc := cX12_raise) (maxL := 4) (ret := (some .boolean)) (by decide) rfl ?_
  intro p e s m args below meth c s₁ B hml hv
  obtain ⟨rfl, hsz, hP, hK, hD0⟩ := hv
  have hx := B.exec
  have hb := B.bytes
  have hr := B.returns
  have hts := atoms_spec (ws := wsRX12_raise) B.pre
  have hown : s.vm.findClass RX12 = some m.cls := findClass_of_methodNamed B.named
  have hlocks := B.notSynchronized
  subst hsz
  have hD := hD0.self (sz := s.heap.size)
  generalize hAe : va_A (WR a k h0 vi vj vF vG) s.heap.size = A at hD ⊢
  have hA : ∀ q : Nat, s.heap.size ≤ q → A q := fun q h => by rw [← hAe]; exact Or.inr h
  have hS : va_S A s.heap s.heap [] := va_S.rf
  have hl := lv_entry ([.ref h0, .int (nI gn)]) (n := 4) (Nat.le_of_ble_eq_true rfl)
  rw [lg_entry_eq]
  generalize (lg_sl ([.ref h0, .int (nI gn)]) ++ List.replicate (4 - (lg_sl ([.ref h0, .int (nI gn)])).length) Slot.unset).toArray = ls at hl ⊢
  have hl : lv_has ls 4 [(0, .ref h0), (1, .int (nI gn))] := hl
  obtain ⟨N0, hN0⟩ := ends R (R + Gq) (C + 1) C gn (stS C (vF 6) (vF 4)) 200 (2 ^ 294) (t, D, rlF C R (vF 5), clF C (vF 4))
  refine lv_iconst (v := 0) hx hb dX12_raise_0 (by decide) ?_
  refine lv_istore_n hx hb dX12_raise_1 rfl hl (by decide) rfl (fun ls (hl : lv_has ls _ ([(2, .int 0), (0, .ref h0), (1, .int (nI gn))])) => ?_)
  have e9 : fT vi 11 (vi 11) = vi := by funext q9; by_cases h9_11 : q9 = 11; (subst h9_11; exact (fT_eq _ _ _).trans (Eq.trans (by first | rfl | assumption | (symm; assumption) | (subst_vars; rfl)) (Eq.refl _).symm)); exact (fT_ne _ _ h9_11).trans (Eq.refl _).symm
  have hP : va_P (dC, dI) vwCl (WR a k h0 (fT vi 11 (vi 11)) vj vF vG) s.heap := by rw [e9]; exact hP
  have hD : va_D A (WR a k h0 (fT vi 11 (vi 11)) vj vF vG) := by rw [e9]; exact hD
  clear e9
  have e9 : fT vj 12 (vj 12) = vj := by funext q9; by_cases h9_12 : q9 = 12; (subst h9_12; exact (fT_eq _ _ _).trans (Eq.trans (by first | rfl | assumption | (symm; assumption) | (subst_vars; rfl)) (Eq.refl _).symm)); exact (fT_ne _ _ h9_12).trans (Eq.refl _).symm
  have hP : va_P (dC, dI) vwCl (WR a k h0 (fT vi 11 (vi 11)) (fT vj 12 (vj 12)) vF vG) s.heap := by rw [e9]; exact hP
  have hD : va_D A (WR a k h0 (fT vi 11 (vi 11)) (fT vj 12 (vj 12)) vF vG) := by rw [e9]; exact hD
  clear e9
  have e9 : fT (fT (fT (fT (fT vF 0 (vF 0)) 2 (vF 2)) 3 (vF 3)) 4 (vF 4)) 5 (vF 5) = vF := by funext q9; by_cases h9_0 : q9 = 0; (subst h9_0; exact ((fT_ne _ _ (Nat.ne_of_beq_eq_false rfl)).trans ((fT_ne _ _ (Nat.ne_of_beq_eq_false rfl)).trans ((fT_ne _ _ (Nat.ne_of_beq_eq_false rfl)).trans ((fT_ne _ _ (Nat.ne_of_beq_eq_false rfl)).trans (fT_eq _ _ _))))).trans (Eq.trans (by first | rfl | assumption | (symm; assumption) | (subst_vars; rfl)) (Eq.refl _).symm)); by_cases h9_2 : q9 = 2; (subst h9_2; exact ((fT_ne _ _ (Nat.ne_of_beq_eq_false rfl)).trans ((fT_ne _ _ (Nat.ne_of_beq_eq_false rfl)).trans ((fT_ne _ _ (Nat.ne_of_beq_eq_false rfl)).trans (fT_eq _ _ _)))).trans (Eq.trans (by first | rfl | assumption | (symm; assumption) | (subst_vars; rfl)) (Eq.refl _).symm)); by_cases h9_3 : q9 = 3; (subst h9_3; exact ((fT_ne _ _ (Nat.ne_of_beq_eq_false rfl)).trans ((fT_ne _ _ (Nat.ne_of_beq_eq_false rfl)).trans (fT_eq _ _ _))).trans (Eq.trans (by first | rfl | assumption | (symm; assumption) | (subst_vars; rfl)) (Eq.refl _).symm)); by_cases h9_4 : q9 = 4; (subst h9_4; exact ((fT_ne _ _ (Nat.ne_of_beq_eq_false rfl)).trans (fT_eq _ _ _)).trans (Eq.trans (by first | rfl | assumption | (symm; assumption) | (subst_vars; rfl)) (Eq.refl _).symm)); by_cases h9_5 : q9 = 5; (subst h9_5; exact (fT_eq _ _ _).trans (Eq.trans (by first | rfl | assumption | (symm; assumption) | (subst_vars; rfl)) (Eq.refl _).symm)); exact ((fT_ne _ _ h9_5).trans ((fT_ne _ _ h9_4).trans ((fT_ne _ _ h9_3).trans ((fT_ne _ _ h9_2).trans (fT_ne _ _ h9_0))))).trans (Eq.refl _).symm
  have hP : va_P (dC, dI) vwCl (WR a k h0 (fT vi 11 (vi 11)) (fT vj 12 (vj 12)) (fT (fT (fT (fT (fT vF 0 (vF 0)) 2 (vF 2)) 3 (vF 3)) 4 (vF 4)) 5 (vF 5)) vG) s.heap := by rw [e9]; exact hP
  have hD : va_D A (WR a k h0 (fT vi 11 (vi 11)) (fT vj 12 (vj 12)) (fT (fT (fT (fT (fT vF 0 (vF 0)) 2 (vF 2)) 3 (vF 3)) 4 (vF 4)) 5 (vF 5)) vG) := by rw [e9]; exact hD
  clear e9
  have e9 : fT (fT (fT vG 1 (vG 1)) 7 (vG 7)) 8 (vG 8) = vG := by funext q9; by_cases h9_1 : q9 = 1; (subst h9_1; exact ((fT_ne _ _ (Nat.ne_of_beq_eq_false rfl)).trans ((fT_ne _ _ (Nat.ne_of_beq_eq_false rfl)).trans (fT_eq _ _ _))).trans (Eq.trans (by first | rfl | assumption | (symm; assumption) | (subst_vars; rfl)) (Eq.refl _).symm)); by_cases h9_7 : q9 = 7; (subst h9_7; exact ((fT_ne _ _ (Nat.ne_of_beq_eq_false rfl)).trans (fT_eq _ _ _)).trans (Eq.trans (by first | rfl | assumption | (symm; assumption) | (subst_vars; rfl)) (Eq.refl _).symm)); by_cases h9_8 : q9 = 8; (subst h9_8; exact (fT_eq _ _ _).trans (Eq.trans (by first | rfl | assumption | (symm; assumption) | (subst_vars; rfl)) (Eq.refl _).symm)); exact ((fT_ne _ _ h9_8).trans ((fT_ne _ _ h9_7).trans (fT_ne _ _ h9_1))).trans (Eq.refl _).symm
  have hP : va_P (dC, dI) vwCl (WR a k h0 (fT vi 11 (vi 11)) (fT vj 12 (vj 12)) (fT (fT (fT (fT (fT vF 0 (vF 0)) 2 (vF 2)) 3 (vF 3)) 4 (vF 4)) 5 (vF 5)) (fT (fT (fT vG 1 (vG 1)) 7 (vG 7)) 8 (vG 8))) s.heap := by rw [e9]; exact hP
  have hD : va_D A (WR a k h0 (fT vi 11 (vi 11)) (fT vj 12 (vj 12)) (fT (fT (fT (fT (fT vF 0 (vF 0)) 2 (vF 2)) 3 (vF 3)) 4 (vF 4)) 5 (vF 5)) (fT (fT (fT vG 1 (vG 1)) 7 (vG 7)) 8 (vG 8))) := by rw [e9]; exact hD
  clear e9
  have hl : lv_has _ _ ([(0, .ref h0), (1, .int (nI gn)), (2, .int 0)]) := lv_sub hl [1, 2, 0] rfl
  refine (fun (loop : ∀ (n9 : Nat) (cq : Int32) (t1 : Nat → Nat → Int) (D1 : Int) (g1 : Nat → Int32) (f21 : Nat → Int32) (f31 : Nat → Int32) (f41 : Nat → Int32) (f51 : Nat → Int32) (gs1 : Nat → Int64) (F1 : Nat → Int64) (L81 : Nat → Int64) (qk1 : Int32) (qd1 : Int64) (m1 : Nat → Int) (H : Heap) (locs : List Loc) (ls : Array Slot), (Bg g1 m1) → (Tab qk1 C (R + Gq) m1 F1 qd1 t1 D1) → (Sx C R (R + Gq) a_ t1 D1 f41 f51) → (∀ i, i < R → 0 ≤ t1 i C) → (∀ k, k < C → vF 6 k ≠ 0 → f41 k = vF 4 k) → (∀ q, (q < 20 ∨ (26 < q ∧ q < 30) ∨ 30 + (R + Gq) * (C + 1) ≤ q) → m1 q = mg q) →  (∃ N, Ends R (R + Gq) (C + 1) C gn (stS C (vF 6) (vF 4)) 200 (2 ^ 294) N (t1, D1, rlF C R f51, clF C f41) ∧ ((cq = -1 ∧ 0 < n9) ∨ N + 1 < n9)) → va_P (dC, dI) vwCl (WR a k h0 (fT vi 11 qk1) (fT vj 12 qd1) (fT (fT (fT (fT (fT vF 0 g1) 2 f21) 3 f31) 4 f41) 5 f51) (fT (fT (fT vG 1 gs1) 7 F1) 8 L81)) H → va_D A (WR a k h0 (fT vi 11 qk1) (fT vj 12 qd1) (fT (fT (fT (fT (fT vF 0 g1) 2 f21) 3 f31) 4 f41) 5 f51) (fT (fT (fT vG 1 gs1) 7 F1) 8 L81)) → va_S A s.heap H locs → lv_has ls 4 [(0, .ref h0), (1, .int (nI gn)), (2, .int cq)] → W p l e _ s m _ below meth c H locs 0 0 _ (F0 m 2 ls [])) => loop (N0 + 2) 0 t D (vF 0) (vF 2) (vF 3) (vF 4) (vF 5) (vG 1) (vG 7) (vG 8) (vi 11) (vj 12) mg _ _ _ (hBg) (hT) (hSx) (hG0) (fun k _ _ => rfl) (fun q _ => rfl) (⟨N0, hN0, Or.inr (by omega)⟩) hP hD hS hl) ?_
  intro n9
  induction n9 with
  | zero => intro cq t1 D1 g1 f21 f31 f41 f51 gs1 F1 L81 qk1 qd1 m1 H locs ls hB1 hT1 hS1 hG1 hst ho hf9; exact False.elim (by obtain ⟨N, h1, h2⟩ := hf9; omega)
  | succ n9 ih2 =>
    intro cq t1 D1 g1 f21 f31 f41 f51 gs1 F1 L81 qk1 qd1 m1 H locs ls hB1 hT1 hS1 hG1 hst ho hf2 hP hD hS hl
    obtain ⟨N, hE, hN⟩ := hf2
    refine lv_iload_n hx hb dX12_raise_2 rfl (lv_at hl 2 rfl) ?_
    refine lv_iconst (v := (-1)) hx hb dX12_raise_3 (by decide) ?_
    refine lv_icmp_eq (tgt := 95) hx hb dX12_raise_4 (by decide) (fun c_4 => ?_) (fun c_4 => ?_)
    · have t_4 : (cq).toInt = -1 := toI_eq c_4 rfl (by decide)
      refine lv_iconst (v := 0) hx hb dX12_raise_95 (by decide) ?_
      refine lv_istore_n hx hb dX12_raise_96 rfl hl (by decide) rfl (fun ls (hl : lv_has ls _ ([(3, .int 0), (0, .ref h0), (1, .int (nI gn)), (2, .int cq)])) => ?_)
      have e9 : fT (fT (fT (fT (fT (fT vF 0 g1) 2 f21) 3 f31) 4 f41) 5 f51) 6 (vF 6) = fT (fT (fT (fT (fT vF 0 g1) 2 f21) 3 f31) 4 f41) 5 f51 := by funext q9; by_cases h9_0 : q9 = 0; (subst h9_0; exact ((fT_ne _ _ (Nat.ne_of_beq_eq_false rfl)).trans ((fT_ne _ _ (Nat.ne_of_beq_eq_false rfl)).trans ((fT_ne _ _ (Nat.ne_of_beq_eq_false rfl)).trans ((fT_ne _ _ (Nat.ne_of_beq_eq_false rfl)).trans ((fT_ne _ _ (Nat.ne_of_beq_eq_false rfl)).trans (fT_eq _ _ _)))))).trans (Eq.trans (by first | rfl | assumption | (symm; assumption) | (subst_vars; rfl)) ((fT_ne _ _ (Nat.ne_of_beq_eq_false rfl)).trans ((fT_ne _ _ (Nat.ne_of_beq_eq_false rfl)).trans ((fT_ne _ _ (Nat.ne_of_beq_eq_false rfl)).trans ((fT_ne _ _ (Nat.ne_of_beq_eq_false rfl)).trans (fT_eq _ _ _))))).symm)); by_cases h9_2 : q9 = 2; (subst h9_2; exact ((fT_ne _ _ (Nat.ne_of_beq_eq_false rfl)).trans ((fT_ne _ _ (Nat.ne_of_beq_eq_false rfl)).trans ((fT_ne _ _ (Nat.ne_of_beq_eq_false rfl)).trans ((fT_ne _ _ (Nat.ne_of_beq_eq_false rfl)).trans (fT_eq _ _ _))))).trans (Eq.trans (by first | rfl | assumption | (symm; assumption) | (subst_vars; rfl)) ((fT_ne _ _ (Nat.ne_of_beq_eq_false rfl)).trans ((fT_ne _ _ (Nat.ne_of_beq_eq_false rfl)).trans ((fT_ne _ _ (Nat.ne_of_beq_eq_false rfl)).trans (fT_eq _ _ _)))).symm)); by_cases h9_3 : q9 = 3; (subst h9_3; exact ((fT_ne _ _ (Nat.ne_of_beq_eq_false rfl)).trans ((fT_ne _ _ (Nat.ne_of_beq_eq_false rfl)).trans ((fT_ne _ _ (Nat.ne_of_beq_eq_false rfl)).trans (fT_eq _ _ _)))).trans (Eq.trans (by first | rfl | assumption | (symm; assumption) | (subst_vars; rfl)) ((fT_ne _ _ (Nat.ne_of_beq_eq_false rfl)).trans ((fT_ne _ _ (Nat.ne_of_beq_eq_false rfl)).trans (fT_eq _ _ _))).symm)); by_cases h9_4 : q9 = 4; (subst h9_4; exact ((fT_ne _ _ (Nat.ne_of_beq_eq_false rfl)).trans ((fT_ne _ _ (Nat.ne_of_beq_eq_false rfl)).trans (fT_eq _ _ _))).trans (Eq.trans (by first | rfl | assumption | (symm; assumption) | (subst_vars; rfl)) ((fT_ne _ _ (Nat.ne_of_beq_eq_false rfl)).trans (fT_eq _ _ _)).symm)); by_cases h9_5 : q9 = 5; (subst h9_5; exact ((fT_ne _ _ (Nat.ne_of_beq_eq_false rfl)).trans (fT_eq _ _ _)).trans (Eq.trans (by first | rfl | assumption | (symm; assumption) | (subst_vars; rfl)) (fT_eq _ _ _).symm)); by_cases h9_6 : q9 = 6; (subst h9_6; exact (fT_eq _ _ _).trans (Eq.trans (by first | rfl | assumption | (symm; assumption) | (subst_vars; rfl)) ((fT_ne _ _ (Nat.ne_of_beq_eq_false rfl)).trans ((fT_ne _ _ (Nat.ne_of_beq_eq_false rfl)).trans ((fT_ne _ _ (Nat.ne_of_beq_eq_false rfl)).trans ((fT_ne _ _ (Nat.ne_of_beq_eq_false rfl)).trans (fT_ne _ _ (Nat.ne_of_beq_eq_false rfl)))))).symm)); exact ((fT_ne _ _ h9_6).trans ((fT_ne _ _ h9_5).trans ((fT_ne _ _ h9_4).trans ((fT_ne _ _ h9_3).trans ((fT_ne _ _ h9_2).trans (fT_ne _ _ h9_0)))))).trans ((fT_ne _ _ h9_5).trans ((fT_ne _ _ h9_4).trans ((fT_ne _ _ h9_3).trans ((fT_ne _ _ h9_2).trans (fT_ne _ _ h9_0))))).symm
      have hP : va_P (dC, dI) vwCl (WR a k h0 (fT vi 11 qk1) (fT vj 12 qd1) (fT (fT (fT (fT (fT (fT vF 0 g1) 2 f21) 3 f31) 4 f41) 5 f51) 6 (vF 6)) (fT (fT (fT vG 1 gs1) 7 F1) 8 L81)) H := by rw [e9]; exact hP
      have hD : va_D A (WR a k h0 (fT vi 11 qk1) (fT vj 12 qd1) (fT (fT (fT (fT (fT (fT vF 0 g1) 2 f21) 3 f31) 4 f41) 5 f51) 6 (vF 6)) (fT (fT (fT vG 1 gs1) 7 F1) 8 L81)) := by rw [e9]; exact hD
      clear e9
      have hl : lv_has _ _ ([(0, .ref h0), (1, .int (nI gn)), (3, .int (nI 0))]) := lv_sub hl [1, 2, 0] rfl
      refine (fun (loop : ∀ (n9 : Nat) (k6 : Nat) (f61 : Nat → Int32) (H : Heap) (locs : List Loc) (ls : Array Slot), (k6 ≤ C) →  (C < k6 + n9) → va_P (dC, dI) vwCl (WR a k h0 (fT vi 11 qk1) (fT vj 12 qd1) (fT (fT (fT (fT (fT (fT vF 0 g1) 2 f21) 3 f31) 4 f41) 5 f51) 6 f61) (fT (fT (fT vG 1 gs1) 7 F1) 8 L81)) H → va_D A (WR a k h0 (fT vi 11 qk1) (fT vj 12 qd1) (fT (fT (fT (fT (fT (fT vF 0 g1) 2 f21) 3 f31) 4 f41) 5 f51) 6 f61) (fT (fT (fT vG 1 gs1) 7 F1) 8 L81)) → va_S A s.heap H locs → lv_has ls 4 [(0, .ref h0), (1, .int (nI gn)), (3, .int (nI k6))] → W p l e _ s m _ below meth c H locs 0 0 _ (F0 m 97 ls [])) => loop (C + 1) 0 (vF 6) _ _ _ (by omega) (by omega) hP hD hS hl) ?_
      intro n9
      induction n9 with
      | zero => intro k6 f61 H locs ls hk6 hf9; exact False.elim (by omega)
      | succ n9 ih97_1 =>
        intro k6 f61 H locs ls hk6 hf97_1 hP hD hS hl
        refine lv_iload_n hx hb dX12_raise_97 rfl (lv_at hl 2 rfl) ?_
        refine lv_aload_n hx hb dX12_raise_98 rfl (lv_at hl 0 rfl) ?_
        refine va_get (D := (dC, dI)) (ci := 12) (v := .int (vi 5)) (C := RX12) (T := TX12) (N := 163) (fs := fM (vS a (fT vi 11 qk1) (fT vj 12 qd1))) hx hb hts iwsRX12_raise_in12 hown hK hP 0 rfl rfl 5 (by decide) (hts (.fieldLink RX12 396 "OptimaWorksModel" "columns" "I") (by decide +kernel)) (fun _ h9 => h9) rfl dX12_raise_99 ?_
        refine lv_topi (fun y1 hy1 => ?_)
        obtain rfl : (nI C) = y1 := (hy1.trans (hC)).symm
        refine lv_icmp_ge (tgt := 140) hx hb dX12_raise_102 (by decide) (fun c_102 => ?_) (fun c_102 => ?_)
        · have t_102 : ((k6 : Nat) : Int) ≥ ((C : Nat) : Int) := toI_ge c_102 (nI_toInt (by omega)) (nI_toInt (by omega))
          refine lv_iconst (v := 1) hx hb dX12_raise_140 (by decide) ?_
          refine W.widen (k := 0) (n := 0) (by decide +kernel) (by decide +kernel) ?_
          exact W.zret (v := 1) hx hb hr rfl (fun t9_ ht hW => ⟨⟨1, (g1, f21, f31, f41, f51, f61, gs1, F1, L81, qk1, qd1, m1, t1, D1), rfl, by (try dsimp only); exact ⟨hB1, hT1, hS1, hG1, ho, Or.inr rfl⟩, by rw [ht]; exact hP, hD⟩, hS.F ht⟩) hS.2.2 dX12_raise_141
        · have t_102 : ¬ ((k6 : Nat) : Int) ≥ ((C : Nat) : Int) := toI_nge c_102 (nI_toInt (by omega)) (nI_toInt (by omega))
          refine lv_aload_n hx hb dX12_raise_105 rfl (lv_at hl 0 rfl) ?_
          refine va_get (D := (dC, dI)) (ci := 12) (v := .ref (a 6)) (C := RX12) (T := TX12) (N := 163) (fs := fM (vS a (fT vi 11 qk1) (fT vj 12 qd1))) hx hb hts iwsRX12_raise_in12 hown hK hP 0 rfl rfl 10 (by decide) (hts (.fieldLink RX12 29 "OptimaWorksModel" "still" "[Z") (by decide +kernel)) (fun _ h9 => h9) rfl dX12_raise_106 ?_
          refine lv_iload_n hx hb dX12_raise_109 rfl (lv_at hl 2 rfl) ?_
          refine lv_aload_n hx hb dX12_raise_110 rfl (lv_at hl 0 rfl) ?_
          refine va_get (D := (dC, dI)) (ci := 12) (v := .ref (a 6)) (C := RX12) (T := TX12) (N := 163) (fs := fM (vS a (fT vi 11 qk1) (fT vj 12 qd1))) hx hb hts iwsRX12_raise_in12 hown hK hP 0 rfl rfl 10 (by decide) (hts (.fieldLink RX12 29 "OptimaWorksModel" "still" "[Z") (by decide +kernel)) (fun _ h9 => h9) rfl dX12_raise_111 ?_
          refine lv_iload_n hx hb dX12_raise_114 rfl (lv_at hl 2 rfl) ?_
          refine va_zald (cA := k 6) (n := 46) (f := f61) hx hb hK hP 7 6 (WR_get 6 (by decide)) (TR_get 6 (by decide)) (vp_in_nI (show k6 < 46 by omega) (by omega)) dX12_raise_115 ?_
          refine lv_topi (fun y2 hy2 => ?_)
          obtain rfl : (f61 k6) = y2 := (hy2.trans (by rw [nI_clamp (by omega)])).symm
          refine lv_if_ne (tgt := 128) hx hb dX12_raise_116 (by decide) (fun c_116 => ?_) (fun c_116 => ?_)
          · have t_116 : ((f61 k6)).toInt ≠ 0 := toI_ne c_116 rfl (by decide)
            refine lv_iconst (v := 1) hx hb dX12_raise_128 (by decide) ?_
            refine lv_goto (tgt := 133) hx hb dX12_raise_129 (by decide) ?_
            refine va_zast (cA := k 6) (n := 46) (f := f61) hx hb hK hP hD hS 7 6 (WR_get 6 (by decide)) (TR_get 6 (by decide)) (vp_in_nI (show k6 < 46 by omega) (by omega)) dX12_raise_133 (fun H locs hP hD hS => ?_)
            have e9 : fT (fT (fT (fT (fT (fT vF 0 g1) 2 f21) 3 f31) 4 f41) 5 f51) 6 (upd f61 ((nI k6)).toNatClampNeg (vp_nar FieldType.boolean 1)) = fT (fT (fT (fT (fT (fT (fT vF 0 g1) 2 f21) 3 f31) 4 f41) 5 f51) 6 f61) 6 (upd f61 ((nI k6)).toNatClampNeg (vp_nar FieldType.boolean 1)) := (fT_sm _ _ _ _).symm
            have hP : va_P (dC, dI) vwCl (WR a k h0 (fT vi 11 qk1) (fT vj 12 qd1) (fT (fT (fT (fT (fT (fT vF 0 g1) 2 f21) 3 f31) 4 f41) 5 f51) 6 (upd f61 ((nI k6)).toNatClampNeg (vp_nar FieldType.boolean 1))) (fT (fT (fT vG 1 gs1) 7 F1) 8 L81)) H := by rw [e9, ← WR_F 6 (by decide) _ rfl]; exact hP
            have hD : va_D A (WR a k h0 (fT vi 11 qk1) (fT vj 12 qd1) (fT (fT (fT (fT (fT (fT vF 0 g1) 2 f21) 3 f31) 4 f41) 5 f51) 6 (upd f61 ((nI k6)).toNatClampNeg (vp_nar FieldType.boolean 1))) (fT (fT (fT vG 1 gs1) 7 F1) 8 L81)) := by rw [e9, ← WR_F 6 (by decide) _ rfl]; exact hD
            clear e9
            refine lv_iinc (v := (nI (k6 + 1))) hx hb dX12_raise_134 hl (k := 2) rfl (nI_add k6 1) (by decide) rfl (fun ls (hl : lv_has ls _ ([(3, .int (nI (k6 + 1))), (0, .ref h0), (1, .int (nI gn))])) => ?_)
            refine lv_goto (tgt := 97) hx hb dX12_raise_137 (by decide) ?_
            have hl : lv_has _ _ ([(0, .ref h0), (1, .int (nI gn)), (3, .int (nI (k6 + 1)))]) := lv_sub hl [1, 2, 0] rfl
            exact ih97_1 (k6 + 1) (upd f61 ((nI k6)).toNatClampNeg (vp_nar FieldType.boolean 1)) _ _ _ (by omega) (by omega) hP hD hS hl
          · have t_116 : ((f61 k6)).toInt = 0 := toI_nne c_116 rfl (by decide)
            refine lv_aload_n hx hb dX12_raise_119 rfl (lv_at hl 0 rfl) ?_
            refine lv_iload_n hx hb dX12_raise_120 rfl (lv_at hl 1 rfl) ?_
            refine lv_iload_n hx hb dX12_raise_121 rfl (lv_at hl 2 rfl) ?_
            have hFc := allFree hD hS hA
            refine va_calli (va_runV (As := [.int (nI gn), .int (nI k6)]) (rest := [.int (nI k6), .ref (a 6)]) ⟨hx, hb, hml, hown, hts⟩ (r_X12_signAt l dC dI a k h0 (fT vi 11 qk1) (fT vj 12 qd1) (fT (fT (fT (fT (fT (fT vF 0 g1) 2 f21) 3 f31) 4 f41) 5 f51) 6 f61) (fT (fT (fT vG 1 gs1) 7 F1) 8 L81) gn k6 C (R + Gq) t1 D1 m1 hB1 (by first | assumption | decide | omega | rfl) (hT1) (by first | assumption | decide | omega | rfl) (by first | assumption | decide | omega | rfl) (by first | assumption | decide | omega | rfl) (by first | assumption | decide | omega | rfl) (by first | assumption | decide | omega | rfl) H.size) (cwV 2 hts gwsRX12_raise_0 rfl rfl rfl (by decide +kernel) ⟨by decide +kernel, by decide +kernel⟩) ⟨fun a U g mk q => by obtain ⟨q0, q1, qP, qK, qD⟩ := q; exact ⟨q0, q1, qP, va_K.moved (u := U) (U := U.calling g mk a) (Vm.Alike.refl U.vm) qK, qD⟩, va_recv hK hP (ci := 12) (q0 := 0) rfl rfl, fun U hU9 hW => ⟨rfl, by rw [hU9], by rw [hU9]; exact hP, va_K.moved hW.alike hK, hD.weaken (fun _ _ _ _ => trivial)⟩⟩ rfl rfl hl.1 rfl (lv_room (Nat.le_of_ble_eq_true rfl)) dX12_raise_122 ⟨by decide +kernel, by decide +kernel⟩) hS (fun q _ h => hFc q h) hFc (fun r122 u t9_ H1 locs ht hvm hw9 hB9 hz1 hk1 hS => ?_)
            obtain ⟨hP1, hD1⟩ := hB9
            rw [ht] at hP1
            have hP := hP1
            have hD := hD1.weaken (fun _ q _ h => hFc q.1 h)
            generalize H1 = H at hP hS ⊢
            have hP : va_P (dC, dI) vwCl (WR a k h0 (fT vi 11 qk1) (fT vj 12 qd1) (fT (fT (fT (fT (fT (fT vF 0 g1) 2 f21) 3 f31) 4 f41) 5 f51) 6 f61) (fT (fT (fT vG 1 gs1) 7 F1) 8 L81)) H := hP
            have hD : va_D A (WR a k h0 (fT vi 11 qk1) (fT vj 12 qd1) (fT (fT (fT (fT (fT (fT vF 0 g1) 2 f21) 3 f31) 4 f41) 5 f51) 6 f61) (fT (fT (fT vG 1 gs1) 7 F1) 8 L81)) := hD
            have f122_0 := hw9
            try dsimp only at f122_0
            refine lv_if_le (tgt := 132) hx hb dX12_raise_125 (by decide) (fun c_125 => ?_) (fun c_125 => ?_)
            · have t_125 : (r122).toInt ≤ 0 := toI_le c_125 rfl (by decide)
              refine lv_iconst (v := 0) hx hb dX12_raise_132 (by decide) ?_
              refine va_zast (cA := k 6) (n := 46) (f := f61) hx hb hK hP hD hS 7 6 (WR_get 6 (by decide)) (TR_get 6 (by decide)) (vp_in_nI (show k6 < 46 by omega) (by omega)) dX12_raise_133 (fun H locs hP hD hS => ?_)
              have e9 : fT (fT (fT (fT (fT (fT vF 0 g1) 2 f21) 3 f31) 4 f41) 5 f51) 6 (upd f61 ((nI k6)).toNatClampNeg (vp_nar FieldType.boolean 0)) = fT (fT (fT (fT (fT (fT (fT vF 0 g1) 2 f21) 3 f31) 4 f41) 5 f51) 6 f61) 6 (upd f61 ((nI k6)).toNatClampNeg (vp_nar FieldType.boolean 0)) := (fT_sm _ _ _ _).symm
              have hP : va_P (dC, dI) vwCl (WR a k h0 (fT vi 11 qk1) (fT vj 12 qd1) (fT (fT (fT (fT (fT (fT vF 0 g1) 2 f21) 3 f31) 4 f41) 5 f51) 6 (upd f61 ((nI k6)).toNatClampNeg (vp_nar FieldType.boolean 0))) (fT (fT (fT vG 1 gs1) 7 F1) 8 L81)) H := by rw [e9, ← WR_F 6 (by decide) _ rfl]; exact hP
              have hD : va_D A (WR a k h0 (fT vi 11 qk1) (fT vj 12 qd1) (fT (fT (fT (fT (fT (fT vF 0 g1) 2 f21) 3 f31) 4 f41) 5 f51) 6 (upd f61 ((nI k6)).toNatClampNeg (vp_nar FieldType.boolean 0))) (fT (fT (fT vG 1 gs1) 7 F1) 8 L81)) := by rw [e9, ← WR_F 6 (by decide) _ rfl]; exact hD
              clear e9
              refine lv_iinc (v := (nI (k6 + 1))) hx hb dX12_raise_134 hl (k := 2) rfl (nI_add k6 1) (by decide) rfl (fun ls (hl : lv_has ls _ ([(3, .int (nI (k6 + 1))), (0, .ref h0), (1, .int (nI gn))])) => ?_)
              refine lv_goto (tgt := 97) hx hb dX12_raise_137 (by decide) ?_
              have hl : lv_has _ _ ([(0, .ref h0), (1, .int (nI gn)), (3, .int (nI (k6 + 1)))]) := lv_sub hl [1, 2, 0] rfl
              exact ih97_1 (k6 + 1) (upd f61 ((nI k6)).toNatClampNeg (vp_nar FieldType.boolean 0)) _ _ _ (by omega) (by omega) hP hD hS hl
            · have t_125 : ¬ (r122).toInt ≤ 0 := toI_nle c_125 rfl (by decide)
              refine lv_iconst (v := 1) hx hb dX12_raise_128 (by decide) ?_
              refine lv_goto (tgt := 133) hx hb dX12_raise_129 (by decide) ?_
              refine va_zast (cA := k 6) (n := 46) (f := f61) hx hb hK hP hD hS 7 6 (WR_get 6 (by decide)) (TR_get 6 (by decide)) (vp_in_nI (show k6 < 46 by omega) (by omega)) dX12_raise_133 (fun H locs hP hD hS => ?_)
              have e9 : fT (fT (fT (fT (fT (fT vF 0 g1) 2 f21) 3 f31) 4 f41) 5 f51) 6 (upd f61 ((nI k6)).toNatClampNeg (vp_nar FieldType.boolean 1)) = fT (fT (fT (fT (fT (fT (fT vF 0 g1) 2 f21) 3 f31) 4 f41) 5 f51) 6 f61) 6 (upd f61 ((nI k6)).toNatClampNeg (vp_nar FieldType.boolean 1)) := (fT_sm _ _ _ _).symm
              have hP : va_P (dC, dI) vwCl (WR a k h0 (fT vi 11 qk1) (fT vj 12 qd1) (fT (fT (fT (fT (fT (fT vF 0 g1) 2 f21) 3 f31) 4 f41) 5 f51) 6 (upd f61 ((nI k6)).toNatClampNeg (vp_nar FieldType.boolean 1))) (fT (fT (fT vG 1 gs1) 7 F1) 8 L81)) H := by rw [e9, ← WR_F 6 (by decide) _ rfl]; exact hP
              have hD : va_D A (WR a k h0 (fT vi 11 qk1) (fT vj 12 qd1) (fT (fT (fT (fT (fT (fT vF 0 g1) 2 f21) 3 f31) 4 f41) 5 f51) 6 (upd f61 ((nI k6)).toNatClampNeg (vp_nar FieldType.boolean 1))) (fT (fT (fT vG 1 gs1) 7 F1) 8 L81)) := by rw [e9, ← WR_F 6 (by decide) _ rfl]; exact hD
              clear e9
              refine lv_iinc (v := (nI (k6 + 1))) hx hb dX12_raise_134 hl (k := 2) rfl (nI_add k6 1) (by decide) rfl (fun ls (hl : lv_has ls _ ([(3, .int (nI (k6 + 1))), (0, .ref h0), (1, .int (nI gn))])) => ?_)
              refine lv_goto (tgt := 97) hx hb dX12_raise_137 (by decide) ?_
              have hl : lv_has _ _ ([(0, .ref h0), (1, .int (nI gn)), (3, .int (nI (k6 + 1)))]) := lv_sub hl [1, 2, 0] rfl
              exact ih97_1 (k6 + 1) (upd f61 ((nI k6)).toNatClampNeg (vp_nar FieldType.boolean 1)) _ _ _ (by omega) (by omega) hP hD hS hl
    · have t_4 : ¬ (cq).toInt = -1 := toI_neq c_4 rfl (by decide)
      refine lv_iconst (v := (-1)) hx hb dX12_raise_7 (by decide) ?_
      refine lv_istore_n hx hb dX12_raise_8 rfl hl (by decide) rfl (fun ls (hl : lv_has ls _ ([(2, .int (-1)), (0, .ref h0), (1, .int (nI gn))])) => ?_)
      refine lv_iconst (v := 0) hx hb dX12_raise_9 (by decide) ?_
      refine lv_istore_n hx hb dX12_raise_10 rfl hl (by decide) rfl (fun ls (hl : lv_has ls _ ([(3, .int 0), (2, .int (-1)), (0, .ref h0), (1, .int (nI gn))])) => ?_)
      have hl : lv_has _ _ ([(0, .ref h0), (1, .int (nI gn)), (2, .int (-1)), (3, .int (nI 0))]) := lv_sub hl [2, 3, 1, 0] rfl
      refine (fun (loop : ∀ (n9 : Nat) (k5 : Nat) (cq2 : Int32) (cb : Nat) (H : Heap) (locs : List Loc) (ls : Array Slot), (k5 ≤ C) → ((cq2 = -1 ∧ ∀ k2, k2 < k5 → vF 6 k2 = 0 → 0 ≤ t1 gn k2) ∨ (cq2 = nI cb ∧ cb < k5 ∧ vF 6 cb = 0 ∧ t1 gn cb < 0 ∧ ∀ k2, k2 < k5 → vF 6 k2 = 0 → t1 gn k2 < 0 → (f41 cb).toNatClampNeg ≤ (f41 k2).toNatClampNeg)) →  (C < k5 + n9) → va_P (dC, dI) vwCl (WR a k h0 (fT vi 11 qk1) (fT vj 12 qd1) (fT (fT (fT (fT (fT vF 0 g1) 2 f21) 3 f31) 4 f41) 5 f51) (fT (fT (fT vG 1 gs1) 7 F1) 8 L81)) H → va_D A (WR a k h0 (fT vi 11 qk1) (fT vj 12 qd1) (fT (fT (fT (fT (fT vF 0 g1) 2 f21) 3 f31) 4 f41) 5 f51) (fT (fT (fT vG 1 gs1) 7 F1) 8 L81)) → va_S A s.heap H locs → lv_has ls 4 [(0, .ref h0), (1, .int (nI gn)), (2, .int cq2), (3, .int (nI k5))] → W p l e _ s m _ below meth c H locs 0 0 _ (F0 m 11 ls [])) => loop (C + 1) 0 (-1) 0 _ _ _ (by omega) (Or.inl ⟨rfl, fun k2 h2 => absurd h2 (by omega)⟩) (by omega) hP hD hS hl) ?_
      intro n9
      induction n9 with
      | zero => intro k5 cq2 cb H locs ls hk5 hc hf9; exact False.elim (by omega)
      | succ n9 ih11_2 =>
        intro k5 cq2 cb H locs ls hk5 hc hf11_2 hP hD hS hl
        refine lv_iload_n hx hb dX12_raise_11 rfl (lv_at hl 3 rfl) ?_
        refine lv_aload_n hx hb dX12_raise_12 rfl (lv_at hl 0 rfl) ?_
        refine va_get (D := (dC, dI)) (ci := 12) (v := .int (vi 5)) (C := RX12) (T := TX12) (N := 163) (fs := fM (vS a (fT vi 11 qk1) (fT vj 12 qd1))) hx hb hts iwsRX12_raise_in12 hown hK hP 0 rfl rfl 5 (by decide) (hts (.fieldLink RX12 396 "OptimaWorksModel" "columns" "I") (by decide +kernel)) (fun _ h9 => h9) rfl dX12_raise_13 ?_
        refine lv_topi (fun y3 hy3 => ?_)
        obtain rfl : (nI C) = y3 := (hy3.trans (hC)).symm
        refine lv_icmp_ge (tgt := 65) hx hb dX12_raise_16 (by decide) (fun c_16 => ?_) (fun c_16 => ?_)
        · have t_16 : ((k5 : Nat) : Int) ≥ ((C : Nat) : Int) := toI_ge c_16 (nI_toInt (by omega)) (nI_toInt (by omega))
          refine lv_iload_n hx hb dX12_raise_65 rfl (lv_at hl 2 rfl) ?_
          refine lv_iconst (v := (-1)) hx hb dX12_raise_66 (by decide) ?_
          refine lv_icmp_ne (tgt := 73) hx hb dX12_raise_67 (by decide) (fun c_67 => ?_) (fun c_67 => ?_)
          · have t_67 : (cq2).toInt ≠ -1 := toI_ne c_67 rfl (by decide)
            have ek5 : k5 = C := by omega
            obtain ⟨h1c, h2c, h3c, h4c, h5c⟩ := hc.resolve_left (fun h => c_67 h.1)
            subst h1c
            refine lv_aload_n hx hb dX12_raise_73 rfl (lv_at hl 0 rfl) ?_
            refine lv_iload_n hx hb dX12_raise_74 rfl (lv_at hl 2 rfl) ?_
            have hFc := allFree hD hS hA
            refine va_calli (va_runV (As := [.int (nI cb)]) (rest := []) ⟨hx, hb, hml, hown, hts⟩ (r_X12_leaving l dC dI a k h0 (fT vi 11 qk1) (fT vj 12 qd1) (fT (fT (fT (fT (fT vF 0 g1) 2 f21) 3 f31) 4 f41) 5 f51) (fT (fT (fT vG 1 gs1) 7 F1) 8 L81) cb (fun i => (f51 i).toNatClampNeg) C R Gq t1 D1 m1 hB1 (by first | assumption | decide | omega | rfl) (by first | assumption | decide | omega | rfl) (by first | assumption | decide | omega | rfl) (by first | assumption | decide | omega | rfl) (by first | assumption | decide | omega | rfl) (by first | assumption | decide | omega | rfl) (hT1) (by first | assumption | decide | omega | rfl) ((hsm _ _ _ _ hS1.1).2) (fun i hi => ⟨by have h9 := (hS1.r5 (by omega) (by omega) hi).2; show (f51 i).toNatClampNeg < 200; omega, (hS1.r5 (by omega) (by omega) hi).1⟩) H.size) (cwV 1 hts gwsRX12_raise_1 rfl rfl rfl (by decide +kernel) ⟨by decide +kernel, by decide +kernel⟩) ⟨fun a U g mk q => by obtain ⟨q0, q1, qP, qK, qD⟩ := q; exact ⟨q0, q1, qP, va_K.moved (u := U) (U := U.calling g mk a) (Vm.Alike.refl U.vm) qK, qD⟩, va_recv hK hP (ci := 12) (q0 := 0) rfl rfl, fun U hU9 hW => ⟨rfl, by rw [hU9], by rw [hU9]; exact hP, va_K.moved hW.alike hK, hD.weaken (fun _ _ _ _ => trivial)⟩⟩ rfl rfl hl.1 rfl (lv_room (Nat.le_of_ble_eq_true rfl)) dX12_raise_75 ⟨by decide +kernel, by decide +kernel⟩) hS (fun q _ h => hFc q h) hFc (fun r75 u t9_ H1 locs ht hvm hw9 hB9 hz1 hk1 hS => ?_)
            obtain ⟨g75, gs75, m275, b75⟩ := u
            try dsimp only at hw9 hB9
            obtain ⟨hP1, hD1⟩ := hB9
            rw [ht] at hP1
            have hP := hP1
            have hD := hD1.weaken (fun _ q _ h => hFc q.1 h)
            generalize H1 = H at hP hS ⊢
            have hP : va_P (dC, dI) vwCl (WR a k h0 (fT vi 11 qk1) (fT vj 12 qd1) (fT (fT (fT (fT (fT (fT vF 0 g1) 2 f21) 3 f31) 4 f41) 5 f51) 0 g75) (fT (fT (fT (fT vG 1 gs1) 7 F1) 8 L81) 1 gs75)) H := hP
            have hD : va_D A (WR a k h0 (fT vi 11 qk1) (fT vj 12 qd1) (fT (fT (fT (fT (fT (fT vF 0 g1) 2 f21) 3 f31) 4 f41) 5 f51) 0 g75) (fT (fT (fT (fT vG 1 gs1) 7 F1) 8 L81) 1 gs75)) := hD
            have e9 : fT (fT (fT (fT (fT vF 0 g75) 2 f21) 3 f31) 4 f41) 5 f51 = fT (fT (fT (fT (fT (fT vF 0 g1) 2 f21) 3 f31) 4 f41) 5 f51) 0 g75 := ((fT_sw _ _ _ (Nat.ne_of_beq_eq_false rfl)).trans (congrArg (fun g9 => fT g9 5 f51) ((fT_sw _ _ _ (Nat.ne_of_beq_eq_false rfl)).trans (congrArg (fun g9 => fT g9 4 f41) ((fT_sw _ _ _ (Nat.ne_of_beq_eq_false rfl)).trans (congrArg (fun g9 => fT g9 3 f31) ((fT_sw _ _ _ (Nat.ne_of_beq_eq_false rfl)).trans (congrArg (fun g9 => fT g9 2 f21) (fT_sm _ _ _ _))))))))).symm
            rw [← e9] at hP hD
            clear e9
            have e9 : fT (fT (fT vG 1 gs75) 7 F1) 8 L81 = fT (fT (fT (fT vG 1 gs1) 7 F1) 8 L81) 1 gs75 := ((fT_sw _ _ _ (Nat.ne_of_beq_eq_false rfl)).trans (congrArg (fun g9 => fT g9 8 L81) ((fT_sw _ _ _ (Nat.ne_of_beq_eq_false rfl)).trans (congrArg (fun g9 => fT g9 7 F1) (fT_sm _ _ _ _))))).symm
            rw [← e9] at hP hD
            clear e9
            have hP : va_P (dC, dI) vwCl (WR a k h0 (fT vi 11 qk1) (fT vj 12 qd1) (fT (fT (fT (fT (fT vF 0 g75) 2 f21) 3 f31) 4 f41) 5 f51) (fT (fT (fT vG 1 gs75) 7 F1) 8 L81)) H := hP
            have hD : va_D A (WR a k h0 (fT vi 11 qk1) (fT vj 12 qd1) (fT (fT (fT (fT (fT vF 0 g75) 2 f21) 3 f31) 4 f41) 5 f51) (fT (fT (fT vG 1 gs75) 7 F1) 8 L81)) := hD
            rcases hw9 with ⟨rfl, f75_0, f75_1, f75_2⟩ | ⟨rfl, f75_0, f75_1, f75_2, f75_3⟩
            · refine lv_istore_n hx hb dX12_raise_78 rfl hl (by decide) rfl (fun ls (hl : lv_has ls _ ([(3, .int (-1)), (0, .ref h0), (1, .int (nI gn)), (2, .int (nI cb))])) => ?_)
              refine lv_iload_n hx hb dX12_raise_79 rfl (lv_at hl 0 rfl) ?_
              refine lv_iconst (v := (-1)) hx hb dX12_raise_80 (by decide) ?_
              refine lv_icmp_ne (tgt := 86) hx hb dX12_raise_81 (by decide) (fun c9 => absurd c9 (by decide)) (fun _ => ?_)
              refine lv_iconst (v := 0) hx hb dX12_raise_84 (by decide) ?_
              refine W.widen (k := 0) (n := 0) (by decide +kernel) (by decide +kernel) ?_
              have e9 : fT (fT (fT (fT (fT (fT vF 0 g75) 2 f21) 3 f31) 4 f41) 5 f51) 6 (vF 6) = fT (fT (fT (fT (fT vF 0 g75) 2 f21) 3 f31) 4 f41) 5 f51 := fT_id _ _ ((fT_ne _ _ (Nat.ne_of_beq_eq_false rfl)).trans ((fT_ne _ _ (Nat.ne_of_beq_eq_false rfl)).trans ((fT_ne _ _ (Nat.ne_of_beq_eq_false rfl)).trans ((fT_ne _ _ (Nat.ne_of_beq_eq_false rfl)).trans (fT_ne _ _ (Nat.ne_of_beq_eq_false rfl))))))
              have hP : va_P (dC, dI) vwCl (WR a k h0 (fT vi 11 qk1) (fT vj 12 qd1) (fT (fT (fT (fT (fT (fT vF 0 g75) 2 f21) 3 f31) 4 f41) 5 f51) 6 (vF 6)) (fT (fT (fT vG 1 gs75) 7 F1) 8 L81)) H := by rw [e9]; exact hP
              have hD : va_D A (WR a k h0 (fT vi 11 qk1) (fT vj 12 qd1) (fT (fT (fT (fT (fT (fT vF 0 g75) 2 f21) 3 f31) 4 f41) 5 f51) 6 (vF 6)) (fT (fT (fT vG 1 gs75) 7 F1) 8 L81)) := by rw [e9]; exact hD
              clear e9
              exact W.zret (v := 0) hx hb hr rfl (fun t9_ ht hW => ⟨⟨0, (g75, f21, f31, f41, f51, (vF 6), gs75, F1, L81, qk1, qd1, m275, t1, D1), rfl, by (try dsimp only); exact ⟨f75_0, hT1.frame (fun p hp => f75_1 p (by omega) (by omega)), hS1, hG1, fun q hq => by (rw [f75_1 _ (by omega) (by omega)]); exact ho q hq, Or.inl rfl⟩, by rw [ht]; exact hP, hD⟩, hS.F ht⟩) hS.2.2 dX12_raise_85
            · refine lv_istore_n hx hb dX12_raise_78 rfl hl (by decide) rfl (fun ls (hl : lv_has ls _ ([(3, .int (nI b75)), (0, .ref h0), (1, .int (nI gn)), (2, .int (nI cb))])) => ?_)
              refine lv_iload_n hx hb dX12_raise_79 rfl (lv_at hl 0 rfl) ?_
              refine lv_iconst (v := (-1)) hx hb dX12_raise_80 (by decide) ?_
              refine lv_icmp_ne (tgt := 86) hx hb dX12_raise_81 (by decide) (fun c_81 => ?_) (fun c_81 => ?_)
              · have t_81 : ((b75 : Nat) : Int) ≠ -1 := toI_ne c_81 (nI_toInt (by omega)) (by decide)
                have hp9 : t1 b75 cb ≠ 0 := by have := (f75_3).1; omega
                refine lv_aload_n hx hb dX12_raise_86 rfl (lv_at hl 1 rfl) ?_
                refine lv_iload_n hx hb dX12_raise_87 rfl (lv_at hl 0 rfl) ?_
                refine lv_iload_n hx hb dX12_raise_88 rfl (lv_at hl 3 rfl) ?_
                have hFc := allFree hD hS hA
                refine va_callv (va_runV (As := [.int (nI b75), .int (nI cb)]) (rest := []) ⟨hx, hb, hml, hown, hts⟩ (r_X12_pivot l dC dI a k h0 (fT vi 11 qk1) (fT vj 12 qd1) (fT (fT (fT (fT (fT vF 0 g75) 2 f21) 3 f31) 4 f41) 5 f51) (fT (fT (fT vG 1 gs75) 7 F1) 8 L81) b75 cb C R Gq t1 D1 m275 f75_0 (by first | assumption | decide | omega | rfl) (by first | assumption | decide | omega | rfl) (by first | assumption | decide | omega | rfl) (by first | assumption | decide | omega | rfl) (by first | assumption | decide | omega | rfl) (by first | assumption | decide | omega | rfl) (hT1.frame (fun p hp => f75_1 p (by omega) (by omega))) (f75_2) (by first | assumption | decide | omega | rfl) (hS1.1.2.1) (hp9) ((hsm _ _ _ _ hS1.1).2) H.size) (cwV 2 hts gwsRX12_raise_2 rfl rfl rfl (by decide +kernel) ⟨by decide +kernel, by decide +kernel⟩) ⟨fun a U g mk q => by obtain ⟨q0, q1, qP, qK, qD⟩ := q; exact ⟨q0, q1, qP, va_K.moved (u := U) (U := U.calling g mk a) (Vm.Alike.refl U.vm) qK, qD⟩, va_recv hK hP (ci := 12) (q0 := 0) rfl rfl, fun U hU9 hW => ⟨rfl, by rw [hU9], by rw [hU9]; exact hP, va_K.moved hW.alike hK, hD.weaken (fun _ _ _ _ => trivial)⟩⟩ rfl rfl hl.1 rfl (lv_room (Nat.le_of_ble_eq_true rfl)) dX12_raise_89 ⟨by decide +kernel, by decide +kernel⟩) hS (fun q _ h => hFc q h) hFc (fun u t9_ H1 locs ht hvm hw9 hB9 hz1 hk1 hS => ?_)
                obtain ⟨g89, f2w89, f3w89, gs89, qk89, qd89, F89, L889, m289⟩ := u
                try dsimp only at hw9 hB9
                obtain ⟨hP1, hD1⟩ := hB9
                rw [ht] at hP1
                have hP := hP1
                have hD := hD1.weaken (fun _ q _ h => hFc q.1 h)
                generalize H1 = H at hP hS ⊢
                have hP : va_P (dC, dI) vwCl (WR a k h0 (fT (fT vi 11 qk1) 11 qk89) (fT (fT vj 12 qd1) 12 qd89) (fT (fT (fT (fT (fT (fT (fT (fT (fT (fT vF 0 g75) 2 f21) 3 f31) 4 f41) 5 f51) 0 g89) 2 f2w89) 3 f3w89) 4 (upd f41 (nI cb).toNatClampNeg (f51 b75))) 5 (upd f51 (nI b75).toNatClampNeg (f41 cb))) (fT (fT (fT (fT (fT (fT vG 1 gs75) 7 F1) 8 L81) 8 L889) 7 F89) 1 gs89)) H := hP
                have hD : va_D A (WR a k h0 (fT (fT vi 11 qk1) 11 qk89) (fT (fT vj 12 qd1) 12 qd89) (fT (fT (fT (fT (fT (fT (fT (fT (fT (fT vF 0 g75) 2 f21) 3 f31) 4 f41) 5 f51) 0 g89) 2 f2w89) 3 f3w89) 4 (upd f41 (nI cb).toNatClampNeg (f51 b75))) 5 (upd f51 (nI b75).toNatClampNeg (f41 cb))) (fT (fT (fT (fT (fT (fT vG 1 gs75) 7 F1) 8 L81) 8 L889) 7 F89) 1 gs89)) := hD
                have e9 : fT vi 11 qk89 = fT (fT vi 11 qk1) 11 qk89 := (fT_sm _ _ _ _).symm
                rw [← e9] at hP hD
                clear e9
                have e9 : fT vj 12 qd89 = fT (fT vj 12 qd1) 12 qd89 := (fT_sm _ _ _ _).symm
                rw [← e9] at hP hD
                clear e9
                have e9 : fT (fT (fT (fT (fT vF 0 g89) 2 f2w89) 3 f3w89) 4 (upd f41 (nI cb).toNatClampNeg (f51 b75))) 5 (upd f51 (nI b75).toNatClampNeg (f41 cb)) = fT (fT (fT (fT (fT (fT (fT (fT (fT (fT vF 0 g75) 2 f21) 3 f31) 4 f41) 5 f51) 0 g89) 2 f2w89) 3 f3w89) 4 (upd f41 (nI cb).toNatClampNeg (f51 b75))) 5 (upd f51 (nI b75).toNatClampNeg (f41 cb)) := ((congrArg (fun g9 => fT (fT (fT (fT g9 2 f2w89) 3 f3w89) 4 (upd f41 (nI cb).toNatClampNeg (f51 b75))) 5 (upd f51 (nI b75).toNatClampNeg (f41 cb))) ((fT_sw _ _ _ (Nat.ne_of_beq_eq_false rfl)).trans (congrArg (fun g9 => fT g9 5 f51) ((fT_sw _ _ _ (Nat.ne_of_beq_eq_false rfl)).trans (congrArg (fun g9 => fT g9 4 f41) ((fT_sw _ _ _ (Nat.ne_of_beq_eq_false rfl)).trans (congrArg (fun g9 => fT g9 3 f31) ((fT_sw _ _ _ (Nat.ne_of_beq_eq_false rfl)).trans (congrArg (fun g9 => fT g9 2 f21) (fT_sm _ _ _ _)))))))))).trans ((congrArg (fun g9 => fT (fT (fT g9 3 f3w89) 4 (upd f41 (nI cb).toNatClampNeg (f51 b75))) 5 (upd f51 (nI b75).toNatClampNeg (f41 cb))) ((fT_sw _ _ _ (Nat.ne_of_beq_eq_false rfl)).trans (congrArg (fun g9 => fT g9 5 f51) ((fT_sw _ _ _ (Nat.ne_of_beq_eq_false rfl)).trans (congrArg (fun g9 => fT g9 4 f41) ((fT_sw _ _ _ (Nat.ne_of_beq_eq_false rfl)).trans (congrArg (fun g9 => fT g9 3 f31) (fT_sm _ _ _ _)))))))).trans ((congrArg (fun g9 => fT (fT g9 4 (upd f41 (nI cb).toNatClampNeg (f51 b75))) 5 (upd f51 (nI b75).toNatClampNeg (f41 cb))) ((fT_sw _ _ _ (Nat.ne_of_beq_eq_false rfl)).trans (congrArg (fun g9 => fT g9 5 f51) ((fT_sw _ _ _ (Nat.ne_of_beq_eq_false rfl)).trans (congrArg (fun g9 => fT g9 4 f41) (fT_sm _ _ _ _)))))).trans ((congrArg (fun g9 => fT g9 5 (upd f51 (nI b75).toNatClampNeg (f41 cb))) ((fT_sw _ _ _ (Nat.ne_of_beq_eq_false rfl)).trans (congrArg (fun g9 => fT g9 5 f51) (fT_sm _ _ _ _)))).trans (fT_sm _ _ _ _))))).symm
                rw [← e9] at hP hD
                clear e9
                have e9 : fT (fT (fT vG 1 gs89) 7 F89) 8 L889 = fT (fT (fT (fT (fT (fT vG 1 gs75) 7 F1) 8 L81) 8 L889) 7 F89) 1 gs89 := ((congrArg (fun g9 => fT (fT g9 7 F89) 1 gs89) (fT_sm _ _ _ _)).trans ((congrArg (fun g9 => fT g9 1 gs89) ((fT_sw _ _ _ (Nat.ne_of_beq_eq_false rfl)).trans (congrArg (fun g9 => fT g9 8 L889) (fT_sm _ _ _ _)))).trans ((fT_sw _ _ _ (Nat.ne_of_beq_eq_false rfl)).trans (congrArg (fun g9 => fT g9 8 L889) ((fT_sw _ _ _ (Nat.ne_of_beq_eq_false rfl)).trans (congrArg (fun g9 => fT g9 7 F89) (fT_sm _ _ _ _))))))).symm
                rw [← e9] at hP hD
                clear e9
                have hP : va_P (dC, dI) vwCl (WR a k h0 (fT vi 11 qk89) (fT vj 12 qd89) (fT (fT (fT (fT (fT vF 0 g89) 2 f2w89) 3 f3w89) 4 (upd f41 (nI cb).toNatClampNeg (f51 b75))) 5 (upd f51 (nI b75).toNatClampNeg (f41 cb))) (fT (fT (fT vG 1 gs89) 7 F89) 8 L889)) H := hP
                have hD : va_D A (WR a k h0 (fT vi 11 qk89) (fT vj 12 qd89) (fT (fT (fT (fT (fT vF 0 g89) 2 f2w89) 3 f3w89) 4 (upd f41 (nI cb).toNatClampNeg (f51 b75))) 5 (upd f51 (nI b75).toNatClampNeg (f41 cb))) (fT (fT (fT vG 1 gs89) 7 F89) 8 L889)) := hD
                obtain ⟨f89_0, f89_1, f89_2⟩ := hw9
                obtain ⟨hS9, hG9, hst9, hE9⟩ := hS1.step hsm hRgn hgT (by omega) (by omega) hG1 hst (c := cb) (r := b75) (by omega) h3c h4c (fun k2 hk2 h6 hn => h5c k2 (by omega) h6 hn) f75_2 f75_3
                obtain ⟨N1, hN1, hE1⟩ := hE9 N hE
                have hN2 := hN.resolve_left (fun h => c_4 h.1)
                refine lv_goto (tgt := 2) hx hb dX12_raise_92 (by decide) ?_
                have hl : lv_has _ _ ([(0, .ref h0), (1, .int (nI gn)), (2, .int (nI cb))]) := lv_sub hl [1, 2, 3] rfl
                exact ih2 (nI cb) (nvT b75 cb (sgI (t1 b75 cb)) t1 D1) (sgI (t1 b75 cb) * t1 b75 cb) g89 f2w89 f3w89 (upd f41 (nI cb).toNatClampNeg (f51 b75)) (upd f51 (nI b75).toNatClampNeg (f41 cb)) gs89 F89 L889 qk89 qd89 m289 _ _ _ (f89_0) (f89_1) (hS9) (hG9) (hst9) (fun q hq => by (rw [f89_2 _ (by omega), f75_1 _ (by omega) (by omega)]); exact ho q hq) (⟨N1, hE1, Or.inr (by omega)⟩) hP hD hS hl
              · have t_81 : ((b75 : Nat) : Int) = -1 := toI_nne c_81 (nI_toInt (by omega)) (by decide)
                refine lv_iconst (v := 0) hx hb dX12_raise_84 (by decide) ?_
                refine W.widen (k := 0) (n := 0) (by decide +kernel) (by decide +kernel) ?_
                have e9 : fT (fT (fT (fT (fT (fT vF 0 g75) 2 f21) 3 f31) 4 f41) 5 f51) 6 (vF 6) = fT (fT (fT (fT (fT vF 0 g75) 2 f21) 3 f31) 4 f41) 5 f51 := fT_id _ _ ((fT_ne _ _ (Nat.ne_of_beq_eq_false rfl)).trans ((fT_ne _ _ (Nat.ne_of_beq_eq_false rfl)).trans ((fT_ne _ _ (Nat.ne_of_beq_eq_false rfl)).trans ((fT_ne _ _ (Nat.ne_of_beq_eq_false rfl)).trans (fT_ne _ _ (Nat.ne_of_beq_eq_false rfl))))))
                have hP : va_P (dC, dI) vwCl (WR a k h0 (fT vi 11 qk1) (fT vj 12 qd1) (fT (fT (fT (fT (fT (fT vF 0 g75) 2 f21) 3 f31) 4 f41) 5 f51) 6 (vF 6)) (fT (fT (fT vG 1 gs75) 7 F1) 8 L81)) H := by rw [e9]; exact hP
                have hD : va_D A (WR a k h0 (fT vi 11 qk1) (fT vj 12 qd1) (fT (fT (fT (fT (fT (fT vF 0 g75) 2 f21) 3 f31) 4 f41) 5 f51) 6 (vF 6)) (fT (fT (fT vG 1 gs75) 7 F1) 8 L81)) := by rw [e9]; exact hD
                clear e9
                exact W.zret (v := 0) hx hb hr rfl (fun t9_ ht hW => ⟨⟨0, (g75, f21, f31, f41, f51, (vF 6), gs75, F1, L81, qk1, qd1, m275, t1, D1), rfl, by (try dsimp only); exact ⟨f75_0, hT1.frame (fun p hp => f75_1 p (by omega) (by omega)), hS1, hG1, fun q hq => by (rw [f75_1 _ (by omega) (by omega)]); exact ho q hq, Or.inl rfl⟩, by rw [ht]; exact hP, hD⟩, hS.F ht⟩) hS.2.2 dX12_raise_85
          · have t_67 : (cq2).toInt = -1 := toI_nne c_67 rfl (by decide)
            have hN2 := hN.resolve_left (fun h => c_4 h.1)
            subst c_67
            refine lv_goto (tgt := 2) hx hb dX12_raise_70 (by decide) ?_
            have hl : lv_has _ _ ([(0, .ref h0), (1, .int (nI gn)), (2, .int (-1))]) := lv_sub hl [0, 1, 2] rfl
            exact ih2 (-1) t1 D1 g1 f21 f31 f41 f51 gs1 F1 L81 qk1 qd1 m1 _ _ _ (hB1) (hT1) (hS1) (hG1) (hst) (ho) (⟨N, hE, Or.inl ⟨rfl, by omega⟩⟩) hP hD hS hl
        · have t_16 : ¬ ((k5 : Nat) : Int) ≥ ((C : Nat) : Int) := toI_nge c_16 (nI_toInt (by omega)) (nI_toInt (by omega))
          refine lv_aload_n hx hb dX12_raise_19 rfl (lv_at hl 0 rfl) ?_
          refine va_get (D := (dC, dI)) (ci := 12) (v := .ref (a 6)) (C := RX12) (T := TX12) (N := 163) (fs := fM (vS a (fT vi 11 qk1) (fT vj 12 qd1))) hx hb hts iwsRX12_raise_in12 hown hK hP 0 rfl rfl 10 (by decide) (hts (.fieldLink RX12 29 "OptimaWorksModel" "still" "[Z") (by decide +kernel)) (fun _ h9 => h9) rfl dX12_raise_20 ?_
          refine lv_iload_n hx hb dX12_raise_23 rfl (lv_at hl 3 rfl) ?_
          refine va_zald (cA := k 6) (n := 46) (f := (vF 6)) hx hb hK hP 7 6 (WR_get 6 (by decide)) (TR_get 6 (by decide)) (vp_in_nI (show k5 < 46 by omega) (by omega)) dX12_raise_24 ?_
          refine lv_topi (fun y4 hy4 => ?_)
          obtain rfl : ((vF 6) k5) = y4 := (hy4.trans (by rw [nI_clamp (by omega)])).symm
          refine lv_if_ne (tgt := 59) hx hb dX12_raise_25 (by decide) (fun c_25 => ?_) (fun c_25 => ?_)
          · have t_25 : (((vF 6) k5)).toInt ≠ 0 := toI_ne c_25 rfl (by decide)
            refine lv_iinc (v := (nI (k5 + 1))) hx hb dX12_raise_59 hl (k := 3) rfl (nI_add k5 1) (by decide) rfl (fun ls (hl : lv_has ls _ ([(3, .int (nI (k5 + 1))), (0, .ref h0), (1, .int (nI gn)), (2, .int cq2)])) => ?_)
            refine lv_goto (tgt := 11) hx hb dX12_raise_62 (by decide) ?_
            have hl : lv_has _ _ ([(0, .ref h0), (1, .int (nI gn)), (2, .int cq2), (3, .int (nI (k5 + 1)))]) := lv_sub hl [1, 2, 3, 0] rfl
            exact ih11_2 (k5 + 1) cq2 cb _ _ _ (by omega) (by rcases hc with ⟨h1, h2⟩ | ⟨h1, h2, h3, h4, h5⟩; (exact Or.inl ⟨h1, fun k2 hk2 h6 => by by_cases e9 : k2 = k5; (exact absurd (by rw [← e9]; exact h6) c_25); (exact h2 k2 (by omega) h6)⟩); (exact Or.inr ⟨h1, by omega, h3, h4, fun k2 hk2 h6 hn => by by_cases e9 : k2 = k5; (exact absurd (by rw [← e9]; exact h6) c_25); (exact h5 k2 (by omega) h6 hn)⟩)) (by omega) hP hD hS hl
          · have t_25 : (((vF 6) k5)).toInt = 0 := toI_nne c_25 rfl (by decide)
            refine lv_aload_n hx hb dX12_raise_28 rfl (lv_at hl 0 rfl) ?_
            refine lv_iload_n hx hb dX12_raise_29 rfl (lv_at hl 1 rfl) ?_
            refine lv_iload_n hx hb dX12_raise_30 rfl (lv_at hl 3 rfl) ?_
            have hFc := allFree hD hS hA
            refine va_calli (va_runV (As := [.int (nI gn), .int (nI k5)]) (rest := []) ⟨hx, hb, hml, hown, hts⟩ (r_X12_signAt l dC dI a k h0 (fT vi 11 qk1) (fT vj 12 qd1) (fT (fT (fT (fT (fT vF 0 g1) 2 f21) 3 f31) 4 f41) 5 f51) (fT (fT (fT vG 1 gs1) 7 F1) 8 L81) gn k5 C (R + Gq) t1 D1 m1 hB1 (by first | assumption | decide | omega | rfl) (hT1) (by first | assumption | decide | omega | rfl) (by first | assumption | decide | omega | rfl) (by first | assumption | decide | omega | rfl) (by first | assumption | decide | omega | rfl) (by first | assumption | decide | omega | rfl) H.size) (cwV 2 hts gwsRX12_raise_0 rfl rfl rfl (by decide +kernel) ⟨by decide +kernel, by decide +kernel⟩) ⟨fun a U g mk q => by obtain ⟨q0, q1, qP, qK, qD⟩ := q; exact ⟨q0, q1, qP, va_K.moved (u := U) (U := U.calling g mk a) (Vm.Alike.refl U.vm) qK, qD⟩, va_recv hK hP (ci := 12) (q0 := 0) rfl rfl, fun U hU9 hW => ⟨rfl, by rw [hU9], by rw [hU9]; exact hP, va_K.moved hW.alike hK, hD.weaken (fun _ _ _ _ => trivial)⟩⟩ rfl rfl hl.1 rfl (lv_room (Nat.le_of_ble_eq_true rfl)) dX12_raise_31 ⟨by decide +kernel, by decide +kernel⟩) hS (fun q _ h => hFc q h) hFc (fun r31 u t9_ H1 locs ht hvm hw9 hB9 hz1 hk1 hS => ?_)
            obtain ⟨hP1, hD1⟩ := hB9
            rw [ht] at hP1
            have hP := hP1
            have hD := hD1.weaken (fun _ q _ h => hFc q.1 h)
            generalize H1 = H at hP hS ⊢
            have hP : va_P (dC, dI) vwCl (WR a k h0 (fT vi 11 qk1) (fT vj 12 qd1) (fT (fT (fT (fT (fT vF 0 g1) 2 f21) 3 f31) 4 f41) 5 f51) (fT (fT (fT vG 1 gs1) 7 F1) 8 L81)) H := hP
            have hD : va_D A (WR a k h0 (fT vi 11 qk1) (fT vj 12 qd1) (fT (fT (fT (fT (fT vF 0 g1) 2 f21) 3 f31) 4 f41) 5 f51) (fT (fT (fT vG 1 gs1) 7 F1) 8 L81)) := hD
            have f31_0 := hw9
            try dsimp only at f31_0
            refine lv_if_ge (tgt := 59) hx hb dX12_raise_34 (by decide) (fun c_34 => ?_) (fun c_34 => ?_)
            · have t_34 : (r31).toInt ≥ 0 := toI_ge c_34 rfl (by decide)
              refine lv_iinc (v := (nI (k5 + 1))) hx hb dX12_raise_59 hl (k := 3) rfl (nI_add k5 1) (by decide) rfl (fun ls (hl : lv_has ls _ ([(3, .int (nI (k5 + 1))), (0, .ref h0), (1, .int (nI gn)), (2, .int cq2)])) => ?_)
              refine lv_goto (tgt := 11) hx hb dX12_raise_62 (by decide) ?_
              have hl : lv_has _ _ ([(0, .ref h0), (1, .int (nI gn)), (2, .int cq2), (3, .int (nI (k5 + 1)))]) := lv_sub hl [1, 2, 3, 0] rfl
              exact ih11_2 (k5 + 1) cq2 cb _ _ _ (by omega) (by rcases hc with ⟨h1, h2⟩ | ⟨h1, h2, h3, h4, h5⟩; (exact Or.inl ⟨h1, fun k2 hk2 h6 => by by_cases e9 : k2 = k5; (rw [e9]; omega); (exact h2 k2 (by omega) h6)⟩); (exact Or.inr ⟨h1, by omega, h3, h4, fun k2 hk2 h6 hn => by by_cases e9 : k2 = k5; (rw [e9] at hn; omega); (exact h5 k2 (by omega) h6 hn)⟩)) (by omega) hP hD hS hl
            · have t_34 : ¬ (r31).toInt ≥ 0 := toI_nge c_34 rfl (by decide)
              refine lv_iload_n hx hb dX12_raise_37 rfl (lv_at hl 2 rfl) ?_
              refine lv_iconst (v := (-1)) hx hb dX12_raise_38 (by decide) ?_
              refine lv_icmp_eq (tgt := 57) hx hb dX12_raise_39 (by decide) (fun c_39 => ?_) (fun c_39 => ?_)
              · have t_39 : (cq2).toInt = -1 := toI_eq c_39 rfl (by decide)
                refine lv_iload_n hx hb dX12_raise_57 rfl (lv_at hl 3 rfl) ?_
                refine lv_istore_n hx hb dX12_raise_58 rfl hl (by decide) rfl (fun ls (hl : lv_has ls _ ([(2, .int (nI k5)), (0, .ref h0), (1, .int (nI gn)), (3, .int (nI k5))])) => ?_)
                refine lv_iinc (v := (nI (k5 + 1))) hx hb dX12_raise_59 hl (k := 3) rfl (nI_add k5 1) (by decide) rfl (fun ls (hl : lv_has ls _ ([(3, .int (nI (k5 + 1))), (2, .int (nI k5)), (0, .ref h0), (1, .int (nI gn))])) => ?_)
                refine lv_goto (tgt := 11) hx hb dX12_raise_62 (by decide) ?_
                have hl : lv_has _ _ ([(0, .ref h0), (1, .int (nI gn)), (2, .int (nI k5)), (3, .int (nI (k5 + 1)))]) := lv_sub hl [2, 3, 1, 0] rfl
                exact ih11_2 (k5 + 1) (nI k5) k5 _ _ _ (by omega) (by (have h2 : ∀ k2, k2 < k5 → vF 6 k2 = 0 → 0 ≤ t1 gn k2 := by rcases hc with ⟨h1, h2⟩ | ⟨h1, h2, h3⟩; (exact h2); (exfalso; (have h9 := nI_toInt (n := cb) (by omega)); rw [← h1, c_39] at h9; (have h8 : ((-1 : Int32)).toInt = -1 := by decide); omega)); exact Or.inr ⟨rfl, by omega, c_25, by omega, fun k2 hk2 h6 hn => by by_cases e9 : k2 = k5; (rw [e9]; exact Nat.le_refl _); (have h9 := h2 k2 (by omega) h6; omega)⟩) (by omega) hP hD hS hl
              · have t_39 : ¬ (cq2).toInt = -1 := toI_neq c_39 rfl (by decide)
                obtain ⟨h1c, h2c, h3c, h4c, h5c⟩ := hc.resolve_left (fun h => c_39 h.1)
                subst h1c
                have lc1 := (hS1.c4 (by omega) (by omega) (show k5 < C by omega)).2
                have lc2 := (hS1.c4 (by omega) (by omega) (show cb < C by omega)).2
                refine lv_aload_n hx hb dX12_raise_42 rfl (lv_at hl 0 rfl) ?_
                refine va_get (D := (dC, dI)) (ci := 12) (v := .ref (a 4)) (C := RX12) (T := TX12) (N := 163) (fs := fM (vS a (fT vi 11 qk1) (fT vj 12 qd1))) hx hb hts iwsRX12_raise_in12 hown hK hP 0 rfl rfl 8 (by decide) (hts (.fieldLink RX12 23 "OptimaWorksModel" "columnOf" "[I") (by decide +kernel)) (fun _ h9 => h9) rfl dX12_raise_43 ?_
                refine lv_iload_n hx hb dX12_raise_46 rfl (lv_at hl 3 rfl) ?_
                refine va_iald (cA := k 4) (n := 46) (f := f41) hx hb hK hP 5 4 (WR_get 4 (by decide)) (TR_get 4 (by decide)) (vp_in_nI (show k5 < 46 by omega) (by omega)) dX12_raise_47 ?_
                refine lv_topi (fun y5 hy5 => ?_)
                obtain rfl : (f41 k5) = y5 := (hy5.trans (by rw [nI_clamp (by omega)])).symm
                refine lv_topi (fun y6 hy6 => ?_)
                obtain rfl : (nI ((f41 k5).toNatClampNeg)) = y6 := (hy6.trans ((hS1.c4 (by omega) (by omega) (by omega)).1)).symm
                refine lv_aload_n hx hb dX12_raise_48 rfl (lv_at hl 0 rfl) ?_
                refine va_get (D := (dC, dI)) (ci := 12) (v := .ref (a 4)) (C := RX12) (T := TX12) (N := 163) (fs := fM (vS a (fT vi 11 qk1) (fT vj 12 qd1))) hx hb hts iwsRX12_raise_in12 hown hK hP 0 rfl rfl 8 (by decide) (hts (.fieldLink RX12 23 "OptimaWorksModel" "columnOf" "[I") (by decide +kernel)) (fun _ h9 => h9) rfl dX12_raise_49 ?_
                refine lv_iload_n hx hb dX12_raise_52 rfl (lv_at hl 2 rfl) ?_
                refine va_iald (cA := k 4) (n := 46) (f := f41) hx hb hK hP 5 4 (WR_get 4 (by decide)) (TR_get 4 (by decide)) (vp_in_nI (show cb < 46 by omega) (by omega)) dX12_raise_53 ?_
                refine lv_topi (fun y7 hy7 => ?_)
                obtain rfl : (f41 cb) = y7 := (hy7.trans (by rw [nI_clamp (by omega)])).symm
                refine lv_topi (fun y8 hy8 => ?_)
                obtain rfl : (nI ((f41 cb).toNatClampNeg)) = y8 := (hy8.trans ((hS1.c4 (by omega) (by omega) (by omega)).1)).symm
                refine lv_icmp_ge (tgt := 59) hx hb dX12_raise_54 (by decide) (fun c_54 => ?_) (fun c_54 => ?_)
                · have t_54 : ((((f41 k5).toNatClampNeg) : Nat) : Int) ≥ ((((f41 cb).toNatClampNeg) : Nat) : Int) := toI_ge c_54 (nI_toInt (by omega)) (nI_toInt (by omega))
                  refine lv_iinc (v := (nI (k5 + 1))) hx hb dX12_raise_59 hl (k := 3) rfl (nI_add k5 1) (by decide) rfl (fun ls (hl : lv_has ls _ ([(3, .int (nI (k5 + 1))), (0, .ref h0), (1, .int (nI gn)), (2, .int (nI cb))])) => ?_)
                  refine lv_goto (tgt := 11) hx hb dX12_raise_62 (by decide) ?_
                  have hl : lv_has _ _ ([(0, .ref h0), (1, .int (nI gn)), (2, .int (nI cb)), (3, .int (nI (k5 + 1)))]) := lv_sub hl [1, 2, 3, 0] rfl
                  exact ih11_2 (k5 + 1) (nI cb) cb _ _ _ (by omega) (Or.inr ⟨rfl, by omega, h3c, h4c, fun k2 hk2 h6 hn => by by_cases e9 : k2 = k5; (rw [e9]; omega); (exact h5c k2 (by omega) h6 hn)⟩) (by omega) hP hD hS hl
                · have t_54 : ¬ ((((f41 k5).toNatClampNeg) : Nat) : Int) ≥ ((((f41 cb).toNatClampNeg) : Nat) : Int) := toI_nge c_54 (nI_toInt (by omega)) (nI_toInt (by omega))
                  refine lv_iload_n hx hb dX12_raise_57 rfl (lv_at hl 3 rfl) ?_
                  refine lv_istore_n hx hb dX12_raise_58 rfl hl (by decide) rfl (fun ls (hl : lv_has ls _ ([(2, .int (nI k5)), (0, .ref h0), (1, .int (nI gn)), (3, .int (nI k5))])) => ?_)
                  refine lv_iinc (v := (nI (k5 + 1))) hx hb dX12_raise_59 hl (k := 3) rfl (nI_add k5 1) (by decide) rfl (fun ls (hl : lv_has ls _ ([(3, .int (nI (k5 + 1))), (2, .int (nI k5)), (0, .ref h0), (1, .int (nI gn))])) => ?_)
                  refine lv_goto (tgt := 11) hx hb dX12_raise_62 (by decide) ?_
                  have hl : lv_has _ _ ([(0, .ref h0), (1, .int (nI gn)), (2, .int (nI k5)), (3, .int (nI (k5 + 1)))]) := lv_sub hl [2, 3, 1, 0] rfl
                  exact ih11_2 (k5 + 1) (nI k5) k5 _ _ _ (by omega) (Or.inr ⟨rfl, by omega, c_25, by omega, fun k2 hk2 h6 hn => by by_cases e9 : k2 = k5; (rw [e9]; exact Nat.le_refl _); (have h9 := h5c k2 (by omega) h6 hn; omega)⟩) (by omega) hP hD hS hl

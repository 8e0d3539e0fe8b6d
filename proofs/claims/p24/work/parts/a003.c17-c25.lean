section
theorem hd_yX12_leaving_RX12 : yX12_leaving.cls = RX12 ∧ yX12_leaving.cls ≠ "java/lang/invoke/MethodHandle" ∧ yX12_leaving.cls ≠ "java/lang/invoke/VarHandle" ∧ (parseMethodDescriptor yX12_leaving.desc).map (fun d => d.parameters.length) = some 1 := by decide +kernel
theorem hd_yX12_pivot_RX12 : yX12_pivot.cls = RX12 ∧ yX12_pivot.cls ≠ "java/lang/invoke/MethodHandle" ∧ yX12_pivot.cls ≠ "java/lang/invoke/VarHandle" ∧ (parseMethodDescriptor yX12_pivot.desc).map (fun d => d.parameters.length) = some 2 := by decide +kernel
theorem dX12_raise_0 : decode cX12_raise 0 = .ok (.iconst 0, 1) := dk_3 (by decide +kernel)
theorem dX12_raise_1 : decode cX12_raise 1 = .ok (.istore_n 2, 1) := dk_61 (by decide +kernel)
theorem dX12_raise_2 : decode cX12_raise 2 = .ok (.iload_n 2, 1) := dk_28 (by decide +kernel)
theorem dX12_raise_3 : decode cX12_raise 3 = .ok (.iconst (-1), 1) := dk_2 (by decide +kernel)
theorem dX12_raise_4 : decode cX12_raise 4 = .ok (.if_icmp .eq 91, 3) := dk_159 (by decide +kernel)
theorem dX12_raise_7 : decode cX12_raise 7 = .ok (.iconst (-1), 1) := dk_2 (by decide +kernel)
theorem dX12_raise_8 : decode cX12_raise 8 = .ok (.istore_n 2, 1) := dk_61 (by decide +kernel)
theorem dX12_raise_9 : decode cX12_raise 9 = .ok (.iconst 0, 1) := dk_3 (by decide +kernel)
theorem dX12_raise_10 : decode cX12_raise 10 = .ok (.istore_n 3, 1) := dk_62 (by decide +kernel)
theorem dX12_raise_11 : decode cX12_raise 11 = .ok (.iload_n 3, 1) := dk_29 (by decide +kernel)
theorem dX12_raise_12 : decode cX12_raise 12 = .ok (.aload_n 0, 1) := dk_42 (by decide +kernel)
theorem dX12_raise_13 : decode cX12_raise 13 = .ok (.getfield 396, 3) := dk_180 (by decide +kernel)
theorem dX12_raise_16 : decode cX12_raise 16 = .ok (.if_icmp .ge 49, 3) := dk_162 (by decide +kernel)
theorem dX12_raise_19 : decode cX12_raise 19 = .ok (.aload_n 0, 1) := dk_42 (by decide +kernel)
theorem dX12_raise_20 : decode cX12_raise 20 = .ok (.getfield 29, 3) := dk_180 (by decide +kernel)
theorem dX12_raise_23 : decode cX12_raise 23 = .ok (.iload_n 3, 1) := dk_29 (by decide +kernel)
theorem dX12_raise_24 : decode cX12_raise 24 = .ok (.baload, 1) := dk_51 (by decide +kernel)
theorem dX12_raise_25 : decode cX12_raise 25 = .ok (.ifCond .ne 34, 3) := dk_154 (by decide +kernel)
theorem dX12_raise_28 : decode cX12_raise 28 = .ok (.aload_n 0, 1) := dk_42 (by decide +kernel)
theorem dX12_raise_29 : decode cX12_raise 29 = .ok (.iload_n 1, 1) := dk_27 (by decide +kernel)
theorem dX12_raise_30 : decode cX12_raise 30 = .ok (.iload_n 3, 1) := dk_29 (by decide +kernel)
theorem dX12_raise_31 : decode cX12_raise 31 = .ok (.invokevirtual 446, 3) := dk_182 (by decide +kernel)
theorem dX12_raise_34 : decode cX12_raise 34 = .ok (.ifCond .ge 25, 3) := dk_156 (by decide +kernel)
theorem dX12_raise_37 : decode cX12_raise 37 = .ok (.iload_n 2, 1) := dk_28 (by decide +kernel)
theorem dX12_raise_38 : decode cX12_raise 38 = .ok (.iconst (-1), 1) := dk_2 (by decide +kernel)
theorem dX12_raise_39 : decode cX12_raise 39 = .ok (.if_icmp .eq 18, 3) := dk_159 (by decide +kernel)
theorem dX12_raise_42 : decode cX12_raise 42 = .ok (.aload_n 0, 1) := dk_42 (by decide +kernel)
theorem dX12_raise_43 : decode cX12_raise 43 = .ok (.getfield 23, 3) := dk_180 (by decide +kernel)
theorem dX12_raise_46 : decode cX12_raise 46 = .ok (.iload_n 3, 1) := dk_29 (by decide +kernel)
theorem dX12_raise_47 : decode cX12_raise 47 = .ok (.iaload, 1) := dk_46 (by decide +kernel)
theorem dX12_raise_48 : decode cX12_raise 48 = .ok (.aload_n 0, 1) := dk_42 (by decide +kernel)
theorem dX12_raise_49 : decode cX12_raise 49 = .ok (.getfield 23, 3) := dk_180 (by decide +kernel)
theorem dX12_raise_52 : decode cX12_raise 52 = .ok (.iload_n 2, 1) := dk_28 (by decide +kernel)
theorem dX12_raise_53 : decode cX12_raise 53 = .ok (.iaload, 1) := dk_46 (by decide +kernel)
theorem dX12_raise_54 : decode cX12_raise 54 = .ok (.if_icmp .ge 5, 3) := dk_162 (by decide +kernel)
theorem dX12_raise_57 : decode cX12_raise 57 = .ok (.iload_n 3, 1) := dk_29 (by decide +kernel)
theorem dX12_raise_58 : decode cX12_raise 58 = .ok (.istore_n 2, 1) := dk_61 (by decide +kernel)
theorem dX12_raise_59 : decode cX12_raise 59 = .ok (.iinc 3 1, 3) := dk_132 (by decide +kernel)
theorem dX12_raise_62 : decode cX12_raise 62 = .ok (.goto (-51), 3) := dk_167 (by decide +kernel)
theorem dX12_raise_65 : decode cX12_raise 65 = .ok (.iload_n 2, 1) := dk_28 (by decide +kernel)
theorem dX12_raise_66 : decode cX12_raise 66 = .ok (.iconst (-1), 1) := dk_2 (by decide +kernel)
theorem dX12_raise_67 : decode cX12_raise 67 = .ok (.if_icmp .ne 6, 3) := dk_160 (by decide +kernel)
theorem dX12_raise_70 : decode cX12_raise 70 = .ok (.goto (-68), 3) := dk_167 (by decide +kernel)
theorem dX12_raise_73 : decode cX12_raise 73 = .ok (.aload_n 0, 1) := dk_42 (by decide +kernel)
theorem dX12_raise_74 : decode cX12_raise 74 = .ok (.iload_n 2, 1) := dk_28 (by decide +kernel)
theorem dX12_raise_75 : decode cX12_raise 75 = .ok (.invokevirtual 453, 3) := dk_182 (by decide +kernel)
theorem dX12_raise_78 : decode cX12_raise 78 = .ok (.istore_n 3, 1) := dk_62 (by decide +kernel)
theorem dX12_raise_79 : decode cX12_raise 79 = .ok (.iload_n 3, 1) := dk_29 (by decide +kernel)
theorem dX12_raise_80 : decode cX12_raise 80 = .ok (.iconst (-1), 1) := dk_2 (by decide +kernel)
theorem dX12_raise_81 : decode cX12_raise 81 = .ok (.if_icmp .ne 5, 3) := dk_160 (by decide +kernel)
theorem dX12_raise_84 : decode cX12_raise 84 = .ok (.iconst 0, 1) := dk_3 (by decide +kernel)
theorem dX12_raise_85 : decode cX12_raise 85 = .ok (.ireturn, 1) := dk_172 (by decide +kernel)
theorem dX12_raise_86 : decode cX12_raise 86 = .ok (.aload_n 0, 1) := dk_42 (by decide +kernel)
theorem dX12_raise_87 : decode cX12_raise 87 = .ok (.iload_n 3, 1) := dk_29 (by decide +kernel)
theorem dX12_raise_88 : decode cX12_raise 88 = .ok (.iload_n 2, 1) := dk_28 (by decide +kernel)
theorem dX12_raise_89 : decode cX12_raise 89 = .ok (.invokevirtual 456, 3) := dk_182 (by decide +kernel)
theorem dX12_raise_92 : decode cX12_raise 92 = .ok (.goto (-90), 3) := dk_167 (by decide +kernel)
theorem dX12_raise_95 : decode cX12_raise 95 = .ok (.iconst 0, 1) := dk_3 (by decide +kernel)
theorem dX12_raise_96 : decode cX12_raise 96 = .ok (.istore_n 3, 1) := dk_62 (by decide +kernel)
theorem dX12_raise_97 : decode cX12_raise 97 = .ok (.iload_n 3, 1) := dk_29 (by decide +kernel)
theorem dX12_raise_98 : decode cX12_raise 98 = .ok (.aload_n 0, 1) := dk_42 (by decide +kernel)
theorem dX12_raise_99 : decode cX12_raise 99 = .ok (.getfield 396, 3) := dk_180 (by decide +kernel)
theorem dX12_raise_102 : decode cX12_raise 102 = .ok (.if_icmp .ge 38, 3) := dk_162 (by decide +kernel)
theorem dX12_raise_105 : decode cX12_raise 105 = .ok (.aload_n 0, 1) := dk_42 (by decide +kernel)
theorem dX12_raise_106 : decode cX12_raise 106 = .ok (.getfield 29, 3) := dk_180 (by decide +kernel)
theorem dX12_raise_109 : decode cX12_raise 109 = .ok (.iload_n 3, 1) := dk_29 (by decide +kernel)
theorem dX12_raise_110 : decode cX12_raise 110 = .ok (.aload_n 0, 1) := dk_42 (by decide +kernel)
theorem dX12_raise_111 : decode cX12_raise 111 = .ok (.getfield 29, 3) := dk_180 (by decide +kernel)
theorem dX12_raise_114 : decode cX12_raise 114 = .ok (.iload_n 3, 1) := dk_29 (by decide +kernel)
theorem dX12_raise_115 : decode cX12_raise 115 = .ok (.baload, 1) := dk_51 (by decide +kernel)
theorem dX12_raise_116 : decode cX12_raise 116 = .ok (.ifCond .ne 12, 3) := dk_154 (by decide +kernel)
theorem dX12_raise_119 : decode cX12_raise 119 = .ok (.aload_n 0, 1) := dk_42 (by decide +kernel)
theorem dX12_raise_120 : decode cX12_raise 120 = .ok (.iload_n 1, 1) := dk_27 (by decide +kernel)
theorem dX12_raise_121 : decode cX12_raise 121 = .ok (.iload_n 3, 1) := dk_29 (by decide +kernel)
theorem dX12_raise_122 : decode cX12_raise 122 = .ok (.invokevirtual 446, 3) := dk_182 (by decide +kernel)
theorem dX12_raise_125 : decode cX12_raise 125 = .ok (.ifCond .le 7, 3) := dk_158 (by decide +kernel)
theorem dX12_raise_128 : decode cX12_raise 128 = .ok (.iconst 1, 1) := dk_4 (by decide +kernel)
theorem dX12_raise_129 : decode cX12_raise 129 = .ok (.goto 4, 3) := dk_167 (by decide +kernel)
theorem dX12_raise_132 : decode cX12_raise 132 = .ok (.iconst 0, 1) := dk_3 (by decide +kernel)
theorem dX12_raise_133 : decode cX12_raise 133 = .ok (.bastore, 1) := dk_84 (by decide +kernel)
theorem dX12_raise_134 : decode cX12_raise 134 = .ok (.iinc 3 1, 3) := dk_132 (by decide +kernel)
theorem dX12_raise_137 : decode cX12_raise 137 = .ok (.goto (-40), 3) := dk_167 (by decide +kernel)
theorem dX12_raise_140 : decode cX12_raise 140 = .ok (.iconst 1, 1) := dk_4 (by decide +kernel)
theorem dX12_raise_141 : decode cX12_raise 141 = .ok (.ireturn, 1) := dk_172 (by decide +kernel)
def wsRX12_raise : List Cond := .code yX12_raise cX12_raise 4 (some .boolean) :: ([.fieldLink RX12 396 "OptimaWorksModel" "columns" "I", .fieldLink RX12 29 "OptimaWorksModel" "still" "[Z", .fieldLink RX12 23 "OptimaWorksModel" "columnOf" "[I"] ++ wsX120 ++ (wsV RX12 446 RX12 yX12_signAt wsRX12_signAt) ++ (wsV RX12 453 RX12 yX12_leaving wsRX12_leaving) ++ (wsV RX12 456 RX12 yX12_pivot wsRX12_pivot))
theorem iwsRX12_raise_in12 : ∀ w ∈ wsX120, w ∈ wsRX12_raise := fun _ h => List.mem_cons_of_mem _ (List.mem_append_left _ (List.mem_append_left _ (List.mem_append_left _ (List.mem_append_right _ h))))
theorem gwsRX12_raise_0 : GoodIn wsRX12_raise (wsV RX12 446 RX12 yX12_signAt wsRX12_signAt) := goodIn_sub (fun _ h => List.mem_cons_of_mem _ (List.mem_append_left _ (List.mem_append_left _ (List.mem_append_right _ h)))) (gdV (by decide +kernel) gdwsRX12_signAt)
theorem gwsRX12_raise_1 : GoodIn wsRX12_raise (wsV RX12 453 RX12 yX12_leaving wsRX12_leaving) := goodIn_sub (fun _ h => List.mem_cons_of_mem _ (List.mem_append_left _ (List.mem_append_right _ h))) (gdV (by decide +kernel) gdwsRX12_leaving)
theorem gwsRX12_raise_2 : GoodIn wsRX12_raise (wsV RX12 456 RX12 yX12_pivot wsRX12_pivot) := goodIn_sub (fun _ h => List.mem_cons_of_mem _ (List.mem_append_right _ h)) (gdV (by decide +kernel) gdwsRX12_pivot)
theorem gdwsRX12_raise : wsRX12_raise.all goodWord = true := gdC rfl (gdA (gdA (gdA (gdA (by decide +kernel : ([.fieldLink RX12 396 "OptimaWorksModel" "columns" "I", .fieldLink RX12 29 "OptimaWorksModel" "still" "[Z", .fieldLink RX12 23 "OptimaWorksModel" "columnOf" "[I"] : List Cond).all goodWord = true) gdwsX120) (gdV (by decide +kernel) gdwsRX12_signAt)) (gdV (by decide +kernel) gdwsRX12_leaving)) (gdV (by decide +kernel) gdwsRX12_pivot))
theorem hm_r_X12_raise_0 : (.fieldLink RX12 396 "OptimaWorksModel" "columns" "I" : Cond) ∈ wsRX12_raise := by decide +kernel
theorem hm_r_X12_raise_1 : (.fieldLink RX12 29 "OptimaWorksModel" "still" "[Z" : Cond) ∈ wsRX12_raise := by decide +kernel
theorem hm_r_X12_raise_2 : (.fieldLink RX12 23 "OptimaWorksModel" "columnOf" "[I" : Cond) ∈ wsRX12_raise := by decide +kernel
set_option maxHeartbeats 4000000 in
set_option maxRecDepth 100000 in
/-- raise(goal) -/
theorem r_X12_raise (l : Launch) (dC : Nat → ClassId) (dI : Nat → Nat → Nat) (a : Nat → Nat) (k : Nat → ClassId) (h0 : Nat) (vi : Nat → Int32) (vj : Nat → Int64) (vF : Nat → Nat → Int32) (vG : Nat → Nat → Int64) (gn : Nat) (a_ : Nat → Nat → Int) (C : Nat) (R : Nat) (Gq : Nat) (t : Nat → Nat → Int) (D : Int) (mg : Nat → Int) (hBg : Bg (vF 0) mg) (hC : vi 5 = nI C) (hR : vi 6 = nI R) (hG : vi 7 = nI Gq) (hC45 : 0 < C ∧ C ≤ 45) (hT60 : R + Gq < 60) (hsz : (R + Gq) * (C + 1) ≤ 970) (hT : Tab (vi 11) C (R + Gq) mg (vG 7) (vj 12) t D) (hSx : Sx C R (R + Gq) a_ t D (vF 4) (vF 5)) (hsm : Small C R (R + Gq) a_) (hG0 : ∀ i, i < R → 0 ≤ t i C) (hRgn : R ≤ gn) (hgT : gn < R + Gq) (sz : Nat) : Met l yX12_raise wsRX12_raise ({ frames := 4, cells := 0, slots := 0, locals := 110 }) (va_Pc [.ref h0, .int (nI gn)] (fun U => U.heap.size = sz ∧ va_P (dC, dI) vwCl (WR a k h0 vi vj vF vG) U.heap ∧ va_K (dC, dI) vwCl (tX12 k) U ∧ va_D (fun _ => True) (WR a k h0 vi vj vF vG))) (va_Qi (fun (r : Int32) (u : (Nat → Int32) × (Nat → Int32) × (Nat → Int32) × (Nat → Int32) × (Nat → Int32) × (Nat → Int32) × (Nat → Int64) × (Nat → Int64) × (Nat → Int64) × (Int32) × (Int64) × (Nat → Int) × (Nat → Nat → Int) × (Int)) => (Bg (u.1) (u.2.2.2.2.2.2.2.2.2.2.2.1)) ∧ (Tab (u.2.2.2.2.2.2.2.2.2.1) C (R + Gq) (u.2.2.2.2.2.2.2.2.2.2.2.1) (u.2.2.2.2.2.2.2.1) (u.2.2.2.2.2.2.2.2.2.2.1) (u.2.2.2.2.2.2.2.2.2.2.2.2.1) (u.2.2.2.2.2.2.2.2.2.2.2.2.2)) ∧ (Sx C R (R + Gq) a_ (u.2.2.2.2.2.2.2.2.2.2.2.2.1) (u.2.2.2.2.2.2.2.2.2.2.2.2.2) (u.2.2.2.1) (u.2.2.2.2.1)) ∧ (∀ i, i < R → 0 ≤ (u.2.2.2.2.2.2.2.2.2.2.2.2.1) i C) ∧ (∀ q, (q < 20 ∨ (26 < q ∧ q < 30) ∨ 30 + (R + Gq) * (C + 1) ≤ q) → (u.2.2.2.2.2.2.2.2.2.2.2.1) q = mg q) ∧ ((r) = 0 ∨ (r) = 1)) (fun (u : (Nat → Int32) × (Nat → Int32) × (Nat → Int32) × (Nat → Int32) × (Nat → Int32) × (Nat → Int32) × (Nat → Int64) × (Nat → Int64) × (Nat → Int64) × (Int32) × (Int64) × (Nat → Int) × (Nat → Nat → Int) × (Int)) t => va_P (dC, dI) vwCl (WR a k h0 (fT vi 11 (u.2.2.2.2.2.2.2.2.2.1)) (fT vj 12 (u.2.2.2.2.2.2.2.2.2.2.1)) (fT (fT (fT (fT (fT (fT vF 0 (u.1)) 2 (u.2.1)) 3 (u.2.2.1)) 4 (u.2.2.2.1)) 5 (u.2.2.2.2.1)) 6 (u.2.2.2.2.2.1)) (fT (fT (fT vG 1 (u.2.2.2.2.2.2.1)) 7 (u.2.2.2.2.2.2.2.1)) 8 (u.2.2.2.2.2.2.2.2.1))) t.heap ∧ va_D (va_A (WR a k h0 vi vj vF vG) sz) (WR a k h0 (fT vi 11 (u.2.2.2.2.2.2.2.2.2.1)) (fT vj 12 (u.2.2.2.2.2.2.2.2.2.2.1)) (fT (fT (fT (fT (fT (fT vF 0 (u.1)) 2 (u.2.1)) 3 (u.2.2.1)) 4 (u.2.2.2.1)) 5 (u.2.2.2.2.1)) 6 (u.2.2.2.2.2.1)) (fT (fT (fT vG 1 (u.2.2.2.2.2.2.1)) 7 (u.2.2.2.2.2.2.2.1)) 8 (u.2.2.2.2.2.2.2.2.1)))) (va_A (WR a k h0 vi vj vF vG) sz)) 0 0 (va_A (WR a k h0 vi vj vF vG) sz) := by
  refine Met.ofW (cc := cX12_raise) (maxL := 4) (ret := (some .boolean)) (by decide) rfl ?_
  intro p e s m args below meth c s₁ B hml hv
  obtain ⟨rfl, hsz, hP, hK, hD0⟩ := hv
  have hx := B.exec
  have hb := B.bytes
  have hr := B.returns
  have hts := atoms_spec (ws := wsRX12_raise) B.pre
  have hown : s.vm.findClass RX12 = some m.cls := findClass_of_methodNamed B.named
  have hlocks := B.notSynchronized
  subst hsz
  have hD := hD0.self (sz := s.heap.size)
  generalize hAe : va_A (WR a k h0 vi vj vF vG) s.heap.size = A at hD ⊢
  have hA : ∀ q : Nat, s.heap.size ≤ q → A q := fun q h => by rw [← hAe]; exact Or.inr h
  have hS : va_S A s.heap s.heap [] := va_S.rf
  have hl := lv_entry ([.ref h0, .int (nI gn)]) (n := 4) (Nat.le_of_ble_eq_true rfl)
  rw [lg_entry_eq]
  generalize (lg_sl ([.ref h0, .int (nI gn)]) ++ List.replicate (4 - (lg_sl ([.ref h0, .int (nI gn)])).length) Slot.unset).toArray = ls at hl ⊢
  have hl : lv_has ls 4 [(0, .ref h0), (1, .int (nI gn))] := hl
  obtain ⟨N0, hN0⟩ := ends R (R + Gq) (C + 1) C gn (stS C (vF 6) (vF 4)) 200 (2 ^ 294) (t, D, rlF C R (vF 5), clF C (vF 4))
  refine lv_iconst (v := 0) hx hb dX12_raise_0 (by decide) ?_
  refine lv_istore_n hx hb dX12_raise_1 rfl hl (by decide) rfl (fun ls (hl : lv_has ls _ ([(2, .int 0), (0, .ref h0), (1, .int (nI gn))])) => ?_)
  have e9 : fT vi 11 (vi 11) = vi := by funext q9; by_cases h9_11 : q9 = 11; (subst h9_11; exact (fT_eq _ _ _).trans (Eq.trans (by first | with_reducible rfl | with_reducible assumption | (symm; with_reducible assumption) | rfl | assumption | (symm; assumption) | (subst_vars; rfl)) (Eq.refl _).symm)); exact (fT_ne _ _ h9_11).trans (Eq.refl _).symm
  have hP := wr_Pi e9 hP
  have hD := wr_Di e9 hD
  clear e9
  have e9 : fT vj 12 (vj 12) = vj := by funext q9; by_cases h9_12 : q9 = 12; (subst h9_12; exact (fT_eq _ _ _).trans (Eq.trans (by first | with_reducible rfl | with_reducible assumption | (symm; with_reducible assumption) | rfl | assumption | (symm; assumption) | (subst_vars; rfl)) (Eq.refl _).symm)); exact (fT_ne _ _ h9_12).trans (Eq.refl _).symm
  have hP := wr_Pj e9 hP
  have hD := wr_Dj e9 hD
  clear e9
  have e9 : fT (fT (fT (fT (fT vF 0 (vF 0)) 2 (vF 2)) 3 (vF 3)) 4 (vF 4)) 5 (vF 5) = vF := Eq.trans (mv_4 rfl) (Eq.trans (id_4 rfl) (Eq.trans (mv_3 rfl) (Eq.trans (id_3 rfl) (Eq.trans (mv_2 rfl) (Eq.trans (id_2 rfl) (Eq.trans (mv_1 rfl) (Eq.trans (id_1 rfl) (id_0 rfl))))))))
  have hP := wr_PF e9 hP
  have hD := wr_DF e9 hD
  clear e9
  have e9 : fT (fT (fT vG 1 (vG 1)) 7 (vG 7)) 8 (vG 8) = vG := Eq.trans (mv_2 rfl) (Eq.trans (id_2 rfl) (Eq.trans (mv_1 rfl) (Eq.trans (id_1 rfl) (id_0 rfl))))
  have hP := wr_PG e9 hP
  have hD := wr_DG e9 hD
  clear e9
  have hl : lv_has _ _ ([(0, .ref h0), (1, .int (nI gn)), (2, .int 0)]) := lv_sub hl [1, 2, 0] rfl
  refine (fun (loop : ∀ (n9 : Nat) (cq : Int32) (t1 : Nat → Nat → Int) (D1 : Int) (g1 : Nat → Int32) (f21 : Nat → Int32) (f31 : Nat → Int32) (f41 : Nat → Int32) (f51 : Nat → Int32) (gs1 : Nat → Int64) (F1 : Nat → Int64) (L81 : Nat → Int64) (qk1 : Int32) (qd1 : Int64) (m1 : Nat → Int) (H : Heap) (locs : List Loc) (ls : Array Slot), (Bg g1 m1) → (Tab qk1 C (R + Gq) m1 F1 qd1 t1 D1) → (Sx C R (R + Gq) a_ t1 D1 f41 f51) → (∀ i, i < R → 0 ≤ t1 i C) → (∀ k, k < C → vF 6 k ≠ 0 → f41 k = vF 4 k) → (∀ q, (q < 20 ∨ (26 < q ∧ q < 30) ∨ 30 + (R + Gq) * (C + 1) ≤ q) → m1 q = mg q) →  (∃ N, Ends R (R + Gq) (C + 1) C gn (stS C (vF 6) (vF 4)) 200 (2 ^ 294) N (t1, D1, rlF C R f51, clF C f41) ∧ ((cq = -1 ∧ 0 < n9) ∨ N + 1 < n9)) → va_P (dC, dI) vwCl (WR a k h0 (fT vi 11 qk1) (fT vj 12 qd1) (fT (fT (fT (fT (fT vF 0 g1) 2 f21) 3 f31) 4 f41) 5 f51) (fT (fT (fT vG 1 gs1) 7 F1) 8 L81)) H → va_D A (WR a k h0 (fT vi 11 qk1) (fT vj 12 qd1) (fT (fT (fT (fT (fT vF 0 g1) 2 f21) 3 f31) 4 f41) 5 f51) (fT (fT (fT vG 1 gs1) 7 F1) 8 L81)) → va_S A s.heap H locs → lv_has ls 4 [(0, .ref h0), (1, .int (nI gn)), (2, .int cq)] → W p l e _ s m _ below meth c H locs 0 0 _ (F0 m 2 ls [])) => loop (N0 + 2) 0 t D (vF 0) (vF 2) (vF 3) (vF 4) (vF 5) (vG 1) (vG 7) (vG 8) (vi 11) (vj 12) mg _ _ _ (hBg) (hT) (hSx) (hG0) (fun k _ _ => rfl) (fun q _ => rfl) (⟨N0, hN0, Or.inr (by omega)⟩) hP hD hS hl) ?_
  intro n9
  induction n9 with
  | zero => intro cq t1 D1 g1 f21 f31 f41 f51 gs1 F1 L81 qk1 qd1 m1 H locs ls hB1 hT1 hS1 hG1 hst ho hf9; exact False.elim (by obtain ⟨N, h1, h2⟩ := hf9; omega)
  | succ n9 ih2 =>
    intro cq t1 D1 g1 f21 f31 f41 f51 gs1 F1 L81 qk1 qd1 m1 H locs ls hB1 hT1 hS1 hG1 hst ho hf2 hP hD hS hl
    obtain ⟨N, hE, hN⟩ := hf2
    refine lv_iload_n hx hb dX12_raise_2 rfl (lv_at hl 2 rfl) ?_
    refine lv_iconst (v := (-1)) hx hb dX12_raise_3 (by decide) ?_
    refine lv_icmp_eq (tgt := 95) hx hb dX12_raise_4 (by decide) (fun c_4 => ?_) (fun c_4 => ?_)
    · have t_4 : (cq).toInt = -1 := toI_eq c_4 rfl (by decide)
      refine lv_iconst (v := 0) hx hb dX12_raise_95 (by decide) ?_
      refine lv_istore_n hx hb dX12_raise_96 rfl hl (by decide) rfl (fun ls (hl : lv_has ls _ ([(3, .int 0), (0, .ref h0), (1, .int (nI gn)), (2, .int cq)])) => ?_)
      have e9 : fT (fT (fT (fT (fT (fT vF 0 g1) 2 f21) 3 f31) 4 f41) 5 f51) 6 (vF 6) = fT (fT (fT (fT (fT vF 0 g1) 2 f21) 3 f31) 4 f41) 5 f51 := id_5 rfl
      have hP := wr_PF e9 hP
      have hD := wr_DF e9 hD
      clear e9
      have hl : lv_has _ _ ([(0, .ref h0), (1, .int (nI gn)), (3, .int (nI 0))]) := lv_sub hl [1, 2, 0] rfl
      refine (fun (loop : ∀ (n9 : Nat) (k6 : Nat) (f61 : Nat → Int32) (H : Heap) (locs : List Loc) (ls : Array Slot), (k6 ≤ C) →  (C < k6 + n9) → va_P (dC, dI) vwCl (WR a k h0 (fT vi 11 qk1) (fT vj 12 qd1) (fT (fT (fT (fT (fT (fT vF 0 g1) 2 f21) 3 f31) 4 f41) 5 f51) 6 f61) (fT (fT (fT vG 1 gs1) 7 F1) 8 L81)) H → va_D A (WR a k h0 (fT vi 11 qk1) (fT vj 12 qd1) (fT (fT (fT (fT (fT (fT vF 0 g1) 2 f21) 3 f31) 4 f41) 5 f51) 6 f61) (fT (fT (fT vG 1 gs1) 7 F1) 8 L81)) → va_S A s.heap H locs → lv_has ls 4 [(0, .ref h0), (1, .int (nI gn)), (3, .int (nI k6))] → W p l e _ s m _ below meth c H locs 0 0 _ (F0 m 97 ls [])) => loop (C + 1) 0 (vF 6) _ _ _ (by omega) (by omega) hP hD hS hl) ?_
      intro n9
      induction n9 with
      | zero => intro k6 f61 H locs ls hk6 hf9; exact False.elim (by omega)
      | succ n9 ih97_1 =>
        intro k6 f61 H locs ls hk6 hf97_1 hP hD hS hl
        refine lv_iload_n hx hb dX12_raise_97 rfl (lv_at hl 2 rfl) ?_
        refine lv_aload_n hx hb dX12_raise_98 rfl (lv_at hl 0 rfl) ?_
        refine va_get (D := (dC, dI)) (ci := 12) (v := .int (vi 5)) (C := RX12) (T := TX12) (N := 163) (fs := fM (vS a (fT vi 11 qk1) (fT vj 12 qd1))) hx hb hts iwsRX12_raise_in12 hown hK hP 0 rfl rfl 5 (by decide) (hts _ hm_r_X12_raise_0) (fun _ h9 => h9) rfl dX12_raise_99 ?_
        refine lv_topi (fun y1 hy1 => ?_)
        obtain rfl : (nI C) = y1 := (hy1.trans (hC)).symm
        refine lv_icmp_ge (tgt := 140) hx hb dX12_raise_102 (by decide) (fun c_102 => ?_) (fun c_102 => ?_)
        · have t_102 : ((k6 : Nat) : Int) ≥ ((C : Nat) : Int) := toI_ge c_102 (nI_toInt (by omega)) (nI_toInt (by omega))
          refine lv_iconst (v := 1) hx hb dX12_raise_140 (by decide) ?_
          refine W.widen (k := 0) (n := 0) (by decide +kernel) (by decide +kernel) ?_
          exact W.zret (v := 1) hx hb hr rfl (fun t9_ ht hW => ⟨⟨1, (g1, f21, f31, f41, f51, f61, gs1, F1, L81, qk1, qd1, m1, t1, D1), rfl, by (try dsimp only); exact ⟨hB1, hT1, hS1, hG1, ho, Or.inr rfl⟩, by rw [ht]; exact hP, hD⟩, hS.F ht⟩) hS.2.2 dX12_raise_141
        · have t_102 : ¬ ((k6 : Nat) : Int) ≥ ((C : Nat) : Int) := toI_nge c_102 (nI_toInt (by omega)) (nI_toInt (by omega))
          refine lv_aload_n hx hb dX12_raise_105 rfl (lv_at hl 0 rfl) ?_
          refine va_get (D := (dC, dI)) (ci := 12) (v := .ref (a 6)) (C := RX12) (T := TX12) (N := 163) (fs := fM (vS a (fT vi 11 qk1) (fT vj 12 qd1))) hx hb hts iwsRX12_raise_in12 hown hK hP 0 rfl rfl 10 (by decide) (hts _ hm_r_X12_raise_1) (fun _ h9 => h9) rfl dX12_raise_106 ?_
          refine lv_iload_n hx hb dX12_raise_109 rfl (lv_at hl 2 rfl) ?_
          refine lv_aload_n hx hb dX12_raise_110 rfl (lv_at hl 0 rfl) ?_
          refine va_get (D := (dC, dI)) (ci := 12) (v := .ref (a 6)) (C := RX12) (T := TX12) (N := 163) (fs := fM (vS a (fT vi 11 qk1) (fT vj 12 qd1))) hx hb hts iwsRX12_raise_in12 hown hK hP 0 rfl rfl 10 (by decide) (hts _ hm_r_X12_raise_1) (fun _ h9 => h9) rfl dX12_raise_111 ?_
          refine lv_iload_n hx hb dX12_raise_114 rfl (lv_at hl 2 rfl) ?_
          refine va_zald (cA := k 6) (n := 46) (f := f61) hx hb hK hP 7 6 (WR_get 6 (by decide)) (TR_get 6 (by decide)) (vp_in_nI (show k6 < 46 by omega) (by omega)) dX12_raise_115 ?_
          refine lv_topi (fun y2 hy2 => ?_)
          obtain rfl : (f61 k6) = y2 := (hy2.trans (by rw [nI_clamp (by omega)])).symm
          refine lv_if_ne (tgt := 128) hx hb dX12_raise_116 (by decide) (fun c_116 => ?_) (fun c_116 => ?_)
          · have t_116 : ((f61 k6)).toInt ≠ 0 := toI_ne c_116 rfl (by decide)
            refine lv_iconst (v := 1) hx hb dX12_raise_128 (by decide) ?_
            refine lv_goto (tgt := 133) hx hb dX12_raise_129 (by decide) ?_
            refine va_zast (cA := k 6) (n := 46) (f := f61) hx hb hK hP hD hS 7 6 (WR_get 6 (by decide)) (TR_get 6 (by decide)) (vp_in_nI (show k6 < 46 by omega) (by omega)) dX12_raise_133 (fun H locs hP hD hS => ?_)
            have e9 : fT (fT (fT (fT (fT (fT vF 0 g1) 2 f21) 3 f31) 4 f41) 5 f51) 6 (upd f61 ((nI k6)).toNatClampNeg (vp_nar FieldType.boolean 1)) = fT (fT (fT (fT (fT (fT (fT vF 0 g1) 2 f21) 3 f31) 4 f41) 5 f51) 6 f61) 6 (upd f61 ((nI k6)).toNatClampNeg (vp_nar FieldType.boolean 1)) := (fT_sm _ _ _ _).symm
            have hP := wr_PF e9 (fz_w (WR_F 6 (by decide) _ rfl) hP)
            have hD := wr_DF e9 (fz_wD (WR_F 6 (by decide) _ rfl) hD)
            clear e9
            refine lv_iinc (v := (nI (k6 + 1))) hx hb dX12_raise_134 hl (k := 2) rfl (nI_add k6 1) (by decide) rfl (fun ls (hl : lv_has ls _ ([(3, .int (nI (k6 + 1))), (0, .ref h0), (1, .int (nI gn))])) => ?_)
            refine lv_goto (tgt := 97) hx hb dX12_raise_137 (by decide) ?_
            have hl : lv_has _ _ ([(0, .ref h0), (1, .int (nI gn)), (3, .int (nI (k6 + 1)))]) := lv_sub hl [1, 2, 0] rfl
            exact ih97_1 (k6 + 1) (upd f61 ((nI k6)).toNatClampNeg (vp_nar FieldType.boolean 1)) _ _ _ (by omega) (by omega) hP hD hS hl
          · have t_116 : ((f61 k6)).toInt = 0 := toI_nne c_116 rfl (by decide)
            refine lv_aload_n hx hb dX12_raise_119 rfl (lv_at hl 0 rfl) ?_
            refine lv_iload_n hx hb dX12_raise_120 rfl (lv_at hl 1 rfl) ?_
            refine lv_iload_n hx hb dX12_raise_121 rfl (lv_at hl 2 rfl) ?_
            have hFc := allFree hD hS hA
            refine va_calli (va_runV (As := [.int (nI gn), .int (nI k6)]) (rest := [.int (nI k6), .ref (a 6)]) ⟨hx, hb, hml, hown, hts⟩ (r_X12_signAt l dC dI a k h0 (fT vi 11 qk1) (fT vj 12 qd1) (fT (fT (fT (fT (fT (fT vF 0 g1) 2 f21) 3 f31) 4 f41) 5 f51) 6 f61) (fT (fT (fT vG 1 gs1) 7 F1) 8 L81) gn k6 C (R + Gq) t1 D1 m1 hB1 (by first | with_reducible assumption | decide | omega | rfl | assumption) (hT1) (by first | with_reducible assumption | decide | omega | rfl | assumption) (by first | with_reducible assumption | decide | omega | rfl | assumption) (by first | with_reducible assumption | decide | omega | rfl | assumption) (by first | with_reducible assumption | decide | omega | rfl | assumption) (by first | with_reducible assumption | decide | omega | rfl | assumption) H.size) (cwV 2 hts gwsRX12_raise_0 rfl rfl rfl hd_yX12_signAt_RX12 (by decide +kernel)) (fz_pre (va_recv hK hP (ci := 12) (q0 := 0) rfl rfl) hP hK hD) rfl rfl hl.1 rfl (lv_room (Nat.le_of_ble_eq_true rfl)) dX12_raise_122 (by decide +kernel)) hS (fun q _ h => hFc q h) hFc (fun r122 u t9_ H locs ht hvm hw9 hB9 hz1 hk1 hS => ?_)
            have hP : va_P (dC, dI) vwCl (WR a k h0 (fT vi 11 qk1) (fT vj 12 qd1) (fT (fT (fT (fT (fT (fT vF 0 g1) 2 f21) 3 f31) 4 f41) 5 f51) 6 f61) (fT (fT (fT vG 1 gs1) 7 F1) 8 L81)) H := fz_P ht hB9.1
            have hD := fz_sd hP (hB9.2.weaken (fun _ q _ h => hFc q.1 h)) rfl
            have f122_0 := hw9
            try dsimp only at f122_0
            refine lv_if_le (tgt := 132) hx hb dX12_raise_125 (by decide) (fun c_125 => ?_) (fun c_125 => ?_)
            · have t_125 : (r122).toInt ≤ 0 := toI_le c_125 rfl (by decide)
              refine lv_iconst (v := 0) hx hb dX12_raise_132 (by decide) ?_
              refine va_zast (cA := k 6) (n := 46) (f := f61) hx hb hK hP hD hS 7 6 (WR_get 6 (by decide)) (TR_get 6 (by decide)) (vp_in_nI (show k6 < 46 by omega) (by omega)) dX12_raise_133 (fun H locs hP hD hS => ?_)
              have e9 : fT (fT (fT (fT (fT (fT vF 0 g1) 2 f21) 3 f31) 4 f41) 5 f51) 6 (upd f61 ((nI k6)).toNatClampNeg (vp_nar FieldType.boolean 0)) = fT (fT (fT (fT (fT (fT (fT vF 0 g1) 2 f21) 3 f31) 4 f41) 5 f51) 6 f61) 6 (upd f61 ((nI k6)).toNatClampNeg (vp_nar FieldType.boolean 0)) := (fT_sm _ _ _ _).symm
              have hP := wr_PF e9 (fz_w (WR_F 6 (by decide) _ rfl) hP)
              have hD := wr_DF e9 (fz_wD (WR_F 6 (by decide) _ rfl) hD)
              clear e9
              refine lv_iinc (v := (nI (k6 + 1))) hx hb dX12_raise_134 hl (k := 2) rfl (nI_add k6 1) (by decide) rfl (fun ls (hl : lv_has ls _ ([(3, .int (nI (k6 + 1))), (0, .ref h0), (1, .int (nI gn))])) => ?_)
              refine lv_goto (tgt := 97) hx hb dX12_raise_137 (by decide) ?_
              have hl : lv_has _ _ ([(0, .ref h0), (1, .int (nI gn)), (3, .int (nI (k6 + 1)))]) := lv_sub hl [1, 2, 0] rfl
              exact ih97_1 (k6 + 1) (upd f61 ((nI k6)).toNatClampNeg (vp_nar FieldType.boolean 0)) _ _ _ (by omega) (by omega) hP hD hS hl
            · have t_125 : ¬ (r122).toInt ≤ 0 := toI_nle c_125 rfl (by decide)
              refine lv_iconst (v := 1) hx hb dX12_raise_128 (by decide) ?_
              refine lv_goto (tgt := 133) hx hb dX12_raise_129 (by decide) ?_
              refine va_zast (cA := k 6) (n := 46) (f := f61) hx hb hK hP hD hS 7 6 (WR_get 6 (by decide)) (TR_get 6 (by decide)) (vp_in_nI (show k6 < 46 by omega) (by omega)) dX12_raise_133 (fun H locs hP hD hS => ?_)
              have e9 : fT (fT (fT (fT (fT (fT vF 0 g1) 2 f21) 3 f31) 4 f41) 5 f51) 6 (upd f61 ((nI k6)).toNatClampNeg (vp_nar FieldType.boolean 1)) = fT (fT (fT (fT (fT (fT (fT vF 0 g1) 2 f21) 3 f31) 4 f41) 5 f51) 6 f61) 6 (upd f61 ((nI k6)).toNatClampNeg (vp_nar FieldType.boolean 1)) := (fT_sm _ _ _ _).symm
              have hP := wr_PF e9 (fz_w (WR_F 6 (by decide) _ rfl) hP)
              have hD := wr_DF e9 (fz_wD (WR_F 6 (by decide) _ rfl) hD)
              clear e9
              refine lv_iinc (v := (nI (k6 + 1))) hx hb dX12_raise_134 hl (k := 2) rfl (nI_add k6 1) (by decide) rfl (fun ls (hl : lv_has ls _ ([(3, .int (nI (k6 + 1))), (0, .ref h0), (1, .int (nI gn))])) => ?_)
              refine lv_goto (tgt := 97) hx hb dX12_raise_137 (by decide) ?_
              have hl : lv_has _ _ ([(0, .ref h0), (1, .int (nI gn)), (3, .int (nI (k6 + 1)))]) := lv_sub hl [1, 2, 0] rfl
              exact ih97_1 (k6 + 1) (upd f61 ((nI k6)).toNatClampNeg (vp_nar FieldType.boolean 1)) _ _ _ (by omega) (by omega) hP hD hS hl
    · have t_4 : ¬ (cq).toInt = -1 := toI_neq c_4 rfl (by decide)
      refine lv_iconst (v := (-1)) hx hb dX12_raise_7 (by decide) ?_
      refine lv_istore_n hx hb dX12_raise_8 rfl hl (by decide) rfl (fun ls (hl : lv_has ls _ ([(2, .int (-1)), (0, .ref h0), (1, .int (nI gn))])) => ?_)
      refine lv_iconst (v := 0) hx hb dX12_raise_9 (by decide) ?_
      refine lv_istore_n hx hb dX12_raise_10 rfl hl (by decide) rfl (fun ls (hl : lv_has ls _ ([(3, .int 0), (2, .int (-1)), (0, .ref h0), (1, .int (nI gn))])) => ?_)
      have hl : lv_has _ _ ([(0, .ref h0), (1, .int (nI gn)), (2, .int (-1)), (3, .int (nI 0))]) := lv_sub hl [2, 3, 1, 0] rfl
      refine (fun (loop : ∀ (n9 : Nat) (k5 : Nat) (cq2 : Int32) (cb : Nat) (H : Heap) (locs : List Loc) (ls : Array Slot), (k5 ≤ C) → ((cq2 = -1 ∧ ∀ k2, k2 < k5 → vF 6 k2 = 0 → 0 ≤ t1 gn k2) ∨ (cq2 = nI cb ∧ cb < k5 ∧ vF 6 cb = 0 ∧ t1 gn cb < 0 ∧ ∀ k2, k2 < k5 → vF 6 k2 = 0 → t1 gn k2 < 0 → (f41 cb).toNatClampNeg ≤ (f41 k2).toNatClampNeg)) →  (C < k5 + n9) → va_P (dC, dI) vwCl (WR a k h0 (fT vi 11 qk1) (fT vj 12 qd1) (fT (fT (fT (fT (fT vF 0 g1) 2 f21) 3 f31) 4 f41) 5 f51) (fT (fT (fT vG 1 gs1) 7 F1) 8 L81)) H → va_D A (WR a k h0 (fT vi 11 qk1) (fT vj 12 qd1) (fT (fT (fT (fT (fT vF 0 g1) 2 f21) 3 f31) 4 f41) 5 f51) (fT (fT (fT vG 1 gs1) 7 F1) 8 L81)) → va_S A s.heap H locs → lv_has ls 4 [(0, .ref h0), (1, .int (nI gn)), (2, .int cq2), (3, .int (nI k5))] → W p l e _ s m _ below meth c H locs 0 0 _ (F0 m 11 ls [])) => loop (C + 1) 0 (-1) 0 _ _ _ (by omega) (Or.inl ⟨rfl, fun k2 h2 => absurd h2 (by omega)⟩) (by omega) hP hD hS hl) ?_
      intro n9
      induction n9 with
      | zero => intro k5 cq2 cb H locs ls hk5 hc hf9; exact False.elim (by omega)
      | succ n9 ih11_2 =>
        intro k5 cq2 cb H locs ls hk5 hc hf11_2 hP hD hS hl
        refine lv_iload_n hx hb dX12_raise_11 rfl (lv_at hl 3 rfl) ?_
        refine lv_aload_n hx hb dX12_raise_12 rfl (lv_at hl 0 rfl) ?_
        refine va_get (D := (dC, dI)) (ci := 12) (v := .int (vi 5)) (C := RX12) (T := TX12) (N := 163) (fs := fM (vS a (fT vi 11 qk1) (fT vj 12 qd1))) hx hb hts iwsRX12_raise_in12 hown hK hP 0 rfl rfl 5 (by decide) (hts _ hm_r_X12_raise_0) (fun _ h9 => h9) rfl dX12_raise_13 ?_
        refine lv_topi (fun y3 hy3 => ?_)
        obtain rfl : (nI C) = y3 := (hy3.trans (hC)).symm
        refine lv_icmp_ge (tgt := 65) hx hb dX12_raise_16 (by decide) (fun c_16 => ?_) (fun c_16 => ?_)
        · have t_16 : ((k5 : Nat) : Int) ≥ ((C : Nat) : Int) := toI_ge c_16 (nI_toInt (by omega)) (nI_toInt (by omega))
          refine lv_iload_n hx hb dX12_raise_65 rfl (lv_at hl 2 rfl) ?_
          refine lv_iconst (v := (-1)) hx hb dX12_raise_66 (by decide) ?_
          refine lv_icmp_ne (tgt := 73) hx hb dX12_raise_67 (by decide) (fun c_67 => ?_) (fun c_67 => ?_)
          · have t_67 : (cq2).toInt ≠ -1 := toI_ne c_67 rfl (by decide)
            have ek5 : k5 = C := by omega
            obtain ⟨h1c, h2c, h3c, h4c, h5c⟩ := hc.resolve_left (fun h => c_67 h.1)
            subst h1c
            refine lv_aload_n hx hb dX12_raise_73 rfl (lv_at hl 0 rfl) ?_
            refine lv_iload_n hx hb dX12_raise_74 rfl (lv_at hl 2 rfl) ?_
            have hFc := allFree hD hS hA
            refine va_calli (va_runV (As := [.int (nI cb)]) (rest := []) ⟨hx, hb, hml, hown, hts⟩ (r_X12_leaving l dC dI a k h0 (fT vi 11 qk1) (fT vj 12 qd1) (fT (fT (fT (fT (fT vF 0 g1) 2 f21) 3 f31) 4 f41) 5 f51) (fT (fT (fT vG 1 gs1) 7 F1) 8 L81) cb (fun i => (f51 i).toNatClampNeg) C R Gq t1 D1 m1 hB1 (by first | with_reducible assumption | decide | omega | rfl | assumption) (by first | with_reducible assumption | decide | omega | rfl | assumption) (by first | with_reducible assumption | decide | omega | rfl | assumption) (by first | with_reducible assumption | decide | omega | rfl | assumption) (by first | with_reducible assumption | decide | omega | rfl | assumption) (by first | with_reducible assumption | decide | omega | rfl | assumption) (hT1) (by first | with_reducible assumption | decide | omega | rfl | assumption) ((hsm _ _ _ _ hS1.1).2) (fun i hi => ⟨by have h9 := (hS1.r5 (by omega) (by omega) hi).2; show (f51 i).toNatClampNeg < 200; omega, (hS1.r5 (by omega) (by omega) hi).1⟩) H.size) (cwV 1 hts gwsRX12_raise_1 rfl rfl rfl hd_yX12_leaving_RX12 (by decide +kernel)) (fz_pre (va_recv hK hP (ci := 12) (q0 := 0) rfl rfl) hP hK hD) rfl rfl hl.1 rfl (lv_room (Nat.le_of_ble_eq_true rfl)) dX12_raise_75 (by decide +kernel)) hS (fun q _ h => hFc q h) hFc (fun r75 u t9_ H locs ht hvm hw9 hB9 hz1 hk1 hS => ?_)
            revert u hw9 hB9
            refine fz_p4 ?_
            intro g75 gs75 m275 b75 hw9 hB9
            try dsimp only at hw9 hB9
            have e9F : fT (fT (fT (fT (fT vF 0 g75) 2 f21) 3 f31) 4 f41) 5 f51 = fT (fT (fT (fT (fT (fT vF 0 g1) 2 f21) 3 f31) 4 f41) 5 f51) 0 g75 := ((fT_sw _ _ _ (Nat.ne_of_beq_eq_false rfl)).trans (congrArg (fun g9 => fT g9 5 f51) ((fT_sw _ _ _ (Nat.ne_of_beq_eq_false rfl)).trans (congrArg (fun g9 => fT g9 4 f41) ((fT_sw _ _ _ (Nat.ne_of_beq_eq_false rfl)).trans (congrArg (fun g9 => fT g9 3 f31) ((fT_sw _ _ _ (Nat.ne_of_beq_eq_false rfl)).trans (congrArg (fun g9 => fT g9 2 f21) (fT_sm _ _ _ _))))))))).symm
            have e9G : fT (fT (fT vG 1 gs75) 7 F1) 8 L81 = fT (fT (fT (fT vG 1 gs1) 7 F1) 8 L81) 1 gs75 := ((fT_sw _ _ _ (Nat.ne_of_beq_eq_false rfl)).trans (congrArg (fun g9 => fT g9 8 L81) ((fT_sw _ _ _ (Nat.ne_of_beq_eq_false rfl)).trans (congrArg (fun g9 => fT g9 7 F1) (fT_sm _ _ _ _))))).symm
            have hP := wr_PG e9G (wr_PF e9F (fz_P ht hB9.1))
            have hD := wr_DG e9G (wr_DF e9F (hB9.2.weaken (fun _ q _ h => hFc q.1 h)))
            clear e9F e9G
            rcases hw9 with ⟨rfl, f75_0, f75_1, f75_2⟩ | ⟨rfl, f75_0, f75_1, f75_2, f75_3⟩
            · refine lv_istore_n hx hb dX12_raise_78 rfl hl (by decide) rfl (fun ls (hl : lv_has ls _ ([(3, .int (-1)), (0, .ref h0), (1, .int (nI gn)), (2, .int (nI cb))])) => ?_)
              refine lv_iload_n hx hb dX12_raise_79 rfl (lv_at hl 0 rfl) ?_
              refine lv_iconst (v := (-1)) hx hb dX12_raise_80 (by decide) ?_
              refine lv_icmp_ne (tgt := 86) hx hb dX12_raise_81 (by decide) (fun c9 => absurd c9 (by decide)) (fun _ => ?_)
              refine lv_iconst (v := 0) hx hb dX12_raise_84 (by decide) ?_
              refine W.widen (k := 0) (n := 0) (by decide +kernel) (by decide +kernel) ?_
              have e9 : fT (fT (fT (fT (fT (fT vF 0 g75) 2 f21) 3 f31) 4 f41) 5 f51) 6 (vF 6) = fT (fT (fT (fT (fT vF 0 g75) 2 f21) 3 f31) 4 f41) 5 f51 := fT_id _ _ ((fT_ne _ _ (Nat.ne_of_beq_eq_false rfl)).trans ((fT_ne _ _ (Nat.ne_of_beq_eq_false rfl)).trans ((fT_ne _ _ (Nat.ne_of_beq_eq_false rfl)).trans ((fT_ne _ _ (Nat.ne_of_beq_eq_false rfl)).trans (fT_ne _ _ (Nat.ne_of_beq_eq_false rfl))))))
              have hP := wr_PF e9 hP
              have hD := wr_DF e9 hD
              clear e9
              exact W.zret (v := 0) hx hb hr rfl (fun t9_ ht hW => ⟨⟨0, (g75, f21, f31, f41, f51, (vF 6), gs75, F1, L81, qk1, qd1, m275, t1, D1), rfl, by (try dsimp only); exact ⟨f75_0, hT1.frame (fun p hp => f75_1 p (by omega) (by omega)), hS1, hG1, fun q hq => by (rw [f75_1 _ (by omega) (by omega)]); exact ho q hq, Or.inl rfl⟩, by rw [ht]; exact hP, hD⟩, hS.F ht⟩) hS.2.2 dX12_raise_85
            · refine lv_istore_n hx hb dX12_raise_78 rfl hl (by decide) rfl (fun ls (hl : lv_has ls _ ([(3, .int (nI b75)), (0, .ref h0), (1, .int (nI gn)), (2, .int (nI cb))])) => ?_)
              refine lv_iload_n hx hb dX12_raise_79 rfl (lv_at hl 0 rfl) ?_
              refine lv_iconst (v := (-1)) hx hb dX12_raise_80 (by decide) ?_
              refine lv_icmp_ne (tgt := 86) hx hb dX12_raise_81 (by decide) (fun c_81 => ?_) (fun c_81 => ?_)
              · have t_81 : ((b75 : Nat) : Int) ≠ -1 := toI_ne c_81 (nI_toInt (by omega)) (by decide)
                have hp9 : t1 b75 cb ≠ 0 := by have := (f75_3).1; omega
                refine lv_aload_n hx hb dX12_raise_86 rfl (lv_at hl 1 rfl) ?_
                refine lv_iload_n hx hb dX12_raise_87 rfl (lv_at hl 0 rfl) ?_
                refine lv_iload_n hx hb dX12_raise_88 rfl (lv_at hl 3 rfl) ?_
                have hFc := allFree hD hS hA
                refine va_callv (va_runV (As := [.int (nI b75), .int (nI cb)]) (rest := []) ⟨hx, hb, hml, hown, hts⟩ (r_X12_pivot l dC dI a k h0 (fT vi 11 qk1) (fT vj 12 qd1) (fT (fT (fT (fT (fT vF 0 g75) 2 f21) 3 f31) 4 f41) 5 f51) (fT (fT (fT vG 1 gs75) 7 F1) 8 L81) b75 cb C R Gq t1 D1 m275 f75_0 (by first | with_reducible assumption | decide | omega | rfl | assumption) (by first | with_reducible assumption | decide | omega | rfl | assumption) (by first | with_reducible assumption | decide | omega | rfl | assumption) (by first | with_reducible assumption | decide | omega | rfl | assumption) (by first | with_reducible assumption | decide | omega | rfl | assumption) (by first | with_reducible assumption | decide | omega | rfl | assumption) (hT1.frame (fun p hp => f75_1 p (by omega) (by omega))) (f75_2) (by first | with_reducible assumption | decide | omega | rfl | assumption) (hS1.1.2.1) (hp9) ((hsm _ _ _ _ hS1.1).2) H.size) (cwV 2 hts gwsRX12_raise_2 rfl rfl rfl hd_yX12_pivot_RX12 (by decide +kernel)) (fz_pre (va_recv hK hP (ci := 12) (q0 := 0) rfl rfl) hP hK hD) rfl rfl hl.1 rfl (lv_room (Nat.le_of_ble_eq_true rfl)) dX12_raise_89 (by decide +kernel)) hS (fun q _ h => hFc q h) hFc (fun u t9_ H locs ht hvm hw9 hB9 hz1 hk1 hS => ?_)
                revert u hw9 hB9
                refine fz_p9 ?_
                intro g89 f2w89 f3w89 gs89 qk89 qd89 F89 L889 m289 hw9 hB9
                try dsimp only at hw9 hB9
                have e9i : fT vi 11 qk89 = fT (fT vi 11 qk1) 11 qk89 := (fT_sm _ _ _ _).symm
                have e9j : fT vj 12 qd89 = fT (fT vj 12 qd1) 12 qd89 := (fT_sm _ _ _ _).symm
                have e9F : fT (fT (fT (fT (fT vF 0 g89) 2 f2w89) 3 f3w89) 4 (upd f41 (nI cb).toNatClampNeg (f51 b75))) 5 (upd f51 (nI b75).toNatClampNeg (f41 cb)) = fT (fT (fT (fT (fT (fT (fT (fT (fT (fT vF 0 g75) 2 f21) 3 f31) 4 f41) 5 f51) 0 g89) 2 f2w89) 3 f3w89) 4 (upd f41 (nI cb).toNatClampNeg (f51 b75))) 5 (upd f51 (nI b75).toNatClampNeg (f41 cb)) := Eq.symm (Eq.trans (congrArg (fun g9 => fT g9 5 (upd f51 (nI b75).toNatClampNeg (f41 cb))) (Eq.trans (congrArg (fun g9 => fT g9 4 (upd f41 (nI cb).toNatClampNeg (f51 b75))) (Eq.trans (congrArg (fun g9 => fT g9 3 f3w89) (Eq.trans (congrArg (fun g9 => fT g9 2 f2w89) (up_4 rfl)) (up_3 rfl))) (up_2 rfl))) (up_1 rfl))) (up_0 rfl))
                have e9G : fT (fT (fT vG 1 gs89) 7 F89) 8 L889 = fT (fT (fT (fT (fT (fT vG 1 gs75) 7 F1) 8 L81) 8 L889) 7 F89) 1 gs89 := ((congrArg (fun g9 => fT (fT g9 7 F89) 1 gs89) (fT_sm _ _ _ _)).trans ((congrArg (fun g9 => fT g9 1 gs89) ((fT_sw _ _ _ (Nat.ne_of_beq_eq_false rfl)).trans (congrArg (fun g9 => fT g9 8 L889) (fT_sm _ _ _ _)))).trans ((fT_sw _ _ _ (Nat.ne_of_beq_eq_false rfl)).trans (congrArg (fun g9 => fT g9 8 L889) ((fT_sw _ _ _ (Nat.ne_of_beq_eq_false rfl)).trans (congrArg (fun g9 => fT g9 7 F89) (fT_sm _ _ _ _))))))).symm
                have hP := wr_PG e9G (wr_PF e9F (wr_Pj e9j (wr_Pi e9i (fz_P ht hB9.1))))
                have hD := wr_DG e9G (wr_DF e9F (wr_Dj e9j (wr_Di e9i (hB9.2.weaken (fun _ q _ h => hFc q.1 h)))))
                clear e9i e9j e9F e9G
                revert hw9
                refine fz_a3 ?_
                intro f89_0 f89_1 f89_2
                obtain ⟨hS9, hG9, hst9, hE9⟩ := hS1.step hsm hRgn hgT (by omega) (by omega) hG1 hst (c := cb) (r := b75) (by omega) h3c h4c (fun k2 hk2 h6 hn => h5c k2 (by omega) h6 hn) f75_2 f75_3
                obtain ⟨N1, hN1, hE1⟩ := hE9 N hE
                have hN2 := hN.resolve_left (fun h => c_4 h.1)
                refine lv_goto (tgt := 2) hx hb dX12_raise_92 (by decide) ?_
                have hl : lv_has _ _ ([(0, .ref h0), (1, .int (nI gn)), (2, .int (nI cb))]) := lv_sub hl [1, 2, 3] rfl
                exact ih2 (nI cb) (nvT b75 cb (sgI (t1 b75 cb)) t1 D1) (sgI (t1 b75 cb) * t1 b75 cb) g89 f2w89 f3w89 (upd f41 (nI cb).toNatClampNeg (f51 b75)) (upd f51 (nI b75).toNatClampNeg (f41 cb)) gs89 F89 L889 qk89 qd89 m289 _ _ _ (f89_0) (f89_1) (hS9) (hG9) (hst9) (fun q hq => by (rw [f89_2 _ (by omega), f75_1 _ (by omega) (by omega)]); exact ho q hq) (⟨N1, hE1, Or.inr (by omega)⟩) hP hD hS hl
              · have t_81 : ((b75 : Nat) : Int) = -1 := toI_nne c_81 (nI_toInt (by omega)) (by decide)
                refine lv_iconst (v := 0) hx hb dX12_raise_84 (by decide) ?_
                refine W.widen (k := 0) (n := 0) (by decide +kernel) (by decide +kernel) ?_
                have e9 : fT (fT (fT (fT (fT (fT vF 0 g75) 2 f21) 3 f31) 4 f41) 5 f51) 6 (vF 6) = fT (fT (fT (fT (fT vF 0 g75) 2 f21) 3 f31) 4 f41) 5 f51 := fT_id _ _ ((fT_ne _ _ (Nat.ne_of_beq_eq_false rfl)).trans ((fT_ne _ _ (Nat.ne_of_beq_eq_false rfl)).trans ((fT_ne _ _ (Nat.ne_of_beq_eq_false rfl)).trans ((fT_ne _ _ (Nat.ne_of_beq_eq_false rfl)).trans (fT_ne _ _ (Nat.ne_of_beq_eq_false rfl))))))
                have hP := wr_PF e9 hP
                have hD := wr_DF e9 hD
                clear e9
                exact W.zret (v := 0) hx hb hr rfl (fun t9_ ht hW => ⟨⟨0, (g75, f21, f31, f41, f51, (vF 6), gs75, F1, L81, qk1, qd1, m275, t1, D1), rfl, by (try dsimp only); exact ⟨f75_0, hT1.frame (fun p hp => f75_1 p (by omega) (by omega)), hS1, hG1, fun q hq => by (rw [f75_1 _ (by omega) (by omega)]); exact ho q hq, Or.inl rfl⟩, by rw [ht]; exact hP, hD⟩, hS.F ht⟩) hS.2.2 dX12_raise_85
          · have t_67 : (cq2).toInt = -1 := toI_nne c_67 rfl (by decide)
            have hN2 := hN.resolve_left (fun h => c_4 h.1)
            subst c_67
            refine lv_goto (tgt := 2) hx hb dX12_raise_70 (by decide) ?_
            have hl : lv_has _ _ ([(0, .ref h0), (1, .int (nI gn)), (2, .int (-1))]) := lv_sub hl [0, 1, 2] rfl
            exact ih2 (-1) t1 D1 g1 f21 f31 f41 f51 gs1 F1 L81 qk1 qd1 m1 _ _ _ (hB1) (hT1) (hS1) (hG1) (hst) (ho) (⟨N, hE, Or.inl ⟨rfl, by omega⟩⟩) hP hD hS hl
        · have t_16 : ¬ ((k5 : Nat) : Int) ≥ ((C : Nat) : Int) := toI_nge c_16 (nI_toInt (by omega)) (nI_toInt (by omega))
          refine lv_aload_n hx hb dX12_raise_19 rfl (lv_at hl 0 rfl) ?_
          refine va_get (D := (dC, dI)) (ci := 12) (v := .ref (a 6)) (C := RX12) (T := TX12) (N := 163) (fs := fM (vS a (fT vi 11 qk1) (fT vj 12 qd1))) hx hb hts iwsRX12_raise_in12 hown hK hP 0 rfl rfl 10 (by decide) (hts _ hm_r_X12_raise_1) (fun _ h9 => h9) rfl dX12_raise_20 ?_
          refine lv_iload_n hx hb dX12_raise_23 rfl (lv_at hl 3 rfl) ?_
          refine va_zald (cA := k 6) (n := 46) (f := (vF 6)) hx hb hK hP 7 6 (WR_get 6 (by decide)) (TR_get 6 (by decide)) (vp_in_nI (show k5 < 46 by omega) (by omega)) dX12_raise_24 ?_
          refine lv_topi (fun y4 hy4 => ?_)
          obtain rfl : ((vF 6) k5) = y4 := (hy4.trans (by rw [nI_clamp (by omega)])).symm
          refine lv_if_ne (tgt := 59) hx hb dX12_raise_25 (by decide) (fun c_25 => ?_) (fun c_25 => ?_)
          · have t_25 : (((vF 6) k5)).toInt ≠ 0 := toI_ne c_25 rfl (by decide)
            refine lv_iinc (v := (nI (k5 + 1))) hx hb dX12_raise_59 hl (k := 3) rfl (nI_add k5 1) (by decide) rfl (fun ls (hl : lv_has ls _ ([(3, .int (nI (k5 + 1))), (0, .ref h0), (1, .int (nI gn)), (2, .int cq2)])) => ?_)
            refine lv_goto (tgt := 11) hx hb dX12_raise_62 (by decide) ?_
            have hl : lv_has _ _ ([(0, .ref h0), (1, .int (nI gn)), (2, .int cq2), (3, .int (nI (k5 + 1)))]) := lv_sub hl [1, 2, 3, 0] rfl
            exact ih11_2 (k5 + 1) cq2 cb _ _ _ (by omega) (by rcases hc with ⟨h1, h2⟩ | ⟨h1, h2, h3, h4, h5⟩; (exact Or.inl ⟨h1, fun k2 hk2 h6 => by by_cases e9 : k2 = k5; (exact absurd (by rw [← e9]; exact h6) c_25); (exact h2 k2 (by omega) h6)⟩); (exact Or.inr ⟨h1, by omega, h3, h4, fun k2 hk2 h6 hn => by by_cases e9 : k2 = k5; (exact absurd (by rw [← e9]; exact h6) c_25); (exact h5 k2 (by omega) h6 hn)⟩)) (by omega) hP hD hS hl
          · have t_25 : (((vF 6) k5)).toInt = 0 := toI_nne c_25 rfl (by decide)
            refine lv_aload_n hx hb dX12_raise_28 rfl (lv_at hl 0 rfl) ?_
            refine lv_iload_n hx hb dX12_raise_29 rfl (lv_at hl 1 rfl) ?_
            refine lv_iload_n hx hb dX12_raise_30 rfl (lv_at hl 3 rfl) ?_
            have hFc := allFree hD hS hA
            refine va_calli (va_runV (As := [.int (nI gn), .int (nI k5)]) (rest := []) ⟨hx, hb, hml, hown, hts⟩ (r_X12_signAt l dC dI a k h0 (fT vi 11 qk1) (fT vj 12 qd1) (fT (fT (fT (fT (fT vF 0 g1) 2 f21) 3 f31) 4 f41) 5 f51) (fT (fT (fT vG 1 gs1) 7 F1) 8 L81) gn k5 C (R + Gq) t1 D1 m1 hB1 (by first | with_reducible assumption | decide | omega | rfl | assumption) (hT1) (by first | with_reducible assumption | decide | omega | rfl | assumption) (by first | with_reducible assumption | decide | omega | rfl | assumption) (by first | with_reducible assumption | decide | omega | rfl | assumption) (by first | with_reducible assumption | decide | omega | rfl | assumption) (by first | with_reducible assumption | decide | omega | rfl | assumption) H.size) (cwV 2 hts gwsRX12_raise_0 rfl rfl rfl hd_yX12_signAt_RX12 (by decide +kernel)) (fz_pre (va_recv hK hP (ci := 12) (q0 := 0) rfl rfl) hP hK hD) rfl rfl hl.1 rfl (lv_room (Nat.le_of_ble_eq_true rfl)) dX12_raise_31 (by decide +kernel)) hS (fun q _ h => hFc q h) hFc (fun r31 u t9_ H locs ht hvm hw9 hB9 hz1 hk1 hS => ?_)
            have hP : va_P (dC, dI) vwCl (WR a k h0 (fT vi 11 qk1) (fT vj 12 qd1) (fT (fT (fT (fT (fT vF 0 g1) 2 f21) 3 f31) 4 f41) 5 f51) (fT (fT (fT vG 1 gs1) 7 F1) 8 L81)) H := fz_P ht hB9.1
            have hD := fz_sd hP (hB9.2.weaken (fun _ q _ h => hFc q.1 h)) rfl
            have f31_0 := hw9
            try dsimp only at f31_0
            refine lv_if_ge (tgt := 59) hx hb dX12_raise_34 (by decide) (fun c_34 => ?_) (fun c_34 => ?_)
            · have t_34 : (r31).toInt ≥ 0 := toI_ge c_34 rfl (by decide)
              refine lv_iinc (v := (nI (k5 + 1))) hx hb dX12_raise_59 hl (k := 3) rfl (nI_add k5 1) (by decide) rfl (fun ls (hl : lv_has ls _ ([(3, .int (nI (k5 + 1))), (0, .ref h0), (1, .int (nI gn)), (2, .int cq2)])) => ?_)
              refine lv_goto (tgt := 11) hx hb dX12_raise_62 (by decide) ?_
              have hl : lv_has _ _ ([(0, .ref h0), (1, .int (nI gn)), (2, .int cq2), (3, .int (nI (k5 + 1)))]) := lv_sub hl [1, 2, 3, 0] rfl
              exact ih11_2 (k5 + 1) cq2 cb _ _ _ (by omega) (by rcases hc with ⟨h1, h2⟩ | ⟨h1, h2, h3, h4, h5⟩; (exact Or.inl ⟨h1, fun k2 hk2 h6 => by by_cases e9 : k2 = k5; (rw [e9]; omega); (exact h2 k2 (by omega) h6)⟩); (exact Or.inr ⟨h1, by omega, h3, h4, fun k2 hk2 h6 hn => by by_cases e9 : k2 = k5; (rw [e9] at hn; omega); (exact h5 k2 (by omega) h6 hn)⟩)) (by omega) hP hD hS hl
            · have t_34 : ¬ (r31).toInt ≥ 0 := toI_nge c_34 rfl (by decide)
              refine lv_iload_n hx hb dX12_raise_37 rfl (lv_at hl 2 rfl) ?_
              refine lv_iconst (v := (-1)) hx hb dX12_raise_38 (by decide) ?_
              refine lv_icmp_eq (tgt := 57) hx hb dX12_raise_39 (by decide) (fun c_39 => ?_) (fun c_39 => ?_)
              · have t_39 : (cq2).toInt = -1 := toI_eq c_39 rfl (by decide)
                refine lv_iload_n hx hb dX12_raise_57 rfl (lv_at hl 3 rfl) ?_
                refine lv_istore_n hx hb dX12_raise_58 rfl hl (by decide) rfl (fun ls (hl : lv_has ls _ ([(2, .int (nI k5)), (0, .ref h0), (1, .int (nI gn)), (3, .int (nI k5))])) => ?_)
                refine lv_iinc (v := (nI (k5 + 1))) hx hb dX12_raise_59 hl (k := 3) rfl (nI_add k5 1) (by decide) rfl (fun ls (hl : lv_has ls _ ([(3, .int (nI (k5 + 1))), (2, .int (nI k5)), (0, .ref h0), (1, .int (nI gn))])) => ?_)
                refine lv_goto (tgt := 11) hx hb dX12_raise_62 (by decide) ?_
                have hl : lv_has _ _ ([(0, .ref h0), (1, .int (nI gn)), (2, .int (nI k5)), (3, .int (nI (k5 + 1)))]) := lv_sub hl [2, 3, 1, 0] rfl
                exact ih11_2 (k5 + 1) (nI k5) k5 _ _ _ (by omega) (by (have h2 : ∀ k2, k2 < k5 → vF 6 k2 = 0 → 0 ≤ t1 gn k2 := by rcases hc with ⟨h1, h2⟩ | ⟨h1, h2, h3⟩; (exact h2); (exfalso; (have h9 := nI_toInt (n := cb) (by omega)); rw [← h1, c_39] at h9; (have h8 : ((-1 : Int32)).toInt = -1 := by decide); omega)); exact Or.inr ⟨rfl, by omega, c_25, by omega, fun k2 hk2 h6 hn => by by_cases e9 : k2 = k5; (rw [e9]; exact Nat.le_refl _); (have h9 := h2 k2 (by omega) h6; omega)⟩) (by omega) hP hD hS hl
              · have t_39 : ¬ (cq2).toInt = -1 := toI_neq c_39 rfl (by decide)
                obtain ⟨h1c, h2c, h3c, h4c, h5c⟩ := hc.resolve_left (fun h => c_39 h.1)
                subst h1c
                have lc1 := (hS1.c4 (by omega) (by omega) (show k5 < C by omega)).2
                have lc2 := (hS1.c4 (by omega) (by omega) (show cb < C by omega)).2
                refine lv_aload_n hx hb dX12_raise_42 rfl (lv_at hl 0 rfl) ?_
                refine va_get (D := (dC, dI)) (ci := 12) (v := .ref (a 4)) (C := RX12) (T := TX12) (N := 163) (fs := fM (vS a (fT vi 11 qk1) (fT vj 12 qd1))) hx hb hts iwsRX12_raise_in12 hown hK hP 0 rfl rfl 8 (by decide) (hts _ hm_r_X12_raise_2) (fun _ h9 => h9) rfl dX12_raise_43 ?_
                refine lv_iload_n hx hb dX12_raise_46 rfl (lv_at hl 3 rfl) ?_
                refine va_iald (cA := k 4) (n := 46) (f := f41) hx hb hK hP 5 4 (WR_get 4 (by decide)) (TR_get 4 (by decide)) (vp_in_nI (show k5 < 46 by omega) (by omega)) dX12_raise_47 ?_
                refine lv_topi (fun y5 hy5 => ?_)
                obtain rfl : (f41 k5) = y5 := (hy5.trans (by rw [nI_clamp (by omega)])).symm
                refine lv_topi (fun y6 hy6 => ?_)
                obtain rfl : (nI ((f41 k5).toNatClampNeg)) = y6 := (hy6.trans ((hS1.c4 (by omega) (by omega) (by omega)).1)).symm
                refine lv_aload_n hx hb dX12_raise_48 rfl (lv_at hl 0 rfl) ?_
                refine va_get (D := (dC, dI)) (ci := 12) (v := .ref (a 4)) (C := RX12) (T := TX12) (N := 163) (fs := fM (vS a (fT vi 11 qk1) (fT vj 12 qd1))) hx hb hts iwsRX12_raise_in12 hown hK hP 0 rfl rfl 8 (by decide) (hts _ hm_r_X12_raise_2) (fun _ h9 => h9) rfl dX12_raise_49 ?_
                refine lv_iload_n hx hb dX12_raise_52 rfl (lv_at hl 2 rfl) ?_
                refine va_iald (cA := k 4) (n := 46) (f := f41) hx hb hK hP 5 4 (WR_get 4 (by decide)) (TR_get 4 (by decide)) (vp_in_nI (show cb < 46 by omega) (by omega)) dX12_raise_53 ?_
                refine lv_topi (fun y7 hy7 => ?_)
                obtain rfl : (f41 cb) = y7 := (hy7.trans (by rw [nI_clamp (by omega)])).symm
                refine lv_topi (fun y8 hy8 => ?_)
                obtain rfl : (nI ((f41 cb).toNatClampNeg)) = y8 := (hy8.trans ((hS1.c4 (by omega) (by omega) (by omega)).1)).symm
                refine lv_icmp_ge (tgt := 59) hx hb dX12_raise_54 (by decide) (fun c_54 => ?_) (fun c_54 => ?_)
                · have t_54 : ((((f41 k5).toNatClampNeg) : Nat) : Int) ≥ ((((f41 cb).toNatClampNeg) : Nat) : Int) := toI_ge c_54 (nI_toInt (by omega)) (nI_toInt (by omega))
                  refine lv_iinc (v := (nI (k5 + 1))) hx hb dX12_raise_59 hl (k := 3) rfl (nI_add k5 1) (by decide) rfl (fun ls (hl : lv_has ls _ ([(3, .int (nI (k5 + 1))), (0, .ref h0), (1, .int (nI gn)), (2, .int (nI cb))])) => ?_)
                  refine lv_goto (tgt := 11) hx hb dX12_raise_62 (by decide) ?_
                  have hl : lv_has _ _ ([(0, .ref h0), (1, .int (nI gn)), (2, .int (nI cb)), (3, .int (nI (k5 + 1)))]) := lv_sub hl [1, 2, 3, 0] rfl
                  exact ih11_2 (k5 + 1) (nI cb) cb _ _ _ (by omega) (Or.inr ⟨rfl, by omega, h3c, h4c, fun k2 hk2 h6 hn => by by_cases e9 : k2 = k5; (rw [e9]; omega); (exact h5c k2 (by omega) h6 hn)⟩) (by omega) hP hD hS hl
                · have t_54 : ¬ ((((f41 k5).toNatClampNeg) : Nat) : Int) ≥ ((((f41 cb).toNatClampNeg) : Nat) : Int) := toI_nge c_54 (nI_toInt (by omega)) (nI_toInt (by omega))
                  refine lv_iload_n hx hb dX12_raise_57 rfl (lv_at hl 3 rfl) ?_
                  refine lv_istore_n hx hb dX12_raise_58 rfl hl (by decide) rfl (fun ls (hl : lv_has ls _ ([(2, .int (nI k5)), (0, .ref h0), (1, .int (nI gn)), (3, .int (nI k5))])) => ?_)
                  refine lv_iinc (v := (nI (k5 + 1))) hx hb dX12_raise_59 hl (k := 3) rfl (nI_add k5 1) (by decide) rfl (fun ls (hl : lv_has ls _ ([(3, .int (nI (k5 + 1))), (2, .int (nI k5)), (0, .ref h0), (1, .int (nI gn))])) => ?_)
                  refine lv_goto (tgt := 11) hx hb dX12_raise_62 (by decide) ?_
                  have hl : lv_has _ _ ([(0, .ref h0), (1, .int (nI gn)), (2, .int (nI k5)), (3, .int (nI (k5 + 1)))]) := lv_sub hl [2, 3, 1, 0] rfl
                  exact ih11_2 (k5 + 1) (nI k5) k5 _ _ _ (by omega) (Or.inr ⟨rfl, by omega, c_25, by omega, fun k2 hk2 h6 hn => by by_cases e9 : k2 = k5; (rw [e9]; exact Nat.le_refl _); (have h9 := h5c k2 (by omega) h6 hn; omega)⟩) (by omega) hP hD hS hl
end
section
theorem SxF.start {C R T : Nat} {a : Nat → Nat → Int} {rl cl : Nat → Nat} (hr : ∀ i, i < T → rl i = C + 1 + i) (hc : ∀ j, j ≤ C → cl j = j) : SxF C R T a a 1 rl cl := by
  have hB : (List.range T).map rl = List.range' (C + 1) T := by
    rw [List.range'_eq_map_range]; exact List.map_congr_left (fun i hi => hr i (List.mem_range.mp hi))
  refine ⟨⟨1, ?_⟩, by decide, ⟨fun i k hi hk h => ?_, fun j k hj hk h => ?_, fun i j hi hj h => ?_⟩, fun x hx i hi => ?_, fun i _ hi => hr i hi, hc C (Nat.le_refl _), fun i hi => ?_, fun j hj => ?_⟩
  · rw [hB]
    obtain ⟨h1, h2, h3, h4⟩ := Rep.init T (C + 1) a
    exact ⟨h1, h2, h3, fun i hi j hj => by rw [hc j (by omega)]; exact h4 i hi j hj⟩
  · have h : rl i = rl k := h
    rw [hr i hi, hr k hk] at h; omega
  · have h : cl j = cl k := h
    rw [hc j (by omega), hc k (by omega)] at h; exact h
  · have h : rl i = cl j := h
    rw [hr i hi, hc j (by omega)] at h; omega
  · have h1 := hx i hi
    have h1 : (1 : Int) * x (rl i) + iS (C + 1) (fun j => a i j * x (cl j)) = 0 := h1
    rw [hr i hi] at h1
    show (1 : Int) * x (C + 1 + i) + iS (C + 1) (fun j => a i j * x j) = 0
    rw [iS_congr (g := fun j => a i j * x (cl j)) (fun j hj => by rw [hc j (by omega)])]; exact h1
  · rw [hr i hi]; omega
  · rw [hc j hj]; omega
theorem Sx.start {C R T : Nat} {a : Nat → Nat → Int} {f4 f5 : Nat → Int32} (hRT : R ≤ T) (hC : C ≤ 45) (hT : T < 60) (h4 : ∀ j, j < C → f4 j = nI j) (h5 : ∀ i, i < R → f5 i = nI (C + i)) : Sx C R T a a 1 f4 f5 := by
  refine ⟨SxF.start (fun i hi => ?_) (fun j hj => ?_), fun j hj => ⟨j, by omega, h4 j hj⟩, fun i hi => ⟨C + i, by omega, h5 i hi⟩⟩
  · unfold rlF; split
    · rename_i h; rw [h5 i h, nI_clamp (by omega)]; unfold gl; rw [if_neg (by omega)]; omega
    · rfl
  · unfold clF; split
    · rename_i h; rw [h4 j h, nI_clamp (by omega)]; unfold gl; rw [if_pos h]
    · omega
/-- the first exchange, for the help: no number is below nought behind it -/
theorem first_ex {C R lb : Nat} {a : Nat → Nat → Int} (hC : 0 < C) (hlb : lb < R) (ha : ∀ i, i < R → a i (C - 1) = -1) (hn : a lb C < 0) (hl : ∀ i, i < R → a lb C ≤ a i C) : ∀ i, i < R → 0 ≤ nvT lb (C - 1) (sgI (a lb (C - 1))) a 1 i C := by
  intro i hi
  have hg : sgI (a lb (C - 1)) = -1 := sgI_n (by rw [ha lb hlb]; decide)
  unfold nvT
  rw [hg]
  by_cases e : i = lb
  · rw [if_pos e, if_neg (by omega)]; omega
  · rw [if_neg e, if_neg (by omega), ha lb hlb, ha i hi, Int.tdiv_one]
    have := hl i hi; omega
theorem Sx.help0 {C R T : Nat} {a t : Nat → Nat → Int} {D : Int} {f4 f5 : Nat → Int32} (h : Sx C R T a t D f4 f5) (hC : 0 < C) (hC45 : C ≤ 45) (hRT : R < T) (ha : ∀ j, j ≤ C → a R j = if j = C - 1 then 1 else 0) {i : Nat} (hi : i < R) (hf : f5 i = nI (C - 1)) (hG : ∀ i, i < R → 0 ≤ t i C) (hR : 0 ≤ t R C) : t i C = 0 ∧ t R C = 0 := by
  have hl : rlF C R f5 i = C - 1 := by unfold rlF; rw [if_pos hi, hf, nI_clamp (by omega)]; unfold gl; rw [if_pos (by omega)]
  have h1 := help_row h.1 hC hRT ha (by omega) hl
  have h2 := hG i hi
  omega
/-- an exchange in a row whose number is nought leaves the signs of the numbers -/
theorem Sx.flat {C R T : Nat} {a t : Nat → Nat → Int} {D : Int} {f4 f5 : Nat → Int32} (h : Sx C R T a t D f4 f5) {r c : Nat} (hr : r < R) (hRT : R ≤ T) (hc : c < C) (hp : t r c ≠ 0) (h0 : t r C = 0) {i : Nat} (hi : i < T) (hG : 0 ≤ t i C) : 0 ≤ nvT r c (sgI (t r c)) t D i C := by
  have hD := h.1.2.1
  by_cases e : i = r
  · subst e; rw [nv_row _ _ _ _ _ (by omega), h0, Int.mul_zero]; exact Int.le_refl _
  · obtain ⟨q, hq⟩ := h.1.exact (show r < T by omega) (show c ≤ C by omega) hi (Nat.le_refl C) e
    have e1 : D * nvT r c (sgI (t r c)) t D i C = sgI (t r c) * (t i C * t r c - t i c * t r C) := by
      unfold nvT; rw [if_neg e, if_neg (by omega)]; exact nv_exact (by omega) hq _
    rw [h0, Int.mul_zero, Int.sub_zero, Int.mul_left_comm] at e1
    have h2 : 0 ≤ t i C * (sgI (t r c) * t r c) := Int.mul_nonneg hG (Int.le_of_lt (sgI_pos hp))
    rw [← e1] at h2
    exact Int.nonneg_of_mul_nonneg_right h2 hD
end
section
theorem hd_yX12_hasten_RX12 : yX12_hasten.cls = RX12 ∧ yX12_hasten.cls ≠ "java/lang/invoke/MethodHandle" ∧ yX12_hasten.cls ≠ "java/lang/invoke/VarHandle" ∧ (parseMethodDescriptor yX12_hasten.desc).map (fun d => d.parameters.length) = some 0 := by decide +kernel
theorem hd_yX12_raise_RX12 : yX12_raise.cls = RX12 ∧ yX12_raise.cls ≠ "java/lang/invoke/MethodHandle" ∧ yX12_raise.cls ≠ "java/lang/invoke/VarHandle" ∧ (parseMethodDescriptor yX12_raise.desc).map (fun d => d.parameters.length) = some 1 := by decide +kernel
theorem dX12_canKeep_0 : decode cX12_canKeep 0 = .ok (.aload_n 0, 1) := dk_42 (by decide +kernel)
theorem dX12_canKeep_1 : decode cX12_canKeep 1 = .ok (.getfield 396, 3) := dk_180 (by decide +kernel)
theorem dX12_canKeep_4 : decode cX12_canKeep 4 = .ok (.iconst 1, 1) := dk_4 (by decide +kernel)
theorem dX12_canKeep_5 : decode cX12_canKeep 5 = .ok (.isub, 1) := dk_100 (by decide +kernel)
theorem dX12_canKeep_6 : decode cX12_canKeep 6 = .ok (.istore_n 1, 1) := dk_60 (by decide +kernel)
theorem dX12_canKeep_7 : decode cX12_canKeep 7 = .ok (.iconst (-1), 1) := dk_2 (by decide +kernel)
theorem dX12_canKeep_8 : decode cX12_canKeep 8 = .ok (.istore_n 2, 1) := dk_61 (by decide +kernel)
theorem dX12_canKeep_9 : decode cX12_canKeep 9 = .ok (.iconst 0, 1) := dk_3 (by decide +kernel)
theorem dX12_canKeep_10 : decode cX12_canKeep 10 = .ok (.istore_n 3, 1) := dk_62 (by decide +kernel)
theorem dX12_canKeep_11 : decode cX12_canKeep 11 = .ok (.iload_n 3, 1) := dk_29 (by decide +kernel)
theorem dX12_canKeep_12 : decode cX12_canKeep 12 = .ok (.aload_n 0, 1) := dk_42 (by decide +kernel)
theorem dX12_canKeep_13 : decode cX12_canKeep 13 = .ok (.getfield 399, 3) := dk_180 (by decide +kernel)
theorem dX12_canKeep_16 : decode cX12_canKeep 16 = .ok (.if_icmp .ge 57, 3) := dk_162 (by decide +kernel)
theorem dX12_canKeep_19 : decode cX12_canKeep 19 = .ok (.aload_n 0, 1) := dk_42 (by decide +kernel)
theorem dX12_canKeep_20 : decode cX12_canKeep 20 = .ok (.aload_n 0, 1) := dk_42 (by decide +kernel)
theorem dX12_canKeep_21 : decode cX12_canKeep 21 = .ok (.iload_n 3, 1) := dk_29 (by decide +kernel)
theorem dX12_canKeep_22 : decode cX12_canKeep 22 = .ok (.aload_n 0, 1) := dk_42 (by decide +kernel)
theorem dX12_canKeep_23 : decode cX12_canKeep 23 = .ok (.getfield 396, 3) := dk_180 (by decide +kernel)
theorem dX12_canKeep_26 : decode cX12_canKeep 26 = .ok (.invokevirtual 405, 3) := dk_182 (by decide +kernel)
theorem dX12_canKeep_29 : decode cX12_canKeep 29 = .ok (.invokevirtual 353, 3) := dk_182 (by decide +kernel)
theorem dX12_canKeep_32 : decode cX12_canKeep 32 = .ok (.ifCond .ge 35, 3) := dk_156 (by decide +kernel)
theorem dX12_canKeep_35 : decode cX12_canKeep 35 = .ok (.iload_n 2, 1) := dk_28 (by decide +kernel)
theorem dX12_canKeep_36 : decode cX12_canKeep 36 = .ok (.iconst (-1), 1) := dk_2 (by decide +kernel)
theorem dX12_canKeep_37 : decode cX12_canKeep 37 = .ok (.if_icmp .eq 28, 3) := dk_159 (by decide +kernel)
theorem dX12_canKeep_40 : decode cX12_canKeep 40 = .ok (.aload_n 0, 1) := dk_42 (by decide +kernel)
theorem dX12_canKeep_41 : decode cX12_canKeep 41 = .ok (.aload_n 0, 1) := dk_42 (by decide +kernel)
theorem dX12_canKeep_42 : decode cX12_canKeep 42 = .ok (.iload_n 3, 1) := dk_29 (by decide +kernel)
theorem dX12_canKeep_43 : decode cX12_canKeep 43 = .ok (.aload_n 0, 1) := dk_42 (by decide +kernel)
theorem dX12_canKeep_44 : decode cX12_canKeep 44 = .ok (.getfield 396, 3) := dk_180 (by decide +kernel)
theorem dX12_canKeep_47 : decode cX12_canKeep 47 = .ok (.invokevirtual 405, 3) := dk_182 (by decide +kernel)
theorem dX12_canKeep_50 : decode cX12_canKeep 50 = .ok (.aload_n 0, 1) := dk_42 (by decide +kernel)
theorem dX12_canKeep_51 : decode cX12_canKeep 51 = .ok (.iload_n 2, 1) := dk_28 (by decide +kernel)
theorem dX12_canKeep_52 : decode cX12_canKeep 52 = .ok (.aload_n 0, 1) := dk_42 (by decide +kernel)
theorem dX12_canKeep_53 : decode cX12_canKeep 53 = .ok (.getfield 396, 3) := dk_180 (by decide +kernel)
theorem dX12_canKeep_56 : decode cX12_canKeep 56 = .ok (.invokevirtual 405, 3) := dk_182 (by decide +kernel)
theorem dX12_canKeep_59 : decode cX12_canKeep 59 = .ok (.invokevirtual 393, 3) := dk_182 (by decide +kernel)
theorem dX12_canKeep_62 : decode cX12_canKeep 62 = .ok (.ifCond .ge 5, 3) := dk_156 (by decide +kernel)
theorem dX12_canKeep_65 : decode cX12_canKeep 65 = .ok (.iload_n 3, 1) := dk_29 (by decide +kernel)
theorem dX12_canKeep_66 : decode cX12_canKeep 66 = .ok (.istore_n 2, 1) := dk_61 (by decide +kernel)
theorem dX12_canKeep_67 : decode cX12_canKeep 67 = .ok (.iinc 3 1, 3) := dk_132 (by decide +kernel)
theorem dX12_canKeep_70 : decode cX12_canKeep 70 = .ok (.goto (-59), 3) := dk_167 (by decide +kernel)
theorem dX12_canKeep_73 : decode cX12_canKeep 73 = .ok (.aload_n 0, 1) := dk_42 (by decide +kernel)
theorem dX12_canKeep_74 : decode cX12_canKeep 74 = .ok (.invokevirtual 462, 3) := dk_182 (by decide +kernel)
theorem dX12_canKeep_77 : decode cX12_canKeep 77 = .ok (.iload_n 2, 1) := dk_28 (by decide +kernel)
theorem dX12_canKeep_78 : decode cX12_canKeep 78 = .ok (.iconst (-1), 1) := dk_2 (by decide +kernel)
theorem dX12_canKeep_79 : decode cX12_canKeep 79 = .ok (.if_icmp .ne 12, 3) := dk_160 (by decide +kernel)
theorem dX12_canKeep_82 : decode cX12_canKeep 82 = .ok (.aload_n 0, 1) := dk_42 (by decide +kernel)
theorem dX12_canKeep_83 : decode cX12_canKeep 83 = .ok (.getfield 29, 3) := dk_180 (by decide +kernel)
theorem dX12_canKeep_86 : decode cX12_canKeep 86 = .ok (.iload_n 1, 1) := dk_27 (by decide +kernel)
theorem dX12_canKeep_87 : decode cX12_canKeep 87 = .ok (.iconst 1, 1) := dk_4 (by decide +kernel)
theorem dX12_canKeep_88 : decode cX12_canKeep 88 = .ok (.bastore, 1) := dk_84 (by decide +kernel)
theorem dX12_canKeep_89 : decode cX12_canKeep 89 = .ok (.iconst 1, 1) := dk_4 (by decide +kernel)
theorem dX12_canKeep_90 : decode cX12_canKeep 90 = .ok (.ireturn, 1) := dk_172 (by decide +kernel)
theorem dX12_canKeep_91 : decode cX12_canKeep 91 = .ok (.aload_n 0, 1) := dk_42 (by decide +kernel)
theorem dX12_canKeep_92 : decode cX12_canKeep 92 = .ok (.iload_n 2, 1) := dk_28 (by decide +kernel)
theorem dX12_canKeep_93 : decode cX12_canKeep 93 = .ok (.iload_n 1, 1) := dk_27 (by decide +kernel)
theorem dX12_canKeep_94 : decode cX12_canKeep 94 = .ok (.invokevirtual 456, 3) := dk_182 (by decide +kernel)
theorem dX12_canKeep_97 : decode cX12_canKeep 97 = .ok (.aload_n 0, 1) := dk_42 (by decide +kernel)
theorem dX12_canKeep_98 : decode cX12_canKeep 98 = .ok (.aload_n 0, 1) := dk_42 (by decide +kernel)
theorem dX12_canKeep_99 : decode cX12_canKeep 99 = .ok (.getfield 399, 3) := dk_180 (by decide +kernel)
theorem dX12_canKeep_102 : decode cX12_canKeep 102 = .ok (.invokevirtual 465, 3) := dk_182 (by decide +kernel)
theorem dX12_canKeep_105 : decode cX12_canKeep 105 = .ok (.pop, 1) := dk_87 (by decide +kernel)
theorem dX12_canKeep_106 : decode cX12_canKeep 106 = .ok (.aload_n 0, 1) := dk_42 (by decide +kernel)
theorem dX12_canKeep_107 : decode cX12_canKeep 107 = .ok (.aload_n 0, 1) := dk_42 (by decide +kernel)
theorem dX12_canKeep_108 : decode cX12_canKeep 108 = .ok (.getfield 399, 3) := dk_180 (by decide +kernel)
theorem dX12_canKeep_111 : decode cX12_canKeep 111 = .ok (.aload_n 0, 1) := dk_42 (by decide +kernel)
theorem dX12_canKeep_112 : decode cX12_canKeep 112 = .ok (.getfield 396, 3) := dk_180 (by decide +kernel)
theorem dX12_canKeep_115 : decode cX12_canKeep 115 = .ok (.invokevirtual 446, 3) := dk_182 (by decide +kernel)
theorem dX12_canKeep_118 : decode cX12_canKeep 118 = .ok (.ifCond .ge 5, 3) := dk_156 (by decide +kernel)
theorem dX12_canKeep_121 : decode cX12_canKeep 121 = .ok (.iconst 0, 1) := dk_3 (by decide +kernel)
theorem dX12_canKeep_122 : decode cX12_canKeep 122 = .ok (.ireturn, 1) := dk_172 (by decide +kernel)
theorem dX12_canKeep_123 : decode cX12_canKeep 123 = .ok (.iconst 0, 1) := dk_3 (by decide +kernel)
theorem dX12_canKeep_124 : decode cX12_canKeep 124 = .ok (.istore_n 3, 1) := dk_62 (by decide +kernel)
theorem dX12_canKeep_125 : decode cX12_canKeep 125 = .ok (.iload_n 3, 1) := dk_29 (by decide +kernel)
theorem dX12_canKeep_126 : decode cX12_canKeep 126 = .ok (.aload_n 0, 1) := dk_42 (by decide +kernel)
theorem dX12_canKeep_127 : decode cX12_canKeep 127 = .ok (.getfield 399, 3) := dk_180 (by decide +kernel)
theorem dX12_canKeep_130 : decode cX12_canKeep 130 = .ok (.if_icmp .ge 66, 3) := dk_162 (by decide +kernel)
theorem dX12_canKeep_133 : decode cX12_canKeep 133 = .ok (.aload_n 0, 1) := dk_42 (by decide +kernel)
theorem dX12_canKeep_134 : decode cX12_canKeep 134 = .ok (.getfield 26, 3) := dk_180 (by decide +kernel)
theorem dX12_canKeep_137 : decode cX12_canKeep 137 = .ok (.iload_n 3, 1) := dk_29 (by decide +kernel)
theorem dX12_canKeep_138 : decode cX12_canKeep 138 = .ok (.iaload, 1) := dk_46 (by decide +kernel)
theorem dX12_canKeep_139 : decode cX12_canKeep 139 = .ok (.iload_n 1, 1) := dk_27 (by decide +kernel)
theorem dX12_canKeep_140 : decode cX12_canKeep 140 = .ok (.if_icmp .eq 6, 3) := dk_159 (by decide +kernel)
theorem dX12_canKeep_143 : decode cX12_canKeep 143 = .ok (.goto 47, 3) := dk_167 (by decide +kernel)
theorem dX12_canKeep_146 : decode cX12_canKeep 146 = .ok (.iconst 0, 1) := dk_3 (by decide +kernel)
theorem dX12_canKeep_147 : decode cX12_canKeep 147 = .ok (.istore 4, 2) := dk_54 (by decide +kernel)
theorem dX12_canKeep_149 : decode cX12_canKeep 149 = .ok (.iload 4, 2) := dk_21 (by decide +kernel)
theorem dX12_canKeep_151 : decode cX12_canKeep 151 = .ok (.aload_n 0, 1) := dk_42 (by decide +kernel)
theorem dX12_canKeep_152 : decode cX12_canKeep 152 = .ok (.getfield 396, 3) := dk_180 (by decide +kernel)
theorem dX12_canKeep_155 : decode cX12_canKeep 155 = .ok (.if_icmp .ge 19, 3) := dk_162 (by decide +kernel)
theorem dX12_canKeep_158 : decode cX12_canKeep 158 = .ok (.aload_n 0, 1) := dk_42 (by decide +kernel)
theorem dX12_canKeep_159 : decode cX12_canKeep 159 = .ok (.iload_n 3, 1) := dk_29 (by decide +kernel)
theorem dX12_canKeep_160 : decode cX12_canKeep 160 = .ok (.iload 4, 2) := dk_21 (by decide +kernel)
theorem dX12_canKeep_162 : decode cX12_canKeep 162 = .ok (.invokevirtual 446, 3) := dk_182 (by decide +kernel)
theorem dX12_canKeep_165 : decode cX12_canKeep 165 = .ok (.ifCond .ne 9, 3) := dk_154 (by decide +kernel)
theorem dX12_canKeep_168 : decode cX12_canKeep 168 = .ok (.iinc 4 1, 3) := dk_132 (by decide +kernel)
theorem dX12_canKeep_171 : decode cX12_canKeep 171 = .ok (.goto (-22), 3) := dk_167 (by decide +kernel)
theorem dX12_canKeep_174 : decode cX12_canKeep 174 = .ok (.iload 4, 2) := dk_21 (by decide +kernel)
theorem dX12_canKeep_176 : decode cX12_canKeep 176 = .ok (.aload_n 0, 1) := dk_42 (by decide +kernel)
theorem dX12_canKeep_177 : decode cX12_canKeep 177 = .ok (.getfield 396, 3) := dk_180 (by decide +kernel)
theorem dX12_canKeep_180 : decode cX12_canKeep 180 = .ok (.if_icmp .ge 10, 3) := dk_162 (by decide +kernel)
theorem dX12_canKeep_183 : decode cX12_canKeep 183 = .ok (.aload_n 0, 1) := dk_42 (by decide +kernel)
theorem dX12_canKeep_184 : decode cX12_canKeep 184 = .ok (.iload_n 3, 1) := dk_29 (by decide +kernel)
theorem dX12_canKeep_185 : decode cX12_canKeep 185 = .ok (.iload 4, 2) := dk_21 (by decide +kernel)
theorem dX12_canKeep_187 : decode cX12_canKeep 187 = .ok (.invokevirtual 456, 3) := dk_182 (by decide +kernel)
theorem dX12_canKeep_190 : decode cX12_canKeep 190 = .ok (.iinc 3 1, 3) := dk_132 (by decide +kernel)
theorem dX12_canKeep_193 : decode cX12_canKeep 193 = .ok (.goto (-68), 3) := dk_167 (by decide +kernel)
theorem dX12_canKeep_196 : decode cX12_canKeep 196 = .ok (.iconst 0, 1) := dk_3 (by decide +kernel)
theorem dX12_canKeep_197 : decode cX12_canKeep 197 = .ok (.istore_n 3, 1) := dk_62 (by decide +kernel)
theorem dX12_canKeep_198 : decode cX12_canKeep 198 = .ok (.iload_n 3, 1) := dk_29 (by decide +kernel)
theorem dX12_canKeep_199 : decode cX12_canKeep 199 = .ok (.aload_n 0, 1) := dk_42 (by decide +kernel)
theorem dX12_canKeep_200 : decode cX12_canKeep 200 = .ok (.getfield 396, 3) := dk_180 (by decide +kernel)
theorem dX12_canKeep_203 : decode cX12_canKeep 203 = .ok (.if_icmp .ge 39, 3) := dk_162 (by decide +kernel)
theorem dX12_canKeep_206 : decode cX12_canKeep 206 = .ok (.aload_n 0, 1) := dk_42 (by decide +kernel)
theorem dX12_canKeep_207 : decode cX12_canKeep 207 = .ok (.getfield 29, 3) := dk_180 (by decide +kernel)
theorem dX12_canKeep_210 : decode cX12_canKeep 210 = .ok (.iload_n 3, 1) := dk_29 (by decide +kernel)
theorem dX12_canKeep_211 : decode cX12_canKeep 211 = .ok (.aload_n 0, 1) := dk_42 (by decide +kernel)
theorem dX12_canKeep_212 : decode cX12_canKeep 212 = .ok (.getfield 29, 3) := dk_180 (by decide +kernel)
theorem dX12_canKeep_215 : decode cX12_canKeep 215 = .ok (.iload_n 3, 1) := dk_29 (by decide +kernel)
theorem dX12_canKeep_216 : decode cX12_canKeep 216 = .ok (.baload, 1) := dk_51 (by decide +kernel)
theorem dX12_canKeep_217 : decode cX12_canKeep 217 = .ok (.ifCond .ne 13, 3) := dk_154 (by decide +kernel)
theorem dX12_canKeep_220 : decode cX12_canKeep 220 = .ok (.aload_n 0, 1) := dk_42 (by decide +kernel)
theorem dX12_canKeep_221 : decode cX12_canKeep 221 = .ok (.getfield 23, 3) := dk_180 (by decide +kernel)
theorem dX12_canKeep_224 : decode cX12_canKeep 224 = .ok (.iload_n 3, 1) := dk_29 (by decide +kernel)
theorem dX12_canKeep_225 : decode cX12_canKeep 225 = .ok (.iaload, 1) := dk_46 (by decide +kernel)
theorem dX12_canKeep_226 : decode cX12_canKeep 226 = .ok (.iload_n 1, 1) := dk_27 (by decide +kernel)
theorem dX12_canKeep_227 : decode cX12_canKeep 227 = .ok (.if_icmp .ne 7, 3) := dk_160 (by decide +kernel)
theorem dX12_canKeep_230 : decode cX12_canKeep 230 = .ok (.iconst 1, 1) := dk_4 (by decide +kernel)
theorem dX12_canKeep_231 : decode cX12_canKeep 231 = .ok (.goto 4, 3) := dk_167 (by decide +kernel)
theorem dX12_canKeep_234 : decode cX12_canKeep 234 = .ok (.iconst 0, 1) := dk_3 (by decide +kernel)
theorem dX12_canKeep_235 : decode cX12_canKeep 235 = .ok (.bastore, 1) := dk_84 (by decide +kernel)
theorem dX12_canKeep_236 : decode cX12_canKeep 236 = .ok (.iinc 3 1, 3) := dk_132 (by decide +kernel)
theorem dX12_canKeep_239 : decode cX12_canKeep 239 = .ok (.goto (-41), 3) := dk_167 (by decide +kernel)
theorem dX12_canKeep_242 : decode cX12_canKeep 242 = .ok (.iconst 1, 1) := dk_4 (by decide +kernel)
theorem dX12_canKeep_243 : decode cX12_canKeep 243 = .ok (.ireturn, 1) := dk_172 (by decide +kernel)
def wsRX12_canKeep : List Cond := .code yX12_canKeep cX12_canKeep 5 (some .boolean) :: ([.fieldLink RX12 396 "OptimaWorksModel" "columns" "I", .fieldLink RX12 399 "OptimaWorksModel" "rows" "I", .fieldLink RX12 29 "OptimaWorksModel" "still" "[Z", .fieldLink RX12 23 "OptimaWorksModel" "columnOf" "[I", .fieldLink RX12 26 "OptimaWorksModel" "rowOf" "[I"] ++ wsX120 ++ (wsV RX12 462 RX12 yX12_hasten wsRX12_hasten) ++ (wsV RX12 456 RX12 yX12_pivot wsRX12_pivot) ++ (wsV RX12 465 RX12 yX12_raise wsRX12_raise) ++ (wsV RX12 446 RX12 yX12_signAt wsRX12_signAt) ++ (wsV RX12 405 RX12 yX12_at wsRX12_at) ++ (wsV RX12 353 RX12 yX12_sign wsRX12_sign) ++ (wsV RX12 393 RX12 yX12_compare wsRX12_compare))
theorem iwsRX12_canKeep_in12 : ∀ w ∈ wsX120, w ∈ wsRX12_canKeep := fun _ h => List.mem_cons_of_mem _ (List.mem_append_left _ (List.mem_append_left _ (List.mem_append_left _ (List.mem_append_left _ (List.mem_append_left _ (List.mem_append_left _ (List.mem_append_left _ (List.mem_append_right _ h))))))))
theorem gwsRX12_canKeep_0 : GoodIn wsRX12_canKeep (wsV RX12 462 RX12 yX12_hasten wsRX12_hasten) := goodIn_sub (fun _ h => List.mem_cons_of_mem _ (List.mem_append_left _ (List.mem_append_left _ (List.mem_append_left _ (List.mem_append_left _ (List.mem_append_left _ (List.mem_append_left _ (List.mem_append_right _ h)))))))) (gdV (by decide +kernel) gdwsRX12_hasten)
theorem gwsRX12_canKeep_1 : GoodIn wsRX12_canKeep (wsV RX12 456 RX12 yX12_pivot wsRX12_pivot) := goodIn_sub (fun _ h => List.mem_cons_of_mem _ (List.mem_append_left _ (List.mem_append_left _ (List.mem_append_left _ (List.mem_append_left _ (List.mem_append_left _ (List.mem_append_right _ h))))))) (gdV (by decide +kernel) gdwsRX12_pivot)
theorem gwsRX12_canKeep_2 : GoodIn wsRX12_canKeep (wsV RX12 465 RX12 yX12_raise wsRX12_raise) := goodIn_sub (fun _ h => List.mem_cons_of_mem _ (List.mem_append_left _ (List.mem_append_left _ (List.mem_append_left _ (List.mem_append_left _ (List.mem_append_right _ h)))))) (gdV (by decide +kernel) gdwsRX12_raise)
theorem gwsRX12_canKeep_3 : GoodIn wsRX12_canKeep (wsV RX12 446 RX12 yX12_signAt wsRX12_signAt) := goodIn_sub (fun _ h => List.mem_cons_of_mem _ (List.mem_append_left _ (List.mem_append_left _ (List.mem_append_left _ (List.mem_append_right _ h))))) (gdV (by decide +kernel) gdwsRX12_signAt)
theorem gwsRX12_canKeep_4 : GoodIn wsRX12_canKeep (wsV RX12 405 RX12 yX12_at wsRX12_at) := goodIn_sub (fun _ h => List.mem_cons_of_mem _ (List.mem_append_left _ (List.mem_append_left _ (List.mem_append_right _ h)))) (gdV (by decide +kernel) gdwsRX12_at)
theorem gwsRX12_canKeep_5 : GoodIn wsRX12_canKeep (wsV RX12 353 RX12 yX12_sign wsRX12_sign) := goodIn_sub (fun _ h => List.mem_cons_of_mem _ (List.mem_append_left _ (List.mem_append_right _ h))) (gdV (by decide +kernel) gdwsRX12_sign)
theorem gwsRX12_canKeep_6 : GoodIn wsRX12_canKeep (wsV RX12 393 RX12 yX12_compare wsRX12_compare) := goodIn_sub (fun _ h => List.mem_cons_of_mem _ (List.mem_append_right _ h)) (gdV (by decide +kernel) gdwsRX12_compare)
theorem gdwsRX12_canKeep : wsRX12_canKeep.all goodWord = true := gdC rfl (gdA (gdA (gdA (gdA (gdA (gdA (gdA (gdA (by decide +kernel : ([.fieldLink RX12 396 "OptimaWorksModel" "columns" "I", .fieldLink RX12 399 "OptimaWorksModel" "rows" "I", .fieldLink RX12 29 "OptimaWorksModel" "still" "[Z", .fieldLink RX12 23 "OptimaWorksModel" "columnOf" "[I", .fieldLink RX12 26 "OptimaWorksModel" "rowOf" "[I"] : List Cond).all goodWord = true) gdwsX120) (gdV (by decide +kernel) gdwsRX12_hasten)) (gdV (by decide +kernel) gdwsRX12_pivot)) (gdV (by decide +kernel) gdwsRX12_raise)) (gdV (by decide +kernel) gdwsRX12_signAt)) (gdV (by decide +kernel) gdwsRX12_at)) (gdV (by decide +kernel) gdwsRX12_sign)) (gdV (by decide +kernel) gdwsRX12_compare))
theorem hm_r_X12_canKeep_0 : (.fieldLink RX12 396 "OptimaWorksModel" "columns" "I" : Cond) ∈ wsRX12_canKeep := by decide +kernel
theorem hm_r_X12_canKeep_1 : (.fieldLink RX12 399 "OptimaWorksModel" "rows" "I" : Cond) ∈ wsRX12_canKeep := by decide +kernel
theorem hm_r_X12_canKeep_2 : (.fieldLink RX12 29 "OptimaWorksModel" "still" "[Z" : Cond) ∈ wsRX12_canKeep := by decide +kernel
set_option maxHeartbeats 4000000 in
set_option maxRecDepth 100000 in
/-- canKeep() -/
theorem r_X12_canKeep (l : Launch) (dC : Nat → ClassId) (dI : Nat → Nat → Nat) (a : Nat → Nat) (k : Nat → ClassId) (h0 : Nat) (vi : Nat → Int32) (vj : Nat → Int64) (vF : Nat → Nat → Int32) (vG : Nat → Nat → Int64) (C : Nat) (R : Nat) (Gq : Nat) (a_ : Nat → Nat → Int) (mg : Nat → Int) (hBg : Bg (vF 0) mg) (hC : vi 5 = nI C) (hR : vi 6 = nI R) (hG : vi 7 = nI Gq) (hC45 : 0 < C ∧ C ≤ 45) (hT60 : R + Gq < 60) (hsz : (R + Gq) * (C + 1) ≤ 970) (hN : TabN C (R + Gq) mg a_ 1) (h4 : ∀ j, j < C → vF 4 j = nI j) (h5 : ∀ i, i < R → vF 5 i = nI (C + i)) (ha1 : ∀ i, i < R → a_ i (C - 1) = -1) (haR : ∀ j, j ≤ C → a_ R j = if j = C - 1 then 1 else 0) (hGq : 0 < Gq) (hsm : Small C R (R + Gq) a_) (sz : Nat) : Met l yX12_canKeep wsRX12_canKeep ({ frames := 5, cells := 0, slots := 0, locals := 133 }) (va_Pc [.ref h0] (fun U => U.heap.size = sz ∧ va_P (dC, dI) vwCl (WR a k h0 vi vj vF vG) U.heap ∧ va_K (dC, dI) vwCl (tX12 k) U ∧ va_D (fun _ => True) (WR a k h0 vi vj vF vG))) (va_Qi (fun (r : Int32) (u : (Nat → Int32) × (Nat → Int32) × (Nat → Int32) × (Nat → Int32) × (Nat → Int32) × (Nat → Int32) × (Nat → Int64) × (Nat → Int64) × (Nat → Int64) × (Int32) × (Int64) × (Nat → Int) × (Nat → Nat → Int) × (Int)) => (r = 0 ∧ (Bg (u.1) (u.2.2.2.2.2.2.2.2.2.2.2.1)) ∧ (Tab (u.2.2.2.2.2.2.2.2.2.1) C (R + Gq) (u.2.2.2.2.2.2.2.2.2.2.2.1) (u.2.2.2.2.2.2.2.1) (u.2.2.2.2.2.2.2.2.2.2.1) (u.2.2.2.2.2.2.2.2.2.2.2.2.1) (u.2.2.2.2.2.2.2.2.2.2.2.2.2)) ∧ (Sx C R (R + Gq) a_ (u.2.2.2.2.2.2.2.2.2.2.2.2.1) (u.2.2.2.2.2.2.2.2.2.2.2.2.2) (u.2.2.2.1) (u.2.2.2.2.1)) ∧ (∀ i, i < R → 0 ≤ (u.2.2.2.2.2.2.2.2.2.2.2.2.1) i C) ∧ (∀ q, (q < 20 ∨ (26 < q ∧ q < 30) ∨ 30 + (R + Gq) * (C + 1) ≤ q) → (u.2.2.2.2.2.2.2.2.2.2.2.1) q = mg q)) ∨ (r = 1 ∧ (Bg (u.1) (u.2.2.2.2.2.2.2.2.2.2.2.1)) ∧ (Tab (u.2.2.2.2.2.2.2.2.2.1) C (R + Gq) (u.2.2.2.2.2.2.2.2.2.2.2.1) (u.2.2.2.2.2.2.2.1) (u.2.2.2.2.2.2.2.2.2.2.1) (u.2.2.2.2.2.2.2.2.2.2.2.2.1) (u.2.2.2.2.2.2.2.2.2.2.2.2.2)) ∧ (Sx C R (R + Gq) a_ (u.2.2.2.2.2.2.2.2.2.2.2.2.1) (u.2.2.2.2.2.2.2.2.2.2.2.2.2) (u.2.2.2.1) (u.2.2.2.2.1)) ∧ (∀ i, i < R → 0 ≤ (u.2.2.2.2.2.2.2.2.2.2.2.2.1) i C) ∧ (∀ q, (q < 20 ∨ (26 < q ∧ q < 30) ∨ 30 + (R + Gq) * (C + 1) ≤ q) → (u.2.2.2.2.2.2.2.2.2.2.2.1) q = mg q))) (fun (u : (Nat → Int32) × (Nat → Int32) × (Nat → Int32) × (Nat → Int32) × (Nat → Int32) × (Nat → Int32) × (Nat → Int64) × (Nat → Int64) × (Nat → Int64) × (Int32) × (Int64) × (Nat → Int) × (Nat → Nat → Int) × (Int)) t => va_P (dC, dI) vwCl (WR a k h0 (fT vi 11 (u.2.2.2.2.2.2.2.2.2.1)) (fT vj 12 (u.2.2.2.2.2.2.2.2.2.2.1)) (fT (fT (fT (fT (fT (fT vF 0 (u.1)) 2 (u.2.1)) 3 (u.2.2.1)) 4 (u.2.2.2.1)) 5 (u.2.2.2.2.1)) 6 (u.2.2.2.2.2.1)) (fT (fT (fT vG 7 (u.2.2.2.2.2.2.2.1)) 1 (u.2.2.2.2.2.2.1)) 8 (u.2.2.2.2.2.2.2.2.1))) t.heap ∧ va_D (va_A (WR a k h0 vi vj vF vG) sz) (WR a k h0 (fT vi 11 (u.2.2.2.2.2.2.2.2.2.1)) (fT vj 12 (u.2.2.2.2.2.2.2.2.2.2.1)) (fT (fT (fT (fT (fT (fT vF 0 (u.1)) 2 (u.2.1)) 3 (u.2.2.1)) 4 (u.2.2.2.1)) 5 (u.2.2.2.2.1)) 6 (u.2.2.2.2.2.1)) (fT (fT (fT vG 7 (u.2.2.2.2.2.2.2.1)) 1 (u.2.2.2.2.2.2.1)) 8 (u.2.2.2.2.2.2.2.2.1)))) (va_A (WR a k h0 vi vj vF vG) sz)) 0 0 (va_A (WR a k h0 vi vj vF vG) sz) := by
  refine Met.ofW (cc := cX12_canKeep) (maxL := 5) (ret := (some .boolean)) (by decide) rfl ?_
  intro p e s m args below meth c s₁ B hml hv
  obtain ⟨rfl, hsz, hP, hK, hD0⟩ := hv
  have hx := B.exec
  have hb := B.bytes
  have hr := B.returns
  have hts := atoms_spec (ws := wsRX12_canKeep) B.pre
  have hown : s.vm.findClass RX12 = some m.cls := findClass_of_methodNamed B.named
  have hlocks := B.notSynchronized
  subst hsz
  have hD := hD0.self (sz := s.heap.size)
  generalize hAe : va_A (WR a k h0 vi vj vF vG) s.heap.size = A at hD ⊢
  have hA : ∀ q : Nat, s.heap.size ≤ q → A q := fun q h => by rw [← hAe]; exact Or.inr h
  have hS : va_S A s.heap s.heap [] := va_S.rf
  have hl := lv_entry ([.ref h0]) (n := 5) (Nat.le_of_ble_eq_true rfl)
  rw [lg_entry_eq]
  generalize (lg_sl ([.ref h0]) ++ List.replicate (5 - (lg_sl ([.ref h0])).length) Slot.unset).toArray = ls at hl ⊢
  have hl : lv_has ls 5 [(0, .ref h0)] := hl
  have hS0 := Sx.start (a := a_) (R := R) (T := R + Gq) (f4 := vF 4) (f5 := vF 5) (by omega) (by omega) (by omega) h4 h5
  refine lv_aload_n hx hb dX12_canKeep_0 rfl (lv_at hl 0 rfl) ?_
  refine va_get (D := (dC, dI)) (ci := 12) (v := .int (vi 5)) (C := RX12) (T := TX12) (N := 163) (fs := fM (vS a vi vj)) hx hb hts iwsRX12_canKeep_in12 hown hK hP 0 rfl rfl 5 (by decide) (hts _ hm_r_X12_canKeep_0) (fun _ h9 => h9) rfl dX12_canKeep_1 ?_
  refine lv_topi (fun y1 hy1 => ?_)
  obtain rfl : (nI C) = y1 := (hy1.trans (hC)).symm
  refine lv_iconst (v := 1) hx hb dX12_canKeep_4 (by decide) ?_
  refine lv_isub hx hb dX12_canKeep_5 ?_
  refine lv_topi (fun y2 hy2 => ?_)
  obtain rfl : (nI (C - 1)) = y2 := (hy2.trans (pk_sub (a := C) (b := 1) (by omega))).symm
  refine lv_istore_n hx hb dX12_canKeep_6 rfl hl (by decide) rfl (fun ls (hl : lv_has ls _ ([(1, .int (nI (C - 1))), (0, .ref h0)])) => ?_)
  refine lv_iconst (v := (-1)) hx hb dX12_canKeep_7 (by decide) ?_
  refine lv_istore_n hx hb dX12_canKeep_8 rfl hl (by decide) rfl (fun ls (hl : lv_has ls _ ([(2, .int (-1)), (1, .int (nI (C - 1))), (0, .ref h0)])) => ?_)
  refine lv_iconst (v := 0) hx hb dX12_canKeep_9 (by decide) ?_
  refine lv_istore_n hx hb dX12_canKeep_10 rfl hl (by decide) rfl (fun ls (hl : lv_has ls _ ([(3, .int 0), (2, .int (-1)), (1, .int (nI (C - 1))), (0, .ref h0)])) => ?_)
  have hl : lv_has _ _ ([(0, .ref h0), (1, .int (nI (C - 1))), (2, .int (-1)), (3, .int (nI 0))]) := lv_sub hl [3, 2, 1, 0] rfl
  refine (fun (loop : ∀ (n9 : Nat) (i : Nat) (lq : Int32) (lb : Nat) (H : Heap) (locs : List Loc) (ls : Array Slot), (i ≤ R) → ((lq = -1 ∧ ∀ i2, i2 < i → 0 ≤ a_ i2 C) ∨ (lq = nI lb ∧ lb < i ∧ a_ lb C < 0 ∧ ∀ i2, i2 < i → a_ lb C ≤ a_ i2 C)) →  (R < i + n9) → va_P (dC, dI) vwCl (WR a k h0 vi vj vF vG) H → va_D A (WR a k h0 vi vj vF vG) → va_S A s.heap H locs → lv_has ls 5 [(0, .ref h0), (1, .int (nI (C - 1))), (2, .int lq), (3, .int (nI i))] → W p l e _ s m _ below meth c H locs 0 0 _ (F0 m 11 ls [])) => loop (R + 1) 0 (-1) 0 _ _ _ (by omega) (Or.inl ⟨rfl, fun i2 h2 => absurd h2 (by omega)⟩) (by omega) hP hD hS hl) ?_
  intro n9
  induction n9 with
  | zero => intro i lq lb H locs ls hi hlq hf9; exact False.elim (by omega)
  | succ n9 ih11 =>
    intro i lq lb H locs ls hi hlq hf11 hP hD hS hl
    refine lv_iload_n hx hb dX12_canKeep_11 rfl (lv_at hl 3 rfl) ?_
    refine lv_aload_n hx hb dX12_canKeep_12 rfl (lv_at hl 0 rfl) ?_
    refine va_get (D := (dC, dI)) (ci := 12) (v := .int (vi 6)) (C := RX12) (T := TX12) (N := 163) (fs := fM (vS a vi vj)) hx hb hts iwsRX12_canKeep_in12 hown hK hP 0 rfl rfl 6 (by decide) (hts _ hm_r_X12_canKeep_1) (fun _ h9 => h9) rfl dX12_canKeep_13 ?_
    refine lv_topi (fun y3 hy3 => ?_)
    obtain rfl : (nI R) = y3 := (hy3.trans (hR)).symm
    refine lv_icmp_ge (tgt := 73) hx hb dX12_canKeep_16 (by decide) (fun c_16 => ?_) (fun c_16 => ?_)
    · have t_16 : ((i : Nat) : Int) ≥ ((R : Nat) : Int) := toI_ge c_16 (nI_toInt (by omega)) (nI_toInt (by omega))
      refine lv_aload_n hx hb dX12_canKeep_73 rfl (lv_at hl 0 rfl) ?_
      have hFc := allFree hD hS hA
      refine va_callv (va_runV (As := []) (rest := []) ⟨hx, hb, hml, hown, hts⟩ (r_X12_hasten l dC dI a k h0 vi vj vF vG C R Gq a_ mg hBg (by first | with_reducible assumption | decide | omega | rfl | assumption) (by first | with_reducible assumption | decide | omega | rfl | assumption) (by first | with_reducible assumption | decide | omega | rfl | assumption) (by first | with_reducible assumption | decide | omega | rfl | assumption) (by first | with_reducible assumption | decide | omega | rfl | assumption) (by first | with_reducible assumption | decide | omega | rfl | assumption) (by first | with_reducible assumption | decide | omega | rfl | assumption) H.size) (cwV 0 hts gwsRX12_canKeep_0 rfl rfl rfl hd_yX12_hasten_RX12 (by decide +kernel)) (fz_pre (va_recv hK hP (ci := 12) (q0 := 0) rfl rfl) hP hK hD) rfl rfl hl.1 rfl (lv_room (Nat.le_of_ble_eq_true rfl)) dX12_canKeep_74 (by decide +kernel)) hS (fun q _ h => hFc q h) hFc (fun u t9_ H locs ht hvm hw9 hB9 hz1 hk1 hS => ?_)
      revert u hw9 hB9
      refine fz_p2 ?_
      intro qk74 F74 hw9 hB9
      try dsimp only at hw9 hB9
      have hP : va_P (dC, dI) vwCl (WR a k h0 (fT vi 11 qk74) (fT vj 12 1) vF (fT vG 7 F74)) H := fz_P ht hB9.1
      have hD := fz_sd hP (hB9.2.weaken (fun _ q _ h => hFc q.1 h)) rfl
      have f74_0 := hw9
      try dsimp only at f74_0
      refine lv_iload_n hx hb dX12_canKeep_77 rfl (lv_at hl 2 rfl) ?_
      refine lv_iconst (v := (-1)) hx hb dX12_canKeep_78 (by decide) ?_
      refine lv_icmp_ne (tgt := 91) hx hb dX12_canKeep_79 (by decide) (fun c_79 => ?_) (fun c_79 => ?_)
      · have t_79 : (lq).toInt ≠ -1 := toI_ne c_79 rfl (by decide)
        refine W.cut (pc := 106) (fun H locs ls stk => ∃ (tA : Nat → Nat → Int) (DA : Int) (gA : Nat → Int32) (f2A : Nat → Int32) (f3A : Nat → Int32) (f4A : Nat → Int32) (f5A : Nat → Int32) (f6A : Nat → Int32) (gsA : Nat → Int64) (FA : Nat → Int64) (L8A : Nat → Int64) (qkA : Int32) (qdA : Int64) (mA : Nat → Int), (Bg gA mA) ∧ (Tab qkA C (R + Gq) mA FA qdA tA DA) ∧ (Sx C R (R + Gq) a_ tA DA f4A f5A) ∧ (∀ i, i < R → 0 ≤ tA i C) ∧ (∀ q, (q < 20 ∨ (26 < q ∧ q < 30) ∨ 30 + (R + Gq) * (C + 1) ≤ q) → mA q = mg q) ∧  stk = [] ∧ va_P (dC, dI) vwCl (WR a k h0 (fT vi 11 qkA) (fT vj 12 qdA) (fT (fT (fT (fT (fT (fT vF 0 gA) 2 f2A) 3 f3A) 4 f4A) 5 f5A) 6 f6A) (fT (fT (fT vG 7 FA) 1 gsA) 8 L8A)) H ∧ va_D A (WR a k h0 (fT vi 11 qkA) (fT vj 12 qdA) (fT (fT (fT (fT (fT (fT vF 0 gA) 2 f2A) 3 f3A) 4 f4A) 5 f5A) 6 f6A) (fT (fT (fT vG 7 FA) 1 gsA) 8 L8A)) ∧ va_S A s.heap H locs ∧ lv_has ls 5 [(0, .ref h0), (1, .int (nI (C - 1)))]) (fun join1 => ?_) ?_
        · obtain ⟨h1d, h2d, h3d, h4d⟩ := hlq.resolve_left (fun h => c_79 h.1)
          subst h1d
          have hp9 : a_ lb (C - 1) = -1 := ha1 lb (by omega)
          obtain ⟨hSa, hPa⟩ := hS0.next (r := lb) (c := C - 1) (by omega) (by omega) (by omega) (by omega) (by omega) (sgI_or _) (sgI_pos (by omega))
          have hGa := first_ex (C := C) (R := R) (lb := lb) (by omega) (by omega) ha1 h3d (fun i2 hi2 => h4d i2 (by omega))
          refine lv_aload_n hx hb dX12_canKeep_91 rfl (lv_at hl 0 rfl) ?_
          refine lv_iload_n hx hb dX12_canKeep_92 rfl (lv_at hl 2 rfl) ?_
          refine lv_iload_n hx hb dX12_canKeep_93 rfl (lv_at hl 1 rfl) ?_
          have hFc := allFree hD hS hA
          refine va_callv (va_runV (As := [.int (nI lb), .int (nI (C - 1))]) (rest := []) ⟨hx, hb, hml, hown, hts⟩ (r_X12_pivot l dC dI a k h0 (fT vi 11 qk74) (fT vj 12 1) vF (fT vG 7 F74) lb (C - 1) C R Gq a_ 1 mg hBg (by first | with_reducible assumption | decide | omega | rfl | assumption) (by first | with_reducible assumption | decide | omega | rfl | assumption) (by first | with_reducible assumption | decide | omega | rfl | assumption) (by first | with_reducible assumption | decide | omega | rfl | assumption) (by first | with_reducible assumption | decide | omega | rfl | assumption) (by first | with_reducible assumption | decide | omega | rfl | assumption) (f74_0) (by omega) (by first | with_reducible assumption | decide | omega | rfl | assumption) (by decide) (by omega) ((hsm _ _ _ _ hS0.1).2) H.size) (cwV 2 hts gwsRX12_canKeep_1 rfl rfl rfl hd_yX12_pivot_RX12 (by decide +kernel)) (fz_pre (va_recv hK hP (ci := 12) (q0 := 0) rfl rfl) hP hK hD) rfl rfl hl.1 rfl (lv_room (Nat.le_of_ble_eq_true rfl)) dX12_canKeep_94 (by decide +kernel)) hS (fun q _ h => hFc q h) hFc (fun u t9_ H locs ht hvm hw9 hB9 hz1 hk1 hS => ?_)
          revert u hw9 hB9
          refine fz_p9 ?_
          intro g94 f2w94 f3w94 gs94 qk94 qd94 F94 L894 m294 hw9 hB9
          try dsimp only at hw9 hB9
          have e9i : fT vi 11 qk94 = fT (fT vi 11 qk74) 11 qk94 := (fT_sm _ _ _ _).symm
          have e9j : fT vj 12 qd94 = fT (fT vj 12 1) 12 qd94 := (fT_sm _ _ _ _).symm
          have e9G : fT (fT (fT vG 7 F94) 8 L894) 1 gs94 = fT (fT (fT (fT vG 7 F74) 8 L894) 7 F94) 1 gs94 := (congrArg (fun g9 => fT g9 1 gs94) ((fT_sw _ _ _ (Nat.ne_of_beq_eq_false rfl)).trans (congrArg (fun g9 => fT g9 8 L894) (fT_sm _ _ _ _)))).symm
          have hP := wr_PG e9G (wr_Pj e9j (wr_Pi e9i (fz_P ht hB9.1)))
          have hD := wr_DG e9G (wr_Dj e9j (wr_Di e9i (hB9.2.weaken (fun _ q _ h => hFc q.1 h))))
          clear e9i e9j e9G
          revert hw9
          refine fz_a3 ?_
          intro f94_0 f94_1 f94_2
          refine lv_aload_n hx hb dX12_canKeep_97 rfl (lv_at hl 0 rfl) ?_
          refine lv_aload_n hx hb dX12_canKeep_98 rfl (lv_at hl 0 rfl) ?_
          refine va_get (D := (dC, dI)) (ci := 12) (v := .int (vi 6)) (C := RX12) (T := TX12) (N := 163) (fs := fM (vS a (fT vi 11 qk94) (fT vj 12 qd94))) hx hb hts iwsRX12_canKeep_in12 hown hK hP 0 rfl rfl 6 (by decide) (hts _ hm_r_X12_canKeep_1) (fun _ h9 => h9) rfl dX12_canKeep_99 ?_
          refine lv_topi (fun y4 hy4 => ?_)
          obtain rfl : (nI R) = y4 := (hy4.trans (hR)).symm
          have hFc := allFree hD hS hA
          refine va_calli (va_runV (As := [.int (nI R)]) (rest := []) ⟨hx, hb, hml, hown, hts⟩ (r_X12_raise l dC dI a k h0 (fT vi 11 qk94) (fT vj 12 qd94) (fT (fT (fT (fT (fT vF 0 g94) 2 f2w94) 3 f3w94) 4 (upd (vF 4) (nI (C - 1)).toNatClampNeg ((vF 5) lb))) 5 (upd (vF 5) (nI lb).toNatClampNeg ((vF 4) (C - 1)))) (fT (fT (fT vG 7 F94) 8 L894) 1 gs94) R a_ C R Gq (nvT lb (C - 1) (sgI (a_ lb (C - 1))) a_ 1) (sgI (a_ lb (C - 1)) * a_ lb (C - 1)) m294 f94_0 (by first | with_reducible assumption | decide | omega | rfl | assumption) (by first | with_reducible assumption | decide | omega | rfl | assumption) (by first | with_reducible assumption | decide | omega | rfl | assumption) (by first | with_reducible assumption | decide | omega | rfl | assumption) (by first | with_reducible assumption | decide | omega | rfl | assumption) (by first | with_reducible assumption | decide | omega | rfl | assumption) (f94_1) (hSa) (by first | with_reducible assumption | decide | omega | rfl | assumption) (hGa) (by first | with_reducible assumption | decide | omega | rfl | assumption) (by first | with_reducible assumption | decide | omega | rfl | assumption) H.size) (cwV 1 hts gwsRX12_canKeep_2 rfl rfl rfl hd_yX12_raise_RX12 (by decide +kernel)) (fz_pre (va_recv hK hP (ci := 12) (q0 := 0) rfl rfl) hP hK hD) rfl rfl hl.1 rfl (lv_room (Nat.le_of_ble_eq_true rfl)) dX12_canKeep_102 (by decide +kernel)) hS (fun q _ h => hFc q h) hFc (fun r102 u t9_ H locs ht hvm hw9 hB9 hz1 hk1 hS => ?_)
          revert u hw9 hB9
          refine fz_p14 ?_
          intro g102 f2w102 f3w102 f4102 f5102 f6102 gs102 F102 L8102 qk102 qd102 m2102 t2102 D2102 hw9 hB9
          try dsimp only at hw9 hB9
          have e9i : fT vi 11 qk102 = fT (fT vi 11 qk94) 11 qk102 := (fT_sm _ _ _ _).symm
          have e9j : fT vj 12 qd102 = fT (fT vj 12 qd94) 12 qd102 := (fT_sm _ _ _ _).symm
          have e9F : fT (fT (fT (fT (fT (fT vF 0 g102) 2 f2w102) 3 f3w102) 4 f4102) 5 f5102) 6 f6102 = fT (fT (fT (fT (fT (fT (fT (fT (fT (fT (fT vF 0 g94) 2 f2w94) 3 f3w94) 4 (upd (vF 4) (nI (C - 1)).toNatClampNeg ((vF 5) lb))) 5 (upd (vF 5) (nI lb).toNatClampNeg ((vF 4) (C - 1)))) 0 g102) 2 f2w102) 3 f3w102) 4 f4102) 5 f5102) 6 f6102 := Eq.symm (congrArg (fun g9 => fT g9 6 f6102) (Eq.trans (congrArg (fun g9 => fT g9 5 f5102) (Eq.trans (congrArg (fun g9 => fT g9 4 f4102) (Eq.trans (congrArg (fun g9 => fT g9 3 f3w102) (Eq.trans (congrArg (fun g9 => fT g9 2 f2w102) (up_4 rfl)) (up_3 rfl))) (up_2 rfl))) (up_1 rfl))) (up_0 rfl)))
          have e9G : fT (fT (fT vG 7 F102) 8 L8102) 1 gs102 = fT (fT (fT (fT (fT (fT vG 7 F94) 8 L894) 1 gs94) 1 gs102) 7 F102) 8 L8102 := ((congrArg (fun g9 => fT (fT g9 7 F102) 8 L8102) (fT_sm _ _ _ _)).trans ((congrArg (fun g9 => fT g9 8 L8102) ((fT_sw _ _ _ (Nat.ne_of_beq_eq_false rfl)).trans (congrArg (fun g9 => fT g9 1 gs102) ((fT_sw _ _ _ (Nat.ne_of_beq_eq_false rfl)).trans (congrArg (fun g9 => fT g9 8 L894) (fT_sm _ _ _ _)))))).trans ((fT_sw _ _ _ (Nat.ne_of_beq_eq_false rfl)).trans (congrArg (fun g9 => fT g9 1 gs102) (fT_sm _ _ _ _))))).symm
          have hP := wr_PG e9G (wr_PF e9F (wr_Pj e9j (wr_Pi e9i (fz_P ht hB9.1))))
          have hD := wr_DG e9G (wr_DF e9F (wr_Dj e9j (wr_Di e9i (hB9.2.weaken (fun _ q _ h => hFc q.1 h)))))
          clear e9i e9j e9F e9G
          revert hw9
          refine fz_a6 ?_
          intro f102_0 f102_1 f102_2 f102_3 f102_4 f102_5
          refine lv_pop hx hb dX12_canKeep_105 rfl ?_
          have e9 : fT (fT (fT vG 7 F102) 1 gs102) 8 L8102 = fT (fT (fT vG 7 F102) 8 L8102) 1 gs102 := mv_1 rfl
          have hP := wr_PG e9 hP
          have hD := wr_DG e9 hD
          clear e9
          have hl : lv_has _ _ ([(0, .ref h0), (1, .int (nI (C - 1)))]) := lv_sub hl [0, 1] rfl
          exact join1 _ _ _ _ ⟨t2102, D2102, g102, f2w102, f3w102, f4102, f5102, f6102, gs102, F102, L8102, qk102, qd102, m2102, f102_0, f102_1, f102_2, f102_3, fun q hq => by (rw [f102_4 _ (by omega), f94_2 _ (by omega)]), rfl, hP, hD, hS, hl⟩
        · rintro H locs ls stk ⟨tA, DA, gA, f2A, f3A, f4A, f5A, f6A, gsA, FA, L8A, qkA, qdA, mA, hBA, hTA, hSA, hGA, hoA, rfl, hP, hD, hS, hl⟩
          refine lv_aload_n hx hb dX12_canKeep_106 rfl (lv_at hl 0 rfl) ?_
          refine lv_aload_n hx hb dX12_canKeep_107 rfl (lv_at hl 0 rfl) ?_
          refine va_get (D := (dC, dI)) (ci := 12) (v := .int (vi 6)) (C := RX12) (T := TX12) (N := 163) (fs := fM (vS a (fT vi 11 qkA) (fT vj 12 qdA))) hx hb hts iwsRX12_canKeep_in12 hown hK hP 0 rfl rfl 6 (by decide) (hts _ hm_r_X12_canKeep_1) (fun _ h9 => h9) rfl dX12_canKeep_108 ?_
          refine lv_topi (fun y5 hy5 => ?_)
          obtain rfl : (nI R) = y5 := (hy5.trans (hR)).symm
          refine lv_aload_n hx hb dX12_canKeep_111 rfl (lv_at hl 0 rfl) ?_
          refine va_get (D := (dC, dI)) (ci := 12) (v := .int (vi 5)) (C := RX12) (T := TX12) (N := 163) (fs := fM (vS a (fT vi 11 qkA) (fT vj 12 qdA))) hx hb hts iwsRX12_canKeep_in12 hown hK hP 0 rfl rfl 5 (by decide) (hts _ hm_r_X12_canKeep_0) (fun _ h9 => h9) rfl dX12_canKeep_112 ?_
          refine lv_topi (fun y6 hy6 => ?_)
          obtain rfl : (nI C) = y6 := (hy6.trans (hC)).symm
          have hFc := allFree hD hS hA
          refine va_calli (va_runV (As := [.int (nI R), .int (nI C)]) (rest := []) ⟨hx, hb, hml, hown, hts⟩ (r_X12_signAt l dC dI a k h0 (fT vi 11 qkA) (fT vj 12 qdA) (fT (fT (fT (fT (fT (fT vF 0 gA) 2 f2A) 3 f3A) 4 f4A) 5 f5A) 6 f6A) (fT (fT (fT vG 7 FA) 1 gsA) 8 L8A) R C C (R + Gq) tA DA mA hBA (by first | with_reducible assumption | decide | omega | rfl | assumption) (hTA) (by first | with_reducible assumption | decide | omega | rfl | assumption) (by first | with_reducible assumption | decide | omega | rfl | assumption) (by first | with_reducible assumption | decide | omega | rfl | assumption) (by first | with_reducible assumption | decide | omega | rfl | assumption) (by first | with_reducible assumption | decide | omega | rfl | assumption) H.size) (cwV 2 hts gwsRX12_canKeep_3 rfl rfl rfl hd_yX12_signAt_RX12 (by decide +kernel)) (fz_pre (va_recv hK hP (ci := 12) (q0 := 0) rfl rfl) hP hK hD) rfl rfl hl.1 rfl (lv_room (Nat.le_of_ble_eq_true rfl)) dX12_canKeep_115 (by decide +kernel)) hS (fun q _ h => hFc q h) hFc (fun r115 u t9_ H locs ht hvm hw9 hB9 hz1 hk1 hS => ?_)
          have hP : va_P (dC, dI) vwCl (WR a k h0 (fT vi 11 qkA) (fT vj 12 qdA) (fT (fT (fT (fT (fT (fT vF 0 gA) 2 f2A) 3 f3A) 4 f4A) 5 f5A) 6 f6A) (fT (fT (fT vG 7 FA) 1 gsA) 8 L8A)) H := fz_P ht hB9.1
          have hD := fz_sd hP (hB9.2.weaken (fun _ q _ h => hFc q.1 h)) rfl
          have f115_0 := hw9
          try dsimp only at f115_0
          refine lv_if_ge (tgt := 123) hx hb dX12_canKeep_118 (by decide) (fun c_118 => ?_) (fun c_118 => ?_)
          · have t_118 : (r115).toInt ≥ 0 := toI_ge c_118 rfl (by decide)
            refine lv_iconst (v := 0) hx hb dX12_canKeep_123 (by decide) ?_
            refine lv_istore_n hx hb dX12_canKeep_124 rfl hl (by decide) rfl (fun ls (hl : lv_has ls _ ([(3, .int 0), (0, .ref h0), (1, .int (nI (C - 1)))])) => ?_)
            have hl : lv_has _ _ ([(0, .ref h0), (1, .int (nI (C - 1))), (3, .int (nI 0))]) := lv_sub hl [1, 2, 0] rfl
            refine (fun (loop : ∀ (n9 : Nat) (i : Nat) (t1 : Nat → Nat → Int) (D1 : Int) (g1 : Nat → Int32) (f21 : Nat → Int32) (f31 : Nat → Int32) (f41 : Nat → Int32) (f51 : Nat → Int32) (gs1 : Nat → Int64) (F1 : Nat → Int64) (L81 : Nat → Int64) (qk1 : Int32) (qd1 : Int64) (m1 : Nat → Int) (H : Heap) (locs : List Loc) (ls : Array Slot), (Bg g1 m1) → (i ≤ R) → (Tab qk1 C (R + Gq) m1 F1 qd1 t1 D1) → (Sx C R (R + Gq) a_ t1 D1 f41 f51) → (∀ i, i < R → 0 ≤ t1 i C) → (0 ≤ t1 R C) → (∀ q, (q < 20 ∨ (26 < q ∧ q < 30) ∨ 30 + (R + Gq) * (C + 1) ≤ q) → m1 q = mg q) →  (R < i + n9) → va_P (dC, dI) vwCl (WR a k h0 (fT vi 11 qk1) (fT vj 12 qd1) (fT (fT (fT (fT (fT (fT vF 0 g1) 2 f21) 3 f31) 4 f41) 5 f51) 6 f6A) (fT (fT (fT vG 7 F1) 1 gs1) 8 L81)) H → va_D A (WR a k h0 (fT vi 11 qk1) (fT vj 12 qd1) (fT (fT (fT (fT (fT (fT vF 0 g1) 2 f21) 3 f31) 4 f41) 5 f51) 6 f6A) (fT (fT (fT vG 7 F1) 1 gs1) 8 L81)) → va_S A s.heap H locs → lv_has ls 5 [(0, .ref h0), (1, .int (nI (C - 1))), (3, .int (nI i))] → W p l e _ s m _ below meth c H locs 0 0 _ (F0 m 125 ls [])) => loop (R + 1) 0 tA DA gA f2A f3A f4A f5A gsA FA L8A qkA qdA mA _ _ _ (hBA) (by omega) (hTA) (hSA) (hGA) (by (have f9 := f115_0); omega) (hoA) (by omega) hP hD hS hl) ?_
            intro n9
            induction n9 with
            | zero => intro i t1 D1 g1 f21 f31 f41 f51 gs1 F1 L81 qk1 qd1 m1 H locs ls hB1 hi9 hT1 hS1 hG1 hRC ho hf9; exact False.elim (by omega)
            | succ n9 ih125_1 =>
              intro i t1 D1 g1 f21 f31 f41 f51 gs1 F1 L81 qk1 qd1 m1 H locs ls hB1 hi9 hT1 hS1 hG1 hRC ho hf125_1 hP hD hS hl
              refine lv_iload_n hx hb dX12_canKeep_125 rfl (lv_at hl 2 rfl) ?_
              refine lv_aload_n hx hb dX12_canKeep_126 rfl (lv_at hl 0 rfl) ?_
              refine va_get (D := (dC, dI)) (ci := 12) (v := .int (vi 6)) (C := RX12) (T := TX12) (N := 163) (fs := fM (vS a (fT vi 11 qk1) (fT vj 12 qd1))) hx hb hts iwsRX12_canKeep_in12 hown hK hP 0 rfl rfl 6 (by decide) (hts _ hm_r_X12_canKeep_1) (fun _ h9 => h9) rfl dX12_canKeep_127 ?_
              refine lv_topi (fun y7 hy7 => ?_)
              obtain rfl : (nI R) = y7 := (hy7.trans (hR)).symm
              refine lv_icmp_ge (tgt := 196) hx hb dX12_canKeep_130 (by decide) (fun c_130 => ?_) (fun c_130 => ?_)
              · have t_130 : ((i : Nat) : Int) ≥ ((R : Nat) : Int) := toI_ge c_130 (nI_toInt (by omega)) (nI_toInt (by omega))
                refine lv_iconst (v := 0) hx hb dX12_canKeep_196 (by decide) ?_
                refine lv_istore_n hx hb dX12_canKeep_197 rfl hl (by decide) rfl (fun ls (hl : lv_has ls _ ([(3, .int 0), (0, .ref h0), (1, .int (nI (C - 1)))])) => ?_)
                have hl : lv_has _ _ ([(0, .ref h0), (1, .int (nI (C - 1))), (3, .int (nI 0))]) := lv_sub hl [1, 2, 0] rfl
                refine (fun (loop : ∀ (n9 : Nat) (k6 : Nat) (f61 : Nat → Int32) (H : Heap) (locs : List Loc) (ls : Array Slot), (k6 ≤ C) →  (C < k6 + n9) → va_P (dC, dI) vwCl (WR a k h0 (fT vi 11 qk1) (fT vj 12 qd1) (fT (fT (fT (fT (fT (fT vF 0 g1) 2 f21) 3 f31) 4 f41) 5 f51) 6 f61) (fT (fT (fT vG 7 F1) 1 gs1) 8 L81)) H → va_D A (WR a k h0 (fT vi 11 qk1) (fT vj 12 qd1) (fT (fT (fT (fT (fT (fT vF 0 g1) 2 f21) 3 f31) 4 f41) 5 f51) 6 f61) (fT (fT (fT vG 7 F1) 1 gs1) 8 L81)) → va_S A s.heap H locs → lv_has ls 5 [(0, .ref h0), (1, .int (nI (C - 1))), (3, .int (nI k6))] → W p l e _ s m _ below meth c H locs 0 0 _ (F0 m 198 ls [])) => loop (C + 1) 0 f6A _ _ _ (by omega) (by omega) hP hD hS hl) ?_
                intro n9
                induction n9 with
                | zero => intro k6 f61 H locs ls hk6 hf9; exact False.elim (by omega)
                | succ n9 ih198_2 =>
                  intro k6 f61 H locs ls hk6 hf198_2 hP hD hS hl
                  refine lv_iload_n hx hb dX12_canKeep_198 rfl (lv_at hl 2 rfl) ?_
                  refine lv_aload_n hx hb dX12_canKeep_199 rfl (lv_at hl 0 rfl) ?_
                  refine va_get (D := (dC, dI)) (ci := 12) (v := .int (vi 5)) (C := RX12) (T := TX12) (N := 163) (fs := fM (vS a (fT vi 11 qk1) (fT vj 12 qd1))) hx hb hts iwsRX12_canKeep_in12 hown hK hP 0 rfl rfl 5 (by decide) (hts _ hm_r_X12_canKeep_0) (fun _ h9 => h9) rfl dX12_canKeep_200 ?_
                  refine lv_topi (fun y8 hy8 => ?_)
                  obtain rfl : (nI C) = y8 := (hy8.trans (hC)).symm
                  refine lv_icmp_ge (tgt := 242) hx hb dX12_canKeep_203 (by decide) (fun c_203 => ?_) (fun c_203 => ?_)
                  · have t_203 : ((k6 : Nat) : Int) ≥ ((C : Nat) : Int) := toI_ge c_203 (nI_toInt (by omega)) (nI_toInt (by omega))
                    refine lv_iconst (v := 1) hx hb dX12_canKeep_242 (by decide) ?_
                    refine W.widen (k := 0) (n := 0) (by decide +kernel) (by decide +kernel) ?_
                    exact W.zret (v := 1) hx hb hr rfl (fun t9_ ht hW => ⟨⟨1, (g1, f21, f31, f41, f51, f61, gs1, F1, L81, qk1, qd1, m1, t1, D1), rfl, by (try dsimp only); exact Or.inr ⟨rfl, hB1, hT1, hS1, hG1, ho⟩, by rw [ht]; exact hP, hD⟩, hS.F ht⟩) hS.2.2 dX12_canKeep_243
                  · have t_203 : ¬ ((k6 : Nat) : Int) ≥ ((C : Nat) : Int) := toI_nge c_203 (nI_toInt (by omega)) (nI_toInt (by omega))
                    refine lv_aload_n hx hb dX12_canKeep_206 rfl (lv_at hl 0 rfl) ?_
                    refine va_get (D := (dC, dI)) (ci := 12) (v := .ref (a 6)) (C := RX12) (T := TX12) (N := 163) (fs := fM (vS a (fT vi 11 qk1) (fT vj 12 qd1))) hx hb hts iwsRX12_canKeep_in12 hown hK hP 0 rfl rfl 10 (by decide) (hts _ hm_r_X12_canKeep_2) (fun _ h9 => h9) rfl dX12_canKeep_207 ?_
                    refine lv_iload_n hx hb dX12_canKeep_210 rfl (lv_at hl 2 rfl) ?_
                    refine lv_aload_n hx hb dX12_canKeep_211 rfl (lv_at hl 0 rfl) ?_
                    refine va_get (D := (dC, dI)) (ci := 12) (v := .ref (a 6)) (C := RX12) (T := TX12) (N := 163) (fs := fM (vS a (fT vi 11 qk1) (fT vj 12 qd1))) hx hb hts iwsRX12_canKeep_in12 hown hK hP 0 rfl rfl 10 (by decide) (hts _ hm_r_X12_canKeep_2) (fun _ h9 => h9) rfl dX12_canKeep_212 ?_
                    refine lv_iload_n hx hb dX12_canKeep_215 rfl (lv_at hl 2 rfl) ?_
                    refine va_zald (cA := k 6) (n := 46) (f := f61) hx hb hK hP 7 6 (WR_get 6 (by decide)) (TR_get 6 (by decide)) (vp_in_nI (show k6 < 46 by omega) (by omega)) dX12_canKeep_216 ?_
                    refine lv_topi (fun y9 hy9 => ?_)
                    obtain rfl : (f61 k6) = y9 := (hy9.trans (by rw [nI_clamp (by omega)])).symm
                    refine lv_if_ne (tgt := 230) hx hb dX12_canKeep_217 (by decide) (fun c_217 => ?_) (fun c_217 => ?_)
                    · have t_217 : ((f61 k6)).toInt ≠ 0 := toI_ne c_217 rfl (by decide)
                      refine lv_iconst (v := 1) hx hb dX12_canKeep_230 (by decide) ?_
                      refine lv_goto (tgt := 235) hx hb dX12_canKeep_231 (by decide) ?_
                      refine va_zast (cA := k 6) (n := 46) (f := f61) hx hb hK hP hD hS 7 6 (WR_get 6 (by decide)) (TR_get 6 (by decide)) (vp_in_nI (show k6 < 46 by omega) (by omega)) dX12_canKeep_235 (fun H locs hP hD hS => ?_)
                      have e9 : fT (fT (fT (fT (fT (fT vF 0 g1) 2 f21) 3 f31) 4 f41) 5 f51) 6 (upd f61 ((nI k6)).toNatClampNeg (vp_nar FieldType.boolean 1)) = fT (fT (fT (fT (fT (fT (fT vF 0 g1) 2 f21) 3 f31) 4 f41) 5 f51) 6 f61) 6 (upd f61 ((nI k6)).toNatClampNeg (vp_nar FieldType.boolean 1)) := (fT_sm _ _ _ _).symm
                      have hP := wr_PF e9 (fz_w (WR_F 6 (by decide) _ rfl) hP)
                      have hD := wr_DF e9 (fz_wD (WR_F 6 (by decide) _ rfl) hD)
                      clear e9
                      refine lv_iinc (v := (nI (k6 + 1))) hx hb dX12_canKeep_236 hl (k := 2) rfl (nI_add k6 1) (by decide) rfl (fun ls (hl : lv_has ls _ ([(3, .int (nI (k6 + 1))), (0, .ref h0), (1, .int (nI (C - 1)))])) => ?_)
                      refine lv_goto (tgt := 198) hx hb dX12_canKeep_239 (by decide) ?_
                      have hl : lv_has _ _ ([(0, .ref h0), (1, .int (nI (C - 1))), (3, .int (nI (k6 + 1)))]) := lv_sub hl [1, 2, 0] rfl
                      exact ih198_2 (k6 + 1) (upd f61 ((nI k6)).toNatClampNeg (vp_nar FieldType.boolean 1)) _ _ _ (by omega) (by omega) hP hD hS hl
                    · have t_217 : ((f61 k6)).toInt = 0 := toI_nne c_217 rfl (by decide)
                      refine lv_aload_n hx hb dX12_canKeep_220 rfl (lv_at hl 0 rfl) ?_
                      refine va_get (D := (dC, dI)) (ci := 12) (v := .ref (a 4)) (C := RX12) (T := TX12) (N := 163) (fs := fM (vS a (fT vi 11 qk1) (fT vj 12 qd1))) hx hb hts iwsRX12_canKeep_in12 hown hK hP 0 rfl rfl 8 (by decide) (hts (.fieldLink RX12 23 "OptimaWorksModel" "columnOf" "[I") (by decide +kernel)) (fun _ h9 => h9) rfl dX12_canKeep_221 ?_
                      refine lv_iload_n hx hb dX12_canKeep_224 rfl (lv_at hl 2 rfl) ?_
                      refine va_iald (cA := k 4) (n := 46) (f := f41) hx hb hK hP 5 4 (WR_get 4 (by decide)) (TR_get 4 (by decide)) (vp_in_nI (show k6 < 46 by omega) (by omega)) dX12_canKeep_225 ?_
                      refine lv_topi (fun y10 hy10 => ?_)
                      obtain rfl : (f41 k6) = y10 := (hy10.trans (by rw [nI_clamp (by omega)])).symm
                      refine lv_iload_n hx hb dX12_canKeep_226 rfl (lv_at hl 1 rfl) ?_
                      refine lv_icmp_ne (tgt := 234) hx hb dX12_canKeep_227 (by decide) (fun c_227 => ?_) (fun c_227 => ?_)
                      · have t_227 : ((f41 k6)).toInt ≠ (((C - 1) : Nat) : Int) := toI_ne c_227 rfl (nI_toInt (by omega))
                        refine lv_iconst (v := 0) hx hb dX12_canKeep_234 (by decide) ?_
                        refine va_zast (cA := k 6) (n := 46) (f := f61) hx hb hK hP hD hS 7 6 (WR_get 6 (by decide)) (TR_get 6 (by decide)) (vp_in_nI (show k6 < 46 by omega) (by omega)) dX12_canKeep_235 (fun H locs hP hD hS => ?_)
                        have e9 : fT (fT (fT (fT (fT (fT vF 0 g1) 2 f21) 3 f31) 4 f41) 5 f51) 6 (upd f61 ((nI k6)).toNatClampNeg (vp_nar FieldType.boolean 0)) = fT (fT (fT (fT (fT (fT (fT vF 0 g1) 2 f21) 3 f31) 4 f41) 5 f51) 6 f61) 6 (upd f61 ((nI k6)).toNatClampNeg (vp_nar FieldType.boolean 0)) := (fT_sm _ _ _ _).symm
                        have hP := wr_PF e9 (fz_w (WR_F 6 (by decide) _ rfl) hP)
                        have hD := wr_DF e9 (fz_wD (WR_F 6 (by decide) _ rfl) hD)
                        clear e9
                        refine lv_iinc (v := (nI (k6 + 1))) hx hb dX12_canKeep_236 hl (k := 2) rfl (nI_add k6 1) (by decide) rfl (fun ls (hl : lv_has ls _ ([(3, .int (nI (k6 + 1))), (0, .ref h0), (1, .int (nI (C - 1)))])) => ?_)
                        refine lv_goto (tgt := 198) hx hb dX12_canKeep_239 (by decide) ?_
                        have hl : lv_has _ _ ([(0, .ref h0), (1, .int (nI (C - 1))), (3, .int (nI (k6 + 1)))]) := lv_sub hl [1, 2, 0] rfl
                        exact ih198_2 (k6 + 1) (upd f61 ((nI k6)).toNatClampNeg (vp_nar FieldType.boolean 0)) _ _ _ (by omega) (by omega) hP hD hS hl
                      · have t_227 : ((f41 k6)).toInt = (((C - 1) : Nat) : Int) := toI_nne c_227 rfl (nI_toInt (by omega))
                        refine lv_iconst (v := 1) hx hb dX12_canKeep_230 (by decide) ?_
                        refine lv_goto (tgt := 235) hx hb dX12_canKeep_231 (by decide) ?_
                        refine va_zast (cA := k 6) (n := 46) (f := f61) hx hb hK hP hD hS 7 6 (WR_get 6 (by decide)) (TR_get 6 (by decide)) (vp_in_nI (show k6 < 46 by omega) (by omega)) dX12_canKeep_235 (fun H locs hP hD hS => ?_)
                        have e9 : fT (fT (fT (fT (fT (fT vF 0 g1) 2 f21) 3 f31) 4 f41) 5 f51) 6 (upd f61 ((nI k6)).toNatClampNeg (vp_nar FieldType.boolean 1)) = fT (fT (fT (fT (fT (fT (fT vF 0 g1) 2 f21) 3 f31) 4 f41) 5 f51) 6 f61) 6 (upd f61 ((nI k6)).toNatClampNeg (vp_nar FieldType.boolean 1)) := (fT_sm _ _ _ _).symm
                        have hP := wr_PF e9 (fz_w (WR_F 6 (by decide) _ rfl) hP)
                        have hD := wr_DF e9 (fz_wD (WR_F 6 (by decide) _ rfl) hD)
                        clear e9
                        refine lv_iinc (v := (nI (k6 + 1))) hx hb dX12_canKeep_236 hl (k := 2) rfl (nI_add k6 1) (by decide) rfl (fun ls (hl : lv_has ls _ ([(3, .int (nI (k6 + 1))), (0, .ref h0), (1, .int (nI (C - 1)))])) => ?_)
                        refine lv_goto (tgt := 198) hx hb dX12_canKeep_239 (by decide) ?_
                        have hl : lv_has _ _ ([(0, .ref h0), (1, .int (nI (C - 1))), (3, .int (nI (k6 + 1)))]) := lv_sub hl [1, 2, 0] rfl
                        exact ih198_2 (k6 + 1) (upd f61 ((nI k6)).toNatClampNeg (vp_nar FieldType.boolean 1)) _ _ _ (by omega) (by omega) hP hD hS hl
              · have t_130 : ¬ ((i : Nat) : Int) ≥ ((R : Nat) : Int) := toI_nge c_130 (nI_toInt (by omega)) (nI_toInt (by omega))
                refine lv_aload_n hx hb dX12_canKeep_133 rfl (lv_at hl 0 rfl) ?_
                refine va_get (D := (dC, dI)) (ci := 12) (v := .ref (a 5)) (C := RX12) (T := TX12) (N := 163) (fs := fM (vS a (fT vi 11 qk1) (fT vj 12 qd1))) hx hb hts iwsRX12_canKeep_in12 hown hK hP 0 rfl rfl 9 (by decide) (hts (.fieldLink RX12 26 "OptimaWorksModel" "rowOf" "[I") (by decide +kernel)) (fun _ h9 => h9) rfl dX12_canKeep_134 ?_
                refine lv_iload_n hx hb dX12_canKeep_137 rfl (lv_at hl 2 rfl) ?_
                refine va_iald (cA := k 5) (n := 60) (f := f51) hx hb hK hP 6 5 (WR_get 5 (by decide)) (TR_get 5 (by decide)) (vp_in_nI (show i < 60 by omega) (by omega)) dX12_canKeep_138 ?_
                refine lv_topi (fun y11 hy11 => ?_)
                obtain rfl : (f51 i) = y11 := (hy11.trans (by rw [nI_clamp (by omega)])).symm
                refine lv_iload_n hx hb dX12_canKeep_139 rfl (lv_at hl 1 rfl) ?_
                refine lv_icmp_eq (tgt := 146) hx hb dX12_canKeep_140 (by decide) (fun c_140 => ?_) (fun c_140 => ?_)
                · have t_140 : ((f51 i)).toInt = (((C - 1) : Nat) : Int) := toI_eq c_140 rfl (nI_toInt (by omega))
                  refine lv_iconst (v := 0) hx hb dX12_canKeep_146 (by decide) ?_
                  refine lv_istore hx hb dX12_canKeep_147 hl (by decide) rfl (fun ls (hl : lv_has ls _ ([(4, .int 0), (0, .ref h0), (1, .int (nI (C - 1))), (3, .int (nI i))])) => ?_)
                  have hl : lv_has _ _ ([(0, .ref h0), (1, .int (nI (C - 1))), (3, .int (nI i)), (4, .int (nI 0))]) := lv_sub hl [1, 2, 3, 0] rfl
                  refine (fun (loop : ∀ (n9 : Nat) (cc : Nat) (H : Heap) (locs : List Loc) (ls : Array Slot), (cc ≤ C) →  (C < cc + n9) → va_P (dC, dI) vwCl (WR a k h0 (fT vi 11 qk1) (fT vj 12 qd1) (fT (fT (fT (fT (fT (fT vF 0 g1) 2 f21) 3 f31) 4 f41) 5 f51) 6 f6A) (fT (fT (fT vG 7 F1) 1 gs1) 8 L81)) H → va_D A (WR a k h0 (fT vi 11 qk1) (fT vj 12 qd1) (fT (fT (fT (fT (fT (fT vF 0 g1) 2 f21) 3 f31) 4 f41) 5 f51) 6 f6A) (fT (fT (fT vG 7 F1) 1 gs1) 8 L81)) → va_S A s.heap H locs → lv_has ls 5 [(0, .ref h0), (1, .int (nI (C - 1))), (3, .int (nI i)), (4, .int (nI cc))] → W p l e _ s m _ below meth c H locs 0 0 _ (F0 m 149 ls [])) => loop (C + 1) 0 _ _ _ (by omega) (by omega) hP hD hS hl) ?_
                  intro n9
                  induction n9 with
                  | zero => intro cc H locs ls hcc hf9; exact False.elim (by omega)
                  | succ n9 ih149_3 =>
                    intro cc H locs ls hcc hf149_3 hP hD hS hl
                    refine lv_iload hx hb dX12_canKeep_149 (lv_at hl 3 rfl) ?_
                    refine lv_aload_n hx hb dX12_canKeep_151 rfl (lv_at hl 0 rfl) ?_
                    refine va_get (D := (dC, dI)) (ci := 12) (v := .int (vi 5)) (C := RX12) (T := TX12) (N := 163) (fs := fM (vS a (fT vi 11 qk1) (fT vj 12 qd1))) hx hb hts iwsRX12_canKeep_in12 hown hK hP 0 rfl rfl 5 (by decide) (hts _ hm_r_X12_canKeep_0) (fun _ h9 => h9) rfl dX12_canKeep_152 ?_
                    refine lv_topi (fun y12 hy12 => ?_)
                    obtain rfl : (nI C) = y12 := (hy12.trans (hC)).symm
                    refine lv_icmp_ge (tgt := 174) hx hb dX12_canKeep_155 (by decide) (fun c_155 => ?_) (fun c_155 => ?_)
                    · have t_155 : ((cc : Nat) : Int) ≥ ((C : Nat) : Int) := toI_ge c_155 (nI_toInt (by omega)) (nI_toInt (by omega))
                      refine lv_iload hx hb dX12_canKeep_174 (lv_at hl 3 rfl) ?_
                      refine lv_aload_n hx hb dX12_canKeep_176 rfl (lv_at hl 0 rfl) ?_
                      refine va_get (D := (dC, dI)) (ci := 12) (v := .int (vi 5)) (C := RX12) (T := TX12) (N := 163) (fs := fM (vS a (fT vi 11 qk1) (fT vj 12 qd1))) hx hb hts iwsRX12_canKeep_in12 hown hK hP 0 rfl rfl 5 (by decide) (hts _ hm_r_X12_canKeep_0) (fun _ h9 => h9) rfl dX12_canKeep_177 ?_
                      refine lv_topi (fun y13 hy13 => ?_)
                      obtain rfl : (nI C) = y13 := (hy13.trans (hC)).symm
                      refine lv_icmp_ge (tgt := 190) hx hb dX12_canKeep_180 (by decide) (fun c_180 => ?_) (fun c9 => False.elim (by have t9 : ¬ ((cc : Nat) : Int) ≥ ((C : Nat) : Int) := toI_nge c9 (nI_toInt (by omega)) (nI_toInt (by omega)); omega))
                      have t_180 : ((cc : Nat) : Int) ≥ ((C : Nat) : Int) := toI_ge c_180 (nI_toInt (by omega)) (nI_toInt (by omega))
                      refine lv_iinc (v := (nI (i + 1))) hx hb dX12_canKeep_190 hl (k := 2) rfl (nI_add i 1) (by decide) rfl (fun ls (hl : lv_has ls _ ([(3, .int (nI (i + 1))), (0, .ref h0), (1, .int (nI (C - 1))), (4, .int (nI cc))])) => ?_)
                      refine lv_goto (tgt := 125) hx hb dX12_canKeep_193 (by decide) ?_
                      have hl : lv_has _ _ ([(0, .ref h0), (1, .int (nI (C - 1))), (3, .int (nI (i + 1)))]) := lv_sub hl [1, 2, 0] rfl
                      exact ih125_1 (i + 1) t1 D1 g1 f21 f31 f41 f51 gs1 F1 L81 qk1 qd1 m1 _ _ _ (hB1) (by omega) (hT1) (hS1) (hG1) (hRC) (ho) (by omega) hP hD hS hl
                    · have t_155 : ¬ ((cc : Nat) : Int) ≥ ((C : Nat) : Int) := toI_nge c_155 (nI_toInt (by omega)) (nI_toInt (by omega))
                      refine lv_aload_n hx hb dX12_canKeep_158 rfl (lv_at hl 0 rfl) ?_
                      refine lv_iload_n hx hb dX12_canKeep_159 rfl (lv_at hl 2 rfl) ?_
                      refine lv_iload hx hb dX12_canKeep_160 (lv_at hl 3 rfl) ?_
                      have hFc := allFree hD hS hA
                      refine va_calli (va_runV (As := [.int (nI i), .int (nI cc)]) (rest := []) ⟨hx, hb, hml, hown, hts⟩ (r_X12_signAt l dC dI a k h0 (fT vi 11 qk1) (fT vj 12 qd1) (fT (fT (fT (fT (fT (fT vF 0 g1) 2 f21) 3 f31) 4 f41) 5 f51) 6 f6A) (fT (fT (fT vG 7 F1) 1 gs1) 8 L81) i cc C (R + Gq) t1 D1 m1 hB1 (by first | with_reducible assumption | decide | omega | rfl | assumption) (hT1) (by first | with_reducible assumption | decide | omega | rfl | assumption) (by first | with_reducible assumption | decide | omega | rfl | assumption) (by first | with_reducible assumption | decide | omega | rfl | assumption) (by first | with_reducible assumption | decide | omega | rfl | assumption) (by first | with_reducible assumption | decide | omega | rfl | assumption) H.size) (cwV 2 hts gwsRX12_canKeep_3 rfl rfl rfl hd_yX12_signAt_RX12 (by decide +kernel)) (fz_pre (va_recv hK hP (ci := 12) (q0 := 0) rfl rfl) hP hK hD) rfl rfl hl.1 rfl (lv_room (Nat.le_of_ble_eq_true rfl)) dX12_canKeep_162 (by decide +kernel)) hS (fun q _ h => hFc q h) hFc (fun r162 u t9_ H locs ht hvm hw9 hB9 hz1 hk1 hS => ?_)
                      have hP : va_P (dC, dI) vwCl (WR a k h0 (fT vi 11 qk1) (fT vj 12 qd1) (fT (fT (fT (fT (fT (fT vF 0 g1) 2 f21) 3 f31) 4 f41) 5 f51) 6 f6A) (fT (fT (fT vG 7 F1) 1 gs1) 8 L81)) H := fz_P ht hB9.1
                      have hD := fz_sd hP (hB9.2.weaken (fun _ q _ h => hFc q.1 h)) rfl
                      have f162_0 := hw9
                      try dsimp only at f162_0
                      refine lv_if_ne (tgt := 174) hx hb dX12_canKeep_165 (by decide) (fun c_165 => ?_) (fun c_165 => ?_)
                      · have t_165 : (r162).toInt ≠ 0 := toI_ne c_165 rfl (by decide)
                        refine lv_iload hx hb dX12_canKeep_174 (lv_at hl 3 rfl) ?_
                        refine lv_aload_n hx hb dX12_canKeep_176 rfl (lv_at hl 0 rfl) ?_
                        refine va_get (D := (dC, dI)) (ci := 12) (v := .int (vi 5)) (C := RX12) (T := TX12) (N := 163) (fs := fM (vS a (fT vi 11 qk1) (fT vj 12 qd1))) hx hb hts iwsRX12_canKeep_in12 hown hK hP 0 rfl rfl 5 (by decide) (hts _ hm_r_X12_canKeep_0) (fun _ h9 => h9) rfl dX12_canKeep_177 ?_
                        refine lv_topi (fun y14 hy14 => ?_)
                        obtain rfl : (nI C) = y14 := (hy14.trans (hC)).symm
                        refine lv_icmp_ge (tgt := 190) hx hb dX12_canKeep_180 (by decide) (fun c9 => False.elim (by have t9 : ((cc : Nat) : Int) ≥ ((C : Nat) : Int) := toI_ge c9 (nI_toInt (by omega)) (nI_toInt (by omega)); omega)) (fun c_180 => ?_)
                        have t_180 : ¬ ((cc : Nat) : Int) ≥ ((C : Nat) : Int) := toI_nge c_180 (nI_toInt (by omega)) (nI_toInt (by omega))
                        have hp8 : t1 i cc ≠ 0 := by (have f9 := f162_0); omega
                        have hz8 := hS1.help0 (by omega) (by omega) (by omega) haR (by omega) c_140 hG1 hRC
                        refine lv_aload_n hx hb dX12_canKeep_183 rfl (lv_at hl 0 rfl) ?_
                        refine lv_iload_n hx hb dX12_canKeep_184 rfl (lv_at hl 2 rfl) ?_
                        refine lv_iload hx hb dX12_canKeep_185 (lv_at hl 3 rfl) ?_
                        have hFc := allFree hD hS hA
                        refine va_callv (va_runV (As := [.int (nI i), .int (nI cc)]) (rest := []) ⟨hx, hb, hml, hown, hts⟩ (r_X12_pivot l dC dI a k h0 (fT vi 11 qk1) (fT vj 12 qd1) (fT (fT (fT (fT (fT (fT vF 0 g1) 2 f21) 3 f31) 4 f41) 5 f51) 6 f6A) (fT (fT (fT vG 7 F1) 1 gs1) 8 L81) i cc C R Gq t1 D1 m1 hB1 (by first | with_reducible assumption | decide | omega | rfl | assumption) (by first | with_reducible assumption | decide | omega | rfl | assumption) (by first | with_reducible assumption | decide | omega | rfl | assumption) (by first | with_reducible assumption | decide | omega | rfl | assumption) (by first | with_reducible assumption | decide | omega | rfl | assumption) (by first | with_reducible assumption | decide | omega | rfl | assumption) (hT1) (by first | with_reducible assumption | decide | omega | rfl | assumption) (by first | with_reducible assumption | decide | omega | rfl | assumption) (hS1.1.2.1) (hp8) ((hsm _ _ _ _ hS1.1).2) H.size) (cwV 2 hts gwsRX12_canKeep_1 rfl rfl rfl hd_yX12_pivot_RX12 (by decide +kernel)) (fz_pre (va_recv hK hP (ci := 12) (q0 := 0) rfl rfl) hP hK hD) rfl rfl hl.1 rfl (lv_room (Nat.le_of_ble_eq_true rfl)) dX12_canKeep_187 (by decide +kernel)) hS (fun q _ h => hFc q h) hFc (fun u t9_ H locs ht hvm hw9 hB9 hz1 hk1 hS => ?_)
                        revert u hw9 hB9
                        refine fz_p9 ?_
                        intro g187 f2w187 f3w187 gs187 qk187 qd187 F187 L8187 m2187 hw9 hB9
                        try dsimp only at hw9 hB9
                        have e9i : fT vi 11 qk187 = fT (fT vi 11 qk1) 11 qk187 := (fT_sm _ _ _ _).symm
                        have e9j : fT vj 12 qd187 = fT (fT vj 12 qd1) 12 qd187 := (fT_sm _ _ _ _).symm
                        have e9F : fT (fT (fT (fT (fT (fT vF 0 g187) 2 f2w187) 3 f3w187) 4 (upd f41 (nI cc).toNatClampNeg (f51 i))) 5 (upd f51 (nI i).toNatClampNeg (f41 cc))) 6 f6A = fT (fT (fT (fT (fT (fT (fT (fT (fT (fT (fT vF 0 g1) 2 f21) 3 f31) 4 f41) 5 f51) 6 f6A) 0 g187) 2 f2w187) 3 f3w187) 4 (upd f41 (nI cc).toNatClampNeg (f51 i))) 5 (upd f51 (nI i).toNatClampNeg (f41 cc)) := Eq.symm (Eq.trans (congrArg (fun g9 => fT g9 5 (upd f51 (nI i).toNatClampNeg (f41 cc))) (Eq.trans (congrArg (fun g9 => fT g9 4 (upd f41 (nI cc).toNatClampNeg (f51 i))) (Eq.trans (congrArg (fun g9 => fT g9 3 f3w187) (Eq.trans (congrArg (fun g9 => fT g9 2 f2w187) (up_5 rfl)) (up_4 rfl))) (up_3 rfl))) (up_2 rfl))) (up_1 rfl))
                        have e9G : fT (fT (fT vG 7 F187) 1 gs187) 8 L8187 = fT (fT (fT (fT (fT (fT vG 7 F1) 1 gs1) 8 L81) 8 L8187) 7 F187) 1 gs187 := ((congrArg (fun g9 => fT (fT g9 7 F187) 1 gs187) (fT_sm _ _ _ _)).trans ((congrArg (fun g9 => fT g9 1 gs187) ((fT_sw _ _ _ (Nat.ne_of_beq_eq_false rfl)).trans (congrArg (fun g9 => fT g9 8 L8187) ((fT_sw _ _ _ (Nat.ne_of_beq_eq_false rfl)).trans (congrArg (fun g9 => fT g9 1 gs1) (fT_sm _ _ _ _)))))).trans ((fT_sw _ _ _ (Nat.ne_of_beq_eq_false rfl)).trans (congrArg (fun g9 => fT g9 8 L8187) (fT_sm _ _ _ _))))).symm
                        have hP := wr_PG e9G (wr_PF e9F (wr_Pj e9j (wr_Pi e9i (fz_P ht hB9.1))))
                        have hD := wr_DG e9G (wr_DF e9F (wr_Dj e9j (wr_Di e9i (hB9.2.weaken (fun _ q _ h => hFc q.1 h)))))
                        clear e9i e9j e9F e9G
                        revert hw9
                        refine fz_a3 ?_
                        intro f187_0 f187_1 f187_2
                        obtain ⟨hS9, -⟩ := hS1.next (r := i) (c := cc) (by omega) (by omega) (by omega) (by omega) (by omega) (sgI_or _) (sgI_pos hp8)
                        have hG9 : ∀ k, k < R → 0 ≤ nvT i cc (sgI (t1 i cc)) t1 D1 k C := fun k hk => hS1.flat (by omega) (by omega) (by omega) hp8 hz8.1 (by omega) (hG1 k hk)
                        have hRC9 := hS1.flat (i := R) (show i < R by omega) (by omega) (show cc < C by omega) hp8 hz8.1 (by omega) hRC
                        refine lv_iinc (v := (nI (i + 1))) hx hb dX12_canKeep_190 hl (k := 2) rfl (nI_add i 1) (by decide) rfl (fun ls (hl : lv_has ls _ ([(3, .int (nI (i + 1))), (0, .ref h0), (1, .int (nI (C - 1))), (4, .int (nI cc))])) => ?_)
                        refine lv_goto (tgt := 125) hx hb dX12_canKeep_193 (by decide) ?_
                        have hl : lv_has _ _ ([(0, .ref h0), (1, .int (nI (C - 1))), (3, .int (nI (i + 1)))]) := lv_sub hl [1, 2, 0] rfl
                        exact ih125_1 (i + 1) (nvT i cc (sgI (t1 i cc)) t1 D1) (sgI (t1 i cc) * t1 i cc) g187 f2w187 f3w187 (upd f41 (nI cc).toNatClampNeg (f51 i)) (upd f51 (nI i).toNatClampNeg (f41 cc)) gs187 F187 L8187 qk187 qd187 m2187 _ _ _ (f187_0) (by omega) (f187_1) (hS9) (hG9) (hRC9) (fun q hq => by (rw [f187_2 _ (by omega)]); exact ho q hq) (by omega) hP hD hS hl
                      · have t_165 : (r162).toInt = 0 := toI_nne c_165 rfl (by decide)
                        refine lv_iinc (v := (nI (cc + 1))) hx hb dX12_canKeep_168 hl (k := 3) rfl (nI_add cc 1) (by decide) rfl (fun ls (hl : lv_has ls _ ([(4, .int (nI (cc + 1))), (0, .ref h0), (1, .int (nI (C - 1))), (3, .int (nI i))])) => ?_)
                        refine lv_goto (tgt := 149) hx hb dX12_canKeep_171 (by decide) ?_
                        have hl : lv_has _ _ ([(0, .ref h0), (1, .int (nI (C - 1))), (3, .int (nI i)), (4, .int (nI (cc + 1)))]) := lv_sub hl [1, 2, 3, 0] rfl
                        exact ih149_3 (cc + 1) _ _ _ (by omega) (by omega) hP hD hS hl
                · have t_140 : ¬ ((f51 i)).toInt = (((C - 1) : Nat) : Int) := toI_neq c_140 rfl (nI_toInt (by omega))
                  refine lv_goto (tgt := 190) hx hb dX12_canKeep_143 (by decide) ?_
                  refine lv_iinc (v := (nI (i + 1))) hx hb dX12_canKeep_190 hl (k := 2) rfl (nI_add i 1) (by decide) rfl (fun ls (hl : lv_has ls _ ([(3, .int (nI (i + 1))), (0, .ref h0), (1, .int (nI (C - 1)))])) => ?_)
                  refine lv_goto (tgt := 125) hx hb dX12_canKeep_193 (by decide) ?_
                  have hl : lv_has _ _ ([(0, .ref h0), (1, .int (nI (C - 1))), (3, .int (nI (i + 1)))]) := lv_sub hl [1, 2, 0] rfl
                  exact ih125_1 (i + 1) t1 D1 g1 f21 f31 f41 f51 gs1 F1 L81 qk1 qd1 m1 _ _ _ (hB1) (by omega) (hT1) (hS1) (hG1) (hRC) (ho) (by omega) hP hD hS hl
          · have t_118 : ¬ (r115).toInt ≥ 0 := toI_nge c_118 rfl (by decide)
            refine lv_iconst (v := 0) hx hb dX12_canKeep_121 (by decide) ?_
            refine W.widen (k := 0) (n := 0) (by decide +kernel) (by decide +kernel) ?_
            exact W.zret (v := 0) hx hb hr rfl (fun t9_ ht hW => ⟨⟨0, (gA, f2A, f3A, f4A, f5A, f6A, gsA, FA, L8A, qkA, qdA, mA, tA, DA), rfl, by (try dsimp only); exact Or.inl ⟨rfl, hBA, hTA, hSA, hGA, hoA⟩, by rw [ht]; exact hP, hD⟩, hS.F ht⟩) hS.2.2 dX12_canKeep_122
      · have t_79 : (lq).toInt = -1 := toI_nne c_79 rfl (by decide)
        refine lv_aload_n hx hb dX12_canKeep_82 rfl (lv_at hl 0 rfl) ?_
        refine va_get (D := (dC, dI)) (ci := 12) (v := .ref (a 6)) (C := RX12) (T := TX12) (N := 163) (fs := fM (vS a (fT vi 11 qk74) (fT vj 12 1))) hx hb hts iwsRX12_canKeep_in12 hown hK hP 0 rfl rfl 10 (by decide) (hts _ hm_r_X12_canKeep_2) (fun _ h9 => h9) rfl dX12_canKeep_83 ?_
        refine lv_iload_n hx hb dX12_canKeep_86 rfl (lv_at hl 1 rfl) ?_
        refine lv_iconst (v := 1) hx hb dX12_canKeep_87 (by decide) ?_
        refine va_zast (cA := k 6) (n := 46) (f := (vF 6)) hx hb hK hP hD hS 7 6 (WR_get 6 (by decide)) (TR_get 6 (by decide)) (vp_in_nI (show (C - 1) < 46 by omega) (by omega)) dX12_canKeep_88 (fun H locs hP hD hS => ?_)
        have hP : va_P (dC, dI) vwCl (WR a k h0 (fT vi 11 qk74) (fT vj 12 1) (fT vF 6 (upd (vF 6) ((nI (C - 1))).toNatClampNeg (vp_nar FieldType.boolean 1))) (fT vG 7 F74)) H := fz_w (WR_F 6 (by decide) _ rfl) hP
        have hD : va_D A (WR a k h0 (fT vi 11 qk74) (fT vj 12 1) (fT vF 6 (upd (vF 6) ((nI (C - 1))).toNatClampNeg (vp_nar FieldType.boolean 1))) (fT vG 7 F74)) := fz_wD (WR_F 6 (by decide) _ rfl) hD
        refine lv_iconst (v := 1) hx hb dX12_canKeep_89 (by decide) ?_
        refine W.widen (k := 0) (n := 0) (by decide +kernel) (by decide +kernel) ?_
        have e9 : fT (fT (fT (fT (fT (fT vF 0 (vF 0)) 2 (vF 2)) 3 (vF 3)) 4 (vF 4)) 5 (vF 5)) 6 (upd (vF 6) ((nI (C - 1))).toNatClampNeg (vp_nar FieldType.boolean 1)) = fT vF 6 (upd (vF 6) ((nI (C - 1))).toNatClampNeg (vp_nar FieldType.boolean 1)) := Eq.trans (mv_5 rfl) (Eq.trans (id_5 rfl) (Eq.trans (mv_4 rfl) (Eq.trans (id_4 rfl) (Eq.trans (mv_3 rfl) (Eq.trans (id_3 rfl) (Eq.trans (mv_2 rfl) (Eq.trans (id_2 rfl) (Eq.trans (mv_1 rfl) (id_1 rfl)))))))))
        have hP := wr_PF e9 hP
        have hD := wr_DF e9 hD
        clear e9
        have e9 : fT (fT (fT vG 7 F74) 1 (vG 1)) 8 (vG 8) = fT vG 7 F74 := (fT_id _ _ ((fT_ne _ _ (Nat.ne_of_beq_eq_false rfl)).trans (fT_ne _ _ (Nat.ne_of_beq_eq_false rfl)))).trans (fT_id _ _ (fT_ne _ _ (Nat.ne_of_beq_eq_false rfl)))
        have hP := wr_PG e9 hP
        have hD := wr_DG e9 hD
        clear e9
        exact W.zret (v := 1) hx hb hr rfl (fun t9_ ht hW => ⟨⟨1, ((vF 0), (vF 2), (vF 3), (vF 4), (vF 5), (upd (vF 6) ((nI (C - 1))).toNatClampNeg (vp_nar FieldType.boolean 1)), (vG 1), F74, (vG 8), qk74, 1, mg, a_, 1), rfl, by (try dsimp only); exact Or.inr ⟨rfl, hBg, f74_0, hS0, fun i2 hi2 => by rcases hlq with h9 | h9; (exact h9.2 i2 (by omega)); (exfalso; (have h8 := nI_toInt (n := lb) (by omega)); rw [← h9.1, c_79] at h8; (have h7 : ((-1 : Int32)).toInt = -1 := by decide); omega), fun q _ => rfl⟩, by rw [ht]; exact hP, hD⟩, hS.F ht⟩) hS.2.2 dX12_canKeep_90
    · have t_16 : ¬ ((i : Nat) : Int) ≥ ((R : Nat) : Int) := toI_nge c_16 (nI_toInt (by omega)) (nI_toInt (by omega))
      have e1 := hN.1 i (by omega) C (by omega)
      have hpl := pl_lt (C := C) (show i < R + Gq by omega) (Nat.le_refl C)
      refine lv_aload_n hx hb dX12_canKeep_19 rfl (lv_at hl 0 rfl) ?_
      refine lv_aload_n hx hb dX12_canKeep_20 rfl (lv_at hl 0 rfl) ?_
      refine lv_iload_n hx hb dX12_canKeep_21 rfl (lv_at hl 3 rfl) ?_
      refine lv_aload_n hx hb dX12_canKeep_22 rfl (lv_at hl 0 rfl) ?_
      refine va_get (D := (dC, dI)) (ci := 12) (v := .int (vi 5)) (C := RX12) (T := TX12) (N := 163) (fs := fM (vS a vi vj)) hx hb hts iwsRX12_canKeep_in12 hown hK hP 0 rfl rfl 5 (by decide) (hts _ hm_r_X12_canKeep_0) (fun _ h9 => h9) rfl dX12_canKeep_23 ?_
      refine lv_topi (fun y15 hy15 => ?_)
      obtain rfl : (nI C) = y15 := (hy15.trans (hC)).symm
      have hFc := allFree hD hS hA
      refine va_calli (va_runV (As := [.int (nI i), .int (nI C)]) (rest := [.ref h0]) ⟨hx, hb, hml, hown, hts⟩ (r_X12_at l dC dI a k h0 vi vj vF vG i C C (by first | with_reducible assumption | decide | omega | rfl | assumption) H.size) (cwV 2 hts gwsRX12_canKeep_4 rfl rfl rfl hd_yX12_at_RX12 (by decide +kernel)) (fz_pre (va_recv hK hP (ci := 12) (q0 := 0) rfl rfl) hP hK hD) rfl rfl hl.1 rfl (lv_room (Nat.le_of_ble_eq_true rfl)) dX12_canKeep_26 (by decide +kernel)) hS (fun q _ h => hFc q h) hFc (fun r26 u t9_ H locs ht hvm hw9 hB9 hz1 hk1 hS => ?_)
      have hP : va_P (dC, dI) vwCl (WR a k h0 vi vj vF vG) H := fz_P ht hB9.1
      have hD := fz_sd hP (hB9.2.weaken (fun _ q _ h => hFc q.1 h)) rfl
      obtain rfl := hw9
      have hFc := allFree hD hS hA
      refine va_calli (va_runV (As := [.int (nI (30 + i * (C + 1) + C))]) (rest := []) ⟨hx, hb, hml, hown, hts⟩ (b_X12_sign l dC dI a k h0 vi vj vF vG (30 + i * (C + 1) + C) mg hBg (mg (30 + i * (C + 1) + C)) rfl (by first | with_reducible assumption | decide | omega | rfl | assumption) H.size) (cwV 1 hts gwsRX12_canKeep_5 rfl rfl rfl hd_yX12_sign_RX12 (by decide +kernel)) (fz_pre (va_recv hK hP (ci := 12) (q0 := 0) rfl rfl) hP hK hD) rfl rfl hl.1 rfl (lv_room (Nat.le_of_ble_eq_true rfl)) dX12_canKeep_29 (by decide +kernel)) hS (fun q _ h => hFc q h) hFc (fun r29 u t9_ H locs ht hvm hw9 hB9 hz1 hk1 hS => ?_)
      have hP : va_P (dC, dI) vwCl (WR a k h0 vi vj vF vG) H := fz_P ht hB9.1
      have hD := fz_sd hP (hB9.2.weaken (fun _ q _ h => hFc q.1 h)) rfl
      have f29_0 := hw9
      try dsimp only at f29_0
      refine lv_if_ge (tgt := 67) hx hb dX12_canKeep_32 (by decide) (fun c_32 => ?_) (fun c_32 => ?_)
      · have t_32 : (r29).toInt ≥ 0 := toI_ge c_32 rfl (by decide)
        refine lv_iinc (v := (nI (i + 1))) hx hb dX12_canKeep_67 hl (k := 3) rfl (nI_add i 1) (by decide) rfl (fun ls (hl : lv_has ls _ ([(3, .int (nI (i + 1))), (0, .ref h0), (1, .int (nI (C - 1))), (2, .int lq)])) => ?_)
        refine lv_goto (tgt := 11) hx hb dX12_canKeep_70 (by decide) ?_
        have hl : lv_has _ _ ([(0, .ref h0), (1, .int (nI (C - 1))), (2, .int lq), (3, .int (nI (i + 1)))]) := lv_sub hl [1, 2, 3, 0] rfl
        exact ih11 (i + 1) lq lb _ _ _ (by omega) (by (have f9 := f29_0); rcases hlq with ⟨h1, h2⟩ | ⟨h1, h2, h3, h4⟩; (exact Or.inl ⟨h1, fun i2 hi2 => by by_cases e9 : i2 = i; (rw [e9]; omega); (have h9 := h2 i2 (by omega); omega)⟩); (exact Or.inr ⟨h1, by omega, h3, fun i2 hi2 => by by_cases e9 : i2 = i; (rw [e9]; omega); (have h9 := h4 i2 (by omega); omega)⟩)) (by omega) hP hD hS hl
      · have t_32 : ¬ (r29).toInt ≥ 0 := toI_nge c_32 rfl (by decide)
        refine lv_iload_n hx hb dX12_canKeep_35 rfl (lv_at hl 2 rfl) ?_
        refine lv_iconst (v := (-1)) hx hb dX12_canKeep_36 (by decide) ?_
        refine lv_icmp_eq (tgt := 65) hx hb dX12_canKeep_37 (by decide) (fun c_37 => ?_) (fun c_37 => ?_)
        · have t_37 : (lq).toInt = -1 := toI_eq c_37 rfl (by decide)
          refine lv_iload_n hx hb dX12_canKeep_65 rfl (lv_at hl 3 rfl) ?_
          refine lv_istore_n hx hb dX12_canKeep_66 rfl hl (by decide) rfl (fun ls (hl : lv_has ls _ ([(2, .int (nI i)), (0, .ref h0), (1, .int (nI (C - 1))), (3, .int (nI i))])) => ?_)
          refine lv_iinc (v := (nI (i + 1))) hx hb dX12_canKeep_67 hl (k := 3) rfl (nI_add i 1) (by decide) rfl (fun ls (hl : lv_has ls _ ([(3, .int (nI (i + 1))), (2, .int (nI i)), (0, .ref h0), (1, .int (nI (C - 1)))])) => ?_)
          refine lv_goto (tgt := 11) hx hb dX12_canKeep_70 (by decide) ?_
          have hl : lv_has _ _ ([(0, .ref h0), (1, .int (nI (C - 1))), (2, .int (nI i)), (3, .int (nI (i + 1)))]) := lv_sub hl [2, 3, 1, 0] rfl
          exact ih11 (i + 1) (nI i) i _ _ _ (by omega) (by (have f9 := f29_0); (have h2 : ∀ i2, i2 < i → 0 ≤ a_ i2 C := by rcases hlq with ⟨h1, h2⟩ | ⟨h1, h2, h3⟩; (exact h2); (exfalso; (have h9 := nI_toInt (n := lb) (by omega)); rw [← h1, c_37] at h9; (have h8 : ((-1 : Int32)).toInt = -1 := by decide); omega)); exact Or.inr ⟨rfl, by omega, by omega, fun i2 hi2 => by by_cases e9 : i2 = i; (rw [e9]; omega); (have h9 := h2 i2 (by omega); omega)⟩) (by omega) hP hD hS hl
        · have t_37 : ¬ (lq).toInt = -1 := toI_neq c_37 rfl (by decide)
          obtain ⟨h1c, h2c, h3c, h4c⟩ := hlq.resolve_left (fun h => c_37 h.1)
          subst h1c
          have e2 := hN.1 lb (by omega) C (by omega)
          have hpl2 := pl_lt (C := C) (show lb < R + Gq by omega) (Nat.le_refl C)
          refine lv_aload_n hx hb dX12_canKeep_40 rfl (lv_at hl 0 rfl) ?_
          refine lv_aload_n hx hb dX12_canKeep_41 rfl (lv_at hl 0 rfl) ?_
          refine lv_iload_n hx hb dX12_canKeep_42 rfl (lv_at hl 3 rfl) ?_
          refine lv_aload_n hx hb dX12_canKeep_43 rfl (lv_at hl 0 rfl) ?_
          refine va_get (D := (dC, dI)) (ci := 12) (v := .int (vi 5)) (C := RX12) (T := TX12) (N := 163) (fs := fM (vS a vi vj)) hx hb hts iwsRX12_canKeep_in12 hown hK hP 0 rfl rfl 5 (by decide) (hts _ hm_r_X12_canKeep_0) (fun _ h9 => h9) rfl dX12_canKeep_44 ?_
          refine lv_topi (fun y16 hy16 => ?_)
          obtain rfl : (nI C) = y16 := (hy16.trans (hC)).symm
          have hFc := allFree hD hS hA
          refine va_calli (va_runV (As := [.int (nI i), .int (nI C)]) (rest := [.ref h0]) ⟨hx, hb, hml, hown, hts⟩ (r_X12_at l dC dI a k h0 vi vj vF vG i C C (by first | with_reducible assumption | decide | omega | rfl | assumption) H.size) (cwV 2 hts gwsRX12_canKeep_4 rfl rfl rfl hd_yX12_at_RX12 (by decide +kernel)) (fz_pre (va_recv hK hP (ci := 12) (q0 := 0) rfl rfl) hP hK hD) rfl rfl hl.1 rfl (lv_room (Nat.le_of_ble_eq_true rfl)) dX12_canKeep_47 (by decide +kernel)) hS (fun q _ h => hFc q h) hFc (fun r47 u t9_ H locs ht hvm hw9 hB9 hz1 hk1 hS => ?_)
          have hP : va_P (dC, dI) vwCl (WR a k h0 vi vj vF vG) H := fz_P ht hB9.1
          have hD := fz_sd hP (hB9.2.weaken (fun _ q _ h => hFc q.1 h)) rfl
          obtain rfl := hw9
          refine lv_aload_n hx hb dX12_canKeep_50 rfl (lv_at hl 0 rfl) ?_
          refine lv_iload_n hx hb dX12_canKeep_51 rfl (lv_at hl 2 rfl) ?_
          refine lv_aload_n hx hb dX12_canKeep_52 rfl (lv_at hl 0 rfl) ?_
          refine va_get (D := (dC, dI)) (ci := 12) (v := .int (vi 5)) (C := RX12) (T := TX12) (N := 163) (fs := fM (vS a vi vj)) hx hb hts iwsRX12_canKeep_in12 hown hK hP 0 rfl rfl 5 (by decide) (hts _ hm_r_X12_canKeep_0) (fun _ h9 => h9) rfl dX12_canKeep_53 ?_
          refine lv_topi (fun y17 hy17 => ?_)
          obtain rfl : (nI C) = y17 := (hy17.trans (hC)).symm
          have hFc := allFree hD hS hA
          refine va_calli (va_runV (As := [.int (nI lb), .int (nI C)]) (rest := [.int (nI (30 + i * (C + 1) + C)), .ref h0]) ⟨hx, hb, hml, hown, hts⟩ (r_X12_at l dC dI a k h0 vi vj vF vG lb C C (by first | with_reducible assumption | decide | omega | rfl | assumption) H.size) (cwV 2 hts gwsRX12_canKeep_4 rfl rfl rfl hd_yX12_at_RX12 (by decide +kernel)) (fz_pre (va_recv hK hP (ci := 12) (q0 := 0) rfl rfl) hP hK hD) rfl rfl hl.1 rfl (lv_room (Nat.le_of_ble_eq_true rfl)) dX12_canKeep_56 (by decide +kernel)) hS (fun q _ h => hFc q h) hFc (fun r56 u t9_ H locs ht hvm hw9 hB9 hz1 hk1 hS => ?_)
          have hP : va_P (dC, dI) vwCl (WR a k h0 vi vj vF vG) H := fz_P ht hB9.1
          have hD := fz_sd hP (hB9.2.weaken (fun _ q _ h => hFc q.1 h)) rfl
          obtain rfl := hw9
          have hFc := allFree hD hS hA
          refine va_calli (va_runV (As := [.int (nI (30 + i * (C + 1) + C)), .int (nI (30 + lb * (C + 1) + C))]) (rest := []) ⟨hx, hb, hml, hown, hts⟩ (b_X12_compare l dC dI a k h0 vi vj vF vG (30 + i * (C + 1) + C) (30 + lb * (C + 1) + C) mg hBg (mg (30 + i * (C + 1) + C)) (mg (30 + lb * (C + 1) + C)) rfl rfl (by first | with_reducible assumption | decide | omega | rfl | assumption) (by first | with_reducible assumption | decide | omega | rfl | assumption) H.size) (cwV 2 hts gwsRX12_canKeep_6 rfl rfl rfl hd_yX12_compare_RX12 (by decide +kernel)) (fz_pre (va_recv hK hP (ci := 12) (q0 := 0) rfl rfl) hP hK hD) rfl rfl hl.1 rfl (lv_room (Nat.le_of_ble_eq_true rfl)) dX12_canKeep_59 (by decide +kernel)) hS (fun q _ h => hFc q h) hFc (fun r59 u t9_ H locs ht hvm hw9 hB9 hz1 hk1 hS => ?_)
          have hP : va_P (dC, dI) vwCl (WR a k h0 vi vj vF vG) H := fz_P ht hB9.1
          have hD := fz_sd hP (hB9.2.weaken (fun _ q _ h => hFc q.1 h)) rfl
          have f59_0 := hw9
          try dsimp only at f59_0
          refine lv_if_ge (tgt := 67) hx hb dX12_canKeep_62 (by decide) (fun c_62 => ?_) (fun c_62 => ?_)
          · have t_62 : (r59).toInt ≥ 0 := toI_ge c_62 rfl (by decide)
            refine lv_iinc (v := (nI (i + 1))) hx hb dX12_canKeep_67 hl (k := 3) rfl (nI_add i 1) (by decide) rfl (fun ls (hl : lv_has ls _ ([(3, .int (nI (i + 1))), (0, .ref h0), (1, .int (nI (C - 1))), (2, .int (nI lb))])) => ?_)
            refine lv_goto (tgt := 11) hx hb dX12_canKeep_70 (by decide) ?_
            have hl : lv_has _ _ ([(0, .ref h0), (1, .int (nI (C - 1))), (2, .int (nI lb)), (3, .int (nI (i + 1)))]) := lv_sub hl [1, 2, 3, 0] rfl
            exact ih11 (i + 1) (nI lb) lb _ _ _ (by omega) (Or.inr ⟨rfl, by omega, h3c, by (have f9 := f59_0); exact fun i2 hi2 => by by_cases e9 : i2 = i; (rw [e9]; omega); (have h9 := h4c i2 (by omega); omega)⟩) (by omega) hP hD hS hl
          · have t_62 : ¬ (r59).toInt ≥ 0 := toI_nge c_62 rfl (by decide)
            refine lv_iload_n hx hb dX12_canKeep_65 rfl (lv_at hl 3 rfl) ?_
            refine lv_istore_n hx hb dX12_canKeep_66 rfl hl (by decide) rfl (fun ls (hl : lv_has ls _ ([(2, .int (nI i)), (0, .ref h0), (1, .int (nI (C - 1))), (3, .int (nI i))])) => ?_)
            refine lv_iinc (v := (nI (i + 1))) hx hb dX12_canKeep_67 hl (k := 3) rfl (nI_add i 1) (by decide) rfl (fun ls (hl : lv_has ls _ ([(3, .int (nI (i + 1))), (2, .int (nI i)), (0, .ref h0), (1, .int (nI (C - 1)))])) => ?_)
            refine lv_goto (tgt := 11) hx hb dX12_canKeep_70 (by decide) ?_
            have hl : lv_has _ _ ([(0, .ref h0), (1, .int (nI (C - 1))), (2, .int (nI i)), (3, .int (nI (i + 1)))]) := lv_sub hl [2, 3, 1, 0] rfl
            exact ih11 (i + 1) (nI i) i _ _ _ (by omega) (by (have f9 := f59_0); exact Or.inr ⟨rfl, by omega, by omega, fun i2 hi2 => by by_cases e9 : i2 = i; (rw [e9]; omega); (have h9 := h4c i2 (by omega); omega)⟩) (by omega) hP hD hS hl
theorem dX12_thing_0 : decode cX12_thing 0 = .ok (.aload_n 0, 1) := dk_42 (by decide +kernel)
theorem dX12_thing_1 : decode cX12_thing 1 = .ok (.iload_n 1, 1) := dk_27 (by decide +kernel)
theorem dX12_thing_2 : decode cX12_thing 2 = .ok (.lconst 0, 1) := dk_9 (by decide +kernel)
theorem dX12_thing_3 : decode cX12_thing 3 = .ok (.invokevirtual 369, 3) := dk_182 (by decide +kernel)
theorem dX12_thing_6 : decode cX12_thing 6 = .ok (.iconst 0, 1) := dk_3 (by decide +kernel)
theorem dX12_thing_7 : decode cX12_thing 7 = .ok (.istore_n 3, 1) := dk_62 (by decide +kernel)
theorem dX12_thing_8 : decode cX12_thing 8 = .ok (.iload_n 3, 1) := dk_29 (by decide +kernel)
theorem dX12_thing_9 : decode cX12_thing 9 = .ok (.aload_n 0, 1) := dk_42 (by decide +kernel)
theorem dX12_thing_10 : decode cX12_thing 10 = .ok (.getfield 399, 3) := dk_180 (by decide +kernel)
theorem dX12_thing_13 : decode cX12_thing 13 = .ok (.if_icmp .ge 33, 3) := dk_162 (by decide +kernel)
theorem dX12_thing_16 : decode cX12_thing 16 = .ok (.aload_n 0, 1) := dk_42 (by decide +kernel)
theorem dX12_thing_17 : decode cX12_thing 17 = .ok (.getfield 26, 3) := dk_180 (by decide +kernel)
theorem dX12_thing_20 : decode cX12_thing 20 = .ok (.iload_n 3, 1) := dk_29 (by decide +kernel)
theorem dX12_thing_21 : decode cX12_thing 21 = .ok (.iaload, 1) := dk_46 (by decide +kernel)
theorem dX12_thing_22 : decode cX12_thing 22 = .ok (.iload_n 2, 1) := dk_28 (by decide +kernel)
theorem dX12_thing_23 : decode cX12_thing 23 = .ok (.if_icmp .ne 17, 3) := dk_160 (by decide +kernel)
theorem dX12_thing_26 : decode cX12_thing 26 = .ok (.aload_n 0, 1) := dk_42 (by decide +kernel)
theorem dX12_thing_27 : decode cX12_thing 27 = .ok (.iload_n 1, 1) := dk_27 (by decide +kernel)
theorem dX12_thing_28 : decode cX12_thing 28 = .ok (.aload_n 0, 1) := dk_42 (by decide +kernel)
theorem dX12_thing_29 : decode cX12_thing 29 = .ok (.iload_n 3, 1) := dk_29 (by decide +kernel)
theorem dX12_thing_30 : decode cX12_thing 30 = .ok (.aload_n 0, 1) := dk_42 (by decide +kernel)
theorem dX12_thing_31 : decode cX12_thing 31 = .ok (.getfield 396, 3) := dk_180 (by decide +kernel)
theorem dX12_thing_34 : decode cX12_thing 34 = .ok (.invokevirtual 405, 3) := dk_182 (by decide +kernel)
theorem dX12_thing_37 : decode cX12_thing 37 = .ok (.invokevirtual 365, 3) := dk_182 (by decide +kernel)
theorem dX12_thing_40 : decode cX12_thing 40 = .ok (.iinc 3 1, 3) := dk_132 (by decide +kernel)
theorem dX12_thing_43 : decode cX12_thing 43 = .ok (.goto (-35), 3) := dk_167 (by decide +kernel)
theorem dX12_thing_46 : decode cX12_thing 46 = .ok (.return_, 1) := dk_177 (by decide +kernel)
def wsRX12_thing : List Cond := .code yX12_thing cX12_thing 4 none :: ([.fieldLink RX12 399 "OptimaWorksModel" "rows" "I", .fieldLink RX12 26 "OptimaWorksModel" "rowOf" "[I", .fieldLink RX12 396 "OptimaWorksModel" "columns" "I"] ++ wsX120 ++ (wsV RX12 369 RX12 yX12_put wsRX12_put) ++ (wsV RX12 405 RX12 yX12_at wsRX12_at) ++ (wsV RX12 365 RX12 yX12_copy wsRX12_copy))
theorem iwsRX12_thing_in12 : ∀ w ∈ wsX120, w ∈ wsRX12_thing := fun _ h => List.mem_cons_of_mem _ (List.mem_append_left _ (List.mem_append_left _ (List.mem_append_left _ (List.mem_append_right _ h))))
theorem gwsRX12_thing_0 : GoodIn wsRX12_thing (wsV RX12 369 RX12 yX12_put wsRX12_put) := goodIn_sub (fun _ h => List.mem_cons_of_mem _ (List.mem_append_left _ (List.mem_append_left _ (List.mem_append_right _ h)))) (gdV (by decide +kernel) gdwsRX12_put)
theorem gwsRX12_thing_1 : GoodIn wsRX12_thing (wsV RX12 405 RX12 yX12_at wsRX12_at) := goodIn_sub (fun _ h => List.mem_cons_of_mem _ (List.mem_append_left _ (List.mem_append_right _ h))) (gdV (by decide +kernel) gdwsRX12_at)
theorem gwsRX12_thing_2 : GoodIn wsRX12_thing (wsV RX12 365 RX12 yX12_copy wsRX12_copy) := goodIn_sub (fun _ h => List.mem_cons_of_mem _ (List.mem_append_right _ h)) (gdV (by decide +kernel) gdwsRX12_copy)
theorem gdwsRX12_thing : wsRX12_thing.all goodWord = true := gdC rfl (gdA (gdA (gdA (gdA (by decide +kernel : ([.fieldLink RX12 399 "OptimaWorksModel" "rows" "I", .fieldLink RX12 26 "OptimaWorksModel" "rowOf" "[I", .fieldLink RX12 396 "OptimaWorksModel" "columns" "I"] : List Cond).all goodWord = true) gdwsX120) (gdV (by decide +kernel) gdwsRX12_put)) (gdV (by decide +kernel) gdwsRX12_at)) (gdV (by decide +kernel) gdwsRX12_copy))
set_option maxHeartbeats 4000000 in
set_option maxRecDepth 100000 in
/-- thing(s, k) -/
theorem r_X12_thing (l : Launch) (dC : Nat → ClassId) (dI : Nat → Nat → Nat) (a : Nat → Nat) (k : Nat → ClassId) (h0 : Nat) (vi : Nat → Int32) (vj : Nat → Int64) (vF : Nat → Nat → Int32) (vG : Nat → Nat → Int64) (sn : Nat) (kq : Int32) (C : Nat) (R : Nat) (Gq : Nat) (t : Nat → Nat → Int) (D : Int) (mg : Nat → Int) (hBg : Bg (vF 0) mg) (hC : vi 5 = nI C) (hR : vi 6 = nI R) (hG : vi 7 = nI Gq) (hC45 : 0 < C ∧ C ≤ 45) (hT60 : R + Gq < 60) (hsz : (R + Gq) * (C + 1) ≤ 970) (hN : TabN C (R + Gq) mg t D) (hsn : sn < 30) (hsn20 : sn ≠ 20) (sz : Nat) : Met l yX12_thing wsRX12_thing ({ frames := 1, cells := 0, slots := 0, locals := 27 }) (va_Pc [.ref h0, .int (nI sn), .int kq] (fun U => U.heap.size = sz ∧ va_P (dC, dI) vwCl (WR a k h0 vi vj vF vG) U.heap ∧ va_K (dC, dI) vwCl (tX12 k) U ∧ va_D (fun _ => True) (WR a k h0 vi vj vF vG))) (va_Qv (fun (u : (Nat → Int32) × (Nat → Int)) => (Bg (u.1) (u.2)) ∧ ((u.2) sn = 0 ∨ ∃ i, i < R ∧ (u.2) sn = t i C) ∧ (∀ q, q ≠ sn → (u.2) q = mg q)) (fun (u : (Nat → Int32) × (Nat → Int)) t => va_P (dC, dI) vwCl (WR a k h0 vi vj (fT vF 0 (u.1)) vG) t.heap ∧ va_D (va_A (WR a k h0 vi vj vF vG) sz) (WR a k h0 vi vj (fT vF 0 (u.1)) vG)) (va_A (WR a k h0 vi vj vF vG) sz)) 0 0 (va_A (WR a k h0 vi vj vF vG) sz) := by
  refine Met.ofW (cc := cX12_thing) (maxL := 4) (ret := none) (by decide) rfl ?_
  intro p e s m args below meth c s₁ B hml hv
  obtain ⟨rfl, hsz, hP, hK, hD0⟩ := hv
  have hx := B.exec
  have hb := B.bytes
  have hr := B.returns
  have hts := atoms_spec (ws := wsRX12_thing) B.pre
  have hown : s.vm.findClass RX12 = some m.cls := findClass_of_methodNamed B.named
  have hlocks := B.notSynchronized
  subst hsz
  have hD := hD0.self (sz := s.heap.size)
  generalize hAe : va_A (WR a k h0 vi vj vF vG) s.heap.size = A at hD ⊢
  have hA : ∀ q : Nat, s.heap.size ≤ q → A q := fun q h => by rw [← hAe]; exact Or.inr h
  have hS : va_S A s.heap s.heap [] := va_S.rf
  have hl := lv_entry ([.ref h0, .int (nI sn), .int kq]) (n := 4) (Nat.le_of_ble_eq_true rfl)
  rw [lg_entry_eq]
  generalize (lg_sl ([.ref h0, .int (nI sn), .int kq]) ++ List.replicate (4 - (lg_sl ([.ref h0, .int (nI sn), .int kq])).length) Slot.unset).toArray = ls at hl ⊢
  have hl : lv_has ls 4 [(0, .ref h0), (1, .int (nI sn)), (2, .int kq)] := hl
  refine lv_aload_n hx hb dX12_thing_0 rfl (lv_at hl 0 rfl) ?_
  refine lv_iload_n hx hb dX12_thing_1 rfl (lv_at hl 1 rfl) ?_
  refine lv_lconst (v := 0) hx hb dX12_thing_2 (by decide) ?_
  have hFc := allFree hD hS hA
  refine va_callv (va_runV (As := [.int (nI sn), .long 0]) (rest := []) ⟨hx, hb, hml, hown, hts⟩ (b_X12_put l dC dI a k h0 vi vj vF vG sn 0 0 mg hBg (by first | with_reducible assumption | decide | omega | rfl | assumption) (by decide) (by first | with_reducible assumption | decide | omega | rfl | assumption) s.heap.size) (cwV 2 hts gwsRX12_thing_0 rfl rfl rfl hd_yX12_put_RX12 (by decide +kernel)) (fz_pre (va_recv hK hP (ci := 12) (q0 := 0) rfl rfl) hP hK hD) rfl rfl hl.1 rfl (lv_room (Nat.le_of_ble_eq_true rfl)) dX12_thing_3 (by decide +kernel)) hS (fun q _ h => hFc q h) hFc (fun g3 t9_ H locs ht hvm hw9 hB9 hz1 hk1 hS => ?_)
  have hP : va_P (dC, dI) vwCl (WR a k h0 vi vj (fT vF 0 g3) vG) H := fz_P ht hB9.1
  have hD := fz_sd hP (hB9.2.weaken (fun _ q _ h => hFc q.1 h)) rfl
  have f3_0 := hw9
  try dsimp only at f3_0
  refine lv_iconst (v := 0) hx hb dX12_thing_6 (by decide) ?_
  refine lv_istore_n hx hb dX12_thing_7 rfl hl (by decide) rfl (fun ls (hl : lv_has ls _ ([(3, .int 0), (0, .ref h0), (1, .int (nI sn)), (2, .int kq)])) => ?_)
  have hl : lv_has _ _ ([(0, .ref h0), (1, .int (nI sn)), (2, .int kq), (3, .int (nI 0))]) := lv_sub hl [1, 2, 3, 0] rfl
  refine (fun (loop : ∀ (n9 : Nat) (i : Nat) (g1 : Nat → Int32) (m1 : Nat → Int) (H : Heap) (locs : List Loc) (ls : Array Slot), (Bg g1 m1) → (i ≤ R) → (m1 sn = 0 ∨ ∃ i, i < R ∧ m1 sn = t i C) → (∀ q, q ≠ sn → m1 q = mg q) →  (R < i + n9) → va_P (dC, dI) vwCl (WR a k h0 vi vj (fT vF 0 g1) vG) H → va_D A (WR a k h0 vi vj (fT vF 0 g1) vG) → va_S A s.heap H locs → lv_has ls 4 [(0, .ref h0), (1, .int (nI sn)), (2, .int kq), (3, .int (nI i))] → W p l e _ s m _ below meth c H locs 0 0 _ (F0 m 8 ls [])) => loop (R + 1) 0 g3 (fT mg sn 0) _ _ _ (f3_0) (by omega) (Or.inl (by rw [fT_eq])) (fun q hq => by (rw [fT_ne _ _ (by omega)])) (by omega) hP hD hS hl) ?_
  intro n9
  induction n9 with
  | zero => intro i g1 m1 H locs ls hB1 hi hval ho hf9; exact False.elim (by omega)
  | succ n9 ih8 =>
    intro i g1 m1 H locs ls hB1 hi hval ho hf8 hP hD hS hl
    refine lv_iload_n hx hb dX12_thing_8 rfl (lv_at hl 3 rfl) ?_
    refine lv_aload_n hx hb dX12_thing_9 rfl (lv_at hl 0 rfl) ?_
    refine va_get (D := (dC, dI)) (ci := 12) (v := .int (vi 6)) (C := RX12) (T := TX12) (N := 163) (fs := fM (vS a vi vj)) hx hb hts iwsRX12_thing_in12 hown hK hP 0 rfl rfl 6 (by decide) (hts (.fieldLink RX12 399 "OptimaWorksModel" "rows" "I") (by decide +kernel)) (fun _ h9 => h9) rfl dX12_thing_10 ?_
    refine lv_topi (fun y1 hy1 => ?_)
    obtain rfl : (nI R) = y1 := (hy1.trans (hR)).symm
    refine lv_icmp_ge (tgt := 46) hx hb dX12_thing_13 (by decide) (fun c_13 => ?_) (fun c_13 => ?_)
    · have t_13 : ((i : Nat) : Int) ≥ ((R : Nat) : Int) := toI_ge c_13 (nI_toInt (by omega)) (nI_toInt (by omega))
      refine W.widen (k := 0) (n := 0) (by decide +kernel) (by decide +kernel) ?_
      exact W.vret hx hb hr (fun t9_ ht hW => ⟨⟨(g1, m1), rfl, by (try dsimp only); exact ⟨hB1, hval, ho⟩, by rw [ht]; exact hP, hD⟩, hS.F ht⟩) hS.2.2 dX12_thing_46
    · have t_13 : ¬ ((i : Nat) : Int) ≥ ((R : Nat) : Int) := toI_nge c_13 (nI_toInt (by omega)) (nI_toInt (by omega))
      refine lv_aload_n hx hb dX12_thing_16 rfl (lv_at hl 0 rfl) ?_
      refine va_get (D := (dC, dI)) (ci := 12) (v := .ref (a 5)) (C := RX12) (T := TX12) (N := 163) (fs := fM (vS a vi vj)) hx hb hts iwsRX12_thing_in12 hown hK hP 0 rfl rfl 9 (by decide) (hts (.fieldLink RX12 26 "OptimaWorksModel" "rowOf" "[I") (by decide +kernel)) (fun _ h9 => h9) rfl dX12_thing_17 ?_
      refine lv_iload_n hx hb dX12_thing_20 rfl (lv_at hl 3 rfl) ?_
      refine va_iald (cA := k 5) (n := 60) (f := (vF 5)) hx hb hK hP 6 5 (WR_get 5 (by decide)) (TR_get 5 (by decide)) (vp_in_nI (show i < 60 by omega) (by omega)) dX12_thing_21 ?_
      refine lv_topi (fun y2 hy2 => ?_)
      obtain rfl : ((vF 5) i) = y2 := (hy2.trans (by rw [nI_clamp (by omega)])).symm
      refine lv_iload_n hx hb dX12_thing_22 rfl (lv_at hl 2 rfl) ?_
      refine lv_icmp_ne (tgt := 40) hx hb dX12_thing_23 (by decide) (fun c_23 => ?_) (fun c_23 => ?_)
      · have t_23 : (((vF 5) i)).toInt ≠ (kq).toInt := toI_ne c_23 rfl rfl
        refine lv_iinc (v := (nI (i + 1))) hx hb dX12_thing_40 hl (k := 3) rfl (nI_add i 1) (by decide) rfl (fun ls (hl : lv_has ls _ ([(3, .int (nI (i + 1))), (0, .ref h0), (1, .int (nI sn)), (2, .int kq)])) => ?_)
        refine lv_goto (tgt := 8) hx hb dX12_thing_43 (by decide) ?_
        have hl : lv_has _ _ ([(0, .ref h0), (1, .int (nI sn)), (2, .int kq), (3, .int (nI (i + 1)))]) := lv_sub hl [1, 2, 3, 0] rfl
        exact ih8 (i + 1) g1 m1 _ _ _ (hB1) (by omega) (hval) (ho) (by omega) hP hD hS hl
      · have t_23 : (((vF 5) i)).toInt = (kq).toInt := toI_nne c_23 rfl rfl
        have hpl := pl_lt (C := C) (show i < R + Gq by omega) (Nat.le_refl C)
        refine lv_aload_n hx hb dX12_thing_26 rfl (lv_at hl 0 rfl) ?_
        refine lv_iload_n hx hb dX12_thing_27 rfl (lv_at hl 1 rfl) ?_
        refine lv_aload_n hx hb dX12_thing_28 rfl (lv_at hl 0 rfl) ?_
        refine lv_iload_n hx hb dX12_thing_29 rfl (lv_at hl 3 rfl) ?_
        refine lv_aload_n hx hb dX12_thing_30 rfl (lv_at hl 0 rfl) ?_
        refine va_get (D := (dC, dI)) (ci := 12) (v := .int (vi 5)) (C := RX12) (T := TX12) (N := 163) (fs := fM (vS a vi vj)) hx hb hts iwsRX12_thing_in12 hown hK hP 0 rfl rfl 5 (by decide) (hts (.fieldLink RX12 396 "OptimaWorksModel" "columns" "I") (by decide +kernel)) (fun _ h9 => h9) rfl dX12_thing_31 ?_
        refine lv_topi (fun y3 hy3 => ?_)
        obtain rfl : (nI C) = y3 := (hy3.trans (hC)).symm
        have hFc := allFree hD hS hA
        refine va_calli (va_runV (As := [.int (nI i), .int (nI C)]) (rest := [.int (nI sn), .ref h0]) ⟨hx, hb, hml, hown, hts⟩ (r_X12_at l dC dI a k h0 vi vj (fT vF 0 g1) vG i C C (by first | with_reducible assumption | decide | omega | rfl | assumption) H.size) (cwV 2 hts gwsRX12_thing_1 rfl rfl rfl hd_yX12_at_RX12 (by decide +kernel)) (fz_pre (va_recv hK hP (ci := 12) (q0 := 0) rfl rfl) hP hK hD) rfl rfl hl.1 rfl (lv_room (Nat.le_of_ble_eq_true rfl)) dX12_thing_34 (by decide +kernel)) hS (fun q _ h => hFc q h) hFc (fun r34 u t9_ H locs ht hvm hw9 hB9 hz1 hk1 hS => ?_)
        have hP : va_P (dC, dI) vwCl (WR a k h0 vi vj (fT vF 0 g1) vG) H := fz_P ht hB9.1
        have hD := fz_sd hP (hB9.2.weaken (fun _ q _ h => hFc q.1 h)) rfl
        obtain rfl := hw9
        have hFc := allFree hD hS hA
        refine va_callv (va_runV (As := [.int (nI sn), .int (nI (30 + i * (C + 1) + C))]) (rest := []) ⟨hx, hb, hml, hown, hts⟩ (b_X12_copy l dC dI a k h0 vi vj (fT vF 0 g1) vG sn (30 + i * (C + 1) + C) m1 hB1 (t i C) (by rw [((ho _ (by omega)).trans (hN.1 i (by omega) C (by omega)))]) (by first | with_reducible assumption | decide | omega | rfl | assumption) (by first | with_reducible assumption | decide | omega | rfl | assumption) (by first | with_reducible assumption | decide | omega | rfl | assumption) H.size) (cwV 2 hts gwsRX12_thing_2 rfl rfl rfl hd_yX12_copy_RX12 (by decide +kernel)) (fz_pre (va_recv hK hP (ci := 12) (q0 := 0) rfl rfl) hP hK hD) rfl rfl hl.1 rfl (lv_room (Nat.le_of_ble_eq_true rfl)) dX12_thing_37 (by decide +kernel)) hS (fun q _ h => hFc q h) hFc (fun g37 t9_ H locs ht hvm hw9 hB9 hz1 hk1 hS => ?_)
        have e9F : fT vF 0 g37 = fT (fT vF 0 g1) 0 g37 := (fT_sm _ _ _ _).symm
        have hP := wr_PF e9F (fz_P ht hB9.1)
        have hD := wr_DF e9F (hB9.2.weaken (fun _ q _ h => hFc q.1 h))
        clear e9F
        have f37_0 := hw9
        try dsimp only at f37_0
        refine lv_iinc (v := (nI (i + 1))) hx hb dX12_thing_40 hl (k := 3) rfl (nI_add i 1) (by decide) rfl (fun ls (hl : lv_has ls _ ([(3, .int (nI (i + 1))), (0, .ref h0), (1, .int (nI sn)), (2, .int kq)])) => ?_)
        refine lv_goto (tgt := 8) hx hb dX12_thing_43 (by decide) ?_
        have hl : lv_has _ _ ([(0, .ref h0), (1, .int (nI sn)), (2, .int kq), (3, .int (nI (i + 1)))]) := lv_sub hl [1, 2, 3, 0] rfl
        exact ih8 (i + 1) g37 (fT m1 sn (t i C)) _ _ _ (f37_0) (by omega) (Or.inr ⟨i, by omega, by rw [fT_eq]⟩) (fun q hq => by (rw [fT_ne _ _ (by omega)]); exact ho q hq) (by omega) hP hD hS hl
end
section
/-- the model's numbers are in their bounds: F56 low, F57 high, F60 ways' numbers, F63 goals' tops, F64 goals' unders, F70 values -/
def MdlB (F : Nat → Nat → Int32) (gn : Nat) : Prop :=
  (∀ k, k < 9 → -999 ≤ (F 56 k).toInt ∧ (F 56 k).toInt ≤ 999) ∧ (∀ k, k < 9 → -999 ≤ (F 57 k).toInt ∧ (F 57 k).toInt ≤ 999) ∧
  (∀ q, q < 39 → -99999 ≤ (F 60 (9 * q)).toInt ∧ (F 60 (9 * q)).toInt ≤ 99999) ∧ (∀ q k, q < 39 → k < 8 → -99 ≤ (F 60 (9 * q + 1 + k)).toInt ∧ (F 60 (9 * q + 1 + k)).toInt ≤ 99) ∧
  (∀ g, g < gn → (-9999 ≤ (F 63 (9 * g)).toInt ∧ (F 63 (9 * g)).toInt ≤ 9999) ∧ 1 ≤ (F 64 (9 * g)).toInt ∧ (F 64 (9 * g)).toInt ≤ 9999) ∧
  (∀ g k, g < gn → k < 8 → (-99 ≤ (F 63 (9 * g + 1 + k)).toInt ∧ (F 63 (9 * g + 1 + k)).toInt ≤ 99) ∧ 1 ≤ (F 64 (9 * g + 1 + k)).toInt ∧ (F 64 (9 * g + 1 + k)).toInt ≤ 99) ∧
  (∀ k, k < 9 → -999 ≤ (F 70 k).toInt ∧ (F 70 k).toInt ≤ 999)
/-- the lines of a case, as they are laid -/
def BldL (C R : Nat) (m : Nat → Int) (f5 : Nat → Int32) : Prop := ∀ i, i < R → f5 i = nI (C + i) ∧ (∀ j, j < C - 1 → (m (30 + i * (C + 1) + j)).natAbs ≤ 99) ∧ m (30 + i * (C + 1) + (C - 1)) = -1 ∧ (m (30 + i * (C + 1) + C)).natAbs ≤ 1000000
theorem BldL.more {C R : Nat} {m m2 : Nat → Int} {f5 f52 : Nat → Int32} (h : BldL C R m f5) (hf : ∀ i, i < R → f52 i = f5 i) (e : ∀ p, p < 30 + R * (C + 1) → m2 p = m p) (hC : 0 < C) (h1 : f52 R = nI (C + R)) (h2 : ∀ j, j < C - 1 → (m2 (30 + R * (C + 1) + j)).natAbs ≤ 99) (h3 : m2 (30 + R * (C + 1) + (C - 1)) = -1) (h4 : (m2 (30 + R * (C + 1) + C)).natAbs ≤ 1000000) : BldL C (R + 1) m2 f52 := by
  intro i hi
  by_cases ei : i = R
  · subst ei; exact ⟨h1, h2, h3, h4⟩
  · have hiR : i < R := by omega
    obtain ⟨k1, k2, k3, k4⟩ := h i hiR
    have hp : ∀ j, j ≤ C → m2 (30 + i * (C + 1) + j) = m (30 + i * (C + 1) + j) := fun j hj => e _ (by have := pl_lt hiR hj; omega)
    exact ⟨by rw [hf i hiR]; exact k1, fun j hj => by rw [hp j (by omega)]; exact k2 j hj, by rw [hp _ (by omega)]; exact k3, by rw [hp _ (Nat.le_refl _)]; exact k4⟩
theorem mulI {x y : Int32} : (x.toInt64 * y.toInt64).toInt = x.toInt * y.toInt := by
  have h1 := Int32.toInt_lt x
  have h2 := Int32.le_toInt x
  have h3 := Int32.toInt_lt y
  have h4 := Int32.le_toInt y
  rw [Int64.toInt_mul, Int32.toInt_toInt64, Int32.toInt_toInt64]
  have h5 : (x.toInt * y.toInt).natAbs ≤ 2147483648 * 2147483648 := by
    rw [Int.natAbs_mul]; exact Nat.mul_le_mul (by omega) (by omega)
  exact Int.bmod_eq_of_le (by omega) (by omega)
theorem mul_box {x y : Int} {a b : Nat} (hx : x.natAbs ≤ a) (hy : y.natAbs ≤ b) : (x * y).natAbs ≤ a * b := by
  rw [Int.natAbs_mul]; exact Nat.mul_le_mul hx hy
/-- how great the common under of a goal can be -/
def scB (k : Nat) : Nat := if k = 0 then 1 else 9999 * 99 ^ (k - 1)
theorem scB_step {k x u : Nat} (hx : x ≤ scB k) (hu : u ≤ (if k = 0 then 9999 else 99)) : x * u ≤ scB (k + 1) := by
  refine Nat.le_trans (Nat.mul_le_mul hx hu) ?_
  unfold scB
  by_cases h : k = 0
  · subst h; decide
  · rw [if_neg h, if_neg h, if_neg (by omega), Nat.mul_assoc, ← Nat.pow_succ, show (k - 1).succ = k + 1 - 1 by omega]; exact Nat.le_refl _
theorem scB_9 : scB 9 < 2 ^ 67 := by decide
theorem scB_mono {k : Nat} (h : k ≤ 9) : scB k < 2 ^ 67 := by
  have : ∀ k, k < 10 → scB k < 2 ^ 67 := by decide
  exact this k (by omega)
end
section
theorem hd_yX12_newLine_RX12 : yX12_newLine.cls = RX12 ∧ yX12_newLine.cls ≠ "java/lang/invoke/MethodHandle" ∧ yX12_newLine.cls ≠ "java/lang/invoke/VarHandle" ∧ (parseMethodDescriptor yX12_newLine.desc).map (fun d => d.parameters.length) = some 0 := by decide +kernel
theorem hd_yX12_least_RX12 : yX12_least.cls = RX12 ∧ yX12_least.cls ≠ "java/lang/invoke/MethodHandle" ∧ yX12_least.cls ≠ "java/lang/invoke/VarHandle" ∧ (parseMethodDescriptor yX12_least.desc).map (fun d => d.parameters.length) = some 1 := by decide +kernel
theorem hd_yX12_wayRow_RX12 : yX12_wayRow.cls = RX12 ∧ yX12_wayRow.cls ≠ "java/lang/invoke/MethodHandle" ∧ yX12_wayRow.cls ≠ "java/lang/invoke/VarHandle" ∧ (parseMethodDescriptor yX12_wayRow.desc).map (fun d => d.parameters.length) = some 2 := by decide +kernel
theorem dX12_least_0 : decode cX12_least 0 = .ok (.aload_n 0, 1) := dk_42 (by decide +kernel)
theorem dX12_least_1 : decode cX12_least 1 = .ok (.getfield 829, 3) := dk_180 (by decide +kernel)
theorem dX12_least_4 : decode cX12_least 4 = .ok (.ifCond .eq 22, 3) := dk_153 (by decide +kernel)
theorem dX12_least_7 : decode cX12_least 7 = .ok (.aload_n 0, 1) := dk_42 (by decide +kernel)
theorem dX12_least_8 : decode cX12_least 8 = .ok (.getfield 197, 3) := dk_180 (by decide +kernel)
theorem dX12_least_11 : decode cX12_least 11 = .ok (.iload_n 1, 1) := dk_27 (by decide +kernel)
theorem dX12_least_12 : decode cX12_least 12 = .ok (.iaload, 1) := dk_46 (by decide +kernel)
theorem dX12_least_13 : decode cX12_least 13 = .ok (.iconst 1, 1) := dk_4 (by decide +kernel)
theorem dX12_least_14 : decode cX12_least 14 = .ok (.if_icmp .ne 12, 3) := dk_160 (by decide +kernel)
theorem dX12_least_17 : decode cX12_least 17 = .ok (.aload_n 0, 1) := dk_42 (by decide +kernel)
theorem dX12_least_18 : decode cX12_least 18 = .ok (.getfield 233, 3) := dk_180 (by decide +kernel)
theorem dX12_least_21 : decode cX12_least 21 = .ok (.iload_n 1, 1) := dk_27 (by decide +kernel)
theorem dX12_least_22 : decode cX12_least 22 = .ok (.iaload, 1) := dk_46 (by decide +kernel)
theorem dX12_least_23 : decode cX12_least 23 = .ok (.goto 9, 3) := dk_167 (by decide +kernel)
theorem dX12_least_26 : decode cX12_least 26 = .ok (.aload_n 0, 1) := dk_42 (by decide +kernel)
theorem dX12_least_27 : decode cX12_least 27 = .ok (.getfield 191, 3) := dk_180 (by decide +kernel)
theorem dX12_least_30 : decode cX12_least 30 = .ok (.iload_n 1, 1) := dk_27 (by decide +kernel)
theorem dX12_least_31 : decode cX12_least 31 = .ok (.iaload, 1) := dk_46 (by decide +kernel)
theorem dX12_least_32 : decode cX12_least 32 = .ok (.ireturn, 1) := dk_172 (by decide +kernel)
def wsRX12_least : List Cond := .code yX12_least cX12_least 2 (some .int) :: ([.fieldLink RX12 829 "OptimaWorksModel" "fixes" "Z", .fieldLink RX12 191 "OptimaWorksModel" "low" "[I", .fieldLink RX12 197 "OptimaWorksModel" "whole" "[I", .fieldLink RX12 233 "OptimaWorksModel" "value" "[I"] ++ wsX120)
theorem iwsRX12_least_in12 : ∀ w ∈ wsX120, w ∈ wsRX12_least := fun _ h => List.mem_cons_of_mem _ (List.mem_append_right _ h)
theorem gdwsRX12_least : wsRX12_least.all goodWord = true := gdC rfl (gdA (by decide +kernel : ([.fieldLink RX12 829 "OptimaWorksModel" "fixes" "Z", .fieldLink RX12 191 "OptimaWorksModel" "low" "[I", .fieldLink RX12 197 "OptimaWorksModel" "whole" "[I", .fieldLink RX12 233 "OptimaWorksModel" "value" "[I"] : List Cond).all goodWord = true) gdwsX120)
theorem hm_r_X12_least_0 : (.fieldLink RX12 191 "OptimaWorksModel" "low" "[I" : Cond) ∈ wsRX12_least := by decide +kernel
set_option maxHeartbeats 4000000 in
set_option maxRecDepth 100000 in
/-- least(k) -/
theorem r_X12_least (l : Launch) (dC : Nat → ClassId) (dI : Nat → Nat → Nat) (a : Nat → Nat) (k : Nat → ClassId) (h0 : Nat) (vi : Nat → Int32) (vj : Nat → Int64) (vF : Nat → Nat → Int32) (vG : Nat → Nat → Int64) (kn : Nat) (gq : Nat) (hkn : kn < 9) (hM : MdlB vF gq) (sz : Nat) : Met l yX12_least wsRX12_least ({ frames := 0, cells := 0, slots := 0, locals := 0 }) (va_Pc [.ref h0, .int (nI kn)] (fun U => U.heap.size = sz ∧ va_P (dC, dI) vwCl (WR a k h0 vi vj vF vG) U.heap ∧ va_K (dC, dI) vwCl (tX12 k) U ∧ va_D (fun _ => True) (WR a k h0 vi vj vF vG))) (va_Qi (fun (r : Int32) (u : Unit) => (-999 ≤ (r).toInt ∧ (r).toInt ≤ 999)) (fun (u : Unit) t => va_P (dC, dI) vwCl (WR a k h0 vi vj vF vG) t.heap ∧ va_D (va_A (WR a k h0 vi vj vF vG) sz) (WR a k h0 vi vj vF vG)) (va_A (WR a k h0 vi vj vF vG) sz)) 0 0 (va_A (WR a k h0 vi vj vF vG) sz) := by
  refine Met.ofW (cc := cX12_least) (maxL := 2) (ret := (some .int)) (by decide) rfl ?_
  intro p e s m args below meth c s₁ B hml hv
  obtain ⟨rfl, hsz, hP, hK, hD0⟩ := hv
  have hx := B.exec
  have hb := B.bytes
  have hr := B.returns
  have hts := atoms_spec (ws := wsRX12_least) B.pre
  have hown : s.vm.findClass RX12 = some m.cls := findClass_of_methodNamed B.named
  have hlocks := B.notSynchronized
  subst hsz
  have hD := hD0.self (sz := s.heap.size)
  generalize hAe : va_A (WR a k h0 vi vj vF vG) s.heap.size = A at hD ⊢
  have hA : ∀ q : Nat, s.heap.size ≤ q → A q := fun q h => by rw [← hAe]; exact Or.inr h
  have hS : va_S A s.heap s.heap [] := va_S.rf
  have hl := lv_entry ([.ref h0, .int (nI kn)]) (n := 2) (Nat.le_of_ble_eq_true rfl)
  rw [lg_entry_eq]
  generalize (lg_sl ([.ref h0, .int (nI kn)]) ++ List.replicate (2 - (lg_sl ([.ref h0, .int (nI kn)])).length) Slot.unset).toArray = ls at hl ⊢
  have hl : lv_has ls 2 [(0, .ref h0), (1, .int (nI kn))] := hl
  refine lv_aload_n hx hb dX12_least_0 rfl (lv_at hl 0 rfl) ?_
  refine va_get (D := (dC, dI)) (ci := 12) (v := .int (vi 116)) (C := RX12) (T := TX12) (N := 163) (fs := fM (vS a vi vj)) hx hb hts iwsRX12_least_in12 hown hK hP 0 rfl rfl 116 (by decide) (hts (.fieldLink RX12 829 "OptimaWorksModel" "fixes" "Z") (by decide +kernel)) (fun _ h9 => h9) rfl dX12_least_1 ?_
  refine lv_if_eq (tgt := 26) hx hb dX12_least_4 (by decide) (fun c_4 => ?_) (fun c_4 => ?_)
  · have t_4 : ((vi 116)).toInt = 0 := toI_eq c_4 rfl (by decide)
    refine lv_aload_n hx hb dX12_least_26 rfl (lv_at hl 0 rfl) ?_
    refine va_get (D := (dC, dI)) (ci := 12) (v := .ref (a 56)) (C := RX12) (T := TX12) (N := 163) (fs := fM (vS a vi vj)) hx hb hts iwsRX12_least_in12 hown hK hP 0 rfl rfl 96 (by decide) (hts _ hm_r_X12_least_0) (fun _ h9 => h9) rfl dX12_least_27 ?_
    refine lv_iload_n hx hb dX12_least_30 rfl (lv_at hl 1 rfl) ?_
    refine va_iald (cA := k 56) (n := 9) (f := (vF 56)) hx hb hK hP 57 56 (WR_get 56 (by decide)) (TR_get 56 (by decide)) (vp_in_nI (show kn < 9 by omega) (by omega)) dX12_least_31 ?_
    refine lv_topi (fun y1 hy1 => ?_)
    obtain rfl : ((vF 56) kn) = y1 := (hy1.trans (by rw [nI_clamp (by omega)])).symm
    refine W.widen (k := 0) (n := 0) (by decide +kernel) (by decide +kernel) ?_
    exact W.iret (v := ((vF 56) kn)) hx hb hr (fun t9_ ht hW => ⟨⟨((vF 56) kn), (), rfl, by (try dsimp only); exact hM.1 kn hkn, by rw [ht]; exact hP, hD⟩, hS.F ht⟩) hS.2.2 dX12_least_32
  · have t_4 : ¬ ((vi 116)).toInt = 0 := toI_neq c_4 rfl (by decide)
    refine lv_aload_n hx hb dX12_least_7 rfl (lv_at hl 0 rfl) ?_
    refine va_get (D := (dC, dI)) (ci := 12) (v := .ref (a 58)) (C := RX12) (T := TX12) (N := 163) (fs := fM (vS a vi vj)) hx hb hts iwsRX12_least_in12 hown hK hP 0 rfl rfl 98 (by decide) (hts (.fieldLink RX12 197 "OptimaWorksModel" "whole" "[I") (by decide +kernel)) (fun _ h9 => h9) rfl dX12_least_8 ?_
    refine lv_iload_n hx hb dX12_least_11 rfl (lv_at hl 1 rfl) ?_
    refine va_iald (cA := k 58) (n := 9) (f := (vF 58)) hx hb hK hP 59 58 (WR_get 58 (by decide)) (TR_get 58 (by decide)) (vp_in_nI (show kn < 9 by omega) (by omega)) dX12_least_12 ?_
    refine lv_topi (fun y2 hy2 => ?_)
    obtain rfl : ((vF 58) kn) = y2 := (hy2.trans (by rw [nI_clamp (by omega)])).symm
    refine lv_iconst (v := 1) hx hb dX12_least_13 (by decide) ?_
    refine lv_icmp_ne (tgt := 26) hx hb dX12_least_14 (by decide) (fun c_14 => ?_) (fun c_14 => ?_)
    · have t_14 : (((vF 58) kn)).toInt ≠ 1 := toI_ne c_14 rfl (by decide)
      refine lv_aload_n hx hb dX12_least_26 rfl (lv_at hl 0 rfl) ?_
      refine va_get (D := (dC, dI)) (ci := 12) (v := .ref (a 56)) (C := RX12) (T := TX12) (N := 163) (fs := fM (vS a vi vj)) hx hb hts iwsRX12_least_in12 hown hK hP 0 rfl rfl 96 (by decide) (hts _ hm_r_X12_least_0) (fun _ h9 => h9) rfl dX12_least_27 ?_
      refine lv_iload_n hx hb dX12_least_30 rfl (lv_at hl 1 rfl) ?_
      refine va_iald (cA := k 56) (n := 9) (f := (vF 56)) hx hb hK hP 57 56 (WR_get 56 (by decide)) (TR_get 56 (by decide)) (vp_in_nI (show kn < 9 by omega) (by omega)) dX12_least_31 ?_
      refine lv_topi (fun y3 hy3 => ?_)
      obtain rfl : ((vF 56) kn) = y3 := (hy3.trans (by rw [nI_clamp (by omega)])).symm
      refine W.widen (k := 0) (n := 0) (by decide +kernel) (by decide +kernel) ?_
      exact W.iret (v := ((vF 56) kn)) hx hb hr (fun t9_ ht hW => ⟨⟨((vF 56) kn), (), rfl, by (try dsimp only); exact hM.1 kn hkn, by rw [ht]; exact hP, hD⟩, hS.F ht⟩) hS.2.2 dX12_least_32
    · have t_14 : (((vF 58) kn)).toInt = 1 := toI_nne c_14 rfl (by decide)
      refine lv_aload_n hx hb dX12_least_17 rfl (lv_at hl 0 rfl) ?_
      refine va_get (D := (dC, dI)) (ci := 12) (v := .ref (a 70)) (C := RX12) (T := TX12) (N := 163) (fs := fM (vS a vi vj)) hx hb hts iwsRX12_least_in12 hown hK hP 0 rfl rfl 115 (by decide) (hts (.fieldLink RX12 233 "OptimaWorksModel" "value" "[I") (by decide +kernel)) (fun _ h9 => h9) rfl dX12_least_18 ?_
      refine lv_iload_n hx hb dX12_least_21 rfl (lv_at hl 1 rfl) ?_
      refine va_iald (cA := k 70) (n := 9) (f := (vF 70)) hx hb hK hP 71 70 (WR_get 70 (by decide)) (TR_get 70 (by decide)) (vp_in_nI (show kn < 9 by omega) (by omega)) dX12_least_22 ?_
      refine lv_topi (fun y4 hy4 => ?_)
      obtain rfl : ((vF 70) kn) = y4 := (hy4.trans (by rw [nI_clamp (by omega)])).symm
      refine lv_goto (tgt := 32) hx hb dX12_least_23 (by decide) ?_
      refine W.widen (k := 0) (n := 0) (by decide +kernel) (by decide +kernel) ?_
      exact W.iret (v := ((vF 70) kn)) hx hb hr (fun t9_ ht hW => ⟨⟨((vF 70) kn), (), rfl, by (try dsimp only); exact hM.2.2.2.2.2.2 kn hkn, by rw [ht]; exact hP, hD⟩, hS.F ht⟩) hS.2.2 dX12_least_32
theorem dX12_wayRow_0 : decode cX12_wayRow 0 = .ok (.aload_n 0, 1) := dk_42 (by decide +kernel)
theorem dX12_wayRow_1 : decode cX12_wayRow 1 = .ok (.invokevirtual 823, 3) := dk_182 (by decide +kernel)
theorem dX12_wayRow_4 : decode cX12_wayRow 4 = .ok (.istore_n 3, 1) := dk_62 (by decide +kernel)
theorem dX12_wayRow_5 : decode cX12_wayRow 5 = .ok (.aload_n 0, 1) := dk_42 (by decide +kernel)
theorem dX12_wayRow_6 : decode cX12_wayRow 6 = .ok (.getfield 203, 3) := dk_180 (by decide +kernel)
theorem dX12_wayRow_9 : decode cX12_wayRow 9 = .ok (.bipush 9, 2) := dk_16 (by decide +kernel)
theorem dX12_wayRow_11 : decode cX12_wayRow 11 = .ok (.iload_n 1, 1) := dk_27 (by decide +kernel)
theorem dX12_wayRow_12 : decode cX12_wayRow 12 = .ok (.imul, 1) := dk_104 (by decide +kernel)
theorem dX12_wayRow_13 : decode cX12_wayRow 13 = .ok (.iaload, 1) := dk_46 (by decide +kernel)
theorem dX12_wayRow_14 : decode cX12_wayRow 14 = .ok (.i2l, 1) := dk_133 (by decide +kernel)
theorem dX12_wayRow_15 : decode cX12_wayRow 15 = .ok (.lstore 4, 2) := dk_55 (by decide +kernel)
theorem dX12_wayRow_17 : decode cX12_wayRow 17 = .ok (.iconst 0, 1) := dk_3 (by decide +kernel)
theorem dX12_wayRow_18 : decode cX12_wayRow 18 = .ok (.istore 6, 2) := dk_54 (by decide +kernel)
theorem dX12_wayRow_20 : decode cX12_wayRow 20 = .ok (.iload 6, 2) := dk_21 (by decide +kernel)
theorem dX12_wayRow_22 : decode cX12_wayRow 22 = .ok (.aload_n 0, 1) := dk_42 (by decide +kernel)
theorem dX12_wayRow_23 : decode cX12_wayRow 23 = .ok (.getfield 774, 3) := dk_180 (by decide +kernel)
theorem dX12_wayRow_26 : decode cX12_wayRow 26 = .ok (.if_icmp .ge 57, 3) := dk_162 (by decide +kernel)
theorem dX12_wayRow_29 : decode cX12_wayRow 29 = .ok (.aload_n 0, 1) := dk_42 (by decide +kernel)
theorem dX12_wayRow_30 : decode cX12_wayRow 30 = .ok (.getfield 203, 3) := dk_180 (by decide +kernel)
theorem dX12_wayRow_33 : decode cX12_wayRow 33 = .ok (.bipush 9, 2) := dk_16 (by decide +kernel)
theorem dX12_wayRow_35 : decode cX12_wayRow 35 = .ok (.iload_n 1, 1) := dk_27 (by decide +kernel)
theorem dX12_wayRow_36 : decode cX12_wayRow 36 = .ok (.imul, 1) := dk_104 (by decide +kernel)
theorem dX12_wayRow_37 : decode cX12_wayRow 37 = .ok (.iconst 1, 1) := dk_4 (by decide +kernel)
theorem dX12_wayRow_38 : decode cX12_wayRow 38 = .ok (.iadd, 1) := dk_96 (by decide +kernel)
theorem dX12_wayRow_39 : decode cX12_wayRow 39 = .ok (.iload 6, 2) := dk_21 (by decide +kernel)
theorem dX12_wayRow_41 : decode cX12_wayRow 41 = .ok (.iadd, 1) := dk_96 (by decide +kernel)
theorem dX12_wayRow_42 : decode cX12_wayRow 42 = .ok (.iaload, 1) := dk_46 (by decide +kernel)
theorem dX12_wayRow_43 : decode cX12_wayRow 43 = .ok (.i2l, 1) := dk_133 (by decide +kernel)
theorem dX12_wayRow_44 : decode cX12_wayRow 44 = .ok (.lstore 7, 2) := dk_55 (by decide +kernel)
theorem dX12_wayRow_46 : decode cX12_wayRow 46 = .ok (.aload_n 0, 1) := dk_42 (by decide +kernel)
theorem dX12_wayRow_47 : decode cX12_wayRow 47 = .ok (.aload_n 0, 1) := dk_42 (by decide +kernel)
theorem dX12_wayRow_48 : decode cX12_wayRow 48 = .ok (.iload_n 3, 1) := dk_29 (by decide +kernel)
theorem dX12_wayRow_49 : decode cX12_wayRow 49 = .ok (.iload 6, 2) := dk_21 (by decide +kernel)
theorem dX12_wayRow_51 : decode cX12_wayRow 51 = .ok (.invokevirtual 405, 3) := dk_182 (by decide +kernel)
theorem dX12_wayRow_54 : decode cX12_wayRow 54 = .ok (.iload_n 2, 1) := dk_28 (by decide +kernel)
theorem dX12_wayRow_55 : decode cX12_wayRow 55 = .ok (.i2l, 1) := dk_133 (by decide +kernel)
theorem dX12_wayRow_56 : decode cX12_wayRow 56 = .ok (.lload 7, 2) := dk_22 (by decide +kernel)
theorem dX12_wayRow_58 : decode cX12_wayRow 58 = .ok (.lmul, 1) := dk_105 (by decide +kernel)
theorem dX12_wayRow_59 : decode cX12_wayRow 59 = .ok (.invokevirtual 369, 3) := dk_182 (by decide +kernel)
theorem dX12_wayRow_62 : decode cX12_wayRow 62 = .ok (.lload 4, 2) := dk_22 (by decide +kernel)
theorem dX12_wayRow_64 : decode cX12_wayRow 64 = .ok (.lload 7, 2) := dk_22 (by decide +kernel)
theorem dX12_wayRow_66 : decode cX12_wayRow 66 = .ok (.aload_n 0, 1) := dk_42 (by decide +kernel)
theorem dX12_wayRow_67 : decode cX12_wayRow 67 = .ok (.iload 6, 2) := dk_21 (by decide +kernel)
theorem dX12_wayRow_69 : decode cX12_wayRow 69 = .ok (.invokevirtual 826, 3) := dk_182 (by decide +kernel)
theorem dX12_wayRow_72 : decode cX12_wayRow 72 = .ok (.i2l, 1) := dk_133 (by decide +kernel)
theorem dX12_wayRow_73 : decode cX12_wayRow 73 = .ok (.lmul, 1) := dk_105 (by decide +kernel)
theorem dX12_wayRow_74 : decode cX12_wayRow 74 = .ok (.lsub, 1) := dk_101 (by decide +kernel)
theorem dX12_wayRow_75 : decode cX12_wayRow 75 = .ok (.lstore 4, 2) := dk_55 (by decide +kernel)
theorem dX12_wayRow_77 : decode cX12_wayRow 77 = .ok (.iinc 6 1, 3) := dk_132 (by decide +kernel)
theorem dX12_wayRow_80 : decode cX12_wayRow 80 = .ok (.goto (-60), 3) := dk_167 (by decide +kernel)
theorem dX12_wayRow_83 : decode cX12_wayRow 83 = .ok (.aload_n 0, 1) := dk_42 (by decide +kernel)
theorem dX12_wayRow_84 : decode cX12_wayRow 84 = .ok (.aload_n 0, 1) := dk_42 (by decide +kernel)
theorem dX12_wayRow_85 : decode cX12_wayRow 85 = .ok (.iload_n 3, 1) := dk_29 (by decide +kernel)
theorem dX12_wayRow_86 : decode cX12_wayRow 86 = .ok (.aload_n 0, 1) := dk_42 (by decide +kernel)
theorem dX12_wayRow_87 : decode cX12_wayRow 87 = .ok (.getfield 396, 3) := dk_180 (by decide +kernel)
theorem dX12_wayRow_90 : decode cX12_wayRow 90 = .ok (.invokevirtual 405, 3) := dk_182 (by decide +kernel)
theorem dX12_wayRow_93 : decode cX12_wayRow 93 = .ok (.iload_n 2, 1) := dk_28 (by decide +kernel)
theorem dX12_wayRow_94 : decode cX12_wayRow 94 = .ok (.i2l, 1) := dk_133 (by decide +kernel)
theorem dX12_wayRow_95 : decode cX12_wayRow 95 = .ok (.lload 4, 2) := dk_22 (by decide +kernel)
theorem dX12_wayRow_97 : decode cX12_wayRow 97 = .ok (.lmul, 1) := dk_105 (by decide +kernel)
theorem dX12_wayRow_98 : decode cX12_wayRow 98 = .ok (.invokevirtual 369, 3) := dk_182 (by decide +kernel)
theorem dX12_wayRow_101 : decode cX12_wayRow 101 = .ok (.return_, 1) := dk_177 (by decide +kernel)
def wsRX12_wayRow : List Cond := .code yX12_wayRow cX12_wayRow 9 none :: ([.fieldLink RX12 203 "OptimaWorksModel" "wayNumber" "[I", .fieldLink RX12 774 "OptimaWorksModel" "variables" "I", .fieldLink RX12 396 "OptimaWorksModel" "columns" "I"] ++ wsX120 ++ (wsV RX12 823 RX12 yX12_newLine wsRX12_newLine) ++ (wsV RX12 405 RX12 yX12_at wsRX12_at) ++ (wsV RX12 369 RX12 yX12_put wsRX12_put) ++ (wsV RX12 826 RX12 yX12_least wsRX12_least))
theorem iwsRX12_wayRow_in12 : ∀ w ∈ wsX120, w ∈ wsRX12_wayRow := fun _ h => List.mem_cons_of_mem _ (List.mem_append_left _ (List.mem_append_left _ (List.mem_append_left _ (List.mem_append_left _ (List.mem_append_right _ h)))))
theorem gwsRX12_wayRow_0 : GoodIn wsRX12_wayRow (wsV RX12 823 RX12 yX12_newLine wsRX12_newLine) := goodIn_sub (fun _ h => List.mem_cons_of_mem _ (List.mem_append_left _ (List.mem_append_left _ (List.mem_append_left _ (List.mem_append_right _ h))))) (gdV (by decide +kernel) gdwsRX12_newLine)
theorem gwsRX12_wayRow_1 : GoodIn wsRX12_wayRow (wsV RX12 405 RX12 yX12_at wsRX12_at) := goodIn_sub (fun _ h => List.mem_cons_of_mem _ (List.mem_append_left _ (List.mem_append_left _ (List.mem_append_right _ h)))) (gdV (by decide +kernel) gdwsRX12_at)
theorem gwsRX12_wayRow_2 : GoodIn wsRX12_wayRow (wsV RX12 369 RX12 yX12_put wsRX12_put) := goodIn_sub (fun _ h => List.mem_cons_of_mem _ (List.mem_append_left _ (List.mem_append_right _ h))) (gdV (by decide +kernel) gdwsRX12_put)
theorem gwsRX12_wayRow_3 : GoodIn wsRX12_wayRow (wsV RX12 826 RX12 yX12_least wsRX12_least) := goodIn_sub (fun _ h => List.mem_cons_of_mem _ (List.mem_append_right _ h)) (gdV (by decide +kernel) gdwsRX12_least)
theorem gdwsRX12_wayRow : wsRX12_wayRow.all goodWord = true := gdC rfl (gdA (gdA (gdA (gdA (gdA (by decide +kernel : ([.fieldLink RX12 203 "OptimaWorksModel" "wayNumber" "[I", .fieldLink RX12 774 "OptimaWorksModel" "variables" "I", .fieldLink RX12 396 "OptimaWorksModel" "columns" "I"] : List Cond).all goodWord = true) gdwsX120) (gdV (by decide +kernel) gdwsRX12_newLine)) (gdV (by decide +kernel) gdwsRX12_at)) (gdV (by decide +kernel) gdwsRX12_put)) (gdV (by decide +kernel) gdwsRX12_least))
theorem hm_r_X12_wayRow_0 : (.fieldLink RX12 203 "OptimaWorksModel" "wayNumber" "[I" : Cond) ∈ wsRX12_wayRow := by decide +kernel
set_option maxHeartbeats 4000000 in
set_option maxRecDepth 100000 in
/-- wayRow(w, how) -/
theorem r_X12_wayRow (l : Launch) (dC : Nat → ClassId) (dI : Nat → Nat → Nat) (a : Nat → Nat) (k : Nat → ClassId) (h0 : Nat) (vi : Nat → Int32) (vj : Nat → Int64) (vF : Nat → Nat → Int32) (vG : Nat → Nat → Int64) (wn : Nat) (hw : Int32) (hI : Int) (C : Nat) (R : Nat) (gq : Nat) (mg : Nat → Int) (hBg : Bg (vF 0) mg) (hC : vi 5 = nI C) (hR : vi 6 = nI R) (hG : vi 7 = 0) (hv9 : vi 90 = nI (C - 1)) (hC9 : 0 < C ∧ C ≤ 9) (hR40 : R ≤ 40) (hBl : BldL C R mg (vF 5)) (hM : MdlB vF gq) (hwn : wn < 39) (hhI : (hw).toInt = hI) (hI1 : hI = 1 ∨ hI = -1) (sz : Nat) : Met l yX12_wayRow wsRX12_wayRow ({ frames := 3, cells := 0, slots := 0, locals := 70 }) (va_Pc [.ref h0, .int (nI wn), .int hw] (fun U => U.heap.size = sz ∧ va_P (dC, dI) vwCl (WR a k h0 vi vj vF vG) U.heap ∧ va_K (dC, dI) vwCl (tX12 k) U ∧ va_D (fun _ => True) (WR a k h0 vi vj vF vG))) (va_Qv (fun (u : (Nat → Int32) × (Nat → Int)) => (Bg (u.1) (u.2)) ∧ (BldL C (R + 1) (u.2) (upd (vF 5) (nI R).toNatClampNeg (nI (C + R)))) ∧ (∀ q, (q < 30 ∨ 1000 ≤ q) → (u.2) q = mg q)) (fun (u : (Nat → Int32) × (Nat → Int)) t => va_P (dC, dI) vwCl (WR a k h0 (fT vi 6 (nI (R + 1))) vj (fT (fT vF 0 (u.1)) 5 (upd (vF 5) (nI R).toNatClampNeg (nI (C + R)))) vG) t.heap ∧ va_D (va_A (WR a k h0 vi vj vF vG) sz) (WR a k h0 (fT vi 6 (nI (R + 1))) vj (fT (fT vF 0 (u.1)) 5 (upd (vF 5) (nI R).toNatClampNeg (nI (C + R)))) vG)) (va_A (WR a k h0 vi vj vF vG) sz)) 0 0 (va_A (WR a k h0 vi vj vF vG) sz) := by
  refine Met.ofW (cc := cX12_wayRow) (maxL := 9) (ret := none) (by decide) rfl ?_
  intro p e s m args below meth c s₁ B hml hv
  obtain ⟨rfl, hsz, hP, hK, hD0⟩ := hv
  have hx := B.exec
  have hb := B.bytes
  have hr := B.returns
  have hts := atoms_spec (ws := wsRX12_wayRow) B.pre
  have hown : s.vm.findClass RX12 = some m.cls := findClass_of_methodNamed B.named
  have hlocks := B.notSynchronized
  subst hsz
  have hD := hD0.self (sz := s.heap.size)
  generalize hAe : va_A (WR a k h0 vi vj vF vG) s.heap.size = A at hD ⊢
  have hA : ∀ q : Nat, s.heap.size ≤ q → A q := fun q h => by rw [← hAe]; exact Or.inr h
  have hS : va_S A s.heap s.heap [] := va_S.rf
  have hl := lv_entry ([.ref h0, .int (nI wn), .int hw]) (n := 9) (Nat.le_of_ble_eq_true rfl)
  rw [lg_entry_eq]
  generalize (lg_sl ([.ref h0, .int (nI wn), .int hw]) ++ List.replicate (9 - (lg_sl ([.ref h0, .int (nI wn), .int hw])).length) Slot.unset).toArray = ls at hl ⊢
  have hl : lv_has ls 9 [(0, .ref h0), (1, .int (nI wn)), (2, .int hw)] := hl
  have hmul : R * (C + 1) ≤ 40 * 10 := Nat.mul_le_mul hR40 (by omega)
  have hsd0 := hM.2.2.1 wn hwn
  refine lv_aload_n hx hb dX12_wayRow_0 rfl (lv_at hl 0 rfl) ?_
  have hFc := allFree hD hS hA
  refine va_calli (va_runV (As := []) (rest := []) ⟨hx, hb, hml, hown, hts⟩ (r_X12_newLine l dC dI a k h0 vi vj vF vG C R mg hBg (by first | with_reducible assumption | decide | omega | rfl | assumption) (by first | with_reducible assumption | decide | omega | rfl | assumption) (by first | with_reducible assumption | decide | omega | rfl | assumption) (by first | with_reducible assumption | decide | omega | rfl | assumption) (by omega) (by first | with_reducible assumption | decide | omega | rfl | assumption) s.heap.size) (cwV 0 hts gwsRX12_wayRow_0 rfl rfl rfl hd_yX12_newLine_RX12 (by decide +kernel)) (fz_pre (va_recv hK hP (ci := 12) (q0 := 0) rfl rfl) hP hK hD) rfl rfl hl.1 rfl (lv_room (Nat.le_of_ble_eq_true rfl)) dX12_wayRow_1 (by decide +kernel)) hS (fun q _ h => hFc q h) hFc (fun r1 u t9_ H locs ht hvm hw9 hB9 hz1 hk1 hS => ?_)
  revert u hw9 hB9
  refine fz_p2 ?_
  intro g1 m21 hw9 hB9
  try dsimp only at hw9 hB9
  have hP : va_P (dC, dI) vwCl (WR a k h0 (fT vi 6 (nI (R + 1))) vj (fT (fT vF 0 g1) 5 (upd (vF 5) (nI R).toNatClampNeg (nI (C + R)))) vG) H := fz_P ht hB9.1
  have hD := fz_sd hP (hB9.2.weaken (fun _ q _ h => hFc q.1 h)) rfl
  obtain ⟨rfl, f1_0, f1_1, f1_2⟩ := hw9
  refine lv_istore_n hx hb dX12_wayRow_4 rfl hl (by decide) rfl (fun ls (hl : lv_has ls _ ([(3, .int (nI R)), (0, .ref h0), (1, .int (nI wn)), (2, .int hw)])) => ?_)
  refine lv_aload_n hx hb dX12_wayRow_5 rfl (lv_at hl 1 rfl) ?_
  refine va_get (D := (dC, dI)) (ci := 12) (v := .ref (a 60)) (C := RX12) (T := TX12) (N := 163) (fs := fM (vS a (fT vi 6 (nI (R + 1))) vj)) hx hb hts iwsRX12_wayRow_in12 hown hK hP 0 rfl rfl 100 (by decide) (hts _ hm_r_X12_wayRow_0) (fun _ h9 => h9) rfl dX12_wayRow_6 ?_
  refine lv_bipush (v := 9) hx hb dX12_wayRow_9 (by decide) ?_
  refine lv_iload_n hx hb dX12_wayRow_11 rfl (lv_at hl 2 rfl) ?_
  refine lv_imul hx hb dX12_wayRow_12 ?_
  refine lv_topi (fun y1 hy1 => ?_)
  obtain rfl : (nI (9 * wn)) = y1 := (hy1.trans (pk_mul 9 wn)).symm
  refine va_iald (cA := k 60) (n := 351) (f := (vF 60)) hx hb hK hP 61 60 (WR_get 60 (by decide)) (TR_get 60 (by decide)) (vp_in_nI (show (9 * wn) < 351 by omega) (by omega)) dX12_wayRow_13 ?_
  refine lv_topi (fun y2 hy2 => ?_)
  obtain rfl : ((vF 60) (9 * wn)) = y2 := (hy2.trans (by rw [nI_clamp (by omega)])).symm
  refine lv_i2l hx hb dX12_wayRow_14 rfl ?_
  refine lv_lstore hx hb dX12_wayRow_15 hl (by decide) rfl (fun ls (hl : lv_has ls _ ([(4, .long (((vF 60) (9 * wn))).toInt64), (3, .int (nI R)), (0, .ref h0), (1, .int (nI wn)), (2, .int hw)])) => ?_)
  refine lv_iconst (v := 0) hx hb dX12_wayRow_17 (by decide) ?_
  refine lv_istore hx hb dX12_wayRow_18 hl (by decide) rfl (fun ls (hl : lv_has ls _ ([(6, .int 0), (4, .long (((vF 60) (9 * wn))).toInt64), (3, .int (nI R)), (0, .ref h0), (1, .int (nI wn)), (2, .int hw)])) => ?_)
  have hl : lv_has _ _ ([(0, .ref h0), (1, .int (nI wn)), (2, .int hw), (3, .int (nI R)), (4, .long ((((vF 60) (9 * wn))).toInt64)), (6, .int (nI 0))]) := lv_sub hl [3, 4, 5, 2, 1, 0] rfl
  refine (fun (loop : ∀ (n9 : Nat) (k5 : Nat) (sd : Int64) (g1 : Nat → Int32) (m1 : Nat → Int) (H : Heap) (locs : List Loc) (ls : Array Slot), (Bg g1 m1) → (k5 ≤ C - 1) → (-(99999 + 98901 * (k5 : Int)) ≤ sd.toInt ∧ sd.toInt ≤ 99999 + 98901 * (k5 : Int)) → (∀ j, j < k5 → (m1 (30 + R * (C + 1) + j)).natAbs ≤ 99) → (∀ j, k5 ≤ j → j ≤ C → m1 (30 + R * (C + 1) + j) = if j = C - 1 then -1 else 0) → (∀ q, (q < 30 + R * (C + 1) ∨ 1000 ≤ q) → m1 q = mg q) →  (C - 1 < k5 + n9) → va_P (dC, dI) vwCl (WR a k h0 (fT vi 6 (nI (R + 1))) vj (fT (fT vF 0 g1) 5 (upd (vF 5) (nI R).toNatClampNeg (nI (C + R)))) vG) H → va_D A (WR a k h0 (fT vi 6 (nI (R + 1))) vj (fT (fT vF 0 g1) 5 (upd (vF 5) (nI R).toNatClampNeg (nI (C + R)))) vG) → va_S A s.heap H locs → lv_has ls 9 [(0, .ref h0), (1, .int (nI wn)), (2, .int hw), (3, .int (nI R)), (4, .long sd), (6, .int (nI k5))] → W p l e _ s m _ below meth c H locs 0 0 _ (F0 m 20 ls [])) => loop (C) 0 ((((vF 60) (9 * wn))).toInt64) g1 m21 _ _ _ (f1_0) (by omega) (by rw [i64T]; omega) (fun j hj => absurd hj (by omega)) (fun j h1 h2 => f1_1 j h2) (fun q hq => by (rw [f1_2 _ (by omega)])) (by omega) hP hD hS hl) ?_
  intro n9
  induction n9 with
  | zero => intro k5 sd g1 m1 H locs ls hB1 hk5 hsd hrow hrest ho hf9; exact False.elim (by omega)
  | succ n9 ih20 =>
    intro k5 sd g1 m1 H locs ls hB1 hk5 hsd hrow hrest ho hf20 hP hD hS hl
    refine lv_iload hx hb dX12_wayRow_20 (lv_at hl 5 rfl) ?_
    refine lv_aload_n hx hb dX12_wayRow_22 rfl (lv_at hl 0 rfl) ?_
    refine va_get (D := (dC, dI)) (ci := 12) (v := .int (vi 90)) (C := RX12) (T := TX12) (N := 163) (fs := fM (vS a (fT vi 6 (nI (R + 1))) vj)) hx hb hts iwsRX12_wayRow_in12 hown hK hP 0 rfl rfl 90 (by decide) (hts (.fieldLink RX12 774 "OptimaWorksModel" "variables" "I") (by decide +kernel)) (fun _ h9 => h9) rfl dX12_wayRow_23 ?_
    refine lv_topi (fun y3 hy3 => ?_)
    obtain rfl : (nI (C - 1)) = y3 := (hy3.trans (hv9)).symm
    refine lv_icmp_ge (tgt := 83) hx hb dX12_wayRow_26 (by decide) (fun c_26 => ?_) (fun c_26 => ?_)
    · have t_26 : ((k5 : Nat) : Int) ≥ (((C - 1) : Nat) : Int) := toI_ge c_26 (nI_toInt (by omega)) (nI_toInt (by omega))
      have ek : k5 = C - 1 := by omega
      have m98 := mulQ (x := hw.toInt64) (y := sd) (by rw [i64T]; omega) (by omega)
      have ec : (hw.toInt64 * sd).toInt = hI * sd.toInt := by rw [m98.1, i64T, hhI]
      have bc : (hI * sd.toInt).natAbs ≤ 1 * 900000 := mul_box (by omega) (by omega)
      refine lv_aload_n hx hb dX12_wayRow_83 rfl (lv_at hl 0 rfl) ?_
      refine lv_aload_n hx hb dX12_wayRow_84 rfl (lv_at hl 0 rfl) ?_
      refine lv_iload_n hx hb dX12_wayRow_85 rfl (lv_at hl 3 rfl) ?_
      refine lv_aload_n hx hb dX12_wayRow_86 rfl (lv_at hl 0 rfl) ?_
      refine va_get (D := (dC, dI)) (ci := 12) (v := .int (vi 5)) (C := RX12) (T := TX12) (N := 163) (fs := fM (vS a (fT vi 6 (nI (R + 1))) vj)) hx hb hts iwsRX12_wayRow_in12 hown hK hP 0 rfl rfl 5 (by decide) (hts (.fieldLink RX12 396 "OptimaWorksModel" "columns" "I") (by decide +kernel)) (fun _ h9 => h9) rfl dX12_wayRow_87 ?_
      refine lv_topi (fun y4 hy4 => ?_)
      obtain rfl : (nI C) = y4 := (hy4.trans (hC)).symm
      have hFc := allFree hD hS hA
      refine va_calli (va_runV (As := [.int (nI R), .int (nI C)]) (rest := [.ref h0]) ⟨hx, hb, hml, hown, hts⟩ (r_X12_at l dC dI a k h0 (fT vi 6 (nI (R + 1))) vj (fT (fT vF 0 g1) 5 (upd (vF 5) (nI R).toNatClampNeg (nI (C + R)))) vG R C C (by first | with_reducible assumption | decide | omega | rfl | assumption) H.size) (cwV 2 hts gwsRX12_wayRow_1 rfl rfl rfl hd_yX12_at_RX12 (by decide +kernel)) (fz_pre (va_recv hK hP (ci := 12) (q0 := 0) rfl rfl) hP hK hD) rfl rfl hl.1 rfl (lv_room (Nat.le_of_ble_eq_true rfl)) dX12_wayRow_90 (by decide +kernel)) hS (fun q _ h => hFc q h) hFc (fun r90 u t9_ H locs ht hvm hw9 hB9 hz1 hk1 hS => ?_)
      have hP : va_P (dC, dI) vwCl (WR a k h0 (fT vi 6 (nI (R + 1))) vj (fT (fT vF 0 g1) 5 (upd (vF 5) (nI R).toNatClampNeg (nI (C + R)))) vG) H := fz_P ht hB9.1
      have hD := fz_sd hP (hB9.2.weaken (fun _ q _ h => hFc q.1 h)) rfl
      obtain rfl := hw9
      refine lv_iload_n hx hb dX12_wayRow_93 rfl (lv_at hl 2 rfl) ?_
      refine lv_i2l hx hb dX12_wayRow_94 rfl ?_
      refine lv_lload hx hb dX12_wayRow_95 (lv_at hl 4 rfl) ?_
      refine lv_lmul hx hb dX12_wayRow_97 ?_
      have hFc := allFree hD hS hA
      refine va_callv (va_runV (As := [.int (nI (30 + R * (C + 1) + C)), .long ((hw).toInt64 * sd)]) (rest := []) ⟨hx, hb, hml, hown, hts⟩ (b_X12_put l dC dI a k h0 (fT vi 6 (nI (R + 1))) vj (fT (fT vF 0 g1) 5 (upd (vF 5) (nI R).toNatClampNeg (nI (C + R)))) vG (30 + R * (C + 1) + C) ((hw).toInt64 * sd) (hI * (sd).toInt) m1 hB1 (by first | with_reducible assumption | decide | omega | rfl | assumption) (ec) (by omega) H.size) (cwV 2 hts gwsRX12_wayRow_2 rfl rfl rfl hd_yX12_put_RX12 (by decide +kernel)) (fz_pre (va_recv hK hP (ci := 12) (q0 := 0) rfl rfl) hP hK hD) rfl rfl hl.1 rfl (lv_room (Nat.le_of_ble_eq_true rfl)) dX12_wayRow_98 (by decide +kernel)) hS (fun q _ h => hFc q h) hFc (fun g98 t9_ H locs ht hvm hw9 hB9 hz1 hk1 hS => ?_)
      have e9F : fT (fT vF 0 g98) 5 (upd (vF 5) (nI R).toNatClampNeg (nI (C + R))) = fT (fT (fT vF 0 g1) 5 (upd (vF 5) (nI R).toNatClampNeg (nI (C + R)))) 0 g98 := ((fT_sw _ _ _ (Nat.ne_of_beq_eq_false rfl)).trans (congrArg (fun g9 => fT g9 5 (upd (vF 5) (nI R).toNatClampNeg (nI (C + R)))) (fT_sm _ _ _ _))).symm
      have hP := wr_PF e9F (fz_P ht hB9.1)
      have hD := wr_DF e9F (hB9.2.weaken (fun _ q _ h => hFc q.1 h))
      clear e9F
      have f98_0 := hw9
      try dsimp only at f98_0
      refine W.widen (k := 0) (n := 0) (by decide +kernel) (by decide +kernel) ?_
      exact W.vret hx hb hr (fun t9_ ht hW => ⟨⟨(g98, (fT m1 (30 + R * (C + 1) + C) (hI * (sd).toInt))), rfl, by (try dsimp only); exact ⟨f98_0, hBl.more (fun i2 hi2 => by rw [upd_at (by omega), if_neg (by omega)]) (fun p hp => by (rw [fT_ne _ _ (by omega)]); exact ho p (by omega)) (by omega) (by rw [upd_at (by omega), if_pos rfl]) (fun j hj => by (rw [fT_ne _ _ (by omega)]); exact hrow j (by omega)) (by rw [fT_ne _ _ (by omega), hrest (C - 1) (by omega) (by omega), if_pos rfl]) (by rw [fT_eq]; omega), fun q hq => by (rw [fT_ne _ _ (by omega)]); exact ho q (by omega)⟩, by rw [ht]; exact hP, hD⟩, hS.F ht⟩) hS.2.2 dX12_wayRow_101
    · have t_26 : ¬ ((k5 : Nat) : Int) ≥ (((C - 1) : Nat) : Int) := toI_nge c_26 (nI_toInt (by omega)) (nI_toInt (by omega))
      refine lv_aload_n hx hb dX12_wayRow_29 rfl (lv_at hl 0 rfl) ?_
      refine va_get (D := (dC, dI)) (ci := 12) (v := .ref (a 60)) (C := RX12) (T := TX12) (N := 163) (fs := fM (vS a (fT vi 6 (nI (R + 1))) vj)) hx hb hts iwsRX12_wayRow_in12 hown hK hP 0 rfl rfl 100 (by decide) (hts _ hm_r_X12_wayRow_0) (fun _ h9 => h9) rfl dX12_wayRow_30 ?_
      refine lv_bipush (v := 9) hx hb dX12_wayRow_33 (by decide) ?_
      refine lv_iload_n hx hb dX12_wayRow_35 rfl (lv_at hl 1 rfl) ?_
      refine lv_imul hx hb dX12_wayRow_36 ?_
      refine lv_topi (fun y5 hy5 => ?_)
      obtain rfl : (nI (9 * wn)) = y5 := (hy5.trans (pk_mul 9 wn)).symm
      refine lv_iconst (v := 1) hx hb dX12_wayRow_37 (by decide) ?_
      refine lv_iadd hx hb dX12_wayRow_38 ?_
      refine lv_topi (fun y6 hy6 => ?_)
      obtain rfl : (nI ((9 * wn) + 1)) = y6 := (hy6.trans (nI_add (9 * wn) 1)).symm
      refine lv_iload hx hb dX12_wayRow_39 (lv_at hl 5 rfl) ?_
      refine lv_iadd hx hb dX12_wayRow_41 ?_
      refine lv_topi (fun y7 hy7 => ?_)
      obtain rfl : (nI (((9 * wn) + 1) + k5)) = y7 := (hy7.trans (nI_add ((9 * wn) + 1) k5)).symm
      refine va_iald (cA := k 60) (n := 351) (f := (vF 60)) hx hb hK hP 61 60 (WR_get 60 (by decide)) (TR_get 60 (by decide)) (vp_in_nI (show (((9 * wn) + 1) + k5) < 351 by omega) (by omega)) dX12_wayRow_42 ?_
      refine lv_topi (fun y8 hy8 => ?_)
      obtain rfl : ((vF 60) (((9 * wn) + 1) + k5)) = y8 := (hy8.trans (by rw [nI_clamp (by omega)])).symm
      refine lv_i2l hx hb dX12_wayRow_43 rfl ?_
      refine lv_lstore hx hb dX12_wayRow_44 hl (by decide) rfl (fun ls (hl : lv_has ls _ ([(7, .long (((vF 60) (((9 * wn) + 1) + k5))).toInt64), (0, .ref h0), (1, .int (nI wn)), (2, .int hw), (3, .int (nI R)), (4, .long sd), (6, .int (nI k5))])) => ?_)
      have ba := hM.2.2.2.1 wn k5 hwn (by omega)
      have ea := mulI (x := hw) (y := (vF 60 (9 * wn + 1 + k5)))
      have bx : (hI * (vF 60 (9 * wn + 1 + k5)).toInt).natAbs ≤ 1 * 99 := mul_box (by omega) (by omega)
      refine lv_aload_n hx hb dX12_wayRow_46 rfl (lv_at hl 1 rfl) ?_
      refine lv_aload_n hx hb dX12_wayRow_47 rfl (lv_at hl 1 rfl) ?_
      refine lv_iload_n hx hb dX12_wayRow_48 rfl (lv_at hl 4 rfl) ?_
      refine lv_iload hx hb dX12_wayRow_49 (lv_at hl 6 rfl) ?_
      have hFc := allFree hD hS hA
      refine va_calli (va_runV (As := [.int (nI R), .int (nI k5)]) (rest := [.ref h0]) ⟨hx, hb, hml, hown, hts⟩ (r_X12_at l dC dI a k h0 (fT vi 6 (nI (R + 1))) vj (fT (fT vF 0 g1) 5 (upd (vF 5) (nI R).toNatClampNeg (nI (C + R)))) vG R k5 C (by first | with_reducible assumption | decide | omega | rfl | assumption) H.size) (cwV 2 hts gwsRX12_wayRow_1 rfl rfl rfl hd_yX12_at_RX12 (by decide +kernel)) (fz_pre (va_recv hK hP (ci := 12) (q0 := 0) rfl rfl) hP hK hD) rfl rfl hl.1 rfl (lv_room (Nat.le_of_ble_eq_true rfl)) dX12_wayRow_51 (by decide +kernel)) hS (fun q _ h => hFc q h) hFc (fun r51 u t9_ H locs ht hvm hw9 hB9 hz1 hk1 hS => ?_)
      have hP : va_P (dC, dI) vwCl (WR a k h0 (fT vi 6 (nI (R + 1))) vj (fT (fT vF 0 g1) 5 (upd (vF 5) (nI R).toNatClampNeg (nI (C + R)))) vG) H := fz_P ht hB9.1
      have hD := fz_sd hP (hB9.2.weaken (fun _ q _ h => hFc q.1 h)) rfl
      obtain rfl := hw9
      refine lv_iload_n hx hb dX12_wayRow_54 rfl (lv_at hl 3 rfl) ?_
      refine lv_i2l hx hb dX12_wayRow_55 rfl ?_
      refine lv_lload hx hb dX12_wayRow_56 (lv_at hl 0 rfl) ?_
      refine lv_lmul hx hb dX12_wayRow_58 ?_
      have hFc := allFree hD hS hA
      refine va_callv (va_runV (As := [.int (nI (30 + R * (C + 1) + k5)), .long ((hw).toInt64 * (((vF 60) (((9 * wn) + 1) + k5))).toInt64)]) (rest := []) ⟨hx, hb, hml, hown, hts⟩ (b_X12_put l dC dI a k h0 (fT vi 6 (nI (R + 1))) vj (fT (fT vF 0 g1) 5 (upd (vF 5) (nI R).toNatClampNeg (nI (C + R)))) vG (30 + R * (C + 1) + k5) ((hw).toInt64 * (((vF 60) (((9 * wn) + 1) + k5))).toInt64) (hI * (vF 60 (9 * wn + 1 + k5)).toInt) m1 hB1 (by first | with_reducible assumption | decide | omega | rfl | assumption) (by rw [ea, hhI]) (by omega) H.size) (cwV 2 hts gwsRX12_wayRow_2 rfl rfl rfl hd_yX12_put_RX12 (by decide +kernel)) (fz_pre (va_recv hK hP (ci := 12) (q0 := 0) rfl rfl) hP hK hD) rfl rfl hl.1 rfl (lv_room (Nat.le_of_ble_eq_true rfl)) dX12_wayRow_59 (by decide +kernel)) hS (fun q _ h => hFc q h) hFc (fun g59 t9_ H locs ht hvm hw9 hB9 hz1 hk1 hS => ?_)
      have e9F : fT (fT vF 0 g59) 5 (upd (vF 5) (nI R).toNatClampNeg (nI (C + R))) = fT (fT (fT vF 0 g1) 5 (upd (vF 5) (nI R).toNatClampNeg (nI (C + R)))) 0 g59 := ((fT_sw _ _ _ (Nat.ne_of_beq_eq_false rfl)).trans (congrArg (fun g9 => fT g9 5 (upd (vF 5) (nI R).toNatClampNeg (nI (C + R)))) (fT_sm _ _ _ _))).symm
      have hP := wr_PF e9F (fz_P ht hB9.1)
      have hD := wr_DF e9F (hB9.2.weaken (fun _ q _ h => hFc q.1 h))
      clear e9F
      have f59_0 := hw9
      try dsimp only at f59_0
      refine lv_lload hx hb dX12_wayRow_62 (lv_at hl 5 rfl) ?_
      refine lv_lload hx hb dX12_wayRow_64 (lv_at hl 0 rfl) ?_
      refine lv_aload_n hx hb dX12_wayRow_66 rfl (lv_at hl 1 rfl) ?_
      refine lv_iload hx hb dX12_wayRow_67 (lv_at hl 6 rfl) ?_
      have hFc := allFree hD hS hA
      refine va_calli (va_runV (As := [.int (nI k5)]) (rest := [.long (((vF 60) (((9 * wn) + 1) + k5))).toInt64, .long sd]) ⟨hx, hb, hml, hown, hts⟩ (r_X12_least l dC dI a k h0 (fT vi 6 (nI (R + 1))) vj (fT (fT vF 0 g59) 5 (upd (vF 5) (nI R).toNatClampNeg (nI (C + R)))) vG k5 gq (by omega) (by first | with_reducible assumption | decide | omega | rfl | assumption) H.size) (cwV 1 hts gwsRX12_wayRow_3 rfl rfl rfl hd_yX12_least_RX12 (by decide +kernel)) (fz_pre (va_recv hK hP (ci := 12) (q0 := 0) rfl rfl) hP hK hD) rfl rfl hl.1 rfl (lv_room (Nat.le_of_ble_eq_true rfl)) dX12_wayRow_69 (by decide +kernel)) hS (fun q _ h => hFc q h) hFc (fun r69 u t9_ H locs ht hvm hw9 hB9 hz1 hk1 hS => ?_)
      have hP : va_P (dC, dI) vwCl (WR a k h0 (fT vi 6 (nI (R + 1))) vj (fT (fT vF 0 g59) 5 (upd (vF 5) (nI R).toNatClampNeg (nI (C + R)))) vG) H := fz_P ht hB9.1
      have hD := fz_sd hP (hB9.2.weaken (fun _ q _ h => hFc q.1 h)) rfl
      have f69_0 := hw9
      try dsimp only at f69_0
      refine lv_i2l hx hb dX12_wayRow_72 rfl ?_
      refine lv_lmul hx hb dX12_wayRow_73 ?_
      have eb := mulI (x := (vF 60 (9 * wn + 1 + k5))) (y := r69)
      have bb9 := f69_0
      have by9 : ((vF 60 (9 * wn + 1 + k5)).toInt * (r69).toInt).natAbs ≤ 99 * 999 := mul_box (by omega) (by omega)
      refine lv_lsub hx hb dX12_wayRow_74 ?_
      obtain ⟨s9, hs9⟩ : ∃ s9, s9 = ((sd - ((((vF 60) (((9 * wn) + 1) + k5))).toInt64 * (r69).toInt64)) : Int64) := ⟨_, rfl⟩
      have es9 : s9.toInt = sd.toInt - (vF 60 (9 * wn + 1 + k5)).toInt * (r69).toInt := by rw [hs9, sub64 (by omega) (by omega), eb]
      refine lv_topl (fun y9 hy9 => ?_)
      obtain rfl : s9 = y9 := (hy9.trans (hs9.symm)).symm
      refine lv_lstore hx hb dX12_wayRow_75 hl (by decide) rfl (fun ls (hl : lv_has ls _ ([(4, .long s9), (7, .long (((vF 60) (((9 * wn) + 1) + k5))).toInt64), (0, .ref h0), (1, .int (nI wn)), (2, .int hw), (3, .int (nI R)), (6, .int (nI k5))])) => ?_)
      refine lv_iinc (v := (nI (k5 + 1))) hx hb dX12_wayRow_77 hl (k := 6) rfl (nI_add k5 1) (by decide) rfl (fun ls (hl : lv_has ls _ ([(6, .int (nI (k5 + 1))), (4, .long s9), (7, .long (((vF 60) (((9 * wn) + 1) + k5))).toInt64), (0, .ref h0), (1, .int (nI wn)), (2, .int hw), (3, .int (nI R))])) => ?_)
      refine lv_goto (tgt := 20) hx hb dX12_wayRow_80 (by decide) ?_
      have hl : lv_has _ _ ([(0, .ref h0), (1, .int (nI wn)), (2, .int hw), (3, .int (nI R)), (4, .long s9), (6, .int (nI (k5 + 1)))]) := lv_sub hl [3, 4, 5, 6, 1, 0] rfl
      exact ih20 (k5 + 1) s9 g59 (fT m1 (30 + R * (C + 1) + k5) (hI * (vF 60 (9 * wn + 1 + k5)).toInt)) _ _ _ (f59_0) (by omega) (by omega) (fun j hj => by by_cases e9 : j = k5; (rw [e9, fT_eq]; omega); (rw [fT_ne _ _ (by omega)]; exact hrow j (by omega))) (fun j h1 h2 => by rw [fT_ne _ _ (by omega)]; exact hrest j (by omega) h2) (fun q hq => by (rw [fT_ne _ _ (by omega)]); exact ho q hq) (by omega) hP hD hS hl
theorem dX12_waysOf_0 : decode cX12_waysOf 0 = .ok (.aload_n 0, 1) := dk_42 (by decide +kernel)
theorem dX12_waysOf_1 : decode cX12_waysOf 1 = .ok (.getfield 206, 3) := dk_180 (by decide +kernel)
theorem dX12_waysOf_4 : decode cX12_waysOf 4 = .ok (.iload_n 1, 1) := dk_27 (by decide +kernel)
theorem dX12_waysOf_5 : decode cX12_waysOf 5 = .ok (.iaload, 1) := dk_46 (by decide +kernel)
theorem dX12_waysOf_6 : decode cX12_waysOf 6 = .ok (.iconst 1, 1) := dk_4 (by decide +kernel)
theorem dX12_waysOf_7 : decode cX12_waysOf 7 = .ok (.if_icmp .eq 9, 3) := dk_159 (by decide +kernel)
theorem dX12_waysOf_10 : decode cX12_waysOf 10 = .ok (.aload_n 0, 1) := dk_42 (by decide +kernel)
theorem dX12_waysOf_11 : decode cX12_waysOf 11 = .ok (.iload_n 1, 1) := dk_27 (by decide +kernel)
theorem dX12_waysOf_12 : decode cX12_waysOf 12 = .ok (.iconst 1, 1) := dk_4 (by decide +kernel)
theorem dX12_waysOf_13 : decode cX12_waysOf 13 = .ok (.invokevirtual 832, 3) := dk_182 (by decide +kernel)
theorem dX12_waysOf_16 : decode cX12_waysOf 16 = .ok (.aload_n 0, 1) := dk_42 (by decide +kernel)
theorem dX12_waysOf_17 : decode cX12_waysOf 17 = .ok (.getfield 206, 3) := dk_180 (by decide +kernel)
theorem dX12_waysOf_20 : decode cX12_waysOf 20 = .ok (.iload_n 1, 1) := dk_27 (by decide +kernel)
theorem dX12_waysOf_21 : decode cX12_waysOf 21 = .ok (.iaload, 1) := dk_46 (by decide +kernel)
theorem dX12_waysOf_22 : decode cX12_waysOf 22 = .ok (.ifCond .eq 9, 3) := dk_153 (by decide +kernel)
theorem dX12_waysOf_25 : decode cX12_waysOf 25 = .ok (.aload_n 0, 1) := dk_42 (by decide +kernel)
theorem dX12_waysOf_26 : decode cX12_waysOf 26 = .ok (.iload_n 1, 1) := dk_27 (by decide +kernel)
theorem dX12_waysOf_27 : decode cX12_waysOf 27 = .ok (.iconst (-1), 1) := dk_2 (by decide +kernel)
theorem dX12_waysOf_28 : decode cX12_waysOf 28 = .ok (.invokevirtual 832, 3) := dk_182 (by decide +kernel)
theorem dX12_waysOf_31 : decode cX12_waysOf 31 = .ok (.return_, 1) := dk_177 (by decide +kernel)
def wsRX12_waysOf : List Cond := .code yX12_waysOf cX12_waysOf 2 none :: ([.fieldLink RX12 206 "OptimaWorksModel" "waySign" "[I"] ++ wsX120 ++ (wsV RX12 832 RX12 yX12_wayRow wsRX12_wayRow))
theorem iwsRX12_waysOf_in12 : ∀ w ∈ wsX120, w ∈ wsRX12_waysOf := fun _ h => List.mem_cons_of_mem _ (List.mem_append_left _ (List.mem_append_right _ h))
theorem gwsRX12_waysOf_0 : GoodIn wsRX12_waysOf (wsV RX12 832 RX12 yX12_wayRow wsRX12_wayRow) := goodIn_sub (fun _ h => List.mem_cons_of_mem _ (List.mem_append_right _ h)) (gdV (by decide +kernel) gdwsRX12_wayRow)
theorem gdwsRX12_waysOf : wsRX12_waysOf.all goodWord = true := gdC rfl (gdA (gdA (by decide +kernel : ([.fieldLink RX12 206 "OptimaWorksModel" "waySign" "[I"] : List Cond).all goodWord = true) gdwsX120) (gdV (by decide +kernel) gdwsRX12_wayRow))
theorem hm_r_X12_waysOf_0 : (.fieldLink RX12 206 "OptimaWorksModel" "waySign" "[I" : Cond) ∈ wsRX12_waysOf := by decide +kernel
set_option maxHeartbeats 4000000 in
set_option maxRecDepth 100000 in
/-- waysOf(w) -/
theorem r_X12_waysOf (l : Launch) (dC : Nat → ClassId) (dI : Nat → Nat → Nat) (a : Nat → Nat) (k : Nat → ClassId) (h0 : Nat) (vi : Nat → Int32) (vj : Nat → Int64) (vF : Nat → Nat → Int32) (vG : Nat → Nat → Int64) (wn : Nat) (C : Nat) (R : Nat) (gq : Nat) (mg : Nat → Int) (hBg : Bg (vF 0) mg) (hC : vi 5 = nI C) (hR : vi 6 = nI R) (hG : vi 7 = 0) (hv9 : vi 90 = nI (C - 1)) (hC9 : 0 < C ∧ C ≤ 9) (hR38 : R ≤ 38) (hBl : BldL C R mg (vF 5)) (hM : MdlB vF gq) (hwn : wn < 39) (sz : Nat) : Met l yX12_waysOf wsRX12_waysOf ({ frames := 4, cells := 0, slots := 0, locals := 98 }) (va_Pc [.ref h0, .int (nI wn)] (fun U => U.heap.size = sz ∧ va_P (dC, dI) vwCl (WR a k h0 vi vj vF vG) U.heap ∧ va_K (dC, dI) vwCl (tX12 k) U ∧ va_D (fun _ => True) (WR a k h0 vi vj vF vG))) (va_Qv (fun (u : (Nat → Int32) × (Nat → Int32) × (Nat → Int) × (Nat)) => (Bg (u.1) (u.2.2.1)) ∧ (BldL C (R + (u.2.2.2)) (u.2.2.1) (u.2.1)) ∧ ((u.2.2.2) ≤ 2) ∧ (∀ q, (q < 30 ∨ 1000 ≤ q) → (u.2.2.1) q = mg q)) (fun (u : (Nat → Int32) × (Nat → Int32) × (Nat → Int) × (Nat)) t => va_P (dC, dI) vwCl (WR a k h0 (fT vi 6 (nI (R + (u.2.2.2)))) vj (fT (fT vF 0 (u.1)) 5 (u.2.1)) vG) t.heap ∧ va_D (va_A (WR a k h0 vi vj vF vG) sz) (WR a k h0 (fT vi 6 (nI (R + (u.2.2.2)))) vj (fT (fT vF 0 (u.1)) 5 (u.2.1)) vG)) (va_A (WR a k h0 vi vj vF vG) sz)) 0 0 (va_A (WR a k h0 vi vj vF vG) sz) := by
  refine Met.ofW (cc := cX12_waysOf) (maxL := 2) (ret := none) (by decide) rfl ?_
  intro p e s m args below meth c s₁ B hml hv
  obtain ⟨rfl, hsz, hP, hK, hD0⟩ := hv
  have hx := B.exec
  have hb := B.bytes
  have hr := B.returns
  have hts := atoms_spec (ws := wsRX12_waysOf) B.pre
  have hown : s.vm.findClass RX12 = some m.cls := findClass_of_methodNamed B.named
  have hlocks := B.notSynchronized
  subst hsz
  have hD := hD0.self (sz := s.heap.size)
  generalize hAe : va_A (WR a k h0 vi vj vF vG) s.heap.size = A at hD ⊢
  have hA : ∀ q : Nat, s.heap.size ≤ q → A q := fun q h => by rw [← hAe]; exact Or.inr h
  have hS : va_S A s.heap s.heap [] := va_S.rf
  have hl := lv_entry ([.ref h0, .int (nI wn)]) (n := 2) (Nat.le_of_ble_eq_true rfl)
  rw [lg_entry_eq]
  generalize (lg_sl ([.ref h0, .int (nI wn)]) ++ List.replicate (2 - (lg_sl ([.ref h0, .int (nI wn)])).length) Slot.unset).toArray = ls at hl ⊢
  have hl : lv_has ls 2 [(0, .ref h0), (1, .int (nI wn))] := hl
  refine lv_aload_n hx hb dX12_waysOf_0 rfl (lv_at hl 0 rfl) ?_
  refine va_get (D := (dC, dI)) (ci := 12) (v := .ref (a 61)) (C := RX12) (T := TX12) (N := 163) (fs := fM (vS a vi vj)) hx hb hts iwsRX12_waysOf_in12 hown hK hP 0 rfl rfl 101 (by decide) (hts _ hm_r_X12_waysOf_0) (fun _ h9 => h9) rfl dX12_waysOf_1 ?_
  refine lv_iload_n hx hb dX12_waysOf_4 rfl (lv_at hl 1 rfl) ?_
  refine va_iald (cA := k 61) (n := 39) (f := (vF 61)) hx hb hK hP 62 61 (WR_get 61 (by decide)) (TR_get 61 (by decide)) (vp_in_nI (show wn < 39 by omega) (by omega)) dX12_waysOf_5 ?_
  refine lv_topi (fun y1 hy1 => ?_)
  obtain rfl : ((vF 61) wn) = y1 := (hy1.trans (by rw [nI_clamp (by omega)])).symm
  refine lv_iconst (v := 1) hx hb dX12_waysOf_6 (by decide) ?_
  refine lv_icmp_eq (tgt := 16) hx hb dX12_waysOf_7 (by decide) (fun c_7 => ?_) (fun c_7 => ?_)
  · have t_7 : (((vF 61) wn)).toInt = 1 := toI_eq c_7 rfl (by decide)
    refine lv_aload_n hx hb dX12_waysOf_16 rfl (lv_at hl 0 rfl) ?_
    refine va_get (D := (dC, dI)) (ci := 12) (v := .ref (a 61)) (C := RX12) (T := TX12) (N := 163) (fs := fM (vS a vi vj)) hx hb hts iwsRX12_waysOf_in12 hown hK hP 0 rfl rfl 101 (by decide) (hts _ hm_r_X12_waysOf_0) (fun _ h9 => h9) rfl dX12_waysOf_17 ?_
    refine lv_iload_n hx hb dX12_waysOf_20 rfl (lv_at hl 1 rfl) ?_
    refine va_iald (cA := k 61) (n := 39) (f := (vF 61)) hx hb hK hP 62 61 (WR_get 61 (by decide)) (TR_get 61 (by decide)) (vp_in_nI (show wn < 39 by omega) (by omega)) dX12_waysOf_21 ?_
    refine lv_topi (fun y2 hy2 => ?_)
    obtain rfl : ((vF 61) wn) = y2 := (hy2.trans (by rw [nI_clamp (by omega)])).symm
    refine lv_if_eq (tgt := 31) hx hb dX12_waysOf_22 (by decide) (fun c_22 => ?_) (fun c_22 => ?_)
    · have t_22 : (((vF 61) wn)).toInt = 0 := toI_eq c_22 rfl (by decide)
      refine W.widen (k := 0) (n := 0) (by decide +kernel) (by decide +kernel) ?_
      have e9 : fT vi 6 (nI (R + 0)) = vi := by funext q9; by_cases h9_6 : q9 = 6; (subst h9_6; exact (fT_eq _ _ _).trans (Eq.trans (by first | with_reducible rfl | with_reducible assumption | (symm; with_reducible assumption) | rfl | assumption | (symm; assumption) | (subst_vars; rfl)) (Eq.refl _).symm)); exact (fT_ne _ _ h9_6).trans (Eq.refl _).symm
      have hP := wr_Pi e9 hP
      have hD := wr_Di e9 hD
      clear e9
      have e9 : fT (fT vF 0 (vF 0)) 5 (vF 5) = vF := (fT_id _ _ (fT_ne _ _ (Nat.ne_of_beq_eq_false rfl))).trans (fT_id _ _ (rfl))
      have hP := wr_PF e9 hP
      have hD := wr_DF e9 hD
      clear e9
      exact W.vret hx hb hr (fun t9_ ht hW => ⟨⟨((vF 0), (vF 5), mg, 0), rfl, by (try dsimp only); exact ⟨hBg, hBl, by omega, fun q hq => by skip <;> rfl⟩, by rw [ht]; exact hP, hD⟩, hS.F ht⟩) hS.2.2 dX12_waysOf_31
    · have t_22 : ¬ (((vF 61) wn)).toInt = 0 := toI_neq c_22 rfl (by decide)
      refine lv_aload_n hx hb dX12_waysOf_25 rfl (lv_at hl 0 rfl) ?_
      refine lv_iload_n hx hb dX12_waysOf_26 rfl (lv_at hl 1 rfl) ?_
      refine lv_iconst (v := (-1)) hx hb dX12_waysOf_27 (by decide) ?_
      have hFc := allFree hD hS hA
      refine va_callv (va_runV (As := [.int (nI wn), .int (-1)]) (rest := []) ⟨hx, hb, hml, hown, hts⟩ (r_X12_wayRow l dC dI a k h0 vi vj vF vG wn (-1) (-1) C R gq mg hBg (by first | with_reducible assumption | decide | omega | rfl | assumption) (hR) (by first | with_reducible assumption | decide | omega | rfl | assumption) (by first | with_reducible assumption | decide | omega | rfl | assumption) (by first | with_reducible assumption | decide | omega | rfl | assumption) (by first | with_reducible assumption | decide | omega | rfl | assumption) (hBl) (hM) (by first | with_reducible assumption | decide | omega | rfl | assumption) (by decide) (Or.inr rfl) s.heap.size) (cwV 2 hts gwsRX12_waysOf_0 rfl rfl rfl hd_yX12_wayRow_RX12 (by decide +kernel)) (fz_pre (va_recv hK hP (ci := 12) (q0 := 0) rfl rfl) hP hK hD) rfl rfl hl.1 rfl (lv_room (Nat.le_of_ble_eq_true rfl)) dX12_waysOf_28 (by decide +kernel)) hS (fun q _ h => hFc q h) hFc (fun u t9_ H locs ht hvm hw9 hB9 hz1 hk1 hS => ?_)
      revert u hw9 hB9
      refine fz_p2 ?_
      intro g28 m228 hw9 hB9
      try dsimp only at hw9 hB9
      have hP : va_P (dC, dI) vwCl (WR a k h0 (fT vi 6 (nI (R + 1))) vj (fT (fT vF 0 g28) 5 (upd (vF 5) (nI R).toNatClampNeg (nI (C + R)))) vG) H := fz_P ht hB9.1
      have hD := fz_sd hP (hB9.2.weaken (fun _ q _ h => hFc q.1 h)) rfl
      revert hw9
      refine fz_a3 ?_
      intro f28_0 f28_1 f28_2
      have f28_1 : BldL C (R + 1) m228 (upd (vF 5) (nI R).toNatClampNeg (nI (C + R))) := f28_1
      refine W.widen (k := 0) (n := 0) (by decide +kernel) (by decide +kernel) ?_
      exact W.vret hx hb hr (fun t9_ ht hW => ⟨⟨(g28, (upd (vF 5) (nI R).toNatClampNeg (nI (C + R))), m228, 1), rfl, by (try dsimp only); exact ⟨f28_0, f28_1, by omega, fun q hq => by (rw [f28_2 _ (by omega)]) <;> rfl⟩, by rw [ht]; exact hP, hD⟩, hS.F ht⟩) hS.2.2 dX12_waysOf_31
  · have t_7 : ¬ (((vF 61) wn)).toInt = 1 := toI_neq c_7 rfl (by decide)
    refine lv_aload_n hx hb dX12_waysOf_10 rfl (lv_at hl 0 rfl) ?_
    refine lv_iload_n hx hb dX12_waysOf_11 rfl (lv_at hl 1 rfl) ?_
    refine lv_iconst (v := 1) hx hb dX12_waysOf_12 (by decide) ?_
    have hFc := allFree hD hS hA
    refine va_callv (va_runV (As := [.int (nI wn), .int 1]) (rest := []) ⟨hx, hb, hml, hown, hts⟩ (r_X12_wayRow l dC dI a k h0 vi vj vF vG wn 1 1 C R gq mg hBg (by first | with_reducible assumption | decide | omega | rfl | assumption) (by first | with_reducible assumption | decide | omega | rfl | assumption) (by first | with_reducible assumption | decide | omega | rfl | assumption) (by first | with_reducible assumption | decide | omega | rfl | assumption) (by first | with_reducible assumption | decide | omega | rfl | assumption) (by first | with_reducible assumption | decide | omega | rfl | assumption) (by first | with_reducible assumption | decide | omega | rfl | assumption) (by first | with_reducible assumption | decide | omega | rfl | assumption) (by first | with_reducible assumption | decide | omega | rfl | assumption) (by decide) (Or.inl rfl) s.heap.size) (cwV 2 hts gwsRX12_waysOf_0 rfl rfl rfl hd_yX12_wayRow_RX12 (by decide +kernel)) (fz_pre (va_recv hK hP (ci := 12) (q0 := 0) rfl rfl) hP hK hD) rfl rfl hl.1 rfl (lv_room (Nat.le_of_ble_eq_true rfl)) dX12_waysOf_13 (by decide +kernel)) hS (fun q _ h => hFc q h) hFc (fun u t9_ H locs ht hvm hw9 hB9 hz1 hk1 hS => ?_)
    revert u hw9 hB9
    refine fz_p2 ?_
    intro g13 m213 hw9 hB9
    try dsimp only at hw9 hB9
    have hP : va_P (dC, dI) vwCl (WR a k h0 (fT vi 6 (nI (R + 1))) vj (fT (fT vF 0 g13) 5 (upd (vF 5) (nI R).toNatClampNeg (nI (C + R)))) vG) H := fz_P ht hB9.1
    have hD := fz_sd hP (hB9.2.weaken (fun _ q _ h => hFc q.1 h)) rfl
    revert hw9
    refine fz_a3 ?_
    intro f13_0 f13_1 f13_2
    have f13_1 : BldL C (R + 1) m213 (upd (vF 5) (nI R).toNatClampNeg (nI (C + R))) := f13_1
    refine lv_aload_n hx hb dX12_waysOf_16 rfl (lv_at hl 0 rfl) ?_
    refine va_get (D := (dC, dI)) (ci := 12) (v := .ref (a 61)) (C := RX12) (T := TX12) (N := 163) (fs := fM (vS a (fT vi 6 (nI (R + 1))) vj)) hx hb hts iwsRX12_waysOf_in12 hown hK hP 0 rfl rfl 101 (by decide) (hts _ hm_r_X12_waysOf_0) (fun _ h9 => h9) rfl dX12_waysOf_17 ?_
    refine lv_iload_n hx hb dX12_waysOf_20 rfl (lv_at hl 1 rfl) ?_
    refine va_iald (cA := k 61) (n := 39) (f := (vF 61)) hx hb hK hP 62 61 (WR_get 61 (by decide)) (TR_get 61 (by decide)) (vp_in_nI (show wn < 39 by omega) (by omega)) dX12_waysOf_21 ?_
    refine lv_topi (fun y3 hy3 => ?_)
    obtain rfl : ((vF 61) wn) = y3 := (hy3.trans (by rw [nI_clamp (by omega)])).symm
    refine lv_if_eq (tgt := 31) hx hb dX12_waysOf_22 (by decide) (fun c_22 => ?_) (fun c_22 => ?_)
    · have t_22 : (((vF 61) wn)).toInt = 0 := toI_eq c_22 rfl (by decide)
      refine W.widen (k := 0) (n := 0) (by decide +kernel) (by decide +kernel) ?_
      exact W.vret hx hb hr (fun t9_ ht hW => ⟨⟨(g13, (upd (vF 5) (nI R).toNatClampNeg (nI (C + R))), m213, 1), rfl, by (try dsimp only); exact ⟨f13_0, f13_1, by omega, fun q hq => by (rw [f13_2 _ (by omega)]) <;> rfl⟩, by rw [ht]; exact hP, hD⟩, hS.F ht⟩) hS.2.2 dX12_waysOf_31
    · have t_22 : ¬ (((vF 61) wn)).toInt = 0 := toI_neq c_22 rfl (by decide)
      refine lv_aload_n hx hb dX12_waysOf_25 rfl (lv_at hl 0 rfl) ?_
      refine lv_iload_n hx hb dX12_waysOf_26 rfl (lv_at hl 1 rfl) ?_
      refine lv_iconst (v := (-1)) hx hb dX12_waysOf_27 (by decide) ?_
      have hFc := allFree hD hS hA
      refine va_callv (va_runV (As := [.int (nI wn), .int (-1)]) (rest := []) ⟨hx, hb, hml, hown, hts⟩ (r_X12_wayRow l dC dI a k h0 (fT vi 6 (nI (R + 1))) vj (fT (fT vF 0 g13) 5 (upd (vF 5) (nI R).toNatClampNeg (nI (C + R)))) vG wn (-1) (-1) C (R + 1) gq m213 f13_0 (by first | with_reducible assumption | decide | omega | rfl | assumption) (rfl) (by first | with_reducible assumption | decide | omega | rfl | assumption) (by first | with_reducible assumption | decide | omega | rfl | assumption) (by first | with_reducible assumption | decide | omega | rfl | assumption) (by first | with_reducible assumption | decide | omega | rfl | assumption) (f13_1) (hM) (by first | with_reducible assumption | decide | omega | rfl | assumption) (by decide) (Or.inr rfl) H.size) (cwV 2 hts gwsRX12_waysOf_0 rfl rfl rfl hd_yX12_wayRow_RX12 (by decide +kernel)) (fz_pre (va_recv hK hP (ci := 12) (q0 := 0) rfl rfl) hP hK hD) rfl rfl hl.1 rfl (lv_room (Nat.le_of_ble_eq_true rfl)) dX12_waysOf_28 (by decide +kernel)) hS (fun q _ h => hFc q h) hFc (fun u t9_ H locs ht hvm hw9 hB9 hz1 hk1 hS => ?_)
      revert u hw9 hB9
      refine fz_p2 ?_
      intro g28_1 m228_1 hw9 hB9
      try dsimp only at hw9 hB9
      have e9i : fT vi 6 (nI ((R + 1) + 1)) = fT (fT vi 6 (nI (R + 1))) 6 (nI ((R + 1) + 1)) := (fT_sm _ _ _ _).symm
      have e9F : fT (fT vF 0 g28_1) 5 (upd (upd (vF 5) (nI R).toNatClampNeg (nI (C + R))) (nI (R + 1)).toNatClampNeg (nI (C + (R + 1)))) = fT (fT (fT (fT vF 0 g13) 5 (upd (vF 5) (nI R).toNatClampNeg (nI (C + R)))) 0 g28_1) 5 (upd (upd (vF 5) (nI R).toNatClampNeg (nI (C + R))) (nI (R + 1)).toNatClampNeg (nI (C + (R + 1)))) := ((congrArg (fun g9 => fT g9 5 (upd (upd (vF 5) (nI R).toNatClampNeg (nI (C + R))) (nI (R + 1)).toNatClampNeg (nI (C + (R + 1))))) ((fT_sw _ _ _ (Nat.ne_of_beq_eq_false rfl)).trans (congrArg (fun g9 => fT g9 5 (upd (vF 5) (nI R).toNatClampNeg (nI (C + R)))) (fT_sm _ _ _ _)))).trans (fT_sm _ _ _ _)).symm
      have hP := wr_PF e9F (wr_Pi e9i (fz_P ht hB9.1))
      have hD := wr_DF e9F (wr_Di e9i (hB9.2.weaken (fun _ q _ h => hFc q.1 h)))
      clear e9i e9F
      revert hw9
      refine fz_a3 ?_
      intro f28_1_0 f28_1_1 f28_1_2
      have f28_1_1 : BldL C ((R + 1) + 1) m228_1 (upd (upd (vF 5) (nI R).toNatClampNeg (nI (C + R))) (nI (R + 1)).toNatClampNeg (nI (C + (R + 1)))) := f28_1_1
      refine W.widen (k := 0) (n := 0) (by decide +kernel) (by decide +kernel) ?_
      have e9 : fT vi 6 (nI (R + 2)) = fT vi 6 (nI ((R + 1) + 1)) := by funext q9; by_cases h9_6 : q9 = 6; (subst h9_6; exact (fT_eq _ _ _).trans (Eq.trans (by first | with_reducible rfl | with_reducible assumption | (symm; with_reducible assumption) | rfl | assumption | (symm; assumption) | (subst_vars; rfl)) (fT_eq _ _ _).symm)); exact (fT_ne _ _ h9_6).trans (fT_ne _ _ h9_6).symm
      have hP := wr_Pi e9 hP
      have hD := wr_Di e9 hD
      clear e9
      exact W.vret hx hb hr (fun t9_ ht hW => ⟨⟨(g28_1, (upd (upd (vF 5) (nI R).toNatClampNeg (nI (C + R))) (nI (R + 1)).toNatClampNeg (nI (C + (R + 1)))), m228_1, 2), rfl, by (try dsimp only); exact ⟨f28_1_0, f28_1_1, by omega, fun q hq => by (rw [f28_1_2 _ (by omega), f13_2 _ (by omega)]) <;> rfl⟩, by rw [ht]; exact hP, hD⟩, hS.F ht⟩) hS.2.2 dX12_waysOf_31
end
section
theorem MdlB.under {F : Nat → Nat → Int32} {gq : Nat} (h : MdlB F gq) {g k : Nat} (hg : g < gq) (hk : k < 9) : 1 ≤ (F 64 (9 * g + k)).toInt ∧ (F 64 (9 * g + k)).toInt.natAbs ≤ (if k = 0 then 9999 else 99) := by
  by_cases e : k = 0
  · subst e; rw [if_pos rfl]; have := (h.2.2.2.2.1 g hg).2; rw [Nat.add_zero]; omega
  · rw [if_neg e]
    have := (h.2.2.2.2.2.1 g (k - 1) hg (by omega)).2
    rw [show 9 * g + 1 + (k - 1) = 9 * g + k by omega] at this; omega
theorem MdlB.top {F : Nat → Nat → Int32} {gq : Nat} (h : MdlB F gq) {g k : Nat} (hg : g < gq) (hk : k < 9) : (F 63 (9 * g + k)).toInt.natAbs ≤ (if k = 0 then 9999 else 99) := by
  by_cases e : k = 0
  · subst e; rw [if_pos rfl]; have := (h.2.2.2.2.1 g hg).1; rw [Nat.add_zero]; omega
  · rw [if_neg e]
    have := (h.2.2.2.2.2.1 g (k - 1) hg (by omega)).1
    rw [show 9 * g + 1 + (k - 1) = 9 * g + k by omega] at this; omega
theorem sc_big {x u : Nat} (hx : x < 2 ^ 67) (hu : u ≤ 9999) : x * u < 2 ^ 588 := by
  have h1 : x * u ≤ 2 ^ 67 * 2 ^ 14 := Nat.mul_le_mul (by omega) (by omega)
  have h2 : (2 : Nat) ^ 67 * 2 ^ 14 < 2 ^ 588 := by rw [← Nat.pow_add]; exact Nat.pow_lt_pow_right (by decide) (by decide)
  omega
/-- a number by its figures, the first of them the greatest -/
def odo (f b : Nat → Nat) : Nat → Nat
  | 0 => 0
  | n + 1 => odo f b n * b n + f n
def odoP (b : Nat → Nat) : Nat → Nat
  | 0 => 1
  | n + 1 => odoP b n * b n
theorem odo_lt {f b : Nat → Nat} : ∀ n, (∀ q, q < n → f q < b q) → odo f b n < odoP b n := by
  intro n
  induction n with
  | zero => intro _; show 0 < 1; omega
  | succ n ih =>
    intro h
    have h1 := ih (fun q hq => h q (by omega))
    have h2 := h n (by omega)
    simp only [odo, odoP]
    have h3 : (odo f b n + 1) * b n ≤ odoP b n * b n := Nat.mul_le_mul_right _ h1
    rw [Nat.add_mul, Nat.one_mul] at h3; omega
/-- one figure grows, those behind it begin anew -/
theorem odo_up {f g b : Nat → Nat} {r : Nat} (h1 : ∀ q, q < r → g q = f q) (h2 : f r < g r) : ∀ n, r < n → (∀ q, r < q → q < n → f q < b q) → odo f b n < odo g b n := by
  have hpre : ∀ n, n ≤ r → odo g b n = odo f b n := by
    intro n
    induction n with
    | zero => intro _; rfl
    | succ n ih => intro h; simp only [odo]; rw [ih (by omega), h1 n (by omega)]
  intro n
  induction n with
  | zero => intro h; omega
  | succ n ih =>
    intro hn hd
    simp only [odo]
    by_cases e : n = r
    · subst e; rw [hpre n (Nat.le_refl _)]; omega
    · have h3 := ih (by omega) (fun q hq1 hq2 => hd q hq1 (by omega))
      have h4 := hd n (by omega) (by omega)
      have h5 : (odo f b n + 1) * b n ≤ odo g b n * b n := Nat.mul_le_mul_right _ h3
      rw [Nat.add_mul, Nat.one_mul] at h5; omega
end
section
theorem dX12_scaleOf_0 : decode cX12_scaleOf 0 = .ok (.aload_n 0, 1) := dk_42 (by decide +kernel)
theorem dX12_scaleOf_1 : decode cX12_scaleOf 1 = .ok (.bipush 19, 2) := dk_16 (by decide +kernel)
theorem dX12_scaleOf_3 : decode cX12_scaleOf 3 = .ok (.lconst 1, 1) := dk_10 (by decide +kernel)
theorem dX12_scaleOf_4 : decode cX12_scaleOf 4 = .ok (.invokevirtual 369, 3) := dk_182 (by decide +kernel)
theorem dX12_scaleOf_7 : decode cX12_scaleOf 7 = .ok (.iconst 0, 1) := dk_3 (by decide +kernel)
theorem dX12_scaleOf_8 : decode cX12_scaleOf 8 = .ok (.istore_n 2, 1) := dk_61 (by decide +kernel)
theorem dX12_scaleOf_9 : decode cX12_scaleOf 9 = .ok (.iload_n 2, 1) := dk_28 (by decide +kernel)
theorem dX12_scaleOf_10 : decode cX12_scaleOf 10 = .ok (.bipush 9, 2) := dk_16 (by decide +kernel)
theorem dX12_scaleOf_12 : decode cX12_scaleOf 12 = .ok (.if_icmp .ge 67, 3) := dk_162 (by decide +kernel)
theorem dX12_scaleOf_15 : decode cX12_scaleOf 15 = .ok (.aload_n 0, 1) := dk_42 (by decide +kernel)
theorem dX12_scaleOf_16 : decode cX12_scaleOf 16 = .ok (.bipush 11, 2) := dk_16 (by decide +kernel)
theorem dX12_scaleOf_18 : decode cX12_scaleOf 18 = .ok (.aload_n 0, 1) := dk_42 (by decide +kernel)
theorem dX12_scaleOf_19 : decode cX12_scaleOf 19 = .ok (.getfield 215, 3) := dk_180 (by decide +kernel)
theorem dX12_scaleOf_22 : decode cX12_scaleOf 22 = .ok (.bipush 9, 2) := dk_16 (by decide +kernel)
theorem dX12_scaleOf_24 : decode cX12_scaleOf 24 = .ok (.iload_n 1, 1) := dk_27 (by decide +kernel)
theorem dX12_scaleOf_25 : decode cX12_scaleOf 25 = .ok (.imul, 1) := dk_104 (by decide +kernel)
theorem dX12_scaleOf_26 : decode cX12_scaleOf 26 = .ok (.iload_n 2, 1) := dk_28 (by decide +kernel)
theorem dX12_scaleOf_27 : decode cX12_scaleOf 27 = .ok (.iadd, 1) := dk_96 (by decide +kernel)
theorem dX12_scaleOf_28 : decode cX12_scaleOf 28 = .ok (.iaload, 1) := dk_46 (by decide +kernel)
theorem dX12_scaleOf_29 : decode cX12_scaleOf 29 = .ok (.i2l, 1) := dk_133 (by decide +kernel)
theorem dX12_scaleOf_30 : decode cX12_scaleOf 30 = .ok (.invokevirtual 369, 3) := dk_182 (by decide +kernel)
theorem dX12_scaleOf_33 : decode cX12_scaleOf 33 = .ok (.aload_n 0, 1) := dk_42 (by decide +kernel)
theorem dX12_scaleOf_34 : decode cX12_scaleOf 34 = .ok (.bipush 12, 2) := dk_16 (by decide +kernel)
theorem dX12_scaleOf_36 : decode cX12_scaleOf 36 = .ok (.bipush 19, 2) := dk_16 (by decide +kernel)
theorem dX12_scaleOf_38 : decode cX12_scaleOf 38 = .ok (.bipush 11, 2) := dk_16 (by decide +kernel)
theorem dX12_scaleOf_40 : decode cX12_scaleOf 40 = .ok (.invokevirtual 387, 3) := dk_182 (by decide +kernel)
theorem dX12_scaleOf_43 : decode cX12_scaleOf 43 = .ok (.aload_n 0, 1) := dk_42 (by decide +kernel)
theorem dX12_scaleOf_44 : decode cX12_scaleOf 44 = .ok (.bipush 13, 2) := dk_16 (by decide +kernel)
theorem dX12_scaleOf_46 : decode cX12_scaleOf 46 = .ok (.bipush 14, 2) := dk_16 (by decide +kernel)
theorem dX12_scaleOf_48 : decode cX12_scaleOf 48 = .ok (.bipush 11, 2) := dk_16 (by decide +kernel)
theorem dX12_scaleOf_50 : decode cX12_scaleOf 50 = .ok (.bipush 12, 2) := dk_16 (by decide +kernel)
theorem dX12_scaleOf_52 : decode cX12_scaleOf 52 = .ok (.invokevirtual 383, 3) := dk_182 (by decide +kernel)
theorem dX12_scaleOf_55 : decode cX12_scaleOf 55 = .ok (.aload_n 0, 1) := dk_42 (by decide +kernel)
theorem dX12_scaleOf_56 : decode cX12_scaleOf 56 = .ok (.bipush 15, 2) := dk_16 (by decide +kernel)
theorem dX12_scaleOf_58 : decode cX12_scaleOf 58 = .ok (.bipush 19, 2) := dk_16 (by decide +kernel)
theorem dX12_scaleOf_60 : decode cX12_scaleOf 60 = .ok (.bipush 13, 2) := dk_16 (by decide +kernel)
theorem dX12_scaleOf_62 : decode cX12_scaleOf 62 = .ok (.invokevirtual 390, 3) := dk_182 (by decide +kernel)
theorem dX12_scaleOf_65 : decode cX12_scaleOf 65 = .ok (.aload_n 0, 1) := dk_42 (by decide +kernel)
theorem dX12_scaleOf_66 : decode cX12_scaleOf 66 = .ok (.bipush 19, 2) := dk_16 (by decide +kernel)
theorem dX12_scaleOf_68 : decode cX12_scaleOf 68 = .ok (.bipush 15, 2) := dk_16 (by decide +kernel)
theorem dX12_scaleOf_70 : decode cX12_scaleOf 70 = .ok (.invokevirtual 365, 3) := dk_182 (by decide +kernel)
theorem dX12_scaleOf_73 : decode cX12_scaleOf 73 = .ok (.iinc 2 1, 3) := dk_132 (by decide +kernel)
theorem dX12_scaleOf_76 : decode cX12_scaleOf 76 = .ok (.goto (-67), 3) := dk_167 (by decide +kernel)
theorem dX12_scaleOf_79 : decode cX12_scaleOf 79 = .ok (.return_, 1) := dk_177 (by decide +kernel)
def wsRX12_scaleOf : List Cond := .code yX12_scaleOf cX12_scaleOf 3 none :: ([.fieldLink RX12 215 "OptimaWorksModel" "goalUnder" "[I"] ++ wsX120 ++ (wsV RX12 369 RX12 yX12_put wsRX12_put) ++ (wsV RX12 387 RX12 yX12_common wsRX12_common) ++ (wsV RX12 383 RX12 yX12_divide wsRX12_divide) ++ (wsV RX12 390 RX12 yX12_times wsRX12_times) ++ (wsV RX12 365 RX12 yX12_copy wsRX12_copy))
theorem iwsRX12_scaleOf_in12 : ∀ w ∈ wsX120, w ∈ wsRX12_scaleOf := fun _ h => List.mem_cons_of_mem _ (List.mem_append_left _ (List.mem_append_left _ (List.mem_append_left _ (List.mem_append_left _ (List.mem_append_left _ (List.mem_append_right _ h))))))
theorem gwsRX12_scaleOf_0 : GoodIn wsRX12_scaleOf (wsV RX12 369 RX12 yX12_put wsRX12_put) := goodIn_sub (fun _ h => List.mem_cons_of_mem _ (List.mem_append_left _ (List.mem_append_left _ (List.mem_append_left _ (List.mem_append_left _ (List.mem_append_right _ h)))))) (gdV (by decide +kernel) gdwsRX12_put)
theorem gwsRX12_scaleOf_1 : GoodIn wsRX12_scaleOf (wsV RX12 387 RX12 yX12_common wsRX12_common) := goodIn_sub (fun _ h => List.mem_cons_of_mem _ (List.mem_append_left _ (List.mem_append_left _ (List.mem_append_left _ (List.mem_append_right _ h))))) (gdV (by decide +kernel) gdwsRX12_common)
theorem gwsRX12_scaleOf_2 : GoodIn wsRX12_scaleOf (wsV RX12 383 RX12 yX12_divide wsRX12_divide) := goodIn_sub (fun _ h => List.mem_cons_of_mem _ (List.mem_append_left _ (List.mem_append_left _ (List.mem_append_right _ h)))) (gdV (by decide +kernel) gdwsRX12_divide)
theorem gwsRX12_scaleOf_3 : GoodIn wsRX12_scaleOf (wsV RX12 390 RX12 yX12_times wsRX12_times) := goodIn_sub (fun _ h => List.mem_cons_of_mem _ (List.mem_append_left _ (List.mem_append_right _ h))) (gdV (by decide +kernel) gdwsRX12_times)
theorem gwsRX12_scaleOf_4 : GoodIn wsRX12_scaleOf (wsV RX12 365 RX12 yX12_copy wsRX12_copy) := goodIn_sub (fun _ h => List.mem_cons_of_mem _ (List.mem_append_right _ h)) (gdV (by decide +kernel) gdwsRX12_copy)
theorem gdwsRX12_scaleOf : wsRX12_scaleOf.all goodWord = true := gdC rfl (gdA (gdA (gdA (gdA (gdA (gdA (by decide +kernel : ([.fieldLink RX12 215 "OptimaWorksModel" "goalUnder" "[I"] : List Cond).all goodWord = true) gdwsX120) (gdV (by decide +kernel) gdwsRX12_put)) (gdV (by decide +kernel) gdwsRX12_common)) (gdV (by decide +kernel) gdwsRX12_divide)) (gdV (by decide +kernel) gdwsRX12_times)) (gdV (by decide +kernel) gdwsRX12_copy))
set_option maxHeartbeats 4000000 in
set_option maxRecDepth 100000 in
/-- scaleOf(g) -/
theorem r_X12_scaleOf (l : Launch) (dC : Nat → ClassId) (dI : Nat → Nat → Nat) (a : Nat → Nat) (k : Nat → ClassId) (h0 : Nat) (vi : Nat → Int32) (vj : Nat → Int64) (vF : Nat → Nat → Int32) (vG : Nat → Nat → Int64) (gn : Nat) (gq : Nat) (mg : Nat → Int) (hBg : Bg (vF 0) mg) (hgn : gn < gq) (hgq : gq ≤ 3) (hM : MdlB vF gq) (sz : Nat) : Met l yX12_scaleOf wsRX12_scaleOf ({ frames := 3, cells := 0, slots := 0, locals := 85 }) (va_Pc [.ref h0, .int (nI gn)] (fun U => U.heap.size = sz ∧ va_P (dC, dI) vwCl (WR a k h0 vi vj vF vG) U.heap ∧ va_K (dC, dI) vwCl (tX12 k) U ∧ va_D (fun _ => True) (WR a k h0 vi vj vF vG))) (va_Qv (fun (u : (Nat → Int32) × (Nat → Int32) × (Nat → Int32) × (Nat → Int64) × (Nat → Int)) => (Bg (u.1) (u.2.2.2.2)) ∧ (0 < (u.2.2.2.2) 19) ∧ (((u.2.2.2.2) 19).natAbs < 2 ^ 67) ∧ (∀ q, (q < 5 ∨ 19 < q) → (u.2.2.2.2) q = mg q)) (fun (u : (Nat → Int32) × (Nat → Int32) × (Nat → Int32) × (Nat → Int64) × (Nat → Int)) t => va_P (dC, dI) vwCl (WR a k h0 vi vj (fT (fT (fT vF 0 (u.1)) 2 (u.2.1)) 3 (u.2.2.1)) (fT vG 1 (u.2.2.2.1))) t.heap ∧ va_D (va_A (WR a k h0 vi vj vF vG) sz) (WR a k h0 vi vj (fT (fT (fT vF 0 (u.1)) 2 (u.2.1)) 3 (u.2.2.1)) (fT vG 1 (u.2.2.2.1)))) (va_A (WR a k h0 vi vj vF vG) sz)) 0 0 (va_A (WR a k h0 vi vj vF vG) sz) := by
  refine Met.ofW (cc := cX12_scaleOf) (maxL := 3) (ret := none) (by decide) rfl ?_
  intro p e s m args below meth c s₁ B hml hv
  obtain ⟨rfl, hsz, hP, hK, hD0⟩ := hv
  have hx := B.exec
  have hb := B.bytes
  have hr := B.returns
  have hts := atoms_spec (ws := wsRX12_scaleOf) B.pre
  have hown : s.vm.findClass RX12 = some m.cls := findClass_of_methodNamed B.named
  have hlocks := B.notSynchronized
  subst hsz
  have hD := hD0.self (sz := s.heap.size)
  generalize hAe : va_A (WR a k h0 vi vj vF vG) s.heap.size = A at hD ⊢
  have hA : ∀ q : Nat, s.heap.size ≤ q → A q := fun q h => by rw [← hAe]; exact Or.inr h
  have hS : va_S A s.heap s.heap [] := va_S.rf
  have hl := lv_entry ([.ref h0, .int (nI gn)]) (n := 3) (Nat.le_of_ble_eq_true rfl)
  rw [lg_entry_eq]
  generalize (lg_sl ([.ref h0, .int (nI gn)]) ++ List.replicate (3 - (lg_sl ([.ref h0, .int (nI gn)])).length) Slot.unset).toArray = ls at hl ⊢
  have hl : lv_has ls 3 [(0, .ref h0), (1, .int (nI gn))] := hl
  refine lv_aload_n hx hb dX12_scaleOf_0 rfl (lv_at hl 0 rfl) ?_
  refine lv_bipush (v := 19) hx hb dX12_scaleOf_1 (by decide) ?_
  refine lv_lconst (v := 1) hx hb dX12_scaleOf_3 (by decide) ?_
  have hFc := allFree hD hS hA
  refine va_callv (va_runV (As := [.int 19, .long 1]) (rest := []) ⟨hx, hb, hml, hown, hts⟩ (b_X12_put l dC dI a k h0 vi vj vF vG 19 1 1 mg hBg (by first | with_reducible assumption | decide | omega | rfl | assumption) (by decide) (by first | with_reducible assumption | decide | omega | rfl | assumption) s.heap.size) (cwV 2 hts gwsRX12_scaleOf_0 rfl rfl rfl hd_yX12_put_RX12 (by decide +kernel)) (fz_pre (va_recv hK hP (ci := 12) (q0 := 0) rfl rfl) hP hK hD) rfl rfl hl.1 rfl (lv_room (Nat.le_of_ble_eq_true rfl)) dX12_scaleOf_4 (by decide +kernel)) hS (fun q _ h => hFc q h) hFc (fun g4 t9_ H locs ht hvm hw9 hB9 hz1 hk1 hS => ?_)
  have hP : va_P (dC, dI) vwCl (WR a k h0 vi vj (fT vF 0 g4) vG) H := fz_P ht hB9.1
  have hD := fz_sd hP (hB9.2.weaken (fun _ q _ h => hFc q.1 h)) rfl
  have f4_0 := hw9
  try dsimp only at f4_0
  refine lv_iconst (v := 0) hx hb dX12_scaleOf_7 (by decide) ?_
  refine lv_istore_n hx hb dX12_scaleOf_8 rfl hl (by decide) rfl (fun ls (hl : lv_has ls _ ([(2, .int 0), (0, .ref h0), (1, .int (nI gn))])) => ?_)
  have e9 : fT (fT (fT vF 0 g4) 2 (vF 2)) 3 (vF 3) = fT vF 0 g4 := Eq.trans (mv_1 rfl) (Eq.trans (id_2 rfl) (id_1 rfl))
  have hP := wr_PF e9 hP
  have hD := wr_DF e9 hD
  clear e9
  have e9 : fT vG 1 (vG 1) = vG := by funext q9; by_cases h9_1 : q9 = 1; (subst h9_1; exact (fT_eq _ _ _).trans (Eq.trans (by first | with_reducible rfl | with_reducible assumption | (symm; with_reducible assumption) | rfl | assumption | (symm; assumption) | (subst_vars; rfl)) (Eq.refl _).symm)); exact (fT_ne _ _ h9_1).trans (Eq.refl _).symm
  have hP := wr_PG e9 hP
  have hD := wr_DG e9 hD
  clear e9
  have hl : lv_has _ _ ([(0, .ref h0), (1, .int (nI gn)), (2, .int (nI 0))]) := lv_sub hl [1, 2, 0] rfl
  refine (fun (loop : ∀ (n9 : Nat) (k5 : Nat) (g1 : Nat → Int32) (f21 : Nat → Int32) (f31 : Nat → Int32) (gs1 : Nat → Int64) (m1 : Nat → Int) (x19 : Int) (H : Heap) (locs : List Loc) (ls : Array Slot), (Bg g1 m1) → (m1 19 = x19) → (k5 ≤ 9) → (0 < x19) → (x19.natAbs ≤ scB k5) → (∀ q, (q < 5 ∨ 19 < q) → m1 q = mg q) →  (9 < k5 + n9) → va_P (dC, dI) vwCl (WR a k h0 vi vj (fT (fT (fT vF 0 g1) 2 f21) 3 f31) (fT vG 1 gs1)) H → va_D A (WR a k h0 vi vj (fT (fT (fT vF 0 g1) 2 f21) 3 f31) (fT vG 1 gs1)) → va_S A s.heap H locs → lv_has ls 3 [(0, .ref h0), (1, .int (nI gn)), (2, .int (nI k5))] → W p l e _ s m _ below meth c H locs 0 0 _ (F0 m 9 ls [])) => loop (10) 0 g4 (vF 2) (vF 3) (vG 1) (fT mg 19 1) 1 _ _ _ (f4_0) ((by rw [fT_eq])) (by omega) (by decide) (by decide) (fun q hq => by (rw [fT_ne _ _ (by omega)])) (by omega) hP hD hS hl) ?_
  intro n9
  induction n9 with
  | zero => intro k5 g1 f21 f31 gs1 m1 x19 H locs ls hB1 v_x19 hk5 hx19p hx19b ho hf9; exact False.elim (by omega)
  | succ n9 ih9 =>
    intro k5 g1 f21 f31 gs1 m1 x19 H locs ls hB1 v_x19 hk5 hx19p hx19b ho hf9 hP hD hS hl
    refine lv_iload_n hx hb dX12_scaleOf_9 rfl (lv_at hl 2 rfl) ?_
    refine lv_bipush (v := 9) hx hb dX12_scaleOf_10 (by decide) ?_
    refine lv_icmp_ge (tgt := 79) hx hb dX12_scaleOf_12 (by decide) (fun c_12 => ?_) (fun c_12 => ?_)
    · have t_12 : ((k5 : Nat) : Int) ≥ 9 := toI_ge c_12 (nI_toInt (by omega)) (by decide)
      refine W.widen (k := 0) (n := 0) (by decide +kernel) (by decide +kernel) ?_
      exact W.vret hx hb hr (fun t9_ ht hW => ⟨⟨(g1, f21, f31, gs1, m1), rfl, by (try dsimp only); exact ⟨hB1, by rw [v_x19]; exact hx19p, by rw [v_x19]; exact Nat.lt_of_le_of_lt hx19b (scB_mono hk5), ho⟩, by rw [ht]; exact hP, hD⟩, hS.F ht⟩) hS.2.2 dX12_scaleOf_79
    · have t_12 : ¬ ((k5 : Nat) : Int) ≥ 9 := toI_nge c_12 (nI_toInt (by omega)) (by decide)
      have hu := hM.under hgn (show k5 < 9 by omega)
      have hgp := gcd_pos (x := x19) (y := (vF 64 (9 * gn + k5)).toInt) (by omega)
      have hgl := gcd_le (x := x19) (y := (vF 64 (9 * gn + k5)).toInt) (by omega)
      have hu9 : (vF 64 (9 * gn + k5)).toInt.natAbs ≤ 9999 := by (have h9 := hu.2); split at h9 <;> omega
      refine lv_aload_n hx hb dX12_scaleOf_15 rfl (lv_at hl 0 rfl) ?_
      refine lv_bipush (v := 11) hx hb dX12_scaleOf_16 (by decide) ?_
      refine lv_aload_n hx hb dX12_scaleOf_18 rfl (lv_at hl 0 rfl) ?_
      refine va_get (D := (dC, dI)) (ci := 12) (v := .ref (a 64)) (C := RX12) (T := TX12) (N := 163) (fs := fM (vS a vi vj)) hx hb hts iwsRX12_scaleOf_in12 hown hK hP 0 rfl rfl 104 (by decide) (hts (.fieldLink RX12 215 "OptimaWorksModel" "goalUnder" "[I") (by decide +kernel)) (fun _ h9 => h9) rfl dX12_scaleOf_19 ?_
      refine lv_bipush (v := 9) hx hb dX12_scaleOf_22 (by decide) ?_
      refine lv_iload_n hx hb dX12_scaleOf_24 rfl (lv_at hl 1 rfl) ?_
      refine lv_imul hx hb dX12_scaleOf_25 ?_
      refine lv_topi (fun y1 hy1 => ?_)
      obtain rfl : (nI (9 * gn)) = y1 := (hy1.trans (pk_mul 9 gn)).symm
      refine lv_iload_n hx hb dX12_scaleOf_26 rfl (lv_at hl 2 rfl) ?_
      refine lv_iadd hx hb dX12_scaleOf_27 ?_
      refine lv_topi (fun y2 hy2 => ?_)
      obtain rfl : (nI ((9 * gn) + k5)) = y2 := (hy2.trans (nI_add (9 * gn) k5)).symm
      refine va_iald (cA := k 64) (n := 27) (f := (vF 64)) hx hb hK hP 65 64 (WR_get 64 (by decide)) (TR_get 64 (by decide)) (vp_in_nI (show ((9 * gn) + k5) < 27 by omega) (by omega)) dX12_scaleOf_28 ?_
      refine lv_topi (fun y3 hy3 => ?_)
      obtain rfl : ((vF 64) ((9 * gn) + k5)) = y3 := (hy3.trans (by rw [nI_clamp (by omega)])).symm
      refine lv_i2l hx hb dX12_scaleOf_29 rfl ?_
      have hFc := allFree hD hS hA
      refine va_callv (va_runV (As := [.int 11, .long (((vF 64) ((9 * gn) + k5))).toInt64]) (rest := []) ⟨hx, hb, hml, hown, hts⟩ (b_X12_put l dC dI a k h0 vi vj (fT (fT (fT vF 0 g1) 2 f21) 3 f31) (fT vG 1 gs1) 11 ((((vF 64) ((9 * gn) + k5))).toInt64) ((vF 64 (9 * gn + k5)).toInt) m1 hB1 (by first | with_reducible assumption | decide | omega | rfl | assumption) (i64T _) (by omega) H.size) (cwV 2 hts gwsRX12_scaleOf_0 rfl rfl rfl hd_yX12_put_RX12 (by decide +kernel)) (fz_pre (va_recv hK hP (ci := 12) (q0 := 0) rfl rfl) hP hK hD) rfl rfl hl.1 rfl (lv_room (Nat.le_of_ble_eq_true rfl)) dX12_scaleOf_30 (by decide +kernel)) hS (fun q _ h => hFc q h) hFc (fun g30 t9_ H locs ht hvm hw9 hB9 hz1 hk1 hS => ?_)
      have e9F : fT (fT (fT vF 0 g30) 2 f21) 3 f31 = fT (fT (fT (fT vF 0 g1) 2 f21) 3 f31) 0 g30 := ((fT_sw _ _ _ (Nat.ne_of_beq_eq_false rfl)).trans (congrArg (fun g9 => fT g9 3 f31) ((fT_sw _ _ _ (Nat.ne_of_beq_eq_false rfl)).trans (congrArg (fun g9 => fT g9 2 f21) (fT_sm _ _ _ _))))).symm
      have hP := wr_PF e9F (fz_P ht hB9.1)
      have hD := wr_DF e9F (hB9.2.weaken (fun _ q _ h => hFc q.1 h))
      clear e9F
      have f30_0 := hw9
      try dsimp only at f30_0
      refine lv_aload_n hx hb dX12_scaleOf_33 rfl (lv_at hl 0 rfl) ?_
      refine lv_bipush (v := 12) hx hb dX12_scaleOf_34 (by decide) ?_
      refine lv_bipush (v := 19) hx hb dX12_scaleOf_36 (by decide) ?_
      refine lv_bipush (v := 11) hx hb dX12_scaleOf_38 (by decide) ?_
      have hFc := allFree hD hS hA
      refine va_callv (va_runV (As := [.int 12, .int 19, .int 11]) (rest := []) ⟨hx, hb, hml, hown, hts⟩ (r_X12_common l dC dI a k h0 vi vj (fT (fT (fT vF 0 g30) 2 f21) 3 f31) (fT vG 1 gs1) 12 19 11 (fT m1 11 ((vF 64 (9 * gn + k5)).toInt)) f30_0 x19 ((vF 64 (9 * gn + k5)).toInt) (by rw [fT_ne _ _ (by omega), v_x19]) (by rw [fT_eq]) (by first | with_reducible assumption | decide | omega | rfl | assumption) (by first | with_reducible assumption | decide | omega | rfl | assumption) (by first | with_reducible assumption | decide | omega | rfl | assumption) (by first | with_reducible assumption | decide | omega | rfl | assumption) (by first | with_reducible assumption | decide | omega | rfl | assumption) (by first | with_reducible assumption | decide | omega | rfl | assumption) H.size) (cwV 3 hts gwsRX12_scaleOf_1 rfl rfl rfl hd_yX12_common_RX12 (by decide +kernel)) (fz_pre (va_recv hK hP (ci := 12) (q0 := 0) rfl rfl) hP hK hD) rfl rfl hl.1 rfl (lv_room (Nat.le_of_ble_eq_true rfl)) dX12_scaleOf_40 (by decide +kernel)) hS (fun q _ h => hFc q h) hFc (fun u t9_ H locs ht hvm hw9 hB9 hz1 hk1 hS => ?_)
      revert u hw9 hB9
      refine fz_p5 ?_
      intro g40 f2w40 f3w40 gs40 m240 hw9 hB9
      try dsimp only at hw9 hB9
      have e9F : fT (fT (fT vF 0 g40) 2 f2w40) 3 f3w40 = fT (fT (fT (fT (fT (fT vF 0 g30) 2 f21) 3 f31) 0 g40) 2 f2w40) 3 f3w40 := ((congrArg (fun g9 => fT (fT g9 2 f2w40) 3 f3w40) ((fT_sw _ _ _ (Nat.ne_of_beq_eq_false rfl)).trans (congrArg (fun g9 => fT g9 3 f31) ((fT_sw _ _ _ (Nat.ne_of_beq_eq_false rfl)).trans (congrArg (fun g9 => fT g9 2 f21) (fT_sm _ _ _ _)))))).trans ((congrArg (fun g9 => fT g9 3 f3w40) ((fT_sw _ _ _ (Nat.ne_of_beq_eq_false rfl)).trans (congrArg (fun g9 => fT g9 3 f31) (fT_sm _ _ _ _)))).trans (fT_sm _ _ _ _))).symm
      have e9G : fT vG 1 gs40 = fT (fT vG 1 gs1) 1 gs40 := (fT_sm _ _ _ _).symm
      have hP := wr_PG e9G (wr_PF e9F (fz_P ht hB9.1))
      have hD := wr_DG e9G (wr_DF e9F (hB9.2.weaken (fun _ q _ h => hFc q.1 h)))
      clear e9F e9G
      revert hw9
      refine fz_a3 ?_
      intro f40_0 f40_1 f40_2
      refine lv_aload_n hx hb dX12_scaleOf_43 rfl (lv_at hl 0 rfl) ?_
      refine lv_bipush (v := 13) hx hb dX12_scaleOf_44 (by decide) ?_
      refine lv_bipush (v := 14) hx hb dX12_scaleOf_46 (by decide) ?_
      refine lv_bipush (v := 11) hx hb dX12_scaleOf_48 (by decide) ?_
      refine lv_bipush (v := 12) hx hb dX12_scaleOf_50 (by decide) ?_
      have hFc := allFree hD hS hA
      refine va_callv (va_runV (As := [.int 13, .int 14, .int 11, .int 12]) (rest := []) ⟨hx, hb, hml, hown, hts⟩ (b_X12_divide l dC dI a k h0 vi vj (fT (fT (fT vF 0 g40) 2 f2w40) 3 f3w40) (fT vG 1 gs40) 13 14 11 12 m240 f40_0 ((vF 64 (9 * gn + k5)).toInt) ((Int.gcd x19 ((vF 64 (9 * gn + k5)).toInt) : Nat) : Int) (by rw [f40_2 _ (by omega) (by omega), fT_eq]) (by rw [f40_1]) (by first | with_reducible assumption | decide | omega | rfl | assumption) (by first | with_reducible assumption | decide | omega | rfl | assumption) (by first | with_reducible assumption | decide | omega | rfl | assumption) (by first | with_reducible assumption | decide | omega | rfl | assumption) (by first | with_reducible assumption | decide | omega | rfl | assumption) (by first | with_reducible assumption | decide | omega | rfl | assumption) (by omega) H.size) (cwV 4 hts gwsRX12_scaleOf_2 rfl rfl rfl hd_yX12_divide_RX12 (by decide +kernel)) (fz_pre (va_recv hK hP (ci := 12) (q0 := 0) rfl rfl) hP hK hD) rfl rfl hl.1 rfl (lv_room (Nat.le_of_ble_eq_true rfl)) dX12_scaleOf_52 (by decide +kernel)) hS (fun q _ h => hFc q h) hFc (fun u t9_ H locs ht hvm hw9 hB9 hz1 hk1 hS => ?_)
      revert u hw9 hB9
      refine fz_p4 ?_
      intro g52 f2w52 f3w52 gs52 hw9 hB9
      try dsimp only at hw9 hB9
      have e9F : fT (fT (fT vF 0 g52) 2 f2w52) 3 f3w52 = fT (fT (fT (fT (fT (fT vF 0 g40) 2 f2w40) 3 f3w40) 2 f2w52) 3 f3w52) 0 g52 := ((congrArg (fun g9 => fT (fT g9 3 f3w52) 0 g52) ((fT_sw _ _ _ (Nat.ne_of_beq_eq_false rfl)).trans (congrArg (fun g9 => fT g9 3 f3w40) (fT_sm _ _ _ _)))).trans ((congrArg (fun g9 => fT g9 0 g52) (fT_sm _ _ _ _)).trans ((fT_sw _ _ _ (Nat.ne_of_beq_eq_false rfl)).trans (congrArg (fun g9 => fT g9 3 f3w52) ((fT_sw _ _ _ (Nat.ne_of_beq_eq_false rfl)).trans (congrArg (fun g9 => fT g9 2 f2w52) (fT_sm _ _ _ _))))))).symm
      have e9G : fT vG 1 gs52 = fT (fT vG 1 gs40) 1 gs52 := (fT_sm _ _ _ _).symm
      have hP := wr_PG e9G (wr_PF e9F (fz_P ht hB9.1))
      have hD := wr_DG e9G (wr_DF e9F (hB9.2.weaken (fun _ q _ h => hFc q.1 h)))
      clear e9F e9G
      have f52_0 := hw9
      try dsimp only at f52_0
      refine lv_aload_n hx hb dX12_scaleOf_55 rfl (lv_at hl 0 rfl) ?_
      refine lv_bipush (v := 15) hx hb dX12_scaleOf_56 (by decide) ?_
      refine lv_bipush (v := 19) hx hb dX12_scaleOf_58 (by decide) ?_
      refine lv_bipush (v := 13) hx hb dX12_scaleOf_60 (by decide) ?_
      have hFc := allFree hD hS hA
      refine va_callv (va_runV (As := [.int 15, .int 19, .int 13]) (rest := []) ⟨hx, hb, hml, hown, hts⟩ (b_X12_times l dC dI a k h0 vi vj (fT (fT (fT vF 0 g52) 2 f2w52) 3 f3w52) (fT vG 1 gs52) 15 19 13 (fT (fT m240 13 ((((vF 64 (9 * gn + k5)).toInt)).tdiv ((Int.gcd x19 ((vF 64 (9 * gn + k5)).toInt) : Nat) : Int))) 14 ((((vF 64 (9 * gn + k5)).toInt)).tmod ((Int.gcd x19 ((vF 64 (9 * gn + k5)).toInt) : Nat) : Int))) f52_0 x19 ((((vF 64 (9 * gn + k5)).toInt)).tdiv ((Int.gcd x19 ((vF 64 (9 * gn + k5)).toInt) : Nat) : Int)) (by rw [fT_ne _ _ (by omega), fT_ne _ _ (by omega), f40_2 _ (by omega) (by omega), fT_ne _ _ (by omega), v_x19]) (by rw [fT_ne _ _ (by omega), fT_eq]) (by first | with_reducible assumption | decide | omega | rfl | assumption) (by first | with_reducible assumption | decide | omega | rfl | assumption) (by first | with_reducible assumption | decide | omega | rfl | assumption) (sc_big (Nat.lt_of_le_of_lt hx19b (scB_mono (by omega))) (Nat.le_trans (sh_le _ _) hu9)) H.size) (cwV 3 hts gwsRX12_scaleOf_3 rfl rfl rfl hd_yX12_times_RX12 (by decide +kernel)) (fz_pre (va_recv hK hP (ci := 12) (q0 := 0) rfl rfl) hP hK hD) rfl rfl hl.1 rfl (lv_room (Nat.le_of_ble_eq_true rfl)) dX12_scaleOf_62 (by decide +kernel)) hS (fun q _ h => hFc q h) hFc (fun u t9_ H locs ht hvm hw9 hB9 hz1 hk1 hS => ?_)
      revert u hw9 hB9
      refine fz_p2 ?_
      intro g62 gs62 hw9 hB9
      try dsimp only at hw9 hB9
      have e9F : fT (fT (fT vF 0 g62) 2 f2w52) 3 f3w52 = fT (fT (fT (fT vF 0 g52) 2 f2w52) 3 f3w52) 0 g62 := ((fT_sw _ _ _ (Nat.ne_of_beq_eq_false rfl)).trans (congrArg (fun g9 => fT g9 3 f3w52) ((fT_sw _ _ _ (Nat.ne_of_beq_eq_false rfl)).trans (congrArg (fun g9 => fT g9 2 f2w52) (fT_sm _ _ _ _))))).symm
      have e9G : fT vG 1 gs62 = fT (fT vG 1 gs52) 1 gs62 := (fT_sm _ _ _ _).symm
      have hP := wr_PG e9G (wr_PF e9F (fz_P ht hB9.1))
      have hD := wr_DG e9G (wr_DF e9F (hB9.2.weaken (fun _ q _ h => hFc q.1 h)))
      clear e9F e9G
      have f62_0 := hw9
      try dsimp only at f62_0
      refine lv_aload_n hx hb dX12_scaleOf_65 rfl (lv_at hl 0 rfl) ?_
      refine lv_bipush (v := 19) hx hb dX12_scaleOf_66 (by decide) ?_
      refine lv_bipush (v := 15) hx hb dX12_scaleOf_68 (by decide) ?_
      have hFc := allFree hD hS hA
      refine va_callv (va_runV (As := [.int 19, .int 15]) (rest := []) ⟨hx, hb, hml, hown, hts⟩ (b_X12_copy l dC dI a k h0 vi vj (fT (fT (fT vF 0 g62) 2 f2w52) 3 f3w52) (fT vG 1 gs62) 19 15 (fT (fT (fT m240 13 ((((vF 64 (9 * gn + k5)).toInt)).tdiv ((Int.gcd x19 ((vF 64 (9 * gn + k5)).toInt) : Nat) : Int))) 14 ((((vF 64 (9 * gn + k5)).toInt)).tmod ((Int.gcd x19 ((vF 64 (9 * gn + k5)).toInt) : Nat) : Int))) 15 (x19 * ((((vF 64 (9 * gn + k5)).toInt)).tdiv ((Int.gcd x19 ((vF 64 (9 * gn + k5)).toInt) : Nat) : Int)))) f62_0 (x19 * ((((vF 64 (9 * gn + k5)).toInt)).tdiv ((Int.gcd x19 ((vF 64 (9 * gn + k5)).toInt) : Nat) : Int))) (by rw [fT_eq]) (by first | with_reducible assumption | decide | omega | rfl | assumption) (by first | with_reducible assumption | decide | omega | rfl | assumption) (by first | with_reducible assumption | decide | omega | rfl | assumption) H.size) (cwV 2 hts gwsRX12_scaleOf_4 rfl rfl rfl hd_yX12_copy_RX12 (by decide +kernel)) (fz_pre (va_recv hK hP (ci := 12) (q0 := 0) rfl rfl) hP hK hD) rfl rfl hl.1 rfl (lv_room (Nat.le_of_ble_eq_true rfl)) dX12_scaleOf_70 (by decide +kernel)) hS (fun q _ h => hFc q h) hFc (fun g70 t9_ H locs ht hvm hw9 hB9 hz1 hk1 hS => ?_)
      have e9F : fT (fT (fT vF 0 g70) 2 f2w52) 3 f3w52 = fT (fT (fT (fT vF 0 g62) 2 f2w52) 3 f3w52) 0 g70 := ((fT_sw _ _ _ (Nat.ne_of_beq_eq_false rfl)).trans (congrArg (fun g9 => fT g9 3 f3w52) ((fT_sw _ _ _ (Nat.ne_of_beq_eq_false rfl)).trans (congrArg (fun g9 => fT g9 2 f2w52) (fT_sm _ _ _ _))))).symm
      have hP := wr_PF e9F (fz_P ht hB9.1)
      have hD := wr_DF e9F (hB9.2.weaken (fun _ q _ h => hFc q.1 h))
      clear e9F
      have f70_0 := hw9
      try dsimp only at f70_0
      refine lv_iinc (v := (nI (k5 + 1))) hx hb dX12_scaleOf_73 hl (k := 2) rfl (nI_add k5 1) (by decide) rfl (fun ls (hl : lv_has ls _ ([(2, .int (nI (k5 + 1))), (0, .ref h0), (1, .int (nI gn))])) => ?_)
      refine lv_goto (tgt := 9) hx hb dX12_scaleOf_76 (by decide) ?_
      have hl : lv_has _ _ ([(0, .ref h0), (1, .int (nI gn)), (2, .int (nI (k5 + 1)))]) := lv_sub hl [1, 2, 0] rfl
      exact ih9 (k5 + 1) g70 f2w52 f3w52 gs62 (fT (fT (fT (fT m240 13 ((((vF 64 (9 * gn + k5)).toInt)).tdiv ((Int.gcd x19 ((vF 64 (9 * gn + k5)).toInt) : Nat) : Int))) 14 ((((vF 64 (9 * gn + k5)).toInt)).tmod ((Int.gcd x19 ((vF 64 (9 * gn + k5)).toInt) : Nat) : Int))) 15 (x19 * ((((vF 64 (9 * gn + k5)).toInt)).tdiv ((Int.gcd x19 ((vF 64 (9 * gn + k5)).toInt) : Nat) : Int)))) 19 (x19 * ((((vF 64 (9 * gn + k5)).toInt)).tdiv ((Int.gcd x19 ((vF 64 (9 * gn + k5)).toInt) : Nat) : Int)))) (x19 * ((((vF 64 (9 * gn + k5)).toInt)).tdiv ((Int.gcd x19 ((vF 64 (9 * gn + k5)).toInt) : Nat) : Int))) _ _ _ (f70_0) ((by rw [fT_eq])) (by omega) (Int.mul_pos hx19p (tdiv_pos (by omega) hgp hgl)) (by rw [Int.natAbs_mul]; exact scB_step hx19b (Nat.le_trans (sh_le _ _) hu.2)) (fun q hq => by (rw [fT_ne _ _ (by omega), fT_ne _ _ (by omega), fT_ne _ _ (by omega), fT_ne _ _ (by omega), f40_2 _ (by omega) (by omega), fT_ne _ _ (by omega)]); exact ho q hq) (by omega) hP hD hS hl
theorem dX12_goalNumber_0 : decode cX12_goalNumber 0 = .ok (.aload_n 0, 1) := dk_42 (by decide +kernel)
theorem dX12_goalNumber_1 : decode cX12_goalNumber 1 = .ok (.bipush 10, 2) := dk_16 (by decide +kernel)
theorem dX12_goalNumber_3 : decode cX12_goalNumber 3 = .ok (.aload_n 0, 1) := dk_42 (by decide +kernel)
theorem dX12_goalNumber_4 : decode cX12_goalNumber 4 = .ok (.getfield 212, 3) := dk_180 (by decide +kernel)
theorem dX12_goalNumber_7 : decode cX12_goalNumber 7 = .ok (.bipush 9, 2) := dk_16 (by decide +kernel)
theorem dX12_goalNumber_9 : decode cX12_goalNumber 9 = .ok (.iload_n 1, 1) := dk_27 (by decide +kernel)
theorem dX12_goalNumber_10 : decode cX12_goalNumber 10 = .ok (.imul, 1) := dk_104 (by decide +kernel)
theorem dX12_goalNumber_11 : decode cX12_goalNumber 11 = .ok (.iload_n 2, 1) := dk_28 (by decide +kernel)
theorem dX12_goalNumber_12 : decode cX12_goalNumber 12 = .ok (.iadd, 1) := dk_96 (by decide +kernel)
theorem dX12_goalNumber_13 : decode cX12_goalNumber 13 = .ok (.iaload, 1) := dk_46 (by decide +kernel)
theorem dX12_goalNumber_14 : decode cX12_goalNumber 14 = .ok (.i2l, 1) := dk_133 (by decide +kernel)
theorem dX12_goalNumber_15 : decode cX12_goalNumber 15 = .ok (.invokevirtual 369, 3) := dk_182 (by decide +kernel)
theorem dX12_goalNumber_18 : decode cX12_goalNumber 18 = .ok (.aload_n 0, 1) := dk_42 (by decide +kernel)
theorem dX12_goalNumber_19 : decode cX12_goalNumber 19 = .ok (.bipush 11, 2) := dk_16 (by decide +kernel)
theorem dX12_goalNumber_21 : decode cX12_goalNumber 21 = .ok (.aload_n 0, 1) := dk_42 (by decide +kernel)
theorem dX12_goalNumber_22 : decode cX12_goalNumber 22 = .ok (.getfield 215, 3) := dk_180 (by decide +kernel)
theorem dX12_goalNumber_25 : decode cX12_goalNumber 25 = .ok (.bipush 9, 2) := dk_16 (by decide +kernel)
theorem dX12_goalNumber_27 : decode cX12_goalNumber 27 = .ok (.iload_n 1, 1) := dk_27 (by decide +kernel)
theorem dX12_goalNumber_28 : decode cX12_goalNumber 28 = .ok (.imul, 1) := dk_104 (by decide +kernel)
theorem dX12_goalNumber_29 : decode cX12_goalNumber 29 = .ok (.iload_n 2, 1) := dk_28 (by decide +kernel)
theorem dX12_goalNumber_30 : decode cX12_goalNumber 30 = .ok (.iadd, 1) := dk_96 (by decide +kernel)
theorem dX12_goalNumber_31 : decode cX12_goalNumber 31 = .ok (.iaload, 1) := dk_46 (by decide +kernel)
theorem dX12_goalNumber_32 : decode cX12_goalNumber 32 = .ok (.i2l, 1) := dk_133 (by decide +kernel)
theorem dX12_goalNumber_33 : decode cX12_goalNumber 33 = .ok (.invokevirtual 369, 3) := dk_182 (by decide +kernel)
theorem dX12_goalNumber_36 : decode cX12_goalNumber 36 = .ok (.aload_n 0, 1) := dk_42 (by decide +kernel)
theorem dX12_goalNumber_37 : decode cX12_goalNumber 37 = .ok (.bipush 13, 2) := dk_16 (by decide +kernel)
theorem dX12_goalNumber_39 : decode cX12_goalNumber 39 = .ok (.bipush 14, 2) := dk_16 (by decide +kernel)
theorem dX12_goalNumber_41 : decode cX12_goalNumber 41 = .ok (.bipush 19, 2) := dk_16 (by decide +kernel)
theorem dX12_goalNumber_43 : decode cX12_goalNumber 43 = .ok (.bipush 11, 2) := dk_16 (by decide +kernel)
theorem dX12_goalNumber_45 : decode cX12_goalNumber 45 = .ok (.invokevirtual 383, 3) := dk_182 (by decide +kernel)
theorem dX12_goalNumber_48 : decode cX12_goalNumber 48 = .ok (.aload_n 0, 1) := dk_42 (by decide +kernel)
theorem dX12_goalNumber_49 : decode cX12_goalNumber 49 = .ok (.bipush 17, 2) := dk_16 (by decide +kernel)
theorem dX12_goalNumber_51 : decode cX12_goalNumber 51 = .ok (.bipush 13, 2) := dk_16 (by decide +kernel)
theorem dX12_goalNumber_53 : decode cX12_goalNumber 53 = .ok (.bipush 10, 2) := dk_16 (by decide +kernel)
theorem dX12_goalNumber_55 : decode cX12_goalNumber 55 = .ok (.invokevirtual 390, 3) := dk_182 (by decide +kernel)
theorem dX12_goalNumber_58 : decode cX12_goalNumber 58 = .ok (.return_, 1) := dk_177 (by decide +kernel)
def wsRX12_goalNumber : List Cond := .code yX12_goalNumber cX12_goalNumber 3 none :: ([.fieldLink RX12 212 "OptimaWorksModel" "goalTop" "[I", .fieldLink RX12 215 "OptimaWorksModel" "goalUnder" "[I"] ++ wsX120 ++ (wsV RX12 369 RX12 yX12_put wsRX12_put) ++ (wsV RX12 383 RX12 yX12_divide wsRX12_divide) ++ (wsV RX12 390 RX12 yX12_times wsRX12_times))
theorem iwsRX12_goalNumber_in12 : ∀ w ∈ wsX120, w ∈ wsRX12_goalNumber := fun _ h => List.mem_cons_of_mem _ (List.mem_append_left _ (List.mem_append_left _ (List.mem_append_left _ (List.mem_append_right _ h))))
theorem gwsRX12_goalNumber_0 : GoodIn wsRX12_goalNumber (wsV RX12 369 RX12 yX12_put wsRX12_put) := goodIn_sub (fun _ h => List.mem_cons_of_mem _ (List.mem_append_left _ (List.mem_append_left _ (List.mem_append_right _ h)))) (gdV (by decide +kernel) gdwsRX12_put)
theorem gwsRX12_goalNumber_1 : GoodIn wsRX12_goalNumber (wsV RX12 383 RX12 yX12_divide wsRX12_divide) := goodIn_sub (fun _ h => List.mem_cons_of_mem _ (List.mem_append_left _ (List.mem_append_right _ h))) (gdV (by decide +kernel) gdwsRX12_divide)
theorem gwsRX12_goalNumber_2 : GoodIn wsRX12_goalNumber (wsV RX12 390 RX12 yX12_times wsRX12_times) := goodIn_sub (fun _ h => List.mem_cons_of_mem _ (List.mem_append_right _ h)) (gdV (by decide +kernel) gdwsRX12_times)
theorem gdwsRX12_goalNumber : wsRX12_goalNumber.all goodWord = true := gdC rfl (gdA (gdA (gdA (gdA (by decide +kernel : ([.fieldLink RX12 212 "OptimaWorksModel" "goalTop" "[I", .fieldLink RX12 215 "OptimaWorksModel" "goalUnder" "[I"] : List Cond).all goodWord = true) gdwsX120) (gdV (by decide +kernel) gdwsRX12_put)) (gdV (by decide +kernel) gdwsRX12_divide)) (gdV (by decide +kernel) gdwsRX12_times))
set_option maxHeartbeats 4000000 in
set_option maxRecDepth 100000 in
/-- goalNumber(g, k) -/
theorem r_X12_goalNumber (l : Launch) (dC : Nat → ClassId) (dI : Nat → Nat → Nat) (a : Nat → Nat) (k : Nat → ClassId) (h0 : Nat) (vi : Nat → Int32) (vj : Nat → Int64) (vF : Nat → Nat → Int32) (vG : Nat → Nat → Int64) (gn : Nat) (kn : Nat) (gq : Nat) (mg : Nat → Int) (hBg : Bg (vF 0) mg) (x19 : Int) (v_x19 : mg 19 = x19) (hgn : gn < gq) (hgq : gq ≤ 3) (hkn : kn < 9) (hM : MdlB vF gq) (h19b : x19.natAbs < 2 ^ 67) (sz : Nat) : Met l yX12_goalNumber wsRX12_goalNumber ({ frames := 2, cells := 0, slots := 0, locals := 62 }) (va_Pc [.ref h0, .int (nI gn), .int (nI kn)] (fun U => U.heap.size = sz ∧ va_P (dC, dI) vwCl (WR a k h0 vi vj vF vG) U.heap ∧ va_K (dC, dI) vwCl (tX12 k) U ∧ va_D (fun _ => True) (WR a k h0 vi vj vF vG))) (va_Qv (fun (u : (Nat → Int32) × (Nat → Int32) × (Nat → Int32) × (Nat → Int64) × (Nat → Int)) => (Bg (u.1) (u.2.2.2.2)) ∧ ((u.2.2.2.2) 19 = x19) ∧ (((u.2.2.2.2) 17).natAbs ≤ x19.natAbs * (if kn = 0 then 9999 else 99)) ∧ (∀ q, (q < 5 ∨ 19 < q) → (u.2.2.2.2) q = mg q)) (fun (u : (Nat → Int32) × (Nat → Int32) × (Nat → Int32) × (Nat → Int64) × (Nat → Int)) t => va_P (dC, dI) vwCl (WR a k h0 vi vj (fT (fT (fT vF 0 (u.1)) 2 (u.2.1)) 3 (u.2.2.1)) (fT vG 1 (u.2.2.2.1))) t.heap ∧ va_D (va_A (WR a k h0 vi vj vF vG) sz) (WR a k h0 vi vj (fT (fT (fT vF 0 (u.1)) 2 (u.2.1)) 3 (u.2.2.1)) (fT vG 1 (u.2.2.2.1)))) (va_A (WR a k h0 vi vj vF vG) sz)) 0 0 (va_A (WR a k h0 vi vj vF vG) sz) := by
  refine Met.ofW (cc := cX12_goalNumber) (maxL := 3) (ret := none) (by decide) rfl ?_
  intro p e s m args below meth c s₁ B hml hv
  obtain ⟨rfl, hsz, hP, hK, hD0⟩ := hv
  have hx := B.exec
  have hb := B.bytes
  have hr := B.returns
  have hts := atoms_spec (ws := wsRX12_goalNumber) B.pre
  have hown : s.vm.findClass RX12 = some m.cls := findClass_of_methodNamed B.named
  have hlocks := B.notSynchronized
  subst hsz
  have hD := hD0.self (sz := s.heap.size)
  generalize hAe : va_A (WR a k h0 vi vj vF vG) s.heap.size = A at hD ⊢
  have hA : ∀ q : Nat, s.heap.size ≤ q → A q := fun q h => by rw [← hAe]; exact Or.inr h
  have hS : va_S A s.heap s.heap [] := va_S.rf
  have hl := lv_entry ([.ref h0, .int (nI gn), .int (nI kn)]) (n := 3) (Nat.le_of_ble_eq_true rfl)
  rw [lg_entry_eq]
  generalize (lg_sl ([.ref h0, .int (nI gn), .int (nI kn)]) ++ List.replicate (3 - (lg_sl ([.ref h0, .int (nI gn), .int (nI kn)])).length) Slot.unset).toArray = ls at hl ⊢
  have hl : lv_has ls 3 [(0, .ref h0), (1, .int (nI gn)), (2, .int (nI kn))] := hl
  have hu := hM.under hgn hkn
  have ht8 := hM.top hgn hkn
  have ht9 : (vF 63 (9 * gn + kn)).toInt.natAbs ≤ 9999 := by (have h9 := ht8); split at h9 <;> omega
  refine lv_aload_n hx hb dX12_goalNumber_0 rfl (lv_at hl 0 rfl) ?_
  refine lv_bipush (v := 10) hx hb dX12_goalNumber_1 (by decide) ?_
  refine lv_aload_n hx hb dX12_goalNumber_3 rfl (lv_at hl 0 rfl) ?_
  refine va_get (D := (dC, dI)) (ci := 12) (v := .ref (a 63)) (C := RX12) (T := TX12) (N := 163) (fs := fM (vS a vi vj)) hx hb hts iwsRX12_goalNumber_in12 hown hK hP 0 rfl rfl 103 (by decide) (hts (.fieldLink RX12 212 "OptimaWorksModel" "goalTop" "[I") (by decide +kernel)) (fun _ h9 => h9) rfl dX12_goalNumber_4 ?_
  refine lv_bipush (v := 9) hx hb dX12_goalNumber_7 (by decide) ?_
  refine lv_iload_n hx hb dX12_goalNumber_9 rfl (lv_at hl 1 rfl) ?_
  refine lv_imul hx hb dX12_goalNumber_10 ?_
  refine lv_topi (fun y1 hy1 => ?_)
  obtain rfl : (nI (9 * gn)) = y1 := (hy1.trans (pk_mul 9 gn)).symm
  refine lv_iload_n hx hb dX12_goalNumber_11 rfl (lv_at hl 2 rfl) ?_
  refine lv_iadd hx hb dX12_goalNumber_12 ?_
  refine lv_topi (fun y2 hy2 => ?_)
  obtain rfl : (nI ((9 * gn) + kn)) = y2 := (hy2.trans (nI_add (9 * gn) kn)).symm
  refine va_iald (cA := k 63) (n := 27) (f := (vF 63)) hx hb hK hP 64 63 (WR_get 63 (by decide)) (TR_get 63 (by decide)) (vp_in_nI (show ((9 * gn) + kn) < 27 by omega) (by omega)) dX12_goalNumber_13 ?_
  refine lv_topi (fun y3 hy3 => ?_)
  obtain rfl : ((vF 63) ((9 * gn) + kn)) = y3 := (hy3.trans (by rw [nI_clamp (by omega)])).symm
  refine lv_i2l hx hb dX12_goalNumber_14 rfl ?_
  have hFc := allFree hD hS hA
  refine va_callv (va_runV (As := [.int 10, .long (((vF 63) ((9 * gn) + kn))).toInt64]) (rest := []) ⟨hx, hb, hml, hown, hts⟩ (b_X12_put l dC dI a k h0 vi vj vF vG 10 ((((vF 63) ((9 * gn) + kn))).toInt64) ((vF 63 (9 * gn + kn)).toInt) mg hBg (by first | with_reducible assumption | decide | omega | rfl | assumption) (i64T _) (by omega) s.heap.size) (cwV 2 hts gwsRX12_goalNumber_0 rfl rfl rfl hd_yX12_put_RX12 (by decide +kernel)) (fz_pre (va_recv hK hP (ci := 12) (q0 := 0) rfl rfl) hP hK hD) rfl rfl hl.1 rfl (lv_room (Nat.le_of_ble_eq_true rfl)) dX12_goalNumber_15 (by decide +kernel)) hS (fun q _ h => hFc q h) hFc (fun g15 t9_ H locs ht hvm hw9 hB9 hz1 hk1 hS => ?_)
  have hP : va_P (dC, dI) vwCl (WR a k h0 vi vj (fT vF 0 g15) vG) H := fz_P ht hB9.1
  have hD := fz_sd hP (hB9.2.weaken (fun _ q _ h => hFc q.1 h)) rfl
  have f15_0 := hw9
  try dsimp only at f15_0
  refine lv_aload_n hx hb dX12_goalNumber_18 rfl (lv_at hl 0 rfl) ?_
  refine lv_bipush (v := 11) hx hb dX12_goalNumber_19 (by decide) ?_
  refine lv_aload_n hx hb dX12_goalNumber_21 rfl (lv_at hl 0 rfl) ?_
  refine va_get (D := (dC, dI)) (ci := 12) (v := .ref (a 64)) (C := RX12) (T := TX12) (N := 163) (fs := fM (vS a vi vj)) hx hb hts iwsRX12_goalNumber_in12 hown hK hP 0 rfl rfl 104 (by decide) (hts (.fieldLink RX12 215 "OptimaWorksModel" "goalUnder" "[I") (by decide +kernel)) (fun _ h9 => h9) rfl dX12_goalNumber_22 ?_
  refine lv_bipush (v := 9) hx hb dX12_goalNumber_25 (by decide) ?_
  refine lv_iload_n hx hb dX12_goalNumber_27 rfl (lv_at hl 1 rfl) ?_
  refine lv_imul hx hb dX12_goalNumber_28 ?_
  refine lv_topi (fun y4 hy4 => ?_)
  obtain rfl : (nI (9 * gn)) = y4 := (hy4.trans (pk_mul 9 gn)).symm
  refine lv_iload_n hx hb dX12_goalNumber_29 rfl (lv_at hl 2 rfl) ?_
  refine lv_iadd hx hb dX12_goalNumber_30 ?_
  refine lv_topi (fun y5 hy5 => ?_)
  obtain rfl : (nI ((9 * gn) + kn)) = y5 := (hy5.trans (nI_add (9 * gn) kn)).symm
  refine va_iald (cA := k 64) (n := 27) (f := (vF 64)) hx hb hK hP 65 64 (WR_get 64 (by decide)) (TR_get 64 (by decide)) (vp_in_nI (show ((9 * gn) + kn) < 27 by omega) (by omega)) dX12_goalNumber_31 ?_
  refine lv_topi (fun y6 hy6 => ?_)
  obtain rfl : ((vF 64) ((9 * gn) + kn)) = y6 := (hy6.trans (by rw [nI_clamp (by omega)])).symm
  refine lv_i2l hx hb dX12_goalNumber_32 rfl ?_
  have hFc := allFree hD hS hA
  refine va_callv (va_runV (As := [.int 11, .long (((vF 64) ((9 * gn) + kn))).toInt64]) (rest := []) ⟨hx, hb, hml, hown, hts⟩ (b_X12_put l dC dI a k h0 vi vj (fT vF 0 g15) vG 11 ((((vF 64) ((9 * gn) + kn))).toInt64) ((vF 64 (9 * gn + kn)).toInt) (fT mg 10 ((vF 63 (9 * gn + kn)).toInt)) f15_0 (by first | with_reducible assumption | decide | omega | rfl | assumption) (i64T _) (by omega) H.size) (cwV 2 hts gwsRX12_goalNumber_0 rfl rfl rfl hd_yX12_put_RX12 (by decide +kernel)) (fz_pre (va_recv hK hP (ci := 12) (q0 := 0) rfl rfl) hP hK hD) rfl rfl hl.1 rfl (lv_room (Nat.le_of_ble_eq_true rfl)) dX12_goalNumber_33 (by decide +kernel)) hS (fun q _ h => hFc q h) hFc (fun g33 t9_ H locs ht hvm hw9 hB9 hz1 hk1 hS => ?_)
  have e9F : fT vF 0 g33 = fT (fT vF 0 g15) 0 g33 := (fT_sm _ _ _ _).symm
  have hP := wr_PF e9F (fz_P ht hB9.1)
  have hD := wr_DF e9F (hB9.2.weaken (fun _ q _ h => hFc q.1 h))
  clear e9F
  have f33_0 := hw9
  try dsimp only at f33_0
  refine lv_aload_n hx hb dX12_goalNumber_36 rfl (lv_at hl 0 rfl) ?_
  refine lv_bipush (v := 13) hx hb dX12_goalNumber_37 (by decide) ?_
  refine lv_bipush (v := 14) hx hb dX12_goalNumber_39 (by decide) ?_
  refine lv_bipush (v := 19) hx hb dX12_goalNumber_41 (by decide) ?_
  refine lv_bipush (v := 11) hx hb dX12_goalNumber_43 (by decide) ?_
  have hFc := allFree hD hS hA
  refine va_callv (va_runV (As := [.int 13, .int 14, .int 19, .int 11]) (rest := []) ⟨hx, hb, hml, hown, hts⟩ (b_X12_divide l dC dI a k h0 vi vj (fT vF 0 g33) vG 13 14 19 11 (fT (fT mg 10 ((vF 63 (9 * gn + kn)).toInt)) 11 ((vF 64 (9 * gn + kn)).toInt)) f33_0 x19 ((vF 64 (9 * gn + kn)).toInt) (by rw [fT_ne _ _ (by omega), fT_ne _ _ (by omega), v_x19]) (by rw [fT_eq]) (by first | with_reducible assumption | decide | omega | rfl | assumption) (by first | with_reducible assumption | decide | omega | rfl | assumption) (by first | with_reducible assumption | decide | omega | rfl | assumption) (by first | with_reducible assumption | decide | omega | rfl | assumption) (by first | with_reducible assumption | decide | omega | rfl | assumption) (by first | with_reducible assumption | decide | omega | rfl | assumption) (by omega) H.size) (cwV 4 hts gwsRX12_goalNumber_1 rfl rfl rfl hd_yX12_divide_RX12 (by decide +kernel)) (fz_pre (va_recv hK hP (ci := 12) (q0 := 0) rfl rfl) hP hK hD) rfl rfl hl.1 rfl (lv_room (Nat.le_of_ble_eq_true rfl)) dX12_goalNumber_45 (by decide +kernel)) hS (fun q _ h => hFc q h) hFc (fun u t9_ H locs ht hvm hw9 hB9 hz1 hk1 hS => ?_)
  revert u hw9 hB9
  refine fz_p4 ?_
  intro g45 f2w45 f3w45 gs45 hw9 hB9
  try dsimp only at hw9 hB9
  have e9F : fT (fT (fT vF 0 g45) 2 f2w45) 3 f3w45 = fT (fT (fT (fT vF 0 g33) 2 f2w45) 3 f3w45) 0 g45 := ((fT_sw _ _ _ (Nat.ne_of_beq_eq_false rfl)).trans (congrArg (fun g9 => fT g9 3 f3w45) ((fT_sw _ _ _ (Nat.ne_of_beq_eq_false rfl)).trans (congrArg (fun g9 => fT g9 2 f2w45) (fT_sm _ _ _ _))))).symm
  have hP := wr_PF e9F (fz_P ht hB9.1)
  have hD := wr_DF e9F (hB9.2.weaken (fun _ q _ h => hFc q.1 h))
  clear e9F
  have f45_0 := hw9
  try dsimp only at f45_0
  refine lv_aload_n hx hb dX12_goalNumber_48 rfl (lv_at hl 0 rfl) ?_
  refine lv_bipush (v := 17) hx hb dX12_goalNumber_49 (by decide) ?_
  refine lv_bipush (v := 13) hx hb dX12_goalNumber_51 (by decide) ?_
  refine lv_bipush (v := 10) hx hb dX12_goalNumber_53 (by decide) ?_
  have hFc := allFree hD hS hA
  refine va_callv (va_runV (As := [.int 17, .int 13, .int 10]) (rest := []) ⟨hx, hb, hml, hown, hts⟩ (b_X12_times l dC dI a k h0 vi vj (fT (fT (fT vF 0 g45) 2 f2w45) 3 f3w45) (fT vG 1 gs45) 17 13 10 (fT (fT (fT (fT mg 10 ((vF 63 (9 * gn + kn)).toInt)) 11 ((vF 64 (9 * gn + kn)).toInt)) 13 ((x19).tdiv ((vF 64 (9 * gn + kn)).toInt))) 14 ((x19).tmod ((vF 64 (9 * gn + kn)).toInt))) f45_0 ((x19).tdiv ((vF 64 (9 * gn + kn)).toInt)) ((vF 63 (9 * gn + kn)).toInt) (by rw [fT_ne _ _ (by omega), fT_eq]) (by rw [fT_ne _ _ (by omega), fT_ne _ _ (by omega), fT_ne _ _ (by omega), fT_eq]) (by first | with_reducible assumption | decide | omega | rfl | assumption) (by first | with_reducible assumption | decide | omega | rfl | assumption) (by first | with_reducible assumption | decide | omega | rfl | assumption) (sc_big (Nat.lt_of_le_of_lt (sh_le _ _) h19b) ht9) H.size) (cwV 3 hts gwsRX12_goalNumber_2 rfl rfl rfl hd_yX12_times_RX12 (by decide +kernel)) (fz_pre (va_recv hK hP (ci := 12) (q0 := 0) rfl rfl) hP hK hD) rfl rfl hl.1 rfl (lv_room (Nat.le_of_ble_eq_true rfl)) dX12_goalNumber_55 (by decide +kernel)) hS (fun q _ h => hFc q h) hFc (fun u t9_ H locs ht hvm hw9 hB9 hz1 hk1 hS => ?_)
  revert u hw9 hB9
  refine fz_p2 ?_
  intro g55 gs55 hw9 hB9
  try dsimp only at hw9 hB9
  have e9F : fT (fT (fT vF 0 g55) 2 f2w45) 3 f3w45 = fT (fT (fT (fT vF 0 g45) 2 f2w45) 3 f3w45) 0 g55 := ((fT_sw _ _ _ (Nat.ne_of_beq_eq_false rfl)).trans (congrArg (fun g9 => fT g9 3 f3w45) ((fT_sw _ _ _ (Nat.ne_of_beq_eq_false rfl)).trans (congrArg (fun g9 => fT g9 2 f2w45) (fT_sm _ _ _ _))))).symm
  have e9G : fT vG 1 gs55 = fT (fT vG 1 gs45) 1 gs55 := (fT_sm _ _ _ _).symm
  have hP := wr_PG e9G (wr_PF e9F (fz_P ht hB9.1))
  have hD := wr_DG e9G (wr_DF e9F (hB9.2.weaken (fun _ q _ h => hFc q.1 h)))
  clear e9F e9G
  have f55_0 := hw9
  try dsimp only at f55_0
  refine W.widen (k := 0) (n := 0) (by decide +kernel) (by decide +kernel) ?_
  exact W.vret hx hb hr (fun t9_ ht hW => ⟨⟨(g55, f2w45, f3w45, gs55, (fT (fT (fT (fT (fT mg 10 ((vF 63 (9 * gn + kn)).toInt)) 11 ((vF 64 (9 * gn + kn)).toInt)) 13 ((x19).tdiv ((vF 64 (9 * gn + kn)).toInt))) 14 ((x19).tmod ((vF 64 (9 * gn + kn)).toInt))) 17 (((x19).tdiv ((vF 64 (9 * gn + kn)).toInt)) * ((vF 63 (9 * gn + kn)).toInt)))), rfl, by (try dsimp only); exact ⟨f55_0, (by rw [fT_ne _ _ (by omega), fT_ne _ _ (by omega), fT_ne _ _ (by omega), fT_ne _ _ (by omega), fT_ne _ _ (by omega), v_x19]), by (have e9 : (fT (fT (fT (fT (fT mg 10 ((vF 63 (9 * gn + kn)).toInt)) 11 ((vF 64 (9 * gn + kn)).toInt)) 13 ((x19).tdiv ((vF 64 (9 * gn + kn)).toInt))) 14 ((x19).tmod ((vF 64 (9 * gn + kn)).toInt))) 17 (((x19).tdiv ((vF 64 (9 * gn + kn)).toInt)) * ((vF 63 (9 * gn + kn)).toInt))) 17 = (((x19).tdiv ((vF 64 (9 * gn + kn)).toInt)) * ((vF 63 (9 * gn + kn)).toInt)) := (by rw [fT_eq])); rw [e9, Int.natAbs_mul]; exact Nat.mul_le_mul (sh_le _ _) ht8, fun q hq => by (rw [fT_ne _ _ (by omega), fT_ne _ _ (by omega), fT_ne _ _ (by omega), fT_ne _ _ (by omega), fT_ne _ _ (by omega)])⟩, by rw [ht]; exact hP, hD⟩, hS.F ht⟩) hS.2.2 dX12_goalNumber_58
theorem dX12_take_0 : decode cX12_take 0 = .ok (.iconst 0, 1) := dk_3 (by decide +kernel)
theorem dX12_take_1 : decode cX12_take 1 = .ok (.istore_n 1, 1) := dk_60 (by decide +kernel)
theorem dX12_take_2 : decode cX12_take 2 = .ok (.iload_n 1, 1) := dk_27 (by decide +kernel)
theorem dX12_take_3 : decode cX12_take 3 = .ok (.bipush 16, 2) := dk_16 (by decide +kernel)
theorem dX12_take_5 : decode cX12_take 5 = .ok (.if_icmp .ge 23, 3) := dk_162 (by decide +kernel)
theorem dX12_take_8 : decode cX12_take 8 = .ok (.aload_n 0, 1) := dk_42 (by decide +kernel)
theorem dX12_take_9 : decode cX12_take 9 = .ok (.sipush 1000, 3) := dk_17 (by decide +kernel)
theorem dX12_take_12 : decode cX12_take 12 = .ok (.iload_n 1, 1) := dk_27 (by decide +kernel)
theorem dX12_take_13 : decode cX12_take 13 = .ok (.iadd, 1) := dk_96 (by decide +kernel)
theorem dX12_take_14 : decode cX12_take 14 = .ok (.sipush 1020, 3) := dk_17 (by decide +kernel)
theorem dX12_take_17 : decode cX12_take 17 = .ok (.iload_n 1, 1) := dk_27 (by decide +kernel)
theorem dX12_take_18 : decode cX12_take 18 = .ok (.iadd, 1) := dk_96 (by decide +kernel)
theorem dX12_take_19 : decode cX12_take 19 = .ok (.invokevirtual 365, 3) := dk_182 (by decide +kernel)
theorem dX12_take_22 : decode cX12_take 22 = .ok (.iinc 1 1, 3) := dk_132 (by decide +kernel)
theorem dX12_take_25 : decode cX12_take 25 = .ok (.goto (-23), 3) := dk_167 (by decide +kernel)
theorem dX12_take_28 : decode cX12_take 28 = .ok (.aload_n 0, 1) := dk_42 (by decide +kernel)
theorem dX12_take_29 : decode cX12_take 29 = .ok (.iconst 1, 1) := dk_4 (by decide +kernel)
theorem dX12_take_30 : decode cX12_take 30 = .ok (.putfield 811, 3) := dk_181 (by decide +kernel)
theorem dX12_take_33 : decode cX12_take 33 = .ok (.return_, 1) := dk_177 (by decide +kernel)
def wsRX12_take : List Cond := .code yX12_take cX12_take 2 none :: ([.fieldLink RX12 811 "OptimaWorksModel" "hasAnswer" "Z"] ++ wsX120 ++ (wsV RX12 365 RX12 yX12_copy wsRX12_copy))
theorem iwsRX12_take_in12 : ∀ w ∈ wsX120, w ∈ wsRX12_take := fun _ h => List.mem_cons_of_mem _ (List.mem_append_left _ (List.mem_append_right _ h))
theorem gwsRX12_take_0 : GoodIn wsRX12_take (wsV RX12 365 RX12 yX12_copy wsRX12_copy) := goodIn_sub (fun _ h => List.mem_cons_of_mem _ (List.mem_append_right _ h)) (gdV (by decide +kernel) gdwsRX12_copy)
theorem gdwsRX12_take : wsRX12_take.all goodWord = true := gdC rfl (gdA (gdA (by decide +kernel : ([.fieldLink RX12 811 "OptimaWorksModel" "hasAnswer" "Z"] : List Cond).all goodWord = true) gdwsX120) (gdV (by decide +kernel) gdwsRX12_copy))
set_option maxHeartbeats 4000000 in
set_option maxRecDepth 100000 in
/-- take() -/
theorem r_X12_take (l : Launch) (dC : Nat → ClassId) (dI : Nat → Nat → Nat) (a : Nat → Nat) (k : Nat → ClassId) (h0 : Nat) (vi : Nat → Int32) (vj : Nat → Int64) (vF : Nat → Nat → Int32) (vG : Nat → Nat → Int64) (mg : Nat → Int) (hBg : Bg (vF 0) mg) (sz : Nat) : Met l yX12_take wsRX12_take ({ frames := 1, cells := 0, slots := 0, locals := 23 }) (va_Pc [.ref h0] (fun U => U.heap.size = sz ∧ va_P (dC, dI) vwCl (WR a k h0 vi vj vF vG) U.heap ∧ va_K (dC, dI) vwCl (tX12 k) U ∧ va_D (fun _ => True) (WR a k h0 vi vj vF vG))) (va_Qv (fun (u : (Nat → Int32) × (Nat → Int)) => (Bg (u.1) (u.2)) ∧ (∀ k, k < 16 → (u.2) (1000 + k) = mg (1020 + k)) ∧ (∀ q, (q < 1000 ∨ 1016 ≤ q) → (u.2) q = mg q)) (fun (u : (Nat → Int32) × (Nat → Int)) t => va_P (dC, dI) vwCl (WR a k h0 (fT vi 113 1) vj (fT vF 0 (u.1)) vG) t.heap ∧ va_D (va_A (WR a k h0 vi vj vF vG) sz) (WR a k h0 (fT vi 113 1) vj (fT vF 0 (u.1)) vG)) (va_A (WR a k h0 vi vj vF vG) sz)) 0 0 (va_A (WR a k h0 vi vj vF vG) sz) := by
  refine Met.ofW (cc := cX12_take) (maxL := 2) (ret := none) (by decide) rfl ?_
  intro p e s m args below meth c s₁ B hml hv
  obtain ⟨rfl, hsz, hP, hK, hD0⟩ := hv
  have hx := B.exec
  have hb := B.bytes
  have hr := B.returns
  have hts := atoms_spec (ws := wsRX12_take) B.pre
  have hown : s.vm.findClass RX12 = some m.cls := findClass_of_methodNamed B.named
  have hlocks := B.notSynchronized
  subst hsz
  have hD := hD0.self (sz := s.heap.size)
  generalize hAe : va_A (WR a k h0 vi vj vF vG) s.heap.size = A at hD ⊢
  have hA : ∀ q : Nat, s.heap.size ≤ q → A q := fun q h => by rw [← hAe]; exact Or.inr h
  have hS : va_S A s.heap s.heap [] := va_S.rf
  have hl := lv_entry ([.ref h0]) (n := 2) (Nat.le_of_ble_eq_true rfl)
  rw [lg_entry_eq]
  generalize (lg_sl ([.ref h0]) ++ List.replicate (2 - (lg_sl ([.ref h0])).length) Slot.unset).toArray = ls at hl ⊢
  have hl : lv_has ls 2 [(0, .ref h0)] := hl
  refine lv_iconst (v := 0) hx hb dX12_take_0 (by decide) ?_
  refine lv_istore_n hx hb dX12_take_1 rfl hl (by decide) rfl (fun ls (hl : lv_has ls _ ([(1, .int 0), (0, .ref h0)])) => ?_)
  have e9 : fT vF 0 (vF 0) = vF := by funext q9; by_cases h9_0 : q9 = 0; (subst h9_0; exact (fT_eq _ _ _).trans (Eq.trans (by first | with_reducible rfl | with_reducible assumption | (symm; with_reducible assumption) | rfl | assumption | (symm; assumption) | (subst_vars; rfl)) (Eq.refl _).symm)); exact (fT_ne _ _ h9_0).trans (Eq.refl _).symm
  have hP := wr_PF e9 hP
  have hD := wr_DF e9 hD
  clear e9
  have hl : lv_has _ _ ([(0, .ref h0), (1, .int (nI 0))]) := lv_sub hl [1, 0] rfl
  refine (fun (loop : ∀ (n9 : Nat) (k5 : Nat) (g1 : Nat → Int32) (m1 : Nat → Int) (H : Heap) (locs : List Loc) (ls : Array Slot), (Bg g1 m1) → (k5 ≤ 16) → (∀ k, k < k5 → m1 (1000 + k) = mg (1020 + k)) → (∀ q, (q < 1000 ∨ 1016 ≤ q) → m1 q = mg q) →  (16 < k5 + n9) → va_P (dC, dI) vwCl (WR a k h0 vi vj (fT vF 0 g1) vG) H → va_D A (WR a k h0 vi vj (fT vF 0 g1) vG) → va_S A s.heap H locs → lv_has ls 2 [(0, .ref h0), (1, .int (nI k5))] → W p l e _ s m _ below meth c H locs 0 0 _ (F0 m 2 ls [])) => loop (17) 0 (vF 0) mg _ _ _ (hBg) (by omega) (fun k hk => absurd hk (by omega)) (fun q _ => rfl) (by omega) hP hD hS hl) ?_
  intro n9
  induction n9 with
  | zero => intro k5 g1 m1 H locs ls hB1 hk5 hz ho hf9; exact False.elim (by omega)
  | succ n9 ih2 =>
    intro k5 g1 m1 H locs ls hB1 hk5 hz ho hf2 hP hD hS hl
    refine lv_iload_n hx hb dX12_take_2 rfl (lv_at hl 1 rfl) ?_
    refine lv_bipush (v := 16) hx hb dX12_take_3 (by decide) ?_
    refine lv_icmp_ge (tgt := 28) hx hb dX12_take_5 (by decide) (fun c_5 => ?_) (fun c_5 => ?_)
    · have t_5 : ((k5 : Nat) : Int) ≥ 16 := toI_ge c_5 (nI_toInt (by omega)) (by decide)
      refine lv_aload_n hx hb dX12_take_28 rfl (lv_at hl 0 rfl) ?_
      refine lv_iconst (v := 1) hx hb dX12_take_29 (by decide) ?_
      refine va_put (D := (dC, dI)) (ci := 12) (v := .int 1) (ty := .boolean) (C := RX12) (T := TX12) (N := 163) (fs := fM (vS a vi vj)) hx hb hts iwsRX12_take_in12 tyX12 tyX12_ok nmX12 hown hK hP hD hS 0 rfl rfl 113 (by decide) (hts (.fieldLink RX12 811 "OptimaWorksModel" "hasAnswer" "Z") (by decide +kernel)) (fun _ h9 => h9) rfl (by decide +kernel) rfl rfl (Nat.le_of_ble_eq_true rfl) dX12_take_30 (fun H locs hP hD hS => ?_)
      have hP : va_P (dC, dI) vwCl (WR a k h0 (fT vi 113 1) vj (fT vF 0 g1) vG) H := fz_w (WR_i 113 _ rfl) hP
      have hD : va_D A (WR a k h0 (fT vi 113 1) vj (fT vF 0 g1) vG) := fz_wD (WR_i 113 _ rfl) hD
      refine W.widen (k := 0) (n := 0) (by decide +kernel) (by decide +kernel) ?_
      exact W.vret hx hb hr (fun t9_ ht hW => ⟨⟨(g1, m1), rfl, by (try dsimp only); exact ⟨hB1, fun k hk => hz k (by omega), ho⟩, by rw [ht]; exact hP, hD⟩, hS.F ht⟩) hS.2.2 dX12_take_33
    · have t_5 : ¬ ((k5 : Nat) : Int) ≥ 16 := toI_nge c_5 (nI_toInt (by omega)) (by decide)
      refine lv_aload_n hx hb dX12_take_8 rfl (lv_at hl 0 rfl) ?_
      refine lv_sipush (v := 1000) hx hb dX12_take_9 (by decide) ?_
      refine lv_iload_n hx hb dX12_take_12 rfl (lv_at hl 1 rfl) ?_
      refine lv_iadd hx hb dX12_take_13 ?_
      refine lv_topi (fun y1 hy1 => ?_)
      obtain rfl : (nI (1000 + k5)) = y1 := (hy1.trans (nI_add 1000 k5)).symm
      refine lv_sipush (v := 1020) hx hb dX12_take_14 (by decide) ?_
      refine lv_iload_n hx hb dX12_take_17 rfl (lv_at hl 1 rfl) ?_
      refine lv_iadd hx hb dX12_take_18 ?_
      refine lv_topi (fun y2 hy2 => ?_)
      obtain rfl : (nI (1020 + k5)) = y2 := (hy2.trans (nI_add 1020 k5)).symm
      have hFc := allFree hD hS hA
      refine va_callv (va_runV (As := [.int (nI (1000 + k5)), .int (nI (1020 + k5))]) (rest := []) ⟨hx, hb, hml, hown, hts⟩ (b_X12_copy l dC dI a k h0 vi vj (fT vF 0 g1) vG (1000 + k5) (1020 + k5) m1 hB1 (mg (1020 + k5)) (by rw [ho (1020 + k5) (by omega)]) (by first | with_reducible assumption | decide | omega | rfl | assumption) (by first | with_reducible assumption | decide | omega | rfl | assumption) (by first | with_reducible assumption | decide | omega | rfl | assumption) H.size) (cwV 2 hts gwsRX12_take_0 rfl rfl rfl hd_yX12_copy_RX12 (by decide +kernel)) (fz_pre (va_recv hK hP (ci := 12) (q0 := 0) rfl rfl) hP hK hD) rfl rfl hl.1 rfl (lv_room (Nat.le_of_ble_eq_true rfl)) dX12_take_19 (by decide +kernel)) hS (fun q _ h => hFc q h) hFc (fun g19 t9_ H locs ht hvm hw9 hB9 hz1 hk1 hS => ?_)
      have e9F : fT vF 0 g19 = fT (fT vF 0 g1) 0 g19 := (fT_sm _ _ _ _).symm
      have hP := wr_PF e9F (fz_P ht hB9.1)
      have hD := wr_DF e9F (hB9.2.weaken (fun _ q _ h => hFc q.1 h))
      clear e9F
      have f19_0 := hw9
      try dsimp only at f19_0
      refine lv_iinc (v := (nI (k5 + 1))) hx hb dX12_take_22 hl (k := 1) rfl (nI_add k5 1) (by decide) rfl (fun ls (hl : lv_has ls _ ([(1, .int (nI (k5 + 1))), (0, .ref h0)])) => ?_)
      refine lv_goto (tgt := 2) hx hb dX12_take_25 (by decide) ?_
      have hl : lv_has _ _ ([(0, .ref h0), (1, .int (nI (k5 + 1)))]) := lv_sub hl [1, 0] rfl
      exact ih2 (k5 + 1) g19 (fT m1 (1000 + k5) (mg (1020 + k5))) _ _ _ (f19_0) (by omega) (fun k hk => by by_cases e9 : k = k5; (rw [e9, fT_eq]); (rw [fT_ne _ _ (by omega)]; exact hz k (by omega))) (fun q hq => by (rw [fT_ne _ _ (by omega)]); exact ho q hq) (by omega) hP hD hS hl
theorem dX12_firstWays_0 : decode cX12_firstWays 0 = .ok (.iconst 0, 1) := dk_3 (by decide +kernel)
theorem dX12_firstWays_1 : decode cX12_firstWays 1 = .ok (.istore_n 1, 1) := dk_60 (by decide +kernel)
theorem dX12_firstWays_2 : decode cX12_firstWays 2 = .ok (.iload_n 1, 1) := dk_27 (by decide +kernel)
theorem dX12_firstWays_3 : decode cX12_firstWays 3 = .ok (.aload_n 0, 1) := dk_42 (by decide +kernel)
theorem dX12_firstWays_4 : decode cX12_firstWays 4 = .ok (.getfield 786, 3) := dk_180 (by decide +kernel)
theorem dX12_firstWays_7 : decode cX12_firstWays 7 = .ok (.if_icmp .ge 16, 3) := dk_162 (by decide +kernel)
theorem dX12_firstWays_10 : decode cX12_firstWays 10 = .ok (.aload_n 0, 1) := dk_42 (by decide +kernel)
theorem dX12_firstWays_11 : decode cX12_firstWays 11 = .ok (.getfield 230, 3) := dk_180 (by decide +kernel)
theorem dX12_firstWays_14 : decode cX12_firstWays 14 = .ok (.iload_n 1, 1) := dk_27 (by decide +kernel)
theorem dX12_firstWays_15 : decode cX12_firstWays 15 = .ok (.iconst 0, 1) := dk_3 (by decide +kernel)
theorem dX12_firstWays_16 : decode cX12_firstWays 16 = .ok (.iastore, 1) := dk_79 (by decide +kernel)
theorem dX12_firstWays_17 : decode cX12_firstWays 17 = .ok (.iinc 1 1, 3) := dk_132 (by decide +kernel)
theorem dX12_firstWays_20 : decode cX12_firstWays 20 = .ok (.goto (-18), 3) := dk_167 (by decide +kernel)
theorem dX12_firstWays_23 : decode cX12_firstWays 23 = .ok (.return_, 1) := dk_177 (by decide +kernel)
def wsRX12_firstWays : List Cond := .code yX12_firstWays cX12_firstWays 2 none :: ([.fieldLink RX12 786 "OptimaWorksModel" "modelRows" "I", .fieldLink RX12 230 "OptimaWorksModel" "chosen" "[I"] ++ wsX120)
theorem iwsRX12_firstWays_in12 : ∀ w ∈ wsX120, w ∈ wsRX12_firstWays := fun _ h => List.mem_cons_of_mem _ (List.mem_append_right _ h)
theorem gdwsRX12_firstWays : wsRX12_firstWays.all goodWord = true := gdC rfl (gdA (by decide +kernel : ([.fieldLink RX12 786 "OptimaWorksModel" "modelRows" "I", .fieldLink RX12 230 "OptimaWorksModel" "chosen" "[I"] : List Cond).all goodWord = true) gdwsX120)
set_option maxHeartbeats 4000000 in
set_option maxRecDepth 100000 in
/-- firstWays() -/
theorem r_X12_firstWays (l : Launch) (dC : Nat → ClassId) (dI : Nat → Nat → Nat) (a : Nat → Nat) (k : Nat → ClassId) (h0 : Nat) (vi : Nat → Int32) (vj : Nat → Int64) (vF : Nat → Nat → Int32) (vG : Nat → Nat → Int64) (mr : Nat) (hmr : vi 91 = nI mr) (hmr12 : mr ≤ 12) (sz : Nat) : Met l yX12_firstWays wsRX12_firstWays ({ frames := 0, cells := 0, slots := 0, locals := 0 }) (va_Pc [.ref h0] (fun U => U.heap.size = sz ∧ va_P (dC, dI) vwCl (WR a k h0 vi vj vF vG) U.heap ∧ va_K (dC, dI) vwCl (tX12 k) U ∧ va_D (fun _ => True) (WR a k h0 vi vj vF vG))) (va_Qv (fun (u : Nat → Int32) => (∀ r, r < mr → u r = 0)) (fun (u : Nat → Int32) t => va_P (dC, dI) vwCl (WR a k h0 vi vj (fT vF 69 u) vG) t.heap ∧ va_D (va_A (WR a k h0 vi vj vF vG) sz) (WR a k h0 vi vj (fT vF 69 u) vG)) (va_A (WR a k h0 vi vj vF vG) sz)) 0 0 (va_A (WR a k h0 vi vj vF vG) sz) := by
  refine Met.ofW (cc := cX12_firstWays) (maxL := 2) (ret := none) (by decide) rfl ?_
  intro p e s m args below meth c s₁ B hml hv
  obtain ⟨rfl, hsz, hP, hK, hD0⟩ := hv
  have hx := B.exec
  have hb := B.bytes
  have hr := B.returns
  have hts := atoms_spec (ws := wsRX12_firstWays) B.pre
  have hown : s.vm.findClass RX12 = some m.cls := findClass_of_methodNamed B.named
  have hlocks := B.notSynchronized
  subst hsz
  have hD := hD0.self (sz := s.heap.size)
  generalize hAe : va_A (WR a k h0 vi vj vF vG) s.heap.size = A at hD ⊢
  have hA : ∀ q : Nat, s.heap.size ≤ q → A q := fun q h => by rw [← hAe]; exact Or.inr h
  have hS : va_S A s.heap s.heap [] := va_S.rf
  have hl := lv_entry ([.ref h0]) (n := 2) (Nat.le_of_ble_eq_true rfl)
  rw [lg_entry_eq]
  generalize (lg_sl ([.ref h0]) ++ List.replicate (2 - (lg_sl ([.ref h0])).length) Slot.unset).toArray = ls at hl ⊢
  have hl : lv_has ls 2 [(0, .ref h0)] := hl
  refine lv_iconst (v := 0) hx hb dX12_firstWays_0 (by decide) ?_
  refine lv_istore_n hx hb dX12_firstWays_1 rfl hl (by decide) rfl (fun ls (hl : lv_has ls _ ([(1, .int 0), (0, .ref h0)])) => ?_)
  have e9 : fT vF 69 (vF 69) = vF := by funext q9; by_cases h9_69 : q9 = 69; (subst h9_69; exact (fT_eq _ _ _).trans (Eq.trans (by first | with_reducible rfl | with_reducible assumption | (symm; with_reducible assumption) | rfl | assumption | (symm; assumption) | (subst_vars; rfl)) (Eq.refl _).symm)); exact (fT_ne _ _ h9_69).trans (Eq.refl _).symm
  have hP := wr_PF e9 hP
  have hD := wr_DF e9 hD
  clear e9
  have hl : lv_has _ _ ([(0, .ref h0), (1, .int (nI 0))]) := lv_sub hl [1, 0] rfl
  refine (fun (loop : ∀ (n9 : Nat) (i : Nat) (f69 : Nat → Int32) (H : Heap) (locs : List Loc) (ls : Array Slot), (i ≤ mr) → (∀ r, r < i → f69 r = 0) →  (mr < i + n9) → va_P (dC, dI) vwCl (WR a k h0 vi vj (fT vF 69 f69) vG) H → va_D A (WR a k h0 vi vj (fT vF 69 f69) vG) → va_S A s.heap H locs → lv_has ls 2 [(0, .ref h0), (1, .int (nI i))] → W p l e _ s m _ below meth c H locs 0 0 _ (F0 m 2 ls [])) => loop (mr + 1) 0 (vF 69) _ _ _ (by omega) (fun r hr9 => absurd hr9 (by omega)) (by omega) hP hD hS hl) ?_
  intro n9
  induction n9 with
  | zero => intro i f69 H locs ls hi hz hf9; exact False.elim (by omega)
  | succ n9 ih2 =>
    intro i f69 H locs ls hi hz hf2 hP hD hS hl
    refine lv_iload_n hx hb dX12_firstWays_2 rfl (lv_at hl 1 rfl) ?_
    refine lv_aload_n hx hb dX12_firstWays_3 rfl (lv_at hl 0 rfl) ?_
    refine va_get (D := (dC, dI)) (ci := 12) (v := .int (vi 91)) (C := RX12) (T := TX12) (N := 163) (fs := fM (vS a vi vj)) hx hb hts iwsRX12_firstWays_in12 hown hK hP 0 rfl rfl 91 (by decide) (hts (.fieldLink RX12 786 "OptimaWorksModel" "modelRows" "I") (by decide +kernel)) (fun _ h9 => h9) rfl dX12_firstWays_4 ?_
    refine lv_topi (fun y1 hy1 => ?_)
    obtain rfl : (nI mr) = y1 := (hy1.trans (hmr)).symm
    refine lv_icmp_ge (tgt := 23) hx hb dX12_firstWays_7 (by decide) (fun c_7 => ?_) (fun c_7 => ?_)
    · have t_7 : ((i : Nat) : Int) ≥ ((mr : Nat) : Int) := toI_ge c_7 (nI_toInt (by omega)) (nI_toInt (by omega))
      refine W.widen (k := 0) (n := 0) (by decide +kernel) (by decide +kernel) ?_
      exact W.vret hx hb hr (fun t9_ ht hW => ⟨⟨f69, rfl, by (try dsimp only); exact fun r hr9 => hz r (by omega), by rw [ht]; exact hP, hD⟩, hS.F ht⟩) hS.2.2 dX12_firstWays_23
    · have t_7 : ¬ ((i : Nat) : Int) ≥ ((mr : Nat) : Int) := toI_nge c_7 (nI_toInt (by omega)) (nI_toInt (by omega))
      refine lv_aload_n hx hb dX12_firstWays_10 rfl (lv_at hl 0 rfl) ?_
      refine va_get (D := (dC, dI)) (ci := 12) (v := .ref (a 69)) (C := RX12) (T := TX12) (N := 163) (fs := fM (vS a vi vj)) hx hb hts iwsRX12_firstWays_in12 hown hK hP 0 rfl rfl 114 (by decide) (hts (.fieldLink RX12 230 "OptimaWorksModel" "chosen" "[I") (by decide +kernel)) (fun _ h9 => h9) rfl dX12_firstWays_11 ?_
      refine lv_iload_n hx hb dX12_firstWays_14 rfl (lv_at hl 1 rfl) ?_
      refine lv_iconst (v := 0) hx hb dX12_firstWays_15 (by decide) ?_
      refine va_iast (cA := k 69) (n := 13) (f := f69) hx hb hK hP hD hS 70 69 (WR_get 69 (by decide)) (TR_get 69 (by decide)) (vp_in_nI (show i < 13 by omega) (by omega)) dX12_firstWays_16 (fun H locs hP hD hS => ?_)
      have e9 : fT vF 69 (upd f69 ((nI i)).toNatClampNeg 0) = fT (fT vF 69 f69) 69 (upd f69 ((nI i)).toNatClampNeg 0) := (fT_sm _ _ _ _).symm
      have hP := wr_PF e9 (fz_w (WR_F 69 (by decide) _ rfl) hP)
      have hD := wr_DF e9 (fz_wD (WR_F 69 (by decide) _ rfl) hD)
      clear e9
      refine lv_iinc (v := (nI (i + 1))) hx hb dX12_firstWays_17 hl (k := 1) rfl (nI_add i 1) (by decide) rfl (fun ls (hl : lv_has ls _ ([(1, .int (nI (i + 1))), (0, .ref h0)])) => ?_)
      refine lv_goto (tgt := 2) hx hb dX12_firstWays_20 (by decide) ?_
      have hl : lv_has _ _ ([(0, .ref h0), (1, .int (nI (i + 1)))]) := lv_sub hl [1, 0] rfl
      exact ih2 (i + 1) (upd f69 ((nI i)).toNatClampNeg 0) _ _ _ (by omega) (fun r hr9 => by rw [upd_at (by omega)]; by_cases e9 : r = i; (rw [if_pos e9]); (rw [if_neg e9]; exact hz r (by omega))) (by omega) hP hD hS hl
theorem dX12_firstValues_0 : decode cX12_firstValues 0 = .ok (.iconst 0, 1) := dk_3 (by decide +kernel)
theorem dX12_firstValues_1 : decode cX12_firstValues 1 = .ok (.istore_n 1, 1) := dk_60 (by decide +kernel)
theorem dX12_firstValues_2 : decode cX12_firstValues 2 = .ok (.iload_n 1, 1) := dk_27 (by decide +kernel)
theorem dX12_firstValues_3 : decode cX12_firstValues 3 = .ok (.aload_n 0, 1) := dk_42 (by decide +kernel)
theorem dX12_firstValues_4 : decode cX12_firstValues 4 = .ok (.getfield 774, 3) := dk_180 (by decide +kernel)
theorem dX12_firstValues_7 : decode cX12_firstValues 7 = .ok (.if_icmp .ge 21, 3) := dk_162 (by decide +kernel)
theorem dX12_firstValues_10 : decode cX12_firstValues 10 = .ok (.aload_n 0, 1) := dk_42 (by decide +kernel)
theorem dX12_firstValues_11 : decode cX12_firstValues 11 = .ok (.getfield 233, 3) := dk_180 (by decide +kernel)
theorem dX12_firstValues_14 : decode cX12_firstValues 14 = .ok (.iload_n 1, 1) := dk_27 (by decide +kernel)
theorem dX12_firstValues_15 : decode cX12_firstValues 15 = .ok (.aload_n 0, 1) := dk_42 (by decide +kernel)
theorem dX12_firstValues_16 : decode cX12_firstValues 16 = .ok (.getfield 191, 3) := dk_180 (by decide +kernel)
theorem dX12_firstValues_19 : decode cX12_firstValues 19 = .ok (.iload_n 1, 1) := dk_27 (by decide +kernel)
theorem dX12_firstValues_20 : decode cX12_firstValues 20 = .ok (.iaload, 1) := dk_46 (by decide +kernel)
theorem dX12_firstValues_21 : decode cX12_firstValues 21 = .ok (.iastore, 1) := dk_79 (by decide +kernel)
theorem dX12_firstValues_22 : decode cX12_firstValues 22 = .ok (.iinc 1 1, 3) := dk_132 (by decide +kernel)
theorem dX12_firstValues_25 : decode cX12_firstValues 25 = .ok (.goto (-23), 3) := dk_167 (by decide +kernel)
theorem dX12_firstValues_28 : decode cX12_firstValues 28 = .ok (.return_, 1) := dk_177 (by decide +kernel)
def wsRX12_firstValues : List Cond := .code yX12_firstValues cX12_firstValues 2 none :: ([.fieldLink RX12 774 "OptimaWorksModel" "variables" "I", .fieldLink RX12 233 "OptimaWorksModel" "value" "[I", .fieldLink RX12 191 "OptimaWorksModel" "low" "[I"] ++ wsX120)
theorem iwsRX12_firstValues_in12 : ∀ w ∈ wsX120, w ∈ wsRX12_firstValues := fun _ h => List.mem_cons_of_mem _ (List.mem_append_right _ h)
theorem gdwsRX12_firstValues : wsRX12_firstValues.all goodWord = true := gdC rfl (gdA (by decide +kernel : ([.fieldLink RX12 774 "OptimaWorksModel" "variables" "I", .fieldLink RX12 233 "OptimaWorksModel" "value" "[I", .fieldLink RX12 191 "OptimaWorksModel" "low" "[I"] : List Cond).all goodWord = true) gdwsX120)
set_option maxHeartbeats 4000000 in
set_option maxRecDepth 100000 in
/-- firstValues() -/
theorem r_X12_firstValues (l : Launch) (dC : Nat → ClassId) (dI : Nat → Nat → Nat) (a : Nat → Nat) (k : Nat → ClassId) (h0 : Nat) (vi : Nat → Int32) (vj : Nat → Int64) (vF : Nat → Nat → Int32) (vG : Nat → Nat → Int64) (vn : Nat) (hvn : vi 90 = nI vn) (hvn8 : vn ≤ 8) (sz : Nat) : Met l yX12_firstValues wsRX12_firstValues ({ frames := 0, cells := 0, slots := 0, locals := 0 }) (va_Pc [.ref h0] (fun U => U.heap.size = sz ∧ va_P (dC, dI) vwCl (WR a k h0 vi vj vF vG) U.heap ∧ va_K (dC, dI) vwCl (tX12 k) U ∧ va_D (fun _ => True) (WR a k h0 vi vj vF vG))) (va_Qv (fun (u : Nat → Int32) => (∀ k, k < vn → u k = vF 56 k) ∧ (∀ k, vn ≤ k → u k = vF 70 k)) (fun (u : Nat → Int32) t => va_P (dC, dI) vwCl (WR a k h0 vi vj (fT vF 70 u) vG) t.heap ∧ va_D (va_A (WR a k h0 vi vj vF vG) sz) (WR a k h0 vi vj (fT vF 70 u) vG)) (va_A (WR a k h0 vi vj vF vG) sz)) 0 0 (va_A (WR a k h0 vi vj vF vG) sz) := by
  refine Met.ofW (cc := cX12_firstValues) (maxL := 2) (ret := none) (by decide) rfl ?_
  intro p e s m args below meth c s₁ B hml hv
  obtain ⟨rfl, hsz, hP, hK, hD0⟩ := hv
  have hx := B.exec
  have hb := B.bytes
  have hr := B.returns
  have hts := atoms_spec (ws := wsRX12_firstValues) B.pre
  have hown : s.vm.findClass RX12 = some m.cls := findClass_of_methodNamed B.named
  have hlocks := B.notSynchronized
  subst hsz
  have hD := hD0.self (sz := s.heap.size)
  generalize hAe : va_A (WR a k h0 vi vj vF vG) s.heap.size = A at hD ⊢
  have hA : ∀ q : Nat, s.heap.size ≤ q → A q := fun q h => by rw [← hAe]; exact Or.inr h
  have hS : va_S A s.heap s.heap [] := va_S.rf
  have hl := lv_entry ([.ref h0]) (n := 2) (Nat.le_of_ble_eq_true rfl)
  rw [lg_entry_eq]
  generalize (lg_sl ([.ref h0]) ++ List.replicate (2 - (lg_sl ([.ref h0])).length) Slot.unset).toArray = ls at hl ⊢
  have hl : lv_has ls 2 [(0, .ref h0)] := hl
  refine lv_iconst (v := 0) hx hb dX12_firstValues_0 (by decide) ?_
  refine lv_istore_n hx hb dX12_firstValues_1 rfl hl (by decide) rfl (fun ls (hl : lv_has ls _ ([(1, .int 0), (0, .ref h0)])) => ?_)
  have e9 : fT vF 70 (vF 70) = vF := by funext q9; by_cases h9_70 : q9 = 70; (subst h9_70; exact (fT_eq _ _ _).trans (Eq.trans (by first | with_reducible rfl | with_reducible assumption | (symm; with_reducible assumption) | rfl | assumption | (symm; assumption) | (subst_vars; rfl)) (Eq.refl _).symm)); exact (fT_ne _ _ h9_70).trans (Eq.refl _).symm
  have hP := wr_PF e9 hP
  have hD := wr_DF e9 hD
  clear e9
  have hl : lv_has _ _ ([(0, .ref h0), (1, .int (nI 0))]) := lv_sub hl [1, 0] rfl
  refine (fun (loop : ∀ (n9 : Nat) (i : Nat) (f70 : Nat → Int32) (H : Heap) (locs : List Loc) (ls : Array Slot), (i ≤ vn) → (∀ r, r < i → f70 r = vF 56 r) → (∀ r, i ≤ r → f70 r = vF 70 r) →  (vn < i + n9) → va_P (dC, dI) vwCl (WR a k h0 vi vj (fT vF 70 f70) vG) H → va_D A (WR a k h0 vi vj (fT vF 70 f70) vG) → va_S A s.heap H locs → lv_has ls 2 [(0, .ref h0), (1, .int (nI i))] → W p l e _ s m _ below meth c H locs 0 0 _ (F0 m 2 ls [])) => loop (vn + 1) 0 (vF 70) _ _ _ (by omega) (fun r hr9 => absurd hr9 (by omega)) (fun r _ => rfl) (by omega) hP hD hS hl) ?_
  intro n9
  induction n9 with
  | zero => intro i f70 H locs ls hi hz hz2 hf9; exact False.elim (by omega)
  | succ n9 ih2 =>
    intro i f70 H locs ls hi hz hz2 hf2 hP hD hS hl
    refine lv_iload_n hx hb dX12_firstValues_2 rfl (lv_at hl 1 rfl) ?_
    refine lv_aload_n hx hb dX12_firstValues_3 rfl (lv_at hl 0 rfl) ?_
    refine va_get (D := (dC, dI)) (ci := 12) (v := .int (vi 90)) (C := RX12) (T := TX12) (N := 163) (fs := fM (vS a vi vj)) hx hb hts iwsRX12_firstValues_in12 hown hK hP 0 rfl rfl 90 (by decide) (hts (.fieldLink RX12 774 "OptimaWorksModel" "variables" "I") (by decide +kernel)) (fun _ h9 => h9) rfl dX12_firstValues_4 ?_
    refine lv_topi (fun y1 hy1 => ?_)
    obtain rfl : (nI vn) = y1 := (hy1.trans (hvn)).symm
    refine lv_icmp_ge (tgt := 28) hx hb dX12_firstValues_7 (by decide) (fun c_7 => ?_) (fun c_7 => ?_)
    · have t_7 : ((i : Nat) : Int) ≥ ((vn : Nat) : Int) := toI_ge c_7 (nI_toInt (by omega)) (nI_toInt (by omega))
      refine W.widen (k := 0) (n := 0) (by decide +kernel) (by decide +kernel) ?_
      exact W.vret hx hb hr (fun t9_ ht hW => ⟨⟨f70, rfl, by (try dsimp only); exact ⟨fun r hr9 => hz r (by omega), fun r hr9 => hz2 r (by omega)⟩, by rw [ht]; exact hP, hD⟩, hS.F ht⟩) hS.2.2 dX12_firstValues_28
    · have t_7 : ¬ ((i : Nat) : Int) ≥ ((vn : Nat) : Int) := toI_nge c_7 (nI_toInt (by omega)) (nI_toInt (by omega))
      refine lv_aload_n hx hb dX12_firstValues_10 rfl (lv_at hl 0 rfl) ?_
      refine va_get (D := (dC, dI)) (ci := 12) (v := .ref (a 70)) (C := RX12) (T := TX12) (N := 163) (fs := fM (vS a vi vj)) hx hb hts iwsRX12_firstValues_in12 hown hK hP 0 rfl rfl 115 (by decide) (hts (.fieldLink RX12 233 "OptimaWorksModel" "value" "[I") (by decide +kernel)) (fun _ h9 => h9) rfl dX12_firstValues_11 ?_
      refine lv_iload_n hx hb dX12_firstValues_14 rfl (lv_at hl 1 rfl) ?_
      refine lv_aload_n hx hb dX12_firstValues_15 rfl (lv_at hl 0 rfl) ?_
      refine va_get (D := (dC, dI)) (ci := 12) (v := .ref (a 56)) (C := RX12) (T := TX12) (N := 163) (fs := fM (vS a vi vj)) hx hb hts iwsRX12_firstValues_in12 hown hK hP 0 rfl rfl 96 (by decide) (hts (.fieldLink RX12 191 "OptimaWorksModel" "low" "[I") (by decide +kernel)) (fun _ h9 => h9) rfl dX12_firstValues_16 ?_
      refine lv_iload_n hx hb dX12_firstValues_19 rfl (lv_at hl 1 rfl) ?_
      refine va_iald (cA := k 56) (n := 9) (f := (vF 56)) hx hb hK hP 57 56 (WR_get 56 (by decide)) (TR_get 56 (by decide)) (vp_in_nI (show i < 9 by omega) (by omega)) dX12_firstValues_20 ?_
      refine lv_topi (fun y2 hy2 => ?_)
      obtain rfl : ((vF 56) i) = y2 := (hy2.trans (by rw [nI_clamp (by omega)])).symm
      refine va_iast (cA := k 70) (n := 9) (f := f70) hx hb hK hP hD hS 71 70 (WR_get 70 (by decide)) (TR_get 70 (by decide)) (vp_in_nI (show i < 9 by omega) (by omega)) dX12_firstValues_21 (fun H locs hP hD hS => ?_)
      have e9 : fT vF 70 (upd f70 ((nI i)).toNatClampNeg ((vF 56) i)) = fT (fT vF 70 f70) 70 (upd f70 ((nI i)).toNatClampNeg ((vF 56) i)) := (fT_sm _ _ _ _).symm
      have hP := wr_PF e9 (fz_w (WR_F 70 (by decide) _ rfl) hP)
      have hD := wr_DF e9 (fz_wD (WR_F 70 (by decide) _ rfl) hD)
      clear e9
      refine lv_iinc (v := (nI (i + 1))) hx hb dX12_firstValues_22 hl (k := 1) rfl (nI_add i 1) (by decide) rfl (fun ls (hl : lv_has ls _ ([(1, .int (nI (i + 1))), (0, .ref h0)])) => ?_)
      refine lv_goto (tgt := 2) hx hb dX12_firstValues_25 (by decide) ?_
      have hl : lv_has _ _ ([(0, .ref h0), (1, .int (nI (i + 1)))]) := lv_sub hl [1, 0] rfl
      exact ih2 (i + 1) (upd f70 ((nI i)).toNatClampNeg ((vF 56) i)) _ _ _ (by omega) (fun r hr9 => by rw [upd_at (by omega)]; by_cases e9 : r = i; (rw [if_pos e9, e9]); (rw [if_neg e9]; exact hz r (by omega))) (fun r hr9 => by rw [upd_at (by omega), if_neg (by omega)]; exact hz2 r (by omega)) (by omega) hP hD hS hl
theorem dX12_differ_0 : decode cX12_differ 0 = .ok (.iconst 0, 1) := dk_3 (by decide +kernel)
theorem dX12_differ_1 : decode cX12_differ 1 = .ok (.istore_n 1, 1) := dk_60 (by decide +kernel)
theorem dX12_differ_2 : decode cX12_differ 2 = .ok (.iload_n 1, 1) := dk_27 (by decide +kernel)
theorem dX12_differ_3 : decode cX12_differ 3 = .ok (.aload_n 0, 1) := dk_42 (by decide +kernel)
theorem dX12_differ_4 : decode cX12_differ 4 = .ok (.getfield 802, 3) := dk_180 (by decide +kernel)
theorem dX12_differ_7 : decode cX12_differ 7 = .ok (.if_icmp .ge 88, 3) := dk_162 (by decide +kernel)
theorem dX12_differ_10 : decode cX12_differ 10 = .ok (.iconst 0, 1) := dk_3 (by decide +kernel)
theorem dX12_differ_11 : decode cX12_differ 11 = .ok (.istore_n 2, 1) := dk_61 (by decide +kernel)
theorem dX12_differ_12 : decode cX12_differ 12 = .ok (.iload_n 2, 1) := dk_28 (by decide +kernel)
theorem dX12_differ_13 : decode cX12_differ 13 = .ok (.aload_n 0, 1) := dk_42 (by decide +kernel)
theorem dX12_differ_14 : decode cX12_differ 14 = .ok (.getfield 774, 3) := dk_180 (by decide +kernel)
theorem dX12_differ_17 : decode cX12_differ 17 = .ok (.if_icmp .ge 72, 3) := dk_162 (by decide +kernel)
theorem dX12_differ_20 : decode cX12_differ 20 = .ok (.iload_n 2, 1) := dk_28 (by decide +kernel)
theorem dX12_differ_21 : decode cX12_differ 21 = .ok (.iconst 1, 1) := dk_4 (by decide +kernel)
theorem dX12_differ_22 : decode cX12_differ 22 = .ok (.iadd, 1) := dk_96 (by decide +kernel)
theorem dX12_differ_23 : decode cX12_differ 23 = .ok (.istore_n 3, 1) := dk_62 (by decide +kernel)
theorem dX12_differ_24 : decode cX12_differ 24 = .ok (.iload_n 3, 1) := dk_29 (by decide +kernel)
theorem dX12_differ_25 : decode cX12_differ 25 = .ok (.aload_n 0, 1) := dk_42 (by decide +kernel)
theorem dX12_differ_26 : decode cX12_differ 26 = .ok (.getfield 774, 3) := dk_180 (by decide +kernel)
theorem dX12_differ_29 : decode cX12_differ 29 = .ok (.if_icmp .ge 54, 3) := dk_162 (by decide +kernel)
theorem dX12_differ_32 : decode cX12_differ 32 = .ok (.aload_n 0, 1) := dk_42 (by decide +kernel)
theorem dX12_differ_33 : decode cX12_differ 33 = .ok (.getfield 209, 3) := dk_180 (by decide +kernel)
theorem dX12_differ_36 : decode cX12_differ 36 = .ok (.iload_n 1, 1) := dk_27 (by decide +kernel)
theorem dX12_differ_37 : decode cX12_differ 37 = .ok (.iaload, 1) := dk_46 (by decide +kernel)
theorem dX12_differ_38 : decode cX12_differ 38 = .ok (.iload_n 2, 1) := dk_28 (by decide +kernel)
theorem dX12_differ_39 : decode cX12_differ 39 = .ok (.ishr, 1) := dk_122 (by decide +kernel)
theorem dX12_differ_40 : decode cX12_differ 40 = .ok (.iconst 1, 1) := dk_4 (by decide +kernel)
theorem dX12_differ_41 : decode cX12_differ 41 = .ok (.iand, 1) := dk_126 (by decide +kernel)
theorem dX12_differ_42 : decode cX12_differ 42 = .ok (.iconst 1, 1) := dk_4 (by decide +kernel)
theorem dX12_differ_43 : decode cX12_differ 43 = .ok (.if_icmp .ne 34, 3) := dk_160 (by decide +kernel)
theorem dX12_differ_46 : decode cX12_differ 46 = .ok (.aload_n 0, 1) := dk_42 (by decide +kernel)
theorem dX12_differ_47 : decode cX12_differ 47 = .ok (.getfield 209, 3) := dk_180 (by decide +kernel)
theorem dX12_differ_50 : decode cX12_differ 50 = .ok (.iload_n 1, 1) := dk_27 (by decide +kernel)
theorem dX12_differ_51 : decode cX12_differ 51 = .ok (.iaload, 1) := dk_46 (by decide +kernel)
theorem dX12_differ_52 : decode cX12_differ 52 = .ok (.iload_n 3, 1) := dk_29 (by decide +kernel)
theorem dX12_differ_53 : decode cX12_differ 53 = .ok (.ishr, 1) := dk_122 (by decide +kernel)
theorem dX12_differ_54 : decode cX12_differ 54 = .ok (.iconst 1, 1) := dk_4 (by decide +kernel)
theorem dX12_differ_55 : decode cX12_differ 55 = .ok (.iand, 1) := dk_126 (by decide +kernel)
theorem dX12_differ_56 : decode cX12_differ 56 = .ok (.iconst 1, 1) := dk_4 (by decide +kernel)
theorem dX12_differ_57 : decode cX12_differ 57 = .ok (.if_icmp .ne 20, 3) := dk_160 (by decide +kernel)
theorem dX12_differ_60 : decode cX12_differ 60 = .ok (.aload_n 0, 1) := dk_42 (by decide +kernel)
theorem dX12_differ_61 : decode cX12_differ 61 = .ok (.getfield 233, 3) := dk_180 (by decide +kernel)
theorem dX12_differ_64 : decode cX12_differ 64 = .ok (.iload_n 2, 1) := dk_28 (by decide +kernel)
theorem dX12_differ_65 : decode cX12_differ 65 = .ok (.iaload, 1) := dk_46 (by decide +kernel)
theorem dX12_differ_66 : decode cX12_differ 66 = .ok (.aload_n 0, 1) := dk_42 (by decide +kernel)
theorem dX12_differ_67 : decode cX12_differ 67 = .ok (.getfield 233, 3) := dk_180 (by decide +kernel)
theorem dX12_differ_70 : decode cX12_differ 70 = .ok (.iload_n 3, 1) := dk_29 (by decide +kernel)
theorem dX12_differ_71 : decode cX12_differ 71 = .ok (.iaload, 1) := dk_46 (by decide +kernel)
theorem dX12_differ_72 : decode cX12_differ 72 = .ok (.if_icmp .ne 5, 3) := dk_160 (by decide +kernel)
theorem dX12_differ_75 : decode cX12_differ 75 = .ok (.iconst 0, 1) := dk_3 (by decide +kernel)
theorem dX12_differ_76 : decode cX12_differ 76 = .ok (.ireturn, 1) := dk_172 (by decide +kernel)
theorem dX12_differ_77 : decode cX12_differ 77 = .ok (.iinc 3 1, 3) := dk_132 (by decide +kernel)
theorem dX12_differ_80 : decode cX12_differ 80 = .ok (.goto (-56), 3) := dk_167 (by decide +kernel)
theorem dX12_differ_83 : decode cX12_differ 83 = .ok (.iinc 2 1, 3) := dk_132 (by decide +kernel)
theorem dX12_differ_86 : decode cX12_differ 86 = .ok (.goto (-74), 3) := dk_167 (by decide +kernel)
theorem dX12_differ_89 : decode cX12_differ 89 = .ok (.iinc 1 1, 3) := dk_132 (by decide +kernel)
theorem dX12_differ_92 : decode cX12_differ 92 = .ok (.goto (-90), 3) := dk_167 (by decide +kernel)
theorem dX12_differ_95 : decode cX12_differ 95 = .ok (.iconst 1, 1) := dk_4 (by decide +kernel)
theorem dX12_differ_96 : decode cX12_differ 96 = .ok (.ireturn, 1) := dk_172 (by decide +kernel)
def wsRX12_differ : List Cond := .code yX12_differ cX12_differ 4 (some .boolean) :: ([.fieldLink RX12 802 "OptimaWorksModel" "differents" "I", .fieldLink RX12 774 "OptimaWorksModel" "variables" "I", .fieldLink RX12 209 "OptimaWorksModel" "differentSet" "[I", .fieldLink RX12 233 "OptimaWorksModel" "value" "[I"] ++ wsX120)
theorem iwsRX12_differ_in12 : ∀ w ∈ wsX120, w ∈ wsRX12_differ := fun _ h => List.mem_cons_of_mem _ (List.mem_append_right _ h)
theorem gdwsRX12_differ : wsRX12_differ.all goodWord = true := gdC rfl (gdA (by decide +kernel : ([.fieldLink RX12 802 "OptimaWorksModel" "differents" "I", .fieldLink RX12 774 "OptimaWorksModel" "variables" "I", .fieldLink RX12 209 "OptimaWorksModel" "differentSet" "[I", .fieldLink RX12 233 "OptimaWorksModel" "value" "[I"] : List Cond).all goodWord = true) gdwsX120)
theorem hm_r_X12_differ_0 : (.fieldLink RX12 774 "OptimaWorksModel" "variables" "I" : Cond) ∈ wsRX12_differ := by decide +kernel
theorem hm_r_X12_differ_1 : (.fieldLink RX12 209 "OptimaWorksModel" "differentSet" "[I" : Cond) ∈ wsRX12_differ := by decide +kernel
theorem hm_r_X12_differ_2 : (.fieldLink RX12 233 "OptimaWorksModel" "value" "[I" : Cond) ∈ wsRX12_differ := by decide +kernel
set_option maxHeartbeats 4000000 in
set_option maxRecDepth 100000 in
/-- differ() -/
theorem r_X12_differ (l : Launch) (dC : Nat → ClassId) (dI : Nat → Nat → Nat) (a : Nat → Nat) (k : Nat → ClassId) (h0 : Nat) (vi : Nat → Int32) (vj : Nat → Int64) (vF : Nat → Nat → Int32) (vG : Nat → Nat → Int64) (vn : Nat) (dn : Nat) (hvn : vi 90 = nI vn) (hvn8 : vn ≤ 8) (hdn : vi 92 = nI dn) (hdn8 : dn ≤ 8) (sz : Nat) : Met l yX12_differ wsRX12_differ ({ frames := 0, cells := 0, slots := 0, locals := 0 }) (va_Pc [.ref h0] (fun U => U.heap.size = sz ∧ va_P (dC, dI) vwCl (WR a k h0 vi vj vF vG) U.heap ∧ va_K (dC, dI) vwCl (tX12 k) U ∧ va_D (fun _ => True) (WR a k h0 vi vj vF vG))) (va_Qi (fun (r : Int32) (u : Unit) => ((r) = 0 ∨ (r) = 1)) (fun (u : Unit) t => va_P (dC, dI) vwCl (WR a k h0 vi vj vF vG) t.heap ∧ va_D (va_A (WR a k h0 vi vj vF vG) sz) (WR a k h0 vi vj vF vG)) (va_A (WR a k h0 vi vj vF vG) sz)) 0 0 (va_A (WR a k h0 vi vj vF vG) sz) := by
  refine Met.ofW (cc := cX12_differ) (maxL := 4) (ret := (some .boolean)) (by decide) rfl ?_
  intro p e s m args below meth c s₁ B hml hv
  obtain ⟨rfl, hsz, hP, hK, hD0⟩ := hv
  have hx := B.exec
  have hb := B.bytes
  have hr := B.returns
  have hts := atoms_spec (ws := wsRX12_differ) B.pre
  have hown : s.vm.findClass RX12 = some m.cls := findClass_of_methodNamed B.named
  have hlocks := B.notSynchronized
  subst hsz
  have hD := hD0.self (sz := s.heap.size)
  generalize hAe : va_A (WR a k h0 vi vj vF vG) s.heap.size = A at hD ⊢
  have hA : ∀ q : Nat, s.heap.size ≤ q → A q := fun q h => by rw [← hAe]; exact Or.inr h
  have hS : va_S A s.heap s.heap [] := va_S.rf
  have hl := lv_entry ([.ref h0]) (n := 4) (Nat.le_of_ble_eq_true rfl)
  rw [lg_entry_eq]
  generalize (lg_sl ([.ref h0]) ++ List.replicate (4 - (lg_sl ([.ref h0])).length) Slot.unset).toArray = ls at hl ⊢
  have hl : lv_has ls 4 [(0, .ref h0)] := hl
  refine lv_iconst (v := 0) hx hb dX12_differ_0 (by decide) ?_
  refine lv_istore_n hx hb dX12_differ_1 rfl hl (by decide) rfl (fun ls (hl : lv_has ls _ ([(1, .int 0), (0, .ref h0)])) => ?_)
  have hl : lv_has _ _ ([(0, .ref h0), (1, .int (nI 0))]) := lv_sub hl [1, 0] rfl
  refine (fun (loop : ∀ (n9 : Nat) (d5 : Nat) (H : Heap) (locs : List Loc) (ls : Array Slot), (d5 ≤ dn) →  (dn < d5 + n9) → va_P (dC, dI) vwCl (WR a k h0 vi vj vF vG) H → va_D A (WR a k h0 vi vj vF vG) → va_S A s.heap H locs → lv_has ls 4 [(0, .ref h0), (1, .int (nI d5))] → W p l e _ s m _ below meth c H locs 0 0 _ (F0 m 2 ls [])) => loop (dn + 1) 0 _ _ _ (by omega) (by omega) hP hD hS hl) ?_
  intro n9
  induction n9 with
  | zero => intro d5 H locs ls hd5 hf9; exact False.elim (by omega)
  | succ n9 ih2 =>
    intro d5 H locs ls hd5 hf2 hP hD hS hl
    refine lv_iload_n hx hb dX12_differ_2 rfl (lv_at hl 1 rfl) ?_
    refine lv_aload_n hx hb dX12_differ_3 rfl (lv_at hl 0 rfl) ?_
    refine va_get (D := (dC, dI)) (ci := 12) (v := .int (vi 92)) (C := RX12) (T := TX12) (N := 163) (fs := fM (vS a vi vj)) hx hb hts iwsRX12_differ_in12 hown hK hP 0 rfl rfl 92 (by decide) (hts (.fieldLink RX12 802 "OptimaWorksModel" "differents" "I") (by decide +kernel)) (fun _ h9 => h9) rfl dX12_differ_4 ?_
    refine lv_topi (fun y1 hy1 => ?_)
    obtain rfl : (nI dn) = y1 := (hy1.trans (hdn)).symm
    refine lv_icmp_ge (tgt := 95) hx hb dX12_differ_7 (by decide) (fun c_7 => ?_) (fun c_7 => ?_)
    · have t_7 : ((d5 : Nat) : Int) ≥ ((dn : Nat) : Int) := toI_ge c_7 (nI_toInt (by omega)) (nI_toInt (by omega))
      refine lv_iconst (v := 1) hx hb dX12_differ_95 (by decide) ?_
      refine W.widen (k := 0) (n := 0) (by decide +kernel) (by decide +kernel) ?_
      exact W.zret (v := 1) hx hb hr rfl (fun t9_ ht hW => ⟨⟨1, (), rfl, by (try dsimp only); exact Or.inr rfl, by rw [ht]; exact hP, hD⟩, hS.F ht⟩) hS.2.2 dX12_differ_96
    · have t_7 : ¬ ((d5 : Nat) : Int) ≥ ((dn : Nat) : Int) := toI_nge c_7 (nI_toInt (by omega)) (nI_toInt (by omega))
      refine lv_iconst (v := 0) hx hb dX12_differ_10 (by decide) ?_
      refine lv_istore_n hx hb dX12_differ_11 rfl hl (by decide) rfl (fun ls (hl : lv_has ls _ ([(2, .int 0), (0, .ref h0), (1, .int (nI d5))])) => ?_)
      have hl : lv_has _ _ ([(0, .ref h0), (1, .int (nI d5)), (2, .int (nI 0))]) := lv_sub hl [1, 2, 0] rfl
      refine (fun (loop : ∀ (n9 : Nat) (i5 : Nat) (H : Heap) (locs : List Loc) (ls : Array Slot), (i5 ≤ vn) →  (vn < i5 + n9) → va_P (dC, dI) vwCl (WR a k h0 vi vj vF vG) H → va_D A (WR a k h0 vi vj vF vG) → va_S A s.heap H locs → lv_has ls 4 [(0, .ref h0), (1, .int (nI d5)), (2, .int (nI i5))] → W p l e _ s m _ below meth c H locs 0 0 _ (F0 m 12 ls [])) => loop (vn + 1) 0 _ _ _ (by omega) (by omega) hP hD hS hl) ?_
      intro n9
      induction n9 with
      | zero => intro i5 H locs ls hi5 hf9; exact False.elim (by omega)
      | succ n9 ih12_1 =>
        intro i5 H locs ls hi5 hf12_1 hP hD hS hl
        refine lv_iload_n hx hb dX12_differ_12 rfl (lv_at hl 2 rfl) ?_
        refine lv_aload_n hx hb dX12_differ_13 rfl (lv_at hl 0 rfl) ?_
        refine va_get (D := (dC, dI)) (ci := 12) (v := .int (vi 90)) (C := RX12) (T := TX12) (N := 163) (fs := fM (vS a vi vj)) hx hb hts iwsRX12_differ_in12 hown hK hP 0 rfl rfl 90 (by decide) (hts _ hm_r_X12_differ_0) (fun _ h9 => h9) rfl dX12_differ_14 ?_
        refine lv_topi (fun y2 hy2 => ?_)
        obtain rfl : (nI vn) = y2 := (hy2.trans (hvn)).symm
        refine lv_icmp_ge (tgt := 89) hx hb dX12_differ_17 (by decide) (fun c_17 => ?_) (fun c_17 => ?_)
        · have t_17 : ((i5 : Nat) : Int) ≥ ((vn : Nat) : Int) := toI_ge c_17 (nI_toInt (by omega)) (nI_toInt (by omega))
          refine lv_iinc (v := (nI (d5 + 1))) hx hb dX12_differ_89 hl (k := 1) rfl (nI_add d5 1) (by decide) rfl (fun ls (hl : lv_has ls _ ([(1, .int (nI (d5 + 1))), (0, .ref h0), (2, .int (nI i5))])) => ?_)
          refine lv_goto (tgt := 2) hx hb dX12_differ_92 (by decide) ?_
          have hl : lv_has _ _ ([(0, .ref h0), (1, .int (nI (d5 + 1)))]) := lv_sub hl [1, 0] rfl
          exact ih2 (d5 + 1) _ _ _ (by omega) (by omega) hP hD hS hl
        · have t_17 : ¬ ((i5 : Nat) : Int) ≥ ((vn : Nat) : Int) := toI_nge c_17 (nI_toInt (by omega)) (nI_toInt (by omega))
          refine lv_iload_n hx hb dX12_differ_20 rfl (lv_at hl 2 rfl) ?_
          refine lv_iconst (v := 1) hx hb dX12_differ_21 (by decide) ?_
          refine lv_iadd hx hb dX12_differ_22 ?_
          refine lv_topi (fun y3 hy3 => ?_)
          obtain rfl : (nI (i5 + 1)) = y3 := (hy3.trans (nI_add i5 1)).symm
          refine lv_istore_n hx hb dX12_differ_23 rfl hl (by decide) rfl (fun ls (hl : lv_has ls _ ([(3, .int (nI (i5 + 1))), (0, .ref h0), (1, .int (nI d5)), (2, .int (nI i5))])) => ?_)
          have hl : lv_has _ _ ([(0, .ref h0), (1, .int (nI d5)), (2, .int (nI i5)), (3, .int (nI (i5 + 1)))]) := lv_sub hl [1, 2, 3, 0] rfl
          refine (fun (loop : ∀ (n9 : Nat) (j5 : Nat) (H : Heap) (locs : List Loc) (ls : Array Slot), (j5 ≤ vn) →  (vn < j5 + n9) → va_P (dC, dI) vwCl (WR a k h0 vi vj vF vG) H → va_D A (WR a k h0 vi vj vF vG) → va_S A s.heap H locs → lv_has ls 4 [(0, .ref h0), (1, .int (nI d5)), (2, .int (nI i5)), (3, .int (nI j5))] → W p l e _ s m _ below meth c H locs 0 0 _ (F0 m 24 ls [])) => loop (vn + 1) (i5 + 1) _ _ _ (by omega) (by omega) hP hD hS hl) ?_
          intro n9
          induction n9 with
          | zero => intro j5 H locs ls hj5 hf9; exact False.elim (by omega)
          | succ n9 ih24_2 =>
            intro j5 H locs ls hj5 hf24_2 hP hD hS hl
            refine lv_iload_n hx hb dX12_differ_24 rfl (lv_at hl 3 rfl) ?_
            refine lv_aload_n hx hb dX12_differ_25 rfl (lv_at hl 0 rfl) ?_
            refine va_get (D := (dC, dI)) (ci := 12) (v := .int (vi 90)) (C := RX12) (T := TX12) (N := 163) (fs := fM (vS a vi vj)) hx hb hts iwsRX12_differ_in12 hown hK hP 0 rfl rfl 90 (by decide) (hts _ hm_r_X12_differ_0) (fun _ h9 => h9) rfl dX12_differ_26 ?_
            refine lv_topi (fun y4 hy4 => ?_)
            obtain rfl : (nI vn) = y4 := (hy4.trans (hvn)).symm
            refine lv_icmp_ge (tgt := 83) hx hb dX12_differ_29 (by decide) (fun c_29 => ?_) (fun c_29 => ?_)
            · have t_29 : ((j5 : Nat) : Int) ≥ ((vn : Nat) : Int) := toI_ge c_29 (nI_toInt (by omega)) (nI_toInt (by omega))
              refine lv_iinc (v := (nI (i5 + 1))) hx hb dX12_differ_83 hl (k := 2) rfl (nI_add i5 1) (by decide) rfl (fun ls (hl : lv_has ls _ ([(2, .int (nI (i5 + 1))), (0, .ref h0), (1, .int (nI d5)), (3, .int (nI j5))])) => ?_)
              refine lv_goto (tgt := 12) hx hb dX12_differ_86 (by decide) ?_
              have hl : lv_has _ _ ([(0, .ref h0), (1, .int (nI d5)), (2, .int (nI (i5 + 1)))]) := lv_sub hl [1, 2, 0] rfl
              exact ih12_1 (i5 + 1) _ _ _ (by omega) (by omega) hP hD hS hl
            · have t_29 : ¬ ((j5 : Nat) : Int) ≥ ((vn : Nat) : Int) := toI_nge c_29 (nI_toInt (by omega)) (nI_toInt (by omega))
              refine lv_aload_n hx hb dX12_differ_32 rfl (lv_at hl 0 rfl) ?_
              refine va_get (D := (dC, dI)) (ci := 12) (v := .ref (a 62)) (C := RX12) (T := TX12) (N := 163) (fs := fM (vS a vi vj)) hx hb hts iwsRX12_differ_in12 hown hK hP 0 rfl rfl 102 (by decide) (hts _ hm_r_X12_differ_1) (fun _ h9 => h9) rfl dX12_differ_33 ?_
              refine lv_iload_n hx hb dX12_differ_36 rfl (lv_at hl 1 rfl) ?_
              refine va_iald (cA := k 62) (n := 9) (f := (vF 62)) hx hb hK hP 63 62 (WR_get 62 (by decide)) (TR_get 62 (by decide)) (vp_in_nI (show d5 < 9 by omega) (by omega)) dX12_differ_37 ?_
              refine lv_topi (fun y5 hy5 => ?_)
              obtain rfl : ((vF 62) d5) = y5 := (hy5.trans (by rw [nI_clamp (by omega)])).symm
              refine lv_iload_n hx hb dX12_differ_38 rfl (lv_at hl 2 rfl) ?_
              refine lv_ishr hx hb dX12_differ_39 ?_
              refine lv_iconst (v := 1) hx hb dX12_differ_40 (by decide) ?_
              refine lv_iand hx hb dX12_differ_41 ?_
              refine lv_iconst (v := 1) hx hb dX12_differ_42 (by decide) ?_
              refine lv_icmp_ne (tgt := 77) hx hb dX12_differ_43 (by decide) (fun c_43 => ?_) (fun c_43 => ?_)
              · have t_43 : (((((vF 62) d5) >>> ((nI i5) &&& 31)) &&& 1)).toInt ≠ 1 := toI_ne c_43 rfl (by decide)
                refine lv_iinc (v := (nI (j5 + 1))) hx hb dX12_differ_77 hl (k := 3) rfl (nI_add j5 1) (by decide) rfl (fun ls (hl : lv_has ls _ ([(3, .int (nI (j5 + 1))), (0, .ref h0), (1, .int (nI d5)), (2, .int (nI i5))])) => ?_)
                refine lv_goto (tgt := 24) hx hb dX12_differ_80 (by decide) ?_
                have hl : lv_has _ _ ([(0, .ref h0), (1, .int (nI d5)), (2, .int (nI i5)), (3, .int (nI (j5 + 1)))]) := lv_sub hl [1, 2, 3, 0] rfl
                exact ih24_2 (j5 + 1) _ _ _ (by omega) (by omega) hP hD hS hl
              · have t_43 : (((((vF 62) d5) >>> ((nI i5) &&& 31)) &&& 1)).toInt = 1 := toI_nne c_43 rfl (by decide)
                refine lv_aload_n hx hb dX12_differ_46 rfl (lv_at hl 0 rfl) ?_
                refine va_get (D := (dC, dI)) (ci := 12) (v := .ref (a 62)) (C := RX12) (T := TX12) (N := 163) (fs := fM (vS a vi vj)) hx hb hts iwsRX12_differ_in12 hown hK hP 0 rfl rfl 102 (by decide) (hts _ hm_r_X12_differ_1) (fun _ h9 => h9) rfl dX12_differ_47 ?_
                refine lv_iload_n hx hb dX12_differ_50 rfl (lv_at hl 1 rfl) ?_
                refine va_iald (cA := k 62) (n := 9) (f := (vF 62)) hx hb hK hP 63 62 (WR_get 62 (by decide)) (TR_get 62 (by decide)) (vp_in_nI (show d5 < 9 by omega) (by omega)) dX12_differ_51 ?_
                refine lv_topi (fun y6 hy6 => ?_)
                obtain rfl : ((vF 62) d5) = y6 := (hy6.trans (by rw [nI_clamp (by omega)])).symm
                refine lv_iload_n hx hb dX12_differ_52 rfl (lv_at hl 3 rfl) ?_
                refine lv_ishr hx hb dX12_differ_53 ?_
                refine lv_iconst (v := 1) hx hb dX12_differ_54 (by decide) ?_
                refine lv_iand hx hb dX12_differ_55 ?_
                refine lv_iconst (v := 1) hx hb dX12_differ_56 (by decide) ?_
                refine lv_icmp_ne (tgt := 77) hx hb dX12_differ_57 (by decide) (fun c_57 => ?_) (fun c_57 => ?_)
                · have t_57 : (((((vF 62) d5) >>> ((nI j5) &&& 31)) &&& 1)).toInt ≠ 1 := toI_ne c_57 rfl (by decide)
                  refine lv_iinc (v := (nI (j5 + 1))) hx hb dX12_differ_77 hl (k := 3) rfl (nI_add j5 1) (by decide) rfl (fun ls (hl : lv_has ls _ ([(3, .int (nI (j5 + 1))), (0, .ref h0), (1, .int (nI d5)), (2, .int (nI i5))])) => ?_)
                  refine lv_goto (tgt := 24) hx hb dX12_differ_80 (by decide) ?_
                  have hl : lv_has _ _ ([(0, .ref h0), (1, .int (nI d5)), (2, .int (nI i5)), (3, .int (nI (j5 + 1)))]) := lv_sub hl [1, 2, 3, 0] rfl
                  exact ih24_2 (j5 + 1) _ _ _ (by omega) (by omega) hP hD hS hl
                · have t_57 : (((((vF 62) d5) >>> ((nI j5) &&& 31)) &&& 1)).toInt = 1 := toI_nne c_57 rfl (by decide)
                  refine lv_aload_n hx hb dX12_differ_60 rfl (lv_at hl 0 rfl) ?_
                  refine va_get (D := (dC, dI)) (ci := 12) (v := .ref (a 70)) (C := RX12) (T := TX12) (N := 163) (fs := fM (vS a vi vj)) hx hb hts iwsRX12_differ_in12 hown hK hP 0 rfl rfl 115 (by decide) (hts _ hm_r_X12_differ_2) (fun _ h9 => h9) rfl dX12_differ_61 ?_
                  refine lv_iload_n hx hb dX12_differ_64 rfl (lv_at hl 2 rfl) ?_
                  refine va_iald (cA := k 70) (n := 9) (f := (vF 70)) hx hb hK hP 71 70 (WR_get 70 (by decide)) (TR_get 70 (by decide)) (vp_in_nI (show i5 < 9 by omega) (by omega)) dX12_differ_65 ?_
                  refine lv_topi (fun y7 hy7 => ?_)
                  obtain rfl : ((vF 70) i5) = y7 := (hy7.trans (by rw [nI_clamp (by omega)])).symm
                  refine lv_aload_n hx hb dX12_differ_66 rfl (lv_at hl 0 rfl) ?_
                  refine va_get (D := (dC, dI)) (ci := 12) (v := .ref (a 70)) (C := RX12) (T := TX12) (N := 163) (fs := fM (vS a vi vj)) hx hb hts iwsRX12_differ_in12 hown hK hP 0 rfl rfl 115 (by decide) (hts _ hm_r_X12_differ_2) (fun _ h9 => h9) rfl dX12_differ_67 ?_
                  refine lv_iload_n hx hb dX12_differ_70 rfl (lv_at hl 3 rfl) ?_
                  refine va_iald (cA := k 70) (n := 9) (f := (vF 70)) hx hb hK hP 71 70 (WR_get 70 (by decide)) (TR_get 70 (by decide)) (vp_in_nI (show j5 < 9 by omega) (by omega)) dX12_differ_71 ?_
                  refine lv_topi (fun y8 hy8 => ?_)
                  obtain rfl : ((vF 70) j5) = y8 := (hy8.trans (by rw [nI_clamp (by omega)])).symm
                  refine lv_icmp_ne (tgt := 77) hx hb dX12_differ_72 (by decide) (fun c_72 => ?_) (fun c_72 => ?_)
                  · have t_72 : (((vF 70) i5)).toInt ≠ (((vF 70) j5)).toInt := toI_ne c_72 rfl rfl
                    refine lv_iinc (v := (nI (j5 + 1))) hx hb dX12_differ_77 hl (k := 3) rfl (nI_add j5 1) (by decide) rfl (fun ls (hl : lv_has ls _ ([(3, .int (nI (j5 + 1))), (0, .ref h0), (1, .int (nI d5)), (2, .int (nI i5))])) => ?_)
                    refine lv_goto (tgt := 24) hx hb dX12_differ_80 (by decide) ?_
                    have hl : lv_has _ _ ([(0, .ref h0), (1, .int (nI d5)), (2, .int (nI i5)), (3, .int (nI (j5 + 1)))]) := lv_sub hl [1, 2, 3, 0] rfl
                    exact ih24_2 (j5 + 1) _ _ _ (by omega) (by omega) hP hD hS hl
                  · have t_72 : (((vF 70) i5)).toInt = (((vF 70) j5)).toInt := toI_nne c_72 rfl rfl
                    refine lv_iconst (v := 0) hx hb dX12_differ_75 (by decide) ?_
                    refine W.widen (k := 0) (n := 0) (by decide +kernel) (by decide +kernel) ?_
                    exact W.zret (v := 0) hx hb hr rfl (fun t9_ ht hW => ⟨⟨0, (), rfl, by (try dsimp only); exact Or.inl rfl, by rw [ht]; exact hP, hD⟩, hS.F ht⟩) hS.2.2 dX12_differ_76
end
section
def ChO (f59 f69 : Nat → Int32) (mr : Nat) : Prop := ∀ r, r < mr → ∃ w d : Nat, f59 r = nI w ∧ 1 ≤ w ∧ w ≤ 3 ∧ f69 r = nI d ∧ d < w
def cD (f : Nat → Int32) (r : Nat) : Nat := (f r).toNatClampNeg
theorem ChO.dg {f59 f69 : Nat → Int32} {mr : Nat} (h : ChO f59 f69 mr) {r : Nat} (hr : r < mr) : cD f69 r < cD f59 r := by
  obtain ⟨w, d, h1, h2, h3, h4, h5⟩ := h r hr
  unfold cD; rw [h1, h4, nI_clamp (by omega), nI_clamp (by omega)]; exact h5
theorem ChO.next {f59 f69 g : Nat → Int32} {mr r w d : Nat} (h : ChO f59 f69 mr) (hr : r < mr) (e1 : f59 r = nI w) (hw : w ≤ 3) (e2 : f69 r = nI d) (hd : d + 1 < w) (h1 : ∀ q, q < r → g q = f69 q) (h2 : g r = nI (d + 1)) (h3 : ∀ q, r < q → q < mr → g q = 0) :
    ChO f59 g mr ∧ odo (cD f69) (cD f59) mr < odo (cD g) (cD f59) mr := by
  refine ⟨fun q hq => ?_, odo_up (r := r) (fun q hq => by unfold cD; rw [h1 q hq]) (by unfold cD; rw [h2, e2, nI_clamp (by omega), nI_clamp (by omega)]; omega) mr hr (fun q _ hq2 => h.dg hq2)⟩
  obtain ⟨w', d', k1, k2, k3, k4, k5⟩ := h q hq
  rcases Nat.lt_trichotomy q r with e | e | e
  · exact ⟨w', d', k1, k2, k3, by rw [h1 q e]; exact k4, k5⟩
  · subst e; exact ⟨w, d + 1, e1, by omega, hw, h2, hd⟩
  · exact ⟨w', 0, k1, k2, k3, (h3 q e hq).trans nI_0.symm, by omega⟩
theorem ChO.zero {f59 f69 g : Nat → Int32} {mr : Nat} (h : ChO f59 f69 mr) (h3 : ∀ q, q < mr → g q = 0) : ChO f59 g mr := fun q hq => by
  obtain ⟨w', d', k1, k2, k3, k4, k5⟩ := h q hq
  exact ⟨w', 0, k1, k2, k3, (h3 q hq).trans nI_0.symm, by omega⟩
def VaO (f56 f57 f58 f70 : Nat → Int32) (vn : Nat) : Prop := ∀ k, k < vn → (f56 k).toInt ≤ (f57 k).toInt ∧ (f58 k = 0 → f70 k = f56 k) ∧ (f56 k).toInt ≤ (f70 k).toInt ∧ (f70 k).toInt ≤ (f57 k).toInt
def vD (f56 f70 : Nat → Int32) (k : Nat) : Nat := ((f70 k).toInt - (f56 k).toInt).toNat
def vR (f56 f57 : Nat → Int32) (k : Nat) : Nat := ((f57 k).toInt - (f56 k).toInt + 1).toNat
theorem VaO.dg {f56 f57 f58 f70 : Nat → Int32} {vn : Nat} (h : VaO f56 f57 f58 f70 vn) {k : Nat} (hk : k < vn) : vD f56 f70 k < vR f56 f57 k := by
  obtain ⟨h1, h2, h3, h4⟩ := h k hk
  unfold vD vR; omega
theorem VaO.next {f56 f57 f58 f70 g : Nat → Int32} {vn r : Nat} (h : VaO f56 f57 f58 f70 vn) (hr : r < vn) (hw : f58 r ≠ 0) (h1 : ∀ q, q < r → g q = f70 q) (h2 : (g r).toInt = (f70 r).toInt + 1) (hh : (g r).toInt ≤ (f57 r).toInt) (h3 : ∀ q, r < q → q < vn → g q = f56 q) :
    VaO f56 f57 f58 g vn ∧ odo (vD f56 f70) (vR f56 f57) vn < odo (vD f56 g) (vR f56 f57) vn := by
  refine ⟨fun q hq => ?_, odo_up (r := r) (fun q hq => by unfold vD; rw [h1 q hq]) (by have := h r hr; unfold vD; omega) vn hr (fun q _ hq2 => h.dg hq2)⟩
  obtain ⟨k1, k2, k3, k4⟩ := h q hq
  rcases Nat.lt_trichotomy q r with e | e | e
  · rw [h1 q e]; exact ⟨k1, k2, k3, k4⟩
  · subst e; exact ⟨k1, fun h9 => absurd h9 hw, by omega, hh⟩
  · rw [h3 q e hq]; exact ⟨k1, fun _ => rfl, Int.le_refl _, k1⟩
theorem VaO.low {f56 f57 f58 f70 g : Nat → Int32} {vn : Nat} (h : VaO f56 f57 f58 f70 vn) (h3 : ∀ q, q < vn → g q = f56 q) : VaO f56 f57 f58 g vn := fun q hq => by
  obtain ⟨k1, k2, k3, k4⟩ := h q hq
  rw [h3 q hq]; exact ⟨k1, fun _ => rfl, Int.le_refl _, k1⟩
end
section
theorem dX12_nextWays_0 : decode cX12_nextWays 0 = .ok (.aload_n 0, 1) := dk_42 (by decide +kernel)
theorem dX12_nextWays_1 : decode cX12_nextWays 1 = .ok (.getfield 786, 3) := dk_180 (by decide +kernel)
theorem dX12_nextWays_4 : decode cX12_nextWays 4 = .ok (.iconst 1, 1) := dk_4 (by decide +kernel)
theorem dX12_nextWays_5 : decode cX12_nextWays 5 = .ok (.isub, 1) := dk_100 (by decide +kernel)
theorem dX12_nextWays_6 : decode cX12_nextWays 6 = .ok (.istore_n 1, 1) := dk_60 (by decide +kernel)
theorem dX12_nextWays_7 : decode cX12_nextWays 7 = .ok (.iload_n 1, 1) := dk_27 (by decide +kernel)
theorem dX12_nextWays_8 : decode cX12_nextWays 8 = .ok (.ifCond .lt 43, 3) := dk_155 (by decide +kernel)
theorem dX12_nextWays_11 : decode cX12_nextWays 11 = .ok (.aload_n 0, 1) := dk_42 (by decide +kernel)
theorem dX12_nextWays_12 : decode cX12_nextWays 12 = .ok (.getfield 230, 3) := dk_180 (by decide +kernel)
theorem dX12_nextWays_15 : decode cX12_nextWays 15 = .ok (.iload_n 1, 1) := dk_27 (by decide +kernel)
theorem dX12_nextWays_16 : decode cX12_nextWays 16 = .ok (.dup2, 1) := dk_92 (by decide +kernel)
theorem dX12_nextWays_17 : decode cX12_nextWays 17 = .ok (.iaload, 1) := dk_46 (by decide +kernel)
theorem dX12_nextWays_18 : decode cX12_nextWays 18 = .ok (.iconst 1, 1) := dk_4 (by decide +kernel)
theorem dX12_nextWays_19 : decode cX12_nextWays 19 = .ok (.iadd, 1) := dk_96 (by decide +kernel)
theorem dX12_nextWays_20 : decode cX12_nextWays 20 = .ok (.iastore, 1) := dk_79 (by decide +kernel)
theorem dX12_nextWays_21 : decode cX12_nextWays 21 = .ok (.aload_n 0, 1) := dk_42 (by decide +kernel)
theorem dX12_nextWays_22 : decode cX12_nextWays 22 = .ok (.getfield 230, 3) := dk_180 (by decide +kernel)
theorem dX12_nextWays_25 : decode cX12_nextWays 25 = .ok (.iload_n 1, 1) := dk_27 (by decide +kernel)
theorem dX12_nextWays_26 : decode cX12_nextWays 26 = .ok (.iaload, 1) := dk_46 (by decide +kernel)
theorem dX12_nextWays_27 : decode cX12_nextWays 27 = .ok (.aload_n 0, 1) := dk_42 (by decide +kernel)
theorem dX12_nextWays_28 : decode cX12_nextWays 28 = .ok (.getfield 200, 3) := dk_180 (by decide +kernel)
theorem dX12_nextWays_31 : decode cX12_nextWays 31 = .ok (.iload_n 1, 1) := dk_27 (by decide +kernel)
theorem dX12_nextWays_32 : decode cX12_nextWays 32 = .ok (.iaload, 1) := dk_46 (by decide +kernel)
theorem dX12_nextWays_33 : decode cX12_nextWays 33 = .ok (.if_icmp .ge 5, 3) := dk_162 (by decide +kernel)
theorem dX12_nextWays_36 : decode cX12_nextWays 36 = .ok (.iconst 1, 1) := dk_4 (by decide +kernel)
theorem dX12_nextWays_37 : decode cX12_nextWays 37 = .ok (.ireturn, 1) := dk_172 (by decide +kernel)
theorem dX12_nextWays_38 : decode cX12_nextWays 38 = .ok (.aload_n 0, 1) := dk_42 (by decide +kernel)
theorem dX12_nextWays_39 : decode cX12_nextWays 39 = .ok (.getfield 230, 3) := dk_180 (by decide +kernel)
theorem dX12_nextWays_42 : decode cX12_nextWays 42 = .ok (.iload_n 1, 1) := dk_27 (by decide +kernel)
theorem dX12_nextWays_43 : decode cX12_nextWays 43 = .ok (.iconst 0, 1) := dk_3 (by decide +kernel)
theorem dX12_nextWays_44 : decode cX12_nextWays 44 = .ok (.iastore, 1) := dk_79 (by decide +kernel)
theorem dX12_nextWays_45 : decode cX12_nextWays 45 = .ok (.iinc 1 (-1), 3) := dk_132 (by decide +kernel)
theorem dX12_nextWays_48 : decode cX12_nextWays 48 = .ok (.goto (-41), 3) := dk_167 (by decide +kernel)
theorem dX12_nextWays_51 : decode cX12_nextWays 51 = .ok (.iconst 0, 1) := dk_3 (by decide +kernel)
theorem dX12_nextWays_52 : decode cX12_nextWays 52 = .ok (.ireturn, 1) := dk_172 (by decide +kernel)
def wsRX12_nextWays : List Cond := .code yX12_nextWays cX12_nextWays 2 (some .boolean) :: ([.fieldLink RX12 786 "OptimaWorksModel" "modelRows" "I", .fieldLink RX12 230 "OptimaWorksModel" "chosen" "[I", .fieldLink RX12 200 "OptimaWorksModel" "wayMany" "[I"] ++ wsX120)
theorem iwsRX12_nextWays_in12 : ∀ w ∈ wsX120, w ∈ wsRX12_nextWays := fun _ h => List.mem_cons_of_mem _ (List.mem_append_right _ h)
theorem gdwsRX12_nextWays : wsRX12_nextWays.all goodWord = true := gdC rfl (gdA (by decide +kernel : ([.fieldLink RX12 786 "OptimaWorksModel" "modelRows" "I", .fieldLink RX12 230 "OptimaWorksModel" "chosen" "[I", .fieldLink RX12 200 "OptimaWorksModel" "wayMany" "[I"] : List Cond).all goodWord = true) gdwsX120)
theorem hm_r_X12_nextWays_0 : (.fieldLink RX12 230 "OptimaWorksModel" "chosen" "[I" : Cond) ∈ wsRX12_nextWays := by decide +kernel
set_option maxHeartbeats 4000000 in
set_option maxRecDepth 100000 in
/-- nextWays() -/
theorem r_X12_nextWays (l : Launch) (dC : Nat → ClassId) (dI : Nat → Nat → Nat) (a : Nat → Nat) (k : Nat → ClassId) (h0 : Nat) (vi : Nat → Int32) (vj : Nat → Int64) (vF : Nat → Nat → Int32) (vG : Nat → Nat → Int64) (mr : Nat) (hmr : vi 91 = nI mr) (hmr12 : mr ≤ 12) (hch : ChO (vF 59) (vF 69) mr) (sz : Nat) : Met l yX12_nextWays wsRX12_nextWays ({ frames := 0, cells := 0, slots := 0, locals := 0 }) (va_Pc [.ref h0] (fun U => U.heap.size = sz ∧ va_P (dC, dI) vwCl (WR a k h0 vi vj vF vG) U.heap ∧ va_K (dC, dI) vwCl (tX12 k) U ∧ va_D (fun _ => True) (WR a k h0 vi vj vF vG))) (va_Qi (fun (r : Int32) (u : Nat → Int32) => (r = 1 ∧ (ChO (vF 59) u mr) ∧ (odo (cD (vF 69)) (cD (vF 59)) mr < odo (cD u) (cD (vF 59)) mr)) ∨ (r = 0 ∧ (ChO (vF 59) u mr))) (fun (u : Nat → Int32) t => va_P (dC, dI) vwCl (WR a k h0 vi vj (fT vF 69 u) vG) t.heap ∧ va_D (va_A (WR a k h0 vi vj vF vG) sz) (WR a k h0 vi vj (fT vF 69 u) vG)) (va_A (WR a k h0 vi vj vF vG) sz)) 0 0 (va_A (WR a k h0 vi vj vF vG) sz) := by
  refine Met.ofW (cc := cX12_nextWays) (maxL := 2) (ret := (some .boolean)) (by decide) rfl ?_
  intro p e s m args below meth c s₁ B hml hv
  obtain ⟨rfl, hsz, hP, hK, hD0⟩ := hv
  have hx := B.exec
  have hb := B.bytes
  have hr := B.returns
  have hts := atoms_spec (ws := wsRX12_nextWays) B.pre
  have hown : s.vm.findClass RX12 = some m.cls := findClass_of_methodNamed B.named
  have hlocks := B.notSynchronized
  subst hsz
  have hD := hD0.self (sz := s.heap.size)
  generalize hAe : va_A (WR a k h0 vi vj vF vG) s.heap.size = A at hD ⊢
  have hA : ∀ q : Nat, s.heap.size ≤ q → A q := fun q h => by rw [← hAe]; exact Or.inr h
  have hS : va_S A s.heap s.heap [] := va_S.rf
  have hl := lv_entry ([.ref h0]) (n := 2) (Nat.le_of_ble_eq_true rfl)
  rw [lg_entry_eq]
  generalize (lg_sl ([.ref h0]) ++ List.replicate (2 - (lg_sl ([.ref h0])).length) Slot.unset).toArray = ls at hl ⊢
  have hl : lv_has ls 2 [(0, .ref h0)] := hl
  refine lv_aload_n hx hb dX12_nextWays_0 rfl (lv_at hl 0 rfl) ?_
  refine va_get (D := (dC, dI)) (ci := 12) (v := .int (vi 91)) (C := RX12) (T := TX12) (N := 163) (fs := fM (vS a vi vj)) hx hb hts iwsRX12_nextWays_in12 hown hK hP 0 rfl rfl 91 (by decide) (hts (.fieldLink RX12 786 "OptimaWorksModel" "modelRows" "I") (by decide +kernel)) (fun _ h9 => h9) rfl dX12_nextWays_1 ?_
  refine lv_topi (fun y1 hy1 => ?_)
  obtain rfl : (nI mr) = y1 := (hy1.trans (hmr)).symm
  refine lv_iconst (v := 1) hx hb dX12_nextWays_4 (by decide) ?_
  refine lv_isub hx hb dX12_nextWays_5 ?_
  refine lv_istore_n hx hb dX12_nextWays_6 rfl hl (by decide) rfl (fun ls (hl : lv_has ls _ ([(1, .int ((nI mr) - 1)), (0, .ref h0)])) => ?_)
  have e9 : fT vF 69 (vF 69) = vF := by funext q9; by_cases h9_69 : q9 = 69; (subst h9_69; exact (fT_eq _ _ _).trans (Eq.trans (by first | with_reducible rfl | with_reducible assumption | (symm; with_reducible assumption) | rfl | assumption | (symm; assumption) | (subst_vars; rfl)) (Eq.refl _).symm)); exact (fT_ne _ _ h9_69).trans (Eq.refl _).symm
  have hP := wr_PF e9 hP
  have hD := wr_DF e9 hD
  clear e9
  have hl : lv_has _ _ ([(0, .ref h0), (1, .int ((nI mr) - 1))]) := lv_sub hl [1, 0] rfl
  refine (fun (loop : ∀ (n9 : Nat) (kq : Int32) (kk1 : Nat) (f69 : Nat → Int32) (H : Heap) (locs : List Loc) (ls : Array Slot), ((kq).toInt = (kk1 : Int) - 1) → (kk1 ≤ mr) → (∀ q, q < kk1 → f69 q = vF 69 q) → (∀ q, kk1 ≤ q → q < mr → f69 q = 0) →  (kk1 < n9) → va_P (dC, dI) vwCl (WR a k h0 vi vj (fT vF 69 f69) vG) H → va_D A (WR a k h0 vi vj (fT vF 69 f69) vG) → va_S A s.heap H locs → lv_has ls 2 [(0, .ref h0), (1, .int kq)] → W p l e _ s m _ below meth c H locs 0 0 _ (F0 m 7 ls [])) => loop (mr + 1) ((nI mr) - 1) mr (vF 69) _ _ _ (by exact pk_sub_toInt (a := mr) (b := 1) (by omega) (by omega)) (by omega) (fun q _ => rfl) (fun q h1 h2 => absurd h1 (by omega)) (by omega) hP hD hS hl) ?_
  intro n9
  induction n9 with
  | zero => intro kq kk1 f69 H locs ls hkq hkn hsame hz hf9; exact False.elim (by omega)
  | succ n9 ih7 =>
    intro kq kk1 f69 H locs ls hkq hkn hsame hz hf7 hP hD hS hl
    refine lv_iload_n hx hb dX12_nextWays_7 rfl (lv_at hl 1 rfl) ?_
    refine lv_if_lt (tgt := 51) hx hb dX12_nextWays_8 (by decide) (fun c_8 => ?_) (fun c_8 => ?_)
    · have t_8 : (kq).toInt < 0 := toI_lt c_8 rfl (by decide)
      refine lv_iconst (v := 0) hx hb dX12_nextWays_51 (by decide) ?_
      refine W.widen (k := 0) (n := 0) (by decide +kernel) (by decide +kernel) ?_
      exact W.zret (v := 0) hx hb hr rfl (fun t9_ ht hW => ⟨⟨0, f69, rfl, by (try dsimp only); exact Or.inr ⟨rfl, hch.zero (fun q hq => hz q (by omega) hq)⟩, by rw [ht]; exact hP, hD⟩, hS.F ht⟩) hS.2.2 dX12_nextWays_52
    · have t_8 : ¬ (kq).toInt < 0 := toI_nlt c_8 rfl (by decide)
      obtain ⟨kk, h_kk, rfl⟩ := of_toInt (x := kq) (k := 13) (by omega) (by omega)
      have e_kk : (nI kk).toInt = (kk : Int) := nI_toInt (by omega)
      obtain ⟨wk, dk, e1, e2, e3, e4, e5⟩ := hch kk (by omega)
      have ef : f69 kk = nI dk := (hsame kk (by omega)).trans e4
      refine lv_aload_n hx hb dX12_nextWays_11 rfl (lv_at hl 0 rfl) ?_
      refine va_get (D := (dC, dI)) (ci := 12) (v := .ref (a 69)) (C := RX12) (T := TX12) (N := 163) (fs := fM (vS a vi vj)) hx hb hts iwsRX12_nextWays_in12 hown hK hP 0 rfl rfl 114 (by decide) (hts _ hm_r_X12_nextWays_0) (fun _ h9 => h9) rfl dX12_nextWays_12 ?_
      refine lv_iload_n hx hb dX12_nextWays_15 rfl (lv_at hl 1 rfl) ?_
      refine lv_dup2_11 hx hb dX12_nextWays_16 rfl rfl ?_
      refine va_iald (cA := k 69) (n := 13) (f := f69) hx hb hK hP 70 69 (WR_get 69 (by decide)) (TR_get 69 (by decide)) (vp_in_nI (show kk < 13 by omega) (by omega)) dX12_nextWays_17 ?_
      refine lv_topi (fun y2 hy2 => ?_)
      obtain rfl : (f69 kk) = y2 := (hy2.trans (by rw [nI_clamp (by omega)])).symm
      refine lv_topi (fun y3 hy3 => ?_)
      obtain rfl : (nI dk) = y3 := (hy3.trans (ef)).symm
      refine lv_iconst (v := 1) hx hb dX12_nextWays_18 (by decide) ?_
      refine lv_iadd hx hb dX12_nextWays_19 ?_
      refine lv_topi (fun y4 hy4 => ?_)
      obtain rfl : (nI (dk + 1)) = y4 := (hy4.trans (nI_add dk 1)).symm
      refine va_iast (cA := k 69) (n := 13) (f := f69) hx hb hK hP hD hS 70 69 (WR_get 69 (by decide)) (TR_get 69 (by decide)) (vp_in_nI (show kk < 13 by omega) (by omega)) dX12_nextWays_20 (fun H locs hP hD hS => ?_)
      have e9 : fT vF 69 (upd f69 ((nI kk)).toNatClampNeg (nI (dk + 1))) = fT (fT vF 69 f69) 69 (upd f69 ((nI kk)).toNatClampNeg (nI (dk + 1))) := (fT_sm _ _ _ _).symm
      have hP := wr_PF e9 (fz_w (WR_F 69 (by decide) _ rfl) hP)
      have hD := wr_DF e9 (fz_wD (WR_F 69 (by decide) _ rfl) hD)
      clear e9
      refine lv_aload_n hx hb dX12_nextWays_21 rfl (lv_at hl 0 rfl) ?_
      refine va_get (D := (dC, dI)) (ci := 12) (v := .ref (a 69)) (C := RX12) (T := TX12) (N := 163) (fs := fM (vS a vi vj)) hx hb hts iwsRX12_nextWays_in12 hown hK hP 0 rfl rfl 114 (by decide) (hts _ hm_r_X12_nextWays_0) (fun _ h9 => h9) rfl dX12_nextWays_22 ?_
      refine lv_iload_n hx hb dX12_nextWays_25 rfl (lv_at hl 1 rfl) ?_
      refine va_iald (cA := k 69) (n := 13) (f := (upd f69 ((nI kk)).toNatClampNeg (nI (dk + 1)))) hx hb hK hP 70 69 (WR_get 69 (by decide)) (TR_get 69 (by decide)) (vp_in_nI (show kk < 13 by omega) (by omega)) dX12_nextWays_26 ?_
      refine lv_topi (fun y5 hy5 => ?_)
      obtain rfl : ((upd f69 ((nI kk)).toNatClampNeg (nI (dk + 1))) kk) = y5 := (hy5.trans (by rw [nI_clamp (by omega)])).symm
      refine lv_topi (fun y6 hy6 => ?_)
      obtain rfl : (nI (dk + 1)) = y6 := (hy6.trans (by rw [upd_at (by omega), if_pos rfl])).symm
      refine lv_aload_n hx hb dX12_nextWays_27 rfl (lv_at hl 0 rfl) ?_
      refine va_get (D := (dC, dI)) (ci := 12) (v := .ref (a 59)) (C := RX12) (T := TX12) (N := 163) (fs := fM (vS a vi vj)) hx hb hts iwsRX12_nextWays_in12 hown hK hP 0 rfl rfl 99 (by decide) (hts (.fieldLink RX12 200 "OptimaWorksModel" "wayMany" "[I") (by decide +kernel)) (fun _ h9 => h9) rfl dX12_nextWays_28 ?_
      refine lv_iload_n hx hb dX12_nextWays_31 rfl (lv_at hl 1 rfl) ?_
      refine va_iald (cA := k 59) (n := 13) (f := (vF 59)) hx hb hK hP 60 59 (WR_get 59 (by decide)) (TR_get 59 (by decide)) (vp_in_nI (show kk < 13 by omega) (by omega)) dX12_nextWays_32 ?_
      refine lv_topi (fun y7 hy7 => ?_)
      obtain rfl : ((vF 59) kk) = y7 := (hy7.trans (by rw [nI_clamp (by omega)])).symm
      refine lv_topi (fun y8 hy8 => ?_)
      obtain rfl : (nI wk) = y8 := (hy8.trans (e1)).symm
      refine lv_icmp_ge (tgt := 38) hx hb dX12_nextWays_33 (by decide) (fun c_33 => ?_) (fun c_33 => ?_)
      · have t_33 : (((dk + 1) : Nat) : Int) ≥ ((wk : Nat) : Int) := toI_ge c_33 (nI_toInt (by omega)) (nI_toInt (by omega))
        refine lv_aload_n hx hb dX12_nextWays_38 rfl (lv_at hl 0 rfl) ?_
        refine va_get (D := (dC, dI)) (ci := 12) (v := .ref (a 69)) (C := RX12) (T := TX12) (N := 163) (fs := fM (vS a vi vj)) hx hb hts iwsRX12_nextWays_in12 hown hK hP 0 rfl rfl 114 (by decide) (hts _ hm_r_X12_nextWays_0) (fun _ h9 => h9) rfl dX12_nextWays_39 ?_
        refine lv_iload_n hx hb dX12_nextWays_42 rfl (lv_at hl 1 rfl) ?_
        refine lv_iconst (v := 0) hx hb dX12_nextWays_43 (by decide) ?_
        refine va_iast (cA := k 69) (n := 13) (f := (upd f69 ((nI kk)).toNatClampNeg (nI (dk + 1)))) hx hb hK hP hD hS 70 69 (WR_get 69 (by decide)) (TR_get 69 (by decide)) (vp_in_nI (show kk < 13 by omega) (by omega)) dX12_nextWays_44 (fun H locs hP hD hS => ?_)
        have e9 : fT vF 69 (upd (upd f69 ((nI kk)).toNatClampNeg (nI (dk + 1))) ((nI kk)).toNatClampNeg 0) = fT (fT vF 69 (upd f69 ((nI kk)).toNatClampNeg (nI (dk + 1)))) 69 (upd (upd f69 ((nI kk)).toNatClampNeg (nI (dk + 1))) ((nI kk)).toNatClampNeg 0) := (fT_sm _ _ _ _).symm
        have hP := wr_PF e9 (fz_w (WR_F 69 (by decide) _ rfl) hP)
        have hD := wr_DF e9 (fz_wD (WR_F 69 (by decide) _ rfl) hD)
        clear e9
        refine lv_iinc (v := ((nI kk) + (-1))) hx hb dX12_nextWays_45 hl (k := 1) rfl rfl (by decide) rfl (fun ls (hl : lv_has ls _ ([(1, .int ((nI kk) + (-1))), (0, .ref h0)])) => ?_)
        refine lv_goto (tgt := 7) hx hb dX12_nextWays_48 (by decide) ?_
        have hl : lv_has _ _ ([(0, .ref h0), (1, .int ((nI kk) + (-1)))]) := lv_sub hl [1, 0] rfl
        exact ih7 ((nI kk) + (-1)) (kk1 - 1) (upd (upd f69 ((nI kk)).toNatClampNeg (nI (dk + 1))) ((nI kk)).toNatClampNeg 0) _ _ _ (by rw [m1T (by omega)]; omega) (by omega) (fun q hq => by rw [upd_at (by omega), if_neg (by omega), upd_at (by omega), if_neg (by omega)]; exact hsame q (by omega)) (fun q h1 h2 => by by_cases e9 : q = kk; (rw [upd_at (by omega), if_pos e9]); (rw [upd_at (by omega), if_neg e9, upd_at (by omega), if_neg e9]; exact hz q (by omega) h2)) (by omega) hP hD hS hl
      · have t_33 : ¬ (((dk + 1) : Nat) : Int) ≥ ((wk : Nat) : Int) := toI_nge c_33 (nI_toInt (by omega)) (nI_toInt (by omega))
        refine lv_iconst (v := 1) hx hb dX12_nextWays_36 (by decide) ?_
        refine W.widen (k := 0) (n := 0) (by decide +kernel) (by decide +kernel) ?_
        exact W.zret (v := 1) hx hb hr rfl (fun t9_ ht hW => ⟨⟨1, (upd f69 ((nI kk)).toNatClampNeg (nI (dk + 1))), rfl, by (try dsimp only); (have hn := hch.next (g := upd f69 (nI kk).toNatClampNeg (nI (dk + 1))) (r := kk) (by omega) e1 e3 e4 (by omega) (fun q hq => by rw [upd_at (by omega), if_neg (by omega)]; exact hsame q (by omega)) (by rw [upd_at (by omega), if_pos rfl]) (fun q h1 h2 => by rw [upd_at (by omega), if_neg (by omega)]; exact hz q (by omega) h2)); exact Or.inl ⟨rfl, hn.1, hn.2⟩, by rw [ht]; exact hP, hD⟩, hS.F ht⟩) hS.2.2 dX12_nextWays_37
theorem dX12_nextValues_0 : decode cX12_nextValues 0 = .ok (.aload_n 0, 1) := dk_42 (by decide +kernel)
theorem dX12_nextValues_1 : decode cX12_nextValues 1 = .ok (.getfield 774, 3) := dk_180 (by decide +kernel)
theorem dX12_nextValues_4 : decode cX12_nextValues 4 = .ok (.iconst 1, 1) := dk_4 (by decide +kernel)
theorem dX12_nextValues_5 : decode cX12_nextValues 5 = .ok (.isub, 1) := dk_100 (by decide +kernel)
theorem dX12_nextValues_6 : decode cX12_nextValues 6 = .ok (.istore_n 1, 1) := dk_60 (by decide +kernel)
theorem dX12_nextValues_7 : decode cX12_nextValues 7 = .ok (.iload_n 1, 1) := dk_27 (by decide +kernel)
theorem dX12_nextValues_8 : decode cX12_nextValues 8 = .ok (.ifCond .lt 60, 3) := dk_155 (by decide +kernel)
theorem dX12_nextValues_11 : decode cX12_nextValues 11 = .ok (.aload_n 0, 1) := dk_42 (by decide +kernel)
theorem dX12_nextValues_12 : decode cX12_nextValues 12 = .ok (.getfield 197, 3) := dk_180 (by decide +kernel)
theorem dX12_nextValues_15 : decode cX12_nextValues 15 = .ok (.iload_n 1, 1) := dk_27 (by decide +kernel)
theorem dX12_nextValues_16 : decode cX12_nextValues 16 = .ok (.iaload, 1) := dk_46 (by decide +kernel)
theorem dX12_nextValues_17 : decode cX12_nextValues 17 = .ok (.ifCond .ne 6, 3) := dk_154 (by decide +kernel)
theorem dX12_nextValues_20 : decode cX12_nextValues 20 = .ok (.goto 42, 3) := dk_167 (by decide +kernel)
theorem dX12_nextValues_23 : decode cX12_nextValues 23 = .ok (.aload_n 0, 1) := dk_42 (by decide +kernel)
theorem dX12_nextValues_24 : decode cX12_nextValues 24 = .ok (.getfield 233, 3) := dk_180 (by decide +kernel)
theorem dX12_nextValues_27 : decode cX12_nextValues 27 = .ok (.iload_n 1, 1) := dk_27 (by decide +kernel)
theorem dX12_nextValues_28 : decode cX12_nextValues 28 = .ok (.dup2, 1) := dk_92 (by decide +kernel)
theorem dX12_nextValues_29 : decode cX12_nextValues 29 = .ok (.iaload, 1) := dk_46 (by decide +kernel)
theorem dX12_nextValues_30 : decode cX12_nextValues 30 = .ok (.iconst 1, 1) := dk_4 (by decide +kernel)
theorem dX12_nextValues_31 : decode cX12_nextValues 31 = .ok (.iadd, 1) := dk_96 (by decide +kernel)
theorem dX12_nextValues_32 : decode cX12_nextValues 32 = .ok (.iastore, 1) := dk_79 (by decide +kernel)
theorem dX12_nextValues_33 : decode cX12_nextValues 33 = .ok (.aload_n 0, 1) := dk_42 (by decide +kernel)
theorem dX12_nextValues_34 : decode cX12_nextValues 34 = .ok (.getfield 233, 3) := dk_180 (by decide +kernel)
theorem dX12_nextValues_37 : decode cX12_nextValues 37 = .ok (.iload_n 1, 1) := dk_27 (by decide +kernel)
theorem dX12_nextValues_38 : decode cX12_nextValues 38 = .ok (.iaload, 1) := dk_46 (by decide +kernel)
theorem dX12_nextValues_39 : decode cX12_nextValues 39 = .ok (.aload_n 0, 1) := dk_42 (by decide +kernel)
theorem dX12_nextValues_40 : decode cX12_nextValues 40 = .ok (.getfield 194, 3) := dk_180 (by decide +kernel)
theorem dX12_nextValues_43 : decode cX12_nextValues 43 = .ok (.iload_n 1, 1) := dk_27 (by decide +kernel)
theorem dX12_nextValues_44 : decode cX12_nextValues 44 = .ok (.iaload, 1) := dk_46 (by decide +kernel)
theorem dX12_nextValues_45 : decode cX12_nextValues 45 = .ok (.if_icmp .gt 5, 3) := dk_163 (by decide +kernel)
theorem dX12_nextValues_48 : decode cX12_nextValues 48 = .ok (.iconst 1, 1) := dk_4 (by decide +kernel)
theorem dX12_nextValues_49 : decode cX12_nextValues 49 = .ok (.ireturn, 1) := dk_172 (by decide +kernel)
theorem dX12_nextValues_50 : decode cX12_nextValues 50 = .ok (.aload_n 0, 1) := dk_42 (by decide +kernel)
theorem dX12_nextValues_51 : decode cX12_nextValues 51 = .ok (.getfield 233, 3) := dk_180 (by decide +kernel)
theorem dX12_nextValues_54 : decode cX12_nextValues 54 = .ok (.iload_n 1, 1) := dk_27 (by decide +kernel)
theorem dX12_nextValues_55 : decode cX12_nextValues 55 = .ok (.aload_n 0, 1) := dk_42 (by decide +kernel)
theorem dX12_nextValues_56 : decode cX12_nextValues 56 = .ok (.getfield 191, 3) := dk_180 (by decide +kernel)
theorem dX12_nextValues_59 : decode cX12_nextValues 59 = .ok (.iload_n 1, 1) := dk_27 (by decide +kernel)
theorem dX12_nextValues_60 : decode cX12_nextValues 60 = .ok (.iaload, 1) := dk_46 (by decide +kernel)
theorem dX12_nextValues_61 : decode cX12_nextValues 61 = .ok (.iastore, 1) := dk_79 (by decide +kernel)
theorem dX12_nextValues_62 : decode cX12_nextValues 62 = .ok (.iinc 1 (-1), 3) := dk_132 (by decide +kernel)
theorem dX12_nextValues_65 : decode cX12_nextValues 65 = .ok (.goto (-58), 3) := dk_167 (by decide +kernel)
theorem dX12_nextValues_68 : decode cX12_nextValues 68 = .ok (.iconst 0, 1) := dk_3 (by decide +kernel)
theorem dX12_nextValues_69 : decode cX12_nextValues 69 = .ok (.ireturn, 1) := dk_172 (by decide +kernel)
def wsRX12_nextValues : List Cond := .code yX12_nextValues cX12_nextValues 2 (some .boolean) :: ([.fieldLink RX12 774 "OptimaWorksModel" "variables" "I", .fieldLink RX12 197 "OptimaWorksModel" "whole" "[I", .fieldLink RX12 233 "OptimaWorksModel" "value" "[I", .fieldLink RX12 194 "OptimaWorksModel" "high" "[I", .fieldLink RX12 191 "OptimaWorksModel" "low" "[I"] ++ wsX120)
theorem iwsRX12_nextValues_in12 : ∀ w ∈ wsX120, w ∈ wsRX12_nextValues := fun _ h => List.mem_cons_of_mem _ (List.mem_append_right _ h)
theorem gdwsRX12_nextValues : wsRX12_nextValues.all goodWord = true := gdC rfl (gdA (by decide +kernel : ([.fieldLink RX12 774 "OptimaWorksModel" "variables" "I", .fieldLink RX12 197 "OptimaWorksModel" "whole" "[I", .fieldLink RX12 233 "OptimaWorksModel" "value" "[I", .fieldLink RX12 194 "OptimaWorksModel" "high" "[I", .fieldLink RX12 191 "OptimaWorksModel" "low" "[I"] : List Cond).all goodWord = true) gdwsX120)
theorem hm_r_X12_nextValues_0 : (.fieldLink RX12 233 "OptimaWorksModel" "value" "[I" : Cond) ∈ wsRX12_nextValues := by decide +kernel
set_option maxHeartbeats 4000000 in
set_option maxRecDepth 100000 in
/-- nextValues() -/
theorem r_X12_nextValues (l : Launch) (dC : Nat → ClassId) (dI : Nat → Nat → Nat) (a : Nat → Nat) (k : Nat → ClassId) (h0 : Nat) (vi : Nat → Int32) (vj : Nat → Int64) (vF : Nat → Nat → Int32) (vG : Nat → Nat → Int64) (vn : Nat) (gq : Nat) (hvn : vi 90 = nI vn) (hvn8 : vn ≤ 8) (hM : MdlB vF gq) (hva : VaO (vF 56) (vF 57) (vF 58) (vF 70) vn) (sz : Nat) : Met l yX12_nextValues wsRX12_nextValues ({ frames := 0, cells := 0, slots := 0, locals := 0 }) (va_Pc [.ref h0] (fun U => U.heap.size = sz ∧ va_P (dC, dI) vwCl (WR a k h0 vi vj vF vG) U.heap ∧ va_K (dC, dI) vwCl (tX12 k) U ∧ va_D (fun _ => True) (WR a k h0 vi vj vF vG))) (va_Qi (fun (r : Int32) (u : Nat → Int32) => (r = 1 ∧ (VaO (vF 56) (vF 57) (vF 58) u vn) ∧ (∀ q, vn ≤ q → u q = vF 70 q) ∧ (odo (vD (vF 56) (vF 70)) (vR (vF 56) (vF 57)) vn < odo (vD (vF 56) u) (vR (vF 56) (vF 57)) vn)) ∨ (r = 0 ∧ (VaO (vF 56) (vF 57) (vF 58) u vn) ∧ (∀ q, vn ≤ q → u q = vF 70 q))) (fun (u : Nat → Int32) t => va_P (dC, dI) vwCl (WR a k h0 vi vj (fT vF 70 u) vG) t.heap ∧ va_D (va_A (WR a k h0 vi vj vF vG) sz) (WR a k h0 vi vj (fT vF 70 u) vG)) (va_A (WR a k h0 vi vj vF vG) sz)) 0 0 (va_A (WR a k h0 vi vj vF vG) sz) := by
  refine Met.ofW (cc := cX12_nextValues) (maxL := 2) (ret := (some .boolean)) (by decide) rfl ?_
  intro p e s m args below meth c s₁ B hml hv
  obtain ⟨rfl, hsz, hP, hK, hD0⟩ := hv
  have hx := B.exec
  have hb := B.bytes
  have hr := B.returns
  have hts := atoms_spec (ws := wsRX12_nextValues) B.pre
  have hown : s.vm.findClass RX12 = some m.cls := findClass_of_methodNamed B.named
  have hlocks := B.notSynchronized
  subst hsz
  have hD := hD0.self (sz := s.heap.size)
  generalize hAe : va_A (WR a k h0 vi vj vF vG) s.heap.size = A at hD ⊢
  have hA : ∀ q : Nat, s.heap.size ≤ q → A q := fun q h => by rw [← hAe]; exact Or.inr h
  have hS : va_S A s.heap s.heap [] := va_S.rf
  have hl := lv_entry ([.ref h0]) (n := 2) (Nat.le_of_ble_eq_true rfl)
  rw [lg_entry_eq]
  generalize (lg_sl ([.ref h0]) ++ List.replicate (2 - (lg_sl ([.ref h0])).length) Slot.unset).toArray = ls at hl ⊢
  have hl : lv_has ls 2 [(0, .ref h0)] := hl
  refine lv_aload_n hx hb dX12_nextValues_0 rfl (lv_at hl 0 rfl) ?_
  refine va_get (D := (dC, dI)) (ci := 12) (v := .int (vi 90)) (C := RX12) (T := TX12) (N := 163) (fs := fM (vS a vi vj)) hx hb hts iwsRX12_nextValues_in12 hown hK hP 0 rfl rfl 90 (by decide) (hts (.fieldLink RX12 774 "OptimaWorksModel" "variables" "I") (by decide +kernel)) (fun _ h9 => h9) rfl dX12_nextValues_1 ?_
  refine lv_topi (fun y1 hy1 => ?_)
  obtain rfl : (nI vn) = y1 := (hy1.trans (hvn)).symm
  refine lv_iconst (v := 1) hx hb dX12_nextValues_4 (by decide) ?_
  refine lv_isub hx hb dX12_nextValues_5 ?_
  refine lv_istore_n hx hb dX12_nextValues_6 rfl hl (by decide) rfl (fun ls (hl : lv_has ls _ ([(1, .int ((nI vn) - 1)), (0, .ref h0)])) => ?_)
  have e9 : fT vF 70 (vF 70) = vF := by funext q9; by_cases h9_70 : q9 = 70; (subst h9_70; exact (fT_eq _ _ _).trans (Eq.trans (by first | with_reducible rfl | with_reducible assumption | (symm; with_reducible assumption) | rfl | assumption | (symm; assumption) | (subst_vars; rfl)) (Eq.refl _).symm)); exact (fT_ne _ _ h9_70).trans (Eq.refl _).symm
  have hP := wr_PF e9 hP
  have hD := wr_DF e9 hD
  clear e9
  have hl : lv_has _ _ ([(0, .ref h0), (1, .int ((nI vn) - 1))]) := lv_sub hl [1, 0] rfl
  refine (fun (loop : ∀ (n9 : Nat) (kq : Int32) (kk1 : Nat) (f70 : Nat → Int32) (H : Heap) (locs : List Loc) (ls : Array Slot), ((kq).toInt = (kk1 : Int) - 1) → (kk1 ≤ vn) → (∀ q, q < kk1 → f70 q = vF 70 q) → (∀ q, kk1 ≤ q → q < vn → f70 q = vF 56 q) → (∀ q, vn ≤ q → f70 q = vF 70 q) →  (kk1 < n9) → va_P (dC, dI) vwCl (WR a k h0 vi vj (fT vF 70 f70) vG) H → va_D A (WR a k h0 vi vj (fT vF 70 f70) vG) → va_S A s.heap H locs → lv_has ls 2 [(0, .ref h0), (1, .int kq)] → W p l e _ s m _ below meth c H locs 0 0 _ (F0 m 7 ls [])) => loop (vn + 1) ((nI vn) - 1) vn (vF 70) _ _ _ (by exact pk_sub_toInt (a := vn) (b := 1) (by omega) (by omega)) (by omega) (fun q _ => rfl) (fun q h1 h2 => absurd h1 (by omega)) (fun q _ => rfl) (by omega) hP hD hS hl) ?_
  intro n9
  induction n9 with
  | zero => intro kq kk1 f70 H locs ls hkq hkn hsame hz hz2 hf9; exact False.elim (by omega)
  | succ n9 ih7 =>
    intro kq kk1 f70 H locs ls hkq hkn hsame hz hz2 hf7 hP hD hS hl
    refine lv_iload_n hx hb dX12_nextValues_7 rfl (lv_at hl 1 rfl) ?_
    refine lv_if_lt (tgt := 68) hx hb dX12_nextValues_8 (by decide) (fun c_8 => ?_) (fun c_8 => ?_)
    · have t_8 : (kq).toInt < 0 := toI_lt c_8 rfl (by decide)
      refine lv_iconst (v := 0) hx hb dX12_nextValues_68 (by decide) ?_
      refine W.widen (k := 0) (n := 0) (by decide +kernel) (by decide +kernel) ?_
      exact W.zret (v := 0) hx hb hr rfl (fun t9_ ht hW => ⟨⟨0, f70, rfl, by (try dsimp only); exact Or.inr ⟨rfl, hva.low (fun q hq => hz q (by omega) hq), hz2⟩, by rw [ht]; exact hP, hD⟩, hS.F ht⟩) hS.2.2 dX12_nextValues_69
    · have t_8 : ¬ (kq).toInt < 0 := toI_nlt c_8 rfl (by decide)
      obtain ⟨kk, h_kk, rfl⟩ := of_toInt (x := kq) (k := 9) (by omega) (by omega)
      have e_kk : (nI kk).toInt = (kk : Int) := nI_toInt (by omega)
      refine lv_aload_n hx hb dX12_nextValues_11 rfl (lv_at hl 0 rfl) ?_
      refine va_get (D := (dC, dI)) (ci := 12) (v := .ref (a 58)) (C := RX12) (T := TX12) (N := 163) (fs := fM (vS a vi vj)) hx hb hts iwsRX12_nextValues_in12 hown hK hP 0 rfl rfl 98 (by decide) (hts (.fieldLink RX12 197 "OptimaWorksModel" "whole" "[I") (by decide +kernel)) (fun _ h9 => h9) rfl dX12_nextValues_12 ?_
      refine lv_iload_n hx hb dX12_nextValues_15 rfl (lv_at hl 1 rfl) ?_
      refine va_iald (cA := k 58) (n := 9) (f := (vF 58)) hx hb hK hP 59 58 (WR_get 58 (by decide)) (TR_get 58 (by decide)) (vp_in_nI (show kk < 9 by omega) (by omega)) dX12_nextValues_16 ?_
      refine lv_topi (fun y2 hy2 => ?_)
      obtain rfl : ((vF 58) kk) = y2 := (hy2.trans (by rw [nI_clamp (by omega)])).symm
      refine lv_if_ne (tgt := 23) hx hb dX12_nextValues_17 (by decide) (fun c_17 => ?_) (fun c_17 => ?_)
      · have t_17 : (((vF 58) kk)).toInt ≠ 0 := toI_ne c_17 rfl (by decide)
        obtain ⟨e1, e2, e3, e4⟩ := hva kk (by omega)
        have b6 := hM.1 kk (by omega)
        have b7 := hM.2.1 kk (by omega)
        have ef : f70 kk = vF 70 kk := hsame kk (by omega)
        have ea : (vF 70 kk + 1).toInt = (vF 70 kk).toInt + 1 := by rw [addB (by omega) (by decide)]; rfl
        refine lv_aload_n hx hb dX12_nextValues_23 rfl (lv_at hl 0 rfl) ?_
        refine va_get (D := (dC, dI)) (ci := 12) (v := .ref (a 70)) (C := RX12) (T := TX12) (N := 163) (fs := fM (vS a vi vj)) hx hb hts iwsRX12_nextValues_in12 hown hK hP 0 rfl rfl 115 (by decide) (hts _ hm_r_X12_nextValues_0) (fun _ h9 => h9) rfl dX12_nextValues_24 ?_
        refine lv_iload_n hx hb dX12_nextValues_27 rfl (lv_at hl 1 rfl) ?_
        refine lv_dup2_11 hx hb dX12_nextValues_28 rfl rfl ?_
        refine va_iald (cA := k 70) (n := 9) (f := f70) hx hb hK hP 71 70 (WR_get 70 (by decide)) (TR_get 70 (by decide)) (vp_in_nI (show kk < 9 by omega) (by omega)) dX12_nextValues_29 ?_
        refine lv_topi (fun y3 hy3 => ?_)
        obtain rfl : (f70 kk) = y3 := (hy3.trans (by rw [nI_clamp (by omega)])).symm
        refine lv_topi (fun y4 hy4 => ?_)
        obtain rfl : (vF 70 kk) = y4 := (hy4.trans (ef)).symm
        refine lv_iconst (v := 1) hx hb dX12_nextValues_30 (by decide) ?_
        refine lv_iadd hx hb dX12_nextValues_31 ?_
        refine va_iast (cA := k 70) (n := 9) (f := f70) hx hb hK hP hD hS 71 70 (WR_get 70 (by decide)) (TR_get 70 (by decide)) (vp_in_nI (show kk < 9 by omega) (by omega)) dX12_nextValues_32 (fun H locs hP hD hS => ?_)
        have e9 : fT vF 70 (upd f70 ((nI kk)).toNatClampNeg ((vF 70 kk) + 1)) = fT (fT vF 70 f70) 70 (upd f70 ((nI kk)).toNatClampNeg ((vF 70 kk) + 1)) := (fT_sm _ _ _ _).symm
        have hP := wr_PF e9 (fz_w (WR_F 70 (by decide) _ rfl) hP)
        have hD := wr_DF e9 (fz_wD (WR_F 70 (by decide) _ rfl) hD)
        clear e9
        refine lv_aload_n hx hb dX12_nextValues_33 rfl (lv_at hl 0 rfl) ?_
        refine va_get (D := (dC, dI)) (ci := 12) (v := .ref (a 70)) (C := RX12) (T := TX12) (N := 163) (fs := fM (vS a vi vj)) hx hb hts iwsRX12_nextValues_in12 hown hK hP 0 rfl rfl 115 (by decide) (hts _ hm_r_X12_nextValues_0) (fun _ h9 => h9) rfl dX12_nextValues_34 ?_
        refine lv_iload_n hx hb dX12_nextValues_37 rfl (lv_at hl 1 rfl) ?_
        refine va_iald (cA := k 70) (n := 9) (f := (upd f70 ((nI kk)).toNatClampNeg ((vF 70 kk) + 1))) hx hb hK hP 71 70 (WR_get 70 (by decide)) (TR_get 70 (by decide)) (vp_in_nI (show kk < 9 by omega) (by omega)) dX12_nextValues_38 ?_
        refine lv_topi (fun y5 hy5 => ?_)
        obtain rfl : ((upd f70 ((nI kk)).toNatClampNeg ((vF 70 kk) + 1)) kk) = y5 := (hy5.trans (by rw [nI_clamp (by omega)])).symm
        refine lv_topi (fun y6 hy6 => ?_)
        obtain rfl : (vF 70 kk + 1) = y6 := (hy6.trans (by rw [upd_at (by omega), if_pos rfl])).symm
        refine lv_aload_n hx hb dX12_nextValues_39 rfl (lv_at hl 0 rfl) ?_
        refine va_get (D := (dC, dI)) (ci := 12) (v := .ref (a 57)) (C := RX12) (T := TX12) (N := 163) (fs := fM (vS a vi vj)) hx hb hts iwsRX12_nextValues_in12 hown hK hP 0 rfl rfl 97 (by decide) (hts (.fieldLink RX12 194 "OptimaWorksModel" "high" "[I") (by decide +kernel)) (fun _ h9 => h9) rfl dX12_nextValues_40 ?_
        refine lv_iload_n hx hb dX12_nextValues_43 rfl (lv_at hl 1 rfl) ?_
        refine va_iald (cA := k 57) (n := 9) (f := (vF 57)) hx hb hK hP 58 57 (WR_get 57 (by decide)) (TR_get 57 (by decide)) (vp_in_nI (show kk < 9 by omega) (by omega)) dX12_nextValues_44 ?_
        refine lv_topi (fun y7 hy7 => ?_)
        obtain rfl : ((vF 57) kk) = y7 := (hy7.trans (by rw [nI_clamp (by omega)])).symm
        refine lv_icmp_gt (tgt := 50) hx hb dX12_nextValues_45 (by decide) (fun c_45 => ?_) (fun c_45 => ?_)
        · have t_45 : ((vF 70 kk + 1)).toInt > (((vF 57) kk)).toInt := toI_gt c_45 rfl rfl
          refine lv_aload_n hx hb dX12_nextValues_50 rfl (lv_at hl 0 rfl) ?_
          refine va_get (D := (dC, dI)) (ci := 12) (v := .ref (a 70)) (C := RX12) (T := TX12) (N := 163) (fs := fM (vS a vi vj)) hx hb hts iwsRX12_nextValues_in12 hown hK hP 0 rfl rfl 115 (by decide) (hts _ hm_r_X12_nextValues_0) (fun _ h9 => h9) rfl dX12_nextValues_51 ?_
          refine lv_iload_n hx hb dX12_nextValues_54 rfl (lv_at hl 1 rfl) ?_
          refine lv_aload_n hx hb dX12_nextValues_55 rfl (lv_at hl 0 rfl) ?_
          refine va_get (D := (dC, dI)) (ci := 12) (v := .ref (a 56)) (C := RX12) (T := TX12) (N := 163) (fs := fM (vS a vi vj)) hx hb hts iwsRX12_nextValues_in12 hown hK hP 0 rfl rfl 96 (by decide) (hts (.fieldLink RX12 191 "OptimaWorksModel" "low" "[I") (by decide +kernel)) (fun _ h9 => h9) rfl dX12_nextValues_56 ?_
          refine lv_iload_n hx hb dX12_nextValues_59 rfl (lv_at hl 1 rfl) ?_
          refine va_iald (cA := k 56) (n := 9) (f := (vF 56)) hx hb hK hP 57 56 (WR_get 56 (by decide)) (TR_get 56 (by decide)) (vp_in_nI (show kk < 9 by omega) (by omega)) dX12_nextValues_60 ?_
          refine lv_topi (fun y8 hy8 => ?_)
          obtain rfl : ((vF 56) kk) = y8 := (hy8.trans (by rw [nI_clamp (by omega)])).symm
          refine va_iast (cA := k 70) (n := 9) (f := (upd f70 ((nI kk)).toNatClampNeg ((vF 70 kk) + 1))) hx hb hK hP hD hS 71 70 (WR_get 70 (by decide)) (TR_get 70 (by decide)) (vp_in_nI (show kk < 9 by omega) (by omega)) dX12_nextValues_61 (fun H locs hP hD hS => ?_)
          have e9 : fT vF 70 (upd (upd f70 ((nI kk)).toNatClampNeg ((vF 70 kk) + 1)) ((nI kk)).toNatClampNeg ((vF 56) kk)) = fT (fT vF 70 (upd f70 ((nI kk)).toNatClampNeg ((vF 70 kk) + 1))) 70 (upd (upd f70 ((nI kk)).toNatClampNeg ((vF 70 kk) + 1)) ((nI kk)).toNatClampNeg ((vF 56) kk)) := (fT_sm _ _ _ _).symm
          have hP := wr_PF e9 (fz_w (WR_F 70 (by decide) _ rfl) hP)
          have hD := wr_DF e9 (fz_wD (WR_F 70 (by decide) _ rfl) hD)
          clear e9
          refine lv_iinc (v := ((nI kk) + (-1))) hx hb dX12_nextValues_62 hl (k := 1) rfl rfl (by decide) rfl (fun ls (hl : lv_has ls _ ([(1, .int ((nI kk) + (-1))), (0, .ref h0)])) => ?_)
          refine lv_goto (tgt := 7) hx hb dX12_nextValues_65 (by decide) ?_
          have hl : lv_has _ _ ([(0, .ref h0), (1, .int ((nI kk) + (-1)))]) := lv_sub hl [1, 0] rfl
          exact ih7 ((nI kk) + (-1)) (kk1 - 1) (upd (upd f70 ((nI kk)).toNatClampNeg ((vF 70 kk) + 1)) ((nI kk)).toNatClampNeg ((vF 56) kk)) _ _ _ (by rw [m1T (by omega)]; omega) (by omega) (fun q hq => by rw [upd_at (by omega), if_neg (by omega), upd_at (by omega), if_neg (by omega)]; exact hsame q (by omega)) (fun q h1 h2 => by by_cases e9 : q = kk; (rw [upd_at (by omega), if_pos e9, e9]); (rw [upd_at (by omega), if_neg e9, upd_at (by omega), if_neg e9]; exact hz q (by omega) h2)) (fun q hq => by rw [upd_at (by omega), if_neg (by omega), upd_at (by omega), if_neg (by omega)]; exact hz2 q hq) (by omega) hP hD hS hl
        · have t_45 : ¬ ((vF 70 kk + 1)).toInt > (((vF 57) kk)).toInt := toI_ngt c_45 rfl rfl
          refine lv_iconst (v := 1) hx hb dX12_nextValues_48 (by decide) ?_
          refine W.widen (k := 0) (n := 0) (by decide +kernel) (by decide +kernel) ?_
          exact W.zret (v := 1) hx hb hr rfl (fun t9_ ht hW => ⟨⟨1, (upd f70 ((nI kk)).toNatClampNeg ((vF 70 kk) + 1)), rfl, by (try dsimp only); (have hn := hva.next (g := (upd f70 (nI kk).toNatClampNeg (vF 70 kk + 1))) (r := kk) (by omega) c_17 (fun q hq => by rw [upd_at (by omega), if_neg (by omega)]; exact hsame q (by omega)) (by rw [upd_at (by omega), if_pos rfl]; exact ea) (by rw [upd_at (by omega), if_pos rfl]; omega) (fun q h1 h2 => by rw [upd_at (by omega), if_neg (by omega)]; exact hz q (by omega) h2)); exact Or.inl ⟨rfl, hn.1, fun q hq => by rw [upd_at (by omega), if_neg (by omega)]; exact hz2 q hq, hn.2⟩, by rw [ht]; exact hP, hD⟩, hS.F ht⟩) hS.2.2 dX12_nextValues_49
      · have t_17 : (((vF 58) kk)).toInt = 0 := toI_nne c_17 rfl (by decide)
        refine lv_goto (tgt := 62) hx hb dX12_nextValues_20 (by decide) ?_
        refine lv_iinc (v := ((nI kk) + (-1))) hx hb dX12_nextValues_62 hl (k := 1) rfl rfl (by decide) rfl (fun ls (hl : lv_has ls _ ([(1, .int ((nI kk) + (-1))), (0, .ref h0)])) => ?_)
        refine lv_goto (tgt := 7) hx hb dX12_nextValues_65 (by decide) ?_
        have hl : lv_has _ _ ([(0, .ref h0), (1, .int ((nI kk) + (-1)))]) := lv_sub hl [1, 0] rfl
        exact ih7 ((nI kk) + (-1)) (kk1 - 1) f70 _ _ _ (by rw [m1T (by omega)]; omega) (by omega) (fun q hq => hsame q (by omega)) (fun q h1 h2 => by by_cases e9 : q = kk; (rw [e9, hsame kk (by omega)]; exact (hva kk (by omega)).2.1 c_17); (exact hz q (by omega) h2)) (hz2) (by omega) hP hD hS hl
end
section
theorem mulp {x y : Int} {a b c : Nat} (hx : x.natAbs < 2 ^ a) (hy : y.natAbs < 2 ^ b) (h : a + b ≤ c) : (x * y).natAbs < 2 ^ c := by
  rw [Int.natAbs_mul]
  have h1 : x.natAbs * y.natAbs < 2 ^ a * 2 ^ b := Nat.mul_lt_mul'' hx hy
  rw [← Nat.pow_add] at h1
  exact Nat.lt_of_lt_of_le h1 (Nat.pow_le_pow_right (by decide) h)
theorem mulpN {x y : Nat} {a b c : Nat} (hx : x < 2 ^ a) (hy : y < 2 ^ b) (h : a + b ≤ c) : x * y < 2 ^ c := by
  have h1 : x * y < 2 ^ a * 2 ^ b := Nat.mul_lt_mul'' hx hy
  rw [← Nat.pow_add] at h1
  exact Nat.lt_of_lt_of_le h1 (Nat.pow_le_pow_right (by decide) h)
theorem gn_bd0 {x y : Nat} (hx : x < 2 ^ 67) (h : y ≤ x * (if 0 = 0 then 9999 else 99)) : y < 2 ^ 81 := by
  rw [if_pos rfl] at h
  exact Nat.lt_of_le_of_lt h (mulpN (b := 14) hx (by decide) (by decide))
theorem gn_bd1 {x y k : Nat} (hx : x < 2 ^ 67) (h : y ≤ x * (if k + 1 = 0 then 9999 else 99)) : y < 2 ^ 74 := by
  rw [if_neg (by omega)] at h
  exact Nat.lt_of_le_of_lt h (mulpN (b := 7) hx (by decide) (by decide))
/-- an answer's numbers: values and the divisor, goals and their unders -/
def AnsB (m : Nat → Int) (b : Nat) : Prop := (∀ k, k < 9 → (m (b + k)).natAbs < 2 ^ 131) ∧ ∀ g, g < 3 → (m (b + 10 + g)).natAbs < 2 ^ 209 ∧ (m (b + 13 + g)).natAbs < 2 ^ 187
theorem AnsB.frame {m m2 : Nat → Int} {b : Nat} (h : AnsB m b) (e : ∀ p, b ≤ p → p < b + 16 → m2 p = m p) : AnsB m2 b :=
  ⟨fun k hk => by rw [e _ (by omega) (by omega)]; exact h.1 k hk, fun g hg => by rw [e _ (by omega) (by omega), e _ (by omega) (by omega)]; exact h.2 g hg⟩
theorem TabN.framez {C T : Nat} {m m2 : Nat → Int} {t : Nat → Nat → Int} {D : Int} (h : TabN C T m t D) (hsz : T * (C + 1) ≤ 970) (e : ∀ p, (p = 20 ∨ (30 ≤ p ∧ p < 1000)) → m2 p = m p) : TabN C T m2 t D :=
  ⟨fun i hi j hj => (e _ (Or.inr ⟨by omega, by have := pl_lt hi hj; omega⟩)).trans (h.1 i hi j hj), (e 20 (Or.inl rfl)).trans h.2⟩
def Sz (k : Nat) (x : Int) : Prop := x.natAbs < 2 ^ k
theorem add131 {x y : Int} (hx : Sz 120 x) (hy : Sz 130 y) : (x + 1 * y).natAbs < 2 ^ 131 := by
  unfold Sz at hx hy
  have h1 : (x + 1 * y).natAbs ≤ x.natAbs + y.natAbs := by omega
  have h2 : (2 : Nat) ^ 120 + 2 ^ 130 ≤ 2 ^ 131 := by
    rw [show (2 : Nat) ^ 131 = 2 ^ 130 + 2 ^ 130 by rw [Nat.pow_succ 2 130, Nat.mul_two]]
    exact Nat.add_le_add_right (Nat.pow_le_pow_right (by decide) (by decide)) _
  omega
theorem lift616 {x : Nat} {k : Nat} (h : x < 2 ^ k) (hk : k ≤ 616) : x < 2 ^ 616 := Nat.lt_of_lt_of_le h (Nat.pow_le_pow_right (by decide) hk)
theorem sz999 {x : Int} (h : -999 ≤ x ∧ x ≤ 999) : Sz 10 x := by unfold Sz; have : x.natAbs ≤ 999 := by omega
                                                                 exact Nat.lt_of_le_of_lt this (by decide)
theorem Sz.mul {x y : Int} {a b c : Nat} (hx : Sz a x) (hy : Sz b y) (h : a + b ≤ c) : Sz c (x * y) := mulp hx hy h
theorem Sz.up {x : Int} {a b : Nat} (hx : Sz a x) (h : a ≤ b) : Sz b x := Nat.lt_of_lt_of_le hx (Nat.pow_le_pow_right (by decide) h)
end
section
theorem hd_yX12_scaleOf_RX12 : yX12_scaleOf.cls = RX12 ∧ yX12_scaleOf.cls ≠ "java/lang/invoke/MethodHandle" ∧ yX12_scaleOf.cls ≠ "java/lang/invoke/VarHandle" ∧ (parseMethodDescriptor yX12_scaleOf.desc).map (fun d => d.parameters.length) = some 1 := by decide +kernel
theorem hd_yX12_goalNumber_RX12 : yX12_goalNumber.cls = RX12 ∧ yX12_goalNumber.cls ≠ "java/lang/invoke/MethodHandle" ∧ yX12_goalNumber.cls ≠ "java/lang/invoke/VarHandle" ∧ (parseMethodDescriptor yX12_goalNumber.desc).map (fun d => d.parameters.length) = some 2 := by decide +kernel
theorem hd_yX12_goalOf_RX12 : yX12_goalOf.cls = RX12 ∧ yX12_goalOf.cls ≠ "java/lang/invoke/MethodHandle" ∧ yX12_goalOf.cls ≠ "java/lang/invoke/VarHandle" ∧ (parseMethodDescriptor yX12_goalOf.desc).map (fun d => d.parameters.length) = some 2 := by decide +kernel
theorem hd_yX12_thing_RX12 : yX12_thing.cls = RX12 ∧ yX12_thing.cls ≠ "java/lang/invoke/MethodHandle" ∧ yX12_thing.cls ≠ "java/lang/invoke/VarHandle" ∧ (parseMethodDescriptor yX12_thing.desc).map (fun d => d.parameters.length) = some 2 := by decide +kernel
theorem hd_yX12_against_RX12 : yX12_against.cls = RX12 ∧ yX12_against.cls ≠ "java/lang/invoke/MethodHandle" ∧ yX12_against.cls ≠ "java/lang/invoke/VarHandle" ∧ (parseMethodDescriptor yX12_against.desc).map (fun d => d.parameters.length) = some 4 := by decide +kernel
theorem dX12_goalOf_0 : decode cX12_goalOf 0 = .ok (.aload_n 0, 1) := dk_42 (by decide +kernel)
theorem dX12_goalOf_1 : decode cX12_goalOf 1 = .ok (.iload_n 1, 1) := dk_27 (by decide +kernel)
theorem dX12_goalOf_2 : decode cX12_goalOf 2 = .ok (.invokevirtual 844, 3) := dk_182 (by decide +kernel)
theorem dX12_goalOf_5 : decode cX12_goalOf 5 = .ok (.aload_n 0, 1) := dk_42 (by decide +kernel)
theorem dX12_goalOf_6 : decode cX12_goalOf 6 = .ok (.iload_n 1, 1) := dk_27 (by decide +kernel)
theorem dX12_goalOf_7 : decode cX12_goalOf 7 = .ok (.iconst 0, 1) := dk_3 (by decide +kernel)
theorem dX12_goalOf_8 : decode cX12_goalOf 8 = .ok (.invokevirtual 847, 3) := dk_182 (by decide +kernel)
theorem dX12_goalOf_11 : decode cX12_goalOf 11 = .ok (.aload_n 0, 1) := dk_42 (by decide +kernel)
theorem dX12_goalOf_12 : decode cX12_goalOf 12 = .ok (.bipush 22, 2) := dk_16 (by decide +kernel)
theorem dX12_goalOf_14 : decode cX12_goalOf 14 = .ok (.bipush 17, 2) := dk_16 (by decide +kernel)
theorem dX12_goalOf_16 : decode cX12_goalOf 16 = .ok (.iload_n 2, 1) := dk_28 (by decide +kernel)
theorem dX12_goalOf_17 : decode cX12_goalOf 17 = .ok (.bipush 8, 2) := dk_16 (by decide +kernel)
theorem dX12_goalOf_19 : decode cX12_goalOf 19 = .ok (.iadd, 1) := dk_96 (by decide +kernel)
theorem dX12_goalOf_20 : decode cX12_goalOf 20 = .ok (.invokevirtual 390, 3) := dk_182 (by decide +kernel)
theorem dX12_goalOf_23 : decode cX12_goalOf 23 = .ok (.iconst 0, 1) := dk_3 (by decide +kernel)
theorem dX12_goalOf_24 : decode cX12_goalOf 24 = .ok (.istore_n 3, 1) := dk_62 (by decide +kernel)
theorem dX12_goalOf_25 : decode cX12_goalOf 25 = .ok (.iload_n 3, 1) := dk_29 (by decide +kernel)
theorem dX12_goalOf_26 : decode cX12_goalOf 26 = .ok (.aload_n 0, 1) := dk_42 (by decide +kernel)
theorem dX12_goalOf_27 : decode cX12_goalOf 27 = .ok (.getfield 774, 3) := dk_180 (by decide +kernel)
theorem dX12_goalOf_30 : decode cX12_goalOf 30 = .ok (.if_icmp .ge 47, 3) := dk_162 (by decide +kernel)
theorem dX12_goalOf_33 : decode cX12_goalOf 33 = .ok (.aload_n 0, 1) := dk_42 (by decide +kernel)
theorem dX12_goalOf_34 : decode cX12_goalOf 34 = .ok (.iload_n 1, 1) := dk_27 (by decide +kernel)
theorem dX12_goalOf_35 : decode cX12_goalOf 35 = .ok (.iload_n 3, 1) := dk_29 (by decide +kernel)
theorem dX12_goalOf_36 : decode cX12_goalOf 36 = .ok (.iconst 1, 1) := dk_4 (by decide +kernel)
theorem dX12_goalOf_37 : decode cX12_goalOf 37 = .ok (.iadd, 1) := dk_96 (by decide +kernel)
theorem dX12_goalOf_38 : decode cX12_goalOf 38 = .ok (.invokevirtual 847, 3) := dk_182 (by decide +kernel)
theorem dX12_goalOf_41 : decode cX12_goalOf 41 = .ok (.aload_n 0, 1) := dk_42 (by decide +kernel)
theorem dX12_goalOf_42 : decode cX12_goalOf 42 = .ok (.bipush 23, 2) := dk_16 (by decide +kernel)
theorem dX12_goalOf_44 : decode cX12_goalOf 44 = .ok (.bipush 17, 2) := dk_16 (by decide +kernel)
theorem dX12_goalOf_46 : decode cX12_goalOf 46 = .ok (.iload_n 2, 1) := dk_28 (by decide +kernel)
theorem dX12_goalOf_47 : decode cX12_goalOf 47 = .ok (.iload_n 3, 1) := dk_29 (by decide +kernel)
theorem dX12_goalOf_48 : decode cX12_goalOf 48 = .ok (.iadd, 1) := dk_96 (by decide +kernel)
theorem dX12_goalOf_49 : decode cX12_goalOf 49 = .ok (.invokevirtual 390, 3) := dk_182 (by decide +kernel)
theorem dX12_goalOf_52 : decode cX12_goalOf 52 = .ok (.aload_n 0, 1) := dk_42 (by decide +kernel)
theorem dX12_goalOf_53 : decode cX12_goalOf 53 = .ok (.bipush 24, 2) := dk_16 (by decide +kernel)
theorem dX12_goalOf_55 : decode cX12_goalOf 55 = .ok (.bipush 22, 2) := dk_16 (by decide +kernel)
theorem dX12_goalOf_57 : decode cX12_goalOf 57 = .ok (.bipush 23, 2) := dk_16 (by decide +kernel)
theorem dX12_goalOf_59 : decode cX12_goalOf 59 = .ok (.iconst 1, 1) := dk_4 (by decide +kernel)
theorem dX12_goalOf_60 : decode cX12_goalOf 60 = .ok (.invokevirtual 443, 3) := dk_182 (by decide +kernel)
theorem dX12_goalOf_63 : decode cX12_goalOf 63 = .ok (.aload_n 0, 1) := dk_42 (by decide +kernel)
theorem dX12_goalOf_64 : decode cX12_goalOf 64 = .ok (.bipush 22, 2) := dk_16 (by decide +kernel)
theorem dX12_goalOf_66 : decode cX12_goalOf 66 = .ok (.bipush 24, 2) := dk_16 (by decide +kernel)
theorem dX12_goalOf_68 : decode cX12_goalOf 68 = .ok (.invokevirtual 365, 3) := dk_182 (by decide +kernel)
theorem dX12_goalOf_71 : decode cX12_goalOf 71 = .ok (.iinc 3 1, 3) := dk_132 (by decide +kernel)
theorem dX12_goalOf_74 : decode cX12_goalOf 74 = .ok (.goto (-49), 3) := dk_167 (by decide +kernel)
theorem dX12_goalOf_77 : decode cX12_goalOf 77 = .ok (.aload_n 0, 1) := dk_42 (by decide +kernel)
theorem dX12_goalOf_78 : decode cX12_goalOf 78 = .ok (.iload_n 2, 1) := dk_28 (by decide +kernel)
theorem dX12_goalOf_79 : decode cX12_goalOf 79 = .ok (.bipush 10, 2) := dk_16 (by decide +kernel)
theorem dX12_goalOf_81 : decode cX12_goalOf 81 = .ok (.iadd, 1) := dk_96 (by decide +kernel)
theorem dX12_goalOf_82 : decode cX12_goalOf 82 = .ok (.iload_n 1, 1) := dk_27 (by decide +kernel)
theorem dX12_goalOf_83 : decode cX12_goalOf 83 = .ok (.iadd, 1) := dk_96 (by decide +kernel)
theorem dX12_goalOf_84 : decode cX12_goalOf 84 = .ok (.bipush 22, 2) := dk_16 (by decide +kernel)
theorem dX12_goalOf_86 : decode cX12_goalOf 86 = .ok (.invokevirtual 365, 3) := dk_182 (by decide +kernel)
theorem dX12_goalOf_89 : decode cX12_goalOf 89 = .ok (.aload_n 0, 1) := dk_42 (by decide +kernel)
theorem dX12_goalOf_90 : decode cX12_goalOf 90 = .ok (.iload_n 2, 1) := dk_28 (by decide +kernel)
theorem dX12_goalOf_91 : decode cX12_goalOf 91 = .ok (.bipush 13, 2) := dk_16 (by decide +kernel)
theorem dX12_goalOf_93 : decode cX12_goalOf 93 = .ok (.iadd, 1) := dk_96 (by decide +kernel)
theorem dX12_goalOf_94 : decode cX12_goalOf 94 = .ok (.iload_n 1, 1) := dk_27 (by decide +kernel)
theorem dX12_goalOf_95 : decode cX12_goalOf 95 = .ok (.iadd, 1) := dk_96 (by decide +kernel)
theorem dX12_goalOf_96 : decode cX12_goalOf 96 = .ok (.bipush 19, 2) := dk_16 (by decide +kernel)
theorem dX12_goalOf_98 : decode cX12_goalOf 98 = .ok (.iload_n 2, 1) := dk_28 (by decide +kernel)
theorem dX12_goalOf_99 : decode cX12_goalOf 99 = .ok (.bipush 8, 2) := dk_16 (by decide +kernel)
theorem dX12_goalOf_101 : decode cX12_goalOf 101 = .ok (.iadd, 1) := dk_96 (by decide +kernel)
theorem dX12_goalOf_102 : decode cX12_goalOf 102 = .ok (.invokevirtual 390, 3) := dk_182 (by decide +kernel)
theorem dX12_goalOf_105 : decode cX12_goalOf 105 = .ok (.return_, 1) := dk_177 (by decide +kernel)
def wsRX12_goalOf : List Cond := .code yX12_goalOf cX12_goalOf 4 none :: ([.fieldLink RX12 774 "OptimaWorksModel" "variables" "I"] ++ wsX120 ++ (wsV RX12 844 RX12 yX12_scaleOf wsRX12_scaleOf) ++ (wsV RX12 847 RX12 yX12_goalNumber wsRX12_goalNumber) ++ (wsV RX12 390 RX12 yX12_times wsRX12_times) ++ (wsV RX12 365 RX12 yX12_copy wsRX12_copy) ++ (wsV RX12 443 RX12 yX12_add wsRX12_add))
theorem iwsRX12_goalOf_in12 : ∀ w ∈ wsX120, w ∈ wsRX12_goalOf := fun _ h => List.mem_cons_of_mem _ (List.mem_append_left _ (List.mem_append_left _ (List.mem_append_left _ (List.mem_append_left _ (List.mem_append_left _ (List.mem_append_right _ h))))))
theorem gwsRX12_goalOf_0 : GoodIn wsRX12_goalOf (wsV RX12 844 RX12 yX12_scaleOf wsRX12_scaleOf) := goodIn_sub (fun _ h => List.mem_cons_of_mem _ (List.mem_append_left _ (List.mem_append_left _ (List.mem_append_left _ (List.mem_append_left _ (List.mem_append_right _ h)))))) (gdV (by decide +kernel) gdwsRX12_scaleOf)
theorem gwsRX12_goalOf_1 : GoodIn wsRX12_goalOf (wsV RX12 847 RX12 yX12_goalNumber wsRX12_goalNumber) := goodIn_sub (fun _ h => List.mem_cons_of_mem _ (List.mem_append_left _ (List.mem_append_left _ (List.mem_append_left _ (List.mem_append_right _ h))))) (gdV (by decide +kernel) gdwsRX12_goalNumber)
theorem gwsRX12_goalOf_2 : GoodIn wsRX12_goalOf (wsV RX12 390 RX12 yX12_times wsRX12_times) := goodIn_sub (fun _ h => List.mem_cons_of_mem _ (List.mem_append_left _ (List.mem_append_left _ (List.mem_append_right _ h)))) (gdV (by decide +kernel) gdwsRX12_times)
theorem gwsRX12_goalOf_3 : GoodIn wsRX12_goalOf (wsV RX12 365 RX12 yX12_copy wsRX12_copy) := goodIn_sub (fun _ h => List.mem_cons_of_mem _ (List.mem_append_left _ (List.mem_append_right _ h))) (gdV (by decide +kernel) gdwsRX12_copy)
theorem gwsRX12_goalOf_4 : GoodIn wsRX12_goalOf (wsV RX12 443 RX12 yX12_add wsRX12_add) := goodIn_sub (fun _ h => List.mem_cons_of_mem _ (List.mem_append_right _ h)) (gdV (by decide +kernel) gdwsRX12_add)
theorem gdwsRX12_goalOf : wsRX12_goalOf.all goodWord = true := gdC rfl (gdA (gdA (gdA (gdA (gdA (gdA (by decide +kernel : ([.fieldLink RX12 774 "OptimaWorksModel" "variables" "I"] : List Cond).all goodWord = true) gdwsX120) (gdV (by decide +kernel) gdwsRX12_scaleOf)) (gdV (by decide +kernel) gdwsRX12_goalNumber)) (gdV (by decide +kernel) gdwsRX12_times)) (gdV (by decide +kernel) gdwsRX12_copy)) (gdV (by decide +kernel) gdwsRX12_add))
set_option maxHeartbeats 4000000 in
set_option maxRecDepth 100000 in
/-- goalOf(g, base) -/
theorem r_X12_goalOf (l : Launch) (dC : Nat → ClassId) (dI : Nat → Nat → Nat) (a : Nat → Nat) (k : Nat → ClassId) (h0 : Nat) (vi : Nat → Int32) (vj : Nat → Int64) (vF : Nat → Nat → Int32) (vG : Nat → Nat → Int64) (gn : Nat) (bn : Nat) (vn : Nat) (gq : Nat) (mg : Nat → Int) (hBg : Bg (vF 0) mg) (hvn : vi 90 = nI vn) (hvn8 : vn ≤ 8) (hgn : gn < gq) (hgq : gq ≤ 3) (hM : MdlB vF gq) (hbn : 1000 ≤ bn ∧ bn ≤ 1020) (hAn : AnsB mg bn) (h8 : (mg (bn + 8)).natAbs < 2 ^ 120) (sz : Nat) : Met l yX12_goalOf wsRX12_goalOf ({ frames := 4, cells := 0, slots := 0, locals := 107 }) (va_Pc [.ref h0, .int (nI gn), .int (nI bn)] (fun U => U.heap.size = sz ∧ va_P (dC, dI) vwCl (WR a k h0 vi vj vF vG) U.heap ∧ va_K (dC, dI) vwCl (tX12 k) U ∧ va_D (fun _ => True) (WR a k h0 vi vj vF vG))) (va_Qv (fun (u : (Nat → Int32) × (Nat → Int32) × (Nat → Int32) × (Nat → Int64) × (Nat → Int)) => (Bg (u.1) (u.2.2.2.2)) ∧ (AnsB (u.2.2.2.2) bn) ∧ (∀ q, (q < 5 ∨ 19 < q) → (q < 22 ∨ 24 < q) → q ≠ bn + 10 + gn → q ≠ bn + 13 + gn → (u.2.2.2.2) q = mg q) ∧ (0 < mg (bn + 8) → 0 < (u.2.2.2.2) (bn + 13 + gn))) (fun (u : (Nat → Int32) × (Nat → Int32) × (Nat → Int32) × (Nat → Int64) × (Nat → Int)) t => va_P (dC, dI) vwCl (WR a k h0 vi vj (fT (fT (fT vF 0 (u.1)) 2 (u.2.1)) 3 (u.2.2.1)) (fT vG 1 (u.2.2.2.1))) t.heap ∧ va_D (va_A (WR a k h0 vi vj vF vG) sz) (WR a k h0 vi vj (fT (fT (fT vF 0 (u.1)) 2 (u.2.1)) 3 (u.2.2.1)) (fT vG 1 (u.2.2.2.1)))) (va_A (WR a k h0 vi vj vF vG) sz)) 0 0 (va_A (WR a k h0 vi vj vF vG) sz) := by
  refine Met.ofW (cc := cX12_goalOf) (maxL := 4) (ret := none) (by decide) rfl ?_
  intro p e s m args below meth c s₁ B hml hv
  obtain ⟨rfl, hsz, hP, hK, hD0⟩ := hv
  have hx := B.exec
  have hb := B.bytes
  have hr := B.returns
  have hts := atoms_spec (ws := wsRX12_goalOf) B.pre
  have hown : s.vm.findClass RX12 = some m.cls := findClass_of_methodNamed B.named
  have hlocks := B.notSynchronized
  subst hsz
  have hD := hD0.self (sz := s.heap.size)
  generalize hAe : va_A (WR a k h0 vi vj vF vG) s.heap.size = A at hD ⊢
  have hA : ∀ q : Nat, s.heap.size ≤ q → A q := fun q h => by rw [← hAe]; exact Or.inr h
  have hS : va_S A s.heap s.heap [] := va_S.rf
  have hl := lv_entry ([.ref h0, .int (nI gn), .int (nI bn)]) (n := 4) (Nat.le_of_ble_eq_true rfl)
  rw [lg_entry_eq]
  generalize (lg_sl ([.ref h0, .int (nI gn), .int (nI bn)]) ++ List.replicate (4 - (lg_sl ([.ref h0, .int (nI gn), .int (nI bn)])).length) Slot.unset).toArray = ls at hl ⊢
  have hl : lv_has ls 4 [(0, .ref h0), (1, .int (nI gn)), (2, .int (nI bn))] := hl
  refine lv_aload_n hx hb dX12_goalOf_0 rfl (lv_at hl 0 rfl) ?_
  refine lv_iload_n hx hb dX12_goalOf_1 rfl (lv_at hl 1 rfl) ?_
  have hFc := allFree hD hS hA
  refine va_callv (va_runV (As := [.int (nI gn)]) (rest := []) ⟨hx, hb, hml, hown, hts⟩ (r_X12_scaleOf l dC dI a k h0 vi vj vF vG gn gq mg hBg (by first | with_reducible assumption | decide | omega | rfl | assumption) (by first | with_reducible assumption | decide | omega | rfl | assumption) (by first | with_reducible assumption | decide | omega | rfl | assumption) s.heap.size) (cwV 1 hts gwsRX12_goalOf_0 rfl rfl rfl hd_yX12_scaleOf_RX12 (by decide +kernel)) (fz_pre (va_recv hK hP (ci := 12) (q0 := 0) rfl rfl) hP hK hD) rfl rfl hl.1 rfl (lv_room (Nat.le_of_ble_eq_true rfl)) dX12_goalOf_2 (by decide +kernel)) hS (fun q _ h => hFc q h) hFc (fun u t9_ H locs ht hvm hw9 hB9 hz1 hk1 hS => ?_)
  revert u hw9 hB9
  refine fz_p5 ?_
  intro g2 f2w2 f3w2 gs2 m22 hw9 hB9
  try dsimp only at hw9 hB9
  have hP : va_P (dC, dI) vwCl (WR a k h0 vi vj (fT (fT (fT vF 0 g2) 2 f2w2) 3 f3w2) (fT vG 1 gs2)) H := fz_P ht hB9.1
  have hD := fz_sd hP (hB9.2.weaken (fun _ q _ h => hFc q.1 h)) rfl
  revert hw9
  refine fz_a4 ?_
  intro f2_0 f2_1 f2_2 f2_3
  refine lv_aload_n hx hb dX12_goalOf_5 rfl (lv_at hl 0 rfl) ?_
  refine lv_iload_n hx hb dX12_goalOf_6 rfl (lv_at hl 1 rfl) ?_
  refine lv_iconst (v := 0) hx hb dX12_goalOf_7 (by decide) ?_
  have hFc := allFree hD hS hA
  refine va_callv (va_runV (As := [.int (nI gn), .int 0]) (rest := []) ⟨hx, hb, hml, hown, hts⟩ (r_X12_goalNumber l dC dI a k h0 vi vj (fT (fT (fT vF 0 g2) 2 f2w2) 3 f3w2) (fT vG 1 gs2) gn 0 gq m22 f2_0 (m22 19) rfl (by first | with_reducible assumption | decide | omega | rfl | assumption) (by first | with_reducible assumption | decide | omega | rfl | assumption) (by first | with_reducible assumption | decide | omega | rfl | assumption) (by first | with_reducible assumption | decide | omega | rfl | assumption) (f2_2) H.size) (cwV 2 hts gwsRX12_goalOf_1 rfl rfl rfl hd_yX12_goalNumber_RX12 (by decide +kernel)) (fz_pre (va_recv hK hP (ci := 12) (q0 := 0) rfl rfl) hP hK hD) rfl rfl hl.1 rfl (lv_room (Nat.le_of_ble_eq_true rfl)) dX12_goalOf_8 (by decide +kernel)) hS (fun q _ h => hFc q h) hFc (fun u t9_ H locs ht hvm hw9 hB9 hz1 hk1 hS => ?_)
  revert u hw9 hB9
  refine fz_p5 ?_
  intro g8 f2w8 f3w8 gs8 m28 hw9 hB9
  try dsimp only at hw9 hB9
  have e9F : fT (fT (fT vF 0 g8) 2 f2w8) 3 f3w8 = fT (fT (fT (fT (fT (fT vF 0 g2) 2 f2w2) 3 f3w2) 0 g8) 2 f2w8) 3 f3w8 := ((congrArg (fun g9 => fT (fT g9 2 f2w8) 3 f3w8) ((fT_sw _ _ _ (Nat.ne_of_beq_eq_false rfl)).trans (congrArg (fun g9 => fT g9 3 f3w2) ((fT_sw _ _ _ (Nat.ne_of_beq_eq_false rfl)).trans (congrArg (fun g9 => fT g9 2 f2w2) (fT_sm _ _ _ _)))))).trans ((congrArg (fun g9 => fT g9 3 f3w8) ((fT_sw _ _ _ (Nat.ne_of_beq_eq_false rfl)).trans (congrArg (fun g9 => fT g9 3 f3w2) (fT_sm _ _ _ _)))).trans (fT_sm _ _ _ _))).symm
  have e9G : fT vG 1 gs8 = fT (fT vG 1 gs2) 1 gs8 := (fT_sm _ _ _ _).symm
  have hP := wr_PG e9G (wr_PF e9F (fz_P ht hB9.1))
  have hD := wr_DG e9G (wr_DF e9F (hB9.2.weaken (fun _ q _ h => hFc q.1 h)))
  clear e9F e9G
  revert hw9
  refine fz_a4 ?_
  intro f8_0 f8_1 f8_2 f8_3
  have b17 := gn_bd0 f2_2 f8_2
  have b8 := h8
  refine lv_aload_n hx hb dX12_goalOf_11 rfl (lv_at hl 0 rfl) ?_
  refine lv_bipush (v := 22) hx hb dX12_goalOf_12 (by decide) ?_
  refine lv_bipush (v := 17) hx hb dX12_goalOf_14 (by decide) ?_
  refine lv_iload_n hx hb dX12_goalOf_16 rfl (lv_at hl 2 rfl) ?_
  refine lv_bipush (v := 8) hx hb dX12_goalOf_17 (by decide) ?_
  refine lv_iadd hx hb dX12_goalOf_19 ?_
  refine lv_topi (fun y1 hy1 => ?_)
  obtain rfl : (nI (bn + 8)) = y1 := (hy1.trans (nI_add bn 8)).symm
  have hFc := allFree hD hS hA
  refine va_callv (va_runV (As := [.int 22, .int 17, .int (nI (bn + 8))]) (rest := []) ⟨hx, hb, hml, hown, hts⟩ (b_X12_times l dC dI a k h0 vi vj (fT (fT (fT vF 0 g8) 2 f2w8) 3 f3w8) (fT vG 1 gs8) 22 17 (bn + 8) m28 f8_0 (m28 17) (mg (bn + 8)) rfl (by rw [f8_3 _ (by omega), f2_3 _ (by omega)]) (by first | with_reducible assumption | decide | omega | rfl | assumption) (by first | with_reducible assumption | decide | omega | rfl | assumption) (by first | with_reducible assumption | decide | omega | rfl | assumption) (mulpN (c := 588) b17 b8 (by decide)) H.size) (cwV 3 hts gwsRX12_goalOf_2 rfl rfl rfl hd_yX12_times_RX12 (by decide +kernel)) (fz_pre (va_recv hK hP (ci := 12) (q0 := 0) rfl rfl) hP hK hD) rfl rfl hl.1 rfl (lv_room (Nat.le_of_ble_eq_true rfl)) dX12_goalOf_20 (by decide +kernel)) hS (fun q _ h => hFc q h) hFc (fun u t9_ H locs ht hvm hw9 hB9 hz1 hk1 hS => ?_)
  revert u hw9 hB9
  refine fz_p2 ?_
  intro g20 gs20 hw9 hB9
  try dsimp only at hw9 hB9
  have e9F : fT (fT (fT vF 0 g20) 2 f2w8) 3 f3w8 = fT (fT (fT (fT vF 0 g8) 2 f2w8) 3 f3w8) 0 g20 := ((fT_sw _ _ _ (Nat.ne_of_beq_eq_false rfl)).trans (congrArg (fun g9 => fT g9 3 f3w8) ((fT_sw _ _ _ (Nat.ne_of_beq_eq_false rfl)).trans (congrArg (fun g9 => fT g9 2 f2w8) (fT_sm _ _ _ _))))).symm
  have e9G : fT vG 1 gs20 = fT (fT vG 1 gs8) 1 gs20 := (fT_sm _ _ _ _).symm
  have hP := wr_PG e9G (wr_PF e9F (fz_P ht hB9.1))
  have hD := wr_DG e9G (wr_DF e9F (hB9.2.weaken (fun _ q _ h => hFc q.1 h)))
  clear e9F e9G
  have f20_0 := hw9
  try dsimp only at f20_0
  refine lv_iconst (v := 0) hx hb dX12_goalOf_23 (by decide) ?_
  refine lv_istore_n hx hb dX12_goalOf_24 rfl hl (by decide) rfl (fun ls (hl : lv_has ls _ ([(3, .int 0), (0, .ref h0), (1, .int (nI gn)), (2, .int (nI bn))])) => ?_)
  have hl : lv_has _ _ ([(0, .ref h0), (1, .int (nI gn)), (2, .int (nI bn)), (3, .int (nI 0))]) := lv_sub hl [1, 2, 3, 0] rfl
  refine (fun (loop : ∀ (n9 : Nat) (k5 : Nat) (g1 : Nat → Int32) (f21 : Nat → Int32) (f31 : Nat → Int32) (gs1 : Nat → Int64) (m1 : Nat → Int) (x19 : Int) (x22 : Int) (H : Heap) (locs : List Loc) (ls : Array Slot), (Bg g1 m1) → (m1 19 = x19) → (m1 22 = x22) → (k5 ≤ vn) → (x19.natAbs < 2 ^ 67) → (0 < x19) → (x22.natAbs ≤ 2 ^ 201 + k5 * 2 ^ 205) → (∀ q, (q < 5 ∨ 19 < q) → (q < 22 ∨ 24 < q) → m1 q = mg q) →  (vn < k5 + n9) → va_P (dC, dI) vwCl (WR a k h0 vi vj (fT (fT (fT vF 0 g1) 2 f21) 3 f31) (fT vG 1 gs1)) H → va_D A (WR a k h0 vi vj (fT (fT (fT vF 0 g1) 2 f21) 3 f31) (fT vG 1 gs1)) → va_S A s.heap H locs → lv_has ls 4 [(0, .ref h0), (1, .int (nI gn)), (2, .int (nI bn)), (3, .int (nI k5))] → W p l e _ s m _ below meth c H locs 0 0 _ (F0 m 25 ls [])) => loop (vn + 1) 0 g20 f2w8 f3w8 gs20 (fT m28 22 ((m28 17) * (mg (bn + 8)))) (m22 19) ((m28 17) * (mg (bn + 8))) _ _ _ (f20_0) ((by rw [fT_ne _ _ (by omega), f8_1])) ((by rw [fT_eq])) (by omega) (f2_2) (f2_1) (by (have p9 := mulp (c := 201) b17 b8 (by decide)); omega) (fun q h1 h2 => by (rw [fT_ne _ _ (by omega), f8_3 _ (by omega), f2_3 _ (by omega)])) (by omega) hP hD hS hl) ?_
  intro n9
  induction n9 with
  | zero => intro k5 g1 f21 f31 gs1 m1 x19 x22 H locs ls hB1 v_x19 v_x22 hk5 h19b h19p h22b ho hf9; exact False.elim (by omega)
  | succ n9 ih25 =>
    intro k5 g1 f21 f31 gs1 m1 x19 x22 H locs ls hB1 v_x19 v_x22 hk5 h19b h19p h22b ho hf25 hP hD hS hl
    refine lv_iload_n hx hb dX12_goalOf_25 rfl (lv_at hl 3 rfl) ?_
    refine lv_aload_n hx hb dX12_goalOf_26 rfl (lv_at hl 0 rfl) ?_
    refine va_get (D := (dC, dI)) (ci := 12) (v := .int (vi 90)) (C := RX12) (T := TX12) (N := 163) (fs := fM (vS a vi vj)) hx hb hts iwsRX12_goalOf_in12 hown hK hP 0 rfl rfl 90 (by decide) (hts (.fieldLink RX12 774 "OptimaWorksModel" "variables" "I") (by decide +kernel)) (fun _ h9 => h9) rfl dX12_goalOf_27 ?_
    refine lv_topi (fun y2 hy2 => ?_)
    obtain rfl : (nI vn) = y2 := (hy2.trans (hvn)).symm
    refine lv_icmp_ge (tgt := 77) hx hb dX12_goalOf_30 (by decide) (fun c_30 => ?_) (fun c_30 => ?_)
    · have t_30 : ((k5 : Nat) : Int) ≥ ((vn : Nat) : Int) := toI_ge c_30 (nI_toInt (by omega)) (nI_toInt (by omega))
      refine lv_aload_n hx hb dX12_goalOf_77 rfl (lv_at hl 0 rfl) ?_
      refine lv_iload_n hx hb dX12_goalOf_78 rfl (lv_at hl 2 rfl) ?_
      refine lv_bipush (v := 10) hx hb dX12_goalOf_79 (by decide) ?_
      refine lv_iadd hx hb dX12_goalOf_81 ?_
      refine lv_topi (fun y3 hy3 => ?_)
      obtain rfl : (nI (bn + 10)) = y3 := (hy3.trans (nI_add bn 10)).symm
      refine lv_iload_n hx hb dX12_goalOf_82 rfl (lv_at hl 1 rfl) ?_
      refine lv_iadd hx hb dX12_goalOf_83 ?_
      refine lv_topi (fun y4 hy4 => ?_)
      obtain rfl : (nI ((bn + 10) + gn)) = y4 := (hy4.trans (nI_add (bn + 10) gn)).symm
      refine lv_bipush (v := 22) hx hb dX12_goalOf_84 (by decide) ?_
      have hFc := allFree hD hS hA
      refine va_callv (va_runV (As := [.int (nI ((bn + 10) + gn)), .int 22]) (rest := []) ⟨hx, hb, hml, hown, hts⟩ (b_X12_copy l dC dI a k h0 vi vj (fT (fT (fT vF 0 g1) 2 f21) 3 f31) (fT vG 1 gs1) ((bn + 10) + gn) 22 m1 hB1 x22 (by rw [v_x22]) (by first | with_reducible assumption | decide | omega | rfl | assumption) (by first | with_reducible assumption | decide | omega | rfl | assumption) (by first | with_reducible assumption | decide | omega | rfl | assumption) H.size) (cwV 2 hts gwsRX12_goalOf_3 rfl rfl rfl hd_yX12_copy_RX12 (by decide +kernel)) (fz_pre (va_recv hK hP (ci := 12) (q0 := 0) rfl rfl) hP hK hD) rfl rfl hl.1 rfl (lv_room (Nat.le_of_ble_eq_true rfl)) dX12_goalOf_86 (by decide +kernel)) hS (fun q _ h => hFc q h) hFc (fun g86 t9_ H locs ht hvm hw9 hB9 hz1 hk1 hS => ?_)
      have e9F : fT (fT (fT vF 0 g86) 2 f21) 3 f31 = fT (fT (fT (fT vF 0 g1) 2 f21) 3 f31) 0 g86 := ((fT_sw _ _ _ (Nat.ne_of_beq_eq_false rfl)).trans (congrArg (fun g9 => fT g9 3 f31) ((fT_sw _ _ _ (Nat.ne_of_beq_eq_false rfl)).trans (congrArg (fun g9 => fT g9 2 f21) (fT_sm _ _ _ _))))).symm
      have hP := wr_PF e9F (fz_P ht hB9.1)
      have hD := wr_DF e9F (hB9.2.weaken (fun _ q _ h => hFc q.1 h))
      clear e9F
      have f86_0 := hw9
      try dsimp only at f86_0
      refine lv_aload_n hx hb dX12_goalOf_89 rfl (lv_at hl 0 rfl) ?_
      refine lv_iload_n hx hb dX12_goalOf_90 rfl (lv_at hl 2 rfl) ?_
      refine lv_bipush (v := 13) hx hb dX12_goalOf_91 (by decide) ?_
      refine lv_iadd hx hb dX12_goalOf_93 ?_
      refine lv_topi (fun y5 hy5 => ?_)
      obtain rfl : (nI (bn + 13)) = y5 := (hy5.trans (nI_add bn 13)).symm
      refine lv_iload_n hx hb dX12_goalOf_94 rfl (lv_at hl 1 rfl) ?_
      refine lv_iadd hx hb dX12_goalOf_95 ?_
      refine lv_topi (fun y6 hy6 => ?_)
      obtain rfl : (nI ((bn + 13) + gn)) = y6 := (hy6.trans (nI_add (bn + 13) gn)).symm
      refine lv_bipush (v := 19) hx hb dX12_goalOf_96 (by decide) ?_
      refine lv_iload_n hx hb dX12_goalOf_98 rfl (lv_at hl 2 rfl) ?_
      refine lv_bipush (v := 8) hx hb dX12_goalOf_99 (by decide) ?_
      refine lv_iadd hx hb dX12_goalOf_101 ?_
      refine lv_topi (fun y7 hy7 => ?_)
      obtain rfl : (nI (bn + 8)) = y7 := (hy7.trans (nI_add bn 8)).symm
      have hFc := allFree hD hS hA
      refine va_callv (va_runV (As := [.int (nI ((bn + 13) + gn)), .int 19, .int (nI (bn + 8))]) (rest := []) ⟨hx, hb, hml, hown, hts⟩ (b_X12_times l dC dI a k h0 vi vj (fT (fT (fT vF 0 g86) 2 f21) 3 f31) (fT vG 1 gs1) ((bn + 13) + gn) 19 (bn + 8) (fT m1 ((bn + 10) + gn) x22) f86_0 x19 (mg (bn + 8)) (by rw [fT_ne _ _ (by omega), v_x19]) (by rw [fT_ne _ _ (by omega), ho (bn + 8) (by omega) (by omega)]) (by first | with_reducible assumption | decide | omega | rfl | assumption) (by first | with_reducible assumption | decide | omega | rfl | assumption) (by first | with_reducible assumption | decide | omega | rfl | assumption) (mulpN (c := 588) h19b h8 (by decide)) H.size) (cwV 3 hts gwsRX12_goalOf_2 rfl rfl rfl hd_yX12_times_RX12 (by decide +kernel)) (fz_pre (va_recv hK hP (ci := 12) (q0 := 0) rfl rfl) hP hK hD) rfl rfl hl.1 rfl (lv_room (Nat.le_of_ble_eq_true rfl)) dX12_goalOf_102 (by decide +kernel)) hS (fun q _ h => hFc q h) hFc (fun u t9_ H locs ht hvm hw9 hB9 hz1 hk1 hS => ?_)
      revert u hw9 hB9
      refine fz_p2 ?_
      intro g102 gs102 hw9 hB9
      try dsimp only at hw9 hB9
      have e9F : fT (fT (fT vF 0 g102) 2 f21) 3 f31 = fT (fT (fT (fT vF 0 g86) 2 f21) 3 f31) 0 g102 := ((fT_sw _ _ _ (Nat.ne_of_beq_eq_false rfl)).trans (congrArg (fun g9 => fT g9 3 f31) ((fT_sw _ _ _ (Nat.ne_of_beq_eq_false rfl)).trans (congrArg (fun g9 => fT g9 2 f21) (fT_sm _ _ _ _))))).symm
      have e9G : fT vG 1 gs102 = fT (fT vG 1 gs1) 1 gs102 := (fT_sm _ _ _ _).symm
      have hP := wr_PG e9G (wr_PF e9F (fz_P ht hB9.1))
      have hD := wr_DG e9G (wr_DF e9F (hB9.2.weaken (fun _ q _ h => hFc q.1 h)))
      clear e9F e9G
      have f102_0 := hw9
      try dsimp only at f102_0
      refine W.widen (k := 0) (n := 0) (by decide +kernel) (by decide +kernel) ?_
      exact W.vret hx hb hr (fun t9_ ht hW => ⟨⟨(g102, f21, f31, gs102, (fT (fT m1 ((bn + 10) + gn) x22) ((bn + 13) + gn) (x19 * (mg (bn + 8))))), rfl, by (try dsimp only); exact ⟨f102_0, ⟨fun k hk => by (rw [fT_ne _ _ (by omega), fT_ne _ _ (by omega)]); rw [ho _ (by omega) (by omega)]; exact hAn.1 k hk, fun g9 hg9 => ⟨by rw [fT_ne _ _ (by omega)]; by_cases e9 : g9 = gn; (rw [e9, fT_eq]; omega); (rw [fT_ne _ _ (by omega), ho _ (by omega) (by omega)]; exact (hAn.2 g9 hg9).1), by by_cases e9 : g9 = gn; (rw [e9, fT_eq]; exact mulp h19b h8 (by decide)); (rw [fT_ne _ _ (by omega), fT_ne _ _ (by omega), ho _ (by omega) (by omega)]; exact (hAn.2 g9 hg9).2)⟩⟩, fun q h1 h2 h3 h4 => by (rw [fT_ne _ _ (by omega), fT_ne _ _ (by omega)]); exact ho q h1 h2, fun h9 => by (have e9 : (fT (fT m1 ((bn + 10) + gn) x22) ((bn + 13) + gn) (x19 * (mg (bn + 8)))) (bn + 13 + gn) = x19 * mg (bn + 8) := by rw [fT_eq]); rw [e9]; exact Int.mul_pos h19p h9⟩, by rw [ht]; exact hP, hD⟩, hS.F ht⟩) hS.2.2 dX12_goalOf_105
    · have t_30 : ¬ ((k5 : Nat) : Int) ≥ ((vn : Nat) : Int) := toI_nge c_30 (nI_toInt (by omega)) (nI_toInt (by omega))
      refine lv_aload_n hx hb dX12_goalOf_33 rfl (lv_at hl 0 rfl) ?_
      refine lv_iload_n hx hb dX12_goalOf_34 rfl (lv_at hl 1 rfl) ?_
      refine lv_iload_n hx hb dX12_goalOf_35 rfl (lv_at hl 3 rfl) ?_
      refine lv_iconst (v := 1) hx hb dX12_goalOf_36 (by decide) ?_
      refine lv_iadd hx hb dX12_goalOf_37 ?_
      refine lv_topi (fun y8 hy8 => ?_)
      obtain rfl : (nI (k5 + 1)) = y8 := (hy8.trans (nI_add k5 1)).symm
      have hFc := allFree hD hS hA
      refine va_callv (va_runV (As := [.int (nI gn), .int (nI (k5 + 1))]) (rest := []) ⟨hx, hb, hml, hown, hts⟩ (r_X12_goalNumber l dC dI a k h0 vi vj (fT (fT (fT vF 0 g1) 2 f21) 3 f31) (fT vG 1 gs1) gn (k5 + 1) gq m1 hB1 x19 (by rw [v_x19]) (by first | with_reducible assumption | decide | omega | rfl | assumption) (by first | with_reducible assumption | decide | omega | rfl | assumption) (by first | with_reducible assumption | decide | omega | rfl | assumption) (by first | with_reducible assumption | decide | omega | rfl | assumption) (h19b) H.size) (cwV 2 hts gwsRX12_goalOf_1 rfl rfl rfl hd_yX12_goalNumber_RX12 (by decide +kernel)) (fz_pre (va_recv hK hP (ci := 12) (q0 := 0) rfl rfl) hP hK hD) rfl rfl hl.1 rfl (lv_room (Nat.le_of_ble_eq_true rfl)) dX12_goalOf_38 (by decide +kernel)) hS (fun q _ h => hFc q h) hFc (fun u t9_ H locs ht hvm hw9 hB9 hz1 hk1 hS => ?_)
      revert u hw9 hB9
      refine fz_p5 ?_
      intro g38 f2w38 f3w38 gs38 m238 hw9 hB9
      try dsimp only at hw9 hB9
      have e9F : fT (fT (fT vF 0 g38) 2 f2w38) 3 f3w38 = fT (fT (fT (fT (fT (fT vF 0 g1) 2 f21) 3 f31) 0 g38) 2 f2w38) 3 f3w38 := ((congrArg (fun g9 => fT (fT g9 2 f2w38) 3 f3w38) ((fT_sw _ _ _ (Nat.ne_of_beq_eq_false rfl)).trans (congrArg (fun g9 => fT g9 3 f31) ((fT_sw _ _ _ (Nat.ne_of_beq_eq_false rfl)).trans (congrArg (fun g9 => fT g9 2 f21) (fT_sm _ _ _ _)))))).trans ((congrArg (fun g9 => fT g9 3 f3w38) ((fT_sw _ _ _ (Nat.ne_of_beq_eq_false rfl)).trans (congrArg (fun g9 => fT g9 3 f31) (fT_sm _ _ _ _)))).trans (fT_sm _ _ _ _))).symm
      have e9G : fT vG 1 gs38 = fT (fT vG 1 gs1) 1 gs38 := (fT_sm _ _ _ _).symm
      have hP := wr_PG e9G (wr_PF e9F (fz_P ht hB9.1))
      have hD := wr_DG e9G (wr_DF e9F (hB9.2.weaken (fun _ q _ h => hFc q.1 h)))
      clear e9F e9G
      revert hw9
      refine fz_a4 ?_
      intro f38_0 f38_1 f38_2 f38_3
      have b17b := gn_bd1 h19b f38_2
      refine lv_aload_n hx hb dX12_goalOf_41 rfl (lv_at hl 0 rfl) ?_
      refine lv_bipush (v := 23) hx hb dX12_goalOf_42 (by decide) ?_
      have bk := hAn.1 k5 (by omega)
      have p23 := mulp (c := 205) b17b bk (by decide)
      refine lv_bipush (v := 17) hx hb dX12_goalOf_44 (by decide) ?_
      refine lv_iload_n hx hb dX12_goalOf_46 rfl (lv_at hl 2 rfl) ?_
      refine lv_iload_n hx hb dX12_goalOf_47 rfl (lv_at hl 3 rfl) ?_
      refine lv_iadd hx hb dX12_goalOf_48 ?_
      refine lv_topi (fun y9 hy9 => ?_)
      obtain rfl : (nI (bn + k5)) = y9 := (hy9.trans (nI_add bn k5)).symm
      have hFc := allFree hD hS hA
      refine va_callv (va_runV (As := [.int 23, .int 17, .int (nI (bn + k5))]) (rest := []) ⟨hx, hb, hml, hown, hts⟩ (b_X12_times l dC dI a k h0 vi vj (fT (fT (fT vF 0 g38) 2 f2w38) 3 f3w38) (fT vG 1 gs38) 23 17 (bn + k5) m238 f38_0 (m238 17) (mg (bn + k5)) rfl (by rw [f38_3 _ (by omega), ho (bn + k5) (by omega) (by omega)]) (by first | with_reducible assumption | decide | omega | rfl | assumption) (by first | with_reducible assumption | decide | omega | rfl | assumption) (by first | with_reducible assumption | decide | omega | rfl | assumption) (mulpN (c := 588) b17b bk (by decide)) H.size) (cwV 3 hts gwsRX12_goalOf_2 rfl rfl rfl hd_yX12_times_RX12 (by decide +kernel)) (fz_pre (va_recv hK hP (ci := 12) (q0 := 0) rfl rfl) hP hK hD) rfl rfl hl.1 rfl (lv_room (Nat.le_of_ble_eq_true rfl)) dX12_goalOf_49 (by decide +kernel)) hS (fun q _ h => hFc q h) hFc (fun u t9_ H locs ht hvm hw9 hB9 hz1 hk1 hS => ?_)
      revert u hw9 hB9
      refine fz_p2 ?_
      intro g49 gs49 hw9 hB9
      try dsimp only at hw9 hB9
      have e9F : fT (fT (fT vF 0 g49) 2 f2w38) 3 f3w38 = fT (fT (fT (fT vF 0 g38) 2 f2w38) 3 f3w38) 0 g49 := ((fT_sw _ _ _ (Nat.ne_of_beq_eq_false rfl)).trans (congrArg (fun g9 => fT g9 3 f3w38) ((fT_sw _ _ _ (Nat.ne_of_beq_eq_false rfl)).trans (congrArg (fun g9 => fT g9 2 f2w38) (fT_sm _ _ _ _))))).symm
      have e9G : fT vG 1 gs49 = fT (fT vG 1 gs38) 1 gs49 := (fT_sm _ _ _ _).symm
      have hP := wr_PG e9G (wr_PF e9F (fz_P ht hB9.1))
      have hD := wr_DG e9G (wr_DF e9F (hB9.2.weaken (fun _ q _ h => hFc q.1 h)))
      clear e9F e9G
      have f49_0 := hw9
      try dsimp only at f49_0
      refine lv_aload_n hx hb dX12_goalOf_52 rfl (lv_at hl 0 rfl) ?_
      refine lv_bipush (v := 24) hx hb dX12_goalOf_53 (by decide) ?_
      refine lv_bipush (v := 22) hx hb dX12_goalOf_55 (by decide) ?_
      refine lv_bipush (v := 23) hx hb dX12_goalOf_57 (by decide) ?_
      refine lv_iconst (v := 1) hx hb dX12_goalOf_59 (by decide) ?_
      have hFc := allFree hD hS hA
      refine va_callv (va_runV (As := [.int 24, .int 22, .int 23, .int 1]) (rest := []) ⟨hx, hb, hml, hown, hts⟩ (b_X12_add l dC dI a k h0 vi vj (fT (fT (fT vF 0 g49) 2 f2w38) 3 f3w38) (fT vG 1 gs49) 24 1 1 22 23 (fT m238 23 ((m238 17) * (mg (bn + k5)))) f49_0 x22 ((m238 17) * (mg (bn + k5))) (by rw [fT_ne _ _ (by omega), f38_3 _ (by omega), v_x22]) (by rw [fT_eq]) (by first | with_reducible assumption | decide | omega | rfl | assumption) (by first | with_reducible assumption | decide | omega | rfl | assumption) (by first | with_reducible assumption | decide | omega | rfl | assumption) (Or.inl ⟨rfl, rfl⟩) (by omega) H.size) (cwV 4 hts gwsRX12_goalOf_4 rfl rfl rfl hd_yX12_add_RX12 (by decide +kernel)) (fz_pre (va_recv hK hP (ci := 12) (q0 := 0) rfl rfl) hP hK hD) rfl rfl hl.1 rfl (lv_room (Nat.le_of_ble_eq_true rfl)) dX12_goalOf_60 (by decide +kernel)) hS (fun q _ h => hFc q h) hFc (fun u t9_ H locs ht hvm hw9 hB9 hz1 hk1 hS => ?_)
      revert u hw9 hB9
      refine fz_p2 ?_
      intro g60 gs60 hw9 hB9
      try dsimp only at hw9 hB9
      have e9F : fT (fT (fT vF 0 g60) 2 f2w38) 3 f3w38 = fT (fT (fT (fT vF 0 g49) 2 f2w38) 3 f3w38) 0 g60 := ((fT_sw _ _ _ (Nat.ne_of_beq_eq_false rfl)).trans (congrArg (fun g9 => fT g9 3 f3w38) ((fT_sw _ _ _ (Nat.ne_of_beq_eq_false rfl)).trans (congrArg (fun g9 => fT g9 2 f2w38) (fT_sm _ _ _ _))))).symm
      have e9G : fT vG 1 gs60 = fT (fT vG 1 gs49) 1 gs60 := (fT_sm _ _ _ _).symm
      have hP := wr_PG e9G (wr_PF e9F (fz_P ht hB9.1))
      have hD := wr_DG e9G (wr_DF e9F (hB9.2.weaken (fun _ q _ h => hFc q.1 h)))
      clear e9F e9G
      have f60_0 := hw9
      try dsimp only at f60_0
      refine lv_aload_n hx hb dX12_goalOf_63 rfl (lv_at hl 0 rfl) ?_
      refine lv_bipush (v := 22) hx hb dX12_goalOf_64 (by decide) ?_
      refine lv_bipush (v := 24) hx hb dX12_goalOf_66 (by decide) ?_
      have hFc := allFree hD hS hA
      refine va_callv (va_runV (As := [.int 22, .int 24]) (rest := []) ⟨hx, hb, hml, hown, hts⟩ (b_X12_copy l dC dI a k h0 vi vj (fT (fT (fT vF 0 g60) 2 f2w38) 3 f3w38) (fT vG 1 gs60) 22 24 (fT (fT m238 23 ((m238 17) * (mg (bn + k5)))) 24 (x22 + 1 * ((m238 17) * (mg (bn + k5))))) f60_0 (x22 + 1 * ((m238 17) * (mg (bn + k5)))) (by rw [fT_eq]) (by first | with_reducible assumption | decide | omega | rfl | assumption) (by first | with_reducible assumption | decide | omega | rfl | assumption) (by first | with_reducible assumption | decide | omega | rfl | assumption) H.size) (cwV 2 hts gwsRX12_goalOf_3 rfl rfl rfl hd_yX12_copy_RX12 (by decide +kernel)) (fz_pre (va_recv hK hP (ci := 12) (q0 := 0) rfl rfl) hP hK hD) rfl rfl hl.1 rfl (lv_room (Nat.le_of_ble_eq_true rfl)) dX12_goalOf_68 (by decide +kernel)) hS (fun q _ h => hFc q h) hFc (fun g68 t9_ H locs ht hvm hw9 hB9 hz1 hk1 hS => ?_)
      have e9F : fT (fT (fT vF 0 g68) 2 f2w38) 3 f3w38 = fT (fT (fT (fT vF 0 g60) 2 f2w38) 3 f3w38) 0 g68 := ((fT_sw _ _ _ (Nat.ne_of_beq_eq_false rfl)).trans (congrArg (fun g9 => fT g9 3 f3w38) ((fT_sw _ _ _ (Nat.ne_of_beq_eq_false rfl)).trans (congrArg (fun g9 => fT g9 2 f2w38) (fT_sm _ _ _ _))))).symm
      have hP := wr_PF e9F (fz_P ht hB9.1)
      have hD := wr_DF e9F (hB9.2.weaken (fun _ q _ h => hFc q.1 h))
      clear e9F
      have f68_0 := hw9
      try dsimp only at f68_0
      refine lv_iinc (v := (nI (k5 + 1))) hx hb dX12_goalOf_71 hl (k := 3) rfl (nI_add k5 1) (by decide) rfl (fun ls (hl : lv_has ls _ ([(3, .int (nI (k5 + 1))), (0, .ref h0), (1, .int (nI gn)), (2, .int (nI bn))])) => ?_)
      refine lv_goto (tgt := 25) hx hb dX12_goalOf_74 (by decide) ?_
      have hl : lv_has _ _ ([(0, .ref h0), (1, .int (nI gn)), (2, .int (nI bn)), (3, .int (nI (k5 + 1)))]) := lv_sub hl [1, 2, 3, 0] rfl
      exact ih25 (k5 + 1) g68 f2w38 f3w38 gs60 (fT (fT (fT m238 23 ((m238 17) * (mg (bn + k5)))) 24 (x22 + 1 * ((m238 17) * (mg (bn + k5))))) 22 (x22 + 1 * ((m238 17) * (mg (bn + k5))))) x19 (x22 + 1 * ((m238 17) * (mg (bn + k5)))) _ _ _ (f68_0) ((by rw [fT_ne _ _ (by omega), fT_ne _ _ (by omega), fT_ne _ _ (by omega), f38_1])) ((by rw [fT_eq])) (by omega) (h19b) (h19p) (by omega) (fun q h1 h2 => by (rw [fT_ne _ _ (by omega), fT_ne _ _ (by omega), fT_ne _ _ (by omega), f38_3 _ (by omega)]); exact ho q h1 h2) (by omega) hP hD hS hl
theorem dX12_tryIt_0 : decode cX12_tryIt 0 = .ok (.aload_n 0, 1) := dk_42 (by decide +kernel)
theorem dX12_tryIt_1 : decode cX12_tryIt 1 = .ok (.sipush 1028, 3) := dk_17 (by decide +kernel)
theorem dX12_tryIt_4 : decode cX12_tryIt 4 = .ok (.bipush 20, 2) := dk_16 (by decide +kernel)
theorem dX12_tryIt_6 : decode cX12_tryIt 6 = .ok (.invokevirtual 365, 3) := dk_182 (by decide +kernel)
theorem dX12_tryIt_9 : decode cX12_tryIt 9 = .ok (.iconst 0, 1) := dk_3 (by decide +kernel)
theorem dX12_tryIt_10 : decode cX12_tryIt 10 = .ok (.istore_n 1, 1) := dk_60 (by decide +kernel)
theorem dX12_tryIt_11 : decode cX12_tryIt 11 = .ok (.iload_n 1, 1) := dk_27 (by decide +kernel)
theorem dX12_tryIt_12 : decode cX12_tryIt 12 = .ok (.aload_n 0, 1) := dk_42 (by decide +kernel)
theorem dX12_tryIt_13 : decode cX12_tryIt 13 = .ok (.getfield 774, 3) := dk_180 (by decide +kernel)
theorem dX12_tryIt_16 : decode cX12_tryIt 16 = .ok (.if_icmp .ge 52, 3) := dk_162 (by decide +kernel)
theorem dX12_tryIt_19 : decode cX12_tryIt 19 = .ok (.aload_n 0, 1) := dk_42 (by decide +kernel)
theorem dX12_tryIt_20 : decode cX12_tryIt 20 = .ok (.bipush 22, 2) := dk_16 (by decide +kernel)
theorem dX12_tryIt_22 : decode cX12_tryIt 22 = .ok (.iload_n 1, 1) := dk_27 (by decide +kernel)
theorem dX12_tryIt_23 : decode cX12_tryIt 23 = .ok (.invokevirtual 856, 3) := dk_182 (by decide +kernel)
theorem dX12_tryIt_26 : decode cX12_tryIt 26 = .ok (.aload_n 0, 1) := dk_42 (by decide +kernel)
theorem dX12_tryIt_27 : decode cX12_tryIt 27 = .ok (.bipush 23, 2) := dk_16 (by decide +kernel)
theorem dX12_tryIt_29 : decode cX12_tryIt 29 = .ok (.aload_n 0, 1) := dk_42 (by decide +kernel)
theorem dX12_tryIt_30 : decode cX12_tryIt 30 = .ok (.iload_n 1, 1) := dk_27 (by decide +kernel)
theorem dX12_tryIt_31 : decode cX12_tryIt 31 = .ok (.invokevirtual 826, 3) := dk_182 (by decide +kernel)
theorem dX12_tryIt_34 : decode cX12_tryIt 34 = .ok (.i2l, 1) := dk_133 (by decide +kernel)
theorem dX12_tryIt_35 : decode cX12_tryIt 35 = .ok (.invokevirtual 369, 3) := dk_182 (by decide +kernel)
theorem dX12_tryIt_38 : decode cX12_tryIt 38 = .ok (.aload_n 0, 1) := dk_42 (by decide +kernel)
theorem dX12_tryIt_39 : decode cX12_tryIt 39 = .ok (.bipush 24, 2) := dk_16 (by decide +kernel)
theorem dX12_tryIt_41 : decode cX12_tryIt 41 = .ok (.bipush 23, 2) := dk_16 (by decide +kernel)
theorem dX12_tryIt_43 : decode cX12_tryIt 43 = .ok (.bipush 20, 2) := dk_16 (by decide +kernel)
theorem dX12_tryIt_45 : decode cX12_tryIt 45 = .ok (.invokevirtual 390, 3) := dk_182 (by decide +kernel)
theorem dX12_tryIt_48 : decode cX12_tryIt 48 = .ok (.aload_n 0, 1) := dk_42 (by decide +kernel)
theorem dX12_tryIt_49 : decode cX12_tryIt 49 = .ok (.sipush 1020, 3) := dk_17 (by decide +kernel)
theorem dX12_tryIt_52 : decode cX12_tryIt 52 = .ok (.iload_n 1, 1) := dk_27 (by decide +kernel)
theorem dX12_tryIt_53 : decode cX12_tryIt 53 = .ok (.iadd, 1) := dk_96 (by decide +kernel)
theorem dX12_tryIt_54 : decode cX12_tryIt 54 = .ok (.bipush 22, 2) := dk_16 (by decide +kernel)
theorem dX12_tryIt_56 : decode cX12_tryIt 56 = .ok (.bipush 24, 2) := dk_16 (by decide +kernel)
theorem dX12_tryIt_58 : decode cX12_tryIt 58 = .ok (.iconst 1, 1) := dk_4 (by decide +kernel)
theorem dX12_tryIt_59 : decode cX12_tryIt 59 = .ok (.invokevirtual 443, 3) := dk_182 (by decide +kernel)
theorem dX12_tryIt_62 : decode cX12_tryIt 62 = .ok (.iinc 1 1, 3) := dk_132 (by decide +kernel)
theorem dX12_tryIt_65 : decode cX12_tryIt 65 = .ok (.goto (-54), 3) := dk_167 (by decide +kernel)
theorem dX12_tryIt_68 : decode cX12_tryIt 68 = .ok (.iconst 0, 1) := dk_3 (by decide +kernel)
theorem dX12_tryIt_69 : decode cX12_tryIt 69 = .ok (.istore_n 1, 1) := dk_60 (by decide +kernel)
theorem dX12_tryIt_70 : decode cX12_tryIt 70 = .ok (.iload_n 1, 1) := dk_27 (by decide +kernel)
theorem dX12_tryIt_71 : decode cX12_tryIt 71 = .ok (.aload_n 0, 1) := dk_42 (by decide +kernel)
theorem dX12_tryIt_72 : decode cX12_tryIt 72 = .ok (.getfield 805, 3) := dk_180 (by decide +kernel)
theorem dX12_tryIt_75 : decode cX12_tryIt 75 = .ok (.if_icmp .ge 17, 3) := dk_162 (by decide +kernel)
theorem dX12_tryIt_78 : decode cX12_tryIt 78 = .ok (.aload_n 0, 1) := dk_42 (by decide +kernel)
theorem dX12_tryIt_79 : decode cX12_tryIt 79 = .ok (.iload_n 1, 1) := dk_27 (by decide +kernel)
theorem dX12_tryIt_80 : decode cX12_tryIt 80 = .ok (.sipush 1020, 3) := dk_17 (by decide +kernel)
theorem dX12_tryIt_83 : decode cX12_tryIt 83 = .ok (.invokevirtual 859, 3) := dk_182 (by decide +kernel)
theorem dX12_tryIt_86 : decode cX12_tryIt 86 = .ok (.iinc 1 1, 3) := dk_132 (by decide +kernel)
theorem dX12_tryIt_89 : decode cX12_tryIt 89 = .ok (.goto (-19), 3) := dk_167 (by decide +kernel)
theorem dX12_tryIt_92 : decode cX12_tryIt 92 = .ok (.return_, 1) := dk_177 (by decide +kernel)
def wsRX12_tryIt : List Cond := .code yX12_tryIt cX12_tryIt 2 none :: ([.fieldLink RX12 774 "OptimaWorksModel" "variables" "I", .fieldLink RX12 805 "OptimaWorksModel" "modelGoals" "I"] ++ wsX120 ++ (wsV RX12 365 RX12 yX12_copy wsRX12_copy) ++ (wsV RX12 859 RX12 yX12_goalOf wsRX12_goalOf) ++ (wsV RX12 856 RX12 yX12_thing wsRX12_thing) ++ (wsV RX12 826 RX12 yX12_least wsRX12_least) ++ (wsV RX12 369 RX12 yX12_put wsRX12_put) ++ (wsV RX12 390 RX12 yX12_times wsRX12_times) ++ (wsV RX12 443 RX12 yX12_add wsRX12_add))
theorem iwsRX12_tryIt_in12 : ∀ w ∈ wsX120, w ∈ wsRX12_tryIt := fun _ h => List.mem_cons_of_mem _ (List.mem_append_left _ (List.mem_append_left _ (List.mem_append_left _ (List.mem_append_left _ (List.mem_append_left _ (List.mem_append_left _ (List.mem_append_left _ (List.mem_append_right _ h))))))))
theorem gwsRX12_tryIt_0 : GoodIn wsRX12_tryIt (wsV RX12 365 RX12 yX12_copy wsRX12_copy) := goodIn_sub (fun _ h => List.mem_cons_of_mem _ (List.mem_append_left _ (List.mem_append_left _ (List.mem_append_left _ (List.mem_append_left _ (List.mem_append_left _ (List.mem_append_left _ (List.mem_append_right _ h)))))))) (gdV (by decide +kernel) gdwsRX12_copy)
theorem gwsRX12_tryIt_1 : GoodIn wsRX12_tryIt (wsV RX12 859 RX12 yX12_goalOf wsRX12_goalOf) := goodIn_sub (fun _ h => List.mem_cons_of_mem _ (List.mem_append_left _ (List.mem_append_left _ (List.mem_append_left _ (List.mem_append_left _ (List.mem_append_left _ (List.mem_append_right _ h))))))) (gdV (by decide +kernel) gdwsRX12_goalOf)
theorem gwsRX12_tryIt_2 : GoodIn wsRX12_tryIt (wsV RX12 856 RX12 yX12_thing wsRX12_thing) := goodIn_sub (fun _ h => List.mem_cons_of_mem _ (List.mem_append_left _ (List.mem_append_left _ (List.mem_append_left _ (List.mem_append_left _ (List.mem_append_right _ h)))))) (gdV (by decide +kernel) gdwsRX12_thing)
theorem gwsRX12_tryIt_3 : GoodIn wsRX12_tryIt (wsV RX12 826 RX12 yX12_least wsRX12_least) := goodIn_sub (fun _ h => List.mem_cons_of_mem _ (List.mem_append_left _ (List.mem_append_left _ (List.mem_append_left _ (List.mem_append_right _ h))))) (gdV (by decide +kernel) gdwsRX12_least)
theorem gwsRX12_tryIt_4 : GoodIn wsRX12_tryIt (wsV RX12 369 RX12 yX12_put wsRX12_put) := goodIn_sub (fun _ h => List.mem_cons_of_mem _ (List.mem_append_left _ (List.mem_append_left _ (List.mem_append_right _ h)))) (gdV (by decide +kernel) gdwsRX12_put)
theorem gwsRX12_tryIt_5 : GoodIn wsRX12_tryIt (wsV RX12 390 RX12 yX12_times wsRX12_times) := goodIn_sub (fun _ h => List.mem_cons_of_mem _ (List.mem_append_left _ (List.mem_append_right _ h))) (gdV (by decide +kernel) gdwsRX12_times)
theorem gwsRX12_tryIt_6 : GoodIn wsRX12_tryIt (wsV RX12 443 RX12 yX12_add wsRX12_add) := goodIn_sub (fun _ h => List.mem_cons_of_mem _ (List.mem_append_right _ h)) (gdV (by decide +kernel) gdwsRX12_add)
theorem gdwsRX12_tryIt : wsRX12_tryIt.all goodWord = true := gdC rfl (gdA (gdA (gdA (gdA (gdA (gdA (gdA (gdA (by decide +kernel : ([.fieldLink RX12 774 "OptimaWorksModel" "variables" "I", .fieldLink RX12 805 "OptimaWorksModel" "modelGoals" "I"] : List Cond).all goodWord = true) gdwsX120) (gdV (by decide +kernel) gdwsRX12_copy)) (gdV (by decide +kernel) gdwsRX12_goalOf)) (gdV (by decide +kernel) gdwsRX12_thing)) (gdV (by decide +kernel) gdwsRX12_least)) (gdV (by decide +kernel) gdwsRX12_put)) (gdV (by decide +kernel) gdwsRX12_times)) (gdV (by decide +kernel) gdwsRX12_add))
set_option maxHeartbeats 4000000 in
set_option maxRecDepth 100000 in
/-- tryIt() -/
theorem r_X12_tryIt (l : Launch) (dC : Nat → ClassId) (dI : Nat → Nat → Nat) (a : Nat → Nat) (k : Nat → ClassId) (h0 : Nat) (vi : Nat → Int32) (vj : Nat → Int64) (vF : Nat → Nat → Int32) (vG : Nat → Nat → Int64) (C : Nat) (R : Nat) (Gq : Nat) (t : Nat → Nat → Int) (D : Int) (gq : Nat) (mg : Nat → Int) (hBg : Bg (vF 0) mg) (hC : vi 5 = nI C) (hR : vi 6 = nI R) (hG : vi 7 = nI Gq) (hC45 : 0 < C ∧ C ≤ 45) (hT60 : R + Gq < 60) (hsz : (R + Gq) * (C + 1) ≤ 970) (hv9 : vi 90 = nI (C - 1)) (hC9 : C ≤ 9) (hgq : gq ≤ 3) (hmg : vi 93 = nI gq) (hM : MdlB vF gq) (hN : TabN C (R + Gq) mg t D) (hD8 : Sz 120 D) (hbt : ∀ i, i < R → Sz 120 (t i C)) (hAn : AnsB mg 1020) (hDp : 0 < D) (sz : Nat) : Met l yX12_tryIt wsRX12_tryIt ({ frames := 5, cells := 0, slots := 0, locals := 130 }) (va_Pc [.ref h0] (fun U => U.heap.size = sz ∧ va_P (dC, dI) vwCl (WR a k h0 vi vj vF vG) U.heap ∧ va_K (dC, dI) vwCl (tX12 k) U ∧ va_D (fun _ => True) (WR a k h0 vi vj vF vG))) (va_Qv (fun (u : (Nat → Int32) × (Nat → Int32) × (Nat → Int32) × (Nat → Int64) × (Nat → Int)) => (Bg (u.1) (u.2.2.2.2)) ∧ (AnsB (u.2.2.2.2) 1020) ∧ (∀ q, (q < 5 ∨ 19 < q) → (q < 22 ∨ 24 < q) → (q < 1020 ∨ 1036 ≤ q) → (u.2.2.2.2) q = mg q) ∧ ((u.2.2.2.2) 1028 = D) ∧ (∀ g9, g9 < gq → 0 < (u.2.2.2.2) (1033 + g9))) (fun (u : (Nat → Int32) × (Nat → Int32) × (Nat → Int32) × (Nat → Int64) × (Nat → Int)) t => va_P (dC, dI) vwCl (WR a k h0 vi vj (fT (fT (fT vF 0 (u.1)) 2 (u.2.1)) 3 (u.2.2.1)) (fT vG 1 (u.2.2.2.1))) t.heap ∧ va_D (va_A (WR a k h0 vi vj vF vG) sz) (WR a k h0 vi vj (fT (fT (fT vF 0 (u.1)) 2 (u.2.1)) 3 (u.2.2.1)) (fT vG 1 (u.2.2.2.1)))) (va_A (WR a k h0 vi vj vF vG) sz)) 0 0 (va_A (WR a k h0 vi vj vF vG) sz) := by
  refine Met.ofW (cc := cX12_tryIt) (maxL := 2) (ret := none) (by decide) rfl ?_
  intro p e s m args below meth c s₁ B hml hv
  obtain ⟨rfl, hsz, hP, hK, hD0⟩ := hv
  have hx := B.exec
  have hb := B.bytes
  have hr := B.returns
  have hts := atoms_spec (ws := wsRX12_tryIt) B.pre
  have hown : s.vm.findClass RX12 = some m.cls := findClass_of_methodNamed B.named
  have hlocks := B.notSynchronized
  subst hsz
  have hD := hD0.self (sz := s.heap.size)
  generalize hAe : va_A (WR a k h0 vi vj vF vG) s.heap.size = A at hD ⊢
  have hA : ∀ q : Nat, s.heap.size ≤ q → A q := fun q h => by rw [← hAe]; exact Or.inr h
  have hS : va_S A s.heap s.heap [] := va_S.rf
  have hl := lv_entry ([.ref h0]) (n := 2) (Nat.le_of_ble_eq_true rfl)
  rw [lg_entry_eq]
  generalize (lg_sl ([.ref h0]) ++ List.replicate (2 - (lg_sl ([.ref h0])).length) Slot.unset).toArray = ls at hl ⊢
  have hl : lv_has ls 2 [(0, .ref h0)] := hl
  refine lv_aload_n hx hb dX12_tryIt_0 rfl (lv_at hl 0 rfl) ?_
  refine lv_sipush (v := 1028) hx hb dX12_tryIt_1 (by decide) ?_
  refine lv_bipush (v := 20) hx hb dX12_tryIt_4 (by decide) ?_
  have hFc := allFree hD hS hA
  refine va_callv (va_runV (As := [.int 1028, .int 20]) (rest := []) ⟨hx, hb, hml, hown, hts⟩ (b_X12_copy l dC dI a k h0 vi vj vF vG 1028 20 mg hBg D (by rw [hN.2]) (by first | with_reducible assumption | decide | omega | rfl | assumption) (by first | with_reducible assumption | decide | omega | rfl | assumption) (by first | with_reducible assumption | decide | omega | rfl | assumption) s.heap.size) (cwV 2 hts gwsRX12_tryIt_0 rfl rfl rfl hd_yX12_copy_RX12 (by decide +kernel)) (fz_pre (va_recv hK hP (ci := 12) (q0 := 0) rfl rfl) hP hK hD) rfl rfl hl.1 rfl (lv_room (Nat.le_of_ble_eq_true rfl)) dX12_tryIt_6 (by decide +kernel)) hS (fun q _ h => hFc q h) hFc (fun g6 t9_ H locs ht hvm hw9 hB9 hz1 hk1 hS => ?_)
  have hP : va_P (dC, dI) vwCl (WR a k h0 vi vj (fT vF 0 g6) vG) H := fz_P ht hB9.1
  have hD := fz_sd hP (hB9.2.weaken (fun _ q _ h => hFc q.1 h)) rfl
  have f6_0 := hw9
  try dsimp only at f6_0
  refine lv_iconst (v := 0) hx hb dX12_tryIt_9 (by decide) ?_
  refine lv_istore_n hx hb dX12_tryIt_10 rfl hl (by decide) rfl (fun ls (hl : lv_has ls _ ([(1, .int 0), (0, .ref h0)])) => ?_)
  have e9 : fT vG 1 (vG 1) = vG := by funext q9; by_cases h9_1 : q9 = 1; (subst h9_1; exact (fT_eq _ _ _).trans (Eq.trans (by first | with_reducible rfl | with_reducible assumption | (symm; with_reducible assumption) | rfl | assumption | (symm; assumption) | (subst_vars; rfl)) (Eq.refl _).symm)); exact (fT_ne _ _ h9_1).trans (Eq.refl _).symm
  have hP := wr_PG e9 hP
  have hD := wr_DG e9 hD
  clear e9
  have hl : lv_has _ _ ([(0, .ref h0), (1, .int (nI 0))]) := lv_sub hl [1, 0] rfl
  refine (fun (loop : ∀ (n9 : Nat) (k5 : Nat) (g1 : Nat → Int32) (gs1 : Nat → Int64) (m1 : Nat → Int) (H : Heap) (locs : List Loc) (ls : Array Slot), (Bg g1 m1) → (k5 ≤ C - 1) → (AnsB m1 1020) → (m1 1028 = D) → (∀ q, (q < 5 ∨ 19 < q) → (q < 22 ∨ 24 < q) → (q < 1020 ∨ 1036 ≤ q) → m1 q = mg q) →  (C - 1 < k5 + n9) → va_P (dC, dI) vwCl (WR a k h0 vi vj (fT vF 0 g1) (fT vG 1 gs1)) H → va_D A (WR a k h0 vi vj (fT vF 0 g1) (fT vG 1 gs1)) → va_S A s.heap H locs → lv_has ls 2 [(0, .ref h0), (1, .int (nI k5))] → W p l e _ s m _ below meth c H locs 0 0 _ (F0 m 11 ls [])) => loop (C) 0 g6 (vG 1) (fT mg 1028 D) _ _ _ (f6_0) (by omega) (⟨fun k hk => by by_cases e9 : 1020 + k = 1028; (rw [e9, fT_eq]; exact hD8.up (by decide)); (rw [fT_ne _ _ e9]; exact hAn.1 k hk), fun g9 hg9 => by rw [fT_ne _ _ (by omega), fT_ne _ _ (by omega)]; exact hAn.2 g9 hg9⟩) ((by rw [fT_eq])) (fun q h1 h2 h3 => by (rw [fT_ne _ _ (by omega)])) (by omega) hP hD hS hl) ?_
  intro n9
  induction n9 with
  | zero => intro k5 g1 gs1 m1 H locs ls hB1 hk5 hA1 h81 ho hf9; exact False.elim (by omega)
  | succ n9 ih11 =>
    intro k5 g1 gs1 m1 H locs ls hB1 hk5 hA1 h81 ho hf11 hP hD hS hl
    refine lv_iload_n hx hb dX12_tryIt_11 rfl (lv_at hl 1 rfl) ?_
    refine lv_aload_n hx hb dX12_tryIt_12 rfl (lv_at hl 0 rfl) ?_
    refine va_get (D := (dC, dI)) (ci := 12) (v := .int (vi 90)) (C := RX12) (T := TX12) (N := 163) (fs := fM (vS a vi vj)) hx hb hts iwsRX12_tryIt_in12 hown hK hP 0 rfl rfl 90 (by decide) (hts (.fieldLink RX12 774 "OptimaWorksModel" "variables" "I") (by decide +kernel)) (fun _ h9 => h9) rfl dX12_tryIt_13 ?_
    refine lv_topi (fun y1 hy1 => ?_)
    obtain rfl : (nI (C - 1)) = y1 := (hy1.trans (hv9)).symm
    refine lv_icmp_ge (tgt := 68) hx hb dX12_tryIt_16 (by decide) (fun c_16 => ?_) (fun c_16 => ?_)
    · have t_16 : ((k5 : Nat) : Int) ≥ (((C - 1) : Nat) : Int) := toI_ge c_16 (nI_toInt (by omega)) (nI_toInt (by omega))
      refine lv_iconst (v := 0) hx hb dX12_tryIt_68 (by decide) ?_
      refine lv_istore_n hx hb dX12_tryIt_69 rfl hl (by decide) rfl (fun ls (hl : lv_has ls _ ([(1, .int 0), (0, .ref h0)])) => ?_)
      have e9 : fT (fT (fT vF 0 g1) 2 (vF 2)) 3 (vF 3) = fT vF 0 g1 := Eq.trans (mv_1 rfl) (Eq.trans (id_2 rfl) (id_1 rfl))
      have hP := wr_PF e9 hP
      have hD := wr_DF e9 hD
      clear e9
      have hl : lv_has _ _ ([(0, .ref h0), (1, .int (nI 0))]) := lv_sub hl [1, 0] rfl
      refine (fun (loop : ∀ (n9 : Nat) (k6 : Nat) (g3 : Nat → Int32) (f23 : Nat → Int32) (f33 : Nat → Int32) (gs3 : Nat → Int64) (m3 : Nat → Int) (H : Heap) (locs : List Loc) (ls : Array Slot), (Bg g3 m3) → (k6 ≤ gq) → (AnsB m3 1020) → (m3 (1020 + 8) = D) → (∀ g, g < k6 → 0 < m3 (1033 + g)) → (∀ q, (q < 5 ∨ 19 < q) → (q < 22 ∨ 24 < q) → (q < 1020 ∨ 1036 ≤ q) → m3 q = mg q) →  (gq < k6 + n9) → va_P (dC, dI) vwCl (WR a k h0 vi vj (fT (fT (fT vF 0 g3) 2 f23) 3 f33) (fT vG 1 gs3)) H → va_D A (WR a k h0 vi vj (fT (fT (fT vF 0 g3) 2 f23) 3 f33) (fT vG 1 gs3)) → va_S A s.heap H locs → lv_has ls 2 [(0, .ref h0), (1, .int (nI k6))] → W p l e _ s m _ below meth c H locs 0 0 _ (F0 m 70 ls [])) => loop (gq + 1) 0 g1 (vF 2) (vF 3) gs1 m1 _ _ _ (hB1) (by omega) (hA1) (h81) (fun g hg => absurd hg (by omega)) (ho) (by omega) hP hD hS hl) ?_
      intro n9
      induction n9 with
      | zero => intro k6 g3 f23 f33 gs3 m3 H locs ls hB3 hk6 hA2 h82e hgp ho2 hf9; exact False.elim (by omega)
      | succ n9 ih70_1 =>
        intro k6 g3 f23 f33 gs3 m3 H locs ls hB3 hk6 hA2 h82e hgp ho2 hf70_1 hP hD hS hl
        refine lv_iload_n hx hb dX12_tryIt_70 rfl (lv_at hl 1 rfl) ?_
        refine lv_aload_n hx hb dX12_tryIt_71 rfl (lv_at hl 0 rfl) ?_
        refine va_get (D := (dC, dI)) (ci := 12) (v := .int (vi 93)) (C := RX12) (T := TX12) (N := 163) (fs := fM (vS a vi vj)) hx hb hts iwsRX12_tryIt_in12 hown hK hP 0 rfl rfl 93 (by decide) (hts (.fieldLink RX12 805 "OptimaWorksModel" "modelGoals" "I") (by decide +kernel)) (fun _ h9 => h9) rfl dX12_tryIt_72 ?_
        refine lv_topi (fun y2 hy2 => ?_)
        obtain rfl : (nI gq) = y2 := (hy2.trans (hmg)).symm
        refine lv_icmp_ge (tgt := 92) hx hb dX12_tryIt_75 (by decide) (fun c_75 => ?_) (fun c_75 => ?_)
        · have t_75 : ((k6 : Nat) : Int) ≥ ((gq : Nat) : Int) := toI_ge c_75 (nI_toInt (by omega)) (nI_toInt (by omega))
          refine W.widen (k := 0) (n := 0) (by decide +kernel) (by decide +kernel) ?_
          exact W.vret hx hb hr (fun t9_ ht hW => ⟨⟨(g3, f23, f33, gs3, m3), rfl, by (try dsimp only); exact ⟨hB3, hA2, ho2, h82e, fun g hg => hgp g (by omega)⟩, by rw [ht]; exact hP, hD⟩, hS.F ht⟩) hS.2.2 dX12_tryIt_92
        · have t_75 : ¬ ((k6 : Nat) : Int) ≥ ((gq : Nat) : Int) := toI_nge c_75 (nI_toInt (by omega)) (nI_toInt (by omega))
          refine lv_aload_n hx hb dX12_tryIt_78 rfl (lv_at hl 0 rfl) ?_
          refine lv_iload_n hx hb dX12_tryIt_79 rfl (lv_at hl 1 rfl) ?_
          refine lv_sipush (v := 1020) hx hb dX12_tryIt_80 (by decide) ?_
          have hFc := allFree hD hS hA
          refine va_callv (va_runV (As := [.int (nI k6), .int 1020]) (rest := []) ⟨hx, hb, hml, hown, hts⟩ (r_X12_goalOf l dC dI a k h0 vi vj (fT (fT (fT vF 0 g3) 2 f23) 3 f33) (fT vG 1 gs3) k6 1020 (C - 1) gq m3 hB3 (by first | with_reducible assumption | decide | omega | rfl | assumption) (by first | with_reducible assumption | decide | omega | rfl | assumption) (by omega) (by first | with_reducible assumption | decide | omega | rfl | assumption) (by first | with_reducible assumption | decide | omega | rfl | assumption) (by first | with_reducible assumption | decide | omega | rfl | assumption) (hA2) (by rw [h82e]; exact hD8) H.size) (cwV 2 hts gwsRX12_tryIt_1 rfl rfl rfl hd_yX12_goalOf_RX12 (by decide +kernel)) (fz_pre (va_recv hK hP (ci := 12) (q0 := 0) rfl rfl) hP hK hD) rfl rfl hl.1 rfl (lv_room (Nat.le_of_ble_eq_true rfl)) dX12_tryIt_83 (by decide +kernel)) hS (fun q _ h => hFc q h) hFc (fun u t9_ H locs ht hvm hw9 hB9 hz1 hk1 hS => ?_)
          revert u hw9 hB9
          refine fz_p5 ?_
          intro g83 f2w83 f3w83 gs83 m283 hw9 hB9
          try dsimp only at hw9 hB9
          have e9F : fT (fT (fT vF 0 g83) 2 f2w83) 3 f3w83 = fT (fT (fT (fT (fT (fT vF 0 g3) 2 f23) 3 f33) 0 g83) 2 f2w83) 3 f3w83 := ((congrArg (fun g9 => fT (fT g9 2 f2w83) 3 f3w83) ((fT_sw _ _ _ (Nat.ne_of_beq_eq_false rfl)).trans (congrArg (fun g9 => fT g9 3 f33) ((fT_sw _ _ _ (Nat.ne_of_beq_eq_false rfl)).trans (congrArg (fun g9 => fT g9 2 f23) (fT_sm _ _ _ _)))))).trans ((congrArg (fun g9 => fT g9 3 f3w83) ((fT_sw _ _ _ (Nat.ne_of_beq_eq_false rfl)).trans (congrArg (fun g9 => fT g9 3 f33) (fT_sm _ _ _ _)))).trans (fT_sm _ _ _ _))).symm
          have e9G : fT vG 1 gs83 = fT (fT vG 1 gs3) 1 gs83 := (fT_sm _ _ _ _).symm
          have hP := wr_PG e9G (wr_PF e9F (fz_P ht hB9.1))
          have hD := wr_DG e9G (wr_DF e9F (hB9.2.weaken (fun _ q _ h => hFc q.1 h)))
          clear e9F e9G
          revert hw9
          refine fz_a4 ?_
          intro f83_0 f83_1 f83_2 f83_3
          refine lv_iinc (v := (nI (k6 + 1))) hx hb dX12_tryIt_86 hl (k := 1) rfl (nI_add k6 1) (by decide) rfl (fun ls (hl : lv_has ls _ ([(1, .int (nI (k6 + 1))), (0, .ref h0)])) => ?_)
          refine lv_goto (tgt := 70) hx hb dX12_tryIt_89 (by decide) ?_
          have hl : lv_has _ _ ([(0, .ref h0), (1, .int (nI (k6 + 1)))]) := lv_sub hl [1, 0] rfl
          exact ih70_1 (k6 + 1) g83 f2w83 f3w83 gs83 m283 _ _ _ (f83_0) (by omega) (f83_1) (by rw [f83_2 _ (by omega) (by omega) (by omega) (by omega)]; exact h82e) (fun g hg => by by_cases e9 : g = k6; (rw [e9]; exact f83_3 (by rw [h82e]; exact hDp)); (rw [f83_2 _ (by omega) (by omega) (by omega) (by omega)]; exact hgp g (by omega))) (fun q h1 h2 h3 => by (rw [f83_2 _ (by omega) (by omega) (by omega) (by omega)]); exact ho2 q h1 h2 h3) (by omega) hP hD hS hl
    · have t_16 : ¬ ((k5 : Nat) : Int) ≥ (((C - 1) : Nat) : Int) := toI_nge c_16 (nI_toInt (by omega)) (nI_toInt (by omega))
      refine lv_aload_n hx hb dX12_tryIt_19 rfl (lv_at hl 0 rfl) ?_
      refine lv_bipush (v := 22) hx hb dX12_tryIt_20 (by decide) ?_
      refine lv_iload_n hx hb dX12_tryIt_22 rfl (lv_at hl 1 rfl) ?_
      have hFc := allFree hD hS hA
      refine va_callv (va_runV (As := [.int 22, .int (nI k5)]) (rest := []) ⟨hx, hb, hml, hown, hts⟩ (r_X12_thing l dC dI a k h0 vi vj (fT vF 0 g1) (fT vG 1 gs1) 22 (nI k5) C R Gq t D m1 hB1 (by first | with_reducible assumption | decide | omega | rfl | assumption) (by first | with_reducible assumption | decide | omega | rfl | assumption) (by first | with_reducible assumption | decide | omega | rfl | assumption) (by first | with_reducible assumption | decide | omega | rfl | assumption) (by first | with_reducible assumption | decide | omega | rfl | assumption) (by first | with_reducible assumption | decide | omega | rfl | assumption) (hN.framez hsz (fun p hp => ho p (by omega) (by omega) (by omega))) (by first | with_reducible assumption | decide | omega | rfl | assumption) (by first | with_reducible assumption | decide | omega | rfl | assumption) H.size) (cwV 2 hts gwsRX12_tryIt_2 rfl rfl rfl hd_yX12_thing_RX12 (by decide +kernel)) (fz_pre (va_recv hK hP (ci := 12) (q0 := 0) rfl rfl) hP hK hD) rfl rfl hl.1 rfl (lv_room (Nat.le_of_ble_eq_true rfl)) dX12_tryIt_23 (by decide +kernel)) hS (fun q _ h => hFc q h) hFc (fun u t9_ H locs ht hvm hw9 hB9 hz1 hk1 hS => ?_)
      revert u hw9 hB9
      refine fz_p2 ?_
      intro g23 m223 hw9 hB9
      try dsimp only at hw9 hB9
      have e9F : fT vF 0 g23 = fT (fT vF 0 g1) 0 g23 := (fT_sm _ _ _ _).symm
      have hP := wr_PF e9F (fz_P ht hB9.1)
      have hD := wr_DF e9F (hB9.2.weaken (fun _ q _ h => hFc q.1 h))
      clear e9F
      revert hw9
      refine fz_a3 ?_
      intro f23_0 f23_1 f23_2
      refine lv_aload_n hx hb dX12_tryIt_26 rfl (lv_at hl 0 rfl) ?_
      refine lv_bipush (v := 23) hx hb dX12_tryIt_27 (by decide) ?_
      refine lv_aload_n hx hb dX12_tryIt_29 rfl (lv_at hl 0 rfl) ?_
      refine lv_iload_n hx hb dX12_tryIt_30 rfl (lv_at hl 1 rfl) ?_
      have hFc := allFree hD hS hA
      refine va_calli (va_runV (As := [.int (nI k5)]) (rest := [.int 23, .ref h0]) ⟨hx, hb, hml, hown, hts⟩ (r_X12_least l dC dI a k h0 vi vj (fT vF 0 g23) (fT vG 1 gs1) k5 gq (by omega) (by first | with_reducible assumption | decide | omega | rfl | assumption) H.size) (cwV 1 hts gwsRX12_tryIt_3 rfl rfl rfl hd_yX12_least_RX12 (by decide +kernel)) (fz_pre (va_recv hK hP (ci := 12) (q0 := 0) rfl rfl) hP hK hD) rfl rfl hl.1 rfl (lv_room (Nat.le_of_ble_eq_true rfl)) dX12_tryIt_31 (by decide +kernel)) hS (fun q _ h => hFc q h) hFc (fun r31 u t9_ H locs ht hvm hw9 hB9 hz1 hk1 hS => ?_)
      have hP : va_P (dC, dI) vwCl (WR a k h0 vi vj (fT vF 0 g23) (fT vG 1 gs1)) H := fz_P ht hB9.1
      have hD := fz_sd hP (hB9.2.weaken (fun _ q _ h => hFc q.1 h)) rfl
      have f31_0 := hw9
      try dsimp only at f31_0
      refine lv_i2l hx hb dX12_tryIt_34 rfl ?_
      have hFc := allFree hD hS hA
      refine va_callv (va_runV (As := [.int 23, .long (r31).toInt64]) (rest := []) ⟨hx, hb, hml, hown, hts⟩ (b_X12_put l dC dI a k h0 vi vj (fT vF 0 g23) (fT vG 1 gs1) 23 ((r31).toInt64) ((r31).toInt) m223 f23_0 (by first | with_reducible assumption | decide | omega | rfl | assumption) (i64T _) (by omega) H.size) (cwV 2 hts gwsRX12_tryIt_4 rfl rfl rfl hd_yX12_put_RX12 (by decide +kernel)) (fz_pre (va_recv hK hP (ci := 12) (q0 := 0) rfl rfl) hP hK hD) rfl rfl hl.1 rfl (lv_room (Nat.le_of_ble_eq_true rfl)) dX12_tryIt_35 (by decide +kernel)) hS (fun q _ h => hFc q h) hFc (fun g35 t9_ H locs ht hvm hw9 hB9 hz1 hk1 hS => ?_)
      have e9F : fT vF 0 g35 = fT (fT vF 0 g23) 0 g35 := (fT_sm _ _ _ _).symm
      have hP := wr_PF e9F (fz_P ht hB9.1)
      have hD := wr_DF e9F (hB9.2.weaken (fun _ q _ h => hFc q.1 h))
      clear e9F
      have f35_0 := hw9
      try dsimp only at f35_0
      have bl := f31_0
      have b22 : Sz 120 (m223 22) := by rcases f23_1 with h9 | ⟨i9, hi9, h9⟩; (rw [h9]; exact (by decide : (0 : Int).natAbs < 2 ^ 120)); (rw [h9]; exact hbt i9 hi9)
      refine lv_aload_n hx hb dX12_tryIt_38 rfl (lv_at hl 0 rfl) ?_
      refine lv_bipush (v := 24) hx hb dX12_tryIt_39 (by decide) ?_
      refine lv_bipush (v := 23) hx hb dX12_tryIt_41 (by decide) ?_
      refine lv_bipush (v := 20) hx hb dX12_tryIt_43 (by decide) ?_
      have hFc := allFree hD hS hA
      refine va_callv (va_runV (As := [.int 24, .int 23, .int 20]) (rest := []) ⟨hx, hb, hml, hown, hts⟩ (b_X12_times l dC dI a k h0 vi vj (fT vF 0 g35) (fT vG 1 gs1) 24 23 20 (fT m223 23 ((r31).toInt)) f35_0 ((r31).toInt) D (by rw [fT_eq]) (by rw [fT_ne _ _ (by omega), f23_2 _ (by omega), ((ho 20 (by omega) (by omega) (by omega)).trans hN.2)]) (by first | with_reducible assumption | decide | omega | rfl | assumption) (by first | with_reducible assumption | decide | omega | rfl | assumption) (by first | with_reducible assumption | decide | omega | rfl | assumption) (mulpN (c := 588) (sz999 bl) hD8 (by decide)) H.size) (cwV 3 hts gwsRX12_tryIt_5 rfl rfl rfl hd_yX12_times_RX12 (by decide +kernel)) (fz_pre (va_recv hK hP (ci := 12) (q0 := 0) rfl rfl) hP hK hD) rfl rfl hl.1 rfl (lv_room (Nat.le_of_ble_eq_true rfl)) dX12_tryIt_45 (by decide +kernel)) hS (fun q _ h => hFc q h) hFc (fun u t9_ H locs ht hvm hw9 hB9 hz1 hk1 hS => ?_)
      revert u hw9 hB9
      refine fz_p2 ?_
      intro g45 gs45 hw9 hB9
      try dsimp only at hw9 hB9
      have e9F : fT vF 0 g45 = fT (fT vF 0 g35) 0 g45 := (fT_sm _ _ _ _).symm
      have e9G : fT vG 1 gs45 = fT (fT vG 1 gs1) 1 gs45 := (fT_sm _ _ _ _).symm
      have hP := wr_PG e9G (wr_PF e9F (fz_P ht hB9.1))
      have hD := wr_DG e9G (wr_DF e9F (hB9.2.weaken (fun _ q _ h => hFc q.1 h)))
      clear e9F e9G
      have f45_0 := hw9
      try dsimp only at f45_0
      refine lv_aload_n hx hb dX12_tryIt_48 rfl (lv_at hl 0 rfl) ?_
      refine lv_sipush (v := 1020) hx hb dX12_tryIt_49 (by decide) ?_
      refine lv_iload_n hx hb dX12_tryIt_52 rfl (lv_at hl 1 rfl) ?_
      refine lv_iadd hx hb dX12_tryIt_53 ?_
      refine lv_topi (fun y3 hy3 => ?_)
      obtain rfl : (nI (1020 + k5)) = y3 := (hy3.trans (nI_add 1020 k5)).symm
      refine lv_bipush (v := 22) hx hb dX12_tryIt_54 (by decide) ?_
      refine lv_bipush (v := 24) hx hb dX12_tryIt_56 (by decide) ?_
      refine lv_iconst (v := 1) hx hb dX12_tryIt_58 (by decide) ?_
      have hFc := allFree hD hS hA
      refine va_callv (va_runV (As := [.int (nI (1020 + k5)), .int 22, .int 24, .int 1]) (rest := []) ⟨hx, hb, hml, hown, hts⟩ (b_X12_add l dC dI a k h0 vi vj (fT vF 0 g45) (fT vG 1 gs45) (1020 + k5) 1 1 22 24 (fT (fT m223 23 ((r31).toInt)) 24 (((r31).toInt) * D)) f45_0 (m223 22) (((r31).toInt) * D) (by rw [fT_ne _ _ (by omega), fT_ne _ _ (by omega)]) (by rw [fT_eq]) (by first | with_reducible assumption | decide | omega | rfl | assumption) (by first | with_reducible assumption | decide | omega | rfl | assumption) (by first | with_reducible assumption | decide | omega | rfl | assumption) (Or.inl ⟨rfl, rfl⟩) (lift616 (add131 b22 ((sz999 bl).mul hD8 (by decide))) (by decide)) H.size) (cwV 4 hts gwsRX12_tryIt_6 rfl rfl rfl hd_yX12_add_RX12 (by decide +kernel)) (fz_pre (va_recv hK hP (ci := 12) (q0 := 0) rfl rfl) hP hK hD) rfl rfl hl.1 rfl (lv_room (Nat.le_of_ble_eq_true rfl)) dX12_tryIt_59 (by decide +kernel)) hS (fun q _ h => hFc q h) hFc (fun u t9_ H locs ht hvm hw9 hB9 hz1 hk1 hS => ?_)
      revert u hw9 hB9
      refine fz_p2 ?_
      intro g59 gs59 hw9 hB9
      try dsimp only at hw9 hB9
      have e9F : fT vF 0 g59 = fT (fT vF 0 g45) 0 g59 := (fT_sm _ _ _ _).symm
      have e9G : fT vG 1 gs59 = fT (fT vG 1 gs45) 1 gs59 := (fT_sm _ _ _ _).symm
      have hP := wr_PG e9G (wr_PF e9F (fz_P ht hB9.1))
      have hD := wr_DG e9G (wr_DF e9F (hB9.2.weaken (fun _ q _ h => hFc q.1 h)))
      clear e9F e9G
      have f59_0 := hw9
      try dsimp only at f59_0
      refine lv_iinc (v := (nI (k5 + 1))) hx hb dX12_tryIt_62 hl (k := 1) rfl (nI_add k5 1) (by decide) rfl (fun ls (hl : lv_has ls _ ([(1, .int (nI (k5 + 1))), (0, .ref h0)])) => ?_)
      refine lv_goto (tgt := 11) hx hb dX12_tryIt_65 (by decide) ?_
      have hl : lv_has _ _ ([(0, .ref h0), (1, .int (nI (k5 + 1)))]) := lv_sub hl [1, 0] rfl
      exact ih11 (k5 + 1) g59 gs59 (fT (fT (fT m223 23 ((r31).toInt)) 24 (((r31).toInt) * D)) (1020 + k5) ((m223 22) + 1 * (((r31).toInt) * D))) _ _ _ (f59_0) (by omega) (⟨fun k hk => by by_cases e9 : 1020 + k = 1020 + k5; (rw [e9, fT_eq]; exact add131 b22 ((sz999 bl).mul hD8 (by decide))); (rw [fT_ne _ _ e9, fT_ne _ _ (by omega), fT_ne _ _ (by omega), f23_2 _ (by omega)]; exact hA1.1 k hk), fun g9 hg9 => by rw [fT_ne _ _ (by omega), fT_ne _ _ (by omega), fT_ne _ _ (by omega), f23_2 _ (by omega), fT_ne _ _ (by omega), fT_ne _ _ (by omega), fT_ne _ _ (by omega), f23_2 _ (by omega)]; exact hA1.2 g9 hg9⟩) (by (rw [fT_ne _ _ (by omega), fT_ne _ _ (by omega), fT_ne _ _ (by omega), f23_2 _ (by omega)]); exact h81) (fun q h1 h2 h3 => by (rw [fT_ne _ _ (by omega), fT_ne _ _ (by omega), fT_ne _ _ (by omega), f23_2 _ (by omega)]); exact ho q h1 h2 h3) (by omega) hP hD hS hl
theorem dX12_isBetter_0 : decode cX12_isBetter 0 = .ok (.iconst 0, 1) := dk_3 (by decide +kernel)
theorem dX12_isBetter_1 : decode cX12_isBetter 1 = .ok (.istore_n 1, 1) := dk_60 (by decide +kernel)
theorem dX12_isBetter_2 : decode cX12_isBetter 2 = .ok (.iload_n 1, 1) := dk_27 (by decide +kernel)
theorem dX12_isBetter_3 : decode cX12_isBetter 3 = .ok (.aload_n 0, 1) := dk_42 (by decide +kernel)
theorem dX12_isBetter_4 : decode cX12_isBetter 4 = .ok (.getfield 805, 3) := dk_180 (by decide +kernel)
theorem dX12_isBetter_7 : decode cX12_isBetter 7 = .ok (.if_icmp .ge 70, 3) := dk_162 (by decide +kernel)
theorem dX12_isBetter_10 : decode cX12_isBetter 10 = .ok (.aload_n 0, 1) := dk_42 (by decide +kernel)
theorem dX12_isBetter_11 : decode cX12_isBetter 11 = .ok (.sipush 1030, 3) := dk_17 (by decide +kernel)
theorem dX12_isBetter_14 : decode cX12_isBetter 14 = .ok (.iload_n 1, 1) := dk_27 (by decide +kernel)
theorem dX12_isBetter_15 : decode cX12_isBetter 15 = .ok (.iadd, 1) := dk_96 (by decide +kernel)
theorem dX12_isBetter_16 : decode cX12_isBetter 16 = .ok (.sipush 1033, 3) := dk_17 (by decide +kernel)
theorem dX12_isBetter_19 : decode cX12_isBetter 19 = .ok (.iload_n 1, 1) := dk_27 (by decide +kernel)
theorem dX12_isBetter_20 : decode cX12_isBetter 20 = .ok (.iadd, 1) := dk_96 (by decide +kernel)
theorem dX12_isBetter_21 : decode cX12_isBetter 21 = .ok (.sipush 1010, 3) := dk_17 (by decide +kernel)
theorem dX12_isBetter_24 : decode cX12_isBetter 24 = .ok (.iload_n 1, 1) := dk_27 (by decide +kernel)
theorem dX12_isBetter_25 : decode cX12_isBetter 25 = .ok (.iadd, 1) := dk_96 (by decide +kernel)
theorem dX12_isBetter_26 : decode cX12_isBetter 26 = .ok (.sipush 1013, 3) := dk_17 (by decide +kernel)
theorem dX12_isBetter_29 : decode cX12_isBetter 29 = .ok (.iload_n 1, 1) := dk_27 (by decide +kernel)
theorem dX12_isBetter_30 : decode cX12_isBetter 30 = .ok (.iadd, 1) := dk_96 (by decide +kernel)
theorem dX12_isBetter_31 : decode cX12_isBetter 31 = .ok (.invokevirtual 862, 3) := dk_182 (by decide +kernel)
theorem dX12_isBetter_34 : decode cX12_isBetter 34 = .ok (.istore_n 2, 1) := dk_61 (by decide +kernel)
theorem dX12_isBetter_35 : decode cX12_isBetter 35 = .ok (.iload_n 2, 1) := dk_28 (by decide +kernel)
theorem dX12_isBetter_36 : decode cX12_isBetter 36 = .ok (.ifCond .eq 35, 3) := dk_153 (by decide +kernel)
theorem dX12_isBetter_39 : decode cX12_isBetter 39 = .ok (.aload_n 0, 1) := dk_42 (by decide +kernel)
theorem dX12_isBetter_40 : decode cX12_isBetter 40 = .ok (.getfield 218, 3) := dk_180 (by decide +kernel)
theorem dX12_isBetter_43 : decode cX12_isBetter 43 = .ok (.iload_n 1, 1) := dk_27 (by decide +kernel)
theorem dX12_isBetter_44 : decode cX12_isBetter 44 = .ok (.iaload, 1) := dk_46 (by decide +kernel)
theorem dX12_isBetter_45 : decode cX12_isBetter 45 = .ok (.iconst 1, 1) := dk_4 (by decide +kernel)
theorem dX12_isBetter_46 : decode cX12_isBetter 46 = .ok (.if_icmp .ne 15, 3) := dk_160 (by decide +kernel)
theorem dX12_isBetter_49 : decode cX12_isBetter 49 = .ok (.iload_n 2, 1) := dk_28 (by decide +kernel)
theorem dX12_isBetter_50 : decode cX12_isBetter 50 = .ok (.ifCond .le 7, 3) := dk_158 (by decide +kernel)
theorem dX12_isBetter_53 : decode cX12_isBetter 53 = .ok (.iconst 1, 1) := dk_4 (by decide +kernel)
theorem dX12_isBetter_54 : decode cX12_isBetter 54 = .ok (.goto 16, 3) := dk_167 (by decide +kernel)
theorem dX12_isBetter_57 : decode cX12_isBetter 57 = .ok (.iconst 0, 1) := dk_3 (by decide +kernel)
theorem dX12_isBetter_58 : decode cX12_isBetter 58 = .ok (.goto 12, 3) := dk_167 (by decide +kernel)
theorem dX12_isBetter_61 : decode cX12_isBetter 61 = .ok (.iload_n 2, 1) := dk_28 (by decide +kernel)
theorem dX12_isBetter_62 : decode cX12_isBetter 62 = .ok (.ifCond .ge 7, 3) := dk_156 (by decide +kernel)
theorem dX12_isBetter_65 : decode cX12_isBetter 65 = .ok (.iconst 1, 1) := dk_4 (by decide +kernel)
theorem dX12_isBetter_66 : decode cX12_isBetter 66 = .ok (.goto 4, 3) := dk_167 (by decide +kernel)
theorem dX12_isBetter_69 : decode cX12_isBetter 69 = .ok (.iconst 0, 1) := dk_3 (by decide +kernel)
theorem dX12_isBetter_70 : decode cX12_isBetter 70 = .ok (.ireturn, 1) := dk_172 (by decide +kernel)
theorem dX12_isBetter_71 : decode cX12_isBetter 71 = .ok (.iinc 1 1, 3) := dk_132 (by decide +kernel)
theorem dX12_isBetter_74 : decode cX12_isBetter 74 = .ok (.goto (-72), 3) := dk_167 (by decide +kernel)
theorem dX12_isBetter_77 : decode cX12_isBetter 77 = .ok (.iconst 0, 1) := dk_3 (by decide +kernel)
theorem dX12_isBetter_78 : decode cX12_isBetter 78 = .ok (.istore_n 1, 1) := dk_60 (by decide +kernel)
theorem dX12_isBetter_79 : decode cX12_isBetter 79 = .ok (.iload_n 1, 1) := dk_27 (by decide +kernel)
theorem dX12_isBetter_80 : decode cX12_isBetter 80 = .ok (.aload_n 0, 1) := dk_42 (by decide +kernel)
theorem dX12_isBetter_81 : decode cX12_isBetter 81 = .ok (.getfield 774, 3) := dk_180 (by decide +kernel)
theorem dX12_isBetter_84 : decode cX12_isBetter 84 = .ok (.if_icmp .ge 44, 3) := dk_162 (by decide +kernel)
theorem dX12_isBetter_87 : decode cX12_isBetter 87 = .ok (.aload_n 0, 1) := dk_42 (by decide +kernel)
theorem dX12_isBetter_88 : decode cX12_isBetter 88 = .ok (.sipush 1020, 3) := dk_17 (by decide +kernel)
theorem dX12_isBetter_91 : decode cX12_isBetter 91 = .ok (.iload_n 1, 1) := dk_27 (by decide +kernel)
theorem dX12_isBetter_92 : decode cX12_isBetter 92 = .ok (.iadd, 1) := dk_96 (by decide +kernel)
theorem dX12_isBetter_93 : decode cX12_isBetter 93 = .ok (.sipush 1028, 3) := dk_17 (by decide +kernel)
theorem dX12_isBetter_96 : decode cX12_isBetter 96 = .ok (.sipush 1000, 3) := dk_17 (by decide +kernel)
theorem dX12_isBetter_99 : decode cX12_isBetter 99 = .ok (.iload_n 1, 1) := dk_27 (by decide +kernel)
theorem dX12_isBetter_100 : decode cX12_isBetter 100 = .ok (.iadd, 1) := dk_96 (by decide +kernel)
theorem dX12_isBetter_101 : decode cX12_isBetter 101 = .ok (.sipush 1008, 3) := dk_17 (by decide +kernel)
theorem dX12_isBetter_104 : decode cX12_isBetter 104 = .ok (.invokevirtual 862, 3) := dk_182 (by decide +kernel)
theorem dX12_isBetter_107 : decode cX12_isBetter 107 = .ok (.istore_n 2, 1) := dk_61 (by decide +kernel)
theorem dX12_isBetter_108 : decode cX12_isBetter 108 = .ok (.iload_n 2, 1) := dk_28 (by decide +kernel)
theorem dX12_isBetter_109 : decode cX12_isBetter 109 = .ok (.ifCond .eq 13, 3) := dk_153 (by decide +kernel)
theorem dX12_isBetter_112 : decode cX12_isBetter 112 = .ok (.iload_n 2, 1) := dk_28 (by decide +kernel)
theorem dX12_isBetter_113 : decode cX12_isBetter 113 = .ok (.ifCond .ge 7, 3) := dk_156 (by decide +kernel)
theorem dX12_isBetter_116 : decode cX12_isBetter 116 = .ok (.iconst 1, 1) := dk_4 (by decide +kernel)
theorem dX12_isBetter_117 : decode cX12_isBetter 117 = .ok (.goto 4, 3) := dk_167 (by decide +kernel)
theorem dX12_isBetter_120 : decode cX12_isBetter 120 = .ok (.iconst 0, 1) := dk_3 (by decide +kernel)
theorem dX12_isBetter_121 : decode cX12_isBetter 121 = .ok (.ireturn, 1) := dk_172 (by decide +kernel)
theorem dX12_isBetter_122 : decode cX12_isBetter 122 = .ok (.iinc 1 1, 3) := dk_132 (by decide +kernel)
theorem dX12_isBetter_125 : decode cX12_isBetter 125 = .ok (.goto (-46), 3) := dk_167 (by decide +kernel)
theorem dX12_isBetter_128 : decode cX12_isBetter 128 = .ok (.iconst 0, 1) := dk_3 (by decide +kernel)
theorem dX12_isBetter_129 : decode cX12_isBetter 129 = .ok (.ireturn, 1) := dk_172 (by decide +kernel)
def wsRX12_isBetter : List Cond := .code yX12_isBetter cX12_isBetter 3 (some .boolean) :: ([.fieldLink RX12 805 "OptimaWorksModel" "modelGoals" "I", .fieldLink RX12 774 "OptimaWorksModel" "variables" "I", .fieldLink RX12 218 "OptimaWorksModel" "goalMax" "[I"] ++ wsX120 ++ (wsV RX12 862 RX12 yX12_against wsRX12_against))
theorem iwsRX12_isBetter_in12 : ∀ w ∈ wsX120, w ∈ wsRX12_isBetter := fun _ h => List.mem_cons_of_mem _ (List.mem_append_left _ (List.mem_append_right _ h))
theorem gwsRX12_isBetter_0 : GoodIn wsRX12_isBetter (wsV RX12 862 RX12 yX12_against wsRX12_against) := goodIn_sub (fun _ h => List.mem_cons_of_mem _ (List.mem_append_right _ h)) (gdV (by decide +kernel) gdwsRX12_against)
theorem gdwsRX12_isBetter : wsRX12_isBetter.all goodWord = true := gdC rfl (gdA (gdA (by decide +kernel : ([.fieldLink RX12 805 "OptimaWorksModel" "modelGoals" "I", .fieldLink RX12 774 "OptimaWorksModel" "variables" "I", .fieldLink RX12 218 "OptimaWorksModel" "goalMax" "[I"] : List Cond).all goodWord = true) gdwsX120) (gdV (by decide +kernel) gdwsRX12_against))
set_option maxHeartbeats 4000000 in
set_option maxRecDepth 100000 in
/-- isBetter() -/
theorem r_X12_isBetter (l : Launch) (dC : Nat → ClassId) (dI : Nat → Nat → Nat) (a : Nat → Nat) (k : Nat → ClassId) (h0 : Nat) (vi : Nat → Int32) (vj : Nat → Int64) (vF : Nat → Nat → Int32) (vG : Nat → Nat → Int64) (vn : Nat) (gq : Nat) (mg : Nat → Int) (hBg : Bg (vF 0) mg) (hvn : vi 90 = nI vn) (hvn8 : vn ≤ 8) (hgq : gq ≤ 3) (hmg : vi 93 = nI gq) (hAn : AnsB mg 1020) (hA0 : AnsB mg 1000) (sz : Nat) : Met l yX12_isBetter wsRX12_isBetter ({ frames := 3, cells := 0, slots := 0, locals := 83 }) (va_Pc [.ref h0] (fun U => U.heap.size = sz ∧ va_P (dC, dI) vwCl (WR a k h0 vi vj vF vG) U.heap ∧ va_K (dC, dI) vwCl (tX12 k) U ∧ va_D (fun _ => True) (WR a k h0 vi vj vF vG))) (va_Qi (fun (r : Int32) (u : (Nat → Int32) × (Nat → Int64) × (Nat → Int)) => (Bg (u.1) (u.2.2)) ∧ (∀ q, (q < 3 ∨ 4 < q) → (u.2.2) q = mg q) ∧ ((r) = 0 ∨ (r) = 1)) (fun (u : (Nat → Int32) × (Nat → Int64) × (Nat → Int)) t => va_P (dC, dI) vwCl (WR a k h0 vi vj (fT vF 0 (u.1)) (fT vG 1 (u.2.1))) t.heap ∧ va_D (va_A (WR a k h0 vi vj vF vG) sz) (WR a k h0 vi vj (fT vF 0 (u.1)) (fT vG 1 (u.2.1)))) (va_A (WR a k h0 vi vj vF vG) sz)) 0 0 (va_A (WR a k h0 vi vj vF vG) sz) := by
  refine Met.ofW (cc := cX12_isBetter) (maxL := 3) (ret := (some .boolean)) (by decide) rfl ?_
  intro p e s m args below meth c s₁ B hml hv
  obtain ⟨rfl, hsz, hP, hK, hD0⟩ := hv
  have hx := B.exec
  have hb := B.bytes
  have hr := B.returns
  have hts := atoms_spec (ws := wsRX12_isBetter) B.pre
  have hown : s.vm.findClass RX12 = some m.cls := findClass_of_methodNamed B.named
  have hlocks := B.notSynchronized
  subst hsz
  have hD := hD0.self (sz := s.heap.size)
  generalize hAe : va_A (WR a k h0 vi vj vF vG) s.heap.size = A at hD ⊢
  have hA : ∀ q : Nat, s.heap.size ≤ q → A q := fun q h => by rw [← hAe]; exact Or.inr h
  have hS : va_S A s.heap s.heap [] := va_S.rf
  have hl := lv_entry ([.ref h0]) (n := 3) (Nat.le_of_ble_eq_true rfl)
  rw [lg_entry_eq]
  generalize (lg_sl ([.ref h0]) ++ List.replicate (3 - (lg_sl ([.ref h0])).length) Slot.unset).toArray = ls at hl ⊢
  have hl : lv_has ls 3 [(0, .ref h0)] := hl
  refine lv_iconst (v := 0) hx hb dX12_isBetter_0 (by decide) ?_
  refine lv_istore_n hx hb dX12_isBetter_1 rfl hl (by decide) rfl (fun ls (hl : lv_has ls _ ([(1, .int 0), (0, .ref h0)])) => ?_)
  have e9 : fT vF 0 (vF 0) = vF := by funext q9; by_cases h9_0 : q9 = 0; (subst h9_0; exact (fT_eq _ _ _).trans (Eq.trans (by first | with_reducible rfl | with_reducible assumption | (symm; with_reducible assumption) | rfl | assumption | (symm; assumption) | (subst_vars; rfl)) (Eq.refl _).symm)); exact (fT_ne _ _ h9_0).trans (Eq.refl _).symm
  have hP := wr_PF e9 hP
  have hD := wr_DF e9 hD
  clear e9
  have e9 : fT vG 1 (vG 1) = vG := by funext q9; by_cases h9_1 : q9 = 1; (subst h9_1; exact (fT_eq _ _ _).trans (Eq.trans (by first | with_reducible rfl | with_reducible assumption | (symm; with_reducible assumption) | rfl | assumption | (symm; assumption) | (subst_vars; rfl)) (Eq.refl _).symm)); exact (fT_ne _ _ h9_1).trans (Eq.refl _).symm
  have hP := wr_PG e9 hP
  have hD := wr_DG e9 hD
  clear e9
  have hl : lv_has _ _ ([(0, .ref h0), (1, .int (nI 0))]) := lv_sub hl [1, 0] rfl
  refine (fun (loop : ∀ (n9 : Nat) (k5 : Nat) (g1 : Nat → Int32) (gs1 : Nat → Int64) (m1 : Nat → Int) (H : Heap) (locs : List Loc) (ls : Array Slot), (Bg g1 m1) → (k5 ≤ gq) → (∀ q, (q < 3 ∨ 4 < q) → m1 q = mg q) →  (gq < k5 + n9) → va_P (dC, dI) vwCl (WR a k h0 vi vj (fT vF 0 g1) (fT vG 1 gs1)) H → va_D A (WR a k h0 vi vj (fT vF 0 g1) (fT vG 1 gs1)) → va_S A s.heap H locs → lv_has ls 3 [(0, .ref h0), (1, .int (nI k5))] → W p l e _ s m _ below meth c H locs 0 0 _ (F0 m 2 ls [])) => loop (gq + 1) 0 (vF 0) (vG 1) mg _ _ _ (hBg) (by omega) (fun q _ => rfl) (by omega) hP hD hS hl) ?_
  intro n9
  induction n9 with
  | zero => intro k5 g1 gs1 m1 H locs ls hB1 hk5 ho hf9; exact False.elim (by omega)
  | succ n9 ih2 =>
    intro k5 g1 gs1 m1 H locs ls hB1 hk5 ho hf2 hP hD hS hl
    refine lv_iload_n hx hb dX12_isBetter_2 rfl (lv_at hl 1 rfl) ?_
    refine lv_aload_n hx hb dX12_isBetter_3 rfl (lv_at hl 0 rfl) ?_
    refine va_get (D := (dC, dI)) (ci := 12) (v := .int (vi 93)) (C := RX12) (T := TX12) (N := 163) (fs := fM (vS a vi vj)) hx hb hts iwsRX12_isBetter_in12 hown hK hP 0 rfl rfl 93 (by decide) (hts (.fieldLink RX12 805 "OptimaWorksModel" "modelGoals" "I") (by decide +kernel)) (fun _ h9 => h9) rfl dX12_isBetter_4 ?_
    refine lv_topi (fun y1 hy1 => ?_)
    obtain rfl : (nI gq) = y1 := (hy1.trans (hmg)).symm
    refine lv_icmp_ge (tgt := 77) hx hb dX12_isBetter_7 (by decide) (fun c_7 => ?_) (fun c_7 => ?_)
    · have t_7 : ((k5 : Nat) : Int) ≥ ((gq : Nat) : Int) := toI_ge c_7 (nI_toInt (by omega)) (nI_toInt (by omega))
      refine lv_iconst (v := 0) hx hb dX12_isBetter_77 (by decide) ?_
      refine lv_istore_n hx hb dX12_isBetter_78 rfl hl (by decide) rfl (fun ls (hl : lv_has ls _ ([(1, .int 0), (0, .ref h0)])) => ?_)
      have hl : lv_has _ _ ([(0, .ref h0), (1, .int (nI 0))]) := lv_sub hl [1, 0] rfl
      refine (fun (loop : ∀ (n9 : Nat) (k6 : Nat) (g3 : Nat → Int32) (gs3 : Nat → Int64) (m3 : Nat → Int) (H : Heap) (locs : List Loc) (ls : Array Slot), (Bg g3 m3) → (k6 ≤ vn) → (∀ q, (q < 3 ∨ 4 < q) → m3 q = mg q) →  (vn < k6 + n9) → va_P (dC, dI) vwCl (WR a k h0 vi vj (fT vF 0 g3) (fT vG 1 gs3)) H → va_D A (WR a k h0 vi vj (fT vF 0 g3) (fT vG 1 gs3)) → va_S A s.heap H locs → lv_has ls 3 [(0, .ref h0), (1, .int (nI k6))] → W p l e _ s m _ below meth c H locs 0 0 _ (F0 m 79 ls [])) => loop (vn + 1) 0 g1 gs1 m1 _ _ _ (hB1) (by omega) (ho) (by omega) hP hD hS hl) ?_
      intro n9
      induction n9 with
      | zero => intro k6 g3 gs3 m3 H locs ls hB3 hk6 ho2 hf9; exact False.elim (by omega)
      | succ n9 ih79_1 =>
        intro k6 g3 gs3 m3 H locs ls hB3 hk6 ho2 hf79_1 hP hD hS hl
        refine lv_iload_n hx hb dX12_isBetter_79 rfl (lv_at hl 1 rfl) ?_
        refine lv_aload_n hx hb dX12_isBetter_80 rfl (lv_at hl 0 rfl) ?_
        refine va_get (D := (dC, dI)) (ci := 12) (v := .int (vi 90)) (C := RX12) (T := TX12) (N := 163) (fs := fM (vS a vi vj)) hx hb hts iwsRX12_isBetter_in12 hown hK hP 0 rfl rfl 90 (by decide) (hts (.fieldLink RX12 774 "OptimaWorksModel" "variables" "I") (by decide +kernel)) (fun _ h9 => h9) rfl dX12_isBetter_81 ?_
        refine lv_topi (fun y2 hy2 => ?_)
        obtain rfl : (nI vn) = y2 := (hy2.trans (hvn)).symm
        refine lv_icmp_ge (tgt := 128) hx hb dX12_isBetter_84 (by decide) (fun c_84 => ?_) (fun c_84 => ?_)
        · have t_84 : ((k6 : Nat) : Int) ≥ ((vn : Nat) : Int) := toI_ge c_84 (nI_toInt (by omega)) (nI_toInt (by omega))
          refine lv_iconst (v := 0) hx hb dX12_isBetter_128 (by decide) ?_
          refine W.widen (k := 0) (n := 0) (by decide +kernel) (by decide +kernel) ?_
          exact W.zret (v := 0) hx hb hr rfl (fun t9_ ht hW => ⟨⟨0, (g3, gs3, m3), rfl, by (try dsimp only); exact ⟨hB3, ho2, Or.inl rfl⟩, by rw [ht]; exact hP, hD⟩, hS.F ht⟩) hS.2.2 dX12_isBetter_129
        · have t_84 : ¬ ((k6 : Nat) : Int) ≥ ((vn : Nat) : Int) := toI_nge c_84 (nI_toInt (by omega)) (nI_toInt (by omega))
          refine lv_aload_n hx hb dX12_isBetter_87 rfl (lv_at hl 0 rfl) ?_
          refine lv_sipush (v := 1020) hx hb dX12_isBetter_88 (by decide) ?_
          refine lv_iload_n hx hb dX12_isBetter_91 rfl (lv_at hl 1 rfl) ?_
          refine lv_iadd hx hb dX12_isBetter_92 ?_
          refine lv_topi (fun y3 hy3 => ?_)
          obtain rfl : (nI (1020 + k6)) = y3 := (hy3.trans (nI_add 1020 k6)).symm
          refine lv_sipush (v := 1028) hx hb dX12_isBetter_93 (by decide) ?_
          refine lv_sipush (v := 1000) hx hb dX12_isBetter_96 (by decide) ?_
          refine lv_iload_n hx hb dX12_isBetter_99 rfl (lv_at hl 1 rfl) ?_
          refine lv_iadd hx hb dX12_isBetter_100 ?_
          refine lv_topi (fun y4 hy4 => ?_)
          obtain rfl : (nI (1000 + k6)) = y4 := (hy4.trans (nI_add 1000 k6)).symm
          refine lv_sipush (v := 1008) hx hb dX12_isBetter_101 (by decide) ?_
          have hFc := allFree hD hS hA
          refine va_calli (va_runV (As := [.int (nI (1020 + k6)), .int 1028, .int (nI (1000 + k6)), .int 1008]) (rest := []) ⟨hx, hb, hml, hown, hts⟩ (r_X12_against l dC dI a k h0 vi vj (fT vF 0 g3) (fT vG 1 gs3) (1020 + k6) 1028 (1000 + k6) 1008 m3 hB3 (m3 (1020 + k6)) (m3 1028) (m3 (1000 + k6)) (m3 1008) rfl rfl rfl rfl (by first | with_reducible assumption | decide | omega | rfl | assumption) (by first | with_reducible assumption | decide | omega | rfl | assumption) (by first | with_reducible assumption | decide | omega | rfl | assumption) (by first | with_reducible assumption | decide | omega | rfl | assumption) (by first | with_reducible assumption | decide | omega | rfl | assumption) (mulpN (a := 131) (b := 131) (by rw [ho2 _ (by omega)]; exact hAn.1 k6 (by omega)) (by rw [ho2 _ (by omega)]; exact hA0.1 8 (by omega)) (by decide)) (mulpN (a := 131) (b := 131) (by rw [ho2 _ (by omega)]; exact hA0.1 k6 (by omega)) (by rw [ho2 _ (by omega)]; exact hAn.1 8 (by omega)) (by decide)) H.size) (cwV 4 hts gwsRX12_isBetter_0 rfl rfl rfl hd_yX12_against_RX12 (by decide +kernel)) (fz_pre (va_recv hK hP (ci := 12) (q0 := 0) rfl rfl) hP hK hD) rfl rfl hl.1 rfl (lv_room (Nat.le_of_ble_eq_true rfl)) dX12_isBetter_104 (by decide +kernel)) hS (fun q _ h => hFc q h) hFc (fun r104 u t9_ H locs ht hvm hw9 hB9 hz1 hk1 hS => ?_)
          revert u hw9 hB9
          refine fz_p3 ?_
          intro g104 gs104 m2104 hw9 hB9
          try dsimp only at hw9 hB9
          have e9F : fT vF 0 g104 = fT (fT vF 0 g3) 0 g104 := (fT_sm _ _ _ _).symm
          have e9G : fT vG 1 gs104 = fT (fT vG 1 gs3) 1 gs104 := (fT_sm _ _ _ _).symm
          have hP := wr_PG e9G (wr_PF e9F (fz_P ht hB9.1))
          have hD := wr_DG e9G (wr_DF e9F (hB9.2.weaken (fun _ q _ h => hFc q.1 h)))
          clear e9F e9G
          revert hw9
          refine fz_a3 ?_
          intro f104_0 f104_1 f104_2
          refine lv_istore_n hx hb dX12_isBetter_107 rfl hl (by decide) rfl (fun ls (hl : lv_has ls _ ([(2, .int r104), (0, .ref h0), (1, .int (nI k6))])) => ?_)
          refine lv_iload_n hx hb dX12_isBetter_108 rfl (lv_at hl 0 rfl) ?_
          refine lv_if_eq (tgt := 122) hx hb dX12_isBetter_109 (by decide) (fun c_109 => ?_) (fun c_109 => ?_)
          · have t_109 : (r104).toInt = 0 := toI_eq c_109 rfl (by decide)
            refine lv_iinc (v := (nI (k6 + 1))) hx hb dX12_isBetter_122 hl (k := 2) rfl (nI_add k6 1) (by decide) rfl (fun ls (hl : lv_has ls _ ([(1, .int (nI (k6 + 1))), (2, .int r104), (0, .ref h0)])) => ?_)
            refine lv_goto (tgt := 79) hx hb dX12_isBetter_125 (by decide) ?_
            have hl : lv_has _ _ ([(0, .ref h0), (1, .int (nI (k6 + 1)))]) := lv_sub hl [2, 0] rfl
            exact ih79_1 (k6 + 1) g104 gs104 m2104 _ _ _ (f104_0) (by omega) (fun q hq => by (rw [f104_2 _ (by omega)]); exact ho2 q hq) (by omega) hP hD hS hl
          · have t_109 : ¬ (r104).toInt = 0 := toI_neq c_109 rfl (by decide)
            refine lv_iload_n hx hb dX12_isBetter_112 rfl (lv_at hl 0 rfl) ?_
            refine lv_if_ge (tgt := 120) hx hb dX12_isBetter_113 (by decide) (fun c_113 => ?_) (fun c_113 => ?_)
            · have t_113 : (r104).toInt ≥ 0 := toI_ge c_113 rfl (by decide)
              refine lv_iconst (v := 0) hx hb dX12_isBetter_120 (by decide) ?_
              refine W.widen (k := 0) (n := 0) (by decide +kernel) (by decide +kernel) ?_
              exact W.zret (v := 0) hx hb hr rfl (fun t9_ ht hW => ⟨⟨0, (g104, gs104, m2104), rfl, by (try dsimp only); exact ⟨f104_0, fun q hq => by (rw [f104_2 _ (by omega)]); exact ho2 q hq, Or.inl rfl⟩, by rw [ht]; exact hP, hD⟩, hS.F ht⟩) hS.2.2 dX12_isBetter_121
            · have t_113 : ¬ (r104).toInt ≥ 0 := toI_nge c_113 rfl (by decide)
              refine lv_iconst (v := 1) hx hb dX12_isBetter_116 (by decide) ?_
              refine lv_goto (tgt := 121) hx hb dX12_isBetter_117 (by decide) ?_
              refine W.widen (k := 0) (n := 0) (by decide +kernel) (by decide +kernel) ?_
              exact W.zret (v := 1) hx hb hr rfl (fun t9_ ht hW => ⟨⟨1, (g104, gs104, m2104), rfl, by (try dsimp only); exact ⟨f104_0, fun q hq => by (rw [f104_2 _ (by omega)]); exact ho2 q hq, Or.inr rfl⟩, by rw [ht]; exact hP, hD⟩, hS.F ht⟩) hS.2.2 dX12_isBetter_121
    · have t_7 : ¬ ((k5 : Nat) : Int) ≥ ((gq : Nat) : Int) := toI_nge c_7 (nI_toInt (by omega)) (nI_toInt (by omega))
      refine lv_aload_n hx hb dX12_isBetter_10 rfl (lv_at hl 0 rfl) ?_
      refine lv_sipush (v := 1030) hx hb dX12_isBetter_11 (by decide) ?_
      refine lv_iload_n hx hb dX12_isBetter_14 rfl (lv_at hl 1 rfl) ?_
      refine lv_iadd hx hb dX12_isBetter_15 ?_
      refine lv_topi (fun y5 hy5 => ?_)
      obtain rfl : (nI (1030 + k5)) = y5 := (hy5.trans (nI_add 1030 k5)).symm
      refine lv_sipush (v := 1033) hx hb dX12_isBetter_16 (by decide) ?_
      refine lv_iload_n hx hb dX12_isBetter_19 rfl (lv_at hl 1 rfl) ?_
      refine lv_iadd hx hb dX12_isBetter_20 ?_
      refine lv_topi (fun y6 hy6 => ?_)
      obtain rfl : (nI (1033 + k5)) = y6 := (hy6.trans (nI_add 1033 k5)).symm
      refine lv_sipush (v := 1010) hx hb dX12_isBetter_21 (by decide) ?_
      refine lv_iload_n hx hb dX12_isBetter_24 rfl (lv_at hl 1 rfl) ?_
      refine lv_iadd hx hb dX12_isBetter_25 ?_
      refine lv_topi (fun y7 hy7 => ?_)
      obtain rfl : (nI (1010 + k5)) = y7 := (hy7.trans (nI_add 1010 k5)).symm
      refine lv_sipush (v := 1013) hx hb dX12_isBetter_26 (by decide) ?_
      refine lv_iload_n hx hb dX12_isBetter_29 rfl (lv_at hl 1 rfl) ?_
      refine lv_iadd hx hb dX12_isBetter_30 ?_
      refine lv_topi (fun y8 hy8 => ?_)
      obtain rfl : (nI (1013 + k5)) = y8 := (hy8.trans (nI_add 1013 k5)).symm
      have hFc := allFree hD hS hA
      refine va_calli (va_runV (As := [.int (nI (1030 + k5)), .int (nI (1033 + k5)), .int (nI (1010 + k5)), .int (nI (1013 + k5))]) (rest := []) ⟨hx, hb, hml, hown, hts⟩ (r_X12_against l dC dI a k h0 vi vj (fT vF 0 g1) (fT vG 1 gs1) (1030 + k5) (1033 + k5) (1010 + k5) (1013 + k5) m1 hB1 (m1 (1030 + k5)) (m1 (1033 + k5)) (m1 (1010 + k5)) (m1 (1013 + k5)) rfl rfl rfl rfl (by first | with_reducible assumption | decide | omega | rfl | assumption) (by first | with_reducible assumption | decide | omega | rfl | assumption) (by first | with_reducible assumption | decide | omega | rfl | assumption) (by first | with_reducible assumption | decide | omega | rfl | assumption) (by first | with_reducible assumption | decide | omega | rfl | assumption) (mulpN (a := 209) (b := 187) (by rw [ho _ (by omega)]; exact (hAn.2 k5 (by omega)).1) (by rw [ho _ (by omega)]; exact (hA0.2 k5 (by omega)).2) (by decide)) (mulpN (a := 209) (b := 187) (by rw [ho _ (by omega)]; exact (hA0.2 k5 (by omega)).1) (by rw [ho _ (by omega)]; exact (hAn.2 k5 (by omega)).2) (by decide)) H.size) (cwV 4 hts gwsRX12_isBetter_0 rfl rfl rfl hd_yX12_against_RX12 (by decide +kernel)) (fz_pre (va_recv hK hP (ci := 12) (q0 := 0) rfl rfl) hP hK hD) rfl rfl hl.1 rfl (lv_room (Nat.le_of_ble_eq_true rfl)) dX12_isBetter_31 (by decide +kernel)) hS (fun q _ h => hFc q h) hFc (fun r31 u t9_ H locs ht hvm hw9 hB9 hz1 hk1 hS => ?_)
      revert u hw9 hB9
      refine fz_p3 ?_
      intro g31 gs31 m231 hw9 hB9
      try dsimp only at hw9 hB9
      have e9F : fT vF 0 g31 = fT (fT vF 0 g1) 0 g31 := (fT_sm _ _ _ _).symm
      have e9G : fT vG 1 gs31 = fT (fT vG 1 gs1) 1 gs31 := (fT_sm _ _ _ _).symm
      have hP := wr_PG e9G (wr_PF e9F (fz_P ht hB9.1))
      have hD := wr_DG e9G (wr_DF e9F (hB9.2.weaken (fun _ q _ h => hFc q.1 h)))
      clear e9F e9G
      revert hw9
      refine fz_a3 ?_
      intro f31_0 f31_1 f31_2
      refine lv_istore_n hx hb dX12_isBetter_34 rfl hl (by decide) rfl (fun ls (hl : lv_has ls _ ([(2, .int r31), (0, .ref h0), (1, .int (nI k5))])) => ?_)
      refine lv_iload_n hx hb dX12_isBetter_35 rfl (lv_at hl 0 rfl) ?_
      refine lv_if_eq (tgt := 71) hx hb dX12_isBetter_36 (by decide) (fun c_36 => ?_) (fun c_36 => ?_)
      · have t_36 : (r31).toInt = 0 := toI_eq c_36 rfl (by decide)
        refine lv_iinc (v := (nI (k5 + 1))) hx hb dX12_isBetter_71 hl (k := 2) rfl (nI_add k5 1) (by decide) rfl (fun ls (hl : lv_has ls _ ([(1, .int (nI (k5 + 1))), (2, .int r31), (0, .ref h0)])) => ?_)
        refine lv_goto (tgt := 2) hx hb dX12_isBetter_74 (by decide) ?_
        have hl : lv_has _ _ ([(0, .ref h0), (1, .int (nI (k5 + 1)))]) := lv_sub hl [2, 0] rfl
        exact ih2 (k5 + 1) g31 gs31 m231 _ _ _ (f31_0) (by omega) (fun q hq => by (rw [f31_2 _ (by omega)]); exact ho q hq) (by omega) hP hD hS hl
      · have t_36 : ¬ (r31).toInt = 0 := toI_neq c_36 rfl (by decide)
        refine lv_aload_n hx hb dX12_isBetter_39 rfl (lv_at hl 1 rfl) ?_
        refine va_get (D := (dC, dI)) (ci := 12) (v := .ref (a 65)) (C := RX12) (T := TX12) (N := 163) (fs := fM (vS a vi vj)) hx hb hts iwsRX12_isBetter_in12 hown hK hP 0 rfl rfl 105 (by decide) (hts (.fieldLink RX12 218 "OptimaWorksModel" "goalMax" "[I") (by decide +kernel)) (fun _ h9 => h9) rfl dX12_isBetter_40 ?_
        refine lv_iload_n hx hb dX12_isBetter_43 rfl (lv_at hl 2 rfl) ?_
        refine va_iald (cA := k 65) (n := 3) (f := (vF 65)) hx hb hK hP 66 65 (WR_get 65 (by decide)) (TR_get 65 (by decide)) (vp_in_nI (show k5 < 3 by omega) (by omega)) dX12_isBetter_44 ?_
        refine lv_topi (fun y9 hy9 => ?_)
        obtain rfl : ((vF 65) k5) = y9 := (hy9.trans (by rw [nI_clamp (by omega)])).symm
        refine lv_iconst (v := 1) hx hb dX12_isBetter_45 (by decide) ?_
        refine lv_icmp_ne (tgt := 61) hx hb dX12_isBetter_46 (by decide) (fun c_46 => ?_) (fun c_46 => ?_)
        · have t_46 : (((vF 65) k5)).toInt ≠ 1 := toI_ne c_46 rfl (by decide)
          refine lv_iload_n hx hb dX12_isBetter_61 rfl (lv_at hl 0 rfl) ?_
          refine lv_if_ge (tgt := 69) hx hb dX12_isBetter_62 (by decide) (fun c_62 => ?_) (fun c_62 => ?_)
          · have t_62 : (r31).toInt ≥ 0 := toI_ge c_62 rfl (by decide)
            refine lv_iconst (v := 0) hx hb dX12_isBetter_69 (by decide) ?_
            refine W.widen (k := 0) (n := 0) (by decide +kernel) (by decide +kernel) ?_
            exact W.zret (v := 0) hx hb hr rfl (fun t9_ ht hW => ⟨⟨0, (g31, gs31, m231), rfl, by (try dsimp only); exact ⟨f31_0, fun q hq => by (rw [f31_2 _ (by omega)]); exact ho q hq, Or.inl rfl⟩, by rw [ht]; exact hP, hD⟩, hS.F ht⟩) hS.2.2 dX12_isBetter_70
          · have t_62 : ¬ (r31).toInt ≥ 0 := toI_nge c_62 rfl (by decide)
            refine lv_iconst (v := 1) hx hb dX12_isBetter_65 (by decide) ?_
            refine lv_goto (tgt := 70) hx hb dX12_isBetter_66 (by decide) ?_
            refine W.widen (k := 0) (n := 0) (by decide +kernel) (by decide +kernel) ?_
            exact W.zret (v := 1) hx hb hr rfl (fun t9_ ht hW => ⟨⟨1, (g31, gs31, m231), rfl, by (try dsimp only); exact ⟨f31_0, fun q hq => by (rw [f31_2 _ (by omega)]); exact ho q hq, Or.inr rfl⟩, by rw [ht]; exact hP, hD⟩, hS.F ht⟩) hS.2.2 dX12_isBetter_70
        · have t_46 : (((vF 65) k5)).toInt = 1 := toI_nne c_46 rfl (by decide)
          refine lv_iload_n hx hb dX12_isBetter_49 rfl (lv_at hl 0 rfl) ?_
          refine lv_if_le (tgt := 57) hx hb dX12_isBetter_50 (by decide) (fun c_50 => ?_) (fun c_50 => ?_)
          · have t_50 : (r31).toInt ≤ 0 := toI_le c_50 rfl (by decide)
            refine lv_iconst (v := 0) hx hb dX12_isBetter_57 (by decide) ?_
            refine lv_goto (tgt := 70) hx hb dX12_isBetter_58 (by decide) ?_
            refine W.widen (k := 0) (n := 0) (by decide +kernel) (by decide +kernel) ?_
            exact W.zret (v := 0) hx hb hr rfl (fun t9_ ht hW => ⟨⟨0, (g31, gs31, m231), rfl, by (try dsimp only); exact ⟨f31_0, fun q hq => by (rw [f31_2 _ (by omega)]); exact ho q hq, Or.inl rfl⟩, by rw [ht]; exact hP, hD⟩, hS.F ht⟩) hS.2.2 dX12_isBetter_70
          · have t_50 : ¬ (r31).toInt ≤ 0 := toI_nle c_50 rfl (by decide)
            refine lv_iconst (v := 1) hx hb dX12_isBetter_53 (by decide) ?_
            refine lv_goto (tgt := 70) hx hb dX12_isBetter_54 (by decide) ?_
            refine W.widen (k := 0) (n := 0) (by decide +kernel) (by decide +kernel) ?_
            exact W.zret (v := 1) hx hb hr rfl (fun t9_ ht hW => ⟨⟨1, (g31, gs31, m231), rfl, by (try dsimp only); exact ⟨f31_0, fun q hq => by (rw [f31_2 _ (by omega)]); exact ho q hq, Or.inr rfl⟩, by rw [ht]; exact hP, hD⟩, hS.F ht⟩) hS.2.2 dX12_isBetter_70
end
section
theorem sumN_le {n b : Nat} {f : Nat → Nat} (h : ∀ q, q < n → f q ≤ b) : sumN n f ≤ n * b := by
  induction n with
  | zero => exact Nat.zero_le _
  | succ n ih =>
    simp only [sumN]
    have h1 := ih (fun q hq => h q (by omega))
    have h2 := h n (by omega)
    rw [Nat.add_mul, Nat.one_mul]; omega
/-- the goals of a case, as they are laid -/
def GldG (C R T : Nat) (m : Nat → Int) : Prop := (∀ j, j ≤ C → m (30 + R * (C + 1) + j) = if j = C - 1 then 1 else 0) ∧ ∀ i, R < i → i < T → ∀ j, j ≤ C → (m (30 + i * (C + 1) + j)).natAbs < 2 ^ 74
theorem GldG.frame {C R T : Nat} {m m2 : Nat → Int} (h : GldG C R T m) (hRT : R < T) (e : ∀ p, 30 ≤ p → p < 30 + T * (C + 1) → m2 p = m p) : GldG C R T m2 :=
  ⟨fun j hj => by rw [e _ (by omega) (by have := pl_lt hRT hj; omega)]; exact h.1 j hj, fun i h1 h2 j hj => by rw [e _ (by omega) (by have := pl_lt h2 hj; omega)]; exact h.2 i h1 h2 j hj⟩
theorem BldL.frame {C R : Nat} {m m2 : Nat → Int} {f5 : Nat → Int32} (h : BldL C R m f5) (e : ∀ p, 30 ≤ p → p < 30 + R * (C + 1) → m2 p = m p) : BldL C R m2 f5 := by
  intro i hi
  obtain ⟨k1, k2, k3, k4⟩ := h i hi
  have hp : ∀ j, j ≤ C → m2 (30 + i * (C + 1) + j) = m (30 + i * (C + 1) + j) := fun j hj => e _ (by omega) (by have := pl_lt hi hj; omega)
  exact ⟨k1, fun j hj => by rw [hp j (by omega)]; exact k2 j hj, by rw [hp _ (by omega)]; exact k3, by rw [hp _ (Nat.le_refl _)]; exact k4⟩
theorem case_num : bF 793 1000000 1 10 < 2 ^ 120 ∧ bF 793 1000000 1 10 * 2 ^ 78 < 2 ^ 294 := by decide +kernel
/-- the tableaux of a case are small -/
theorem case_small {C R T : Nat} {m : Nat → Int} {f5 : Nat → Int32} (hC : 0 < C) (hC9 : C ≤ 9) (hRT : R < T) (hB : BldL C R m f5) (hG : GldG C R T m) :
    ∀ t D rl cl, SxF C R T (fun i j => m (30 + i * (C + 1) + j)) t D rl cl → (D.natAbs < 2 ^ 120 ∧ ∀ i, i < R → ∀ j, j ≤ C → (t i j).natAbs < 2 ^ 120) ∧ ∀ i, i < T → ∀ j, j ≤ C → (t i j).natAbs < 2 ^ 294 := by
  intro t D rl cl h
  have hb := h.bd (W := 793) (Bc := 1000000) (GM := 2 ^ 78) (k := 10) (by decide) (by decide) (Or.inr (by omega)) (fun i hi => by
      obtain ⟨k1, k2, k3, k4⟩ := hB i hi
      have e : sumN C (fun q => (m (30 + i * (C + 1) + q)).natAbs) = sumN (C - 1) (fun q => (m (30 + i * (C + 1) + q)).natAbs) + (m (30 + i * (C + 1) + (C - 1))).natAbs := by
        obtain ⟨c, rfl⟩ : ∃ c, C = c + 1 := ⟨C - 1, by omega⟩
        rfl
      have h1 := sumN_le (n := C - 1) (b := 99) (f := fun q => (m (30 + i * (C + 1) + q)).natAbs) (fun q hq => k2 q hq)
      have h2 : (C - 1) * 99 ≤ 8 * 99 := Nat.mul_le_mul_right _ (by omega)
      show sumN C (fun q => (m (30 + i * (C + 1) + q)).natAbs) ≤ 793
      rw [e, k3]; have h3 : (-1 : Int).natAbs = 1 := rfl
      omega) (fun i hi => (hB i hi).2.2.2) (fun i hi hT => by
      have h1 : sumN (C + 1) (fun q => (m (30 + i * (C + 1) + q)).natAbs) ≤ (C + 1) * 2 ^ 74 := sumN_le (fun q hq => by
        by_cases e : i = R
        · subst e; rw [hG.1 q (by omega)]; split
          · exact Nat.one_le_two_pow
          · exact Nat.zero_le _
        · exact Nat.le_of_lt (hG.2 i (by omega) hT q (by omega)))
      have h2 : (C + 1) * 2 ^ 74 ≤ 16 * 2 ^ 74 := Nat.mul_le_mul_right _ (by omega)
      have h3 : (16 : Nat) * 2 ^ 74 = 2 ^ 78 := by decide +kernel
      exact Nat.le_trans h1 (by omega)) (by omega)
  have hn := case_num
  refine ⟨⟨Nat.lt_of_le_of_lt hb.1 hn.1, fun i hi j hj => ?_⟩, fun i hi j hj => ?_⟩
  · have h1 := hb.2 i (by omega) j hj
    rw [if_pos hi, Nat.mul_one] at h1
    exact Nat.lt_of_le_of_lt h1 hn.1
  · have h1 := hb.2 i hi j hj
    refine Nat.lt_of_le_of_lt h1 (Nat.lt_of_le_of_lt (Nat.mul_le_mul_left _ ?_) hn.2)
    split
    · exact Nat.one_le_two_pow
    · exact Nat.le_refl _
end
section
theorem and255 (v : Int32) : ∃ n : Nat, n < 256 ∧ v &&& 255 = nI n := by
  refine ⟨v.toBitVec.toNat % 256, by omega, ?_⟩
  apply Int32.toBitVec_inj.mp
  apply BitVec.eq_of_toNat_eq
  have h2 : (nI (v.toBitVec.toNat % 256)).toBitVec.toNat = v.toBitVec.toNat % 256 := Nat.mod_eq_of_lt (by omega)
  rw [Int32.toBitVec_and, BitVec.toNat_and, h2]
  exact Nat.and_two_pow_sub_one_eq_mod _ 8
/-- the byte at a place of the tape, or -1 behind its end -/
def bA (tp : Nat) (f : Nat → Int32) (k : Nat) : Int32 := if k < tp then f k &&& 255 else -1
theorem bA_in (tp : Nat) (f : Nat → Int32) (k : Nat) : (k < tp ∧ 0 ≤ (bA tp f k).toInt ∧ (bA tp f k).toInt ≤ 255) ∨ (tp ≤ k ∧ (bA tp f k).toInt = -1) := by
  unfold bA
  by_cases h : k < tp
  · rw [if_pos h]
    obtain ⟨n, h1, e⟩ := and255 (f k)
    rw [e, nI_toInt (by omega)]
    exact Or.inl ⟨h, by omega, by omega⟩
  · rw [if_neg h]; exact Or.inr ⟨by omega, by decide⟩
def p10 (k : Nat) : Int := match k with
  | 0 => 1 | 1 => 10 | 2 => 100 | 3 => 1000 | 4 => 10000 | 5 => 100000 | _ => 1000000
theorem p10_step : ∀ k, k < 6 → 10 * p10 k = p10 (k + 1) := by decide
theorem p10_le (k : Nat) : p10 k ≤ 1000000 := by unfold p10; split <;> decide
theorem p10_big {k : Nat} (h : 6 ≤ k) : p10 k = 1000000 := by unfold p10; split <;> first | omega | rfl
theorem p10_one (k : Nat) : 1 ≤ p10 k := by unfold p10; split <;> decide
theorem mul10 {x : Int32} (h : 0 ≤ x.toInt ∧ x.toInt < 1000000) : ((10 : Int32) * x).toInt = 10 * x.toInt := by
  rw [Int32.toInt_mul]
  have e : (10 : Int32).toInt = 10 := by decide
  rw [e]
  exact Int.bmod_eq_of_le (by omega) (by omega)
end
section
theorem hd_yX12_faultAt_RX12 : yX12_faultAt.cls = RX12 ∧ yX12_faultAt.cls ≠ "java/lang/invoke/MethodHandle" ∧ yX12_faultAt.cls ≠ "java/lang/invoke/VarHandle" ∧ (parseMethodDescriptor yX12_faultAt.desc).map (fun d => d.parameters.length) = some 2 := by decide +kernel
theorem dX12_byteAt_0 : decode cX12_byteAt 0 = .ok (.iload_n 1, 1) := dk_27 (by decide +kernel)
theorem dX12_byteAt_1 : decode cX12_byteAt 1 = .ok (.aload_n 0, 1) := dk_42 (by decide +kernel)
theorem dX12_byteAt_2 : decode cX12_byteAt 2 = .ok (.getfield 468, 3) := dk_180 (by decide +kernel)
theorem dX12_byteAt_5 : decode cX12_byteAt 5 = .ok (.if_icmp .ge 16, 3) := dk_162 (by decide +kernel)
theorem dX12_byteAt_8 : decode cX12_byteAt 8 = .ok (.aload_n 0, 1) := dk_42 (by decide +kernel)
theorem dX12_byteAt_9 : decode cX12_byteAt 9 = .ok (.getfield 39, 3) := dk_180 (by decide +kernel)
theorem dX12_byteAt_12 : decode cX12_byteAt 12 = .ok (.iload_n 1, 1) := dk_27 (by decide +kernel)
theorem dX12_byteAt_13 : decode cX12_byteAt 13 = .ok (.baload, 1) := dk_51 (by decide +kernel)
theorem dX12_byteAt_14 : decode cX12_byteAt 14 = .ok (.sipush 255, 3) := dk_17 (by decide +kernel)
theorem dX12_byteAt_17 : decode cX12_byteAt 17 = .ok (.iand, 1) := dk_126 (by decide +kernel)
theorem dX12_byteAt_18 : decode cX12_byteAt 18 = .ok (.goto 4, 3) := dk_167 (by decide +kernel)
theorem dX12_byteAt_21 : decode cX12_byteAt 21 = .ok (.iconst (-1), 1) := dk_2 (by decide +kernel)
theorem dX12_byteAt_22 : decode cX12_byteAt 22 = .ok (.ireturn, 1) := dk_172 (by decide +kernel)
def wsRX12_byteAt : List Cond := .code yX12_byteAt cX12_byteAt 2 (some .int) :: ([.fieldLink RX12 468 "OptimaWorksModel" "taped" "I", .fieldLink RX12 39 "OptimaWorksModel" "tape" "[B"] ++ wsX120)
theorem iwsRX12_byteAt_in12 : ∀ w ∈ wsX120, w ∈ wsRX12_byteAt := fun _ h => List.mem_cons_of_mem _ (List.mem_append_right _ h)
theorem gdwsRX12_byteAt : wsRX12_byteAt.all goodWord = true := gdC rfl (gdA (by decide +kernel : ([.fieldLink RX12 468 "OptimaWorksModel" "taped" "I", .fieldLink RX12 39 "OptimaWorksModel" "tape" "[B"] : List Cond).all goodWord = true) gdwsX120)
set_option maxHeartbeats 4000000 in
set_option maxRecDepth 100000 in
/-- byteAt(k) -/
theorem r_X12_byteAt (l : Launch) (dC : Nat → ClassId) (dI : Nat → Nat → Nat) (a : Nat → Nat) (k : Nat → ClassId) (h0 : Nat) (vi : Nat → Int32) (vj : Nat → Int64) (vF : Nat → Nat → Int32) (vG : Nat → Nat → Int64) (kn : Nat) (tp : Nat) (hTp : vi 16 = nI tp) (htp : tp ≤ 4000) (hkn : kn ≤ 8000) (sz : Nat) : Met l yX12_byteAt wsRX12_byteAt ({ frames := 0, cells := 0, slots := 0, locals := 0 }) (va_Pc [.ref h0, .int (nI kn)] (fun U => U.heap.size = sz ∧ va_P (dC, dI) vwCl (WR a k h0 vi vj vF vG) U.heap ∧ va_K (dC, dI) vwCl (tX12 k) U ∧ va_D (fun _ => True) (WR a k h0 vi vj vF vG))) (va_Qi (fun (r : Int32) (u : Unit) => r = (bA tp (vF 9) kn)) (fun (u : Unit) t => va_P (dC, dI) vwCl (WR a k h0 vi vj vF vG) t.heap ∧ va_D (va_A (WR a k h0 vi vj vF vG) sz) (WR a k h0 vi vj vF vG)) (va_A (WR a k h0 vi vj vF vG) sz)) 0 0 (va_A (WR a k h0 vi vj vF vG) sz) := by
  refine Met.ofW (cc := cX12_byteAt) (maxL := 2) (ret := (some .int)) (by decide) rfl ?_
  intro p e s m args below meth c s₁ B hml hv
  obtain ⟨rfl, hsz, hP, hK, hD0⟩ := hv
  have hx := B.exec
  have hb := B.bytes
  have hr := B.returns
  have hts := atoms_spec (ws := wsRX12_byteAt) B.pre
  have hown : s.vm.findClass RX12 = some m.cls := findClass_of_methodNamed B.named
  have hlocks := B.notSynchronized
  subst hsz
  have hD := hD0.self (sz := s.heap.size)
  generalize hAe : va_A (WR a k h0 vi vj vF vG) s.heap.size = A at hD ⊢
  have hA : ∀ q : Nat, s.heap.size ≤ q → A q := fun q h => by rw [← hAe]; exact Or.inr h
  have hS : va_S A s.heap s.heap [] := va_S.rf
  have hl := lv_entry ([.ref h0, .int (nI kn)]) (n := 2) (Nat.le_of_ble_eq_true rfl)
  rw [lg_entry_eq]
  generalize (lg_sl ([.ref h0, .int (nI kn)]) ++ List.replicate (2 - (lg_sl ([.ref h0, .int (nI kn)])).length) Slot.unset).toArray = ls at hl ⊢
  have hl : lv_has ls 2 [(0, .ref h0), (1, .int (nI kn))] := hl
  refine lv_iload_n hx hb dX12_byteAt_0 rfl (lv_at hl 1 rfl) ?_
  refine lv_aload_n hx hb dX12_byteAt_1 rfl (lv_at hl 0 rfl) ?_
  refine va_get (D := (dC, dI)) (ci := 12) (v := .int (vi 16)) (C := RX12) (T := TX12) (N := 163) (fs := fM (vS a vi vj)) hx hb hts iwsRX12_byteAt_in12 hown hK hP 0 rfl rfl 16 (by decide) (hts (.fieldLink RX12 468 "OptimaWorksModel" "taped" "I") (by decide +kernel)) (fun _ h9 => h9) rfl dX12_byteAt_2 ?_
  refine lv_topi (fun y1 hy1 => ?_)
  obtain rfl : (nI tp) = y1 := (hy1.trans (hTp)).symm
  refine lv_icmp_ge (tgt := 21) hx hb dX12_byteAt_5 (by decide) (fun c_5 => ?_) (fun c_5 => ?_)
  · have t_5 : ((kn : Nat) : Int) ≥ ((tp : Nat) : Int) := toI_ge c_5 (nI_toInt (by omega)) (nI_toInt (by omega))
    refine lv_iconst (v := (-1)) hx hb dX12_byteAt_21 (by decide) ?_
    refine W.widen (k := 0) (n := 0) (by decide +kernel) (by decide +kernel) ?_
    exact W.iret (v := (-1)) hx hb hr (fun t9_ ht hW => ⟨⟨(-1), (), rfl, by (try dsimp only); unfold bA; rw [if_neg (by omega)], by rw [ht]; exact hP, hD⟩, hS.F ht⟩) hS.2.2 dX12_byteAt_22
  · have t_5 : ¬ ((kn : Nat) : Int) ≥ ((tp : Nat) : Int) := toI_nge c_5 (nI_toInt (by omega)) (nI_toInt (by omega))
    refine lv_aload_n hx hb dX12_byteAt_8 rfl (lv_at hl 0 rfl) ?_
    refine va_get (D := (dC, dI)) (ci := 12) (v := .ref (a 9)) (C := RX12) (T := TX12) (N := 163) (fs := fM (vS a vi vj)) hx hb hts iwsRX12_byteAt_in12 hown hK hP 0 rfl rfl 15 (by decide) (hts (.fieldLink RX12 39 "OptimaWorksModel" "tape" "[B") (by decide +kernel)) (fun _ h9 => h9) rfl dX12_byteAt_9 ?_
    refine lv_iload_n hx hb dX12_byteAt_12 rfl (lv_at hl 1 rfl) ?_
    refine va_bald (cA := k 9) (n := 4000) (f := (vF 9)) hx hb hK hP 10 9 (WR_get 9 (by decide)) (TR_get 9 (by decide)) (vp_in_nI (show kn < 4000 by omega) (by omega)) dX12_byteAt_13 ?_
    refine lv_topi (fun y2 hy2 => ?_)
    obtain rfl : ((vF 9) kn) = y2 := (hy2.trans (by rw [nI_clamp (by omega)])).symm
    refine lv_sipush (v := 255) hx hb dX12_byteAt_14 (by decide) ?_
    refine lv_iand hx hb dX12_byteAt_17 ?_
    refine lv_goto (tgt := 22) hx hb dX12_byteAt_18 (by decide) ?_
    refine W.widen (k := 0) (n := 0) (by decide +kernel) (by decide +kernel) ?_
    exact W.iret (v := (((vF 9) kn) &&& 255)) hx hb hr (fun t9_ ht hW => ⟨⟨(((vF 9) kn) &&& 255), (), rfl, by (try dsimp only); unfold bA; rw [if_pos (by omega)], by rw [ht]; exact hP, hD⟩, hS.F ht⟩) hS.2.2 dX12_byteAt_22
theorem dX12_isLetter_0 : decode cX12_isLetter 0 = .ok (.iload_n 0, 1) := dk_26 (by decide +kernel)
theorem dX12_isLetter_1 : decode cX12_isLetter 1 = .ok (.bipush 65, 2) := dk_16 (by decide +kernel)
theorem dX12_isLetter_3 : decode cX12_isLetter 3 = .ok (.if_icmp .lt 9, 3) := dk_161 (by decide +kernel)
theorem dX12_isLetter_6 : decode cX12_isLetter 6 = .ok (.iload_n 0, 1) := dk_26 (by decide +kernel)
theorem dX12_isLetter_7 : decode cX12_isLetter 7 = .ok (.bipush 90, 2) := dk_16 (by decide +kernel)
theorem dX12_isLetter_9 : decode cX12_isLetter 9 = .ok (.if_icmp .le 15, 3) := dk_164 (by decide +kernel)
theorem dX12_isLetter_12 : decode cX12_isLetter 12 = .ok (.iload_n 0, 1) := dk_26 (by decide +kernel)
theorem dX12_isLetter_13 : decode cX12_isLetter 13 = .ok (.bipush 97, 2) := dk_16 (by decide +kernel)
theorem dX12_isLetter_15 : decode cX12_isLetter 15 = .ok (.if_icmp .lt 13, 3) := dk_161 (by decide +kernel)
theorem dX12_isLetter_18 : decode cX12_isLetter 18 = .ok (.iload_n 0, 1) := dk_26 (by decide +kernel)
theorem dX12_isLetter_19 : decode cX12_isLetter 19 = .ok (.bipush 122, 2) := dk_16 (by decide +kernel)
theorem dX12_isLetter_21 : decode cX12_isLetter 21 = .ok (.if_icmp .gt 7, 3) := dk_163 (by decide +kernel)
theorem dX12_isLetter_24 : decode cX12_isLetter 24 = .ok (.iconst 1, 1) := dk_4 (by decide +kernel)
theorem dX12_isLetter_25 : decode cX12_isLetter 25 = .ok (.goto 4, 3) := dk_167 (by decide +kernel)
theorem dX12_isLetter_28 : decode cX12_isLetter 28 = .ok (.iconst 0, 1) := dk_3 (by decide +kernel)
theorem dX12_isLetter_29 : decode cX12_isLetter 29 = .ok (.ireturn, 1) := dk_172 (by decide +kernel)
def wsRX12_isLetter : List Cond := .code yX12_isLetter cX12_isLetter 1 (some .boolean) :: ([])
theorem gdwsRX12_isLetter : wsRX12_isLetter.all goodWord = true := gdC rfl (by decide +kernel : ([] : List Cond).all goodWord = true)
set_option maxHeartbeats 4000000 in
set_option maxRecDepth 100000 in
/-- isLetter(c) -/
theorem r_X12_isLetter (l : Launch) (dC : Nat → ClassId) (dI : Nat → Nat → Nat) (cv : Int32) (sz : Nat) : Met l yX12_isLetter wsRX12_isLetter ({ frames := 0, cells := 0, slots := 0, locals := 0 }) (va_Pc [.int cv] (fun U => U.heap.size = sz ∧ va_P (dC, dI) vwCl [] U.heap ∧ va_K (dC, dI) vwCl [] U ∧ va_D (fun _ => True) [])) (va_Qi (fun (r : Int32) (u : Unit) => (r = 1 ∧ ((65 ≤ (cv).toInt ∧ (cv).toInt ≤ 90) ∨ (97 ≤ (cv).toInt ∧ (cv).toInt ≤ 122))) ∨ (r = 0 ∧ (¬ ((65 ≤ (cv).toInt ∧ (cv).toInt ≤ 90) ∨ (97 ≤ (cv).toInt ∧ (cv).toInt ≤ 122))))) (fun (u : Unit) t => True) (va_A [] sz)) 0 0 (va_A [] sz) := by
  refine Met.ofW (cc := cX12_isLetter) (maxL := 1) (ret := (some .boolean)) (by decide) rfl ?_
  intro p e s m args below meth c s₁ B hml hv
  obtain ⟨rfl, hsz, hP, hK, hD0⟩ := hv
  have hx := B.exec
  have hb := B.bytes
  have hr := B.returns
  have hts := atoms_spec (ws := wsRX12_isLetter) B.pre
  have hown : s.vm.findClass RX12 = some m.cls := findClass_of_methodNamed B.named
  have hlocks := B.notSynchronized
  subst hsz
  have hD := hD0.self (sz := s.heap.size)
  generalize hAe : va_A [] s.heap.size = A at hD ⊢
  have hA : ∀ q : Nat, s.heap.size ≤ q → A q := fun q h => by rw [← hAe]; exact Or.inr h
  have hS : va_S A s.heap s.heap [] := va_S.rf
  have hl := lv_entry ([.int cv]) (n := 1) (Nat.le_of_ble_eq_true rfl)
  rw [lg_entry_eq]
  generalize (lg_sl ([.int cv]) ++ List.replicate (1 - (lg_sl ([.int cv])).length) Slot.unset).toArray = ls at hl ⊢
  have hl : lv_has ls 1 [(0, .int cv)] := hl
  refine lv_iload_n hx hb dX12_isLetter_0 rfl (lv_at hl 0 rfl) ?_
  refine lv_bipush (v := 65) hx hb dX12_isLetter_1 (by decide) ?_
  refine lv_icmp_lt (tgt := 12) hx hb dX12_isLetter_3 (by decide) (fun c_3 => ?_) (fun c_3 => ?_)
  · have t_3 : (cv).toInt < 65 := toI_lt c_3 rfl (by decide)
    refine lv_iload_n hx hb dX12_isLetter_12 rfl (lv_at hl 0 rfl) ?_
    refine lv_bipush (v := 97) hx hb dX12_isLetter_13 (by decide) ?_
    refine lv_icmp_lt (tgt := 28) hx hb dX12_isLetter_15 (by decide) (fun c_15 => ?_) (fun c_15 => ?_)
    · have t_15 : (cv).toInt < 97 := toI_lt c_15 rfl (by decide)
      refine lv_iconst (v := 0) hx hb dX12_isLetter_28 (by decide) ?_
      refine W.widen (k := 0) (n := 0) (by decide +kernel) (by decide +kernel) ?_
      exact W.zret (v := 0) hx hb hr rfl (fun t9_ ht hW => ⟨⟨0, (), rfl, by (try dsimp only); right; exact ⟨rfl, by omega⟩, trivial⟩, hS.F ht⟩) hS.2.2 dX12_isLetter_29
    · have t_15 : ¬ (cv).toInt < 97 := toI_nlt c_15 rfl (by decide)
      refine lv_iload_n hx hb dX12_isLetter_18 rfl (lv_at hl 0 rfl) ?_
      refine lv_bipush (v := 122) hx hb dX12_isLetter_19 (by decide) ?_
      refine lv_icmp_gt (tgt := 28) hx hb dX12_isLetter_21 (by decide) (fun c_21 => ?_) (fun c_21 => ?_)
      · have t_21 : (cv).toInt > 122 := toI_gt c_21 rfl (by decide)
        refine lv_iconst (v := 0) hx hb dX12_isLetter_28 (by decide) ?_
        refine W.widen (k := 0) (n := 0) (by decide +kernel) (by decide +kernel) ?_
        exact W.zret (v := 0) hx hb hr rfl (fun t9_ ht hW => ⟨⟨0, (), rfl, by (try dsimp only); right; exact ⟨rfl, by omega⟩, trivial⟩, hS.F ht⟩) hS.2.2 dX12_isLetter_29
      · have t_21 : ¬ (cv).toInt > 122 := toI_ngt c_21 rfl (by decide)
        refine lv_iconst (v := 1) hx hb dX12_isLetter_24 (by decide) ?_
        refine lv_goto (tgt := 29) hx hb dX12_isLetter_25 (by decide) ?_
        refine W.widen (k := 0) (n := 0) (by decide +kernel) (by decide +kernel) ?_
        exact W.zret (v := 1) hx hb hr rfl (fun t9_ ht hW => ⟨⟨1, (), rfl, by (try dsimp only); left; exact ⟨rfl, by omega⟩, trivial⟩, hS.F ht⟩) hS.2.2 dX12_isLetter_29
  · have t_3 : ¬ (cv).toInt < 65 := toI_nlt c_3 rfl (by decide)
    refine lv_iload_n hx hb dX12_isLetter_6 rfl (lv_at hl 0 rfl) ?_
    refine lv_bipush (v := 90) hx hb dX12_isLetter_7 (by decide) ?_
    refine lv_icmp_le (tgt := 24) hx hb dX12_isLetter_9 (by decide) (fun c_9 => ?_) (fun c_9 => ?_)
    · have t_9 : (cv).toInt ≤ 90 := toI_le c_9 rfl (by decide)
      refine lv_iconst (v := 1) hx hb dX12_isLetter_24 (by decide) ?_
      refine lv_goto (tgt := 29) hx hb dX12_isLetter_25 (by decide) ?_
      refine W.widen (k := 0) (n := 0) (by decide +kernel) (by decide +kernel) ?_
      exact W.zret (v := 1) hx hb hr rfl (fun t9_ ht hW => ⟨⟨1, (), rfl, by (try dsimp only); left; exact ⟨rfl, by omega⟩, trivial⟩, hS.F ht⟩) hS.2.2 dX12_isLetter_29
    · have t_9 : ¬ (cv).toInt ≤ 90 := toI_nle c_9 rfl (by decide)
      refine lv_iload_n hx hb dX12_isLetter_12 rfl (lv_at hl 0 rfl) ?_
      refine lv_bipush (v := 97) hx hb dX12_isLetter_13 (by decide) ?_
      refine lv_icmp_lt (tgt := 28) hx hb dX12_isLetter_15 (by decide) (fun c_15 => ?_) (fun c_15 => ?_)
      · have t_15 : (cv).toInt < 97 := toI_lt c_15 rfl (by decide)
        refine lv_iconst (v := 0) hx hb dX12_isLetter_28 (by decide) ?_
        refine W.widen (k := 0) (n := 0) (by decide +kernel) (by decide +kernel) ?_
        exact W.zret (v := 0) hx hb hr rfl (fun t9_ ht hW => ⟨⟨0, (), rfl, by (try dsimp only); right; exact ⟨rfl, by omega⟩, trivial⟩, hS.F ht⟩) hS.2.2 dX12_isLetter_29
      · have t_15 : ¬ (cv).toInt < 97 := toI_nlt c_15 rfl (by decide)
        refine lv_iload_n hx hb dX12_isLetter_18 rfl (lv_at hl 0 rfl) ?_
        refine lv_bipush (v := 122) hx hb dX12_isLetter_19 (by decide) ?_
        refine lv_icmp_gt (tgt := 28) hx hb dX12_isLetter_21 (by decide) (fun c_21 => ?_) (fun c_21 => ?_)
        · have t_21 : (cv).toInt > 122 := toI_gt c_21 rfl (by decide)
          refine lv_iconst (v := 0) hx hb dX12_isLetter_28 (by decide) ?_
          refine W.widen (k := 0) (n := 0) (by decide +kernel) (by decide +kernel) ?_
          exact W.zret (v := 0) hx hb hr rfl (fun t9_ ht hW => ⟨⟨0, (), rfl, by (try dsimp only); right; exact ⟨rfl, by omega⟩, trivial⟩, hS.F ht⟩) hS.2.2 dX12_isLetter_29
        · have t_21 : ¬ (cv).toInt > 122 := toI_ngt c_21 rfl (by decide)
          refine lv_iconst (v := 1) hx hb dX12_isLetter_24 (by decide) ?_
          refine lv_goto (tgt := 29) hx hb dX12_isLetter_25 (by decide) ?_
          refine W.widen (k := 0) (n := 0) (by decide +kernel) (by decide +kernel) ?_
          exact W.zret (v := 1) hx hb hr rfl (fun t9_ ht hW => ⟨⟨1, (), rfl, by (try dsimp only); left; exact ⟨rfl, by omega⟩, trivial⟩, hS.F ht⟩) hS.2.2 dX12_isLetter_29
theorem dX12_isDigit_0 : decode cX12_isDigit 0 = .ok (.iload_n 0, 1) := dk_26 (by decide +kernel)
theorem dX12_isDigit_1 : decode cX12_isDigit 1 = .ok (.bipush 48, 2) := dk_16 (by decide +kernel)
theorem dX12_isDigit_3 : decode cX12_isDigit 3 = .ok (.if_icmp .lt 13, 3) := dk_161 (by decide +kernel)
theorem dX12_isDigit_6 : decode cX12_isDigit 6 = .ok (.iload_n 0, 1) := dk_26 (by decide +kernel)
theorem dX12_isDigit_7 : decode cX12_isDigit 7 = .ok (.bipush 57, 2) := dk_16 (by decide +kernel)
theorem dX12_isDigit_9 : decode cX12_isDigit 9 = .ok (.if_icmp .gt 7, 3) := dk_163 (by decide +kernel)
theorem dX12_isDigit_12 : decode cX12_isDigit 12 = .ok (.iconst 1, 1) := dk_4 (by decide +kernel)
theorem dX12_isDigit_13 : decode cX12_isDigit 13 = .ok (.goto 4, 3) := dk_167 (by decide +kernel)
theorem dX12_isDigit_16 : decode cX12_isDigit 16 = .ok (.iconst 0, 1) := dk_3 (by decide +kernel)
theorem dX12_isDigit_17 : decode cX12_isDigit 17 = .ok (.ireturn, 1) := dk_172 (by decide +kernel)
def wsRX12_isDigit : List Cond := .code yX12_isDigit cX12_isDigit 1 (some .boolean) :: ([])
theorem gdwsRX12_isDigit : wsRX12_isDigit.all goodWord = true := gdC rfl (by decide +kernel : ([] : List Cond).all goodWord = true)
set_option maxHeartbeats 4000000 in
set_option maxRecDepth 100000 in
/-- isDigit(c) -/
theorem r_X12_isDigit (l : Launch) (dC : Nat → ClassId) (dI : Nat → Nat → Nat) (cv : Int32) (sz : Nat) : Met l yX12_isDigit wsRX12_isDigit ({ frames := 0, cells := 0, slots := 0, locals := 0 }) (va_Pc [.int cv] (fun U => U.heap.size = sz ∧ va_P (dC, dI) vwCl [] U.heap ∧ va_K (dC, dI) vwCl [] U ∧ va_D (fun _ => True) [])) (va_Qi (fun (r : Int32) (u : Unit) => (r = 1 ∧ (48 ≤ (cv).toInt ∧ (cv).toInt ≤ 57)) ∨ (r = 0 ∧ (¬ (48 ≤ (cv).toInt ∧ (cv).toInt ≤ 57)))) (fun (u : Unit) t => True) (va_A [] sz)) 0 0 (va_A [] sz) := by
  refine Met.ofW (cc := cX12_isDigit) (maxL := 1) (ret := (some .boolean)) (by decide) rfl ?_
  intro p e s m args below meth c s₁ B hml hv
  obtain ⟨rfl, hsz, hP, hK, hD0⟩ := hv
  have hx := B.exec
  have hb := B.bytes
  have hr := B.returns
  have hts := atoms_spec (ws := wsRX12_isDigit) B.pre
  have hown : s.vm.findClass RX12 = some m.cls := findClass_of_methodNamed B.named
  have hlocks := B.notSynchronized
  subst hsz
  have hD := hD0.self (sz := s.heap.size)
  generalize hAe : va_A [] s.heap.size = A at hD ⊢
  have hA : ∀ q : Nat, s.heap.size ≤ q → A q := fun q h => by rw [← hAe]; exact Or.inr h
  have hS : va_S A s.heap s.heap [] := va_S.rf
  have hl := lv_entry ([.int cv]) (n := 1) (Nat.le_of_ble_eq_true rfl)
  rw [lg_entry_eq]
  generalize (lg_sl ([.int cv]) ++ List.replicate (1 - (lg_sl ([.int cv])).length) Slot.unset).toArray = ls at hl ⊢
  have hl : lv_has ls 1 [(0, .int cv)] := hl
  refine lv_iload_n hx hb dX12_isDigit_0 rfl (lv_at hl 0 rfl) ?_
  refine lv_bipush (v := 48) hx hb dX12_isDigit_1 (by decide) ?_
  refine lv_icmp_lt (tgt := 16) hx hb dX12_isDigit_3 (by decide) (fun c_3 => ?_) (fun c_3 => ?_)
  · have t_3 : (cv).toInt < 48 := toI_lt c_3 rfl (by decide)
    refine lv_iconst (v := 0) hx hb dX12_isDigit_16 (by decide) ?_
    refine W.widen (k := 0) (n := 0) (by decide +kernel) (by decide +kernel) ?_
    exact W.zret (v := 0) hx hb hr rfl (fun t9_ ht hW => ⟨⟨0, (), rfl, by (try dsimp only); right; exact ⟨rfl, by omega⟩, trivial⟩, hS.F ht⟩) hS.2.2 dX12_isDigit_17
  · have t_3 : ¬ (cv).toInt < 48 := toI_nlt c_3 rfl (by decide)
    refine lv_iload_n hx hb dX12_isDigit_6 rfl (lv_at hl 0 rfl) ?_
    refine lv_bipush (v := 57) hx hb dX12_isDigit_7 (by decide) ?_
    refine lv_icmp_gt (tgt := 16) hx hb dX12_isDigit_9 (by decide) (fun c_9 => ?_) (fun c_9 => ?_)
    · have t_9 : (cv).toInt > 57 := toI_gt c_9 rfl (by decide)
      refine lv_iconst (v := 0) hx hb dX12_isDigit_16 (by decide) ?_
      refine W.widen (k := 0) (n := 0) (by decide +kernel) (by decide +kernel) ?_
      exact W.zret (v := 0) hx hb hr rfl (fun t9_ ht hW => ⟨⟨0, (), rfl, by (try dsimp only); right; exact ⟨rfl, by omega⟩, trivial⟩, hS.F ht⟩) hS.2.2 dX12_isDigit_17
    · have t_9 : ¬ (cv).toInt > 57 := toI_ngt c_9 rfl (by decide)
      refine lv_iconst (v := 1) hx hb dX12_isDigit_12 (by decide) ?_
      refine lv_goto (tgt := 17) hx hb dX12_isDigit_13 (by decide) ?_
      refine W.widen (k := 0) (n := 0) (by decide +kernel) (by decide +kernel) ?_
      exact W.zret (v := 1) hx hb hr rfl (fun t9_ ht hW => ⟨⟨1, (), rfl, by (try dsimp only); left; exact ⟨rfl, by omega⟩, trivial⟩, hS.F ht⟩) hS.2.2 dX12_isDigit_17
theorem dX12_faultAt_0 : decode cX12_faultAt 0 = .ok (.aload_n 0, 1) := dk_42 (by decide +kernel)
theorem dX12_faultAt_1 : decode cX12_faultAt 1 = .ok (.getfield 515, 3) := dk_180 (by decide +kernel)
theorem dX12_faultAt_4 : decode cX12_faultAt 4 = .ok (.ifCond .le 4, 3) := dk_158 (by decide +kernel)
theorem dX12_faultAt_7 : decode cX12_faultAt 7 = .ok (.return_, 1) := dk_177 (by decide +kernel)
theorem dX12_faultAt_8 : decode cX12_faultAt 8 = .ok (.aload_n 0, 1) := dk_42 (by decide +kernel)
theorem dX12_faultAt_9 : decode cX12_faultAt 9 = .ok (.iload_n 1, 1) := dk_27 (by decide +kernel)
theorem dX12_faultAt_10 : decode cX12_faultAt 10 = .ok (.putfield 515, 3) := dk_181 (by decide +kernel)
theorem dX12_faultAt_13 : decode cX12_faultAt 13 = .ok (.aload_n 0, 1) := dk_42 (by decide +kernel)
theorem dX12_faultAt_14 : decode cX12_faultAt 14 = .ok (.iload_n 2, 1) := dk_28 (by decide +kernel)
theorem dX12_faultAt_15 : decode cX12_faultAt 15 = .ok (.putfield 43, 3) := dk_181 (by decide +kernel)
theorem dX12_faultAt_18 : decode cX12_faultAt 18 = .ok (.return_, 1) := dk_177 (by decide +kernel)
def wsRX12_faultAt : List Cond := .code yX12_faultAt cX12_faultAt 3 none :: ([.fieldLink RX12 515 "OptimaWorksModel" "stop" "I", .fieldLink RX12 43 "OptimaWorksModel" "place" "I"] ++ wsX120)
theorem iwsRX12_faultAt_in12 : ∀ w ∈ wsX120, w ∈ wsRX12_faultAt := fun _ h => List.mem_cons_of_mem _ (List.mem_append_right _ h)
theorem gdwsRX12_faultAt : wsRX12_faultAt.all goodWord = true := gdC rfl (gdA (by decide +kernel : ([.fieldLink RX12 515 "OptimaWorksModel" "stop" "I", .fieldLink RX12 43 "OptimaWorksModel" "place" "I"] : List Cond).all goodWord = true) gdwsX120)
theorem hm_r_X12_faultAt_0 : (.fieldLink RX12 515 "OptimaWorksModel" "stop" "I" : Cond) ∈ wsRX12_faultAt := by decide +kernel
set_option maxHeartbeats 4000000 in
set_option maxRecDepth 100000 in
/-- faultAt(n, p) -/
theorem r_X12_faultAt (l : Launch) (dC : Nat → ClassId) (dI : Nat → Nat → Nat) (a : Nat → Nat) (k : Nat → ClassId) (h0 : Nat) (vi : Nat → Int32) (vj : Nat → Int64) (vF : Nat → Nat → Int32) (vG : Nat → Nat → Int64) (nv : Int32) (pv : Int32) (hnv : 0 < (nv).toInt) (sz : Nat) : Met l yX12_faultAt wsRX12_faultAt ({ frames := 0, cells := 0, slots := 0, locals := 0 }) (va_Pc [.ref h0, .int nv, .int pv] (fun U => U.heap.size = sz ∧ va_P (dC, dI) vwCl (WR a k h0 vi vj vF vG) U.heap ∧ va_K (dC, dI) vwCl (tX12 k) U ∧ va_D (fun _ => True) (WR a k h0 vi vj vF vG))) (va_Qv (fun (u : (Int32) × (Int32)) => ((0 < (vi 21).toInt ∧ (u.1) = vi 21 ∧ (u.2) = vi 22) ∨ (¬ 0 < (vi 21).toInt ∧ (u.1) = nv ∧ (u.2) = pv)) ∧ (0 < ((u.1)).toInt)) (fun (u : (Int32) × (Int32)) t => va_P (dC, dI) vwCl (WR a k h0 (fT (fT vi 21 (u.1)) 22 (u.2)) vj vF vG) t.heap ∧ va_D (va_A (WR a k h0 vi vj vF vG) sz) (WR a k h0 (fT (fT vi 21 (u.1)) 22 (u.2)) vj vF vG)) (va_A (WR a k h0 vi vj vF vG) sz)) 0 0 (va_A (WR a k h0 vi vj vF vG) sz) := by
  refine Met.ofW (cc := cX12_faultAt) (maxL := 3) (ret := none) (by decide) rfl ?_
  intro p e s m args below meth c s₁ B hml hv
  obtain ⟨rfl, hsz, hP, hK, hD0⟩ := hv
  have hx := B.exec
  have hb := B.bytes
  have hr := B.returns
  have hts := atoms_spec (ws := wsRX12_faultAt) B.pre
  have hown : s.vm.findClass RX12 = some m.cls := findClass_of_methodNamed B.named
  have hlocks := B.notSynchronized
  subst hsz
  have hD := hD0.self (sz := s.heap.size)
  generalize hAe : va_A (WR a k h0 vi vj vF vG) s.heap.size = A at hD ⊢
  have hA : ∀ q : Nat, s.heap.size ≤ q → A q := fun q h => by rw [← hAe]; exact Or.inr h
  have hS : va_S A s.heap s.heap [] := va_S.rf
  have hl := lv_entry ([.ref h0, .int nv, .int pv]) (n := 3) (Nat.le_of_ble_eq_true rfl)
  rw [lg_entry_eq]
  generalize (lg_sl ([.ref h0, .int nv, .int pv]) ++ List.replicate (3 - (lg_sl ([.ref h0, .int nv, .int pv])).length) Slot.unset).toArray = ls at hl ⊢
  have hl : lv_has ls 3 [(0, .ref h0), (1, .int nv), (2, .int pv)] := hl
  refine lv_aload_n hx hb dX12_faultAt_0 rfl (lv_at hl 0 rfl) ?_
  refine va_get (D := (dC, dI)) (ci := 12) (v := .int (vi 21)) (C := RX12) (T := TX12) (N := 163) (fs := fM (vS a vi vj)) hx hb hts iwsRX12_faultAt_in12 hown hK hP 0 rfl rfl 21 (by decide) (hts _ hm_r_X12_faultAt_0) (fun _ h9 => h9) rfl dX12_faultAt_1 ?_
  refine lv_if_le (tgt := 8) hx hb dX12_faultAt_4 (by decide) (fun c_4 => ?_) (fun c_4 => ?_)
  · have t_4 : ((vi 21)).toInt ≤ 0 := toI_le c_4 rfl (by decide)
    refine lv_aload_n hx hb dX12_faultAt_8 rfl (lv_at hl 0 rfl) ?_
    refine lv_iload_n hx hb dX12_faultAt_9 rfl (lv_at hl 1 rfl) ?_
    refine va_put (D := (dC, dI)) (ci := 12) (v := .int nv) (ty := .int) (C := RX12) (T := TX12) (N := 163) (fs := fM (vS a vi vj)) hx hb hts iwsRX12_faultAt_in12 tyX12 tyX12_ok nmX12 hown hK hP hD hS 0 rfl rfl 21 (by decide) (hts _ hm_r_X12_faultAt_0) (fun _ h9 => h9) rfl (by decide +kernel) rfl rfl (Nat.le_of_ble_eq_true rfl) dX12_faultAt_10 (fun H locs hP hD hS => ?_)
    have hP : va_P (dC, dI) vwCl (WR a k h0 (fT vi 21 nv) vj vF vG) H := fz_w (WR_i 21 _ rfl) hP
    have hD : va_D A (WR a k h0 (fT vi 21 nv) vj vF vG) := fz_wD (WR_i 21 _ rfl) hD
    refine lv_aload_n hx hb dX12_faultAt_13 rfl (lv_at hl 0 rfl) ?_
    refine lv_iload_n hx hb dX12_faultAt_14 rfl (lv_at hl 2 rfl) ?_
    refine va_put (D := (dC, dI)) (ci := 12) (v := .int pv) (ty := .int) (C := RX12) (T := TX12) (N := 163) (fs := fM (vS a (fT vi 21 nv) vj)) hx hb hts iwsRX12_faultAt_in12 tyX12 tyX12_ok nmX12 hown hK hP hD hS 0 rfl rfl 22 (by decide) (hts (.fieldLink RX12 43 "OptimaWorksModel" "place" "I") (by decide +kernel)) (fun _ h9 => h9) rfl (by decide +kernel) rfl rfl (Nat.le_of_ble_eq_true rfl) dX12_faultAt_15 (fun H locs hP hD hS => ?_)
    have hP : va_P (dC, dI) vwCl (WR a k h0 (fT (fT vi 21 nv) 22 pv) vj vF vG) H := fz_w (WR_i 22 _ rfl) hP
    have hD : va_D A (WR a k h0 (fT (fT vi 21 nv) 22 pv) vj vF vG) := fz_wD (WR_i 22 _ rfl) hD
    refine W.widen (k := 0) (n := 0) (by decide +kernel) (by decide +kernel) ?_
    exact W.vret hx hb hr (fun t9_ ht hW => ⟨⟨(nv, pv), rfl, by (try dsimp only); exact ⟨Or.inr ⟨by omega, rfl, rfl⟩, hnv⟩, by rw [ht]; exact hP, hD⟩, hS.F ht⟩) hS.2.2 dX12_faultAt_18
  · have t_4 : ¬ ((vi 21)).toInt ≤ 0 := toI_nle c_4 rfl (by decide)
    refine W.widen (k := 0) (n := 0) (by decide +kernel) (by decide +kernel) ?_
    have e9 : fT (fT vi 21 (vi 21)) 22 (vi 22) = vi := (fT_id _ _ (fT_ne _ _ (Nat.ne_of_beq_eq_false rfl))).trans (fT_id _ _ (rfl))
    have hP := wr_Pi e9 hP
    have hD := wr_Di e9 hD
    clear e9
    exact W.vret hx hb hr (fun t9_ ht hW => ⟨⟨((vi 21), (vi 22)), rfl, by (try dsimp only); exact ⟨Or.inl ⟨by omega, rfl, rfl⟩, by omega⟩, by rw [ht]; exact hP, hD⟩, hS.F ht⟩) hS.2.2 dX12_faultAt_7
theorem dX12_wrong_0 : decode cX12_wrong 0 = .ok (.aload_n 0, 1) := dk_42 (by decide +kernel)
theorem dX12_wrong_1 : decode cX12_wrong 1 = .ok (.aload_n 0, 1) := dk_42 (by decide +kernel)
theorem dX12_wrong_2 : decode cX12_wrong 2 = .ok (.getfield 494, 3) := dk_180 (by decide +kernel)
theorem dX12_wrong_5 : decode cX12_wrong 5 = .ok (.iconst 5, 1) := dk_8 (by decide +kernel)
theorem dX12_wrong_6 : decode cX12_wrong 6 = .ok (.if_icmp .ne 7, 3) := dk_160 (by decide +kernel)
theorem dX12_wrong_9 : decode cX12_wrong 9 = .ok (.iconst 2, 1) := dk_5 (by decide +kernel)
theorem dX12_wrong_10 : decode cX12_wrong 10 = .ok (.goto 4, 3) := dk_167 (by decide +kernel)
theorem dX12_wrong_13 : decode cX12_wrong 13 = .ok (.iconst 1, 1) := dk_4 (by decide +kernel)
theorem dX12_wrong_14 : decode cX12_wrong 14 = .ok (.aload_n 0, 1) := dk_42 (by decide +kernel)
theorem dX12_wrong_15 : decode cX12_wrong 15 = .ok (.getfield 488, 3) := dk_180 (by decide +kernel)
theorem dX12_wrong_18 : decode cX12_wrong 18 = .ok (.invokevirtual 518, 3) := dk_182 (by decide +kernel)
theorem dX12_wrong_21 : decode cX12_wrong 21 = .ok (.return_, 1) := dk_177 (by decide +kernel)
def wsRX12_wrong : List Cond := .code yX12_wrong cX12_wrong 1 none :: ([.fieldLink RX12 494 "OptimaWorksModel" "word" "I", .fieldLink RX12 488 "OptimaWorksModel" "from" "I"] ++ wsX120 ++ (wsV RX12 518 RX12 yX12_faultAt wsRX12_faultAt))
theorem iwsRX12_wrong_in12 : ∀ w ∈ wsX120, w ∈ wsRX12_wrong := fun _ h => List.mem_cons_of_mem _ (List.mem_append_left _ (List.mem_append_right _ h))
theorem gwsRX12_wrong_0 : GoodIn wsRX12_wrong (wsV RX12 518 RX12 yX12_faultAt wsRX12_faultAt) := goodIn_sub (fun _ h => List.mem_cons_of_mem _ (List.mem_append_right _ h)) (gdV (by decide +kernel) gdwsRX12_faultAt)
theorem gdwsRX12_wrong : wsRX12_wrong.all goodWord = true := gdC rfl (gdA (gdA (by decide +kernel : ([.fieldLink RX12 494 "OptimaWorksModel" "word" "I", .fieldLink RX12 488 "OptimaWorksModel" "from" "I"] : List Cond).all goodWord = true) gdwsX120) (gdV (by decide +kernel) gdwsRX12_faultAt))
theorem hm_r_X12_wrong_0 : (.fieldLink RX12 488 "OptimaWorksModel" "from" "I" : Cond) ∈ wsRX12_wrong := by decide +kernel
set_option maxHeartbeats 4000000 in
set_option maxRecDepth 100000 in
/-- wrong() -/
theorem r_X12_wrong (l : Launch) (dC : Nat → ClassId) (dI : Nat → Nat → Nat) (a : Nat → Nat) (k : Nat → ClassId) (h0 : Nat) (vi : Nat → Int32) (vj : Nat → Int64) (vF : Nat → Nat → Int32) (vG : Nat → Nat → Int64) (sz : Nat) : Met l yX12_wrong wsRX12_wrong ({ frames := 1, cells := 0, slots := 0, locals := 22 }) (va_Pc [.ref h0] (fun U => U.heap.size = sz ∧ va_P (dC, dI) vwCl (WR a k h0 vi vj vF vG) U.heap ∧ va_K (dC, dI) vwCl (tX12 k) U ∧ va_D (fun _ => True) (WR a k h0 vi vj vF vG))) (va_Qv (fun (u : (Int32) × (Int32)) => ((0 < (vi 21).toInt ∧ (u.1) = vi 21 ∧ (u.2) = vi 22) ∨ (¬ 0 < (vi 21).toInt ∧ ((u.1) = 1 ∨ (u.1) = 2) ∧ (u.2) = vi 19)) ∧ (0 < ((u.1)).toInt)) (fun (u : (Int32) × (Int32)) t => va_P (dC, dI) vwCl (WR a k h0 (fT (fT vi 21 (u.1)) 22 (u.2)) vj vF vG) t.heap ∧ va_D (va_A (WR a k h0 vi vj vF vG) sz) (WR a k h0 (fT (fT vi 21 (u.1)) 22 (u.2)) vj vF vG)) (va_A (WR a k h0 vi vj vF vG) sz)) 0 0 (va_A (WR a k h0 vi vj vF vG) sz) := by
  refine Met.ofW (cc := cX12_wrong) (maxL := 1) (ret := none) (by decide) rfl ?_
  intro p e s m args below meth c s₁ B hml hv
  obtain ⟨rfl, hsz, hP, hK, hD0⟩ := hv
  have hx := B.exec
  have hb := B.bytes
  have hr := B.returns
  have hts := atoms_spec (ws := wsRX12_wrong) B.pre
  have hown : s.vm.findClass RX12 = some m.cls := findClass_of_methodNamed B.named
  have hlocks := B.notSynchronized
  subst hsz
  have hD := hD0.self (sz := s.heap.size)
  generalize hAe : va_A (WR a k h0 vi vj vF vG) s.heap.size = A at hD ⊢
  have hA : ∀ q : Nat, s.heap.size ≤ q → A q := fun q h => by rw [← hAe]; exact Or.inr h
  have hS : va_S A s.heap s.heap [] := va_S.rf
  have hl := lv_entry ([.ref h0]) (n := 1) (Nat.le_of_ble_eq_true rfl)
  rw [lg_entry_eq]
  generalize (lg_sl ([.ref h0]) ++ List.replicate (1 - (lg_sl ([.ref h0])).length) Slot.unset).toArray = ls at hl ⊢
  have hl : lv_has ls 1 [(0, .ref h0)] := hl
  refine lv_aload_n hx hb dX12_wrong_0 rfl (lv_at hl 0 rfl) ?_
  refine lv_aload_n hx hb dX12_wrong_1 rfl (lv_at hl 0 rfl) ?_
  refine va_get (D := (dC, dI)) (ci := 12) (v := .int (vi 18)) (C := RX12) (T := TX12) (N := 163) (fs := fM (vS a vi vj)) hx hb hts iwsRX12_wrong_in12 hown hK hP 0 rfl rfl 18 (by decide) (hts (.fieldLink RX12 494 "OptimaWorksModel" "word" "I") (by decide +kernel)) (fun _ h9 => h9) rfl dX12_wrong_2 ?_
  refine lv_iconst (v := 5) hx hb dX12_wrong_5 (by decide) ?_
  refine lv_icmp_ne (tgt := 13) hx hb dX12_wrong_6 (by decide) (fun c_6 => ?_) (fun c_6 => ?_)
  · have t_6 : ((vi 18)).toInt ≠ 5 := toI_ne c_6 rfl (by decide)
    refine lv_iconst (v := 1) hx hb dX12_wrong_13 (by decide) ?_
    refine lv_aload_n hx hb dX12_wrong_14 rfl (lv_at hl 0 rfl) ?_
    refine va_get (D := (dC, dI)) (ci := 12) (v := .int (vi 19)) (C := RX12) (T := TX12) (N := 163) (fs := fM (vS a vi vj)) hx hb hts iwsRX12_wrong_in12 hown hK hP 0 rfl rfl 19 (by decide) (hts _ hm_r_X12_wrong_0) (fun _ h9 => h9) rfl dX12_wrong_15 ?_
    have hFc := allFree hD hS hA
    refine va_callv (va_runV (As := [.int 1, .int (vi 19)]) (rest := []) ⟨hx, hb, hml, hown, hts⟩ (r_X12_faultAt l dC dI a k h0 vi vj vF vG 1 (vi 19) (by first | with_reducible assumption | decide | omega | rfl | assumption) s.heap.size) (cwV 2 hts gwsRX12_wrong_0 rfl rfl rfl hd_yX12_faultAt_RX12 (by decide +kernel)) (fz_pre (va_recv hK hP (ci := 12) (q0 := 0) rfl rfl) hP hK hD) rfl rfl hl.1 rfl (lv_room (Nat.le_of_ble_eq_true rfl)) dX12_wrong_18 (by decide +kernel)) hS (fun q _ h => hFc q h) hFc (fun u t9_ H locs ht hvm hw9 hB9 hz1 hk1 hS => ?_)
    revert u hw9 hB9
    refine fz_p2 ?_
    intro s218 p218 hw9 hB9
    try dsimp only at hw9 hB9
    have hP : va_P (dC, dI) vwCl (WR a k h0 (fT (fT vi 21 s218) 22 p218) vj vF vG) H := fz_P ht hB9.1
    have hD := fz_sd hP (hB9.2.weaken (fun _ q _ h => hFc q.1 h)) rfl
    revert hw9
    refine fz_a2 ?_
    intro f18_0 f18_1
    have f18_0 : (0 < (vi 21).toInt ∧ s218 = (vi 21) ∧ p218 = (vi 22)) ∨ (¬ 0 < (vi 21).toInt ∧ s218 = 1 ∧ p218 = (vi 19)) := f18_0
    refine W.widen (k := 0) (n := 0) (by decide +kernel) (by decide +kernel) ?_
    exact W.vret hx hb hr (fun t9_ ht hW => ⟨⟨(s218, p218), rfl, by (try dsimp only); exact ⟨by rcases f18_0 with h9 | ⟨h9, h8, h7⟩; (exact Or.inl h9); (exact Or.inr ⟨h9, Or.inl h8, h7⟩), f18_1⟩, by rw [ht]; exact hP, hD⟩, hS.F ht⟩) hS.2.2 dX12_wrong_21
  · have t_6 : ((vi 18)).toInt = 5 := toI_nne c_6 rfl (by decide)
    refine lv_iconst (v := 2) hx hb dX12_wrong_9 (by decide) ?_
    refine lv_goto (tgt := 14) hx hb dX12_wrong_10 (by decide) ?_
    refine lv_aload_n hx hb dX12_wrong_14 rfl (lv_at hl 0 rfl) ?_
    refine va_get (D := (dC, dI)) (ci := 12) (v := .int (vi 19)) (C := RX12) (T := TX12) (N := 163) (fs := fM (vS a vi vj)) hx hb hts iwsRX12_wrong_in12 hown hK hP 0 rfl rfl 19 (by decide) (hts _ hm_r_X12_wrong_0) (fun _ h9 => h9) rfl dX12_wrong_15 ?_
    have hFc := allFree hD hS hA
    refine va_callv (va_runV (As := [.int 2, .int (vi 19)]) (rest := []) ⟨hx, hb, hml, hown, hts⟩ (r_X12_faultAt l dC dI a k h0 vi vj vF vG 2 (vi 19) (by first | with_reducible assumption | decide | omega | rfl | assumption) s.heap.size) (cwV 2 hts gwsRX12_wrong_0 rfl rfl rfl hd_yX12_faultAt_RX12 (by decide +kernel)) (fz_pre (va_recv hK hP (ci := 12) (q0 := 0) rfl rfl) hP hK hD) rfl rfl hl.1 rfl (lv_room (Nat.le_of_ble_eq_true rfl)) dX12_wrong_18 (by decide +kernel)) hS (fun q _ h => hFc q h) hFc (fun u t9_ H locs ht hvm hw9 hB9 hz1 hk1 hS => ?_)
    revert u hw9 hB9
    refine fz_p2 ?_
    intro s218_1 p218_1 hw9 hB9
    try dsimp only at hw9 hB9
    have hP : va_P (dC, dI) vwCl (WR a k h0 (fT (fT vi 21 s218_1) 22 p218_1) vj vF vG) H := fz_P ht hB9.1
    have hD := fz_sd hP (hB9.2.weaken (fun _ q _ h => hFc q.1 h)) rfl
    revert hw9
    refine fz_a2 ?_
    intro f18_1_0 f18_1_1
    have f18_1_0 : (0 < (vi 21).toInt ∧ s218_1 = (vi 21) ∧ p218_1 = (vi 22)) ∨ (¬ 0 < (vi 21).toInt ∧ s218_1 = 2 ∧ p218_1 = (vi 19)) := f18_1_0
    refine W.widen (k := 0) (n := 0) (by decide +kernel) (by decide +kernel) ?_
    exact W.vret hx hb hr (fun t9_ ht hW => ⟨⟨(s218_1, p218_1), rfl, by (try dsimp only); exact ⟨by rcases f18_1_0 with h9 | ⟨h9, h8, h7⟩; (exact Or.inl h9); (exact Or.inr ⟨h9, Or.inr h8, h7⟩), f18_1_1⟩, by rw [ht]; exact hP, hD⟩, hS.F ht⟩) hS.2.2 dX12_wrong_21
theorem dX12_isSign_0 : decode cX12_isSign 0 = .ok (.aload_n 0, 1) := dk_42 (by decide +kernel)
theorem dX12_isSign_1 : decode cX12_isSign 1 = .ok (.getfield 494, 3) := dk_180 (by decide +kernel)
theorem dX12_isSign_4 : decode cX12_isSign 4 = .ok (.iconst 4, 1) := dk_7 (by decide +kernel)
theorem dX12_isSign_5 : decode cX12_isSign 5 = .ok (.if_icmp .ne 15, 3) := dk_160 (by decide +kernel)
theorem dX12_isSign_8 : decode cX12_isSign 8 = .ok (.aload_n 0, 1) := dk_42 (by decide +kernel)
theorem dX12_isSign_9 : decode cX12_isSign 9 = .ok (.getfield 491, 3) := dk_180 (by decide +kernel)
theorem dX12_isSign_12 : decode cX12_isSign 12 = .ok (.iload_n 1, 1) := dk_27 (by decide +kernel)
theorem dX12_isSign_13 : decode cX12_isSign 13 = .ok (.if_icmp .ne 7, 3) := dk_160 (by decide +kernel)
theorem dX12_isSign_16 : decode cX12_isSign 16 = .ok (.iconst 1, 1) := dk_4 (by decide +kernel)
theorem dX12_isSign_17 : decode cX12_isSign 17 = .ok (.goto 4, 3) := dk_167 (by decide +kernel)
theorem dX12_isSign_20 : decode cX12_isSign 20 = .ok (.iconst 0, 1) := dk_3 (by decide +kernel)
theorem dX12_isSign_21 : decode cX12_isSign 21 = .ok (.ireturn, 1) := dk_172 (by decide +kernel)
def wsRX12_isSign : List Cond := .code yX12_isSign cX12_isSign 2 (some .boolean) :: ([.fieldLink RX12 494 "OptimaWorksModel" "word" "I", .fieldLink RX12 491 "OptimaWorksModel" "sign0" "I"] ++ wsX120)
theorem iwsRX12_isSign_in12 : ∀ w ∈ wsX120, w ∈ wsRX12_isSign := fun _ h => List.mem_cons_of_mem _ (List.mem_append_right _ h)
theorem gdwsRX12_isSign : wsRX12_isSign.all goodWord = true := gdC rfl (gdA (by decide +kernel : ([.fieldLink RX12 494 "OptimaWorksModel" "word" "I", .fieldLink RX12 491 "OptimaWorksModel" "sign0" "I"] : List Cond).all goodWord = true) gdwsX120)
set_option maxHeartbeats 4000000 in
set_option maxRecDepth 100000 in
/-- isSign(c) -/
theorem r_X12_isSign (l : Launch) (dC : Nat → ClassId) (dI : Nat → Nat → Nat) (a : Nat → Nat) (k : Nat → ClassId) (h0 : Nat) (vi : Nat → Int32) (vj : Nat → Int64) (vF : Nat → Nat → Int32) (vG : Nat → Nat → Int64) (cv : Int32) (sz : Nat) : Met l yX12_isSign wsRX12_isSign ({ frames := 0, cells := 0, slots := 0, locals := 0 }) (va_Pc [.ref h0, .int cv] (fun U => U.heap.size = sz ∧ va_P (dC, dI) vwCl (WR a k h0 vi vj vF vG) U.heap ∧ va_K (dC, dI) vwCl (tX12 k) U ∧ va_D (fun _ => True) (WR a k h0 vi vj vF vG))) (va_Qi (fun (r : Int32) (u : Unit) => (r = 1 ∧ ((vi 18).toInt = 4) ∧ (vi 20 = cv)) ∨ (r = 0 ∧ (¬ ((vi 18).toInt = 4 ∧ vi 20 = cv)))) (fun (u : Unit) t => va_P (dC, dI) vwCl (WR a k h0 vi vj vF vG) t.heap ∧ va_D (va_A (WR a k h0 vi vj vF vG) sz) (WR a k h0 vi vj vF vG)) (va_A (WR a k h0 vi vj vF vG) sz)) 0 0 (va_A (WR a k h0 vi vj vF vG) sz) := by
  refine Met.ofW (cc := cX12_isSign) (maxL := 2) (ret := (some .boolean)) (by decide) rfl ?_
  intro p e s m args below meth c s₁ B hml hv
  obtain ⟨rfl, hsz, hP, hK, hD0⟩ := hv
  have hx := B.exec
  have hb := B.bytes
  have hr := B.returns
  have hts := atoms_spec (ws := wsRX12_isSign) B.pre
  have hown : s.vm.findClass RX12 = some m.cls := findClass_of_methodNamed B.named
  have hlocks := B.notSynchronized
  subst hsz
  have hD := hD0.self (sz := s.heap.size)
  generalize hAe : va_A (WR a k h0 vi vj vF vG) s.heap.size = A at hD ⊢
  have hA : ∀ q : Nat, s.heap.size ≤ q → A q := fun q h => by rw [← hAe]; exact Or.inr h
  have hS : va_S A s.heap s.heap [] := va_S.rf
  have hl := lv_entry ([.ref h0, .int cv]) (n := 2) (Nat.le_of_ble_eq_true rfl)
  rw [lg_entry_eq]
  generalize (lg_sl ([.ref h0, .int cv]) ++ List.replicate (2 - (lg_sl ([.ref h0, .int cv])).length) Slot.unset).toArray = ls at hl ⊢
  have hl : lv_has ls 2 [(0, .ref h0), (1, .int cv)] := hl
  refine lv_aload_n hx hb dX12_isSign_0 rfl (lv_at hl 0 rfl) ?_
  refine va_get (D := (dC, dI)) (ci := 12) (v := .int (vi 18)) (C := RX12) (T := TX12) (N := 163) (fs := fM (vS a vi vj)) hx hb hts iwsRX12_isSign_in12 hown hK hP 0 rfl rfl 18 (by decide) (hts (.fieldLink RX12 494 "OptimaWorksModel" "word" "I") (by decide +kernel)) (fun _ h9 => h9) rfl dX12_isSign_1 ?_
  refine lv_iconst (v := 4) hx hb dX12_isSign_4 (by decide) ?_
  refine lv_icmp_ne (tgt := 20) hx hb dX12_isSign_5 (by decide) (fun c_5 => ?_) (fun c_5 => ?_)
  · have t_5 : ((vi 18)).toInt ≠ 4 := toI_ne c_5 rfl (by decide)
    refine lv_iconst (v := 0) hx hb dX12_isSign_20 (by decide) ?_
    refine W.widen (k := 0) (n := 0) (by decide +kernel) (by decide +kernel) ?_
    exact W.zret (v := 0) hx hb hr rfl (fun t9_ ht hW => ⟨⟨0, (), rfl, by (try dsimp only); exact Or.inr ⟨rfl, fun h9 => by have h8 := h9.1; omega⟩, by rw [ht]; exact hP, hD⟩, hS.F ht⟩) hS.2.2 dX12_isSign_21
  · have t_5 : ((vi 18)).toInt = 4 := toI_nne c_5 rfl (by decide)
    refine lv_aload_n hx hb dX12_isSign_8 rfl (lv_at hl 0 rfl) ?_
    refine va_get (D := (dC, dI)) (ci := 12) (v := .int (vi 20)) (C := RX12) (T := TX12) (N := 163) (fs := fM (vS a vi vj)) hx hb hts iwsRX12_isSign_in12 hown hK hP 0 rfl rfl 20 (by decide) (hts (.fieldLink RX12 491 "OptimaWorksModel" "sign0" "I") (by decide +kernel)) (fun _ h9 => h9) rfl dX12_isSign_9 ?_
    refine lv_iload_n hx hb dX12_isSign_12 rfl (lv_at hl 1 rfl) ?_
    refine lv_icmp_ne (tgt := 20) hx hb dX12_isSign_13 (by decide) (fun c_13 => ?_) (fun c_13 => ?_)
    · have t_13 : ((vi 20)).toInt ≠ (cv).toInt := toI_ne c_13 rfl rfl
      refine lv_iconst (v := 0) hx hb dX12_isSign_20 (by decide) ?_
      refine W.widen (k := 0) (n := 0) (by decide +kernel) (by decide +kernel) ?_
      exact W.zret (v := 0) hx hb hr rfl (fun t9_ ht hW => ⟨⟨0, (), rfl, by (try dsimp only); exact Or.inr ⟨rfl, fun h9 => c_13 h9.2⟩, by rw [ht]; exact hP, hD⟩, hS.F ht⟩) hS.2.2 dX12_isSign_21
    · have t_13 : ((vi 20)).toInt = (cv).toInt := toI_nne c_13 rfl rfl
      refine lv_iconst (v := 1) hx hb dX12_isSign_16 (by decide) ?_
      refine lv_goto (tgt := 21) hx hb dX12_isSign_17 (by decide) ?_
      refine W.widen (k := 0) (n := 0) (by decide +kernel) (by decide +kernel) ?_
      exact W.zret (v := 1) hx hb hr rfl (fun t9_ ht hW => ⟨⟨1, (), rfl, by (try dsimp only); exact Or.inl ⟨rfl, by omega, c_13⟩, by rw [ht]; exact hP, hD⟩, hS.F ht⟩) hS.2.2 dX12_isSign_21
theorem dX12_isKey_0 : decode cX12_isKey 0 = .ok (.aload_n 0, 1) := dk_42 (by decide +kernel)
theorem dX12_isKey_1 : decode cX12_isKey 1 = .ok (.getfield 494, 3) := dk_180 (by decide +kernel)
theorem dX12_isKey_4 : decode cX12_isKey 4 = .ok (.iconst 2, 1) := dk_5 (by decide +kernel)
theorem dX12_isKey_5 : decode cX12_isKey 5 = .ok (.if_icmp .ne 15, 3) := dk_160 (by decide +kernel)
theorem dX12_isKey_8 : decode cX12_isKey 8 = .ok (.aload_n 0, 1) := dk_42 (by decide +kernel)
theorem dX12_isKey_9 : decode cX12_isKey 9 = .ok (.getfield 491, 3) := dk_180 (by decide +kernel)
theorem dX12_isKey_12 : decode cX12_isKey 12 = .ok (.iload_n 1, 1) := dk_27 (by decide +kernel)
theorem dX12_isKey_13 : decode cX12_isKey 13 = .ok (.if_icmp .ne 7, 3) := dk_160 (by decide +kernel)
theorem dX12_isKey_16 : decode cX12_isKey 16 = .ok (.iconst 1, 1) := dk_4 (by decide +kernel)
theorem dX12_isKey_17 : decode cX12_isKey 17 = .ok (.goto 4, 3) := dk_167 (by decide +kernel)
theorem dX12_isKey_20 : decode cX12_isKey 20 = .ok (.iconst 0, 1) := dk_3 (by decide +kernel)
theorem dX12_isKey_21 : decode cX12_isKey 21 = .ok (.ireturn, 1) := dk_172 (by decide +kernel)
def wsRX12_isKey : List Cond := .code yX12_isKey cX12_isKey 2 (some .boolean) :: ([.fieldLink RX12 494 "OptimaWorksModel" "word" "I", .fieldLink RX12 491 "OptimaWorksModel" "sign0" "I"] ++ wsX120)
theorem iwsRX12_isKey_in12 : ∀ w ∈ wsX120, w ∈ wsRX12_isKey := fun _ h => List.mem_cons_of_mem _ (List.mem_append_right _ h)
theorem gdwsRX12_isKey : wsRX12_isKey.all goodWord = true := gdC rfl (gdA (by decide +kernel : ([.fieldLink RX12 494 "OptimaWorksModel" "word" "I", .fieldLink RX12 491 "OptimaWorksModel" "sign0" "I"] : List Cond).all goodWord = true) gdwsX120)
set_option maxHeartbeats 4000000 in
set_option maxRecDepth 100000 in
/-- isKey(k) -/
theorem r_X12_isKey (l : Launch) (dC : Nat → ClassId) (dI : Nat → Nat → Nat) (a : Nat → Nat) (k : Nat → ClassId) (h0 : Nat) (vi : Nat → Int32) (vj : Nat → Int64) (vF : Nat → Nat → Int32) (vG : Nat → Nat → Int64) (cv : Int32) (sz : Nat) : Met l yX12_isKey wsRX12_isKey ({ frames := 0, cells := 0, slots := 0, locals := 0 }) (va_Pc [.ref h0, .int cv] (fun U => U.heap.size = sz ∧ va_P (dC, dI) vwCl (WR a k h0 vi vj vF vG) U.heap ∧ va_K (dC, dI) vwCl (tX12 k) U ∧ va_D (fun _ => True) (WR a k h0 vi vj vF vG))) (va_Qi (fun (r : Int32) (u : Unit) => (r = 1 ∧ ((vi 18).toInt = 2) ∧ (vi 20 = cv)) ∨ (r = 0 ∧ (¬ ((vi 18).toInt = 2 ∧ vi 20 = cv)))) (fun (u : Unit) t => va_P (dC, dI) vwCl (WR a k h0 vi vj vF vG) t.heap ∧ va_D (va_A (WR a k h0 vi vj vF vG) sz) (WR a k h0 vi vj vF vG)) (va_A (WR a k h0 vi vj vF vG) sz)) 0 0 (va_A (WR a k h0 vi vj vF vG) sz) := by
  refine Met.ofW (cc := cX12_isKey) (maxL := 2) (ret := (some .boolean)) (by decide) rfl ?_
  intro p e s m args below meth c s₁ B hml hv
  obtain ⟨rfl, hsz, hP, hK, hD0⟩ := hv
  have hx := B.exec
  have hb := B.bytes
  have hr := B.returns
  have hts := atoms_spec (ws := wsRX12_isKey) B.pre
  have hown : s.vm.findClass RX12 = some m.cls := findClass_of_methodNamed B.named
  have hlocks := B.notSynchronized
  subst hsz
  have hD := hD0.self (sz := s.heap.size)
  generalize hAe : va_A (WR a k h0 vi vj vF vG) s.heap.size = A at hD ⊢
  have hA : ∀ q : Nat, s.heap.size ≤ q → A q := fun q h => by rw [← hAe]; exact Or.inr h
  have hS : va_S A s.heap s.heap [] := va_S.rf
  have hl := lv_entry ([.ref h0, .int cv]) (n := 2) (Nat.le_of_ble_eq_true rfl)
  rw [lg_entry_eq]
  generalize (lg_sl ([.ref h0, .int cv]) ++ List.replicate (2 - (lg_sl ([.ref h0, .int cv])).length) Slot.unset).toArray = ls at hl ⊢
  have hl : lv_has ls 2 [(0, .ref h0), (1, .int cv)] := hl
  refine lv_aload_n hx hb dX12_isKey_0 rfl (lv_at hl 0 rfl) ?_
  refine va_get (D := (dC, dI)) (ci := 12) (v := .int (vi 18)) (C := RX12) (T := TX12) (N := 163) (fs := fM (vS a vi vj)) hx hb hts iwsRX12_isKey_in12 hown hK hP 0 rfl rfl 18 (by decide) (hts (.fieldLink RX12 494 "OptimaWorksModel" "word" "I") (by decide +kernel)) (fun _ h9 => h9) rfl dX12_isKey_1 ?_
  refine lv_iconst (v := 2) hx hb dX12_isKey_4 (by decide) ?_
  refine lv_icmp_ne (tgt := 20) hx hb dX12_isKey_5 (by decide) (fun c_5 => ?_) (fun c_5 => ?_)
  · have t_5 : ((vi 18)).toInt ≠ 2 := toI_ne c_5 rfl (by decide)
    refine lv_iconst (v := 0) hx hb dX12_isKey_20 (by decide) ?_
    refine W.widen (k := 0) (n := 0) (by decide +kernel) (by decide +kernel) ?_
    exact W.zret (v := 0) hx hb hr rfl (fun t9_ ht hW => ⟨⟨0, (), rfl, by (try dsimp only); exact Or.inr ⟨rfl, fun h9 => by have h8 := h9.1; omega⟩, by rw [ht]; exact hP, hD⟩, hS.F ht⟩) hS.2.2 dX12_isKey_21
  · have t_5 : ((vi 18)).toInt = 2 := toI_nne c_5 rfl (by decide)
    refine lv_aload_n hx hb dX12_isKey_8 rfl (lv_at hl 0 rfl) ?_
    refine va_get (D := (dC, dI)) (ci := 12) (v := .int (vi 20)) (C := RX12) (T := TX12) (N := 163) (fs := fM (vS a vi vj)) hx hb hts iwsRX12_isKey_in12 hown hK hP 0 rfl rfl 20 (by decide) (hts (.fieldLink RX12 491 "OptimaWorksModel" "sign0" "I") (by decide +kernel)) (fun _ h9 => h9) rfl dX12_isKey_9 ?_
    refine lv_iload_n hx hb dX12_isKey_12 rfl (lv_at hl 1 rfl) ?_
    refine lv_icmp_ne (tgt := 20) hx hb dX12_isKey_13 (by decide) (fun c_13 => ?_) (fun c_13 => ?_)
    · have t_13 : ((vi 20)).toInt ≠ (cv).toInt := toI_ne c_13 rfl rfl
      refine lv_iconst (v := 0) hx hb dX12_isKey_20 (by decide) ?_
      refine W.widen (k := 0) (n := 0) (by decide +kernel) (by decide +kernel) ?_
      exact W.zret (v := 0) hx hb hr rfl (fun t9_ ht hW => ⟨⟨0, (), rfl, by (try dsimp only); exact Or.inr ⟨rfl, fun h9 => c_13 h9.2⟩, by rw [ht]; exact hP, hD⟩, hS.F ht⟩) hS.2.2 dX12_isKey_21
    · have t_13 : ((vi 20)).toInt = (cv).toInt := toI_nne c_13 rfl rfl
      refine lv_iconst (v := 1) hx hb dX12_isKey_16 (by decide) ?_
      refine lv_goto (tgt := 21) hx hb dX12_isKey_17 (by decide) ?_
      refine W.widen (k := 0) (n := 0) (by decide +kernel) (by decide +kernel) ?_
      exact W.zret (v := 1) hx hb hr rfl (fun t9_ ht hW => ⟨⟨1, (), rfl, by (try dsimp only); exact Or.inl ⟨rfl, by omega, c_13⟩, by rw [ht]; exact hP, hD⟩, hS.F ht⟩) hS.2.2 dX12_isKey_21
theorem dX12_nought_0 : decode cX12_nought 0 = .ok (.iconst 0, 1) := dk_3 (by decide +kernel)
theorem dX12_nought_1 : decode cX12_nought 1 = .ok (.istore_n 2, 1) := dk_61 (by decide +kernel)
theorem dX12_nought_2 : decode cX12_nought 2 = .ok (.iload_n 2, 1) := dk_28 (by decide +kernel)
theorem dX12_nought_3 : decode cX12_nought 3 = .ok (.bipush 9, 2) := dk_16 (by decide +kernel)
theorem dX12_nought_5 : decode cX12_nought 5 = .ok (.if_icmp .ge 33, 3) := dk_162 (by decide +kernel)
theorem dX12_nought_8 : decode cX12_nought 8 = .ok (.aload_n 0, 1) := dk_42 (by decide +kernel)
theorem dX12_nought_9 : decode cX12_nought 9 = .ok (.getfield 170, 3) := dk_180 (by decide +kernel)
theorem dX12_nought_12 : decode cX12_nought 12 = .ok (.bipush 9, 2) := dk_16 (by decide +kernel)
theorem dX12_nought_14 : decode cX12_nought 14 = .ok (.iload_n 1, 1) := dk_27 (by decide +kernel)
theorem dX12_nought_15 : decode cX12_nought 15 = .ok (.imul, 1) := dk_104 (by decide +kernel)
theorem dX12_nought_16 : decode cX12_nought 16 = .ok (.iload_n 2, 1) := dk_28 (by decide +kernel)
theorem dX12_nought_17 : decode cX12_nought 17 = .ok (.iadd, 1) := dk_96 (by decide +kernel)
theorem dX12_nought_18 : decode cX12_nought 18 = .ok (.iconst 0, 1) := dk_3 (by decide +kernel)
theorem dX12_nought_19 : decode cX12_nought 19 = .ok (.iastore, 1) := dk_79 (by decide +kernel)
theorem dX12_nought_20 : decode cX12_nought 20 = .ok (.aload_n 0, 1) := dk_42 (by decide +kernel)
theorem dX12_nought_21 : decode cX12_nought 21 = .ok (.getfield 173, 3) := dk_180 (by decide +kernel)
theorem dX12_nought_24 : decode cX12_nought 24 = .ok (.bipush 9, 2) := dk_16 (by decide +kernel)
theorem dX12_nought_26 : decode cX12_nought 26 = .ok (.iload_n 1, 1) := dk_27 (by decide +kernel)
theorem dX12_nought_27 : decode cX12_nought 27 = .ok (.imul, 1) := dk_104 (by decide +kernel)
theorem dX12_nought_28 : decode cX12_nought 28 = .ok (.iload_n 2, 1) := dk_28 (by decide +kernel)
theorem dX12_nought_29 : decode cX12_nought 29 = .ok (.iadd, 1) := dk_96 (by decide +kernel)
theorem dX12_nought_30 : decode cX12_nought 30 = .ok (.iconst 1, 1) := dk_4 (by decide +kernel)
theorem dX12_nought_31 : decode cX12_nought 31 = .ok (.iastore, 1) := dk_79 (by decide +kernel)
theorem dX12_nought_32 : decode cX12_nought 32 = .ok (.iinc 2 1, 3) := dk_132 (by decide +kernel)
theorem dX12_nought_35 : decode cX12_nought 35 = .ok (.goto (-33), 3) := dk_167 (by decide +kernel)
theorem dX12_nought_38 : decode cX12_nought 38 = .ok (.return_, 1) := dk_177 (by decide +kernel)
def wsRX12_nought : List Cond := .code yX12_nought cX12_nought 3 none :: ([.fieldLink RX12 170 "OptimaWorksModel" "top" "[I", .fieldLink RX12 173 "OptimaWorksModel" "under" "[I"] ++ wsX120)
theorem iwsRX12_nought_in12 : ∀ w ∈ wsX120, w ∈ wsRX12_nought := fun _ h => List.mem_cons_of_mem _ (List.mem_append_right _ h)
theorem gdwsRX12_nought : wsRX12_nought.all goodWord = true := gdC rfl (gdA (by decide +kernel : ([.fieldLink RX12 170 "OptimaWorksModel" "top" "[I", .fieldLink RX12 173 "OptimaWorksModel" "under" "[I"] : List Cond).all goodWord = true) gdwsX120)
set_option maxHeartbeats 4000000 in
set_option maxRecDepth 100000 in
/-- nought(v) -/
theorem r_X12_nought (l : Launch) (dC : Nat → ClassId) (dI : Nat → Nat → Nat) (a : Nat → Nat) (k : Nat → ClassId) (h0 : Nat) (vi : Nat → Int32) (vj : Nat → Int64) (vF : Nat → Nat → Int32) (vG : Nat → Nat → Int64) (vn : Nat) (hvn : vn < 100) (sz : Nat) : Met l yX12_nought wsRX12_nought ({ frames := 0, cells := 0, slots := 0, locals := 0 }) (va_Pc [.ref h0, .int (nI vn)] (fun U => U.heap.size = sz ∧ va_P (dC, dI) vwCl (WR a k h0 vi vj vF vG) U.heap ∧ va_K (dC, dI) vwCl (tX12 k) U ∧ va_D (fun _ => True) (WR a k h0 vi vj vF vG))) (va_Qv (fun (u : (Nat → Int32) × (Nat → Int32)) => (∀ q, q < 9 → (u.1) (9 * vn + q) = 0) ∧ (∀ q, q < 9 → (u.2) (9 * vn + q) = 1) ∧ (∀ q, (q < 9 * vn ∨ 9 * vn + 9 ≤ q) → (u.1) q = vF 49 q) ∧ (∀ q, (q < 9 * vn ∨ 9 * vn + 9 ≤ q) → (u.2) q = vF 50 q)) (fun (u : (Nat → Int32) × (Nat → Int32)) t => va_P (dC, dI) vwCl (WR a k h0 vi vj (fT (fT vF 49 (u.1)) 50 (u.2)) vG) t.heap ∧ va_D (va_A (WR a k h0 vi vj vF vG) sz) (WR a k h0 vi vj (fT (fT vF 49 (u.1)) 50 (u.2)) vG)) (va_A (WR a k h0 vi vj vF vG) sz)) 0 0 (va_A (WR a k h0 vi vj vF vG) sz) := by
  refine Met.ofW (cc := cX12_nought) (maxL := 3) (ret := none) (by decide) rfl ?_
  intro p e s m args below meth c s₁ B hml hv
  obtain ⟨rfl, hsz, hP, hK, hD0⟩ := hv
  have hx := B.exec
  have hb := B.bytes
  have hr := B.returns
  have hts := atoms_spec (ws := wsRX12_nought) B.pre
  have hown : s.vm.findClass RX12 = some m.cls := findClass_of_methodNamed B.named
  have hlocks := B.notSynchronized
  subst hsz
  have hD := hD0.self (sz := s.heap.size)
  generalize hAe : va_A (WR a k h0 vi vj vF vG) s.heap.size = A at hD ⊢
  have hA : ∀ q : Nat, s.heap.size ≤ q → A q := fun q h => by rw [← hAe]; exact Or.inr h
  have hS : va_S A s.heap s.heap [] := va_S.rf
  have hl := lv_entry ([.ref h0, .int (nI vn)]) (n := 3) (Nat.le_of_ble_eq_true rfl)
  rw [lg_entry_eq]
  generalize (lg_sl ([.ref h0, .int (nI vn)]) ++ List.replicate (3 - (lg_sl ([.ref h0, .int (nI vn)])).length) Slot.unset).toArray = ls at hl ⊢
  have hl : lv_has ls 3 [(0, .ref h0), (1, .int (nI vn))] := hl
  refine lv_iconst (v := 0) hx hb dX12_nought_0 (by decide) ?_
  refine lv_istore_n hx hb dX12_nought_1 rfl hl (by decide) rfl (fun ls (hl : lv_has ls _ ([(2, .int 0), (0, .ref h0), (1, .int (nI vn))])) => ?_)
  have e9 : fT (fT vF 49 (vF 49)) 50 (vF 50) = vF := by funext q9; by_cases h9_49 : q9 = 49; (subst h9_49; exact ((fT_ne _ _ (Nat.ne_of_beq_eq_false rfl)).trans (fT_eq _ _ _)).trans (Eq.trans (by first | with_reducible rfl | with_reducible assumption | (symm; with_reducible assumption) | rfl | assumption | (symm; assumption) | (subst_vars; rfl)) (Eq.refl _).symm)); by_cases h9_50 : q9 = 50; (subst h9_50; exact (fT_eq _ _ _).trans (Eq.trans (by first | with_reducible rfl | with_reducible assumption | (symm; with_reducible assumption) | rfl | assumption | (symm; assumption) | (subst_vars; rfl)) (Eq.refl _).symm)); exact ((fT_ne _ _ h9_50).trans (fT_ne _ _ h9_49)).trans (Eq.refl _).symm
  have hP := wr_PF e9 hP
  have hD := wr_DF e9 hD
  clear e9
  have hl : lv_has _ _ ([(0, .ref h0), (1, .int (nI vn)), (2, .int (nI 0))]) := lv_sub hl [1, 2, 0] rfl
  refine (fun (loop : ∀ (n9 : Nat) (k5 : Nat) (f49 : Nat → Int32) (f50 : Nat → Int32) (H : Heap) (locs : List Loc) (ls : Array Slot), (k5 ≤ 9) → (∀ q, q < k5 → f49 (9 * vn + q) = 0) → (∀ q, q < k5 → f50 (9 * vn + q) = 1) → (∀ q, (q < 9 * vn ∨ 9 * vn + 9 ≤ q) → f49 q = vF 49 q) → (∀ q, (q < 9 * vn ∨ 9 * vn + 9 ≤ q) → f50 q = vF 50 q) →  (9 < k5 + n9) → va_P (dC, dI) vwCl (WR a k h0 vi vj (fT (fT vF 49 f49) 50 f50) vG) H → va_D A (WR a k h0 vi vj (fT (fT vF 49 f49) 50 f50) vG) → va_S A s.heap H locs → lv_has ls 3 [(0, .ref h0), (1, .int (nI vn)), (2, .int (nI k5))] → W p l e _ s m _ below meth c H locs 0 0 _ (F0 m 2 ls [])) => loop (10) 0 (vF 49) (vF 50) _ _ _ (by omega) (fun q hq => absurd hq (by omega)) (fun q hq => absurd hq (by omega)) (fun q _ => rfl) (fun q _ => rfl) (by omega) hP hD hS hl) ?_
  intro n9
  induction n9 with
  | zero => intro k5 f49 f50 H locs ls hk5 hz ho ha hb2 hf9; exact False.elim (by omega)
  | succ n9 ih2 =>
    intro k5 f49 f50 H locs ls hk5 hz ho ha hb2 hf2 hP hD hS hl
    refine lv_iload_n hx hb dX12_nought_2 rfl (lv_at hl 2 rfl) ?_
    refine lv_bipush (v := 9) hx hb dX12_nought_3 (by decide) ?_
    refine lv_icmp_ge (tgt := 38) hx hb dX12_nought_5 (by decide) (fun c_5 => ?_) (fun c_5 => ?_)
    · have t_5 : ((k5 : Nat) : Int) ≥ 9 := toI_ge c_5 (nI_toInt (by omega)) (by decide)
      refine W.widen (k := 0) (n := 0) (by decide +kernel) (by decide +kernel) ?_
      exact W.vret hx hb hr (fun t9_ ht hW => ⟨⟨(f49, f50), rfl, by (try dsimp only); exact ⟨fun q hq => hz q (by omega), fun q hq => ho q (by omega), ha, hb2⟩, by rw [ht]; exact hP, hD⟩, hS.F ht⟩) hS.2.2 dX12_nought_38
    · have t_5 : ¬ ((k5 : Nat) : Int) ≥ 9 := toI_nge c_5 (nI_toInt (by omega)) (by decide)
      refine lv_aload_n hx hb dX12_nought_8 rfl (lv_at hl 0 rfl) ?_
      refine va_get (D := (dC, dI)) (ci := 12) (v := .ref (a 49)) (C := RX12) (T := TX12) (N := 163) (fs := fM (vS a vi vj)) hx hb hts iwsRX12_nought_in12 hown hK hP 0 rfl rfl 78 (by decide) (hts (.fieldLink RX12 170 "OptimaWorksModel" "top" "[I") (by decide +kernel)) (fun _ h9 => h9) rfl dX12_nought_9 ?_
      refine lv_bipush (v := 9) hx hb dX12_nought_12 (by decide) ?_
      refine lv_iload_n hx hb dX12_nought_14 rfl (lv_at hl 1 rfl) ?_
      refine lv_imul hx hb dX12_nought_15 ?_
      refine lv_topi (fun y1 hy1 => ?_)
      obtain rfl : (nI (9 * vn)) = y1 := (hy1.trans (pk_mul 9 vn)).symm
      refine lv_iload_n hx hb dX12_nought_16 rfl (lv_at hl 2 rfl) ?_
      refine lv_iadd hx hb dX12_nought_17 ?_
      refine lv_topi (fun y2 hy2 => ?_)
      obtain rfl : (nI ((9 * vn) + k5)) = y2 := (hy2.trans (nI_add (9 * vn) k5)).symm
      refine lv_iconst (v := 0) hx hb dX12_nought_18 (by decide) ?_
      refine va_iast (cA := k 49) (n := 900) (f := f49) hx hb hK hP hD hS 50 49 (WR_get 49 (by decide)) (TR_get 49 (by decide)) (vp_in_nI (show ((9 * vn) + k5) < 900 by omega) (by omega)) dX12_nought_19 (fun H locs hP hD hS => ?_)
      have e9 : fT (fT vF 49 (upd f49 ((nI ((9 * vn) + k5))).toNatClampNeg 0)) 50 f50 = fT (fT (fT vF 49 f49) 50 f50) 49 (upd f49 ((nI ((9 * vn) + k5))).toNatClampNeg 0) := ((fT_sw _ _ _ (Nat.ne_of_beq_eq_false rfl)).trans (congrArg (fun g9 => fT g9 50 f50) (fT_sm _ _ _ _))).symm
      have hP := wr_PF e9 (fz_w (WR_F 49 (by decide) _ rfl) hP)
      have hD := wr_DF e9 (fz_wD (WR_F 49 (by decide) _ rfl) hD)
      clear e9
      refine lv_aload_n hx hb dX12_nought_20 rfl (lv_at hl 0 rfl) ?_
      refine va_get (D := (dC, dI)) (ci := 12) (v := .ref (a 50)) (C := RX12) (T := TX12) (N := 163) (fs := fM (vS a vi vj)) hx hb hts iwsRX12_nought_in12 hown hK hP 0 rfl rfl 79 (by decide) (hts (.fieldLink RX12 173 "OptimaWorksModel" "under" "[I") (by decide +kernel)) (fun _ h9 => h9) rfl dX12_nought_21 ?_
      refine lv_bipush (v := 9) hx hb dX12_nought_24 (by decide) ?_
      refine lv_iload_n hx hb dX12_nought_26 rfl (lv_at hl 1 rfl) ?_
      refine lv_imul hx hb dX12_nought_27 ?_
      refine lv_topi (fun y3 hy3 => ?_)
      obtain rfl : (nI (9 * vn)) = y3 := (hy3.trans (pk_mul 9 vn)).symm
      refine lv_iload_n hx hb dX12_nought_28 rfl (lv_at hl 2 rfl) ?_
      refine lv_iadd hx hb dX12_nought_29 ?_
      refine lv_topi (fun y4 hy4 => ?_)
      obtain rfl : (nI ((9 * vn) + k5)) = y4 := (hy4.trans (nI_add (9 * vn) k5)).symm
      refine lv_iconst (v := 1) hx hb dX12_nought_30 (by decide) ?_
      refine va_iast (cA := k 50) (n := 900) (f := f50) hx hb hK hP hD hS 51 50 (WR_get 50 (by decide)) (TR_get 50 (by decide)) (vp_in_nI (show ((9 * vn) + k5) < 900 by omega) (by omega)) dX12_nought_31 (fun H locs hP hD hS => ?_)
      have e9 : fT (fT vF 49 (upd f49 ((nI ((9 * vn) + k5))).toNatClampNeg 0)) 50 (upd f50 ((nI ((9 * vn) + k5))).toNatClampNeg 1) = fT (fT (fT vF 49 (upd f49 ((nI ((9 * vn) + k5))).toNatClampNeg 0)) 50 f50) 50 (upd f50 ((nI ((9 * vn) + k5))).toNatClampNeg 1) := (fT_sm _ _ _ _).symm
      have hP := wr_PF e9 (fz_w (WR_F 50 (by decide) _ rfl) hP)
      have hD := wr_DF e9 (fz_wD (WR_F 50 (by decide) _ rfl) hD)
      clear e9
      refine lv_iinc (v := (nI (k5 + 1))) hx hb dX12_nought_32 hl (k := 2) rfl (nI_add k5 1) (by decide) rfl (fun ls (hl : lv_has ls _ ([(2, .int (nI (k5 + 1))), (0, .ref h0), (1, .int (nI vn))])) => ?_)
      refine lv_goto (tgt := 2) hx hb dX12_nought_35 (by decide) ?_
      have hl : lv_has _ _ ([(0, .ref h0), (1, .int (nI vn)), (2, .int (nI (k5 + 1)))]) := lv_sub hl [1, 2, 0] rfl
      exact ih2 (k5 + 1) (upd f49 ((nI ((9 * vn) + k5))).toNatClampNeg 0) (upd f50 ((nI ((9 * vn) + k5))).toNatClampNeg 1) _ _ _ (by omega) (fun q hq => by rw [upd_at (by omega)]; by_cases e9 : 9 * vn + q = 9 * vn + k5; (rw [if_pos e9]); (rw [if_neg e9]; exact hz q (by omega))) (fun q hq => by rw [upd_at (by omega)]; by_cases e9 : 9 * vn + q = 9 * vn + k5; (rw [if_pos e9]); (rw [if_neg e9]; exact ho q (by omega))) (fun q hq => by rw [upd_at (by omega), if_neg (by omega)]; exact ha q hq) (fun q hq => by rw [upd_at (by omega), if_neg (by omega)]; exact hb2 q hq) (by omega) hP hD hS hl
theorem dX12_hasVariables_0 : decode cX12_hasVariables 0 = .ok (.iconst 0, 1) := dk_3 (by decide +kernel)
theorem dX12_hasVariables_1 : decode cX12_hasVariables 1 = .ok (.istore_n 2, 1) := dk_61 (by decide +kernel)
theorem dX12_hasVariables_2 : decode cX12_hasVariables 2 = .ok (.iconst 1, 1) := dk_4 (by decide +kernel)
theorem dX12_hasVariables_3 : decode cX12_hasVariables 3 = .ok (.istore_n 3, 1) := dk_62 (by decide +kernel)
theorem dX12_hasVariables_4 : decode cX12_hasVariables 4 = .ok (.iload_n 3, 1) := dk_29 (by decide +kernel)
theorem dX12_hasVariables_5 : decode cX12_hasVariables 5 = .ok (.bipush 9, 2) := dk_16 (by decide +kernel)
theorem dX12_hasVariables_7 : decode cX12_hasVariables 7 = .ok (.if_icmp .ge 33, 3) := dk_162 (by decide +kernel)
theorem dX12_hasVariables_10 : decode cX12_hasVariables 10 = .ok (.iload_n 2, 1) := dk_28 (by decide +kernel)
theorem dX12_hasVariables_11 : decode cX12_hasVariables 11 = .ok (.ifCond .ne 17, 3) := dk_154 (by decide +kernel)
theorem dX12_hasVariables_14 : decode cX12_hasVariables 14 = .ok (.aload_n 0, 1) := dk_42 (by decide +kernel)
theorem dX12_hasVariables_15 : decode cX12_hasVariables 15 = .ok (.getfield 170, 3) := dk_180 (by decide +kernel)
theorem dX12_hasVariables_18 : decode cX12_hasVariables 18 = .ok (.bipush 9, 2) := dk_16 (by decide +kernel)
theorem dX12_hasVariables_20 : decode cX12_hasVariables 20 = .ok (.iload_n 1, 1) := dk_27 (by decide +kernel)
theorem dX12_hasVariables_21 : decode cX12_hasVariables 21 = .ok (.imul, 1) := dk_104 (by decide +kernel)
theorem dX12_hasVariables_22 : decode cX12_hasVariables 22 = .ok (.iload_n 3, 1) := dk_29 (by decide +kernel)
theorem dX12_hasVariables_23 : decode cX12_hasVariables 23 = .ok (.iadd, 1) := dk_96 (by decide +kernel)
theorem dX12_hasVariables_24 : decode cX12_hasVariables 24 = .ok (.iaload, 1) := dk_46 (by decide +kernel)
theorem dX12_hasVariables_25 : decode cX12_hasVariables 25 = .ok (.ifCond .eq 7, 3) := dk_153 (by decide +kernel)
theorem dX12_hasVariables_28 : decode cX12_hasVariables 28 = .ok (.iconst 1, 1) := dk_4 (by decide +kernel)
theorem dX12_hasVariables_29 : decode cX12_hasVariables 29 = .ok (.goto 4, 3) := dk_167 (by decide +kernel)
theorem dX12_hasVariables_32 : decode cX12_hasVariables 32 = .ok (.iconst 0, 1) := dk_3 (by decide +kernel)
theorem dX12_hasVariables_33 : decode cX12_hasVariables 33 = .ok (.istore_n 2, 1) := dk_61 (by decide +kernel)
theorem dX12_hasVariables_34 : decode cX12_hasVariables 34 = .ok (.iinc 3 1, 3) := dk_132 (by decide +kernel)
theorem dX12_hasVariables_37 : decode cX12_hasVariables 37 = .ok (.goto (-33), 3) := dk_167 (by decide +kernel)
theorem dX12_hasVariables_40 : decode cX12_hasVariables 40 = .ok (.iload_n 2, 1) := dk_28 (by decide +kernel)
theorem dX12_hasVariables_41 : decode cX12_hasVariables 41 = .ok (.ireturn, 1) := dk_172 (by decide +kernel)
def wsRX12_hasVariables : List Cond := .code yX12_hasVariables cX12_hasVariables 4 (some .boolean) :: ([.fieldLink RX12 170 "OptimaWorksModel" "top" "[I"] ++ wsX120)
theorem iwsRX12_hasVariables_in12 : ∀ w ∈ wsX120, w ∈ wsRX12_hasVariables := fun _ h => List.mem_cons_of_mem _ (List.mem_append_right _ h)
theorem gdwsRX12_hasVariables : wsRX12_hasVariables.all goodWord = true := gdC rfl (gdA (by decide +kernel : ([.fieldLink RX12 170 "OptimaWorksModel" "top" "[I"] : List Cond).all goodWord = true) gdwsX120)
set_option maxHeartbeats 4000000 in
set_option maxRecDepth 100000 in
/-- hasVariables(v) -/
theorem r_X12_hasVariables (l : Launch) (dC : Nat → ClassId) (dI : Nat → Nat → Nat) (a : Nat → Nat) (k : Nat → ClassId) (h0 : Nat) (vi : Nat → Int32) (vj : Nat → Int64) (vF : Nat → Nat → Int32) (vG : Nat → Nat → Int64) (vn : Nat) (hvn : vn < 100) (sz : Nat) : Met l yX12_hasVariables wsRX12_hasVariables ({ frames := 0, cells := 0, slots := 0, locals := 0 }) (va_Pc [.ref h0, .int (nI vn)] (fun U => U.heap.size = sz ∧ va_P (dC, dI) vwCl (WR a k h0 vi vj vF vG) U.heap ∧ va_K (dC, dI) vwCl (tX12 k) U ∧ va_D (fun _ => True) (WR a k h0 vi vj vF vG))) (va_Qi (fun (r : Int32) (u : Unit) => (((r) = 0 ∧ ∀ q, 1 ≤ q → q < 9 → vF 49 (9 * vn + q) = 0) ∨ ((r) = 1 ∧ ∃ q, 1 ≤ q ∧ q < 9 ∧ vF 49 (9 * vn + q) ≠ 0))) (fun (u : Unit) t => va_P (dC, dI) vwCl (WR a k h0 vi vj vF vG) t.heap ∧ va_D (va_A (WR a k h0 vi vj vF vG) sz) (WR a k h0 vi vj vF vG)) (va_A (WR a k h0 vi vj vF vG) sz)) 0 0 (va_A (WR a k h0 vi vj vF vG) sz) := by
  refine Met.ofW (cc := cX12_hasVariables) (maxL := 4) (ret := (some .boolean)) (by decide) rfl ?_
  intro p e s m args below meth c s₁ B hml hv
  obtain ⟨rfl, hsz, hP, hK, hD0⟩ := hv
  have hx := B.exec
  have hb := B.bytes
  have hr := B.returns
  have hts := atoms_spec (ws := wsRX12_hasVariables) B.pre
  have hown : s.vm.findClass RX12 = some m.cls := findClass_of_methodNamed B.named
  have hlocks := B.notSynchronized
  subst hsz
  have hD := hD0.self (sz := s.heap.size)
  generalize hAe : va_A (WR a k h0 vi vj vF vG) s.heap.size = A at hD ⊢
  have hA : ∀ q : Nat, s.heap.size ≤ q → A q := fun q h => by rw [← hAe]; exact Or.inr h
  have hS : va_S A s.heap s.heap [] := va_S.rf
  have hl := lv_entry ([.ref h0, .int (nI vn)]) (n := 4) (Nat.le_of_ble_eq_true rfl)
  rw [lg_entry_eq]
  generalize (lg_sl ([.ref h0, .int (nI vn)]) ++ List.replicate (4 - (lg_sl ([.ref h0, .int (nI vn)])).length) Slot.unset).toArray = ls at hl ⊢
  have hl : lv_has ls 4 [(0, .ref h0), (1, .int (nI vn))] := hl
  refine lv_iconst (v := 0) hx hb dX12_hasVariables_0 (by decide) ?_
  refine lv_istore_n hx hb dX12_hasVariables_1 rfl hl (by decide) rfl (fun ls (hl : lv_has ls _ ([(2, .int 0), (0, .ref h0), (1, .int (nI vn))])) => ?_)
  refine lv_iconst (v := 1) hx hb dX12_hasVariables_2 (by decide) ?_
  refine lv_istore_n hx hb dX12_hasVariables_3 rfl hl (by decide) rfl (fun ls (hl : lv_has ls _ ([(3, .int 1), (2, .int 0), (0, .ref h0), (1, .int (nI vn))])) => ?_)
  have hl : lv_has _ _ ([(0, .ref h0), (1, .int (nI vn)), (2, .int 0), (3, .int (nI 1))]) := lv_sub hl [2, 3, 1, 0] rfl
  refine (fun (loop : ∀ (n9 : Nat) (k5 : Nat) (zq : Int32) (H : Heap) (locs : List Loc) (ls : Array Slot), (1 ≤ k5 ∧ k5 ≤ 9) → ((zq = 0 ∧ ∀ q, 1 ≤ q → q < k5 → vF 49 (9 * vn + q) = 0) ∨ (zq = 1 ∧ ∃ q, 1 ≤ q ∧ q < k5 ∧ vF 49 (9 * vn + q) ≠ 0)) →  (9 < k5 + n9) → va_P (dC, dI) vwCl (WR a k h0 vi vj vF vG) H → va_D A (WR a k h0 vi vj vF vG) → va_S A s.heap H locs → lv_has ls 4 [(0, .ref h0), (1, .int (nI vn)), (2, .int zq), (3, .int (nI k5))] → W p l e _ s m _ below meth c H locs 0 0 _ (F0 m 4 ls [])) => loop (10) 1 0 _ _ _ (by omega) (Or.inl ⟨rfl, fun q h1 h2 => absurd h1 (by omega)⟩) (by omega) hP hD hS hl) ?_
  intro n9
  induction n9 with
  | zero => intro k5 zq H locs ls hk5 hv1 hf9; exact False.elim (by omega)
  | succ n9 ih4 =>
    intro k5 zq H locs ls hk5 hv1 hf4 hP hD hS hl
    refine lv_iload_n hx hb dX12_hasVariables_4 rfl (lv_at hl 3 rfl) ?_
    refine lv_bipush (v := 9) hx hb dX12_hasVariables_5 (by decide) ?_
    refine lv_icmp_ge (tgt := 40) hx hb dX12_hasVariables_7 (by decide) (fun c_7 => ?_) (fun c_7 => ?_)
    · have t_7 : ((k5 : Nat) : Int) ≥ 9 := toI_ge c_7 (nI_toInt (by omega)) (by decide)
      refine lv_iload_n hx hb dX12_hasVariables_40 rfl (lv_at hl 2 rfl) ?_
      refine W.widen (k := 0) (n := 0) (by decide +kernel) (by decide +kernel) ?_
      exact W.zret (v := zq) hx hb hr (by rcases hv1 with h9 | h9; (rw [h9.1]; rfl); (rw [h9.1]; rfl)) (fun t9_ ht hW => ⟨⟨zq, (), rfl, by (try dsimp only); (have ek : k5 = 9 := by omega); rw [ek] at hv1; rcases hv1 with h9 | h9; (exact Or.inl ⟨h9.1, fun q h1 h2 => h9.2 q h1 (by omega)⟩); (exact Or.inr h9), by rw [ht]; exact hP, hD⟩, hS.F ht⟩) hS.2.2 dX12_hasVariables_41
    · have t_7 : ¬ ((k5 : Nat) : Int) ≥ 9 := toI_nge c_7 (nI_toInt (by omega)) (by decide)
      refine lv_iload_n hx hb dX12_hasVariables_10 rfl (lv_at hl 2 rfl) ?_
      refine lv_if_ne (tgt := 28) hx hb dX12_hasVariables_11 (by decide) (fun c_11 => ?_) (fun c_11 => ?_)
      · have t_11 : (zq).toInt ≠ 0 := toI_ne c_11 rfl (by decide)
        refine lv_iconst (v := 1) hx hb dX12_hasVariables_28 (by decide) ?_
        refine lv_goto (tgt := 33) hx hb dX12_hasVariables_29 (by decide) ?_
        refine lv_istore_n hx hb dX12_hasVariables_33 rfl hl (by decide) rfl (fun ls (hl : lv_has ls _ ([(2, .int 1), (0, .ref h0), (1, .int (nI vn)), (3, .int (nI k5))])) => ?_)
        refine lv_iinc (v := (nI (k5 + 1))) hx hb dX12_hasVariables_34 hl (k := 3) rfl (nI_add k5 1) (by decide) rfl (fun ls (hl : lv_has ls _ ([(3, .int (nI (k5 + 1))), (2, .int 1), (0, .ref h0), (1, .int (nI vn))])) => ?_)
        refine lv_goto (tgt := 4) hx hb dX12_hasVariables_37 (by decide) ?_
        have hl : lv_has _ _ ([(0, .ref h0), (1, .int (nI vn)), (2, .int 1), (3, .int (nI (k5 + 1)))]) := lv_sub hl [2, 3, 1, 0] rfl
        exact ih4 (k5 + 1) 1 _ _ _ (by omega) (by obtain ⟨h9, q9, h8, h7, h6⟩ := hv1.resolve_left (fun h => c_11 h.1); exact Or.inr ⟨rfl, q9, h8, by omega, h6⟩) (by omega) hP hD hS hl
      · have t_11 : (zq).toInt = 0 := toI_nne c_11 rfl (by decide)
        refine lv_aload_n hx hb dX12_hasVariables_14 rfl (lv_at hl 0 rfl) ?_
        refine va_get (D := (dC, dI)) (ci := 12) (v := .ref (a 49)) (C := RX12) (T := TX12) (N := 163) (fs := fM (vS a vi vj)) hx hb hts iwsRX12_hasVariables_in12 hown hK hP 0 rfl rfl 78 (by decide) (hts (.fieldLink RX12 170 "OptimaWorksModel" "top" "[I") (by decide +kernel)) (fun _ h9 => h9) rfl dX12_hasVariables_15 ?_
        refine lv_bipush (v := 9) hx hb dX12_hasVariables_18 (by decide) ?_
        refine lv_iload_n hx hb dX12_hasVariables_20 rfl (lv_at hl 1 rfl) ?_
        refine lv_imul hx hb dX12_hasVariables_21 ?_
        refine lv_topi (fun y1 hy1 => ?_)
        obtain rfl : (nI (9 * vn)) = y1 := (hy1.trans (pk_mul 9 vn)).symm
        refine lv_iload_n hx hb dX12_hasVariables_22 rfl (lv_at hl 3 rfl) ?_
        refine lv_iadd hx hb dX12_hasVariables_23 ?_
        refine lv_topi (fun y2 hy2 => ?_)
        obtain rfl : (nI ((9 * vn) + k5)) = y2 := (hy2.trans (nI_add (9 * vn) k5)).symm
        refine va_iald (cA := k 49) (n := 900) (f := (vF 49)) hx hb hK hP 50 49 (WR_get 49 (by decide)) (TR_get 49 (by decide)) (vp_in_nI (show ((9 * vn) + k5) < 900 by omega) (by omega)) dX12_hasVariables_24 ?_
        refine lv_topi (fun y3 hy3 => ?_)
        obtain rfl : ((vF 49) ((9 * vn) + k5)) = y3 := (hy3.trans (by rw [nI_clamp (by omega)])).symm
        refine lv_if_eq (tgt := 32) hx hb dX12_hasVariables_25 (by decide) (fun c_25 => ?_) (fun c_25 => ?_)
        · have t_25 : (((vF 49) ((9 * vn) + k5))).toInt = 0 := toI_eq c_25 rfl (by decide)
          refine lv_iconst (v := 0) hx hb dX12_hasVariables_32 (by decide) ?_
          refine lv_istore_n hx hb dX12_hasVariables_33 rfl hl (by decide) rfl (fun ls (hl : lv_has ls _ ([(2, .int 0), (0, .ref h0), (1, .int (nI vn)), (3, .int (nI k5))])) => ?_)
          refine lv_iinc (v := (nI (k5 + 1))) hx hb dX12_hasVariables_34 hl (k := 3) rfl (nI_add k5 1) (by decide) rfl (fun ls (hl : lv_has ls _ ([(3, .int (nI (k5 + 1))), (2, .int 0), (0, .ref h0), (1, .int (nI vn))])) => ?_)
          refine lv_goto (tgt := 4) hx hb dX12_hasVariables_37 (by decide) ?_
          have hl : lv_has _ _ ([(0, .ref h0), (1, .int (nI vn)), (2, .int 0), (3, .int (nI (k5 + 1)))]) := lv_sub hl [2, 3, 1, 0] rfl
          exact ih4 (k5 + 1) 0 _ _ _ (by omega) (Or.inl ⟨rfl, fun q h1 h2 => by by_cases e9 : q = k5; (rw [e9]; exact c_25); (exact (hv1.resolve_right (fun h => by (have h9 := h.1); rw [h9] at c_11; exact absurd c_11 (by decide))).2 q h1 (by omega))⟩) (by omega) hP hD hS hl
        · have t_25 : ¬ (((vF 49) ((9 * vn) + k5))).toInt = 0 := toI_neq c_25 rfl (by decide)
          refine lv_iconst (v := 1) hx hb dX12_hasVariables_28 (by decide) ?_
          refine lv_goto (tgt := 33) hx hb dX12_hasVariables_29 (by decide) ?_
          refine lv_istore_n hx hb dX12_hasVariables_33 rfl hl (by decide) rfl (fun ls (hl : lv_has ls _ ([(2, .int 1), (0, .ref h0), (1, .int (nI vn)), (3, .int (nI k5))])) => ?_)
          refine lv_iinc (v := (nI (k5 + 1))) hx hb dX12_hasVariables_34 hl (k := 3) rfl (nI_add k5 1) (by decide) rfl (fun ls (hl : lv_has ls _ ([(3, .int (nI (k5 + 1))), (2, .int 1), (0, .ref h0), (1, .int (nI vn))])) => ?_)
          refine lv_goto (tgt := 4) hx hb dX12_hasVariables_37 (by decide) ?_
          have hl : lv_has _ _ ([(0, .ref h0), (1, .int (nI vn)), (2, .int 1), (3, .int (nI (k5 + 1)))]) := lv_sub hl [2, 3, 1, 0] rfl
          exact ih4 (k5 + 1) 1 _ _ _ (by omega) (Or.inr ⟨rfl, k5, by omega, by omega, c_25⟩) (by omega) hP hD hS hl
end
section
theorem hd_yX12_byteAt_RX12 : yX12_byteAt.cls = RX12 ∧ yX12_byteAt.cls ≠ "java/lang/invoke/MethodHandle" ∧ yX12_byteAt.cls ≠ "java/lang/invoke/VarHandle" ∧ (parseMethodDescriptor yX12_byteAt.desc).map (fun d => d.parameters.length) = some 1 := by decide +kernel
theorem dX12_takeNumber_0 : decode cX12_takeNumber 0 = .ok (.iconst 0, 1) := dk_3 (by decide +kernel)
theorem dX12_takeNumber_1 : decode cX12_takeNumber 1 = .ok (.istore_n 1, 1) := dk_60 (by decide +kernel)
theorem dX12_takeNumber_2 : decode cX12_takeNumber 2 = .ok (.aload_n 0, 1) := dk_42 (by decide +kernel)
theorem dX12_takeNumber_3 : decode cX12_takeNumber 3 = .ok (.aload_n 0, 1) := dk_42 (by decide +kernel)
theorem dX12_takeNumber_4 : decode cX12_takeNumber 4 = .ok (.getfield 485, 3) := dk_180 (by decide +kernel)
theorem dX12_takeNumber_7 : decode cX12_takeNumber 7 = .ok (.invokevirtual 482, 3) := dk_182 (by decide +kernel)
theorem dX12_takeNumber_10 : decode cX12_takeNumber 10 = .ok (.invokestatic 503, 3) := dk_184 (by decide +kernel)
theorem dX12_takeNumber_13 : decode cX12_takeNumber 13 = .ok (.ifCond .eq 47, 3) := dk_153 (by decide +kernel)
theorem dX12_takeNumber_16 : decode cX12_takeNumber 16 = .ok (.aload_n 0, 1) := dk_42 (by decide +kernel)
theorem dX12_takeNumber_17 : decode cX12_takeNumber 17 = .ok (.getfield 485, 3) := dk_180 (by decide +kernel)
theorem dX12_takeNumber_20 : decode cX12_takeNumber 20 = .ok (.aload_n 0, 1) := dk_42 (by decide +kernel)
theorem dX12_takeNumber_21 : decode cX12_takeNumber 21 = .ok (.getfield 488, 3) := dk_180 (by decide +kernel)
theorem dX12_takeNumber_24 : decode cX12_takeNumber 24 = .ok (.isub, 1) := dk_100 (by decide +kernel)
theorem dX12_takeNumber_25 : decode cX12_takeNumber 25 = .ok (.bipush 6, 2) := dk_16 (by decide +kernel)
theorem dX12_takeNumber_27 : decode cX12_takeNumber 27 = .ok (.if_icmp .ge 20, 3) := dk_162 (by decide +kernel)
theorem dX12_takeNumber_30 : decode cX12_takeNumber 30 = .ok (.bipush 10, 2) := dk_16 (by decide +kernel)
theorem dX12_takeNumber_32 : decode cX12_takeNumber 32 = .ok (.iload_n 1, 1) := dk_27 (by decide +kernel)
theorem dX12_takeNumber_33 : decode cX12_takeNumber 33 = .ok (.imul, 1) := dk_104 (by decide +kernel)
theorem dX12_takeNumber_34 : decode cX12_takeNumber 34 = .ok (.aload_n 0, 1) := dk_42 (by decide +kernel)
theorem dX12_takeNumber_35 : decode cX12_takeNumber 35 = .ok (.aload_n 0, 1) := dk_42 (by decide +kernel)
theorem dX12_takeNumber_36 : decode cX12_takeNumber 36 = .ok (.getfield 485, 3) := dk_180 (by decide +kernel)
theorem dX12_takeNumber_39 : decode cX12_takeNumber 39 = .ok (.invokevirtual 482, 3) := dk_182 (by decide +kernel)
theorem dX12_takeNumber_42 : decode cX12_takeNumber 42 = .ok (.iadd, 1) := dk_96 (by decide +kernel)
theorem dX12_takeNumber_43 : decode cX12_takeNumber 43 = .ok (.bipush 48, 2) := dk_16 (by decide +kernel)
theorem dX12_takeNumber_45 : decode cX12_takeNumber 45 = .ok (.isub, 1) := dk_100 (by decide +kernel)
theorem dX12_takeNumber_46 : decode cX12_takeNumber 46 = .ok (.istore_n 1, 1) := dk_60 (by decide +kernel)
theorem dX12_takeNumber_47 : decode cX12_takeNumber 47 = .ok (.aload_n 0, 1) := dk_42 (by decide +kernel)
theorem dX12_takeNumber_48 : decode cX12_takeNumber 48 = .ok (.dup, 1) := dk_89 (by decide +kernel)
theorem dX12_takeNumber_49 : decode cX12_takeNumber 49 = .ok (.getfield 485, 3) := dk_180 (by decide +kernel)
theorem dX12_takeNumber_52 : decode cX12_takeNumber 52 = .ok (.iconst 1, 1) := dk_4 (by decide +kernel)
theorem dX12_takeNumber_53 : decode cX12_takeNumber 53 = .ok (.iadd, 1) := dk_96 (by decide +kernel)
theorem dX12_takeNumber_54 : decode cX12_takeNumber 54 = .ok (.putfield 485, 3) := dk_181 (by decide +kernel)
theorem dX12_takeNumber_57 : decode cX12_takeNumber 57 = .ok (.goto (-55), 3) := dk_167 (by decide +kernel)
theorem dX12_takeNumber_60 : decode cX12_takeNumber 60 = .ok (.aload_n 0, 1) := dk_42 (by decide +kernel)
theorem dX12_takeNumber_61 : decode cX12_takeNumber 61 = .ok (.iload_n 1, 1) := dk_27 (by decide +kernel)
theorem dX12_takeNumber_62 : decode cX12_takeNumber 62 = .ok (.putfield 491, 3) := dk_181 (by decide +kernel)
theorem dX12_takeNumber_65 : decode cX12_takeNumber 65 = .ok (.aload_n 0, 1) := dk_42 (by decide +kernel)
theorem dX12_takeNumber_66 : decode cX12_takeNumber 66 = .ok (.aload_n 0, 1) := dk_42 (by decide +kernel)
theorem dX12_takeNumber_67 : decode cX12_takeNumber 67 = .ok (.getfield 485, 3) := dk_180 (by decide +kernel)
theorem dX12_takeNumber_70 : decode cX12_takeNumber 70 = .ok (.aload_n 0, 1) := dk_42 (by decide +kernel)
theorem dX12_takeNumber_71 : decode cX12_takeNumber 71 = .ok (.getfield 488, 3) := dk_180 (by decide +kernel)
theorem dX12_takeNumber_74 : decode cX12_takeNumber 74 = .ok (.isub, 1) := dk_100 (by decide +kernel)
theorem dX12_takeNumber_75 : decode cX12_takeNumber 75 = .ok (.bipush 6, 2) := dk_16 (by decide +kernel)
theorem dX12_takeNumber_77 : decode cX12_takeNumber 77 = .ok (.if_icmp .le 7, 3) := dk_164 (by decide +kernel)
theorem dX12_takeNumber_80 : decode cX12_takeNumber 80 = .ok (.iconst 5, 1) := dk_8 (by decide +kernel)
theorem dX12_takeNumber_81 : decode cX12_takeNumber 81 = .ok (.goto 4, 3) := dk_167 (by decide +kernel)
theorem dX12_takeNumber_84 : decode cX12_takeNumber 84 = .ok (.iconst 3, 1) := dk_6 (by decide +kernel)
theorem dX12_takeNumber_85 : decode cX12_takeNumber 85 = .ok (.putfield 494, 3) := dk_181 (by decide +kernel)
theorem dX12_takeNumber_88 : decode cX12_takeNumber 88 = .ok (.return_, 1) := dk_177 (by decide +kernel)
def wsRX12_takeNumber : List Cond := .code yX12_takeNumber cX12_takeNumber 2 none :: ([.fieldLink RX12 485 "OptimaWorksModel" "at0" "I", .fieldLink RX12 488 "OptimaWorksModel" "from" "I", .fieldLink RX12 491 "OptimaWorksModel" "sign0" "I", .fieldLink RX12 494 "OptimaWorksModel" "word" "I"] ++ wsX120 ++ (wsV RX12 482 RX12 yX12_byteAt wsRX12_byteAt) ++ (va_wsS RX12 503 yX12_isDigit wsRX12_isDigit))
theorem iwsRX12_takeNumber_in12 : ∀ w ∈ wsX120, w ∈ wsRX12_takeNumber := fun _ h => List.mem_cons_of_mem _ (List.mem_append_left _ (List.mem_append_left _ (List.mem_append_right _ h)))
theorem gwsRX12_takeNumber_0 : GoodIn wsRX12_takeNumber (wsV RX12 482 RX12 yX12_byteAt wsRX12_byteAt) := goodIn_sub (fun _ h => List.mem_cons_of_mem _ (List.mem_append_left _ (List.mem_append_right _ h))) (gdV (by decide +kernel) gdwsRX12_byteAt)
theorem gwsRX12_takeNumber_1 : GoodIn wsRX12_takeNumber (va_wsS RX12 503 yX12_isDigit wsRX12_isDigit) := goodIn_sub (fun _ h => List.mem_cons_of_mem _ (List.mem_append_right _ h)) (gdS (by decide +kernel) gdwsRX12_isDigit)
theorem gdwsRX12_takeNumber : wsRX12_takeNumber.all goodWord = true := gdC rfl (gdA (gdA (gdA (by decide +kernel : ([.fieldLink RX12 485 "OptimaWorksModel" "at0" "I", .fieldLink RX12 488 "OptimaWorksModel" "from" "I", .fieldLink RX12 491 "OptimaWorksModel" "sign0" "I", .fieldLink RX12 494 "OptimaWorksModel" "word" "I"] : List Cond).all goodWord = true) gdwsX120) (gdV (by decide +kernel) gdwsRX12_byteAt)) (gdS (by decide +kernel) gdwsRX12_isDigit))
theorem hm_r_X12_takeNumber_0 : (.fieldLink RX12 485 "OptimaWorksModel" "at0" "I" : Cond) ∈ wsRX12_takeNumber := by decide +kernel
theorem hm_r_X12_takeNumber_1 : (.fieldLink RX12 488 "OptimaWorksModel" "from" "I" : Cond) ∈ wsRX12_takeNumber := by decide +kernel
theorem hm_r_X12_takeNumber_2 : (.fieldLink RX12 494 "OptimaWorksModel" "word" "I" : Cond) ∈ wsRX12_takeNumber := by decide +kernel
set_option maxHeartbeats 4000000 in
set_option maxRecDepth 100000 in
/-- takeNumber() -/
theorem r_X12_takeNumber (l : Launch) (dC : Nat → ClassId) (dI : Nat → Nat → Nat) (a : Nat → Nat) (k : Nat → ClassId) (h0 : Nat) (vi : Nat → Int32) (vj : Nat → Int64) (vF : Nat → Nat → Int32) (vG : Nat → Nat → Int64) (tp : Nat) (an : Nat) (fn : Nat) (hTp : vi 16 = nI tp) (htp : tp ≤ 4000) (ha0 : vi 17 = nI an) (hfr : vi 19 = nI fn) (hfa : fn ≤ an) (hant : an < tp) (hdg : 48 ≤ (bA tp (vF 9) an).toInt ∧ (bA tp (vF 9) an).toInt ≤ 57) (sz : Nat) : Met l yX12_takeNumber wsRX12_takeNumber ({ frames := 1, cells := 0, slots := 0, locals := 21 }) (va_Pc [.ref h0] (fun U => U.heap.size = sz ∧ va_P (dC, dI) vwCl (WR a k h0 vi vj vF vG) U.heap ∧ va_K (dC, dI) vwCl (tX12 k) U ∧ va_D (fun _ => True) (WR a k h0 vi vj vF vG))) (va_Qv (fun (u : (Nat) × (Int32) × (Int32)) => (an < (u.1)) ∧ ((u.1) ≤ tp) ∧ (0 ≤ ((u.2.1)).toInt ∧ ((u.2.1)).toInt ≤ 999999) ∧ ((u.2.2) = 3 ∨ (u.2.2) = 5)) (fun (u : (Nat) × (Int32) × (Int32)) t => va_P (dC, dI) vwCl (WR a k h0 (fT (fT (fT vi 17 (nI (u.1))) 20 (u.2.1)) 18 (u.2.2)) vj vF vG) t.heap ∧ va_D (va_A (WR a k h0 vi vj vF vG) sz) (WR a k h0 (fT (fT (fT vi 17 (nI (u.1))) 20 (u.2.1)) 18 (u.2.2)) vj vF vG)) (va_A (WR a k h0 vi vj vF vG) sz)) 0 0 (va_A (WR a k h0 vi vj vF vG) sz) := by
  refine Met.ofW (cc := cX12_takeNumber) (maxL := 2) (ret := none) (by decide) rfl ?_
  intro p e s m args below meth c s₁ B hml hv
  obtain ⟨rfl, hsz, hP, hK, hD0⟩ := hv
  have hx := B.exec
  have hb := B.bytes
  have hr := B.returns
  have hts := atoms_spec (ws := wsRX12_takeNumber) B.pre
  have hown : s.vm.findClass RX12 = some m.cls := findClass_of_methodNamed B.named
  have hlocks := B.notSynchronized
  subst hsz
  have hD := hD0.self (sz := s.heap.size)
  generalize hAe : va_A (WR a k h0 vi vj vF vG) s.heap.size = A at hD ⊢
  have hA : ∀ q : Nat, s.heap.size ≤ q → A q := fun q h => by rw [← hAe]; exact Or.inr h
  have hS : va_S A s.heap s.heap [] := va_S.rf
  have hl := lv_entry ([.ref h0]) (n := 2) (Nat.le_of_ble_eq_true rfl)
  rw [lg_entry_eq]
  generalize (lg_sl ([.ref h0]) ++ List.replicate (2 - (lg_sl ([.ref h0])).length) Slot.unset).toArray = ls at hl ⊢
  have hl : lv_has ls 2 [(0, .ref h0)] := hl
  refine lv_iconst (v := 0) hx hb dX12_takeNumber_0 (by decide) ?_
  refine lv_istore_n hx hb dX12_takeNumber_1 rfl hl (by decide) rfl (fun ls (hl : lv_has ls _ ([(1, .int 0), (0, .ref h0)])) => ?_)
  have e9 : fT vi 17 (vi 17) = vi := by funext q9; by_cases h9_17 : q9 = 17; (subst h9_17; exact (fT_eq _ _ _).trans (Eq.trans (by first | with_reducible rfl | with_reducible assumption | (symm; with_reducible assumption) | rfl | assumption | (symm; assumption) | (subst_vars; rfl)) (Eq.refl _).symm)); exact (fT_ne _ _ h9_17).trans (Eq.refl _).symm
  have hP := wr_Pi e9 hP
  have hD := wr_Di e9 hD
  clear e9
  have hl : lv_has _ _ ([(0, .ref h0), (1, .int 0)]) := lv_sub hl [1, 0] rfl
  refine (fun (loop : ∀ (n9 : Nat) (a5 : Nat) (vq : Int32) (ia : Int32) (H : Heap) (locs : List Loc) (ls : Array Slot), (ia = nI a5) → (an ≤ a5 ∧ a5 ≤ tp) → (0 ≤ vq.toInt ∧ vq.toInt < p10 (a5 - fn)) →  (tp < a5 + n9) → va_P (dC, dI) vwCl (WR a k h0 (fT vi 17 ia) vj vF vG) H → va_D A (WR a k h0 (fT vi 17 ia) vj vF vG) → va_S A s.heap H locs → lv_has ls 2 [(0, .ref h0), (1, .int vq)] → W p l e _ s m _ below meth c H locs 0 0 _ (F0 m 2 ls [])) => loop (tp + 1) an 0 (vi 17) _ _ _ (ha0) (by omega) (by (have h9 := p10_le 0); (have z9 : (0 : Int32).toInt = 0 := by decide); (have q9 : 1 ≤ p10 (an - fn) := p10_one _); omega) (by omega) hP hD hS hl) ?_
  intro n9
  induction n9 with
  | zero => intro a5 vq ia H locs ls hia ha5 hvq hf9; exact False.elim (by omega)
  | succ n9 ih2 =>
    intro a5 vq ia H locs ls hia ha5 hvq hf2 hP hD hS hl
    have hp9 := p10_le (a5 - fn)
    subst hia
    refine lv_aload_n hx hb dX12_takeNumber_2 rfl (lv_at hl 0 rfl) ?_
    refine lv_aload_n hx hb dX12_takeNumber_3 rfl (lv_at hl 0 rfl) ?_
    refine va_get (D := (dC, dI)) (ci := 12) (v := .int (nI a5)) (C := RX12) (T := TX12) (N := 163) (fs := fM (vS a (fT vi 17 (nI a5)) vj)) hx hb hts iwsRX12_takeNumber_in12 hown hK hP 0 rfl rfl 17 (by decide) (hts _ hm_r_X12_takeNumber_0) (fun _ h9 => h9) rfl dX12_takeNumber_4 ?_
    have hFc := allFree hD hS hA
    refine va_calli (va_runV (As := [.int (nI a5)]) (rest := []) ⟨hx, hb, hml, hown, hts⟩ (r_X12_byteAt l dC dI a k h0 (fT vi 17 (nI a5)) vj vF vG a5 tp (by first | with_reducible assumption | decide | omega | rfl | assumption) (by first | with_reducible assumption | decide | omega | rfl | assumption) (by first | with_reducible assumption | decide | omega | rfl | assumption) H.size) (cwV 1 hts gwsRX12_takeNumber_0 rfl rfl rfl hd_yX12_byteAt_RX12 (by decide +kernel)) (fz_pre (va_recv hK hP (ci := 12) (q0 := 0) rfl rfl) hP hK hD) rfl rfl hl.1 rfl (lv_room (Nat.le_of_ble_eq_true rfl)) dX12_takeNumber_7 (by decide +kernel)) hS (fun q _ h => hFc q h) hFc (fun r7 u t9_ H locs ht hvm hw9 hB9 hz1 hk1 hS => ?_)
    have hP : va_P (dC, dI) vwCl (WR a k h0 (fT vi 17 (nI a5)) vj vF vG) H := fz_P ht hB9.1
    have hD := fz_sd hP (hB9.2.weaken (fun _ q _ h => hFc q.1 h)) rfl
    obtain rfl := hw9
    have bi := bA_in tp (vF 9) a5
    have hFc := noneFree hS hA
    refine va_calli (va_runS (As := [.int (bA tp (vF 9) a5)]) (rest := []) ⟨hx, hb, hml, hown, hts⟩ (r_X12_isDigit l dC dI (bA tp (vF 9) a5) H.size) (va_cwS 1 hts gwsRX12_takeNumber_1 rfl rfl rfl (by decide +kernel) ⟨by decide +kernel, by decide +kernel⟩) ⟨fun a U g mk q => by obtain ⟨q0, q1, qP, qK, qD⟩ := q; exact ⟨q0, q1, qP, va_K.moved (u := U) (U := U.calling g mk a) (Vm.Alike.refl U.vm) qK, qD⟩, fun U hU9 hW => ⟨rfl, by rw [hU9], by rw [hU9]; exact nilP, va_K.moved hW.alike (hK.sub (tys' := []) [] rfl), nilD⟩⟩ rfl rfl hl.1 rfl (lv_room (Nat.le_of_ble_eq_true rfl)) dX12_takeNumber_10 (by decide +kernel)) hS (fun q _ h => hFc q h) hFc (fun r10 u t9_ H1 locs ht hvm hw9 hB9 hz1 hk1 hS => ?_)
    have hP := keepAll hP hk1
    clear hB9
    generalize H1 = H at hP hS ⊢
    have hP : va_P (dC, dI) vwCl (WR a k h0 (fT vi 17 (nI a5)) vj vF vG) H := hP
    have hD := fz_sd hP (hD) rfl
    rcases hw9 with ⟨rfl, f10_0⟩ | ⟨rfl, f10_0⟩
    · refine lv_if_eq (tgt := 60) hx hb dX12_takeNumber_13 (by decide) (fun c9 => absurd c9 (by decide)) (fun _ => ?_)
      refine lv_aload_n hx hb dX12_takeNumber_16 rfl (lv_at hl 0 rfl) ?_
      refine va_get (D := (dC, dI)) (ci := 12) (v := .int (nI a5)) (C := RX12) (T := TX12) (N := 163) (fs := fM (vS a (fT vi 17 (nI a5)) vj)) hx hb hts iwsRX12_takeNumber_in12 hown hK hP 0 rfl rfl 17 (by decide) (hts _ hm_r_X12_takeNumber_0) (fun _ h9 => h9) rfl dX12_takeNumber_17 ?_
      refine lv_aload_n hx hb dX12_takeNumber_20 rfl (lv_at hl 0 rfl) ?_
      refine va_get (D := (dC, dI)) (ci := 12) (v := .int (vi 19)) (C := RX12) (T := TX12) (N := 163) (fs := fM (vS a (fT vi 17 (nI a5)) vj)) hx hb hts iwsRX12_takeNumber_in12 hown hK hP 0 rfl rfl 19 (by decide) (hts _ hm_r_X12_takeNumber_1) (fun _ h9 => h9) rfl dX12_takeNumber_21 ?_
      refine lv_topi (fun y1 hy1 => ?_)
      obtain rfl : (nI fn) = y1 := (hy1.trans (hfr)).symm
      refine lv_isub hx hb dX12_takeNumber_24 ?_
      refine lv_topi (fun y2 hy2 => ?_)
      obtain rfl : (nI (a5 - fn)) = y2 := (hy2.trans (pk_sub (a := a5) (b := fn) (by omega))).symm
      refine lv_bipush (v := 6) hx hb dX12_takeNumber_25 (by decide) ?_
      refine lv_icmp_ge (tgt := 47) hx hb dX12_takeNumber_27 (by decide) (fun c_27 => ?_) (fun c_27 => ?_)
      · have t_27 : (((a5 - fn) : Nat) : Int) ≥ 6 := toI_ge c_27 (nI_toInt (by omega)) (by decide)
        refine lv_aload_n hx hb dX12_takeNumber_47 rfl (lv_at hl 0 rfl) ?_
        refine lv_dup hx hb dX12_takeNumber_48 rfl ?_
        refine va_get (D := (dC, dI)) (ci := 12) (v := .int (nI a5)) (C := RX12) (T := TX12) (N := 163) (fs := fM (vS a (fT vi 17 (nI a5)) vj)) hx hb hts iwsRX12_takeNumber_in12 hown hK hP 0 rfl rfl 17 (by decide) (hts _ hm_r_X12_takeNumber_0) (fun _ h9 => h9) rfl dX12_takeNumber_49 ?_
        refine lv_iconst (v := 1) hx hb dX12_takeNumber_52 (by decide) ?_
        refine lv_iadd hx hb dX12_takeNumber_53 ?_
        refine lv_topi (fun y3 hy3 => ?_)
        obtain rfl : (nI (a5 + 1)) = y3 := (hy3.trans (nI_add a5 1)).symm
        refine va_put (D := (dC, dI)) (ci := 12) (v := .int (nI (a5 + 1))) (ty := .int) (C := RX12) (T := TX12) (N := 163) (fs := fM (vS a (fT vi 17 (nI a5)) vj)) hx hb hts iwsRX12_takeNumber_in12 tyX12 tyX12_ok nmX12 hown hK hP hD hS 0 rfl rfl 17 (by decide) (hts _ hm_r_X12_takeNumber_0) (fun _ h9 => h9) rfl (by decide +kernel) rfl rfl (Nat.le_of_ble_eq_true rfl) dX12_takeNumber_54 (fun H locs hP hD hS => ?_)
        have e9 : fT vi 17 (nI (a5 + 1)) = fT (fT vi 17 (nI a5)) 17 (nI (a5 + 1)) := (fT_sm _ _ _ _).symm
        have hP := wr_Pi e9 (fz_w (WR_i 17 _ rfl) hP)
        have hD := wr_Di e9 (fz_wD (WR_i 17 _ rfl) hD)
        clear e9
        refine lv_goto (tgt := 2) hx hb dX12_takeNumber_57 (by decide) ?_
        have hl : lv_has _ _ ([(0, .ref h0), (1, .int vq)]) := lv_sub hl [0, 1] rfl
        exact ih2 (a5 + 1) vq (nI (a5 + 1)) _ _ _ (rfl) (by omega) (by (have h8 := p10_big (k := a5 - fn) (by omega)); (have h9 := p10_big (k := a5 + 1 - fn) (by omega)); omega) (by omega) hP hD hS hl
      · have t_27 : ¬ (((a5 - fn) : Nat) : Int) ≥ 6 := toI_nge c_27 (nI_toInt (by omega)) (by decide)
        refine lv_bipush (v := 10) hx hb dX12_takeNumber_30 (by decide) ?_
        refine lv_iload_n hx hb dX12_takeNumber_32 rfl (lv_at hl 1 rfl) ?_
        refine lv_imul hx hb dX12_takeNumber_33 ?_
        refine lv_aload_n hx hb dX12_takeNumber_34 rfl (lv_at hl 0 rfl) ?_
        refine lv_aload_n hx hb dX12_takeNumber_35 rfl (lv_at hl 0 rfl) ?_
        refine va_get (D := (dC, dI)) (ci := 12) (v := .int (nI a5)) (C := RX12) (T := TX12) (N := 163) (fs := fM (vS a (fT vi 17 (nI a5)) vj)) hx hb hts iwsRX12_takeNumber_in12 hown hK hP 0 rfl rfl 17 (by decide) (hts _ hm_r_X12_takeNumber_0) (fun _ h9 => h9) rfl dX12_takeNumber_36 ?_
        have hFc := allFree hD hS hA
        refine va_calli (va_runV (As := [.int (nI a5)]) (rest := [.int (10 * vq)]) ⟨hx, hb, hml, hown, hts⟩ (r_X12_byteAt l dC dI a k h0 (fT vi 17 (nI a5)) vj vF vG a5 tp (by first | with_reducible assumption | decide | omega | rfl | assumption) (by first | with_reducible assumption | decide | omega | rfl | assumption) (by first | with_reducible assumption | decide | omega | rfl | assumption) H.size) (cwV 1 hts gwsRX12_takeNumber_0 rfl rfl rfl hd_yX12_byteAt_RX12 (by decide +kernel)) (fz_pre (va_recv hK hP (ci := 12) (q0 := 0) rfl rfl) hP hK hD) rfl rfl hl.1 rfl (lv_room (Nat.le_of_ble_eq_true rfl)) dX12_takeNumber_39 (by decide +kernel)) hS (fun q _ h => hFc q h) hFc (fun r39 u t9_ H locs ht hvm hw9 hB9 hz1 hk1 hS => ?_)
        have hP : va_P (dC, dI) vwCl (WR a k h0 (fT vi 17 (nI a5)) vj vF vG) H := fz_P ht hB9.1
        have hD := fz_sd hP (hB9.2.weaken (fun _ q _ h => hFc q.1 h)) rfl
        obtain rfl := hw9
        refine lv_iadd hx hb dX12_takeNumber_42 ?_
        refine lv_bipush (v := 48) hx hb dX12_takeNumber_43 (by decide) ?_
        refine lv_isub hx hb dX12_takeNumber_45 ?_
        have e1 : (10 * vq).toInt = 10 * vq.toInt := mul10 (by omega)
        have e2 : (10 * vq + (bA tp (vF 9) a5)).toInt = 10 * vq.toInt + ((bA tp (vF 9) a5)).toInt := by rw [addB (by omega) (by omega), e1]
        obtain ⟨v9, hv9⟩ : ∃ v9, v9 = (((10 * vq) + (bA tp (vF 9) a5)) - 48) := ⟨_, rfl⟩
        have e3 : v9.toInt = 10 * vq.toInt + ((bA tp (vF 9) a5)).toInt - 48 := by rw [hv9, subB (by omega) (by decide), e2]; rfl
        refine lv_topi (fun y4 hy4 => ?_)
        obtain rfl : v9 = y4 := (hy4.trans (hv9.symm)).symm
        refine lv_istore_n hx hb dX12_takeNumber_46 rfl hl (by decide) rfl (fun ls (hl : lv_has ls _ ([(1, .int v9), (0, .ref h0)])) => ?_)
        refine lv_aload_n hx hb dX12_takeNumber_47 rfl (lv_at hl 1 rfl) ?_
        refine lv_dup hx hb dX12_takeNumber_48 rfl ?_
        refine va_get (D := (dC, dI)) (ci := 12) (v := .int (nI a5)) (C := RX12) (T := TX12) (N := 163) (fs := fM (vS a (fT vi 17 (nI a5)) vj)) hx hb hts iwsRX12_takeNumber_in12 hown hK hP 0 rfl rfl 17 (by decide) (hts _ hm_r_X12_takeNumber_0) (fun _ h9 => h9) rfl dX12_takeNumber_49 ?_
        refine lv_iconst (v := 1) hx hb dX12_takeNumber_52 (by decide) ?_
        refine lv_iadd hx hb dX12_takeNumber_53 ?_
        refine lv_topi (fun y5 hy5 => ?_)
        obtain rfl : (nI (a5 + 1)) = y5 := (hy5.trans (nI_add a5 1)).symm
        refine va_put (D := (dC, dI)) (ci := 12) (v := .int (nI (a5 + 1))) (ty := .int) (C := RX12) (T := TX12) (N := 163) (fs := fM (vS a (fT vi 17 (nI a5)) vj)) hx hb hts iwsRX12_takeNumber_in12 tyX12 tyX12_ok nmX12 hown hK hP hD hS 0 rfl rfl 17 (by decide) (hts _ hm_r_X12_takeNumber_0) (fun _ h9 => h9) rfl (by decide +kernel) rfl rfl (Nat.le_of_ble_eq_true rfl) dX12_takeNumber_54 (fun H locs hP hD hS => ?_)
        have e9 : fT vi 17 (nI (a5 + 1)) = fT (fT vi 17 (nI a5)) 17 (nI (a5 + 1)) := (fT_sm _ _ _ _).symm
        have hP := wr_Pi e9 (fz_w (WR_i 17 _ rfl) hP)
        have hD := wr_Di e9 (fz_wD (WR_i 17 _ rfl) hD)
        clear e9
        refine lv_goto (tgt := 2) hx hb dX12_takeNumber_57 (by decide) ?_
        have hl : lv_has _ _ ([(0, .ref h0), (1, .int v9)]) := lv_sub hl [1, 0] rfl
        exact ih2 (a5 + 1) v9 (nI (a5 + 1)) _ _ _ (rfl) (by omega) (by (have h8 := p10_step (a5 - fn) (by omega)); rw [show a5 - fn + 1 = a5 + 1 - fn by omega] at h8; omega) (by omega) hP hD hS hl
    · refine lv_if_eq (tgt := 60) hx hb dX12_takeNumber_13 (by decide) (fun _ => ?_) (fun c9 => absurd (by decide) c9)
      refine lv_aload_n hx hb dX12_takeNumber_60 rfl (lv_at hl 0 rfl) ?_
      refine lv_iload_n hx hb dX12_takeNumber_61 rfl (lv_at hl 1 rfl) ?_
      refine va_put (D := (dC, dI)) (ci := 12) (v := .int vq) (ty := .int) (C := RX12) (T := TX12) (N := 163) (fs := fM (vS a (fT vi 17 (nI a5)) vj)) hx hb hts iwsRX12_takeNumber_in12 tyX12 tyX12_ok nmX12 hown hK hP hD hS 0 rfl rfl 20 (by decide) (hts (.fieldLink RX12 491 "OptimaWorksModel" "sign0" "I") (by decide +kernel)) (fun _ h9 => h9) rfl (by decide +kernel) rfl rfl (Nat.le_of_ble_eq_true rfl) dX12_takeNumber_62 (fun H locs hP hD hS => ?_)
      have hP : va_P (dC, dI) vwCl (WR a k h0 (fT (fT vi 17 (nI a5)) 20 vq) vj vF vG) H := fz_w (WR_i 20 _ rfl) hP
      have hD : va_D A (WR a k h0 (fT (fT vi 17 (nI a5)) 20 vq) vj vF vG) := fz_wD (WR_i 20 _ rfl) hD
      refine lv_aload_n hx hb dX12_takeNumber_65 rfl (lv_at hl 0 rfl) ?_
      refine lv_aload_n hx hb dX12_takeNumber_66 rfl (lv_at hl 0 rfl) ?_
      refine va_get (D := (dC, dI)) (ci := 12) (v := .int (nI a5)) (C := RX12) (T := TX12) (N := 163) (fs := fM (vS a (fT (fT vi 17 (nI a5)) 20 vq) vj)) hx hb hts iwsRX12_takeNumber_in12 hown hK hP 0 rfl rfl 17 (by decide) (hts _ hm_r_X12_takeNumber_0) (fun _ h9 => h9) rfl dX12_takeNumber_67 ?_
      refine lv_aload_n hx hb dX12_takeNumber_70 rfl (lv_at hl 0 rfl) ?_
      refine va_get (D := (dC, dI)) (ci := 12) (v := .int (vi 19)) (C := RX12) (T := TX12) (N := 163) (fs := fM (vS a (fT (fT vi 17 (nI a5)) 20 vq) vj)) hx hb hts iwsRX12_takeNumber_in12 hown hK hP 0 rfl rfl 19 (by decide) (hts _ hm_r_X12_takeNumber_1) (fun _ h9 => h9) rfl dX12_takeNumber_71 ?_
      refine lv_topi (fun y6 hy6 => ?_)
      obtain rfl : (nI fn) = y6 := (hy6.trans (hfr)).symm
      refine lv_isub hx hb dX12_takeNumber_74 ?_
      refine lv_topi (fun y7 hy7 => ?_)
      obtain rfl : (nI (a5 - fn)) = y7 := (hy7.trans (pk_sub (a := a5) (b := fn) (by omega))).symm
      refine lv_bipush (v := 6) hx hb dX12_takeNumber_75 (by decide) ?_
      refine lv_icmp_le (tgt := 84) hx hb dX12_takeNumber_77 (by decide) (fun c_77 => ?_) (fun c_77 => ?_)
      · have t_77 : (((a5 - fn) : Nat) : Int) ≤ 6 := toI_le c_77 (nI_toInt (by omega)) (by decide)
        refine lv_iconst (v := 3) hx hb dX12_takeNumber_84 (by decide) ?_
        refine va_put (D := (dC, dI)) (ci := 12) (v := .int 3) (ty := .int) (C := RX12) (T := TX12) (N := 163) (fs := fM (vS a (fT (fT vi 17 (nI a5)) 20 vq) vj)) hx hb hts iwsRX12_takeNumber_in12 tyX12 tyX12_ok nmX12 hown hK hP hD hS 0 rfl rfl 18 (by decide) (hts _ hm_r_X12_takeNumber_2) (fun _ h9 => h9) rfl (by decide +kernel) rfl rfl (Nat.le_of_ble_eq_true rfl) dX12_takeNumber_85 (fun H locs hP hD hS => ?_)
        have hP : va_P (dC, dI) vwCl (WR a k h0 (fT (fT (fT vi 17 (nI a5)) 20 vq) 18 3) vj vF vG) H := fz_w (WR_i 18 _ rfl) hP
        have hD : va_D A (WR a k h0 (fT (fT (fT vi 17 (nI a5)) 20 vq) 18 3) vj vF vG) := fz_wD (WR_i 18 _ rfl) hD
        refine W.widen (k := 0) (n := 0) (by decide +kernel) (by decide +kernel) ?_
        exact W.vret hx hb hr (fun t9_ ht hW => ⟨⟨(a5, vq, 3), rfl, by (try dsimp only); exact ⟨by rcases Nat.lt_or_ge an a5 with h9 | h9; (exact h9); (exfalso; (have e9 : a5 = an := by omega); rw [e9] at f10_0; exact f10_0 hdg), by omega, by omega, Or.inl rfl⟩, by rw [ht]; exact hP, hD⟩, hS.F ht⟩) hS.2.2 dX12_takeNumber_88
      · have t_77 : ¬ (((a5 - fn) : Nat) : Int) ≤ 6 := toI_nle c_77 (nI_toInt (by omega)) (by decide)
        refine lv_iconst (v := 5) hx hb dX12_takeNumber_80 (by decide) ?_
        refine lv_goto (tgt := 85) hx hb dX12_takeNumber_81 (by decide) ?_
        refine va_put (D := (dC, dI)) (ci := 12) (v := .int 5) (ty := .int) (C := RX12) (T := TX12) (N := 163) (fs := fM (vS a (fT (fT vi 17 (nI a5)) 20 vq) vj)) hx hb hts iwsRX12_takeNumber_in12 tyX12 tyX12_ok nmX12 hown hK hP hD hS 0 rfl rfl 18 (by decide) (hts _ hm_r_X12_takeNumber_2) (fun _ h9 => h9) rfl (by decide +kernel) rfl rfl (Nat.le_of_ble_eq_true rfl) dX12_takeNumber_85 (fun H locs hP hD hS => ?_)
        have hP : va_P (dC, dI) vwCl (WR a k h0 (fT (fT (fT vi 17 (nI a5)) 20 vq) 18 5) vj vF vG) H := fz_w (WR_i 18 _ rfl) hP
        have hD : va_D A (WR a k h0 (fT (fT (fT vi 17 (nI a5)) 20 vq) 18 5) vj vF vG) := fz_wD (WR_i 18 _ rfl) hD
        refine W.widen (k := 0) (n := 0) (by decide +kernel) (by decide +kernel) ?_
        exact W.vret hx hb hr (fun t9_ ht hW => ⟨⟨(a5, vq, 5), rfl, by (try dsimp only); exact ⟨by rcases Nat.lt_or_ge an a5 with h9 | h9; (exact h9); (exfalso; (have e9 : a5 = an := by omega); rw [e9] at f10_0; exact f10_0 hdg), by omega, by omega, Or.inr rfl⟩, by rw [ht]; exact hP, hD⟩, hS.F ht⟩) hS.2.2 dX12_takeNumber_88
end

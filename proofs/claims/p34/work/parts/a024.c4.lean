theorem dX12_carry_0 : decode cX12_carry 0 = .ok (.lconst 0, 1) := dk_9 (by decide +kernel)
theorem dX12_carry_1 : decode cX12_carry 1 = .ok (.lstore 4, 2) := dk_55 (by decide +kernel)
theorem dX12_carry_3 : decode cX12_carry 3 = .ok (.iconst 0, 1) := dk_3 (by decide +kernel)
theorem dX12_carry_4 : decode cX12_carry 4 = .ok (.istore 6, 2) := dk_54 (by decide +kernel)
theorem dX12_carry_6 : decode cX12_carry 6 = .ok (.iload 6, 2) := dk_21 (by decide +kernel)
theorem dX12_carry_8 : decode cX12_carry 8 = .ok (.iload_n 2, 1) := dk_28 (by decide +kernel)
theorem dX12_carry_9 : decode cX12_carry 9 = .ok (.if_icmp .ge 49, 3) := dk_162 (by decide +kernel)
theorem dX12_carry_12 : decode cX12_carry 12 = .ok (.aload_n 0, 1) := dk_42 (by decide +kernel)
theorem dX12_carry_13 : decode cX12_carry 13 = .ok (.getfield 13, 3) := dk_180 (by decide +kernel)
theorem dX12_carry_16 : decode cX12_carry 16 = .ok (.iload 6, 2) := dk_21 (by decide +kernel)
theorem dX12_carry_18 : decode cX12_carry 18 = .ok (.laload, 1) := dk_47 (by decide +kernel)
theorem dX12_carry_19 : decode cX12_carry 19 = .ok (.lload 4, 2) := dk_22 (by decide +kernel)
theorem dX12_carry_21 : decode cX12_carry 21 = .ok (.ladd, 1) := dk_97 (by decide +kernel)
theorem dX12_carry_22 : decode cX12_carry 22 = .ok (.lstore 7, 2) := dk_55 (by decide +kernel)
theorem dX12_carry_24 : decode cX12_carry 24 = .ok (.lload 7, 2) := dk_22 (by decide +kernel)
theorem dX12_carry_26 : decode cX12_carry 26 = .ok (.bipush 28, 2) := dk_16 (by decide +kernel)
theorem dX12_carry_28 : decode cX12_carry 28 = .ok (.lshr, 1) := dk_123 (by decide +kernel)
theorem dX12_carry_29 : decode cX12_carry 29 = .ok (.lstore 4, 2) := dk_55 (by decide +kernel)
theorem dX12_carry_31 : decode cX12_carry 31 = .ok (.aload_n 0, 1) := dk_42 (by decide +kernel)
theorem dX12_carry_32 : decode cX12_carry 32 = .ok (.getfield 7, 3) := dk_180 (by decide +kernel)
theorem dX12_carry_35 : decode cX12_carry 35 = .ok (.bipush 24, 2) := dk_16 (by decide +kernel)
theorem dX12_carry_37 : decode cX12_carry 37 = .ok (.iload_n 1, 1) := dk_27 (by decide +kernel)
theorem dX12_carry_38 : decode cX12_carry 38 = .ok (.imul, 1) := dk_104 (by decide +kernel)
theorem dX12_carry_39 : decode cX12_carry 39 = .ok (.iconst 2, 1) := dk_5 (by decide +kernel)
theorem dX12_carry_40 : decode cX12_carry 40 = .ok (.iadd, 1) := dk_96 (by decide +kernel)
theorem dX12_carry_41 : decode cX12_carry 41 = .ok (.iload 6, 2) := dk_21 (by decide +kernel)
theorem dX12_carry_43 : decode cX12_carry 43 = .ok (.iadd, 1) := dk_96 (by decide +kernel)
theorem dX12_carry_44 : decode cX12_carry 44 = .ok (.lload 7, 2) := dk_22 (by decide +kernel)
theorem dX12_carry_46 : decode cX12_carry 46 = .ok (.ldc2_w 351, 3) := dk_20 (by decide +kernel)
theorem dX12_carry_49 : decode cX12_carry 49 = .ok (.land, 1) := dk_127 (by decide +kernel)
theorem dX12_carry_50 : decode cX12_carry 50 = .ok (.l2i, 1) := dk_136 (by decide +kernel)
theorem dX12_carry_51 : decode cX12_carry 51 = .ok (.iastore, 1) := dk_79 (by decide +kernel)
theorem dX12_carry_52 : decode cX12_carry 52 = .ok (.iinc 6 1, 3) := dk_132 (by decide +kernel)
theorem dX12_carry_55 : decode cX12_carry 55 = .ok (.goto (-49), 3) := dk_167 (by decide +kernel)
theorem dX12_carry_58 : decode cX12_carry 58 = .ok (.iload_n 2, 1) := dk_28 (by decide +kernel)
theorem dX12_carry_59 : decode cX12_carry 59 = .ok (.istore 6, 2) := dk_54 (by decide +kernel)
theorem dX12_carry_61 : decode cX12_carry 61 = .ok (.lload 4, 2) := dk_22 (by decide +kernel)
theorem dX12_carry_63 : decode cX12_carry 63 = .ok (.lconst 0, 1) := dk_9 (by decide +kernel)
theorem dX12_carry_64 : decode cX12_carry 64 = .ok (.lcmp, 1) := dk_148 (by decide +kernel)
theorem dX12_carry_65 : decode cX12_carry 65 = .ok (.ifCond .le 37, 3) := dk_158 (by decide +kernel)
theorem dX12_carry_68 : decode cX12_carry 68 = .ok (.aload_n 0, 1) := dk_42 (by decide +kernel)
theorem dX12_carry_69 : decode cX12_carry 69 = .ok (.getfield 7, 3) := dk_180 (by decide +kernel)
theorem dX12_carry_72 : decode cX12_carry 72 = .ok (.bipush 24, 2) := dk_16 (by decide +kernel)
theorem dX12_carry_74 : decode cX12_carry 74 = .ok (.iload_n 1, 1) := dk_27 (by decide +kernel)
theorem dX12_carry_75 : decode cX12_carry 75 = .ok (.imul, 1) := dk_104 (by decide +kernel)
theorem dX12_carry_76 : decode cX12_carry 76 = .ok (.iconst 2, 1) := dk_5 (by decide +kernel)
theorem dX12_carry_77 : decode cX12_carry 77 = .ok (.iadd, 1) := dk_96 (by decide +kernel)
theorem dX12_carry_78 : decode cX12_carry 78 = .ok (.iload 6, 2) := dk_21 (by decide +kernel)
theorem dX12_carry_80 : decode cX12_carry 80 = .ok (.iadd, 1) := dk_96 (by decide +kernel)
theorem dX12_carry_81 : decode cX12_carry 81 = .ok (.lload 4, 2) := dk_22 (by decide +kernel)
theorem dX12_carry_83 : decode cX12_carry 83 = .ok (.ldc2_w 351, 3) := dk_20 (by decide +kernel)
theorem dX12_carry_86 : decode cX12_carry 86 = .ok (.land, 1) := dk_127 (by decide +kernel)
theorem dX12_carry_87 : decode cX12_carry 87 = .ok (.l2i, 1) := dk_136 (by decide +kernel)
theorem dX12_carry_88 : decode cX12_carry 88 = .ok (.iastore, 1) := dk_79 (by decide +kernel)
theorem dX12_carry_89 : decode cX12_carry 89 = .ok (.lload 4, 2) := dk_22 (by decide +kernel)
theorem dX12_carry_91 : decode cX12_carry 91 = .ok (.bipush 28, 2) := dk_16 (by decide +kernel)
theorem dX12_carry_93 : decode cX12_carry 93 = .ok (.lshr, 1) := dk_123 (by decide +kernel)
theorem dX12_carry_94 : decode cX12_carry 94 = .ok (.lstore 4, 2) := dk_55 (by decide +kernel)
theorem dX12_carry_96 : decode cX12_carry 96 = .ok (.iinc 6 1, 3) := dk_132 (by decide +kernel)
theorem dX12_carry_99 : decode cX12_carry 99 = .ok (.goto (-38), 3) := dk_167 (by decide +kernel)
theorem dX12_carry_102 : decode cX12_carry 102 = .ok (.iload 6, 2) := dk_21 (by decide +kernel)
theorem dX12_carry_104 : decode cX12_carry 104 = .ok (.ifCond .le 26, 3) := dk_158 (by decide +kernel)
theorem dX12_carry_107 : decode cX12_carry 107 = .ok (.aload_n 0, 1) := dk_42 (by decide +kernel)
theorem dX12_carry_108 : decode cX12_carry 108 = .ok (.getfield 7, 3) := dk_180 (by decide +kernel)
theorem dX12_carry_111 : decode cX12_carry 111 = .ok (.bipush 24, 2) := dk_16 (by decide +kernel)
theorem dX12_carry_113 : decode cX12_carry 113 = .ok (.iload_n 1, 1) := dk_27 (by decide +kernel)
theorem dX12_carry_114 : decode cX12_carry 114 = .ok (.imul, 1) := dk_104 (by decide +kernel)
theorem dX12_carry_115 : decode cX12_carry 115 = .ok (.iconst 1, 1) := dk_4 (by decide +kernel)
theorem dX12_carry_116 : decode cX12_carry 116 = .ok (.iadd, 1) := dk_96 (by decide +kernel)
theorem dX12_carry_117 : decode cX12_carry 117 = .ok (.iload 6, 2) := dk_21 (by decide +kernel)
theorem dX12_carry_119 : decode cX12_carry 119 = .ok (.iadd, 1) := dk_96 (by decide +kernel)
theorem dX12_carry_120 : decode cX12_carry 120 = .ok (.iaload, 1) := dk_46 (by decide +kernel)
theorem dX12_carry_121 : decode cX12_carry 121 = .ok (.ifCond .ne 9, 3) := dk_154 (by decide +kernel)
theorem dX12_carry_124 : decode cX12_carry 124 = .ok (.iinc 6 (-1), 3) := dk_132 (by decide +kernel)
theorem dX12_carry_127 : decode cX12_carry 127 = .ok (.goto (-25), 3) := dk_167 (by decide +kernel)
theorem dX12_carry_130 : decode cX12_carry 130 = .ok (.aload_n 0, 1) := dk_42 (by decide +kernel)
theorem dX12_carry_131 : decode cX12_carry 131 = .ok (.getfield 7, 3) := dk_180 (by decide +kernel)
theorem dX12_carry_134 : decode cX12_carry 134 = .ok (.bipush 24, 2) := dk_16 (by decide +kernel)
theorem dX12_carry_136 : decode cX12_carry 136 = .ok (.iload_n 1, 1) := dk_27 (by decide +kernel)
theorem dX12_carry_137 : decode cX12_carry 137 = .ok (.imul, 1) := dk_104 (by decide +kernel)
theorem dX12_carry_138 : decode cX12_carry 138 = .ok (.iconst 1, 1) := dk_4 (by decide +kernel)
theorem dX12_carry_139 : decode cX12_carry 139 = .ok (.iadd, 1) := dk_96 (by decide +kernel)
theorem dX12_carry_140 : decode cX12_carry 140 = .ok (.iload 6, 2) := dk_21 (by decide +kernel)
theorem dX12_carry_142 : decode cX12_carry 142 = .ok (.iastore, 1) := dk_79 (by decide +kernel)
theorem dX12_carry_143 : decode cX12_carry 143 = .ok (.aload_n 0, 1) := dk_42 (by decide +kernel)
theorem dX12_carry_144 : decode cX12_carry 144 = .ok (.getfield 7, 3) := dk_180 (by decide +kernel)
theorem dX12_carry_147 : decode cX12_carry 147 = .ok (.bipush 24, 2) := dk_16 (by decide +kernel)
theorem dX12_carry_149 : decode cX12_carry 149 = .ok (.iload_n 1, 1) := dk_27 (by decide +kernel)
theorem dX12_carry_150 : decode cX12_carry 150 = .ok (.imul, 1) := dk_104 (by decide +kernel)
theorem dX12_carry_151 : decode cX12_carry 151 = .ok (.iload 6, 2) := dk_21 (by decide +kernel)
theorem dX12_carry_153 : decode cX12_carry 153 = .ok (.ifCond .ne 7, 3) := dk_154 (by decide +kernel)
theorem dX12_carry_156 : decode cX12_carry 156 = .ok (.iconst 0, 1) := dk_3 (by decide +kernel)
theorem dX12_carry_157 : decode cX12_carry 157 = .ok (.goto 4, 3) := dk_167 (by decide +kernel)
theorem dX12_carry_160 : decode cX12_carry 160 = .ok (.iload_n 3, 1) := dk_29 (by decide +kernel)
theorem dX12_carry_161 : decode cX12_carry 161 = .ok (.iastore, 1) := dk_79 (by decide +kernel)
theorem dX12_carry_162 : decode cX12_carry 162 = .ok (.return_, 1) := dk_177 (by decide +kernel)
def wsRX12_carry : List Cond := .code yX12_carry cX12_carry 9 none :: ([.fieldLink RX12 7 "OptimaWorksModel" "big" "[I", .constantLong RX12 351 268435455, .fieldLink RX12 13 "OptimaWorksModel" "sum" "[J"] ++ wsX120)
theorem iwsRX12_carry_in12 : ∀ w ∈ wsX120, w ∈ wsRX12_carry := fun _ h => List.mem_cons_of_mem _ (List.mem_append_right _ h)
set_option maxHeartbeats 4000000 in
set_option maxRecDepth 100000 in
/-- carry(s, n, sign) -/
theorem r_X12_carry (l : Launch) (dC : Nat → ClassId) (dI : Nat → Nat → Nat) (a : Nat → Nat) (k : Nat → ClassId) (h0 : Nat) (vi : Nat → Int32) (vj : Nat → Int64) (vF : Nat → Nat → Int32) (vG : Nat → Nat → Int64) (sn : Nat) (n : Nat) (qs : Int32) (SS : Nat) (sg : Int) (hs : sn < 1100) (hn : n ≤ 22) (hgs : ∀ q, q < n → -1152921504606846976 ≤ (vG 1 q).toInt ∧ (vG 1 q).toInt ≤ 1152921504606846976) (hSS : sv28 (vG 1) n = (SS : Int)) (hSb : SS < 2 ^ 616) (hsg : 0 < SS → (sg = 1 ∧ qs = 1) ∨ (sg = -1 ∧ qs = -1)) (sz : Nat) : Met l yX12_carry wsRX12_carry ({ frames := 0, cells := 0, slots := 0, locals := 0 }) (va_Pc [.ref h0, .int (nI sn), .int (nI n), .int qs] (fun U => U.heap.size = sz ∧ va_P (dC, dI) vwCl (WR a k h0 vi vj vF vG) U.heap ∧ va_K (dC, dI) vwCl (tX12 k) U ∧ va_D (fun _ => True) (WR a k h0 vi vj vF vG))) (va_Qv (fun (u : Nat → Int32) => (Nu u sn (sg * (SS : Int))) ∧ (∀ q, (q < 24 * sn ∨ 24 * sn + 24 ≤ q) → u q = vF 0 q)) (fun (u : Nat → Int32) t => va_P (dC, dI) vwCl (WR a k h0 vi vj (fT vF 0 u) vG) t.heap ∧ va_D (va_A (WR a k h0 vi vj vF vG) sz) (WR a k h0 vi vj (fT vF 0 u) vG)) (va_A (WR a k h0 vi vj vF vG) sz)) 0 0 (va_A (WR a k h0 vi vj vF vG) sz) := by
  refine Met.ofW (cc := cX12_carry) (maxL := 9) (ret := none) (by decide) rfl ?_
  intro p e s m args below meth c s₁ B hml hv
  obtain ⟨rfl, hsz, hP, hK, hD0⟩ := hv
  have hx := B.exec
  have hb := B.bytes
  have hr := B.returns
  have hts := atoms_spec (ws := wsRX12_carry) B.pre
  have hown : s.vm.findClass RX12 = some m.cls := findClass_of_methodNamed B.named
  have hlocks := B.notSynchronized
  subst hsz
  have hD := hD0.self (sz := s.heap.size)
  generalize hAe : va_A (WR a k h0 vi vj vF vG) s.heap.size = A at hD ⊢
  have hA : ∀ q : Nat, s.heap.size ≤ q → A q := fun q h => by rw [← hAe]; exact Or.inr h
  have hS : va_S A s.heap s.heap [] := va_S.rf
  have hl := lv_entry ([.ref h0, .int (nI sn), .int (nI n), .int qs]) (n := 9) (Nat.le_of_ble_eq_true rfl)
  rw [lg_entry_eq]
  generalize (lg_sl ([.ref h0, .int (nI sn), .int (nI n), .int qs]) ++ List.replicate (9 - (lg_sl ([.ref h0, .int (nI sn), .int (nI n), .int qs])).length) Slot.unset).toArray = ls at hl ⊢
  have hl : lv_has ls 9 [(0, .ref h0), (1, .int (nI sn)), (2, .int (nI n)), (3, .int qs)] := hl
  refine lv_lconst (v := 0) hx hb dX12_carry_0 (by decide) ?_
  refine lv_lstore hx hb dX12_carry_1 hl (by decide) rfl (fun ls (hl : lv_has ls _ ([(4, .long 0), (0, .ref h0), (1, .int (nI sn)), (2, .int (nI n)), (3, .int qs)])) => ?_)
  refine lv_iconst (v := 0) hx hb dX12_carry_3 (by decide) ?_
  refine lv_istore hx hb dX12_carry_4 hl (by decide) rfl (fun ls (hl : lv_has ls _ ([(6, .int 0), (4, .long 0), (0, .ref h0), (1, .int (nI sn)), (2, .int (nI n)), (3, .int qs)])) => ?_)
  have e9 : fT vF 0 (vF 0) = vF := by funext q9; by_cases h9_0 : q9 = 0; (subst h9_0; exact (fT_eq _ _ _).trans (Eq.trans (by first | rfl | assumption | (symm; assumption) | (subst_vars; rfl)) (Eq.refl _).symm)); exact (fT_ne _ _ h9_0).trans (Eq.refl _).symm
  have hP : va_P (dC, dI) vwCl (WR a k h0 vi vj (fT vF 0 (vF 0)) vG) s.heap := by rw [e9]; exact hP
  have hD : va_D A (WR a k h0 vi vj (fT vF 0 (vF 0)) vG) := by rw [e9]; exact hD
  clear e9
  have hl : lv_has _ _ ([(6, .int (nI 0)), (4, .long 0), (0, .ref h0), (1, .int (nI sn)), (2, .int (nI n)), (3, .int qs)]) := lv_sub hl [0, 1, 2, 3, 4, 5] rfl
  refine (fun (loop : ∀ (n9 : Nat) (i : Nat) (ov : Int64) (g : Nat → Int32) (H : Heap) (locs : List Loc) (ls : Array Slot), (i ≤ n) → (-8589934592 ≤ ov.toInt ∧ ov.toInt ≤ 8589934592) → (((lv28 g (24 * sn + 2) i : Nat) : Int) + ov.toInt * ((2 ^ (28 * i) : Nat) : Int) = sv28 (vG 1) i) → (Lm g (24 * sn + 2) i) → (∀ q, (q < 24 * sn ∨ 24 * sn + 24 ≤ q) → g q = vF 0 q) →  (n < i + n9) → va_P (dC, dI) vwCl (WR a k h0 vi vj (fT vF 0 g) vG) H → va_D A (WR a k h0 vi vj (fT vF 0 g) vG) → va_S A s.heap H locs → lv_has ls 9 [(6, .int (nI i)), (4, .long ov), (0, .ref h0), (1, .int (nI sn)), (2, .int (nI n)), (3, .int qs)] → W p l e _ s m _ below meth c H locs 0 0 _ (F0 m 6 ls [])) => loop (n + 1) 0 0 (vF 0) _ _ _ (by omega) (by decide) (by simp [lv28, sv28]) (fun q hq => absurd hq (by omega)) (fun q hq => rfl) (by omega) hP hD hS hl) ?_
  intro n9
  induction n9 with
  | zero => intro i ov g H locs ls hi hov hlv hlm ho hf9; exact False.elim (by omega)
  | succ n9 ih6 =>
    intro i ov g H locs ls hi hov hlv hlm ho hf6 hP hD hS hl
    refine lv_iload hx hb dX12_carry_6 (lv_at hl 0 rfl) ?_
    refine lv_iload_n hx hb dX12_carry_8 rfl (lv_at hl 4 rfl) ?_
    refine lv_icmp_ge (tgt := 58) hx hb dX12_carry_9 (by decide) (fun c_9 => ?_) (fun c_9 => ?_)
    · have t_9 : ((i : Nat) : Int) ≥ ((n : Nat) : Int) := toI_ge c_9 (nI_toInt (by omega)) (nI_toInt (by omega))
      have ei : i = n := by omega
      subst ei
      have hov0 : 0 ≤ ov.toInt := ov_pos (lv28_lt hlm) hlv (by omega)
      obtain ⟨r0, hr0⟩ : ∃ r0, r0 = ov.toInt.natAbs := ⟨_, rfl⟩
      obtain rfl : lN r0 = ov := (by rw [hr0]; exact (posL hov0).symm)
      have eov : (lN r0).toInt = (r0 : Int) := pk_lT (by omega)
      have hsum : lv28 g (24 * sn + 2) i + r0 * 2 ^ (28 * i) = SS := by rw [eov] at hlv; (have e9 : ((lv28 g (24 * sn + 2) i + r0 * 2 ^ (28 * i) : Nat) : Int) = (SS : Int) := by rw [Int.natCast_add, Int.natCast_mul]; omega); omega
      refine lv_iload_n hx hb dX12_carry_58 rfl (lv_at hl 4 rfl) ?_
      refine lv_istore hx hb dX12_carry_59 hl (by decide) rfl (fun ls (hl : lv_has ls _ ([(6, .int (nI i)), (4, .long (lN r0)), (0, .ref h0), (1, .int (nI sn)), (2, .int (nI i)), (3, .int qs)])) => ?_)
      have hl : lv_has _ _ ([(6, .int (nI i)), (4, .long (lN r0)), (0, .ref h0), (1, .int (nI sn)), (3, .int qs)]) := lv_sub hl [0, 1, 2, 3, 5] rfl
      refine (fun (loop : ∀ (n9 : Nat) (nn : Nat) (rr : Nat) (g2 : Nat → Int32) (H : Heap) (locs : List Loc) (ls : Array Slot), (nn ≤ 22) → (lv28 g2 (24 * sn + 2) nn + rr * 2 ^ (28 * nn) = SS) → (rr < 2 ^ 63) → (Lm g2 (24 * sn + 2) nn) → (∀ q, (q < 24 * sn ∨ 24 * sn + 24 ≤ q) → g2 q = vF 0 q) →  (rr < n9) → va_P (dC, dI) vwCl (WR a k h0 vi vj (fT vF 0 g2) vG) H → va_D A (WR a k h0 vi vj (fT vF 0 g2) vG) → va_S A s.heap H locs → lv_has ls 9 [(6, .int (nI nn)), (4, .long (lN rr)), (0, .ref h0), (1, .int (nI sn)), (3, .int qs)] → W p l e _ s m _ below meth c H locs 0 0 _ (F0 m 61 ls [])) => loop (r0 + 1) i r0 g _ _ _ (by omega) (hsum) (by omega) (hlm) (ho) (by omega) hP hD hS hl) ?_
      intro n9
      induction n9 with
      | zero => intro nn rr g2 H locs ls hnn hlv2 hrb hlm2 ho2 hf9; exact False.elim (by omega)
      | succ n9 ih61_1 =>
        intro nn rr g2 H locs ls hnn hlv2 hrb hlm2 ho2 hf61_1 hP hD hS hl
        refine lv_lload hx hb dX12_carry_61 (lv_at hl 1 rfl) ?_
        refine lv_lconst (v := 0) hx hb dX12_carry_63 (by decide) ?_
        refine W.lcmp hx hb dX12_carry_64 ?_
        refine lv_if_le (tgt := 102) hx hb dX12_carry_65 (by decide) (fun c_65 => ?_) (fun c_65 => ?_)
        · have t_65 : ((rr : Nat) : Int) ≤ 0 := toL_le c_65 (pk_lT (by omega)) (by decide)
          have hl : lv_has _ _ ([(6, .int (nI nn)), (0, .ref h0), (1, .int (nI sn)), (3, .int qs)]) := lv_sub hl [0, 2, 3, 4] rfl
          refine (fun (loop : ∀ (n9 : Nat) (kk : Nat) (H : Heap) (locs : List Loc) (ls : Array Slot), (kk ≤ nn) → (lv28 g2 (24 * sn + 2) kk = SS) →  (kk < n9) → va_P (dC, dI) vwCl (WR a k h0 vi vj (fT vF 0 g2) vG) H → va_D A (WR a k h0 vi vj (fT vF 0 g2) vG) → va_S A s.heap H locs → lv_has ls 9 [(6, .int (nI kk)), (0, .ref h0), (1, .int (nI sn)), (3, .int qs)] → W p l e _ s m _ below meth c H locs 0 0 _ (F0 m 102 ls [])) => loop (nn + 1) nn _ _ _ (by omega) (by (have e8 : rr = 0 := (by omega)); rw [e8, Nat.zero_mul] at hlv2; omega) (by omega) hP hD hS hl) ?_
          intro n9
          induction n9 with
          | zero => intro kk H locs ls hkk hlv3 hf9; exact False.elim (by omega)
          | succ n9 ih102_2 =>
            intro kk H locs ls hkk hlv3 hf102_2 hP hD hS hl
            refine lv_iload hx hb dX12_carry_102 (lv_at hl 0 rfl) ?_
            refine lv_if_le (tgt := 130) hx hb dX12_carry_104 (by decide) (fun c_104 => ?_) (fun c_104 => ?_)
            · have t_104 : ((kk : Nat) : Int) ≤ 0 := toI_le c_104 (nI_toInt (by omega)) (by decide)
              refine lv_aload_n hx hb dX12_carry_130 rfl (lv_at hl 1 rfl) ?_
              refine va_get (D := (dC, dI)) (ci := 12) (v := .ref (a 0)) (C := RX12) (T := TX12) (N := 163) (fs := fM (vS a vi vj)) hx hb hts iwsRX12_carry_in12 hown hK hP 0 rfl rfl 1 (by decide) (hts (.fieldLink RX12 7 "OptimaWorksModel" "big" "[I") (by decide +kernel)) (fun _ h9 => h9) rfl dX12_carry_131 ?_
              refine lv_bipush (v := 24) hx hb dX12_carry_134 (by decide) ?_
              refine lv_iload_n hx hb dX12_carry_136 rfl (lv_at hl 2 rfl) ?_
              refine lv_imul hx hb dX12_carry_137 ?_
              refine lv_topi (fun y1 hy1 => ?_)
              obtain rfl : (nI (24 * sn)) = y1 := (hy1.trans (pk_mul 24 sn)).symm
              refine lv_iconst (v := 1) hx hb dX12_carry_138 (by decide) ?_
              refine lv_iadd hx hb dX12_carry_139 ?_
              refine lv_topi (fun y2 hy2 => ?_)
              obtain rfl : (nI ((24 * sn) + 1)) = y2 := (hy2.trans (nI_add (24 * sn) 1)).symm
              refine lv_iload hx hb dX12_carry_140 (lv_at hl 0 rfl) ?_
              refine va_iast (cA := k 0) (n := 26400) (f := g2) hx hb hK hP hD hS 1 0 (WR_get 0 (by decide)) (TR_get 0 (by decide)) (vp_in_nI (show ((24 * sn) + 1) < 26400 by omega) (by omega)) dX12_carry_142 (fun H locs hP hD hS => ?_)
              have e9 : fT vF 0 (upd g2 ((nI ((24 * sn) + 1))).toNatClampNeg (nI kk)) = fT (fT vF 0 g2) 0 (upd g2 ((nI ((24 * sn) + 1))).toNatClampNeg (nI kk)) := (fT_sm _ _ _ _).symm
              have hP : va_P (dC, dI) vwCl (WR a k h0 vi vj (fT vF 0 (upd g2 ((nI ((24 * sn) + 1))).toNatClampNeg (nI kk))) vG) H := by rw [e9, ← WR_F 0 (by decide) _ rfl]; exact hP
              have hD : va_D A (WR a k h0 vi vj (fT vF 0 (upd g2 ((nI ((24 * sn) + 1))).toNatClampNeg (nI kk))) vG) := by rw [e9, ← WR_F 0 (by decide) _ rfl]; exact hD
              clear e9
              refine lv_aload_n hx hb dX12_carry_143 rfl (lv_at hl 1 rfl) ?_
              refine va_get (D := (dC, dI)) (ci := 12) (v := .ref (a 0)) (C := RX12) (T := TX12) (N := 163) (fs := fM (vS a vi vj)) hx hb hts iwsRX12_carry_in12 hown hK hP 0 rfl rfl 1 (by decide) (hts (.fieldLink RX12 7 "OptimaWorksModel" "big" "[I") (by decide +kernel)) (fun _ h9 => h9) rfl dX12_carry_144 ?_
              refine lv_bipush (v := 24) hx hb dX12_carry_147 (by decide) ?_
              refine lv_iload_n hx hb dX12_carry_149 rfl (lv_at hl 2 rfl) ?_
              refine lv_imul hx hb dX12_carry_150 ?_
              refine lv_topi (fun y3 hy3 => ?_)
              obtain rfl : (nI (24 * sn)) = y3 := (hy3.trans (pk_mul 24 sn)).symm
              refine lv_iload hx hb dX12_carry_151 (lv_at hl 0 rfl) ?_
              refine lv_if_ne (tgt := 160) hx hb dX12_carry_153 (by decide) (fun c_153 => ?_) (fun c_153 => ?_)
              · have t_153 : ((kk : Nat) : Int) ≠ 0 := toI_ne c_153 (nI_toInt (by omega)) (by decide)
                refine lv_iload_n hx hb dX12_carry_160 rfl (lv_at hl 3 rfl) ?_
                refine va_iast (cA := k 0) (n := 26400) (f := (upd g2 ((nI ((24 * sn) + 1))).toNatClampNeg (nI kk))) hx hb hK hP hD hS 1 0 (WR_get 0 (by decide)) (TR_get 0 (by decide)) (vp_in_nI (show (24 * sn) < 26400 by omega) (by omega)) dX12_carry_161 (fun H locs hP hD hS => ?_)
                have e9 : fT vF 0 (upd (upd g2 ((nI ((24 * sn) + 1))).toNatClampNeg (nI kk)) ((nI (24 * sn))).toNatClampNeg qs) = fT (fT vF 0 (upd g2 ((nI ((24 * sn) + 1))).toNatClampNeg (nI kk))) 0 (upd (upd g2 ((nI ((24 * sn) + 1))).toNatClampNeg (nI kk)) ((nI (24 * sn))).toNatClampNeg qs) := (fT_sm _ _ _ _).symm
                have hP : va_P (dC, dI) vwCl (WR a k h0 vi vj (fT vF 0 (upd (upd g2 ((nI ((24 * sn) + 1))).toNatClampNeg (nI kk)) ((nI (24 * sn))).toNatClampNeg qs)) vG) H := by rw [e9, ← WR_F 0 (by decide) _ rfl]; exact hP
                have hD : va_D A (WR a k h0 vi vj (fT vF 0 (upd (upd g2 ((nI ((24 * sn) + 1))).toNatClampNeg (nI kk)) ((nI (24 * sn))).toNatClampNeg qs)) vG) := by rw [e9, ← WR_F 0 (by decide) _ rfl]; exact hD
                clear e9
                refine W.widen (k := 0) (n := 0) (by decide +kernel) (by decide +kernel) ?_
                exact W.vret hx hb hr (fun t9_ ht hW => ⟨⟨(upd (upd g2 ((nI ((24 * sn) + 1))).toNatClampNeg (nI kk)) ((nI (24 * sn))).toNatClampNeg qs), rfl, by (try dsimp only); exact ⟨nu_fin (kk := kk) (qs := qs) (by omega) (by rw [upd_at (by omega), if_neg (by omega), upd_at (by omega), if_pos rfl]) (fun q hq => by rw [upd_at (by omega), if_neg (by omega), upd_at (by omega), if_neg (by omega)]; exact hlm2 q (by omega)) (fun h9 => by rw [upd_at (by omega), if_neg (by omega), upd_at (by omega), if_neg (by omega)]; first | exact c_121 | exact absurd h9 (by omega)) (by rw [lv28_congr (g := g2) (p := 24 * sn + 2) (fun q hq => by rw [upd_at (by omega), if_neg (by omega), upd_at (by omega), if_neg (by omega)])]; exact hlv3) (by rw [upd_at (by omega), if_pos rfl]; first | exact Or.inl ⟨by omega, rfl⟩ | exact Or.inr ⟨by omega, rfl⟩ | exact absurd rfl (by omega)) hsg, fun q hq => by rw [upd_at (by omega), if_neg (by omega), upd_at (by omega), if_neg (by omega)]; exact ho2 q hq⟩, by rw [ht]; exact hP, hD⟩, hS.F ht⟩) hS.2.2 dX12_carry_162
              · have t_153 : ((kk : Nat) : Int) = 0 := toI_nne c_153 (nI_toInt (by omega)) (by decide)
                refine lv_iconst (v := 0) hx hb dX12_carry_156 (by decide) ?_
                refine lv_goto (tgt := 161) hx hb dX12_carry_157 (by decide) ?_
                refine va_iast (cA := k 0) (n := 26400) (f := (upd g2 ((nI ((24 * sn) + 1))).toNatClampNeg (nI kk))) hx hb hK hP hD hS 1 0 (WR_get 0 (by decide)) (TR_get 0 (by decide)) (vp_in_nI (show (24 * sn) < 26400 by omega) (by omega)) dX12_carry_161 (fun H locs hP hD hS => ?_)
                have e9 : fT vF 0 (upd (upd g2 ((nI ((24 * sn) + 1))).toNatClampNeg (nI kk)) ((nI (24 * sn))).toNatClampNeg 0) = fT (fT vF 0 (upd g2 ((nI ((24 * sn) + 1))).toNatClampNeg (nI kk))) 0 (upd (upd g2 ((nI ((24 * sn) + 1))).toNatClampNeg (nI kk)) ((nI (24 * sn))).toNatClampNeg 0) := (fT_sm _ _ _ _).symm
                have hP : va_P (dC, dI) vwCl (WR a k h0 vi vj (fT vF 0 (upd (upd g2 ((nI ((24 * sn) + 1))).toNatClampNeg (nI kk)) ((nI (24 * sn))).toNatClampNeg 0)) vG) H := by rw [e9, ← WR_F 0 (by decide) _ rfl]; exact hP
                have hD : va_D A (WR a k h0 vi vj (fT vF 0 (upd (upd g2 ((nI ((24 * sn) + 1))).toNatClampNeg (nI kk)) ((nI (24 * sn))).toNatClampNeg 0)) vG) := by rw [e9, ← WR_F 0 (by decide) _ rfl]; exact hD
                clear e9
                refine W.widen (k := 0) (n := 0) (by decide +kernel) (by decide +kernel) ?_
                exact W.vret hx hb hr (fun t9_ ht hW => ⟨⟨(upd (upd g2 ((nI ((24 * sn) + 1))).toNatClampNeg (nI kk)) ((nI (24 * sn))).toNatClampNeg 0), rfl, by (try dsimp only); exact ⟨nu_fin (kk := kk) (qs := qs) (by omega) (by rw [upd_at (by omega), if_neg (by omega), upd_at (by omega), if_pos rfl]) (fun q hq => by rw [upd_at (by omega), if_neg (by omega), upd_at (by omega), if_neg (by omega)]; exact hlm2 q (by omega)) (fun h9 => by rw [upd_at (by omega), if_neg (by omega), upd_at (by omega), if_neg (by omega)]; first | exact c_121 | exact absurd h9 (by omega)) (by rw [lv28_congr (g := g2) (p := 24 * sn + 2) (fun q hq => by rw [upd_at (by omega), if_neg (by omega), upd_at (by omega), if_neg (by omega)])]; exact hlv3) (by rw [upd_at (by omega), if_pos rfl]; first | exact Or.inl ⟨by omega, rfl⟩ | exact Or.inr ⟨by omega, rfl⟩ | exact absurd rfl (by omega)) hsg, fun q hq => by rw [upd_at (by omega), if_neg (by omega), upd_at (by omega), if_neg (by omega)]; exact ho2 q hq⟩, by rw [ht]; exact hP, hD⟩, hS.F ht⟩) hS.2.2 dX12_carry_162
            · have t_104 : ¬ ((kk : Nat) : Int) ≤ 0 := toI_nle c_104 (nI_toInt (by omega)) (by decide)
              refine lv_aload_n hx hb dX12_carry_107 rfl (lv_at hl 1 rfl) ?_
              refine va_get (D := (dC, dI)) (ci := 12) (v := .ref (a 0)) (C := RX12) (T := TX12) (N := 163) (fs := fM (vS a vi vj)) hx hb hts iwsRX12_carry_in12 hown hK hP 0 rfl rfl 1 (by decide) (hts (.fieldLink RX12 7 "OptimaWorksModel" "big" "[I") (by decide +kernel)) (fun _ h9 => h9) rfl dX12_carry_108 ?_
              refine lv_bipush (v := 24) hx hb dX12_carry_111 (by decide) ?_
              refine lv_iload_n hx hb dX12_carry_113 rfl (lv_at hl 2 rfl) ?_
              refine lv_imul hx hb dX12_carry_114 ?_
              refine lv_topi (fun y4 hy4 => ?_)
              obtain rfl : (nI (24 * sn)) = y4 := (hy4.trans (pk_mul 24 sn)).symm
              refine lv_iconst (v := 1) hx hb dX12_carry_115 (by decide) ?_
              refine lv_iadd hx hb dX12_carry_116 ?_
              refine lv_topi (fun y5 hy5 => ?_)
              obtain rfl : (nI ((24 * sn) + 1)) = y5 := (hy5.trans (nI_add (24 * sn) 1)).symm
              refine lv_iload hx hb dX12_carry_117 (lv_at hl 0 rfl) ?_
              refine lv_iadd hx hb dX12_carry_119 ?_
              refine lv_topi (fun y6 hy6 => ?_)
              obtain rfl : (nI (((24 * sn) + 1) + kk)) = y6 := (hy6.trans (nI_add ((24 * sn) + 1) kk)).symm
              refine va_iald (cA := k 0) (n := 26400) (f := g2) hx hb hK hP 1 0 (WR_get 0 (by decide)) (TR_get 0 (by decide)) (vp_in_nI (show (((24 * sn) + 1) + kk) < 26400 by omega) (by omega)) dX12_carry_120 ?_
              refine lv_topi (fun y7 hy7 => ?_)
              obtain rfl : (g2 (((24 * sn) + 1) + kk)) = y7 := (hy7.trans (by rw [nI_clamp (by omega)])).symm
              refine lv_if_ne (tgt := 130) hx hb dX12_carry_121 (by decide) (fun c_121 => ?_) (fun c_121 => ?_)
              · have t_121 : ((g2 (((24 * sn) + 1) + kk))).toInt ≠ 0 := toI_ne c_121 rfl (by decide)
                refine lv_aload_n hx hb dX12_carry_130 rfl (lv_at hl 1 rfl) ?_
                refine va_get (D := (dC, dI)) (ci := 12) (v := .ref (a 0)) (C := RX12) (T := TX12) (N := 163) (fs := fM (vS a vi vj)) hx hb hts iwsRX12_carry_in12 hown hK hP 0 rfl rfl 1 (by decide) (hts (.fieldLink RX12 7 "OptimaWorksModel" "big" "[I") (by decide +kernel)) (fun _ h9 => h9) rfl dX12_carry_131 ?_
                refine lv_bipush (v := 24) hx hb dX12_carry_134 (by decide) ?_
                refine lv_iload_n hx hb dX12_carry_136 rfl (lv_at hl 2 rfl) ?_
                refine lv_imul hx hb dX12_carry_137 ?_
                refine lv_topi (fun y8 hy8 => ?_)
                obtain rfl : (nI (24 * sn)) = y8 := (hy8.trans (pk_mul 24 sn)).symm
                refine lv_iconst (v := 1) hx hb dX12_carry_138 (by decide) ?_
                refine lv_iadd hx hb dX12_carry_139 ?_
                refine lv_topi (fun y9 hy9 => ?_)
                obtain rfl : (nI ((24 * sn) + 1)) = y9 := (hy9.trans (nI_add (24 * sn) 1)).symm
                refine lv_iload hx hb dX12_carry_140 (lv_at hl 0 rfl) ?_
                refine va_iast (cA := k 0) (n := 26400) (f := g2) hx hb hK hP hD hS 1 0 (WR_get 0 (by decide)) (TR_get 0 (by decide)) (vp_in_nI (show ((24 * sn) + 1) < 26400 by omega) (by omega)) dX12_carry_142 (fun H locs hP hD hS => ?_)
                have e9 : fT vF 0 (upd g2 ((nI ((24 * sn) + 1))).toNatClampNeg (nI kk)) = fT (fT vF 0 g2) 0 (upd g2 ((nI ((24 * sn) + 1))).toNatClampNeg (nI kk)) := (fT_sm _ _ _ _).symm
                have hP : va_P (dC, dI) vwCl (WR a k h0 vi vj (fT vF 0 (upd g2 ((nI ((24 * sn) + 1))).toNatClampNeg (nI kk))) vG) H := by rw [e9, ← WR_F 0 (by decide) _ rfl]; exact hP
                have hD : va_D A (WR a k h0 vi vj (fT vF 0 (upd g2 ((nI ((24 * sn) + 1))).toNatClampNeg (nI kk))) vG) := by rw [e9, ← WR_F 0 (by decide) _ rfl]; exact hD
                clear e9
                refine lv_aload_n hx hb dX12_carry_143 rfl (lv_at hl 1 rfl) ?_
                refine va_get (D := (dC, dI)) (ci := 12) (v := .ref (a 0)) (C := RX12) (T := TX12) (N := 163) (fs := fM (vS a vi vj)) hx hb hts iwsRX12_carry_in12 hown hK hP 0 rfl rfl 1 (by decide) (hts (.fieldLink RX12 7 "OptimaWorksModel" "big" "[I") (by decide +kernel)) (fun _ h9 => h9) rfl dX12_carry_144 ?_
                refine lv_bipush (v := 24) hx hb dX12_carry_147 (by decide) ?_
                refine lv_iload_n hx hb dX12_carry_149 rfl (lv_at hl 2 rfl) ?_
                refine lv_imul hx hb dX12_carry_150 ?_
                refine lv_topi (fun y10 hy10 => ?_)
                obtain rfl : (nI (24 * sn)) = y10 := (hy10.trans (pk_mul 24 sn)).symm
                refine lv_iload hx hb dX12_carry_151 (lv_at hl 0 rfl) ?_
                refine lv_if_ne (tgt := 160) hx hb dX12_carry_153 (by decide) (fun c_153 => ?_) (fun c_153 => ?_)
                · have t_153 : ((kk : Nat) : Int) ≠ 0 := toI_ne c_153 (nI_toInt (by omega)) (by decide)
                  refine lv_iload_n hx hb dX12_carry_160 rfl (lv_at hl 3 rfl) ?_
                  refine va_iast (cA := k 0) (n := 26400) (f := (upd g2 ((nI ((24 * sn) + 1))).toNatClampNeg (nI kk))) hx hb hK hP hD hS 1 0 (WR_get 0 (by decide)) (TR_get 0 (by decide)) (vp_in_nI (show (24 * sn) < 26400 by omega) (by omega)) dX12_carry_161 (fun H locs hP hD hS => ?_)
                  have e9 : fT vF 0 (upd (upd g2 ((nI ((24 * sn) + 1))).toNatClampNeg (nI kk)) ((nI (24 * sn))).toNatClampNeg qs) = fT (fT vF 0 (upd g2 ((nI ((24 * sn) + 1))).toNatClampNeg (nI kk))) 0 (upd (upd g2 ((nI ((24 * sn) + 1))).toNatClampNeg (nI kk)) ((nI (24 * sn))).toNatClampNeg qs) := (fT_sm _ _ _ _).symm
                  have hP : va_P (dC, dI) vwCl (WR a k h0 vi vj (fT vF 0 (upd (upd g2 ((nI ((24 * sn) + 1))).toNatClampNeg (nI kk)) ((nI (24 * sn))).toNatClampNeg qs)) vG) H := by rw [e9, ← WR_F 0 (by decide) _ rfl]; exact hP
                  have hD : va_D A (WR a k h0 vi vj (fT vF 0 (upd (upd g2 ((nI ((24 * sn) + 1))).toNatClampNeg (nI kk)) ((nI (24 * sn))).toNatClampNeg qs)) vG) := by rw [e9, ← WR_F 0 (by decide) _ rfl]; exact hD
                  clear e9
                  refine W.widen (k := 0) (n := 0) (by decide +kernel) (by decide +kernel) ?_
                  exact W.vret hx hb hr (fun t9_ ht hW => ⟨⟨(upd (upd g2 ((nI ((24 * sn) + 1))).toNatClampNeg (nI kk)) ((nI (24 * sn))).toNatClampNeg qs), rfl, by (try dsimp only); exact ⟨nu_fin (kk := kk) (qs := qs) (by omega) (by rw [upd_at (by omega), if_neg (by omega), upd_at (by omega), if_pos rfl]) (fun q hq => by rw [upd_at (by omega), if_neg (by omega), upd_at (by omega), if_neg (by omega)]; exact hlm2 q (by omega)) (fun h9 => by rw [upd_at (by omega), if_neg (by omega), upd_at (by omega), if_neg (by omega)]; first | exact c_121 | exact absurd h9 (by omega)) (by rw [lv28_congr (g := g2) (p := 24 * sn + 2) (fun q hq => by rw [upd_at (by omega), if_neg (by omega), upd_at (by omega), if_neg (by omega)])]; exact hlv3) (by rw [upd_at (by omega), if_pos rfl]; first | exact Or.inl ⟨by omega, rfl⟩ | exact Or.inr ⟨by omega, rfl⟩ | exact absurd rfl (by omega)) hsg, fun q hq => by rw [upd_at (by omega), if_neg (by omega), upd_at (by omega), if_neg (by omega)]; exact ho2 q hq⟩, by rw [ht]; exact hP, hD⟩, hS.F ht⟩) hS.2.2 dX12_carry_162
                · have t_153 : ((kk : Nat) : Int) = 0 := toI_nne c_153 (nI_toInt (by omega)) (by decide)
                  refine lv_iconst (v := 0) hx hb dX12_carry_156 (by decide) ?_
                  refine lv_goto (tgt := 161) hx hb dX12_carry_157 (by decide) ?_
                  refine va_iast (cA := k 0) (n := 26400) (f := (upd g2 ((nI ((24 * sn) + 1))).toNatClampNeg (nI kk))) hx hb hK hP hD hS 1 0 (WR_get 0 (by decide)) (TR_get 0 (by decide)) (vp_in_nI (show (24 * sn) < 26400 by omega) (by omega)) dX12_carry_161 (fun H locs hP hD hS => ?_)
                  have e9 : fT vF 0 (upd (upd g2 ((nI ((24 * sn) + 1))).toNatClampNeg (nI kk)) ((nI (24 * sn))).toNatClampNeg 0) = fT (fT vF 0 (upd g2 ((nI ((24 * sn) + 1))).toNatClampNeg (nI kk))) 0 (upd (upd g2 ((nI ((24 * sn) + 1))).toNatClampNeg (nI kk)) ((nI (24 * sn))).toNatClampNeg 0) := (fT_sm _ _ _ _).symm
                  have hP : va_P (dC, dI) vwCl (WR a k h0 vi vj (fT vF 0 (upd (upd g2 ((nI ((24 * sn) + 1))).toNatClampNeg (nI kk)) ((nI (24 * sn))).toNatClampNeg 0)) vG) H := by rw [e9, ← WR_F 0 (by decide) _ rfl]; exact hP
                  have hD : va_D A (WR a k h0 vi vj (fT vF 0 (upd (upd g2 ((nI ((24 * sn) + 1))).toNatClampNeg (nI kk)) ((nI (24 * sn))).toNatClampNeg 0)) vG) := by rw [e9, ← WR_F 0 (by decide) _ rfl]; exact hD
                  clear e9
                  refine W.widen (k := 0) (n := 0) (by decide +kernel) (by decide +kernel) ?_
                  exact W.vret hx hb hr (fun t9_ ht hW => ⟨⟨(upd (upd g2 ((nI ((24 * sn) + 1))).toNatClampNeg (nI kk)) ((nI (24 * sn))).toNatClampNeg 0), rfl, by (try dsimp only); exact ⟨nu_fin (kk := kk) (qs := qs) (by omega) (by rw [upd_at (by omega), if_neg (by omega), upd_at (by omega), if_pos rfl]) (fun q hq => by rw [upd_at (by omega), if_neg (by omega), upd_at (by omega), if_neg (by omega)]; exact hlm2 q (by omega)) (fun h9 => by rw [upd_at (by omega), if_neg (by omega), upd_at (by omega), if_neg (by omega)]; first | exact c_121 | exact absurd h9 (by omega)) (by rw [lv28_congr (g := g2) (p := 24 * sn + 2) (fun q hq => by rw [upd_at (by omega), if_neg (by omega), upd_at (by omega), if_neg (by omega)])]; exact hlv3) (by rw [upd_at (by omega), if_pos rfl]; first | exact Or.inl ⟨by omega, rfl⟩ | exact Or.inr ⟨by omega, rfl⟩ | exact absurd rfl (by omega)) hsg, fun q hq => by rw [upd_at (by omega), if_neg (by omega), upd_at (by omega), if_neg (by omega)]; exact ho2 q hq⟩, by rw [ht]; exact hP, hD⟩, hS.F ht⟩) hS.2.2 dX12_carry_162
              · have t_121 : ((g2 (((24 * sn) + 1) + kk))).toInt = 0 := toI_nne c_121 rfl (by decide)
                refine lv_iinc (v := (nI (kk - 1))) hx hb dX12_carry_124 hl (k := 0) rfl (sb_m1 (by omega)) (by decide) rfl (fun ls (hl : lv_has ls _ ([(6, .int (nI (kk - 1))), (0, .ref h0), (1, .int (nI sn)), (3, .int qs)])) => ?_)
                refine lv_goto (tgt := 102) hx hb dX12_carry_127 (by decide) ?_
                have hl : lv_has _ _ ([(6, .int (nI (kk - 1))), (0, .ref h0), (1, .int (nI sn)), (3, .int qs)]) := lv_sub hl [0, 1, 2, 3] rfl
                exact ih102_2 (kk - 1) _ _ _ (by omega) (by obtain ⟨k9, rfl⟩ : ∃ k9, kk = k9 + 1 := ⟨kk - 1, by omega⟩; rw [show k9 + 1 - 1 = k9 by omega]; simp only [lv28] at hlv3; rw [show 24 * sn + 2 + k9 = 24 * sn + 1 + (k9 + 1) by omega, c_121] at hlv3; simpa using hlv3) (by omega) hP hD hS hl
        · have t_65 : ¬ ((rr : Nat) : Int) ≤ 0 := toL_nle c_65 (pk_lT (by omega)) (by decide)
          have hn2 : nn ≤ 21 := lv28_top22 (r := rr) (v := lv28 g2 (24 * sn + 2) nn) (by omega) (by omega)
          refine lv_aload_n hx hb dX12_carry_68 rfl (lv_at hl 2 rfl) ?_
          refine va_get (D := (dC, dI)) (ci := 12) (v := .ref (a 0)) (C := RX12) (T := TX12) (N := 163) (fs := fM (vS a vi vj)) hx hb hts iwsRX12_carry_in12 hown hK hP 0 rfl rfl 1 (by decide) (hts (.fieldLink RX12 7 "OptimaWorksModel" "big" "[I") (by decide +kernel)) (fun _ h9 => h9) rfl dX12_carry_69 ?_
          refine lv_bipush (v := 24) hx hb dX12_carry_72 (by decide) ?_
          refine lv_iload_n hx hb dX12_carry_74 rfl (lv_at hl 3 rfl) ?_
          refine lv_imul hx hb dX12_carry_75 ?_
          refine lv_topi (fun y11 hy11 => ?_)
          obtain rfl : (nI (24 * sn)) = y11 := (hy11.trans (pk_mul 24 sn)).symm
          refine lv_iconst (v := 2) hx hb dX12_carry_76 (by decide) ?_
          refine lv_iadd hx hb dX12_carry_77 ?_
          refine lv_topi (fun y12 hy12 => ?_)
          obtain rfl : (nI ((24 * sn) + 2)) = y12 := (hy12.trans (nI_add (24 * sn) 2)).symm
          refine lv_iload hx hb dX12_carry_78 (lv_at hl 0 rfl) ?_
          refine lv_iadd hx hb dX12_carry_80 ?_
          refine lv_topi (fun y13 hy13 => ?_)
          obtain rfl : (nI (((24 * sn) + 2) + nn)) = y13 := (hy13.trans (nI_add ((24 * sn) + 2) nn)).symm
          refine lv_lload hx hb dX12_carry_81 (lv_at hl 1 rfl) ?_
          refine lv_ldc2 (v := 268435455) hx hb hown (hts (.constantLong RX12 351 268435455) (by decide +kernel)) dX12_carry_83 ?_
          refine lv_land hx hb dX12_carry_86 ?_
          refine lv_topl (fun y14 hy14 => ?_)
          obtain rfl : (lN (rr % 268435456)) = y14 := (hy14.trans (mask28 (by omega))).symm
          refine lv_l2i hx hb dX12_carry_87 rfl ?_
          refine lv_topi (fun y15 hy15 => ?_)
          obtain rfl : (nI (rr % 268435456)) = y15 := (hy15.trans (lN_i _)).symm
          refine va_iast (cA := k 0) (n := 26400) (f := g2) hx hb hK hP hD hS 1 0 (WR_get 0 (by decide)) (TR_get 0 (by decide)) (vp_in_nI (show (((24 * sn) + 2) + nn) < 26400 by omega) (by omega)) dX12_carry_88 (fun H locs hP hD hS => ?_)
          have e9 : fT vF 0 (upd g2 ((nI (((24 * sn) + 2) + nn))).toNatClampNeg (nI (rr % 268435456))) = fT (fT vF 0 g2) 0 (upd g2 ((nI (((24 * sn) + 2) + nn))).toNatClampNeg (nI (rr % 268435456))) := (fT_sm _ _ _ _).symm
          have hP : va_P (dC, dI) vwCl (WR a k h0 vi vj (fT vF 0 (upd g2 ((nI (((24 * sn) + 2) + nn))).toNatClampNeg (nI (rr % 268435456)))) vG) H := by rw [e9, ← WR_F 0 (by decide) _ rfl]; exact hP
          have hD : va_D A (WR a k h0 vi vj (fT vF 0 (upd g2 ((nI (((24 * sn) + 2) + nn))).toNatClampNeg (nI (rr % 268435456)))) vG) := by rw [e9, ← WR_F 0 (by decide) _ rfl]; exact hD
          clear e9
          refine lv_lload hx hb dX12_carry_89 (lv_at hl 1 rfl) ?_
          refine lv_bipush (v := 28) hx hb dX12_carry_91 (by decide) ?_
          refine lv_lshr hx hb dX12_carry_93 rfl ?_
          refine lv_topl (fun y16 hy16 => ?_)
          obtain rfl : (lN (rr / 268435456)) = y16 := (hy16.trans (shr28 (by omega))).symm
          refine lv_lstore hx hb dX12_carry_94 hl (by decide) rfl (fun ls (hl : lv_has ls _ ([(4, .long (lN (rr / 268435456))), (6, .int (nI nn)), (0, .ref h0), (1, .int (nI sn)), (3, .int qs)])) => ?_)
          refine lv_iinc (v := (nI (nn + 1))) hx hb dX12_carry_96 hl (k := 1) rfl (nI_add nn 1) (by decide) rfl (fun ls (hl : lv_has ls _ ([(6, .int (nI (nn + 1))), (4, .long (lN (rr / 268435456))), (0, .ref h0), (1, .int (nI sn)), (3, .int qs)])) => ?_)
          refine lv_goto (tgt := 61) hx hb dX12_carry_99 (by decide) ?_
          have hl : lv_has _ _ ([(6, .int (nI (nn + 1))), (4, .long (lN (rr / 268435456))), (0, .ref h0), (1, .int (nI sn)), (3, .int qs)]) := lv_sub hl [0, 1, 2, 3, 4] rfl
          exact ih61_1 (nn + 1) (rr / 268435456) (upd g2 ((nI (((24 * sn) + 2) + nn))).toNatClampNeg (nI (rr % 268435456))) _ _ _ (by omega) (lv28_step (by omega) hlv2) (by omega) (fun q hq => by rw [upd_at (by omega)]; by_cases e9 : 24 * sn + 2 + q = 24 * sn + 2 + nn; (exact ⟨rr % 268435456, by omega, if_pos e9⟩); (rw [if_neg e9]; exact hlm2 q (by omega))) (fun q hq => by rw [upd_at (by omega), if_neg (by omega)]; exact ho2 q hq) (by omega) hP hD hS hl
    · have t_9 : ¬ ((i : Nat) : Int) ≥ ((n : Nat) : Int) := toI_nge c_9 (nI_toInt (by omega)) (nI_toInt (by omega))
      refine lv_aload_n hx hb dX12_carry_12 rfl (lv_at hl 2 rfl) ?_
      refine va_get (D := (dC, dI)) (ci := 12) (v := .ref (a 1)) (C := RX12) (T := TX12) (N := 163) (fs := fM (vS a vi vj)) hx hb hts iwsRX12_carry_in12 hown hK hP 0 rfl rfl 2 (by decide) (hts (.fieldLink RX12 13 "OptimaWorksModel" "sum" "[J") (by decide +kernel)) (fun _ h9 => h9) rfl dX12_carry_13 ?_
      refine lv_iload hx hb dX12_carry_16 (lv_at hl 0 rfl) ?_
      refine va_lald (cA := k 1) (n := 48) (f := (vG 1)) hx hb hK hP 2 1 (WR_get 1 (by decide)) (TR_get 1 (by decide)) (vp_in_nI (show i < 48 by omega) (by omega)) dX12_carry_18 ?_
      refine lv_topl (fun y17 hy17 => ?_)
      obtain rfl : ((vG 1) i) = y17 := (hy17.trans (by rw [nI_clamp (by omega)])).symm
      refine lv_lload hx hb dX12_carry_19 (lv_at hl 1 rfl) ?_
      refine lv_ladd hx hb dX12_carry_21 ?_
      refine lv_lstore hx hb dX12_carry_22 hl (by decide) rfl (fun ls (hl : lv_has ls _ ([(7, .long (((vG 1) i) + ov)), (6, .int (nI i)), (4, .long ov), (0, .ref h0), (1, .int (nI sn)), (2, .int (nI n)), (3, .int qs)])) => ?_)
      have hb9 := hgs i (by omega)
      have ev : (vG 1 i + ov).toInt = (vG 1 i).toInt + ov.toInt := addJ (by omega) (by omega)
      obtain ⟨md, hmd1, hmd2, hmd3⟩ := maskS (vG 1 i + ov)
      have esh := shrS (vG 1 i + ov)
      refine lv_lload hx hb dX12_carry_24 (lv_at hl 0 rfl) ?_
      refine lv_bipush (v := 28) hx hb dX12_carry_26 (by decide) ?_
      refine lv_lshr hx hb dX12_carry_28 rfl ?_
      refine lv_lstore hx hb dX12_carry_29 hl (by decide) rfl (fun ls (hl : lv_has ls _ ([(4, .long ((((vG 1) i) + ov) >>> ((28 : Int32).toInt64 &&& 63))), (7, .long (((vG 1) i) + ov)), (6, .int (nI i)), (0, .ref h0), (1, .int (nI sn)), (2, .int (nI n)), (3, .int qs)])) => ?_)
      refine lv_aload_n hx hb dX12_carry_31 rfl (lv_at hl 3 rfl) ?_
      refine va_get (D := (dC, dI)) (ci := 12) (v := .ref (a 0)) (C := RX12) (T := TX12) (N := 163) (fs := fM (vS a vi vj)) hx hb hts iwsRX12_carry_in12 hown hK hP 0 rfl rfl 1 (by decide) (hts (.fieldLink RX12 7 "OptimaWorksModel" "big" "[I") (by decide +kernel)) (fun _ h9 => h9) rfl dX12_carry_32 ?_
      refine lv_bipush (v := 24) hx hb dX12_carry_35 (by decide) ?_
      refine lv_iload_n hx hb dX12_carry_37 rfl (lv_at hl 4 rfl) ?_
      refine lv_imul hx hb dX12_carry_38 ?_
      refine lv_topi (fun y18 hy18 => ?_)
      obtain rfl : (nI (24 * sn)) = y18 := (hy18.trans (pk_mul 24 sn)).symm
      refine lv_iconst (v := 2) hx hb dX12_carry_39 (by decide) ?_
      refine lv_iadd hx hb dX12_carry_40 ?_
      refine lv_topi (fun y19 hy19 => ?_)
      obtain rfl : (nI ((24 * sn) + 2)) = y19 := (hy19.trans (nI_add (24 * sn) 2)).symm
      refine lv_iload hx hb dX12_carry_41 (lv_at hl 2 rfl) ?_
      refine lv_iadd hx hb dX12_carry_43 ?_
      refine lv_topi (fun y20 hy20 => ?_)
      obtain rfl : (nI (((24 * sn) + 2) + i)) = y20 := (hy20.trans (nI_add ((24 * sn) + 2) i)).symm
      refine lv_lload hx hb dX12_carry_44 (lv_at hl 1 rfl) ?_
      refine lv_ldc2 (v := 268435455) hx hb hown (hts (.constantLong RX12 351 268435455) (by decide +kernel)) dX12_carry_46 ?_
      refine lv_land hx hb dX12_carry_49 ?_
      refine lv_topl (fun y21 hy21 => ?_)
      obtain rfl : (lN md) = y21 := (hy21.trans (hmd3)).symm
      refine lv_l2i hx hb dX12_carry_50 rfl ?_
      refine lv_topi (fun y22 hy22 => ?_)
      obtain rfl : (nI md) = y22 := (hy22.trans (lN_i _)).symm
      refine va_iast (cA := k 0) (n := 26400) (f := g) hx hb hK hP hD hS 1 0 (WR_get 0 (by decide)) (TR_get 0 (by decide)) (vp_in_nI (show (((24 * sn) + 2) + i) < 26400 by omega) (by omega)) dX12_carry_51 (fun H locs hP hD hS => ?_)
      have e9 : fT vF 0 (upd g ((nI (((24 * sn) + 2) + i))).toNatClampNeg (nI md)) = fT (fT vF 0 g) 0 (upd g ((nI (((24 * sn) + 2) + i))).toNatClampNeg (nI md)) := (fT_sm _ _ _ _).symm
      have hP : va_P (dC, dI) vwCl (WR a k h0 vi vj (fT vF 0 (upd g ((nI (((24 * sn) + 2) + i))).toNatClampNeg (nI md))) vG) H := by rw [e9, ← WR_F 0 (by decide) _ rfl]; exact hP
      have hD : va_D A (WR a k h0 vi vj (fT vF 0 (upd g ((nI (((24 * sn) + 2) + i))).toNatClampNeg (nI md))) vG) := by rw [e9, ← WR_F 0 (by decide) _ rfl]; exact hD
      clear e9
      refine lv_iinc (v := (nI (i + 1))) hx hb dX12_carry_52 hl (k := 2) rfl (nI_add i 1) (by decide) rfl (fun ls (hl : lv_has ls _ ([(6, .int (nI (i + 1))), (4, .long ((((vG 1) i) + ov) >>> ((28 : Int32).toInt64 &&& 63))), (7, .long (((vG 1) i) + ov)), (0, .ref h0), (1, .int (nI sn)), (2, .int (nI n)), (3, .int qs)])) => ?_)
      refine lv_goto (tgt := 6) hx hb dX12_carry_55 (by decide) ?_
      have hl : lv_has _ _ ([(6, .int (nI (i + 1))), (4, .long ((((vG 1) i) + ov) >>> ((28 : Int32).toInt64 &&& 63))), (0, .ref h0), (1, .int (nI sn)), (2, .int (nI n)), (3, .int qs)]) := lv_sub hl [0, 1, 3, 4, 5, 6] rfl
      exact ih6 (i + 1) ((((vG 1) i) + ov) >>> ((28 : Int32).toInt64 &&& 63)) (upd g ((nI (((24 * sn) + 2) + i))).toNatClampNeg (nI md)) _ _ _ (by omega) (by rw [esh, ev]; omega) (by rw [esh]; exact sv_step (by omega) hmd1 hlv ev hmd2) (fun q hq => by rw [upd_at (by omega)]; by_cases e9 : 24 * sn + 2 + q = 24 * sn + 2 + i; (exact ⟨md, by omega, if_pos e9⟩); (rw [if_neg e9]; exact hlm q (by omega))) (fun q hq => by rw [upd_at (by omega), if_neg (by omega)]; exact ho q hq) (by omega) hP hD hS hl

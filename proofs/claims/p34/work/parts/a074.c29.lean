theorem dX12_join_0 : decode cX12_join 0 = .ok (.iconst 0, 1) := dk_3 (by decide +kernel)
theorem dX12_join_1 : decode cX12_join 1 = .ok (.istore 5, 2) := dk_54 (by decide +kernel)
theorem dX12_join_3 : decode cX12_join 3 = .ok (.iload 5, 2) := dk_21 (by decide +kernel)
theorem dX12_join_5 : decode cX12_join 5 = .ok (.bipush 9, 2) := dk_16 (by decide +kernel)
theorem dX12_join_7 : decode cX12_join 7 = .ok (.if_icmp .ge 110, 3) := dk_162 (by decide +kernel)
theorem dX12_join_10 : decode cX12_join 10 = .ok (.aload_n 0, 1) := dk_42 (by decide +kernel)
theorem dX12_join_11 : decode cX12_join 11 = .ok (.getfield 515, 3) := dk_180 (by decide +kernel)
theorem dX12_join_14 : decode cX12_join 14 = .ok (.ifCond .ne 103, 3) := dk_154 (by decide +kernel)
theorem dX12_join_17 : decode cX12_join 17 = .ok (.aload_n 0, 1) := dk_42 (by decide +kernel)
theorem dX12_join_18 : decode cX12_join 18 = .ok (.iload_n 1, 1) := dk_27 (by decide +kernel)
theorem dX12_join_19 : decode cX12_join 19 = .ok (.iload 5, 2) := dk_21 (by decide +kernel)
theorem dX12_join_21 : decode cX12_join 21 = .ok (.aload_n 0, 1) := dk_42 (by decide +kernel)
theorem dX12_join_22 : decode cX12_join 22 = .ok (.getfield 170, 3) := dk_180 (by decide +kernel)
theorem dX12_join_25 : decode cX12_join 25 = .ok (.bipush 9, 2) := dk_16 (by decide +kernel)
theorem dX12_join_27 : decode cX12_join 27 = .ok (.iload_n 1, 1) := dk_27 (by decide +kernel)
theorem dX12_join_28 : decode cX12_join 28 = .ok (.imul, 1) := dk_104 (by decide +kernel)
theorem dX12_join_29 : decode cX12_join 29 = .ok (.iload 5, 2) := dk_21 (by decide +kernel)
theorem dX12_join_31 : decode cX12_join 31 = .ok (.iadd, 1) := dk_96 (by decide +kernel)
theorem dX12_join_32 : decode cX12_join 32 = .ok (.iaload, 1) := dk_46 (by decide +kernel)
theorem dX12_join_33 : decode cX12_join 33 = .ok (.i2l, 1) := dk_133 (by decide +kernel)
theorem dX12_join_34 : decode cX12_join 34 = .ok (.aload_n 0, 1) := dk_42 (by decide +kernel)
theorem dX12_join_35 : decode cX12_join 35 = .ok (.getfield 173, 3) := dk_180 (by decide +kernel)
theorem dX12_join_38 : decode cX12_join 38 = .ok (.bipush 9, 2) := dk_16 (by decide +kernel)
theorem dX12_join_40 : decode cX12_join 40 = .ok (.iload_n 2, 1) := dk_28 (by decide +kernel)
theorem dX12_join_41 : decode cX12_join 41 = .ok (.imul, 1) := dk_104 (by decide +kernel)
theorem dX12_join_42 : decode cX12_join 42 = .ok (.iload 5, 2) := dk_21 (by decide +kernel)
theorem dX12_join_44 : decode cX12_join 44 = .ok (.iadd, 1) := dk_96 (by decide +kernel)
theorem dX12_join_45 : decode cX12_join 45 = .ok (.iaload, 1) := dk_46 (by decide +kernel)
theorem dX12_join_46 : decode cX12_join 46 = .ok (.i2l, 1) := dk_133 (by decide +kernel)
theorem dX12_join_47 : decode cX12_join 47 = .ok (.lmul, 1) := dk_105 (by decide +kernel)
theorem dX12_join_48 : decode cX12_join 48 = .ok (.iload_n 3, 1) := dk_29 (by decide +kernel)
theorem dX12_join_49 : decode cX12_join 49 = .ok (.i2l, 1) := dk_133 (by decide +kernel)
theorem dX12_join_50 : decode cX12_join 50 = .ok (.aload_n 0, 1) := dk_42 (by decide +kernel)
theorem dX12_join_51 : decode cX12_join 51 = .ok (.getfield 170, 3) := dk_180 (by decide +kernel)
theorem dX12_join_54 : decode cX12_join 54 = .ok (.bipush 9, 2) := dk_16 (by decide +kernel)
theorem dX12_join_56 : decode cX12_join 56 = .ok (.iload_n 2, 1) := dk_28 (by decide +kernel)
theorem dX12_join_57 : decode cX12_join 57 = .ok (.imul, 1) := dk_104 (by decide +kernel)
theorem dX12_join_58 : decode cX12_join 58 = .ok (.iload 5, 2) := dk_21 (by decide +kernel)
theorem dX12_join_60 : decode cX12_join 60 = .ok (.iadd, 1) := dk_96 (by decide +kernel)
theorem dX12_join_61 : decode cX12_join 61 = .ok (.iaload, 1) := dk_46 (by decide +kernel)
theorem dX12_join_62 : decode cX12_join 62 = .ok (.i2l, 1) := dk_133 (by decide +kernel)
theorem dX12_join_63 : decode cX12_join 63 = .ok (.lmul, 1) := dk_105 (by decide +kernel)
theorem dX12_join_64 : decode cX12_join 64 = .ok (.aload_n 0, 1) := dk_42 (by decide +kernel)
theorem dX12_join_65 : decode cX12_join 65 = .ok (.getfield 173, 3) := dk_180 (by decide +kernel)
theorem dX12_join_68 : decode cX12_join 68 = .ok (.bipush 9, 2) := dk_16 (by decide +kernel)
theorem dX12_join_70 : decode cX12_join 70 = .ok (.iload_n 1, 1) := dk_27 (by decide +kernel)
theorem dX12_join_71 : decode cX12_join 71 = .ok (.imul, 1) := dk_104 (by decide +kernel)
theorem dX12_join_72 : decode cX12_join 72 = .ok (.iload 5, 2) := dk_21 (by decide +kernel)
theorem dX12_join_74 : decode cX12_join 74 = .ok (.iadd, 1) := dk_96 (by decide +kernel)
theorem dX12_join_75 : decode cX12_join 75 = .ok (.iaload, 1) := dk_46 (by decide +kernel)
theorem dX12_join_76 : decode cX12_join 76 = .ok (.i2l, 1) := dk_133 (by decide +kernel)
theorem dX12_join_77 : decode cX12_join 77 = .ok (.lmul, 1) := dk_105 (by decide +kernel)
theorem dX12_join_78 : decode cX12_join 78 = .ok (.ladd, 1) := dk_97 (by decide +kernel)
theorem dX12_join_79 : decode cX12_join 79 = .ok (.aload_n 0, 1) := dk_42 (by decide +kernel)
theorem dX12_join_80 : decode cX12_join 80 = .ok (.getfield 173, 3) := dk_180 (by decide +kernel)
theorem dX12_join_83 : decode cX12_join 83 = .ok (.bipush 9, 2) := dk_16 (by decide +kernel)
theorem dX12_join_85 : decode cX12_join 85 = .ok (.iload_n 1, 1) := dk_27 (by decide +kernel)
theorem dX12_join_86 : decode cX12_join 86 = .ok (.imul, 1) := dk_104 (by decide +kernel)
theorem dX12_join_87 : decode cX12_join 87 = .ok (.iload 5, 2) := dk_21 (by decide +kernel)
theorem dX12_join_89 : decode cX12_join 89 = .ok (.iadd, 1) := dk_96 (by decide +kernel)
theorem dX12_join_90 : decode cX12_join 90 = .ok (.iaload, 1) := dk_46 (by decide +kernel)
theorem dX12_join_91 : decode cX12_join 91 = .ok (.i2l, 1) := dk_133 (by decide +kernel)
theorem dX12_join_92 : decode cX12_join 92 = .ok (.aload_n 0, 1) := dk_42 (by decide +kernel)
theorem dX12_join_93 : decode cX12_join 93 = .ok (.getfield 173, 3) := dk_180 (by decide +kernel)
theorem dX12_join_96 : decode cX12_join 96 = .ok (.bipush 9, 2) := dk_16 (by decide +kernel)
theorem dX12_join_98 : decode cX12_join 98 = .ok (.iload_n 2, 1) := dk_28 (by decide +kernel)
theorem dX12_join_99 : decode cX12_join 99 = .ok (.imul, 1) := dk_104 (by decide +kernel)
theorem dX12_join_100 : decode cX12_join 100 = .ok (.iload 5, 2) := dk_21 (by decide +kernel)
theorem dX12_join_102 : decode cX12_join 102 = .ok (.iadd, 1) := dk_96 (by decide +kernel)
theorem dX12_join_103 : decode cX12_join 103 = .ok (.iaload, 1) := dk_46 (by decide +kernel)
theorem dX12_join_104 : decode cX12_join 104 = .ok (.i2l, 1) := dk_133 (by decide +kernel)
theorem dX12_join_105 : decode cX12_join 105 = .ok (.lmul, 1) := dk_105 (by decide +kernel)
theorem dX12_join_106 : decode cX12_join 106 = .ok (.iload 4, 2) := dk_21 (by decide +kernel)
theorem dX12_join_108 : decode cX12_join 108 = .ok (.invokevirtual 634, 3) := dk_182 (by decide +kernel)
theorem dX12_join_111 : decode cX12_join 111 = .ok (.iinc 5 1, 3) := dk_132 (by decide +kernel)
theorem dX12_join_114 : decode cX12_join 114 = .ok (.goto (-111), 3) := dk_167 (by decide +kernel)
theorem dX12_join_117 : decode cX12_join 117 = .ok (.return_, 1) := dk_177 (by decide +kernel)
def wsRX12_join : List Cond := .code yX12_join cX12_join 6 none :: ([.fieldLink RX12 515 "OptimaWorksModel" "stop" "I", .fieldLink RX12 170 "OptimaWorksModel" "top" "[I", .fieldLink RX12 173 "OptimaWorksModel" "under" "[I"] ++ wsX120 ++ (wsV RX12 634 RX12 yX12_put1 wsRX12_put1))
theorem iwsRX12_join_in12 : ∀ w ∈ wsX120, w ∈ wsRX12_join := fun _ h => List.mem_cons_of_mem _ (List.mem_append_left _ (List.mem_append_right _ h))
theorem gwsRX12_join_0 : GoodIn wsRX12_join (wsV RX12 634 RX12 yX12_put1 wsRX12_put1) := goodIn_sub (fun _ h => List.mem_cons_of_mem _ (List.mem_append_right _ h)) (gdV (by decide +kernel) gdwsRX12_put1)
theorem gdwsRX12_join : wsRX12_join.all goodWord = true := gdC rfl (gdA (gdA (by decide +kernel : ([.fieldLink RX12 515 "OptimaWorksModel" "stop" "I", .fieldLink RX12 170 "OptimaWorksModel" "top" "[I", .fieldLink RX12 173 "OptimaWorksModel" "under" "[I"] : List Cond).all goodWord = true) gdwsX120) (gdV (by decide +kernel) gdwsRX12_put1))
set_option maxHeartbeats 4000000 in
set_option maxRecDepth 100000 in
/-- join(v, w, how, p) -/
theorem r_X12_join (l : Launch) (dC : Nat → ClassId) (dI : Nat → Nat → Nat) (a : Nat → Nat) (k : Nat → ClassId) (h0 : Nat) (vi : Nat → Int32) (vj : Nat → Int64) (vF : Nat → Nat → Int32) (vG : Nat → Nat → Int64) (vn : Nat) (wn : Nat) (hw : Int32) (hI : Int) (pv : Int32) (hvn : vn < 100) (hwn : wn < 100) (hhI : (hw).toInt = hI) (hI1 : hI = 1 ∨ hI = -1) (hrv : RowU (vF 49) (vF 50) vn) (hrw : RowU (vF 49) (vF 50) wn) (sz : Nat) : Met l yX12_join wsRX12_join ({ frames := 2, cells := 0, slots := 0, locals := 62 }) (va_Pc [.ref h0, .int (nI vn), .int (nI wn), .int hw, .int pv] (fun U => U.heap.size = sz ∧ va_P (dC, dI) vwCl (WR a k h0 vi vj vF vG) U.heap ∧ va_K (dC, dI) vwCl (tX12 k) U ∧ va_D (fun _ => True) (WR a k h0 vi vj vF vG))) (va_Qv (fun (u : (Int32) × (Int32) × (Nat → Int32) × (Nat → Int32)) => (∀ v9, v9 < 100 → RowU (vF 49) (vF 50) v9 → RowU (u.2.2.1) (u.2.2.2) v9) ∧ (∀ q, (q < 9 * vn ∨ 9 * vn + 9 ≤ q) → (u.2.2.1) q = vF 49 q) ∧ (∀ q, (q < 9 * vn ∨ 9 * vn + 9 ≤ q) → (u.2.2.2) q = vF 50 q) ∧ ((u.1) = vi 21 ∨ 0 < ((u.1)).toInt)) (fun (u : (Int32) × (Int32) × (Nat → Int32) × (Nat → Int32)) t => va_P (dC, dI) vwCl (WR a k h0 (fT (fT vi 21 (u.1)) 22 (u.2.1)) vj (fT (fT vF 49 (u.2.2.1)) 50 (u.2.2.2)) vG) t.heap ∧ va_D (va_A (WR a k h0 vi vj vF vG) sz) (WR a k h0 (fT (fT vi 21 (u.1)) 22 (u.2.1)) vj (fT (fT vF 49 (u.2.2.1)) 50 (u.2.2.2)) vG)) (va_A (WR a k h0 vi vj vF vG) sz)) 0 0 (va_A (WR a k h0 vi vj vF vG) sz) := by
  refine Met.ofW (cc := cX12_join) (maxL := 6) (ret := none) (by decide) rfl ?_
  intro p e s m args below meth c s₁ B hml hv
  obtain ⟨rfl, hsz, hP, hK, hD0⟩ := hv
  have hx := B.exec
  have hb := B.bytes
  have hr := B.returns
  have hts := atoms_spec (ws := wsRX12_join) B.pre
  have hown : s.vm.findClass RX12 = some m.cls := findClass_of_methodNamed B.named
  have hlocks := B.notSynchronized
  subst hsz
  have hD := hD0.self (sz := s.heap.size)
  generalize hAe : va_A (WR a k h0 vi vj vF vG) s.heap.size = A at hD ⊢
  have hA : ∀ q : Nat, s.heap.size ≤ q → A q := fun q h => by rw [← hAe]; exact Or.inr h
  have hS : va_S A s.heap s.heap [] := va_S.rf
  have hl := lv_entry ([.ref h0, .int (nI vn), .int (nI wn), .int hw, .int pv]) (n := 6) (Nat.le_of_ble_eq_true rfl)
  rw [lg_entry_eq]
  generalize (lg_sl ([.ref h0, .int (nI vn), .int (nI wn), .int hw, .int pv]) ++ List.replicate (6 - (lg_sl ([.ref h0, .int (nI vn), .int (nI wn), .int hw, .int pv])).length) Slot.unset).toArray = ls at hl ⊢
  have hl : lv_has ls 6 [(0, .ref h0), (1, .int (nI vn)), (2, .int (nI wn)), (3, .int hw), (4, .int pv)] := hl
  refine lv_iconst (v := 0) hx hb dX12_join_0 (by decide) ?_
  refine lv_istore hx hb dX12_join_1 hl (by decide) rfl (fun ls (hl : lv_has ls _ ([(5, .int 0), (0, .ref h0), (1, .int (nI vn)), (2, .int (nI wn)), (3, .int hw), (4, .int pv)])) => ?_)
  have e9 : fT (fT vi 21 (vi 21)) 22 (vi 22) = vi := by funext q9; by_cases h9_21 : q9 = 21; (subst h9_21; exact ((fT_ne _ _ (Nat.ne_of_beq_eq_false rfl)).trans (fT_eq _ _ _)).trans (Eq.trans (by first | rfl | assumption | (symm; assumption) | (subst_vars; rfl)) (Eq.refl _).symm)); by_cases h9_22 : q9 = 22; (subst h9_22; exact (fT_eq _ _ _).trans (Eq.trans (by first | rfl | assumption | (symm; assumption) | (subst_vars; rfl)) (Eq.refl _).symm)); exact ((fT_ne _ _ h9_22).trans (fT_ne _ _ h9_21)).trans (Eq.refl _).symm
  have hP : va_P (dC, dI) vwCl (WR a k h0 (fT (fT vi 21 (vi 21)) 22 (vi 22)) vj vF vG) s.heap := by rw [e9]; exact hP
  have hD : va_D A (WR a k h0 (fT (fT vi 21 (vi 21)) 22 (vi 22)) vj vF vG) := by rw [e9]; exact hD
  clear e9
  have e9 : fT (fT vF 49 (vF 49)) 50 (vF 50) = vF := by funext q9; by_cases h9_49 : q9 = 49; (subst h9_49; exact ((fT_ne _ _ (Nat.ne_of_beq_eq_false rfl)).trans (fT_eq _ _ _)).trans (Eq.trans (by first | rfl | assumption | (symm; assumption) | (subst_vars; rfl)) (Eq.refl _).symm)); by_cases h9_50 : q9 = 50; (subst h9_50; exact (fT_eq _ _ _).trans (Eq.trans (by first | rfl | assumption | (symm; assumption) | (subst_vars; rfl)) (Eq.refl _).symm)); exact ((fT_ne _ _ h9_50).trans (fT_ne _ _ h9_49)).trans (Eq.refl _).symm
  have hP : va_P (dC, dI) vwCl (WR a k h0 (fT (fT vi 21 (vi 21)) 22 (vi 22)) vj (fT (fT vF 49 (vF 49)) 50 (vF 50)) vG) s.heap := by rw [e9]; exact hP
  have hD : va_D A (WR a k h0 (fT (fT vi 21 (vi 21)) 22 (vi 22)) vj (fT (fT vF 49 (vF 49)) 50 (vF 50)) vG) := by rw [e9]; exact hD
  clear e9
  have hl : lv_has _ _ ([(0, .ref h0), (1, .int (nI vn)), (2, .int (nI wn)), (3, .int hw), (4, .int pv), (5, .int (nI 0))]) := lv_sub hl [1, 2, 3, 4, 5, 0] rfl
  refine (fun (loop : ∀ (n9 : Nat) (k5 : Nat) (s3 : Int32) (p3 : Int32) (f49 : Nat → Int32) (f50 : Nat → Int32) (H : Heap) (locs : List Loc) (ls : Array Slot), (k5 ≤ 9) → (∀ v9, v9 < 100 → RowU (vF 49) (vF 50) v9 → RowU f49 f50 v9) → (∀ q, (q < 9 * vn ∨ 9 * vn + 9 ≤ q) → f49 q = vF 49 q) → (∀ q, (q < 9 * vn ∨ 9 * vn + 9 ≤ q) → f50 q = vF 50 q) → (s3 = vi 21 ∨ 0 < (s3).toInt) →  (9 < k5 + n9) → va_P (dC, dI) vwCl (WR a k h0 (fT (fT vi 21 s3) 22 p3) vj (fT (fT vF 49 f49) 50 f50) vG) H → va_D A (WR a k h0 (fT (fT vi 21 s3) 22 p3) vj (fT (fT vF 49 f49) 50 f50) vG) → va_S A s.heap H locs → lv_has ls 6 [(0, .ref h0), (1, .int (nI vn)), (2, .int (nI wn)), (3, .int hw), (4, .int pv), (5, .int (nI k5))] → W p l e _ s m _ below meth c H locs 0 0 _ (F0 m 3 ls [])) => loop (10) 0 (vi 21) (vi 22) (vF 49) (vF 50) _ _ _ (by omega) (fun u _ h => h) (fun q _ => rfl) (fun q _ => rfl) (Or.inl rfl) (by omega) hP hD hS hl) ?_
  intro n9
  induction n9 with
  | zero => intro k5 s3 p3 f49 f50 H locs ls hk5 hpr ho1 ho2 hst hf9; exact False.elim (by omega)
  | succ n9 ih3 =>
    intro k5 s3 p3 f49 f50 H locs ls hk5 hpr ho1 ho2 hst hf3 hP hD hS hl
    refine lv_iload hx hb dX12_join_3 (lv_at hl 5 rfl) ?_
    refine lv_bipush (v := 9) hx hb dX12_join_5 (by decide) ?_
    refine lv_icmp_ge (tgt := 117) hx hb dX12_join_7 (by decide) (fun c_7 => ?_) (fun c_7 => ?_)
    · have t_7 : ((k5 : Nat) : Int) ≥ 9 := toI_ge c_7 (nI_toInt (by omega)) (by decide)
      refine W.widen (k := 0) (n := 0) (by decide +kernel) (by decide +kernel) ?_
      exact W.vret hx hb hr (fun t9_ ht hW => ⟨⟨(s3, p3, f49, f50), rfl, by (try dsimp only); exact ⟨hpr, ho1, ho2, hst⟩, by rw [ht]; exact hP, hD⟩, hS.F ht⟩) hS.2.2 dX12_join_117
    · have t_7 : ¬ ((k5 : Nat) : Int) ≥ 9 := toI_nge c_7 (nI_toInt (by omega)) (by decide)
      refine lv_aload_n hx hb dX12_join_10 rfl (lv_at hl 0 rfl) ?_
      refine va_get (D := (dC, dI)) (ci := 12) (v := .int s3) (C := RX12) (T := TX12) (N := 163) (fs := fM (vS a (fT (fT vi 21 s3) 22 p3) vj)) hx hb hts iwsRX12_join_in12 hown hK hP 0 rfl rfl 21 (by decide) (hts (.fieldLink RX12 515 "OptimaWorksModel" "stop" "I") (by decide +kernel)) (fun _ h9 => h9) rfl dX12_join_11 ?_
      refine lv_if_ne (tgt := 117) hx hb dX12_join_14 (by decide) (fun c_14 => ?_) (fun c_14 => ?_)
      · have t_14 : (s3).toInt ≠ 0 := toI_ne c_14 rfl (by decide)
        refine W.widen (k := 0) (n := 0) (by decide +kernel) (by decide +kernel) ?_
        exact W.vret hx hb hr (fun t9_ ht hW => ⟨⟨(s3, p3, f49, f50), rfl, by (try dsimp only); exact ⟨hpr, ho1, ho2, hst⟩, by rw [ht]; exact hP, hD⟩, hS.F ht⟩) hS.2.2 dX12_join_117
      · have t_14 : (s3).toInt = 0 := toI_nne c_14 rfl (by decide)
        have r1 := hpr vn hvn hrv k5 (by omega)
        have r2 := hpr wn hwn hrw k5 (by omega)
        have m1 := mulI (x := (f49 (9 * vn + k5))) (y := (f50 (9 * wn + k5)))
        have m2 := mulI (x := hw) (y := (f49 (9 * wn + k5)))
        have m4 := mulI (x := (f50 (9 * vn + k5))) (y := (f50 (9 * wn + k5)))
        have b1 : ((f49 (9 * vn + k5)).toInt * (f50 (9 * wn + k5)).toInt).natAbs ≤ 2000000 * 2000000 := mul_box (by omega) (by omega)
        have b2 : (hI * (f49 (9 * wn + k5)).toInt).natAbs ≤ 1 * 2000000 := mul_box (by omega) (by omega)
        have m3 := mulQ (x := hw.toInt64 * (f49 (9 * wn + k5)).toInt64) (y := (f50 (9 * vn + k5)).toInt64) (by rw [m2, hhI]; omega) (by rw [i64T]; omega)
        rw [m2, i64T, hhI] at m3
        have b3 : (hI * (f49 (9 * wn + k5)).toInt * (f50 (9 * vn + k5)).toInt).natAbs ≤ 2000000 * 2000000 := mul_box (by omega) (by omega)
        have b4 : ((f50 (9 * vn + k5)).toInt * (f50 (9 * wn + k5)).toInt).natAbs ≤ 2000000 * 2000000 := mul_box (by omega) (by omega)
        have b5 : 0 < (f50 (9 * vn + k5)).toInt * (f50 (9 * wn + k5)).toInt := Int.mul_pos (by omega) (by omega)
        refine lv_aload_n hx hb dX12_join_17 rfl (lv_at hl 0 rfl) ?_
        refine lv_iload_n hx hb dX12_join_18 rfl (lv_at hl 1 rfl) ?_
        refine lv_iload hx hb dX12_join_19 (lv_at hl 5 rfl) ?_
        refine lv_aload_n hx hb dX12_join_21 rfl (lv_at hl 0 rfl) ?_
        refine va_get (D := (dC, dI)) (ci := 12) (v := .ref (a 49)) (C := RX12) (T := TX12) (N := 163) (fs := fM (vS a (fT (fT vi 21 s3) 22 p3) vj)) hx hb hts iwsRX12_join_in12 hown hK hP 0 rfl rfl 78 (by decide) (hts (.fieldLink RX12 170 "OptimaWorksModel" "top" "[I") (by decide +kernel)) (fun _ h9 => h9) rfl dX12_join_22 ?_
        refine lv_bipush (v := 9) hx hb dX12_join_25 (by decide) ?_
        refine lv_iload_n hx hb dX12_join_27 rfl (lv_at hl 1 rfl) ?_
        refine lv_imul hx hb dX12_join_28 ?_
        refine lv_topi (fun y1 hy1 => ?_)
        obtain rfl : (nI (9 * vn)) = y1 := (hy1.trans (pk_mul 9 vn)).symm
        refine lv_iload hx hb dX12_join_29 (lv_at hl 5 rfl) ?_
        refine lv_iadd hx hb dX12_join_31 ?_
        refine lv_topi (fun y2 hy2 => ?_)
        obtain rfl : (nI ((9 * vn) + k5)) = y2 := (hy2.trans (nI_add (9 * vn) k5)).symm
        refine va_iald (cA := k 49) (n := 900) (f := f49) hx hb hK hP 50 49 (WR_get 49 (by decide)) (TR_get 49 (by decide)) (vp_in_nI (show ((9 * vn) + k5) < 900 by omega) (by omega)) dX12_join_32 ?_
        refine lv_topi (fun y3 hy3 => ?_)
        obtain rfl : (f49 ((9 * vn) + k5)) = y3 := (hy3.trans (by rw [nI_clamp (by omega)])).symm
        refine lv_i2l hx hb dX12_join_33 rfl ?_
        refine lv_aload_n hx hb dX12_join_34 rfl (lv_at hl 0 rfl) ?_
        refine va_get (D := (dC, dI)) (ci := 12) (v := .ref (a 50)) (C := RX12) (T := TX12) (N := 163) (fs := fM (vS a (fT (fT vi 21 s3) 22 p3) vj)) hx hb hts iwsRX12_join_in12 hown hK hP 0 rfl rfl 79 (by decide) (hts (.fieldLink RX12 173 "OptimaWorksModel" "under" "[I") (by decide +kernel)) (fun _ h9 => h9) rfl dX12_join_35 ?_
        refine lv_bipush (v := 9) hx hb dX12_join_38 (by decide) ?_
        refine lv_iload_n hx hb dX12_join_40 rfl (lv_at hl 2 rfl) ?_
        refine lv_imul hx hb dX12_join_41 ?_
        refine lv_topi (fun y4 hy4 => ?_)
        obtain rfl : (nI (9 * wn)) = y4 := (hy4.trans (pk_mul 9 wn)).symm
        refine lv_iload hx hb dX12_join_42 (lv_at hl 5 rfl) ?_
        refine lv_iadd hx hb dX12_join_44 ?_
        refine lv_topi (fun y5 hy5 => ?_)
        obtain rfl : (nI ((9 * wn) + k5)) = y5 := (hy5.trans (nI_add (9 * wn) k5)).symm
        refine va_iald (cA := k 50) (n := 900) (f := f50) hx hb hK hP 51 50 (WR_get 50 (by decide)) (TR_get 50 (by decide)) (vp_in_nI (show ((9 * wn) + k5) < 900 by omega) (by omega)) dX12_join_45 ?_
        refine lv_topi (fun y6 hy6 => ?_)
        obtain rfl : (f50 ((9 * wn) + k5)) = y6 := (hy6.trans (by rw [nI_clamp (by omega)])).symm
        refine lv_i2l hx hb dX12_join_46 rfl ?_
        refine lv_lmul hx hb dX12_join_47 ?_
        refine lv_iload_n hx hb dX12_join_48 rfl (lv_at hl 3 rfl) ?_
        refine lv_i2l hx hb dX12_join_49 rfl ?_
        refine lv_aload_n hx hb dX12_join_50 rfl (lv_at hl 0 rfl) ?_
        refine va_get (D := (dC, dI)) (ci := 12) (v := .ref (a 49)) (C := RX12) (T := TX12) (N := 163) (fs := fM (vS a (fT (fT vi 21 s3) 22 p3) vj)) hx hb hts iwsRX12_join_in12 hown hK hP 0 rfl rfl 78 (by decide) (hts (.fieldLink RX12 170 "OptimaWorksModel" "top" "[I") (by decide +kernel)) (fun _ h9 => h9) rfl dX12_join_51 ?_
        refine lv_bipush (v := 9) hx hb dX12_join_54 (by decide) ?_
        refine lv_iload_n hx hb dX12_join_56 rfl (lv_at hl 2 rfl) ?_
        refine lv_imul hx hb dX12_join_57 ?_
        refine lv_topi (fun y7 hy7 => ?_)
        obtain rfl : (nI (9 * wn)) = y7 := (hy7.trans (pk_mul 9 wn)).symm
        refine lv_iload hx hb dX12_join_58 (lv_at hl 5 rfl) ?_
        refine lv_iadd hx hb dX12_join_60 ?_
        refine lv_topi (fun y8 hy8 => ?_)
        obtain rfl : (nI ((9 * wn) + k5)) = y8 := (hy8.trans (nI_add (9 * wn) k5)).symm
        refine va_iald (cA := k 49) (n := 900) (f := f49) hx hb hK hP 50 49 (WR_get 49 (by decide)) (TR_get 49 (by decide)) (vp_in_nI (show ((9 * wn) + k5) < 900 by omega) (by omega)) dX12_join_61 ?_
        refine lv_topi (fun y9 hy9 => ?_)
        obtain rfl : (f49 ((9 * wn) + k5)) = y9 := (hy9.trans (by rw [nI_clamp (by omega)])).symm
        refine lv_i2l hx hb dX12_join_62 rfl ?_
        refine lv_lmul hx hb dX12_join_63 ?_
        refine lv_aload_n hx hb dX12_join_64 rfl (lv_at hl 0 rfl) ?_
        refine va_get (D := (dC, dI)) (ci := 12) (v := .ref (a 50)) (C := RX12) (T := TX12) (N := 163) (fs := fM (vS a (fT (fT vi 21 s3) 22 p3) vj)) hx hb hts iwsRX12_join_in12 hown hK hP 0 rfl rfl 79 (by decide) (hts (.fieldLink RX12 173 "OptimaWorksModel" "under" "[I") (by decide +kernel)) (fun _ h9 => h9) rfl dX12_join_65 ?_
        refine lv_bipush (v := 9) hx hb dX12_join_68 (by decide) ?_
        refine lv_iload_n hx hb dX12_join_70 rfl (lv_at hl 1 rfl) ?_
        refine lv_imul hx hb dX12_join_71 ?_
        refine lv_topi (fun y10 hy10 => ?_)
        obtain rfl : (nI (9 * vn)) = y10 := (hy10.trans (pk_mul 9 vn)).symm
        refine lv_iload hx hb dX12_join_72 (lv_at hl 5 rfl) ?_
        refine lv_iadd hx hb dX12_join_74 ?_
        refine lv_topi (fun y11 hy11 => ?_)
        obtain rfl : (nI ((9 * vn) + k5)) = y11 := (hy11.trans (nI_add (9 * vn) k5)).symm
        refine va_iald (cA := k 50) (n := 900) (f := f50) hx hb hK hP 51 50 (WR_get 50 (by decide)) (TR_get 50 (by decide)) (vp_in_nI (show ((9 * vn) + k5) < 900 by omega) (by omega)) dX12_join_75 ?_
        refine lv_topi (fun y12 hy12 => ?_)
        obtain rfl : (f50 ((9 * vn) + k5)) = y12 := (hy12.trans (by rw [nI_clamp (by omega)])).symm
        refine lv_i2l hx hb dX12_join_76 rfl ?_
        refine lv_lmul hx hb dX12_join_77 ?_
        refine lv_ladd hx hb dX12_join_78 ?_
        obtain ⟨n9_, hn9⟩ : ∃ n9_, n9_ = (((((f49 ((9 * vn) + k5))).toInt64 * ((f50 ((9 * wn) + k5))).toInt64) + (((hw).toInt64 * ((f49 ((9 * wn) + k5))).toInt64) * ((f50 ((9 * vn) + k5))).toInt64)) : Int64) := ⟨_, rfl⟩
        have en9 : n9_.toInt = (f49 (9 * vn + k5)).toInt * (f50 (9 * wn + k5)).toInt + hI * (f49 (9 * wn + k5)).toInt * (f50 (9 * vn + k5)).toInt := by rw [hn9, addJ (by omega) (by omega), m1, m3.1]
        refine lv_topl (fun y13 hy13 => ?_)
        obtain rfl : n9_ = y13 := (hy13.trans (hn9.symm)).symm
        refine lv_aload_n hx hb dX12_join_79 rfl (lv_at hl 0 rfl) ?_
        refine va_get (D := (dC, dI)) (ci := 12) (v := .ref (a 50)) (C := RX12) (T := TX12) (N := 163) (fs := fM (vS a (fT (fT vi 21 s3) 22 p3) vj)) hx hb hts iwsRX12_join_in12 hown hK hP 0 rfl rfl 79 (by decide) (hts (.fieldLink RX12 173 "OptimaWorksModel" "under" "[I") (by decide +kernel)) (fun _ h9 => h9) rfl dX12_join_80 ?_
        refine lv_bipush (v := 9) hx hb dX12_join_83 (by decide) ?_
        refine lv_iload_n hx hb dX12_join_85 rfl (lv_at hl 1 rfl) ?_
        refine lv_imul hx hb dX12_join_86 ?_
        refine lv_topi (fun y14 hy14 => ?_)
        obtain rfl : (nI (9 * vn)) = y14 := (hy14.trans (pk_mul 9 vn)).symm
        refine lv_iload hx hb dX12_join_87 (lv_at hl 5 rfl) ?_
        refine lv_iadd hx hb dX12_join_89 ?_
        refine lv_topi (fun y15 hy15 => ?_)
        obtain rfl : (nI ((9 * vn) + k5)) = y15 := (hy15.trans (nI_add (9 * vn) k5)).symm
        refine va_iald (cA := k 50) (n := 900) (f := f50) hx hb hK hP 51 50 (WR_get 50 (by decide)) (TR_get 50 (by decide)) (vp_in_nI (show ((9 * vn) + k5) < 900 by omega) (by omega)) dX12_join_90 ?_
        refine lv_topi (fun y16 hy16 => ?_)
        obtain rfl : (f50 ((9 * vn) + k5)) = y16 := (hy16.trans (by rw [nI_clamp (by omega)])).symm
        refine lv_i2l hx hb dX12_join_91 rfl ?_
        refine lv_aload_n hx hb dX12_join_92 rfl (lv_at hl 0 rfl) ?_
        refine va_get (D := (dC, dI)) (ci := 12) (v := .ref (a 50)) (C := RX12) (T := TX12) (N := 163) (fs := fM (vS a (fT (fT vi 21 s3) 22 p3) vj)) hx hb hts iwsRX12_join_in12 hown hK hP 0 rfl rfl 79 (by decide) (hts (.fieldLink RX12 173 "OptimaWorksModel" "under" "[I") (by decide +kernel)) (fun _ h9 => h9) rfl dX12_join_93 ?_
        refine lv_bipush (v := 9) hx hb dX12_join_96 (by decide) ?_
        refine lv_iload_n hx hb dX12_join_98 rfl (lv_at hl 2 rfl) ?_
        refine lv_imul hx hb dX12_join_99 ?_
        refine lv_topi (fun y17 hy17 => ?_)
        obtain rfl : (nI (9 * wn)) = y17 := (hy17.trans (pk_mul 9 wn)).symm
        refine lv_iload hx hb dX12_join_100 (lv_at hl 5 rfl) ?_
        refine lv_iadd hx hb dX12_join_102 ?_
        refine lv_topi (fun y18 hy18 => ?_)
        obtain rfl : (nI ((9 * wn) + k5)) = y18 := (hy18.trans (nI_add (9 * wn) k5)).symm
        refine va_iald (cA := k 50) (n := 900) (f := f50) hx hb hK hP 51 50 (WR_get 50 (by decide)) (TR_get 50 (by decide)) (vp_in_nI (show ((9 * wn) + k5) < 900 by omega) (by omega)) dX12_join_103 ?_
        refine lv_topi (fun y19 hy19 => ?_)
        obtain rfl : (f50 ((9 * wn) + k5)) = y19 := (hy19.trans (by rw [nI_clamp (by omega)])).symm
        refine lv_i2l hx hb dX12_join_104 rfl ?_
        refine lv_lmul hx hb dX12_join_105 ?_
        obtain ⟨d9_, hd9⟩ : ∃ d9_, d9_ = ((((f50 ((9 * vn) + k5))).toInt64 * ((f50 ((9 * wn) + k5))).toInt64) : Int64) := ⟨_, rfl⟩
        have ed9 : d9_.toInt = (f50 (9 * vn + k5)).toInt * (f50 (9 * wn + k5)).toInt := by rw [hd9, m4]
        refine lv_topl (fun y20 hy20 => ?_)
        obtain rfl : d9_ = y20 := (hy20.trans (hd9.symm)).symm
        refine lv_iload hx hb dX12_join_106 (lv_at hl 4 rfl) ?_
        have hFc := allFree hD hS hA
        refine va_callv (va_runV (As := [.int (nI vn), .int (nI k5), .long n9_, .long d9_, .int pv]) (rest := []) ⟨hx, hb, hml, hown, hts⟩ (r_X12_put1 l dC dI a k h0 (fT (fT vi 21 s3) 22 p3) vj (fT (fT vF 49 f49) 50 f50) vG vn k5 n9_ d9_ pv (by first | assumption | decide | omega | rfl) (by first | assumption | decide | omega | rfl) (by omega) (by omega) (by omega) H.size) (cwV 5 hts gwsRX12_join_0 rfl rfl rfl (by decide +kernel) ⟨by decide +kernel, by decide +kernel⟩) ⟨fun a U g mk q => by obtain ⟨q0, q1, qP, qK, qD⟩ := q; exact ⟨q0, q1, qP, va_K.moved (u := U) (U := U.calling g mk a) (Vm.Alike.refl U.vm) qK, qD⟩, va_recv hK hP (ci := 12) (q0 := 0) rfl rfl, fun U hU9 hW => ⟨rfl, by rw [hU9], by rw [hU9]; exact hP, va_K.moved hW.alike hK, hD.weaken (fun _ _ _ _ => trivial)⟩⟩ rfl rfl hl.1 rfl (lv_room (Nat.le_of_ble_eq_true rfl)) dX12_join_108 ⟨by decide +kernel, by decide +kernel⟩) hS (fun q _ h => hFc q h) hFc (fun u t9_ H1 locs ht hvm hw9 hB9 hz1 hk1 hS => ?_)
        obtain ⟨s2108, p2108, f49108, f50108⟩ := u
        try dsimp only at hw9 hB9
        obtain ⟨hP1, hD1⟩ := hB9
        rw [ht] at hP1
        have hP := hP1
        have hD := hD1.weaken (fun _ q _ h => hFc q.1 h)
        generalize H1 = H at hP hS ⊢
        have hP : va_P (dC, dI) vwCl (WR a k h0 (fT (fT (fT (fT vi 21 s3) 22 p3) 21 s2108) 22 p2108) vj (fT (fT (fT (fT vF 49 f49) 50 f50) 49 f49108) 50 f50108) vG) H := hP
        have hD : va_D A (WR a k h0 (fT (fT (fT (fT vi 21 s3) 22 p3) 21 s2108) 22 p2108) vj (fT (fT (fT (fT vF 49 f49) 50 f50) 49 f49108) 50 f50108) vG) := hD
        have e9 : fT (fT vi 21 s2108) 22 p2108 = fT (fT (fT (fT vi 21 s3) 22 p3) 21 s2108) 22 p2108 := ((congrArg (fun g9 => fT g9 22 p2108) ((fT_sw _ _ _ (Nat.ne_of_beq_eq_false rfl)).trans (congrArg (fun g9 => fT g9 22 p3) (fT_sm _ _ _ _)))).trans (fT_sm _ _ _ _)).symm
        rw [← e9] at hP hD
        clear e9
        have e9 : fT (fT vF 49 f49108) 50 f50108 = fT (fT (fT (fT vF 49 f49) 50 f50) 49 f49108) 50 f50108 := ((congrArg (fun g9 => fT g9 50 f50108) ((fT_sw _ _ _ (Nat.ne_of_beq_eq_false rfl)).trans (congrArg (fun g9 => fT g9 50 f50) (fT_sm _ _ _ _)))).trans (fT_sm _ _ _ _)).symm
        rw [← e9] at hP hD
        clear e9
        have hP : va_P (dC, dI) vwCl (WR a k h0 (fT (fT vi 21 s2108) 22 p2108) vj (fT (fT vF 49 f49108) 50 f50108) vG) H := hP
        have hD : va_D A (WR a k h0 (fT (fT vi 21 s2108) 22 p2108) vj (fT (fT vF 49 f49108) 50 f50108) vG) := hD
        have f108_0 := hw9
        try dsimp only at f108_0
        have f108_0 : (¬ (s2108).toInt ≤ 0 ∧ f49108 = f49 ∧ f50108 = f50) ∨ ((s2108).toInt ≤ 0 ∧ s2108 = s3 ∧ ∃ tv uv : Int32, ((tv).toInt ≤ 1000000 ∧ -1000000 ≤ (tv).toInt ∧ 1 ≤ (uv).toInt ∧ (uv).toInt ≤ 1000000) ∧ f49108 = upd f49 (nI (9 * vn + k5)).toNatClampNeg tv ∧ f50108 = upd f50 (nI (9 * vn + k5)).toNatClampNeg uv) := f108_0
        refine lv_iinc (v := (nI (k5 + 1))) hx hb dX12_join_111 hl (k := 5) rfl (nI_add k5 1) (by decide) rfl (fun ls (hl : lv_has ls _ ([(5, .int (nI (k5 + 1))), (0, .ref h0), (1, .int (nI vn)), (2, .int (nI wn)), (3, .int hw), (4, .int pv)])) => ?_)
        refine lv_goto (tgt := 3) hx hb dX12_join_114 (by decide) ?_
        have hl : lv_has _ _ ([(0, .ref h0), (1, .int (nI vn)), (2, .int (nI wn)), (3, .int hw), (4, .int pv), (5, .int (nI (k5 + 1)))]) := lv_sub hl [1, 2, 3, 4, 5, 0] rfl
        exact ih3 (k5 + 1) s2108 p2108 f49108 f50108 _ _ _ (by omega) (fun u hu h0 => by rcases f108_0 with ⟨h9, h8, h7⟩ | ⟨h9, h8, tv, uv, h7, h6, h5⟩; (rw [h8, h7]; exact hpr u hu h0); (rw [h6, h5]; exact (hpr u hu h0).put hvn hu (by omega) h7)) (fun q hq => by rcases f108_0 with ⟨h9, h8, h7⟩ | ⟨h9, h8, tv, uv, h7, h6, h5⟩; (rw [h8]; exact ho1 q hq); (rw [h6, upd_at (by omega), if_neg (by omega)]; exact ho1 q hq)) (fun q hq => by rcases f108_0 with ⟨h9, h8, h7⟩ | ⟨h9, h8, tv, uv, h7, h6, h5⟩; (rw [h7]; exact ho2 q hq); (rw [h5, upd_at (by omega), if_neg (by omega)]; exact ho2 q hq)) (by rcases f108_0 with ⟨h9, h8⟩ | ⟨h9, h8, h7⟩; (exact Or.inr (by omega)); (rw [h8]; exact hst)) (by omega) hP hD hS hl

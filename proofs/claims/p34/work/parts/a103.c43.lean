theorem dX12_arc_0 : decode cX12_arc 0 = .ok (.iload_n 1, 1) := dk_27 (by decide +kernel)
theorem dX12_arc_1 : decode cX12_arc 1 = .ok (.invokestatic 1066, 3) := dk_184 (by decide +kernel)
theorem dX12_arc_4 : decode cX12_arc 4 = .ok (.ifCond .eq 43, 3) := dk_153 (by decide +kernel)
theorem dX12_arc_7 : decode cX12_arc 7 = .ok (.iload_n 2, 1) := dk_28 (by decide +kernel)
theorem dX12_arc_8 : decode cX12_arc 8 = .ok (.invokestatic 1066, 3) := dk_184 (by decide +kernel)
theorem dX12_arc_11 : decode cX12_arc 11 = .ok (.ifCond .eq 36, 3) := dk_153 (by decide +kernel)
theorem dX12_arc_14 : decode cX12_arc 14 = .ok (.iload_n 1, 1) := dk_27 (by decide +kernel)
theorem dX12_arc_15 : decode cX12_arc 15 = .ok (.iload_n 2, 1) := dk_28 (by decide +kernel)
theorem dX12_arc_16 : decode cX12_arc 16 = .ok (.if_icmp .eq 31, 3) := dk_159 (by decide +kernel)
theorem dX12_arc_19 : decode cX12_arc 19 = .ok (.iload_n 3, 1) := dk_29 (by decide +kernel)
theorem dX12_arc_20 : decode cX12_arc 20 = .ok (.ifCond .lt 27, 3) := dk_155 (by decide +kernel)
theorem dX12_arc_23 : decode cX12_arc 23 = .ok (.iload_n 3, 1) := dk_29 (by decide +kernel)
theorem dX12_arc_24 : decode cX12_arc 24 = .ok (.sipush 1000, 3) := dk_17 (by decide +kernel)
theorem dX12_arc_27 : decode cX12_arc 27 = .ok (.if_icmp .gt 20, 3) := dk_163 (by decide +kernel)
theorem dX12_arc_30 : decode cX12_arc 30 = .ok (.iload 4, 2) := dk_21 (by decide +kernel)
theorem dX12_arc_32 : decode cX12_arc 32 = .ok (.ifCond .lt 15, 3) := dk_155 (by decide +kernel)
theorem dX12_arc_35 : decode cX12_arc 35 = .ok (.iload 4, 2) := dk_21 (by decide +kernel)
theorem dX12_arc_37 : decode cX12_arc 37 = .ok (.sipush 1000, 3) := dk_17 (by decide +kernel)
theorem dX12_arc_40 : decode cX12_arc 40 = .ok (.if_icmp .gt 7, 3) := dk_163 (by decide +kernel)
theorem dX12_arc_43 : decode cX12_arc 43 = .ok (.iconst 1, 1) := dk_4 (by decide +kernel)
theorem dX12_arc_44 : decode cX12_arc 44 = .ok (.goto 4, 3) := dk_167 (by decide +kernel)
theorem dX12_arc_47 : decode cX12_arc 47 = .ok (.iconst 0, 1) := dk_3 (by decide +kernel)
theorem dX12_arc_48 : decode cX12_arc 48 = .ok (.istore 5, 2) := dk_54 (by decide +kernel)
theorem dX12_arc_50 : decode cX12_arc 50 = .ok (.aload_n 0, 1) := dk_42 (by decide +kernel)
theorem dX12_arc_51 : decode cX12_arc 51 = .ok (.iload 5, 2) := dk_21 (by decide +kernel)
theorem dX12_arc_53 : decode cX12_arc 53 = .ok (.ifCond .ne 7, 3) := dk_154 (by decide +kernel)
theorem dX12_arc_56 : decode cX12_arc 56 = .ok (.iconst 1, 1) := dk_4 (by decide +kernel)
theorem dX12_arc_57 : decode cX12_arc 57 = .ok (.goto 17, 3) := dk_167 (by decide +kernel)
theorem dX12_arc_60 : decode cX12_arc 60 = .ok (.aload_n 0, 1) := dk_42 (by decide +kernel)
theorem dX12_arc_61 : decode cX12_arc 61 = .ok (.getfield 1069, 3) := dk_180 (by decide +kernel)
theorem dX12_arc_64 : decode cX12_arc 64 = .ok (.bipush 40, 2) := dk_16 (by decide +kernel)
theorem dX12_arc_66 : decode cX12_arc 66 = .ok (.if_icmp .ne 7, 3) := dk_160 (by decide +kernel)
theorem dX12_arc_69 : decode cX12_arc 69 = .ok (.iconst 2, 1) := dk_5 (by decide +kernel)
theorem dX12_arc_70 : decode cX12_arc 70 = .ok (.goto 4, 3) := dk_167 (by decide +kernel)
theorem dX12_arc_73 : decode cX12_arc 73 = .ok (.iconst 0, 1) := dk_3 (by decide +kernel)
theorem dX12_arc_74 : decode cX12_arc 74 = .ok (.putfield 348, 3) := dk_181 (by decide +kernel)
theorem dX12_arc_77 : decode cX12_arc 77 = .ok (.aload_n 0, 1) := dk_42 (by decide +kernel)
theorem dX12_arc_78 : decode cX12_arc 78 = .ok (.getfield 348, 3) := dk_180 (by decide +kernel)
theorem dX12_arc_81 : decode cX12_arc 81 = .ok (.ifCond .le 5, 3) := dk_158 (by decide +kernel)
theorem dX12_arc_84 : decode cX12_arc 84 = .ok (.iconst 0, 1) := dk_3 (by decide +kernel)
theorem dX12_arc_85 : decode cX12_arc 85 = .ok (.ireturn, 1) := dk_172 (by decide +kernel)
theorem dX12_arc_86 : decode cX12_arc 86 = .ok (.aload_n 0, 1) := dk_42 (by decide +kernel)
theorem dX12_arc_87 : decode cX12_arc 87 = .ok (.getfield 312, 3) := dk_180 (by decide +kernel)
theorem dX12_arc_90 : decode cX12_arc 90 = .ok (.aload_n 0, 1) := dk_42 (by decide +kernel)
theorem dX12_arc_91 : decode cX12_arc 91 = .ok (.getfield 1069, 3) := dk_180 (by decide +kernel)
theorem dX12_arc_94 : decode cX12_arc 94 = .ok (.iload_n 1, 1) := dk_27 (by decide +kernel)
theorem dX12_arc_95 : decode cX12_arc 95 = .ok (.iastore, 1) := dk_79 (by decide +kernel)
theorem dX12_arc_96 : decode cX12_arc 96 = .ok (.aload_n 0, 1) := dk_42 (by decide +kernel)
theorem dX12_arc_97 : decode cX12_arc 97 = .ok (.getfield 315, 3) := dk_180 (by decide +kernel)
theorem dX12_arc_100 : decode cX12_arc 100 = .ok (.aload_n 0, 1) := dk_42 (by decide +kernel)
theorem dX12_arc_101 : decode cX12_arc 101 = .ok (.getfield 1069, 3) := dk_180 (by decide +kernel)
theorem dX12_arc_104 : decode cX12_arc 104 = .ok (.iload_n 2, 1) := dk_28 (by decide +kernel)
theorem dX12_arc_105 : decode cX12_arc 105 = .ok (.iastore, 1) := dk_79 (by decide +kernel)
theorem dX12_arc_106 : decode cX12_arc 106 = .ok (.aload_n 0, 1) := dk_42 (by decide +kernel)
theorem dX12_arc_107 : decode cX12_arc 107 = .ok (.getfield 318, 3) := dk_180 (by decide +kernel)
theorem dX12_arc_110 : decode cX12_arc 110 = .ok (.aload_n 0, 1) := dk_42 (by decide +kernel)
theorem dX12_arc_111 : decode cX12_arc 111 = .ok (.getfield 1069, 3) := dk_180 (by decide +kernel)
theorem dX12_arc_114 : decode cX12_arc 114 = .ok (.iload_n 3, 1) := dk_29 (by decide +kernel)
theorem dX12_arc_115 : decode cX12_arc 115 = .ok (.iastore, 1) := dk_79 (by decide +kernel)
theorem dX12_arc_116 : decode cX12_arc 116 = .ok (.aload_n 0, 1) := dk_42 (by decide +kernel)
theorem dX12_arc_117 : decode cX12_arc 117 = .ok (.getfield 321, 3) := dk_180 (by decide +kernel)
theorem dX12_arc_120 : decode cX12_arc 120 = .ok (.aload_n 0, 1) := dk_42 (by decide +kernel)
theorem dX12_arc_121 : decode cX12_arc 121 = .ok (.getfield 1069, 3) := dk_180 (by decide +kernel)
theorem dX12_arc_124 : decode cX12_arc 124 = .ok (.iload 4, 2) := dk_21 (by decide +kernel)
theorem dX12_arc_126 : decode cX12_arc 126 = .ok (.iastore, 1) := dk_79 (by decide +kernel)
theorem dX12_arc_127 : decode cX12_arc 127 = .ok (.aload_n 0, 1) := dk_42 (by decide +kernel)
theorem dX12_arc_128 : decode cX12_arc 128 = .ok (.dup, 1) := dk_89 (by decide +kernel)
theorem dX12_arc_129 : decode cX12_arc 129 = .ok (.getfield 1069, 3) := dk_180 (by decide +kernel)
theorem dX12_arc_132 : decode cX12_arc 132 = .ok (.iconst 1, 1) := dk_4 (by decide +kernel)
theorem dX12_arc_133 : decode cX12_arc 133 = .ok (.iadd, 1) := dk_96 (by decide +kernel)
theorem dX12_arc_134 : decode cX12_arc 134 = .ok (.putfield 1069, 3) := dk_181 (by decide +kernel)
theorem dX12_arc_137 : decode cX12_arc 137 = .ok (.aload_n 0, 1) := dk_42 (by decide +kernel)
theorem dX12_arc_138 : decode cX12_arc 138 = .ok (.getfield 1069, 3) := dk_180 (by decide +kernel)
theorem dX12_arc_141 : decode cX12_arc 141 = .ok (.iconst 1, 1) := dk_4 (by decide +kernel)
theorem dX12_arc_142 : decode cX12_arc 142 = .ok (.isub, 1) := dk_100 (by decide +kernel)
theorem dX12_arc_143 : decode cX12_arc 143 = .ok (.ireturn, 1) := dk_172 (by decide +kernel)
def wsRX12_arc : List Cond := .code yX12_arc cX12_arc 6 (some .int) :: ([.fieldLink RX12 348 "OptimaWorksModel" "thrown" "I", .fieldLink RX12 1069 "OptimaWorksModel" "arcs" "I", .fieldLink RX12 312 "OptimaWorksModel" "arcFrom" "[I", .fieldLink RX12 315 "OptimaWorksModel" "arcTo" "[I", .fieldLink RX12 318 "OptimaWorksModel" "arcRoom" "[I", .fieldLink RX12 321 "OptimaWorksModel" "arcCost" "[I"] ++ wsX120 ++ (va_wsS RX12 1066 yX12_isPlace wsRX12_isPlace))
theorem iwsRX12_arc_in12 : ∀ w ∈ wsX120, w ∈ wsRX12_arc := fun _ h => List.mem_cons_of_mem _ (List.mem_append_left _ (List.mem_append_right _ h))
theorem gwsRX12_arc_0 : GoodIn wsRX12_arc (va_wsS RX12 1066 yX12_isPlace wsRX12_isPlace) := goodIn_sub (fun _ h => List.mem_cons_of_mem _ (List.mem_append_right _ h)) (gdS (by decide +kernel) gdwsRX12_isPlace)
theorem gdwsRX12_arc : wsRX12_arc.all goodWord = true := gdC rfl (gdA (gdA (by decide +kernel : ([.fieldLink RX12 348 "OptimaWorksModel" "thrown" "I", .fieldLink RX12 1069 "OptimaWorksModel" "arcs" "I", .fieldLink RX12 312 "OptimaWorksModel" "arcFrom" "[I", .fieldLink RX12 315 "OptimaWorksModel" "arcTo" "[I", .fieldLink RX12 318 "OptimaWorksModel" "arcRoom" "[I", .fieldLink RX12 321 "OptimaWorksModel" "arcCost" "[I"] : List Cond).all goodWord = true) gdwsX120) (gdS (by decide +kernel) gdwsRX12_isPlace))
set_option maxHeartbeats 4000000 in
set_option maxRecDepth 100000 in
/-- arc(a, b, room, price) -/
theorem r_X12_arc (l : Launch) (dC : Nat → ClassId) (dI : Nat → Nat → Nat) (a : Nat → Nat) (k : Nat → ClassId) (h0 : Nat) (vi : Nat → Int32) (vj : Nat → Int64) (vF : Nat → Nat → Int32) (vG : Nat → Nat → Int64) (aI : Int32) (bI : Int32) (rI : Int32) (pI : Int32) (ar : Nat) (har : vi 150 = nI ar) (har40 : ar ≤ 40) (hAr : ArO (vF 95) (vF 96) (vF 97) (vF 98) ar) (sz : Nat) : Met l yX12_arc wsRX12_arc ({ frames := 1, cells := 0, slots := 0, locals := 20 }) (va_Pc [.ref h0, .int aI, .int bI, .int rI, .int pI] (fun U => U.heap.size = sz ∧ va_P (dC, dI) vwCl (WR a k h0 vi vj vF vG) U.heap ∧ va_K (dC, dI) vwCl (tX12 k) U ∧ va_D (fun _ => True) (WR a k h0 vi vj vF vG))) (va_Qi (fun (r : Int32) (u : (Int32) × (Nat) × (Nat → Int32) × (Nat → Int32) × (Nat → Int32) × (Nat → Int32)) => (((u.2.1) ≤ 40) ∧ (ArO (u.2.2.1) (u.2.2.2.1) (u.2.2.2.2.1) (u.2.2.2.2.2) (u.2.1)) ∧ ((u.1) = 1) ∧ (¬ (0 ≤ (aI).toInt ∧ (aI).toInt ≤ 11 ∧ 0 ≤ (bI).toInt ∧ (bI).toInt ≤ 11 ∧ (aI).toInt ≠ (bI).toInt ∧ 0 ≤ (rI).toInt ∧ (rI).toInt ≤ 1000 ∧ 0 ≤ (pI).toInt ∧ (pI).toInt ≤ 1000)) ∧ (((((u.2.1) : Nat) : Int), (u.2.2.1), (u.2.2.2.1), (u.2.2.2.2.1), (u.2.2.2.2.2)) = (((ar : Nat) : Int), vF 95, vF 96, vF 97, vF 98))) ∨ (((u.2.1) ≤ 40) ∧ (ArO (u.2.2.1) (u.2.2.2.1) (u.2.2.2.2.1) (u.2.2.2.2.2) (u.2.1)) ∧ ((u.1) = 2) ∧ ((0 ≤ (aI).toInt ∧ (aI).toInt ≤ 11 ∧ 0 ≤ (bI).toInt ∧ (bI).toInt ≤ 11 ∧ (aI).toInt ≠ (bI).toInt ∧ 0 ≤ (rI).toInt ∧ (rI).toInt ≤ 1000 ∧ 0 ≤ (pI).toInt ∧ (pI).toInt ≤ 1000) ∧ ar = 40) ∧ (((((u.2.1) : Nat) : Int), (u.2.2.1), (u.2.2.2.1), (u.2.2.2.2.1), (u.2.2.2.2.2)) = (((ar : Nat) : Int), vF 95, vF 96, vF 97, vF 98))) ∨ (((u.2.1) ≤ 40) ∧ (ArO (u.2.2.1) (u.2.2.2.1) (u.2.2.2.2.1) (u.2.2.2.2.2) (u.2.1)) ∧ ((u.1) = 0) ∧ ((0 ≤ (aI).toInt ∧ (aI).toInt ≤ 11 ∧ 0 ≤ (bI).toInt ∧ (bI).toInt ≤ 11 ∧ (aI).toInt ≠ (bI).toInt ∧ 0 ≤ (rI).toInt ∧ (rI).toInt ≤ 1000 ∧ 0 ≤ (pI).toInt ∧ (pI).toInt ≤ 1000) ∧ ar < 40) ∧ (((((u.2.1) : Nat) : Int), (u.2.2.1), (u.2.2.2.1), (u.2.2.2.2.1), (u.2.2.2.2.2)) = ntAdd (((ar : Nat) : Int), vF 95, vF 96, vF 97, vF 98) aI bI rI pI) ∧ (r.toInt = ((ar : Nat) : Int)))) (fun (u : (Int32) × (Nat) × (Nat → Int32) × (Nat → Int32) × (Nat → Int32) × (Nat → Int32)) t => va_P (dC, dI) vwCl (WR a k h0 (fT (fT vi 0 (u.1)) 150 (nI (u.2.1))) vj (fT (fT (fT (fT vF 95 (u.2.2.1)) 96 (u.2.2.2.1)) 97 (u.2.2.2.2.1)) 98 (u.2.2.2.2.2)) vG) t.heap ∧ va_D (va_A (WR a k h0 vi vj vF vG) sz) (WR a k h0 (fT (fT vi 0 (u.1)) 150 (nI (u.2.1))) vj (fT (fT (fT (fT vF 95 (u.2.2.1)) 96 (u.2.2.2.1)) 97 (u.2.2.2.2.1)) 98 (u.2.2.2.2.2)) vG)) (va_A (WR a k h0 vi vj vF vG) sz)) 0 0 (va_A (WR a k h0 vi vj vF vG) sz) := by
  refine Met.ofW (cc := cX12_arc) (maxL := 6) (ret := (some .int)) (by decide) rfl ?_
  intro p e s m args below meth c s₁ B hml hv
  obtain ⟨rfl, hsz, hP, hK, hD0⟩ := hv
  have hx := B.exec
  have hb := B.bytes
  have hr := B.returns
  have hts := atoms_spec (ws := wsRX12_arc) B.pre
  have hown : s.vm.findClass RX12 = some m.cls := findClass_of_methodNamed B.named
  have hlocks := B.notSynchronized
  subst hsz
  have hD := hD0.self (sz := s.heap.size)
  generalize hAe : va_A (WR a k h0 vi vj vF vG) s.heap.size = A at hD ⊢
  have hA : ∀ q : Nat, s.heap.size ≤ q → A q := fun q h => by rw [← hAe]; exact Or.inr h
  have hS : va_S A s.heap s.heap [] := va_S.rf
  have hl := lv_entry ([.ref h0, .int aI, .int bI, .int rI, .int pI]) (n := 6) (Nat.le_of_ble_eq_true rfl)
  rw [lg_entry_eq]
  generalize (lg_sl ([.ref h0, .int aI, .int bI, .int rI, .int pI]) ++ List.replicate (6 - (lg_sl ([.ref h0, .int aI, .int bI, .int rI, .int pI])).length) Slot.unset).toArray = ls at hl ⊢
  have hl : lv_has ls 6 [(0, .ref h0), (1, .int aI), (2, .int bI), (3, .int rI), (4, .int pI)] := hl
  refine lv_iload_n hx hb dX12_arc_0 rfl (lv_at hl 1 rfl) ?_
  have hFc := noneFree hS hA
  refine va_calli (va_runS (As := [.int aI]) (rest := []) ⟨hx, hb, hml, hown, hts⟩ (r_X12_isPlace l dC dI aI s.heap.size) (va_cwS 1 hts gwsRX12_arc_0 rfl rfl rfl (by decide +kernel) ⟨by decide +kernel, by decide +kernel⟩) ⟨fun a U g mk q => by obtain ⟨q0, q1, qP, qK, qD⟩ := q; exact ⟨q0, q1, qP, va_K.moved (u := U) (U := U.calling g mk a) (Vm.Alike.refl U.vm) qK, qD⟩, fun U hU9 hW => ⟨rfl, by rw [hU9], by rw [hU9]; exact nilP, va_K.moved hW.alike (hK.sub (tys' := []) [] rfl), nilD⟩⟩ rfl rfl hl.1 rfl (lv_room (Nat.le_of_ble_eq_true rfl)) dX12_arc_1 (by decide +kernel)) hS (fun q _ h => hFc q h) hFc (fun r1 u t9_ H1 locs ht hvm hw9 hB9 hz1 hk1 hS => ?_)
  have hP := keepAll hP hk1
  clear hB9
  generalize H1 = H at hP hS ⊢
  have hP : va_P (dC, dI) vwCl (WR a k h0 vi vj vF vG) H := hP
  have hD : va_D A (WR a k h0 vi vj vF vG) := hD
  rcases hw9 with ⟨rfl, f1_0⟩ | ⟨rfl, f1_0⟩
  · refine lv_if_eq (tgt := 47) hx hb dX12_arc_4 (by decide) (fun c9 => absurd c9 (by decide)) (fun _ => ?_)
    refine lv_iload_n hx hb dX12_arc_7 rfl (lv_at hl 2 rfl) ?_
    have hFc := noneFree hS hA
    refine va_calli (va_runS (As := [.int bI]) (rest := []) ⟨hx, hb, hml, hown, hts⟩ (r_X12_isPlace l dC dI bI H.size) (va_cwS 1 hts gwsRX12_arc_0 rfl rfl rfl (by decide +kernel) ⟨by decide +kernel, by decide +kernel⟩) ⟨fun a U g mk q => by obtain ⟨q0, q1, qP, qK, qD⟩ := q; exact ⟨q0, q1, qP, va_K.moved (u := U) (U := U.calling g mk a) (Vm.Alike.refl U.vm) qK, qD⟩, fun U hU9 hW => ⟨rfl, by rw [hU9], by rw [hU9]; exact nilP, va_K.moved hW.alike (hK.sub (tys' := []) [] rfl), nilD⟩⟩ rfl rfl hl.1 rfl (lv_room (Nat.le_of_ble_eq_true rfl)) dX12_arc_8 (by decide +kernel)) hS (fun q _ h => hFc q h) hFc (fun r8 u t9_ H1 locs ht hvm hw9 hB9 hz1 hk1 hS => ?_)
    have hP := keepAll hP hk1
    clear hB9
    generalize H1 = H at hP hS ⊢
    have hP : va_P (dC, dI) vwCl (WR a k h0 vi vj vF vG) H := hP
    have hD : va_D A (WR a k h0 vi vj vF vG) := hD
    rcases hw9 with ⟨rfl, f8_0⟩ | ⟨rfl, f8_0⟩
    · refine lv_if_eq (tgt := 47) hx hb dX12_arc_11 (by decide) (fun c9 => absurd c9 (by decide)) (fun _ => ?_)
      refine lv_iload_n hx hb dX12_arc_14 rfl (lv_at hl 1 rfl) ?_
      refine lv_iload_n hx hb dX12_arc_15 rfl (lv_at hl 2 rfl) ?_
      refine lv_icmp_eq (tgt := 47) hx hb dX12_arc_16 (by decide) (fun c_16 => ?_) (fun c_16 => ?_)
      · have t_16 : (aI).toInt = (bI).toInt := toI_eq c_16 rfl rfl
        refine lv_iconst (v := 0) hx hb dX12_arc_47 (by decide) ?_
        refine lv_istore hx hb dX12_arc_48 hl (by decide) rfl (fun ls (hl : lv_has ls _ ([(5, .int 0), (0, .ref h0), (1, .int aI), (2, .int bI), (3, .int rI), (4, .int pI)])) => ?_)
        refine lv_aload_n hx hb dX12_arc_50 rfl (lv_at hl 1 rfl) ?_
        refine lv_iload hx hb dX12_arc_51 (lv_at hl 0 rfl) ?_
        refine lv_if_ne (tgt := 60) hx hb dX12_arc_53 (by decide) (fun c9 => absurd c9 (by decide)) (fun _ => ?_)
        refine lv_iconst (v := 1) hx hb dX12_arc_56 (by decide) ?_
        refine lv_goto (tgt := 74) hx hb dX12_arc_57 (by decide) ?_
        refine va_put (D := (dC, dI)) (ci := 12) (v := .int 1) (ty := .int) (C := RX12) (T := TX12) (N := 163) (fs := fM (vS a vi vj)) hx hb hts iwsRX12_arc_in12 tyX12 tyX12_ok nmX12 hown hK hP hD hS 0 rfl rfl 0 (by decide) (hts (.fieldLink RX12 348 "OptimaWorksModel" "thrown" "I") (by decide +kernel)) (fun _ h9 => h9) rfl (by decide +kernel) rfl rfl (Nat.le_of_ble_eq_true rfl) dX12_arc_74 (fun H locs hP hD hS => ?_)
        have hP : va_P (dC, dI) vwCl (WR a k h0 (fT vi 0 1) vj vF vG) H := by rw [← WR_i 0 _ rfl]; exact hP
        have hD : va_D A (WR a k h0 (fT vi 0 1) vj vF vG) := by rw [← WR_i 0 _ rfl]; exact hD
        refine lv_aload_n hx hb dX12_arc_77 rfl (lv_at hl 1 rfl) ?_
        refine va_get (D := (dC, dI)) (ci := 12) (v := .int 1) (C := RX12) (T := TX12) (N := 163) (fs := fM (vS a (fT vi 0 1) vj)) hx hb hts iwsRX12_arc_in12 hown hK hP 0 rfl rfl 0 (by decide) (hts (.fieldLink RX12 348 "OptimaWorksModel" "thrown" "I") (by decide +kernel)) (fun _ h9 => h9) rfl dX12_arc_78 ?_
        refine lv_if_le (tgt := 86) hx hb dX12_arc_81 (by decide) (fun c9 => absurd c9 (by decide)) (fun _ => ?_)
        refine lv_iconst (v := 0) hx hb dX12_arc_84 (by decide) ?_
        refine W.widen (k := 0) (n := 0) (by decide +kernel) (by decide +kernel) ?_
        have e9 : fT (fT vi 0 1) 150 (nI ar) = fT vi 0 1 := by funext q9; by_cases h9_0 : q9 = 0; (subst h9_0; exact ((fT_ne _ _ (Nat.ne_of_beq_eq_false rfl)).trans (fT_eq _ _ _)).trans (Eq.trans (by first | rfl | assumption | (symm; assumption) | (subst_vars; rfl)) (fT_eq _ _ _).symm)); by_cases h9_150 : q9 = 150; (subst h9_150; exact (fT_eq _ _ _).trans (Eq.trans (by first | rfl | assumption | (symm; assumption) | (subst_vars; rfl)) (fT_ne _ _ (Nat.ne_of_beq_eq_false rfl)).symm)); exact ((fT_ne _ _ h9_150).trans (fT_ne _ _ h9_0)).trans (fT_ne _ _ h9_0).symm
        have hP : va_P (dC, dI) vwCl (WR a k h0 (fT (fT vi 0 1) 150 (nI ar)) vj vF vG) H := by rw [e9]; exact hP
        have hD : va_D A (WR a k h0 (fT (fT vi 0 1) 150 (nI ar)) vj vF vG) := by rw [e9]; exact hD
        clear e9
        have e9 : fT (fT (fT (fT vF 95 (vF 95)) 96 (vF 96)) 97 (vF 97)) 98 (vF 98) = vF := (fT_id _ _ ((fT_ne _ _ (Nat.ne_of_beq_eq_false rfl)).trans ((fT_ne _ _ (Nat.ne_of_beq_eq_false rfl)).trans (fT_ne _ _ (Nat.ne_of_beq_eq_false rfl))))).trans ((fT_id _ _ ((fT_ne _ _ (Nat.ne_of_beq_eq_false rfl)).trans (fT_ne _ _ (Nat.ne_of_beq_eq_false rfl)))).trans ((fT_id _ _ (fT_ne _ _ (Nat.ne_of_beq_eq_false rfl))).trans (fT_id _ _ (rfl))))
        have hP : va_P (dC, dI) vwCl (WR a k h0 (fT (fT vi 0 1) 150 (nI ar)) vj (fT (fT (fT (fT vF 95 (vF 95)) 96 (vF 96)) 97 (vF 97)) 98 (vF 98)) vG) H := by rw [e9]; exact hP
        have hD : va_D A (WR a k h0 (fT (fT vi 0 1) 150 (nI ar)) vj (fT (fT (fT (fT vF 95 (vF 95)) 96 (vF 96)) 97 (vF 97)) 98 (vF 98)) vG) := by rw [e9]; exact hD
        clear e9
        exact W.iret (v := 0) hx hb hr (fun t9_ ht hW => ⟨⟨0, (1, ar, (vF 95), (vF 96), (vF 97), (vF 98)), rfl, by (try dsimp only); exact Or.inl (⟨by omega, hAr, rfl, by omega, rfl⟩), by rw [ht]; exact hP, hD⟩, hS.F ht⟩) hS.2.2 dX12_arc_85
      · have t_16 : ¬ (aI).toInt = (bI).toInt := toI_neq c_16 rfl rfl
        refine lv_iload_n hx hb dX12_arc_19 rfl (lv_at hl 3 rfl) ?_
        refine lv_if_lt (tgt := 47) hx hb dX12_arc_20 (by decide) (fun c_20 => ?_) (fun c_20 => ?_)
        · have t_20 : (rI).toInt < 0 := toI_lt c_20 rfl (by decide)
          refine lv_iconst (v := 0) hx hb dX12_arc_47 (by decide) ?_
          refine lv_istore hx hb dX12_arc_48 hl (by decide) rfl (fun ls (hl : lv_has ls _ ([(5, .int 0), (0, .ref h0), (1, .int aI), (2, .int bI), (3, .int rI), (4, .int pI)])) => ?_)
          refine lv_aload_n hx hb dX12_arc_50 rfl (lv_at hl 1 rfl) ?_
          refine lv_iload hx hb dX12_arc_51 (lv_at hl 0 rfl) ?_
          refine lv_if_ne (tgt := 60) hx hb dX12_arc_53 (by decide) (fun c9 => absurd c9 (by decide)) (fun _ => ?_)
          refine lv_iconst (v := 1) hx hb dX12_arc_56 (by decide) ?_
          refine lv_goto (tgt := 74) hx hb dX12_arc_57 (by decide) ?_
          refine va_put (D := (dC, dI)) (ci := 12) (v := .int 1) (ty := .int) (C := RX12) (T := TX12) (N := 163) (fs := fM (vS a vi vj)) hx hb hts iwsRX12_arc_in12 tyX12 tyX12_ok nmX12 hown hK hP hD hS 0 rfl rfl 0 (by decide) (hts (.fieldLink RX12 348 "OptimaWorksModel" "thrown" "I") (by decide +kernel)) (fun _ h9 => h9) rfl (by decide +kernel) rfl rfl (Nat.le_of_ble_eq_true rfl) dX12_arc_74 (fun H locs hP hD hS => ?_)
          have hP : va_P (dC, dI) vwCl (WR a k h0 (fT vi 0 1) vj vF vG) H := by rw [← WR_i 0 _ rfl]; exact hP
          have hD : va_D A (WR a k h0 (fT vi 0 1) vj vF vG) := by rw [← WR_i 0 _ rfl]; exact hD
          refine lv_aload_n hx hb dX12_arc_77 rfl (lv_at hl 1 rfl) ?_
          refine va_get (D := (dC, dI)) (ci := 12) (v := .int 1) (C := RX12) (T := TX12) (N := 163) (fs := fM (vS a (fT vi 0 1) vj)) hx hb hts iwsRX12_arc_in12 hown hK hP 0 rfl rfl 0 (by decide) (hts (.fieldLink RX12 348 "OptimaWorksModel" "thrown" "I") (by decide +kernel)) (fun _ h9 => h9) rfl dX12_arc_78 ?_
          refine lv_if_le (tgt := 86) hx hb dX12_arc_81 (by decide) (fun c9 => absurd c9 (by decide)) (fun _ => ?_)
          refine lv_iconst (v := 0) hx hb dX12_arc_84 (by decide) ?_
          refine W.widen (k := 0) (n := 0) (by decide +kernel) (by decide +kernel) ?_
          have e9 : fT (fT vi 0 1) 150 (nI ar) = fT vi 0 1 := by funext q9; by_cases h9_0 : q9 = 0; (subst h9_0; exact ((fT_ne _ _ (Nat.ne_of_beq_eq_false rfl)).trans (fT_eq _ _ _)).trans (Eq.trans (by first | rfl | assumption | (symm; assumption) | (subst_vars; rfl)) (fT_eq _ _ _).symm)); by_cases h9_150 : q9 = 150; (subst h9_150; exact (fT_eq _ _ _).trans (Eq.trans (by first | rfl | assumption | (symm; assumption) | (subst_vars; rfl)) (fT_ne _ _ (Nat.ne_of_beq_eq_false rfl)).symm)); exact ((fT_ne _ _ h9_150).trans (fT_ne _ _ h9_0)).trans (fT_ne _ _ h9_0).symm
          have hP : va_P (dC, dI) vwCl (WR a k h0 (fT (fT vi 0 1) 150 (nI ar)) vj vF vG) H := by rw [e9]; exact hP
          have hD : va_D A (WR a k h0 (fT (fT vi 0 1) 150 (nI ar)) vj vF vG) := by rw [e9]; exact hD
          clear e9
          have e9 : fT (fT (fT (fT vF 95 (vF 95)) 96 (vF 96)) 97 (vF 97)) 98 (vF 98) = vF := (fT_id _ _ ((fT_ne _ _ (Nat.ne_of_beq_eq_false rfl)).trans ((fT_ne _ _ (Nat.ne_of_beq_eq_false rfl)).trans (fT_ne _ _ (Nat.ne_of_beq_eq_false rfl))))).trans ((fT_id _ _ ((fT_ne _ _ (Nat.ne_of_beq_eq_false rfl)).trans (fT_ne _ _ (Nat.ne_of_beq_eq_false rfl)))).trans ((fT_id _ _ (fT_ne _ _ (Nat.ne_of_beq_eq_false rfl))).trans (fT_id _ _ (rfl))))
          have hP : va_P (dC, dI) vwCl (WR a k h0 (fT (fT vi 0 1) 150 (nI ar)) vj (fT (fT (fT (fT vF 95 (vF 95)) 96 (vF 96)) 97 (vF 97)) 98 (vF 98)) vG) H := by rw [e9]; exact hP
          have hD : va_D A (WR a k h0 (fT (fT vi 0 1) 150 (nI ar)) vj (fT (fT (fT (fT vF 95 (vF 95)) 96 (vF 96)) 97 (vF 97)) 98 (vF 98)) vG) := by rw [e9]; exact hD
          clear e9
          exact W.iret (v := 0) hx hb hr (fun t9_ ht hW => ⟨⟨0, (1, ar, (vF 95), (vF 96), (vF 97), (vF 98)), rfl, by (try dsimp only); exact Or.inl (⟨by omega, hAr, rfl, by omega, rfl⟩), by rw [ht]; exact hP, hD⟩, hS.F ht⟩) hS.2.2 dX12_arc_85
        · have t_20 : ¬ (rI).toInt < 0 := toI_nlt c_20 rfl (by decide)
          refine lv_iload_n hx hb dX12_arc_23 rfl (lv_at hl 3 rfl) ?_
          refine lv_sipush (v := 1000) hx hb dX12_arc_24 (by decide) ?_
          refine lv_icmp_gt (tgt := 47) hx hb dX12_arc_27 (by decide) (fun c_27 => ?_) (fun c_27 => ?_)
          · have t_27 : (rI).toInt > 1000 := toI_gt c_27 rfl (by decide)
            refine lv_iconst (v := 0) hx hb dX12_arc_47 (by decide) ?_
            refine lv_istore hx hb dX12_arc_48 hl (by decide) rfl (fun ls (hl : lv_has ls _ ([(5, .int 0), (0, .ref h0), (1, .int aI), (2, .int bI), (3, .int rI), (4, .int pI)])) => ?_)
            refine lv_aload_n hx hb dX12_arc_50 rfl (lv_at hl 1 rfl) ?_
            refine lv_iload hx hb dX12_arc_51 (lv_at hl 0 rfl) ?_
            refine lv_if_ne (tgt := 60) hx hb dX12_arc_53 (by decide) (fun c9 => absurd c9 (by decide)) (fun _ => ?_)
            refine lv_iconst (v := 1) hx hb dX12_arc_56 (by decide) ?_
            refine lv_goto (tgt := 74) hx hb dX12_arc_57 (by decide) ?_
            refine va_put (D := (dC, dI)) (ci := 12) (v := .int 1) (ty := .int) (C := RX12) (T := TX12) (N := 163) (fs := fM (vS a vi vj)) hx hb hts iwsRX12_arc_in12 tyX12 tyX12_ok nmX12 hown hK hP hD hS 0 rfl rfl 0 (by decide) (hts (.fieldLink RX12 348 "OptimaWorksModel" "thrown" "I") (by decide +kernel)) (fun _ h9 => h9) rfl (by decide +kernel) rfl rfl (Nat.le_of_ble_eq_true rfl) dX12_arc_74 (fun H locs hP hD hS => ?_)
            have hP : va_P (dC, dI) vwCl (WR a k h0 (fT vi 0 1) vj vF vG) H := by rw [← WR_i 0 _ rfl]; exact hP
            have hD : va_D A (WR a k h0 (fT vi 0 1) vj vF vG) := by rw [← WR_i 0 _ rfl]; exact hD
            refine lv_aload_n hx hb dX12_arc_77 rfl (lv_at hl 1 rfl) ?_
            refine va_get (D := (dC, dI)) (ci := 12) (v := .int 1) (C := RX12) (T := TX12) (N := 163) (fs := fM (vS a (fT vi 0 1) vj)) hx hb hts iwsRX12_arc_in12 hown hK hP 0 rfl rfl 0 (by decide) (hts (.fieldLink RX12 348 "OptimaWorksModel" "thrown" "I") (by decide +kernel)) (fun _ h9 => h9) rfl dX12_arc_78 ?_
            refine lv_if_le (tgt := 86) hx hb dX12_arc_81 (by decide) (fun c9 => absurd c9 (by decide)) (fun _ => ?_)
            refine lv_iconst (v := 0) hx hb dX12_arc_84 (by decide) ?_
            refine W.widen (k := 0) (n := 0) (by decide +kernel) (by decide +kernel) ?_
            have e9 : fT (fT vi 0 1) 150 (nI ar) = fT vi 0 1 := by funext q9; by_cases h9_0 : q9 = 0; (subst h9_0; exact ((fT_ne _ _ (Nat.ne_of_beq_eq_false rfl)).trans (fT_eq _ _ _)).trans (Eq.trans (by first | rfl | assumption | (symm; assumption) | (subst_vars; rfl)) (fT_eq _ _ _).symm)); by_cases h9_150 : q9 = 150; (subst h9_150; exact (fT_eq _ _ _).trans (Eq.trans (by first | rfl | assumption | (symm; assumption) | (subst_vars; rfl)) (fT_ne _ _ (Nat.ne_of_beq_eq_false rfl)).symm)); exact ((fT_ne _ _ h9_150).trans (fT_ne _ _ h9_0)).trans (fT_ne _ _ h9_0).symm
            have hP : va_P (dC, dI) vwCl (WR a k h0 (fT (fT vi 0 1) 150 (nI ar)) vj vF vG) H := by rw [e9]; exact hP
            have hD : va_D A (WR a k h0 (fT (fT vi 0 1) 150 (nI ar)) vj vF vG) := by rw [e9]; exact hD
            clear e9
            have e9 : fT (fT (fT (fT vF 95 (vF 95)) 96 (vF 96)) 97 (vF 97)) 98 (vF 98) = vF := (fT_id _ _ ((fT_ne _ _ (Nat.ne_of_beq_eq_false rfl)).trans ((fT_ne _ _ (Nat.ne_of_beq_eq_false rfl)).trans (fT_ne _ _ (Nat.ne_of_beq_eq_false rfl))))).trans ((fT_id _ _ ((fT_ne _ _ (Nat.ne_of_beq_eq_false rfl)).trans (fT_ne _ _ (Nat.ne_of_beq_eq_false rfl)))).trans ((fT_id _ _ (fT_ne _ _ (Nat.ne_of_beq_eq_false rfl))).trans (fT_id _ _ (rfl))))
            have hP : va_P (dC, dI) vwCl (WR a k h0 (fT (fT vi 0 1) 150 (nI ar)) vj (fT (fT (fT (fT vF 95 (vF 95)) 96 (vF 96)) 97 (vF 97)) 98 (vF 98)) vG) H := by rw [e9]; exact hP
            have hD : va_D A (WR a k h0 (fT (fT vi 0 1) 150 (nI ar)) vj (fT (fT (fT (fT vF 95 (vF 95)) 96 (vF 96)) 97 (vF 97)) 98 (vF 98)) vG) := by rw [e9]; exact hD
            clear e9
            exact W.iret (v := 0) hx hb hr (fun t9_ ht hW => ⟨⟨0, (1, ar, (vF 95), (vF 96), (vF 97), (vF 98)), rfl, by (try dsimp only); exact Or.inl (⟨by omega, hAr, rfl, by omega, rfl⟩), by rw [ht]; exact hP, hD⟩, hS.F ht⟩) hS.2.2 dX12_arc_85
          · have t_27 : ¬ (rI).toInt > 1000 := toI_ngt c_27 rfl (by decide)
            refine lv_iload hx hb dX12_arc_30 (lv_at hl 4 rfl) ?_
            refine lv_if_lt (tgt := 47) hx hb dX12_arc_32 (by decide) (fun c_32 => ?_) (fun c_32 => ?_)
            · have t_32 : (pI).toInt < 0 := toI_lt c_32 rfl (by decide)
              refine lv_iconst (v := 0) hx hb dX12_arc_47 (by decide) ?_
              refine lv_istore hx hb dX12_arc_48 hl (by decide) rfl (fun ls (hl : lv_has ls _ ([(5, .int 0), (0, .ref h0), (1, .int aI), (2, .int bI), (3, .int rI), (4, .int pI)])) => ?_)
              refine lv_aload_n hx hb dX12_arc_50 rfl (lv_at hl 1 rfl) ?_
              refine lv_iload hx hb dX12_arc_51 (lv_at hl 0 rfl) ?_
              refine lv_if_ne (tgt := 60) hx hb dX12_arc_53 (by decide) (fun c9 => absurd c9 (by decide)) (fun _ => ?_)
              refine lv_iconst (v := 1) hx hb dX12_arc_56 (by decide) ?_
              refine lv_goto (tgt := 74) hx hb dX12_arc_57 (by decide) ?_
              refine va_put (D := (dC, dI)) (ci := 12) (v := .int 1) (ty := .int) (C := RX12) (T := TX12) (N := 163) (fs := fM (vS a vi vj)) hx hb hts iwsRX12_arc_in12 tyX12 tyX12_ok nmX12 hown hK hP hD hS 0 rfl rfl 0 (by decide) (hts (.fieldLink RX12 348 "OptimaWorksModel" "thrown" "I") (by decide +kernel)) (fun _ h9 => h9) rfl (by decide +kernel) rfl rfl (Nat.le_of_ble_eq_true rfl) dX12_arc_74 (fun H locs hP hD hS => ?_)
              have hP : va_P (dC, dI) vwCl (WR a k h0 (fT vi 0 1) vj vF vG) H := by rw [← WR_i 0 _ rfl]; exact hP
              have hD : va_D A (WR a k h0 (fT vi 0 1) vj vF vG) := by rw [← WR_i 0 _ rfl]; exact hD
              refine lv_aload_n hx hb dX12_arc_77 rfl (lv_at hl 1 rfl) ?_
              refine va_get (D := (dC, dI)) (ci := 12) (v := .int 1) (C := RX12) (T := TX12) (N := 163) (fs := fM (vS a (fT vi 0 1) vj)) hx hb hts iwsRX12_arc_in12 hown hK hP 0 rfl rfl 0 (by decide) (hts (.fieldLink RX12 348 "OptimaWorksModel" "thrown" "I") (by decide +kernel)) (fun _ h9 => h9) rfl dX12_arc_78 ?_
              refine lv_if_le (tgt := 86) hx hb dX12_arc_81 (by decide) (fun c9 => absurd c9 (by decide)) (fun _ => ?_)
              refine lv_iconst (v := 0) hx hb dX12_arc_84 (by decide) ?_
              refine W.widen (k := 0) (n := 0) (by decide +kernel) (by decide +kernel) ?_
              have e9 : fT (fT vi 0 1) 150 (nI ar) = fT vi 0 1 := by funext q9; by_cases h9_0 : q9 = 0; (subst h9_0; exact ((fT_ne _ _ (Nat.ne_of_beq_eq_false rfl)).trans (fT_eq _ _ _)).trans (Eq.trans (by first | rfl | assumption | (symm; assumption) | (subst_vars; rfl)) (fT_eq _ _ _).symm)); by_cases h9_150 : q9 = 150; (subst h9_150; exact (fT_eq _ _ _).trans (Eq.trans (by first | rfl | assumption | (symm; assumption) | (subst_vars; rfl)) (fT_ne _ _ (Nat.ne_of_beq_eq_false rfl)).symm)); exact ((fT_ne _ _ h9_150).trans (fT_ne _ _ h9_0)).trans (fT_ne _ _ h9_0).symm
              have hP : va_P (dC, dI) vwCl (WR a k h0 (fT (fT vi 0 1) 150 (nI ar)) vj vF vG) H := by rw [e9]; exact hP
              have hD : va_D A (WR a k h0 (fT (fT vi 0 1) 150 (nI ar)) vj vF vG) := by rw [e9]; exact hD
              clear e9
              have e9 : fT (fT (fT (fT vF 95 (vF 95)) 96 (vF 96)) 97 (vF 97)) 98 (vF 98) = vF := (fT_id _ _ ((fT_ne _ _ (Nat.ne_of_beq_eq_false rfl)).trans ((fT_ne _ _ (Nat.ne_of_beq_eq_false rfl)).trans (fT_ne _ _ (Nat.ne_of_beq_eq_false rfl))))).trans ((fT_id _ _ ((fT_ne _ _ (Nat.ne_of_beq_eq_false rfl)).trans (fT_ne _ _ (Nat.ne_of_beq_eq_false rfl)))).trans ((fT_id _ _ (fT_ne _ _ (Nat.ne_of_beq_eq_false rfl))).trans (fT_id _ _ (rfl))))
              have hP : va_P (dC, dI) vwCl (WR a k h0 (fT (fT vi 0 1) 150 (nI ar)) vj (fT (fT (fT (fT vF 95 (vF 95)) 96 (vF 96)) 97 (vF 97)) 98 (vF 98)) vG) H := by rw [e9]; exact hP
              have hD : va_D A (WR a k h0 (fT (fT vi 0 1) 150 (nI ar)) vj (fT (fT (fT (fT vF 95 (vF 95)) 96 (vF 96)) 97 (vF 97)) 98 (vF 98)) vG) := by rw [e9]; exact hD
              clear e9
              exact W.iret (v := 0) hx hb hr (fun t9_ ht hW => ⟨⟨0, (1, ar, (vF 95), (vF 96), (vF 97), (vF 98)), rfl, by (try dsimp only); exact Or.inl (⟨by omega, hAr, rfl, by omega, rfl⟩), by rw [ht]; exact hP, hD⟩, hS.F ht⟩) hS.2.2 dX12_arc_85
            · have t_32 : ¬ (pI).toInt < 0 := toI_nlt c_32 rfl (by decide)
              refine lv_iload hx hb dX12_arc_35 (lv_at hl 4 rfl) ?_
              refine lv_sipush (v := 1000) hx hb dX12_arc_37 (by decide) ?_
              refine lv_icmp_gt (tgt := 47) hx hb dX12_arc_40 (by decide) (fun c_40 => ?_) (fun c_40 => ?_)
              · have t_40 : (pI).toInt > 1000 := toI_gt c_40 rfl (by decide)
                refine lv_iconst (v := 0) hx hb dX12_arc_47 (by decide) ?_
                refine lv_istore hx hb dX12_arc_48 hl (by decide) rfl (fun ls (hl : lv_has ls _ ([(5, .int 0), (0, .ref h0), (1, .int aI), (2, .int bI), (3, .int rI), (4, .int pI)])) => ?_)
                refine lv_aload_n hx hb dX12_arc_50 rfl (lv_at hl 1 rfl) ?_
                refine lv_iload hx hb dX12_arc_51 (lv_at hl 0 rfl) ?_
                refine lv_if_ne (tgt := 60) hx hb dX12_arc_53 (by decide) (fun c9 => absurd c9 (by decide)) (fun _ => ?_)
                refine lv_iconst (v := 1) hx hb dX12_arc_56 (by decide) ?_
                refine lv_goto (tgt := 74) hx hb dX12_arc_57 (by decide) ?_
                refine va_put (D := (dC, dI)) (ci := 12) (v := .int 1) (ty := .int) (C := RX12) (T := TX12) (N := 163) (fs := fM (vS a vi vj)) hx hb hts iwsRX12_arc_in12 tyX12 tyX12_ok nmX12 hown hK hP hD hS 0 rfl rfl 0 (by decide) (hts (.fieldLink RX12 348 "OptimaWorksModel" "thrown" "I") (by decide +kernel)) (fun _ h9 => h9) rfl (by decide +kernel) rfl rfl (Nat.le_of_ble_eq_true rfl) dX12_arc_74 (fun H locs hP hD hS => ?_)
                have hP : va_P (dC, dI) vwCl (WR a k h0 (fT vi 0 1) vj vF vG) H := by rw [← WR_i 0 _ rfl]; exact hP
                have hD : va_D A (WR a k h0 (fT vi 0 1) vj vF vG) := by rw [← WR_i 0 _ rfl]; exact hD
                refine lv_aload_n hx hb dX12_arc_77 rfl (lv_at hl 1 rfl) ?_
                refine va_get (D := (dC, dI)) (ci := 12) (v := .int 1) (C := RX12) (T := TX12) (N := 163) (fs := fM (vS a (fT vi 0 1) vj)) hx hb hts iwsRX12_arc_in12 hown hK hP 0 rfl rfl 0 (by decide) (hts (.fieldLink RX12 348 "OptimaWorksModel" "thrown" "I") (by decide +kernel)) (fun _ h9 => h9) rfl dX12_arc_78 ?_
                refine lv_if_le (tgt := 86) hx hb dX12_arc_81 (by decide) (fun c9 => absurd c9 (by decide)) (fun _ => ?_)
                refine lv_iconst (v := 0) hx hb dX12_arc_84 (by decide) ?_
                refine W.widen (k := 0) (n := 0) (by decide +kernel) (by decide +kernel) ?_
                have e9 : fT (fT vi 0 1) 150 (nI ar) = fT vi 0 1 := by funext q9; by_cases h9_0 : q9 = 0; (subst h9_0; exact ((fT_ne _ _ (Nat.ne_of_beq_eq_false rfl)).trans (fT_eq _ _ _)).trans (Eq.trans (by first | rfl | assumption | (symm; assumption) | (subst_vars; rfl)) (fT_eq _ _ _).symm)); by_cases h9_150 : q9 = 150; (subst h9_150; exact (fT_eq _ _ _).trans (Eq.trans (by first | rfl | assumption | (symm; assumption) | (subst_vars; rfl)) (fT_ne _ _ (Nat.ne_of_beq_eq_false rfl)).symm)); exact ((fT_ne _ _ h9_150).trans (fT_ne _ _ h9_0)).trans (fT_ne _ _ h9_0).symm
                have hP : va_P (dC, dI) vwCl (WR a k h0 (fT (fT vi 0 1) 150 (nI ar)) vj vF vG) H := by rw [e9]; exact hP
                have hD : va_D A (WR a k h0 (fT (fT vi 0 1) 150 (nI ar)) vj vF vG) := by rw [e9]; exact hD
                clear e9
                have e9 : fT (fT (fT (fT vF 95 (vF 95)) 96 (vF 96)) 97 (vF 97)) 98 (vF 98) = vF := (fT_id _ _ ((fT_ne _ _ (Nat.ne_of_beq_eq_false rfl)).trans ((fT_ne _ _ (Nat.ne_of_beq_eq_false rfl)).trans (fT_ne _ _ (Nat.ne_of_beq_eq_false rfl))))).trans ((fT_id _ _ ((fT_ne _ _ (Nat.ne_of_beq_eq_false rfl)).trans (fT_ne _ _ (Nat.ne_of_beq_eq_false rfl)))).trans ((fT_id _ _ (fT_ne _ _ (Nat.ne_of_beq_eq_false rfl))).trans (fT_id _ _ (rfl))))
                have hP : va_P (dC, dI) vwCl (WR a k h0 (fT (fT vi 0 1) 150 (nI ar)) vj (fT (fT (fT (fT vF 95 (vF 95)) 96 (vF 96)) 97 (vF 97)) 98 (vF 98)) vG) H := by rw [e9]; exact hP
                have hD : va_D A (WR a k h0 (fT (fT vi 0 1) 150 (nI ar)) vj (fT (fT (fT (fT vF 95 (vF 95)) 96 (vF 96)) 97 (vF 97)) 98 (vF 98)) vG) := by rw [e9]; exact hD
                clear e9
                exact W.iret (v := 0) hx hb hr (fun t9_ ht hW => ⟨⟨0, (1, ar, (vF 95), (vF 96), (vF 97), (vF 98)), rfl, by (try dsimp only); exact Or.inl (⟨by omega, hAr, rfl, by omega, rfl⟩), by rw [ht]; exact hP, hD⟩, hS.F ht⟩) hS.2.2 dX12_arc_85
              · have t_40 : ¬ (pI).toInt > 1000 := toI_ngt c_40 rfl (by decide)
                refine lv_iconst (v := 1) hx hb dX12_arc_43 (by decide) ?_
                refine lv_goto (tgt := 48) hx hb dX12_arc_44 (by decide) ?_
                refine lv_istore hx hb dX12_arc_48 hl (by decide) rfl (fun ls (hl : lv_has ls _ ([(5, .int 1), (0, .ref h0), (1, .int aI), (2, .int bI), (3, .int rI), (4, .int pI)])) => ?_)
                refine lv_aload_n hx hb dX12_arc_50 rfl (lv_at hl 1 rfl) ?_
                refine lv_iload hx hb dX12_arc_51 (lv_at hl 0 rfl) ?_
                refine lv_if_ne (tgt := 60) hx hb dX12_arc_53 (by decide) (fun _ => ?_) (fun c9 => absurd c9 (by decide))
                refine lv_aload_n hx hb dX12_arc_60 rfl (lv_at hl 1 rfl) ?_
                refine va_get (D := (dC, dI)) (ci := 12) (v := .int (vi 150)) (C := RX12) (T := TX12) (N := 163) (fs := fM (vS a vi vj)) hx hb hts iwsRX12_arc_in12 hown hK hP 0 rfl rfl 150 (by decide) (hts (.fieldLink RX12 1069 "OptimaWorksModel" "arcs" "I") (by decide +kernel)) (fun _ h9 => h9) rfl dX12_arc_61 ?_
                refine lv_topi (fun y1 hy1 => ?_)
                obtain rfl : (nI ar) = y1 := (hy1.trans (har)).symm
                refine lv_bipush (v := 40) hx hb dX12_arc_64 (by decide) ?_
                refine lv_icmp_ne (tgt := 73) hx hb dX12_arc_66 (by decide) (fun c_66 => ?_) (fun c_66 => ?_)
                · have t_66 : ((ar : Nat) : Int) ≠ 40 := toI_ne c_66 (nI_toInt (by omega)) (by decide)
                  refine lv_iconst (v := 0) hx hb dX12_arc_73 (by decide) ?_
                  refine va_put (D := (dC, dI)) (ci := 12) (v := .int 0) (ty := .int) (C := RX12) (T := TX12) (N := 163) (fs := fM (vS a vi vj)) hx hb hts iwsRX12_arc_in12 tyX12 tyX12_ok nmX12 hown hK hP hD hS 0 rfl rfl 0 (by decide) (hts (.fieldLink RX12 348 "OptimaWorksModel" "thrown" "I") (by decide +kernel)) (fun _ h9 => h9) rfl (by decide +kernel) rfl rfl (Nat.le_of_ble_eq_true rfl) dX12_arc_74 (fun H locs hP hD hS => ?_)
                  have hP : va_P (dC, dI) vwCl (WR a k h0 (fT vi 0 0) vj vF vG) H := by rw [← WR_i 0 _ rfl]; exact hP
                  have hD : va_D A (WR a k h0 (fT vi 0 0) vj vF vG) := by rw [← WR_i 0 _ rfl]; exact hD
                  refine lv_aload_n hx hb dX12_arc_77 rfl (lv_at hl 1 rfl) ?_
                  refine va_get (D := (dC, dI)) (ci := 12) (v := .int 0) (C := RX12) (T := TX12) (N := 163) (fs := fM (vS a (fT vi 0 0) vj)) hx hb hts iwsRX12_arc_in12 hown hK hP 0 rfl rfl 0 (by decide) (hts (.fieldLink RX12 348 "OptimaWorksModel" "thrown" "I") (by decide +kernel)) (fun _ h9 => h9) rfl dX12_arc_78 ?_
                  refine lv_if_le (tgt := 86) hx hb dX12_arc_81 (by decide) (fun _ => ?_) (fun c9 => absurd (by decide) c9)
                  obtain ⟨x5, hx5, ex5⟩ := of_toInt (x := aI) (k := 12) (by omega) (by omega)
                  obtain ⟨y5, hy5, ey5⟩ := of_toInt (x := bI) (k := 12) (by omega) (by omega)
                  refine lv_aload_n hx hb dX12_arc_86 rfl (lv_at hl 1 rfl) ?_
                  refine va_get (D := (dC, dI)) (ci := 12) (v := .ref (a 95)) (C := RX12) (T := TX12) (N := 163) (fs := fM (vS a (fT vi 0 0) vj)) hx hb hts iwsRX12_arc_in12 hown hK hP 0 rfl rfl 151 (by decide) (hts (.fieldLink RX12 312 "OptimaWorksModel" "arcFrom" "[I") (by decide +kernel)) (fun _ h9 => h9) rfl dX12_arc_87 ?_
                  refine lv_aload_n hx hb dX12_arc_90 rfl (lv_at hl 1 rfl) ?_
                  refine va_get (D := (dC, dI)) (ci := 12) (v := .int (vi 150)) (C := RX12) (T := TX12) (N := 163) (fs := fM (vS a (fT vi 0 0) vj)) hx hb hts iwsRX12_arc_in12 hown hK hP 0 rfl rfl 150 (by decide) (hts (.fieldLink RX12 1069 "OptimaWorksModel" "arcs" "I") (by decide +kernel)) (fun _ h9 => h9) rfl dX12_arc_91 ?_
                  refine lv_topi (fun y2 hy2 => ?_)
                  obtain rfl : (nI ar) = y2 := (hy2.trans (har)).symm
                  refine lv_iload_n hx hb dX12_arc_94 rfl (lv_at hl 2 rfl) ?_
                  refine va_iast (cA := k 95) (n := 40) (f := (vF 95)) hx hb hK hP hD hS 96 95 (WR_get 95 (by decide)) (TR_get 95 (by decide)) (vp_in_nI (show ar < 40 by omega) (by omega)) dX12_arc_95 (fun H locs hP hD hS => ?_)
                  have hP : va_P (dC, dI) vwCl (WR a k h0 (fT vi 0 0) vj (fT vF 95 (upd (vF 95) ((nI ar)).toNatClampNeg aI)) vG) H := by rw [← WR_F 95 (by decide) _ rfl]; exact hP
                  have hD : va_D A (WR a k h0 (fT vi 0 0) vj (fT vF 95 (upd (vF 95) ((nI ar)).toNatClampNeg aI)) vG) := by rw [← WR_F 95 (by decide) _ rfl]; exact hD
                  refine lv_aload_n hx hb dX12_arc_96 rfl (lv_at hl 1 rfl) ?_
                  refine va_get (D := (dC, dI)) (ci := 12) (v := .ref (a 96)) (C := RX12) (T := TX12) (N := 163) (fs := fM (vS a (fT vi 0 0) vj)) hx hb hts iwsRX12_arc_in12 hown hK hP 0 rfl rfl 152 (by decide) (hts (.fieldLink RX12 315 "OptimaWorksModel" "arcTo" "[I") (by decide +kernel)) (fun _ h9 => h9) rfl dX12_arc_97 ?_
                  refine lv_aload_n hx hb dX12_arc_100 rfl (lv_at hl 1 rfl) ?_
                  refine va_get (D := (dC, dI)) (ci := 12) (v := .int (vi 150)) (C := RX12) (T := TX12) (N := 163) (fs := fM (vS a (fT vi 0 0) vj)) hx hb hts iwsRX12_arc_in12 hown hK hP 0 rfl rfl 150 (by decide) (hts (.fieldLink RX12 1069 "OptimaWorksModel" "arcs" "I") (by decide +kernel)) (fun _ h9 => h9) rfl dX12_arc_101 ?_
                  refine lv_topi (fun y3 hy3 => ?_)
                  obtain rfl : (nI ar) = y3 := (hy3.trans (har)).symm
                  refine lv_iload_n hx hb dX12_arc_104 rfl (lv_at hl 3 rfl) ?_
                  refine va_iast (cA := k 96) (n := 40) (f := (vF 96)) hx hb hK hP hD hS 97 96 (WR_get 96 (by decide)) (TR_get 96 (by decide)) (vp_in_nI (show ar < 40 by omega) (by omega)) dX12_arc_105 (fun H locs hP hD hS => ?_)
                  have hP : va_P (dC, dI) vwCl (WR a k h0 (fT vi 0 0) vj (fT (fT vF 95 (upd (vF 95) ((nI ar)).toNatClampNeg aI)) 96 (upd (vF 96) ((nI ar)).toNatClampNeg bI)) vG) H := by rw [← WR_F 96 (by decide) _ rfl]; exact hP
                  have hD : va_D A (WR a k h0 (fT vi 0 0) vj (fT (fT vF 95 (upd (vF 95) ((nI ar)).toNatClampNeg aI)) 96 (upd (vF 96) ((nI ar)).toNatClampNeg bI)) vG) := by rw [← WR_F 96 (by decide) _ rfl]; exact hD
                  refine lv_aload_n hx hb dX12_arc_106 rfl (lv_at hl 1 rfl) ?_
                  refine va_get (D := (dC, dI)) (ci := 12) (v := .ref (a 97)) (C := RX12) (T := TX12) (N := 163) (fs := fM (vS a (fT vi 0 0) vj)) hx hb hts iwsRX12_arc_in12 hown hK hP 0 rfl rfl 153 (by decide) (hts (.fieldLink RX12 318 "OptimaWorksModel" "arcRoom" "[I") (by decide +kernel)) (fun _ h9 => h9) rfl dX12_arc_107 ?_
                  refine lv_aload_n hx hb dX12_arc_110 rfl (lv_at hl 1 rfl) ?_
                  refine va_get (D := (dC, dI)) (ci := 12) (v := .int (vi 150)) (C := RX12) (T := TX12) (N := 163) (fs := fM (vS a (fT vi 0 0) vj)) hx hb hts iwsRX12_arc_in12 hown hK hP 0 rfl rfl 150 (by decide) (hts (.fieldLink RX12 1069 "OptimaWorksModel" "arcs" "I") (by decide +kernel)) (fun _ h9 => h9) rfl dX12_arc_111 ?_
                  refine lv_topi (fun y4 hy4 => ?_)
                  obtain rfl : (nI ar) = y4 := (hy4.trans (har)).symm
                  refine lv_iload_n hx hb dX12_arc_114 rfl (lv_at hl 4 rfl) ?_
                  refine va_iast (cA := k 97) (n := 40) (f := (vF 97)) hx hb hK hP hD hS 98 97 (WR_get 97 (by decide)) (TR_get 97 (by decide)) (vp_in_nI (show ar < 40 by omega) (by omega)) dX12_arc_115 (fun H locs hP hD hS => ?_)
                  have hP : va_P (dC, dI) vwCl (WR a k h0 (fT vi 0 0) vj (fT (fT (fT vF 95 (upd (vF 95) ((nI ar)).toNatClampNeg aI)) 96 (upd (vF 96) ((nI ar)).toNatClampNeg bI)) 97 (upd (vF 97) ((nI ar)).toNatClampNeg rI)) vG) H := by rw [← WR_F 97 (by decide) _ rfl]; exact hP
                  have hD : va_D A (WR a k h0 (fT vi 0 0) vj (fT (fT (fT vF 95 (upd (vF 95) ((nI ar)).toNatClampNeg aI)) 96 (upd (vF 96) ((nI ar)).toNatClampNeg bI)) 97 (upd (vF 97) ((nI ar)).toNatClampNeg rI)) vG) := by rw [← WR_F 97 (by decide) _ rfl]; exact hD
                  refine lv_aload_n hx hb dX12_arc_116 rfl (lv_at hl 1 rfl) ?_
                  refine va_get (D := (dC, dI)) (ci := 12) (v := .ref (a 98)) (C := RX12) (T := TX12) (N := 163) (fs := fM (vS a (fT vi 0 0) vj)) hx hb hts iwsRX12_arc_in12 hown hK hP 0 rfl rfl 154 (by decide) (hts (.fieldLink RX12 321 "OptimaWorksModel" "arcCost" "[I") (by decide +kernel)) (fun _ h9 => h9) rfl dX12_arc_117 ?_
                  refine lv_aload_n hx hb dX12_arc_120 rfl (lv_at hl 1 rfl) ?_
                  refine va_get (D := (dC, dI)) (ci := 12) (v := .int (vi 150)) (C := RX12) (T := TX12) (N := 163) (fs := fM (vS a (fT vi 0 0) vj)) hx hb hts iwsRX12_arc_in12 hown hK hP 0 rfl rfl 150 (by decide) (hts (.fieldLink RX12 1069 "OptimaWorksModel" "arcs" "I") (by decide +kernel)) (fun _ h9 => h9) rfl dX12_arc_121 ?_
                  refine lv_topi (fun y5 hy5 => ?_)
                  obtain rfl : (nI ar) = y5 := (hy5.trans (har)).symm
                  refine lv_iload hx hb dX12_arc_124 (lv_at hl 5 rfl) ?_
                  refine va_iast (cA := k 98) (n := 40) (f := (vF 98)) hx hb hK hP hD hS 99 98 (WR_get 98 (by decide)) (TR_get 98 (by decide)) (vp_in_nI (show ar < 40 by omega) (by omega)) dX12_arc_126 (fun H locs hP hD hS => ?_)
                  have hP : va_P (dC, dI) vwCl (WR a k h0 (fT vi 0 0) vj (fT (fT (fT (fT vF 95 (upd (vF 95) ((nI ar)).toNatClampNeg aI)) 96 (upd (vF 96) ((nI ar)).toNatClampNeg bI)) 97 (upd (vF 97) ((nI ar)).toNatClampNeg rI)) 98 (upd (vF 98) ((nI ar)).toNatClampNeg pI)) vG) H := by rw [← WR_F 98 (by decide) _ rfl]; exact hP
                  have hD : va_D A (WR a k h0 (fT vi 0 0) vj (fT (fT (fT (fT vF 95 (upd (vF 95) ((nI ar)).toNatClampNeg aI)) 96 (upd (vF 96) ((nI ar)).toNatClampNeg bI)) 97 (upd (vF 97) ((nI ar)).toNatClampNeg rI)) 98 (upd (vF 98) ((nI ar)).toNatClampNeg pI)) vG) := by rw [← WR_F 98 (by decide) _ rfl]; exact hD
                  refine lv_aload_n hx hb dX12_arc_127 rfl (lv_at hl 1 rfl) ?_
                  refine lv_dup hx hb dX12_arc_128 rfl ?_
                  refine va_get (D := (dC, dI)) (ci := 12) (v := .int (vi 150)) (C := RX12) (T := TX12) (N := 163) (fs := fM (vS a (fT vi 0 0) vj)) hx hb hts iwsRX12_arc_in12 hown hK hP 0 rfl rfl 150 (by decide) (hts (.fieldLink RX12 1069 "OptimaWorksModel" "arcs" "I") (by decide +kernel)) (fun _ h9 => h9) rfl dX12_arc_129 ?_
                  refine lv_topi (fun y6 hy6 => ?_)
                  obtain rfl : (nI ar) = y6 := (hy6.trans (har)).symm
                  refine lv_iconst (v := 1) hx hb dX12_arc_132 (by decide) ?_
                  refine lv_iadd hx hb dX12_arc_133 ?_
                  refine lv_topi (fun y7 hy7 => ?_)
                  obtain rfl : (nI (ar + 1)) = y7 := (hy7.trans (nI_add ar 1)).symm
                  refine va_put (D := (dC, dI)) (ci := 12) (v := .int (nI (ar + 1))) (ty := .int) (C := RX12) (T := TX12) (N := 163) (fs := fM (vS a (fT vi 0 0) vj)) hx hb hts iwsRX12_arc_in12 tyX12 tyX12_ok nmX12 hown hK hP hD hS 0 rfl rfl 150 (by decide) (hts (.fieldLink RX12 1069 "OptimaWorksModel" "arcs" "I") (by decide +kernel)) (fun _ h9 => h9) rfl (by decide +kernel) rfl rfl (Nat.le_of_ble_eq_true rfl) dX12_arc_134 (fun H locs hP hD hS => ?_)
                  have hP : va_P (dC, dI) vwCl (WR a k h0 (fT (fT vi 0 0) 150 (nI (ar + 1))) vj (fT (fT (fT (fT vF 95 (upd (vF 95) ((nI ar)).toNatClampNeg aI)) 96 (upd (vF 96) ((nI ar)).toNatClampNeg bI)) 97 (upd (vF 97) ((nI ar)).toNatClampNeg rI)) 98 (upd (vF 98) ((nI ar)).toNatClampNeg pI)) vG) H := by rw [← WR_i 150 _ rfl]; exact hP
                  have hD : va_D A (WR a k h0 (fT (fT vi 0 0) 150 (nI (ar + 1))) vj (fT (fT (fT (fT vF 95 (upd (vF 95) ((nI ar)).toNatClampNeg aI)) 96 (upd (vF 96) ((nI ar)).toNatClampNeg bI)) 97 (upd (vF 97) ((nI ar)).toNatClampNeg rI)) 98 (upd (vF 98) ((nI ar)).toNatClampNeg pI)) vG) := by rw [← WR_i 150 _ rfl]; exact hD
                  refine lv_aload_n hx hb dX12_arc_137 rfl (lv_at hl 1 rfl) ?_
                  refine va_get (D := (dC, dI)) (ci := 12) (v := .int (nI (ar + 1))) (C := RX12) (T := TX12) (N := 163) (fs := fM (vS a (fT (fT vi 0 0) 150 (nI (ar + 1))) vj)) hx hb hts iwsRX12_arc_in12 hown hK hP 0 rfl rfl 150 (by decide) (hts (.fieldLink RX12 1069 "OptimaWorksModel" "arcs" "I") (by decide +kernel)) (fun _ h9 => h9) rfl dX12_arc_138 ?_
                  refine lv_iconst (v := 1) hx hb dX12_arc_141 (by decide) ?_
                  refine lv_isub hx hb dX12_arc_142 ?_
                  refine W.widen (k := 0) (n := 0) (by decide +kernel) (by decide +kernel) ?_
                  exact W.iret (v := ((nI (ar + 1)) - 1)) hx hb hr (fun t9_ ht hW => ⟨⟨((nI (ar + 1)) - 1), (0, (ar + 1), (upd (vF 95) ((nI ar)).toNatClampNeg aI), (upd (vF 96) ((nI ar)).toNatClampNeg bI), (upd (vF 97) ((nI ar)).toNatClampNeg rI), (upd (vF 98) ((nI ar)).toNatClampNeg pI)), rfl, by (try dsimp only); exact Or.inr (Or.inr (⟨by omega, hAr.more (fun r hr9 => ⟨by rw [upd_at (by omega), if_neg (by omega)], by rw [upd_at (by omega), if_neg (by omega)], by rw [upd_at (by omega), if_neg (by omega)], by rw [upd_at (by omega), if_neg (by omega)]⟩) ⟨x5, y5, by omega, by omega, fun e9 => c_16 (by rw [ex5, ey5, e9]), by rw [upd_at (by omega), if_pos rfl]; exact ex5, by rw [upd_at (by omega), if_pos rfl]; exact ey5, by rw [upd_at (by omega), if_pos rfl]; omega, by rw [upd_at (by omega), if_pos rfl]; omega⟩, rfl, by omega, ntAdd_of (by omega) (nI_clamp (by omega)) rfl rfl rfl rfl, (pk_sub_toInt (a := ar + 1) (b := 1) (by omega) (by omega)).trans (by omega)⟩)), by rw [ht]; exact hP, hD⟩, hS.F ht⟩) hS.2.2 dX12_arc_143
                · have t_66 : ((ar : Nat) : Int) = 40 := toI_nne c_66 (nI_toInt (by omega)) (by decide)
                  refine lv_iconst (v := 2) hx hb dX12_arc_69 (by decide) ?_
                  refine lv_goto (tgt := 74) hx hb dX12_arc_70 (by decide) ?_
                  refine va_put (D := (dC, dI)) (ci := 12) (v := .int 2) (ty := .int) (C := RX12) (T := TX12) (N := 163) (fs := fM (vS a vi vj)) hx hb hts iwsRX12_arc_in12 tyX12 tyX12_ok nmX12 hown hK hP hD hS 0 rfl rfl 0 (by decide) (hts (.fieldLink RX12 348 "OptimaWorksModel" "thrown" "I") (by decide +kernel)) (fun _ h9 => h9) rfl (by decide +kernel) rfl rfl (Nat.le_of_ble_eq_true rfl) dX12_arc_74 (fun H locs hP hD hS => ?_)
                  have hP : va_P (dC, dI) vwCl (WR a k h0 (fT vi 0 2) vj vF vG) H := by rw [← WR_i 0 _ rfl]; exact hP
                  have hD : va_D A (WR a k h0 (fT vi 0 2) vj vF vG) := by rw [← WR_i 0 _ rfl]; exact hD
                  refine lv_aload_n hx hb dX12_arc_77 rfl (lv_at hl 1 rfl) ?_
                  refine va_get (D := (dC, dI)) (ci := 12) (v := .int 2) (C := RX12) (T := TX12) (N := 163) (fs := fM (vS a (fT vi 0 2) vj)) hx hb hts iwsRX12_arc_in12 hown hK hP 0 rfl rfl 0 (by decide) (hts (.fieldLink RX12 348 "OptimaWorksModel" "thrown" "I") (by decide +kernel)) (fun _ h9 => h9) rfl dX12_arc_78 ?_
                  refine lv_if_le (tgt := 86) hx hb dX12_arc_81 (by decide) (fun c9 => absurd c9 (by decide)) (fun _ => ?_)
                  refine lv_iconst (v := 0) hx hb dX12_arc_84 (by decide) ?_
                  refine W.widen (k := 0) (n := 0) (by decide +kernel) (by decide +kernel) ?_
                  have e9 : fT (fT vi 0 2) 150 (nI ar) = fT vi 0 2 := by funext q9; by_cases h9_0 : q9 = 0; (subst h9_0; exact ((fT_ne _ _ (Nat.ne_of_beq_eq_false rfl)).trans (fT_eq _ _ _)).trans (Eq.trans (by first | rfl | assumption | (symm; assumption) | (subst_vars; rfl)) (fT_eq _ _ _).symm)); by_cases h9_150 : q9 = 150; (subst h9_150; exact (fT_eq _ _ _).trans (Eq.trans (by first | rfl | assumption | (symm; assumption) | (subst_vars; rfl)) (fT_ne _ _ (Nat.ne_of_beq_eq_false rfl)).symm)); exact ((fT_ne _ _ h9_150).trans (fT_ne _ _ h9_0)).trans (fT_ne _ _ h9_0).symm
                  have hP : va_P (dC, dI) vwCl (WR a k h0 (fT (fT vi 0 2) 150 (nI ar)) vj vF vG) H := by rw [e9]; exact hP
                  have hD : va_D A (WR a k h0 (fT (fT vi 0 2) 150 (nI ar)) vj vF vG) := by rw [e9]; exact hD
                  clear e9
                  have e9 : fT (fT (fT (fT vF 95 (vF 95)) 96 (vF 96)) 97 (vF 97)) 98 (vF 98) = vF := (fT_id _ _ ((fT_ne _ _ (Nat.ne_of_beq_eq_false rfl)).trans ((fT_ne _ _ (Nat.ne_of_beq_eq_false rfl)).trans (fT_ne _ _ (Nat.ne_of_beq_eq_false rfl))))).trans ((fT_id _ _ ((fT_ne _ _ (Nat.ne_of_beq_eq_false rfl)).trans (fT_ne _ _ (Nat.ne_of_beq_eq_false rfl)))).trans ((fT_id _ _ (fT_ne _ _ (Nat.ne_of_beq_eq_false rfl))).trans (fT_id _ _ (rfl))))
                  have hP : va_P (dC, dI) vwCl (WR a k h0 (fT (fT vi 0 2) 150 (nI ar)) vj (fT (fT (fT (fT vF 95 (vF 95)) 96 (vF 96)) 97 (vF 97)) 98 (vF 98)) vG) H := by rw [e9]; exact hP
                  have hD : va_D A (WR a k h0 (fT (fT vi 0 2) 150 (nI ar)) vj (fT (fT (fT (fT vF 95 (vF 95)) 96 (vF 96)) 97 (vF 97)) 98 (vF 98)) vG) := by rw [e9]; exact hD
                  clear e9
                  exact W.iret (v := 0) hx hb hr (fun t9_ ht hW => ⟨⟨0, (2, ar, (vF 95), (vF 96), (vF 97), (vF 98)), rfl, by (try dsimp only); exact Or.inr (Or.inl (⟨by omega, hAr, rfl, by omega, rfl⟩)), by rw [ht]; exact hP, hD⟩, hS.F ht⟩) hS.2.2 dX12_arc_85
    · refine lv_if_eq (tgt := 47) hx hb dX12_arc_11 (by decide) (fun _ => ?_) (fun c9 => absurd (by decide) c9)
      refine lv_iconst (v := 0) hx hb dX12_arc_47 (by decide) ?_
      refine lv_istore hx hb dX12_arc_48 hl (by decide) rfl (fun ls (hl : lv_has ls _ ([(5, .int 0), (0, .ref h0), (1, .int aI), (2, .int bI), (3, .int rI), (4, .int pI)])) => ?_)
      refine lv_aload_n hx hb dX12_arc_50 rfl (lv_at hl 1 rfl) ?_
      refine lv_iload hx hb dX12_arc_51 (lv_at hl 0 rfl) ?_
      refine lv_if_ne (tgt := 60) hx hb dX12_arc_53 (by decide) (fun c9 => absurd c9 (by decide)) (fun _ => ?_)
      refine lv_iconst (v := 1) hx hb dX12_arc_56 (by decide) ?_
      refine lv_goto (tgt := 74) hx hb dX12_arc_57 (by decide) ?_
      refine va_put (D := (dC, dI)) (ci := 12) (v := .int 1) (ty := .int) (C := RX12) (T := TX12) (N := 163) (fs := fM (vS a vi vj)) hx hb hts iwsRX12_arc_in12 tyX12 tyX12_ok nmX12 hown hK hP hD hS 0 rfl rfl 0 (by decide) (hts (.fieldLink RX12 348 "OptimaWorksModel" "thrown" "I") (by decide +kernel)) (fun _ h9 => h9) rfl (by decide +kernel) rfl rfl (Nat.le_of_ble_eq_true rfl) dX12_arc_74 (fun H locs hP hD hS => ?_)
      have hP : va_P (dC, dI) vwCl (WR a k h0 (fT vi 0 1) vj vF vG) H := by rw [← WR_i 0 _ rfl]; exact hP
      have hD : va_D A (WR a k h0 (fT vi 0 1) vj vF vG) := by rw [← WR_i 0 _ rfl]; exact hD
      refine lv_aload_n hx hb dX12_arc_77 rfl (lv_at hl 1 rfl) ?_
      refine va_get (D := (dC, dI)) (ci := 12) (v := .int 1) (C := RX12) (T := TX12) (N := 163) (fs := fM (vS a (fT vi 0 1) vj)) hx hb hts iwsRX12_arc_in12 hown hK hP 0 rfl rfl 0 (by decide) (hts (.fieldLink RX12 348 "OptimaWorksModel" "thrown" "I") (by decide +kernel)) (fun _ h9 => h9) rfl dX12_arc_78 ?_
      refine lv_if_le (tgt := 86) hx hb dX12_arc_81 (by decide) (fun c9 => absurd c9 (by decide)) (fun _ => ?_)
      refine lv_iconst (v := 0) hx hb dX12_arc_84 (by decide) ?_
      refine W.widen (k := 0) (n := 0) (by decide +kernel) (by decide +kernel) ?_
      have e9 : fT (fT vi 0 1) 150 (nI ar) = fT vi 0 1 := by funext q9; by_cases h9_0 : q9 = 0; (subst h9_0; exact ((fT_ne _ _ (Nat.ne_of_beq_eq_false rfl)).trans (fT_eq _ _ _)).trans (Eq.trans (by first | rfl | assumption | (symm; assumption) | (subst_vars; rfl)) (fT_eq _ _ _).symm)); by_cases h9_150 : q9 = 150; (subst h9_150; exact (fT_eq _ _ _).trans (Eq.trans (by first | rfl | assumption | (symm; assumption) | (subst_vars; rfl)) (fT_ne _ _ (Nat.ne_of_beq_eq_false rfl)).symm)); exact ((fT_ne _ _ h9_150).trans (fT_ne _ _ h9_0)).trans (fT_ne _ _ h9_0).symm
      have hP : va_P (dC, dI) vwCl (WR a k h0 (fT (fT vi 0 1) 150 (nI ar)) vj vF vG) H := by rw [e9]; exact hP
      have hD : va_D A (WR a k h0 (fT (fT vi 0 1) 150 (nI ar)) vj vF vG) := by rw [e9]; exact hD
      clear e9
      have e9 : fT (fT (fT (fT vF 95 (vF 95)) 96 (vF 96)) 97 (vF 97)) 98 (vF 98) = vF := (fT_id _ _ ((fT_ne _ _ (Nat.ne_of_beq_eq_false rfl)).trans ((fT_ne _ _ (Nat.ne_of_beq_eq_false rfl)).trans (fT_ne _ _ (Nat.ne_of_beq_eq_false rfl))))).trans ((fT_id _ _ ((fT_ne _ _ (Nat.ne_of_beq_eq_false rfl)).trans (fT_ne _ _ (Nat.ne_of_beq_eq_false rfl)))).trans ((fT_id _ _ (fT_ne _ _ (Nat.ne_of_beq_eq_false rfl))).trans (fT_id _ _ (rfl))))
      have hP : va_P (dC, dI) vwCl (WR a k h0 (fT (fT vi 0 1) 150 (nI ar)) vj (fT (fT (fT (fT vF 95 (vF 95)) 96 (vF 96)) 97 (vF 97)) 98 (vF 98)) vG) H := by rw [e9]; exact hP
      have hD : va_D A (WR a k h0 (fT (fT vi 0 1) 150 (nI ar)) vj (fT (fT (fT (fT vF 95 (vF 95)) 96 (vF 96)) 97 (vF 97)) 98 (vF 98)) vG) := by rw [e9]; exact hD
      clear e9
      exact W.iret (v := 0) hx hb hr (fun t9_ ht hW => ⟨⟨0, (1, ar, (vF 95), (vF 96), (vF 97), (vF 98)), rfl, by (try dsimp only); exact Or.inl (⟨by omega, hAr, rfl, by omega, rfl⟩), by rw [ht]; exact hP, hD⟩, hS.F ht⟩) hS.2.2 dX12_arc_85
  · refine lv_if_eq (tgt := 47) hx hb dX12_arc_4 (by decide) (fun _ => ?_) (fun c9 => absurd (by decide) c9)
    refine lv_iconst (v := 0) hx hb dX12_arc_47 (by decide) ?_
    refine lv_istore hx hb dX12_arc_48 hl (by decide) rfl (fun ls (hl : lv_has ls _ ([(5, .int 0), (0, .ref h0), (1, .int aI), (2, .int bI), (3, .int rI), (4, .int pI)])) => ?_)
    refine lv_aload_n hx hb dX12_arc_50 rfl (lv_at hl 1 rfl) ?_
    refine lv_iload hx hb dX12_arc_51 (lv_at hl 0 rfl) ?_
    refine lv_if_ne (tgt := 60) hx hb dX12_arc_53 (by decide) (fun c9 => absurd c9 (by decide)) (fun _ => ?_)
    refine lv_iconst (v := 1) hx hb dX12_arc_56 (by decide) ?_
    refine lv_goto (tgt := 74) hx hb dX12_arc_57 (by decide) ?_
    refine va_put (D := (dC, dI)) (ci := 12) (v := .int 1) (ty := .int) (C := RX12) (T := TX12) (N := 163) (fs := fM (vS a vi vj)) hx hb hts iwsRX12_arc_in12 tyX12 tyX12_ok nmX12 hown hK hP hD hS 0 rfl rfl 0 (by decide) (hts (.fieldLink RX12 348 "OptimaWorksModel" "thrown" "I") (by decide +kernel)) (fun _ h9 => h9) rfl (by decide +kernel) rfl rfl (Nat.le_of_ble_eq_true rfl) dX12_arc_74 (fun H locs hP hD hS => ?_)
    have hP : va_P (dC, dI) vwCl (WR a k h0 (fT vi 0 1) vj vF vG) H := by rw [← WR_i 0 _ rfl]; exact hP
    have hD : va_D A (WR a k h0 (fT vi 0 1) vj vF vG) := by rw [← WR_i 0 _ rfl]; exact hD
    refine lv_aload_n hx hb dX12_arc_77 rfl (lv_at hl 1 rfl) ?_
    refine va_get (D := (dC, dI)) (ci := 12) (v := .int 1) (C := RX12) (T := TX12) (N := 163) (fs := fM (vS a (fT vi 0 1) vj)) hx hb hts iwsRX12_arc_in12 hown hK hP 0 rfl rfl 0 (by decide) (hts (.fieldLink RX12 348 "OptimaWorksModel" "thrown" "I") (by decide +kernel)) (fun _ h9 => h9) rfl dX12_arc_78 ?_
    refine lv_if_le (tgt := 86) hx hb dX12_arc_81 (by decide) (fun c9 => absurd c9 (by decide)) (fun _ => ?_)
    refine lv_iconst (v := 0) hx hb dX12_arc_84 (by decide) ?_
    refine W.widen (k := 0) (n := 0) (by decide +kernel) (by decide +kernel) ?_
    have e9 : fT (fT vi 0 1) 150 (nI ar) = fT vi 0 1 := by funext q9; by_cases h9_0 : q9 = 0; (subst h9_0; exact ((fT_ne _ _ (Nat.ne_of_beq_eq_false rfl)).trans (fT_eq _ _ _)).trans (Eq.trans (by first | rfl | assumption | (symm; assumption) | (subst_vars; rfl)) (fT_eq _ _ _).symm)); by_cases h9_150 : q9 = 150; (subst h9_150; exact (fT_eq _ _ _).trans (Eq.trans (by first | rfl | assumption | (symm; assumption) | (subst_vars; rfl)) (fT_ne _ _ (Nat.ne_of_beq_eq_false rfl)).symm)); exact ((fT_ne _ _ h9_150).trans (fT_ne _ _ h9_0)).trans (fT_ne _ _ h9_0).symm
    have hP : va_P (dC, dI) vwCl (WR a k h0 (fT (fT vi 0 1) 150 (nI ar)) vj vF vG) H := by rw [e9]; exact hP
    have hD : va_D A (WR a k h0 (fT (fT vi 0 1) 150 (nI ar)) vj vF vG) := by rw [e9]; exact hD
    clear e9
    have e9 : fT (fT (fT (fT vF 95 (vF 95)) 96 (vF 96)) 97 (vF 97)) 98 (vF 98) = vF := (fT_id _ _ ((fT_ne _ _ (Nat.ne_of_beq_eq_false rfl)).trans ((fT_ne _ _ (Nat.ne_of_beq_eq_false rfl)).trans (fT_ne _ _ (Nat.ne_of_beq_eq_false rfl))))).trans ((fT_id _ _ ((fT_ne _ _ (Nat.ne_of_beq_eq_false rfl)).trans (fT_ne _ _ (Nat.ne_of_beq_eq_false rfl)))).trans ((fT_id _ _ (fT_ne _ _ (Nat.ne_of_beq_eq_false rfl))).trans (fT_id _ _ (rfl))))
    have hP : va_P (dC, dI) vwCl (WR a k h0 (fT (fT vi 0 1) 150 (nI ar)) vj (fT (fT (fT (fT vF 95 (vF 95)) 96 (vF 96)) 97 (vF 97)) 98 (vF 98)) vG) H := by rw [e9]; exact hP
    have hD : va_D A (WR a k h0 (fT (fT vi 0 1) 150 (nI ar)) vj (fT (fT (fT (fT vF 95 (vF 95)) 96 (vF 96)) 97 (vF 97)) 98 (vF 98)) vG) := by rw [e9]; exact hD
    clear e9
    exact W.iret (v := 0) hx hb hr (fun t9_ ht hW => ⟨⟨0, (1, ar, (vF 95), (vF 96), (vF 97), (vF 98)), rfl, by (try dsimp only); exact Or.inl (⟨by omega, hAr, rfl, by omega, rfl⟩), by rw [ht]; exact hP, hD⟩, hS.F ht⟩) hS.2.2 dX12_arc_85
theorem dX12_unarc_0 : decode cX12_unarc 0 = .ok (.aload_n 0, 1) := dk_42 (by decide +kernel)
theorem dX12_unarc_1 : decode cX12_unarc 1 = .ok (.iconst 0, 1) := dk_3 (by decide +kernel)
theorem dX12_unarc_2 : decode cX12_unarc 2 = .ok (.putfield 348, 3) := dk_181 (by decide +kernel)
theorem dX12_unarc_5 : decode cX12_unarc 5 = .ok (.aload_n 0, 1) := dk_42 (by decide +kernel)
theorem dX12_unarc_6 : decode cX12_unarc 6 = .ok (.getfield 1069, 3) := dk_180 (by decide +kernel)
theorem dX12_unarc_9 : decode cX12_unarc 9 = .ok (.ifCond .ne 5, 3) := dk_154 (by decide +kernel)
theorem dX12_unarc_12 : decode cX12_unarc 12 = .ok (.iconst 0, 1) := dk_3 (by decide +kernel)
theorem dX12_unarc_13 : decode cX12_unarc 13 = .ok (.ireturn, 1) := dk_172 (by decide +kernel)
theorem dX12_unarc_14 : decode cX12_unarc 14 = .ok (.aload_n 0, 1) := dk_42 (by decide +kernel)
theorem dX12_unarc_15 : decode cX12_unarc 15 = .ok (.dup, 1) := dk_89 (by decide +kernel)
theorem dX12_unarc_16 : decode cX12_unarc 16 = .ok (.getfield 1069, 3) := dk_180 (by decide +kernel)
theorem dX12_unarc_19 : decode cX12_unarc 19 = .ok (.iconst 1, 1) := dk_4 (by decide +kernel)
theorem dX12_unarc_20 : decode cX12_unarc 20 = .ok (.isub, 1) := dk_100 (by decide +kernel)
theorem dX12_unarc_21 : decode cX12_unarc 21 = .ok (.putfield 1069, 3) := dk_181 (by decide +kernel)
theorem dX12_unarc_24 : decode cX12_unarc 24 = .ok (.iconst 1, 1) := dk_4 (by decide +kernel)
theorem dX12_unarc_25 : decode cX12_unarc 25 = .ok (.ireturn, 1) := dk_172 (by decide +kernel)
def wsRX12_unarc : List Cond := .code yX12_unarc cX12_unarc 1 (some .boolean) :: ([.fieldLink RX12 348 "OptimaWorksModel" "thrown" "I", .fieldLink RX12 1069 "OptimaWorksModel" "arcs" "I"] ++ wsX120)
theorem iwsRX12_unarc_in12 : ∀ w ∈ wsX120, w ∈ wsRX12_unarc := fun _ h => List.mem_cons_of_mem _ (List.mem_append_right _ h)
theorem gdwsRX12_unarc : wsRX12_unarc.all goodWord = true := gdC rfl (gdA (by decide +kernel : ([.fieldLink RX12 348 "OptimaWorksModel" "thrown" "I", .fieldLink RX12 1069 "OptimaWorksModel" "arcs" "I"] : List Cond).all goodWord = true) gdwsX120)
set_option maxHeartbeats 4000000 in
set_option maxRecDepth 100000 in
/-- unarc() -/
theorem r_X12_unarc (l : Launch) (dC : Nat → ClassId) (dI : Nat → Nat → Nat) (a : Nat → Nat) (k : Nat → ClassId) (h0 : Nat) (vi : Nat → Int32) (vj : Nat → Int64) (vF : Nat → Nat → Int32) (vG : Nat → Nat → Int64) (ar : Nat) (har : vi 150 = nI ar) (har40 : ar ≤ 40) (sz : Nat) : Met l yX12_unarc wsRX12_unarc ({ frames := 0, cells := 0, slots := 0, locals := 0 }) (va_Pc [.ref h0] (fun U => U.heap.size = sz ∧ va_P (dC, dI) vwCl (WR a k h0 vi vj vF vG) U.heap ∧ va_K (dC, dI) vwCl (tX12 k) U ∧ va_D (fun _ => True) (WR a k h0 vi vj vF vG))) (va_Qi (fun (r : Int32) (u : Nat) => ((u ≤ ar) ∧ (ar = 0 ∧ u = 0) ∧ (r = 0)) ∨ ((u ≤ ar) ∧ (0 < ar ∧ u + 1 = ar) ∧ (r = 1))) (fun (u : Nat) t => va_P (dC, dI) vwCl (WR a k h0 (fT (fT vi 0 0) 150 (nI u)) vj vF vG) t.heap ∧ va_D (va_A (WR a k h0 vi vj vF vG) sz) (WR a k h0 (fT (fT vi 0 0) 150 (nI u)) vj vF vG)) (va_A (WR a k h0 vi vj vF vG) sz)) 0 0 (va_A (WR a k h0 vi vj vF vG) sz) := by
  refine Met.ofW (cc := cX12_unarc) (maxL := 1) (ret := (some .boolean)) (by decide) rfl ?_
  intro p e s m args below meth c s₁ B hml hv
  obtain ⟨rfl, hsz, hP, hK, hD0⟩ := hv
  have hx := B.exec
  have hb := B.bytes
  have hr := B.returns
  have hts := atoms_spec (ws := wsRX12_unarc) B.pre
  have hown : s.vm.findClass RX12 = some m.cls := findClass_of_methodNamed B.named
  have hlocks := B.notSynchronized
  subst hsz
  have hD := hD0.self (sz := s.heap.size)
  generalize hAe : va_A (WR a k h0 vi vj vF vG) s.heap.size = A at hD ⊢
  have hA : ∀ q : Nat, s.heap.size ≤ q → A q := fun q h => by rw [← hAe]; exact Or.inr h
  have hS : va_S A s.heap s.heap [] := va_S.rf
  have hl := lv_entry ([.ref h0]) (n := 1) (Nat.le_of_ble_eq_true rfl)
  rw [lg_entry_eq]
  generalize (lg_sl ([.ref h0]) ++ List.replicate (1 - (lg_sl ([.ref h0])).length) Slot.unset).toArray = ls at hl ⊢
  have hl : lv_has ls 1 [(0, .ref h0)] := hl
  refine lv_aload_n hx hb dX12_unarc_0 rfl (lv_at hl 0 rfl) ?_
  refine lv_iconst (v := 0) hx hb dX12_unarc_1 (by decide) ?_
  refine va_put (D := (dC, dI)) (ci := 12) (v := .int 0) (ty := .int) (C := RX12) (T := TX12) (N := 163) (fs := fM (vS a vi vj)) hx hb hts iwsRX12_unarc_in12 tyX12 tyX12_ok nmX12 hown hK hP hD hS 0 rfl rfl 0 (by decide) (hts (.fieldLink RX12 348 "OptimaWorksModel" "thrown" "I") (by decide +kernel)) (fun _ h9 => h9) rfl (by decide +kernel) rfl rfl (Nat.le_of_ble_eq_true rfl) dX12_unarc_2 (fun H locs hP hD hS => ?_)
  have hP : va_P (dC, dI) vwCl (WR a k h0 (fT vi 0 0) vj vF vG) H := by rw [← WR_i 0 _ rfl]; exact hP
  have hD : va_D A (WR a k h0 (fT vi 0 0) vj vF vG) := by rw [← WR_i 0 _ rfl]; exact hD
  refine lv_aload_n hx hb dX12_unarc_5 rfl (lv_at hl 0 rfl) ?_
  refine va_get (D := (dC, dI)) (ci := 12) (v := .int (vi 150)) (C := RX12) (T := TX12) (N := 163) (fs := fM (vS a (fT vi 0 0) vj)) hx hb hts iwsRX12_unarc_in12 hown hK hP 0 rfl rfl 150 (by decide) (hts (.fieldLink RX12 1069 "OptimaWorksModel" "arcs" "I") (by decide +kernel)) (fun _ h9 => h9) rfl dX12_unarc_6 ?_
  refine lv_topi (fun y1 hy1 => ?_)
  obtain rfl : (nI ar) = y1 := (hy1.trans (har)).symm
  refine lv_if_ne (tgt := 14) hx hb dX12_unarc_9 (by decide) (fun c_9 => ?_) (fun c_9 => ?_)
  · have t_9 : ((ar : Nat) : Int) ≠ 0 := toI_ne c_9 (nI_toInt (by omega)) (by decide)
    refine lv_aload_n hx hb dX12_unarc_14 rfl (lv_at hl 0 rfl) ?_
    refine lv_dup hx hb dX12_unarc_15 rfl ?_
    refine va_get (D := (dC, dI)) (ci := 12) (v := .int (vi 150)) (C := RX12) (T := TX12) (N := 163) (fs := fM (vS a (fT vi 0 0) vj)) hx hb hts iwsRX12_unarc_in12 hown hK hP 0 rfl rfl 150 (by decide) (hts (.fieldLink RX12 1069 "OptimaWorksModel" "arcs" "I") (by decide +kernel)) (fun _ h9 => h9) rfl dX12_unarc_16 ?_
    refine lv_topi (fun y2 hy2 => ?_)
    obtain rfl : (nI ar) = y2 := (hy2.trans (har)).symm
    refine lv_iconst (v := 1) hx hb dX12_unarc_19 (by decide) ?_
    refine lv_isub hx hb dX12_unarc_20 ?_
    refine lv_topi (fun y3 hy3 => ?_)
    obtain rfl : (nI (ar - 1)) = y3 := (hy3.trans (pk_sub (a := ar) (b := 1) (by omega))).symm
    refine va_put (D := (dC, dI)) (ci := 12) (v := .int (nI (ar - 1))) (ty := .int) (C := RX12) (T := TX12) (N := 163) (fs := fM (vS a (fT vi 0 0) vj)) hx hb hts iwsRX12_unarc_in12 tyX12 tyX12_ok nmX12 hown hK hP hD hS 0 rfl rfl 150 (by decide) (hts (.fieldLink RX12 1069 "OptimaWorksModel" "arcs" "I") (by decide +kernel)) (fun _ h9 => h9) rfl (by decide +kernel) rfl rfl (Nat.le_of_ble_eq_true rfl) dX12_unarc_21 (fun H locs hP hD hS => ?_)
    have hP : va_P (dC, dI) vwCl (WR a k h0 (fT (fT vi 0 0) 150 (nI (ar - 1))) vj vF vG) H := by rw [← WR_i 150 _ rfl]; exact hP
    have hD : va_D A (WR a k h0 (fT (fT vi 0 0) 150 (nI (ar - 1))) vj vF vG) := by rw [← WR_i 150 _ rfl]; exact hD
    refine lv_iconst (v := 1) hx hb dX12_unarc_24 (by decide) ?_
    refine W.widen (k := 0) (n := 0) (by decide +kernel) (by decide +kernel) ?_
    exact W.zret (v := 1) hx hb hr rfl (fun t9_ ht hW => ⟨⟨1, (ar - 1), rfl, by (try dsimp only); exact Or.inr ⟨by omega, by omega, rfl⟩, by rw [ht]; exact hP, hD⟩, hS.F ht⟩) hS.2.2 dX12_unarc_25
  · have t_9 : ((ar : Nat) : Int) = 0 := toI_nne c_9 (nI_toInt (by omega)) (by decide)
    refine lv_iconst (v := 0) hx hb dX12_unarc_12 (by decide) ?_
    refine W.widen (k := 0) (n := 0) (by decide +kernel) (by decide +kernel) ?_
    have e9 : fT (fT vi 0 0) 150 (nI ar) = fT vi 0 0 := by funext q9; by_cases h9_0 : q9 = 0; (subst h9_0; exact ((fT_ne _ _ (Nat.ne_of_beq_eq_false rfl)).trans (fT_eq _ _ _)).trans (Eq.trans (by first | rfl | assumption | (symm; assumption) | (subst_vars; rfl)) (fT_eq _ _ _).symm)); by_cases h9_150 : q9 = 150; (subst h9_150; exact (fT_eq _ _ _).trans (Eq.trans (by first | rfl | assumption | (symm; assumption) | (subst_vars; rfl)) (fT_ne _ _ (Nat.ne_of_beq_eq_false rfl)).symm)); exact ((fT_ne _ _ h9_150).trans (fT_ne _ _ h9_0)).trans (fT_ne _ _ h9_0).symm
    have hP : va_P (dC, dI) vwCl (WR a k h0 (fT (fT vi 0 0) 150 (nI ar)) vj vF vG) H := by rw [e9]; exact hP
    have hD : va_D A (WR a k h0 (fT (fT vi 0 0) 150 (nI ar)) vj vF vG) := by rw [e9]; exact hD
    clear e9
    exact W.zret (v := 0) hx hb hr rfl (fun t9_ ht hW => ⟨⟨0, ar, rfl, by (try dsimp only); exact Or.inl ⟨by omega, by omega, rfl⟩, by rw [ht]; exact hP, hD⟩, hS.F ht⟩) hS.2.2 dX12_unarc_13
theorem dX12_areEnds_0 : decode cX12_areEnds 0 = .ok (.aload_n 0, 1) := dk_42 (by decide +kernel)
theorem dX12_areEnds_1 : decode cX12_areEnds 1 = .ok (.iload_n 1, 1) := dk_27 (by decide +kernel)
theorem dX12_areEnds_2 : decode cX12_areEnds 2 = .ok (.invokestatic 1066, 3) := dk_184 (by decide +kernel)
theorem dX12_areEnds_5 : decode cX12_areEnds 5 = .ok (.ifCond .eq 10, 3) := dk_153 (by decide +kernel)
theorem dX12_areEnds_8 : decode cX12_areEnds 8 = .ok (.iload_n 2, 1) := dk_28 (by decide +kernel)
theorem dX12_areEnds_9 : decode cX12_areEnds 9 = .ok (.invokestatic 1066, 3) := dk_184 (by decide +kernel)
theorem dX12_areEnds_12 : decode cX12_areEnds 12 = .ok (.ifCond .ne 7, 3) := dk_154 (by decide +kernel)
theorem dX12_areEnds_15 : decode cX12_areEnds 15 = .ok (.iconst 1, 1) := dk_4 (by decide +kernel)
theorem dX12_areEnds_16 : decode cX12_areEnds 16 = .ok (.goto 13, 3) := dk_167 (by decide +kernel)
theorem dX12_areEnds_19 : decode cX12_areEnds 19 = .ok (.iload_n 1, 1) := dk_27 (by decide +kernel)
theorem dX12_areEnds_20 : decode cX12_areEnds 20 = .ok (.iload_n 2, 1) := dk_28 (by decide +kernel)
theorem dX12_areEnds_21 : decode cX12_areEnds 21 = .ok (.if_icmp .ne 7, 3) := dk_160 (by decide +kernel)
theorem dX12_areEnds_24 : decode cX12_areEnds 24 = .ok (.iconst 2, 1) := dk_5 (by decide +kernel)
theorem dX12_areEnds_25 : decode cX12_areEnds 25 = .ok (.goto 4, 3) := dk_167 (by decide +kernel)
theorem dX12_areEnds_28 : decode cX12_areEnds 28 = .ok (.iconst 0, 1) := dk_3 (by decide +kernel)
theorem dX12_areEnds_29 : decode cX12_areEnds 29 = .ok (.putfield 348, 3) := dk_181 (by decide +kernel)
theorem dX12_areEnds_32 : decode cX12_areEnds 32 = .ok (.aload_n 0, 1) := dk_42 (by decide +kernel)
theorem dX12_areEnds_33 : decode cX12_areEnds 33 = .ok (.getfield 348, 3) := dk_180 (by decide +kernel)
theorem dX12_areEnds_36 : decode cX12_areEnds 36 = .ok (.ifCond .ne 7, 3) := dk_154 (by decide +kernel)
theorem dX12_areEnds_39 : decode cX12_areEnds 39 = .ok (.iconst 1, 1) := dk_4 (by decide +kernel)
theorem dX12_areEnds_40 : decode cX12_areEnds 40 = .ok (.goto 4, 3) := dk_167 (by decide +kernel)
theorem dX12_areEnds_43 : decode cX12_areEnds 43 = .ok (.iconst 0, 1) := dk_3 (by decide +kernel)
theorem dX12_areEnds_44 : decode cX12_areEnds 44 = .ok (.ireturn, 1) := dk_172 (by decide +kernel)
def wsRX12_areEnds : List Cond := .code yX12_areEnds cX12_areEnds 3 (some .boolean) :: ([.fieldLink RX12 348 "OptimaWorksModel" "thrown" "I"] ++ wsX120 ++ (va_wsS RX12 1066 yX12_isPlace wsRX12_isPlace))
theorem iwsRX12_areEnds_in12 : ∀ w ∈ wsX120, w ∈ wsRX12_areEnds := fun _ h => List.mem_cons_of_mem _ (List.mem_append_left _ (List.mem_append_right _ h))
theorem gwsRX12_areEnds_0 : GoodIn wsRX12_areEnds (va_wsS RX12 1066 yX12_isPlace wsRX12_isPlace) := goodIn_sub (fun _ h => List.mem_cons_of_mem _ (List.mem_append_right _ h)) (gdS (by decide +kernel) gdwsRX12_isPlace)
theorem gdwsRX12_areEnds : wsRX12_areEnds.all goodWord = true := gdC rfl (gdA (gdA (by decide +kernel : ([.fieldLink RX12 348 "OptimaWorksModel" "thrown" "I"] : List Cond).all goodWord = true) gdwsX120) (gdS (by decide +kernel) gdwsRX12_isPlace))
set_option maxHeartbeats 4000000 in
set_option maxRecDepth 100000 in
/-- areEnds(s, t) -/
theorem r_X12_areEnds (l : Launch) (dC : Nat → ClassId) (dI : Nat → Nat → Nat) (a : Nat → Nat) (k : Nat → ClassId) (h0 : Nat) (vi : Nat → Int32) (vj : Nat → Int64) (vF : Nat → Nat → Int32) (vG : Nat → Nat → Int64) (sI : Int32) (tI : Int32) (sz : Nat) : Met l yX12_areEnds wsRX12_areEnds ({ frames := 1, cells := 0, slots := 0, locals := 20 }) (va_Pc [.ref h0, .int sI, .int tI] (fun U => U.heap.size = sz ∧ va_P (dC, dI) vwCl (WR a k h0 vi vj vF vG) U.heap ∧ va_K (dC, dI) vwCl (tX12 k) U ∧ va_D (fun _ => True) (WR a k h0 vi vj vF vG))) (va_Qi (fun (r : Int32) (u : Int32) => (r = 1 ∧ (0 ≤ (sI).toInt ∧ (sI).toInt < 12) ∧ (0 ≤ (tI).toInt ∧ (tI).toInt < 12) ∧ (sI ≠ tI) ∧ (u = 0)) ∨ (r = 0 ∧ ((u = 1 ∧ ¬ ((0 ≤ (sI).toInt ∧ (sI).toInt ≤ 11) ∧ 0 ≤ (tI).toInt ∧ (tI).toInt ≤ 11)) ∨ (u = 2 ∧ ((0 ≤ (sI).toInt ∧ (sI).toInt ≤ 11) ∧ 0 ≤ (tI).toInt ∧ (tI).toInt ≤ 11) ∧ (sI).toInt = (tI).toInt)))) (fun (u : Int32) t => va_P (dC, dI) vwCl (WR a k h0 (fT vi 0 u) vj vF vG) t.heap ∧ va_D (va_A (WR a k h0 vi vj vF vG) sz) (WR a k h0 (fT vi 0 u) vj vF vG)) (va_A (WR a k h0 vi vj vF vG) sz)) 0 0 (va_A (WR a k h0 vi vj vF vG) sz) := by
  refine Met.ofW (cc := cX12_areEnds) (maxL := 3) (ret := (some .boolean)) (by decide) rfl ?_
  intro p e s m args below meth c s₁ B hml hv
  obtain ⟨rfl, hsz, hP, hK, hD0⟩ := hv
  have hx := B.exec
  have hb := B.bytes
  have hr := B.returns
  have hts := atoms_spec (ws := wsRX12_areEnds) B.pre
  have hown : s.vm.findClass RX12 = some m.cls := findClass_of_methodNamed B.named
  have hlocks := B.notSynchronized
  subst hsz
  have hD := hD0.self (sz := s.heap.size)
  generalize hAe : va_A (WR a k h0 vi vj vF vG) s.heap.size = A at hD ⊢
  have hA : ∀ q : Nat, s.heap.size ≤ q → A q := fun q h => by rw [← hAe]; exact Or.inr h
  have hS : va_S A s.heap s.heap [] := va_S.rf
  have hl := lv_entry ([.ref h0, .int sI, .int tI]) (n := 3) (Nat.le_of_ble_eq_true rfl)
  rw [lg_entry_eq]
  generalize (lg_sl ([.ref h0, .int sI, .int tI]) ++ List.replicate (3 - (lg_sl ([.ref h0, .int sI, .int tI])).length) Slot.unset).toArray = ls at hl ⊢
  have hl : lv_has ls 3 [(0, .ref h0), (1, .int sI), (2, .int tI)] := hl
  refine lv_aload_n hx hb dX12_areEnds_0 rfl (lv_at hl 0 rfl) ?_
  refine lv_iload_n hx hb dX12_areEnds_1 rfl (lv_at hl 1 rfl) ?_
  have hFc := noneFree hS hA
  refine va_calli (va_runS (As := [.int sI]) (rest := [.ref h0]) ⟨hx, hb, hml, hown, hts⟩ (r_X12_isPlace l dC dI sI s.heap.size) (va_cwS 1 hts gwsRX12_areEnds_0 rfl rfl rfl (by decide +kernel) ⟨by decide +kernel, by decide +kernel⟩) ⟨fun a U g mk q => by obtain ⟨q0, q1, qP, qK, qD⟩ := q; exact ⟨q0, q1, qP, va_K.moved (u := U) (U := U.calling g mk a) (Vm.Alike.refl U.vm) qK, qD⟩, fun U hU9 hW => ⟨rfl, by rw [hU9], by rw [hU9]; exact nilP, va_K.moved hW.alike (hK.sub (tys' := []) [] rfl), nilD⟩⟩ rfl rfl hl.1 rfl (lv_room (Nat.le_of_ble_eq_true rfl)) dX12_areEnds_2 (by decide +kernel)) hS (fun q _ h => hFc q h) hFc (fun r2 u t9_ H1 locs ht hvm hw9 hB9 hz1 hk1 hS => ?_)
  have hP := keepAll hP hk1
  clear hB9
  generalize H1 = H at hP hS ⊢
  have hP : va_P (dC, dI) vwCl (WR a k h0 vi vj vF vG) H := hP
  have hD : va_D A (WR a k h0 vi vj vF vG) := hD
  rcases hw9 with ⟨rfl, f2_0⟩ | ⟨rfl, f2_0⟩
  · refine lv_if_eq (tgt := 15) hx hb dX12_areEnds_5 (by decide) (fun c9 => absurd c9 (by decide)) (fun _ => ?_)
    refine lv_iload_n hx hb dX12_areEnds_8 rfl (lv_at hl 2 rfl) ?_
    have hFc := noneFree hS hA
    refine va_calli (va_runS (As := [.int tI]) (rest := [.ref h0]) ⟨hx, hb, hml, hown, hts⟩ (r_X12_isPlace l dC dI tI H.size) (va_cwS 1 hts gwsRX12_areEnds_0 rfl rfl rfl (by decide +kernel) ⟨by decide +kernel, by decide +kernel⟩) ⟨fun a U g mk q => by obtain ⟨q0, q1, qP, qK, qD⟩ := q; exact ⟨q0, q1, qP, va_K.moved (u := U) (U := U.calling g mk a) (Vm.Alike.refl U.vm) qK, qD⟩, fun U hU9 hW => ⟨rfl, by rw [hU9], by rw [hU9]; exact nilP, va_K.moved hW.alike (hK.sub (tys' := []) [] rfl), nilD⟩⟩ rfl rfl hl.1 rfl (lv_room (Nat.le_of_ble_eq_true rfl)) dX12_areEnds_9 (by decide +kernel)) hS (fun q _ h => hFc q h) hFc (fun r9 u t9_ H1 locs ht hvm hw9 hB9 hz1 hk1 hS => ?_)
    have hP := keepAll hP hk1
    clear hB9
    generalize H1 = H at hP hS ⊢
    have hP : va_P (dC, dI) vwCl (WR a k h0 vi vj vF vG) H := hP
    have hD : va_D A (WR a k h0 vi vj vF vG) := hD
    rcases hw9 with ⟨rfl, f9_0⟩ | ⟨rfl, f9_0⟩
    · refine lv_if_ne (tgt := 19) hx hb dX12_areEnds_12 (by decide) (fun _ => ?_) (fun c9 => absurd c9 (by decide))
      refine lv_iload_n hx hb dX12_areEnds_19 rfl (lv_at hl 1 rfl) ?_
      refine lv_iload_n hx hb dX12_areEnds_20 rfl (lv_at hl 2 rfl) ?_
      refine lv_icmp_ne (tgt := 28) hx hb dX12_areEnds_21 (by decide) (fun c_21 => ?_) (fun c_21 => ?_)
      · have t_21 : (sI).toInt ≠ (tI).toInt := toI_ne c_21 rfl rfl
        refine lv_iconst (v := 0) hx hb dX12_areEnds_28 (by decide) ?_
        refine va_put (D := (dC, dI)) (ci := 12) (v := .int 0) (ty := .int) (C := RX12) (T := TX12) (N := 163) (fs := fM (vS a vi vj)) hx hb hts iwsRX12_areEnds_in12 tyX12 tyX12_ok nmX12 hown hK hP hD hS 0 rfl rfl 0 (by decide) (hts (.fieldLink RX12 348 "OptimaWorksModel" "thrown" "I") (by decide +kernel)) (fun _ h9 => h9) rfl (by decide +kernel) rfl rfl (Nat.le_of_ble_eq_true rfl) dX12_areEnds_29 (fun H locs hP hD hS => ?_)
        have hP : va_P (dC, dI) vwCl (WR a k h0 (fT vi 0 0) vj vF vG) H := by rw [← WR_i 0 _ rfl]; exact hP
        have hD : va_D A (WR a k h0 (fT vi 0 0) vj vF vG) := by rw [← WR_i 0 _ rfl]; exact hD
        refine lv_aload_n hx hb dX12_areEnds_32 rfl (lv_at hl 0 rfl) ?_
        refine va_get (D := (dC, dI)) (ci := 12) (v := .int 0) (C := RX12) (T := TX12) (N := 163) (fs := fM (vS a (fT vi 0 0) vj)) hx hb hts iwsRX12_areEnds_in12 hown hK hP 0 rfl rfl 0 (by decide) (hts (.fieldLink RX12 348 "OptimaWorksModel" "thrown" "I") (by decide +kernel)) (fun _ h9 => h9) rfl dX12_areEnds_33 ?_
        refine lv_if_ne (tgt := 43) hx hb dX12_areEnds_36 (by decide) (fun c9 => absurd c9 (by decide)) (fun _ => ?_)
        refine lv_iconst (v := 1) hx hb dX12_areEnds_39 (by decide) ?_
        refine lv_goto (tgt := 44) hx hb dX12_areEnds_40 (by decide) ?_
        refine W.widen (k := 0) (n := 0) (by decide +kernel) (by decide +kernel) ?_
        exact W.zret (v := 1) hx hb hr rfl (fun t9_ ht hW => ⟨⟨1, 0, rfl, by (try dsimp only); exact Or.inl ⟨rfl, f2_0, f9_0, c_21, rfl⟩, by rw [ht]; exact hP, hD⟩, hS.F ht⟩) hS.2.2 dX12_areEnds_44
      · have t_21 : (sI).toInt = (tI).toInt := toI_nne c_21 rfl rfl
        refine lv_iconst (v := 2) hx hb dX12_areEnds_24 (by decide) ?_
        refine lv_goto (tgt := 29) hx hb dX12_areEnds_25 (by decide) ?_
        refine va_put (D := (dC, dI)) (ci := 12) (v := .int 2) (ty := .int) (C := RX12) (T := TX12) (N := 163) (fs := fM (vS a vi vj)) hx hb hts iwsRX12_areEnds_in12 tyX12 tyX12_ok nmX12 hown hK hP hD hS 0 rfl rfl 0 (by decide) (hts (.fieldLink RX12 348 "OptimaWorksModel" "thrown" "I") (by decide +kernel)) (fun _ h9 => h9) rfl (by decide +kernel) rfl rfl (Nat.le_of_ble_eq_true rfl) dX12_areEnds_29 (fun H locs hP hD hS => ?_)
        have hP : va_P (dC, dI) vwCl (WR a k h0 (fT vi 0 2) vj vF vG) H := by rw [← WR_i 0 _ rfl]; exact hP
        have hD : va_D A (WR a k h0 (fT vi 0 2) vj vF vG) := by rw [← WR_i 0 _ rfl]; exact hD
        refine lv_aload_n hx hb dX12_areEnds_32 rfl (lv_at hl 0 rfl) ?_
        refine va_get (D := (dC, dI)) (ci := 12) (v := .int 2) (C := RX12) (T := TX12) (N := 163) (fs := fM (vS a (fT vi 0 2) vj)) hx hb hts iwsRX12_areEnds_in12 hown hK hP 0 rfl rfl 0 (by decide) (hts (.fieldLink RX12 348 "OptimaWorksModel" "thrown" "I") (by decide +kernel)) (fun _ h9 => h9) rfl dX12_areEnds_33 ?_
        refine lv_if_ne (tgt := 43) hx hb dX12_areEnds_36 (by decide) (fun _ => ?_) (fun c9 => absurd c9 (by decide))
        refine lv_iconst (v := 0) hx hb dX12_areEnds_43 (by decide) ?_
        refine W.widen (k := 0) (n := 0) (by decide +kernel) (by decide +kernel) ?_
        exact W.zret (v := 0) hx hb hr rfl (fun t9_ ht hW => ⟨⟨0, 2, rfl, by (try dsimp only); exact Or.inr ⟨rfl, Or.inr ⟨rfl, by omega, by omega⟩⟩, by rw [ht]; exact hP, hD⟩, hS.F ht⟩) hS.2.2 dX12_areEnds_44
    · refine lv_if_ne (tgt := 19) hx hb dX12_areEnds_12 (by decide) (fun c9 => absurd c9 (by decide)) (fun _ => ?_)
      refine lv_iconst (v := 1) hx hb dX12_areEnds_15 (by decide) ?_
      refine lv_goto (tgt := 29) hx hb dX12_areEnds_16 (by decide) ?_
      refine va_put (D := (dC, dI)) (ci := 12) (v := .int 1) (ty := .int) (C := RX12) (T := TX12) (N := 163) (fs := fM (vS a vi vj)) hx hb hts iwsRX12_areEnds_in12 tyX12 tyX12_ok nmX12 hown hK hP hD hS 0 rfl rfl 0 (by decide) (hts (.fieldLink RX12 348 "OptimaWorksModel" "thrown" "I") (by decide +kernel)) (fun _ h9 => h9) rfl (by decide +kernel) rfl rfl (Nat.le_of_ble_eq_true rfl) dX12_areEnds_29 (fun H locs hP hD hS => ?_)
      have hP : va_P (dC, dI) vwCl (WR a k h0 (fT vi 0 1) vj vF vG) H := by rw [← WR_i 0 _ rfl]; exact hP
      have hD : va_D A (WR a k h0 (fT vi 0 1) vj vF vG) := by rw [← WR_i 0 _ rfl]; exact hD
      refine lv_aload_n hx hb dX12_areEnds_32 rfl (lv_at hl 0 rfl) ?_
      refine va_get (D := (dC, dI)) (ci := 12) (v := .int 1) (C := RX12) (T := TX12) (N := 163) (fs := fM (vS a (fT vi 0 1) vj)) hx hb hts iwsRX12_areEnds_in12 hown hK hP 0 rfl rfl 0 (by decide) (hts (.fieldLink RX12 348 "OptimaWorksModel" "thrown" "I") (by decide +kernel)) (fun _ h9 => h9) rfl dX12_areEnds_33 ?_
      refine lv_if_ne (tgt := 43) hx hb dX12_areEnds_36 (by decide) (fun _ => ?_) (fun c9 => absurd c9 (by decide))
      refine lv_iconst (v := 0) hx hb dX12_areEnds_43 (by decide) ?_
      refine W.widen (k := 0) (n := 0) (by decide +kernel) (by decide +kernel) ?_
      exact W.zret (v := 0) hx hb hr rfl (fun t9_ ht hW => ⟨⟨0, 1, rfl, by (try dsimp only); exact Or.inr ⟨rfl, Or.inl ⟨rfl, by omega⟩⟩, by rw [ht]; exact hP, hD⟩, hS.F ht⟩) hS.2.2 dX12_areEnds_44
  · refine lv_if_eq (tgt := 15) hx hb dX12_areEnds_5 (by decide) (fun _ => ?_) (fun c9 => absurd (by decide) c9)
    refine lv_iconst (v := 1) hx hb dX12_areEnds_15 (by decide) ?_
    refine lv_goto (tgt := 29) hx hb dX12_areEnds_16 (by decide) ?_
    refine va_put (D := (dC, dI)) (ci := 12) (v := .int 1) (ty := .int) (C := RX12) (T := TX12) (N := 163) (fs := fM (vS a vi vj)) hx hb hts iwsRX12_areEnds_in12 tyX12 tyX12_ok nmX12 hown hK hP hD hS 0 rfl rfl 0 (by decide) (hts (.fieldLink RX12 348 "OptimaWorksModel" "thrown" "I") (by decide +kernel)) (fun _ h9 => h9) rfl (by decide +kernel) rfl rfl (Nat.le_of_ble_eq_true rfl) dX12_areEnds_29 (fun H locs hP hD hS => ?_)
    have hP : va_P (dC, dI) vwCl (WR a k h0 (fT vi 0 1) vj vF vG) H := by rw [← WR_i 0 _ rfl]; exact hP
    have hD : va_D A (WR a k h0 (fT vi 0 1) vj vF vG) := by rw [← WR_i 0 _ rfl]; exact hD
    refine lv_aload_n hx hb dX12_areEnds_32 rfl (lv_at hl 0 rfl) ?_
    refine va_get (D := (dC, dI)) (ci := 12) (v := .int 1) (C := RX12) (T := TX12) (N := 163) (fs := fM (vS a (fT vi 0 1) vj)) hx hb hts iwsRX12_areEnds_in12 hown hK hP 0 rfl rfl 0 (by decide) (hts (.fieldLink RX12 348 "OptimaWorksModel" "thrown" "I") (by decide +kernel)) (fun _ h9 => h9) rfl dX12_areEnds_33 ?_
    refine lv_if_ne (tgt := 43) hx hb dX12_areEnds_36 (by decide) (fun _ => ?_) (fun c9 => absurd c9 (by decide))
    refine lv_iconst (v := 0) hx hb dX12_areEnds_43 (by decide) ?_
    refine W.widen (k := 0) (n := 0) (by decide +kernel) (by decide +kernel) ?_
    exact W.zret (v := 0) hx hb hr rfl (fun t9_ ht hW => ⟨⟨0, 1, rfl, by (try dsimp only); exact Or.inr ⟨rfl, Or.inl ⟨rfl, by omega⟩⟩, by rw [ht]; exact hP, hD⟩, hS.F ht⟩) hS.2.2 dX12_areEnds_44
theorem dX12_link_0 : decode cX12_link 0 = .ok (.iconst (-1), 1) := dk_2 (by decide +kernel)
theorem dX12_link_1 : decode cX12_link 1 = .ok (.istore_n 3, 1) := dk_62 (by decide +kernel)
theorem dX12_link_2 : decode cX12_link 2 = .ok (.iconst 0, 1) := dk_3 (by decide +kernel)
theorem dX12_link_3 : decode cX12_link 3 = .ok (.istore 4, 2) := dk_54 (by decide +kernel)
theorem dX12_link_5 : decode cX12_link 5 = .ok (.iload 4, 2) := dk_21 (by decide +kernel)
theorem dX12_link_7 : decode cX12_link 7 = .ok (.aload_n 0, 1) := dk_42 (by decide +kernel)
theorem dX12_link_8 : decode cX12_link 8 = .ok (.getfield 1069, 3) := dk_180 (by decide +kernel)
theorem dX12_link_11 : decode cX12_link 11 = .ok (.if_icmp .ge 55, 3) := dk_162 (by decide +kernel)
theorem dX12_link_14 : decode cX12_link 14 = .ok (.aload_n 0, 1) := dk_42 (by decide +kernel)
theorem dX12_link_15 : decode cX12_link 15 = .ok (.getfield 312, 3) := dk_180 (by decide +kernel)
theorem dX12_link_18 : decode cX12_link 18 = .ok (.iload 4, 2) := dk_21 (by decide +kernel)
theorem dX12_link_20 : decode cX12_link 20 = .ok (.iaload, 1) := dk_46 (by decide +kernel)
theorem dX12_link_21 : decode cX12_link 21 = .ok (.iload_n 1, 1) := dk_27 (by decide +kernel)
theorem dX12_link_22 : decode cX12_link 22 = .ok (.if_icmp .ne 38, 3) := dk_160 (by decide +kernel)
theorem dX12_link_25 : decode cX12_link 25 = .ok (.aload_n 0, 1) := dk_42 (by decide +kernel)
theorem dX12_link_26 : decode cX12_link 26 = .ok (.getfield 315, 3) := dk_180 (by decide +kernel)
theorem dX12_link_29 : decode cX12_link 29 = .ok (.iload 4, 2) := dk_21 (by decide +kernel)
theorem dX12_link_31 : decode cX12_link 31 = .ok (.iaload, 1) := dk_46 (by decide +kernel)
theorem dX12_link_32 : decode cX12_link 32 = .ok (.iload_n 2, 1) := dk_28 (by decide +kernel)
theorem dX12_link_33 : decode cX12_link 33 = .ok (.if_icmp .ne 27, 3) := dk_160 (by decide +kernel)
theorem dX12_link_36 : decode cX12_link 36 = .ok (.iload_n 3, 1) := dk_29 (by decide +kernel)
theorem dX12_link_37 : decode cX12_link 37 = .ok (.iconst (-1), 1) := dk_2 (by decide +kernel)
theorem dX12_link_38 : decode cX12_link 38 = .ok (.if_icmp .eq 14, 3) := dk_159 (by decide +kernel)
theorem dX12_link_41 : decode cX12_link 41 = .ok (.aload_n 0, 1) := dk_42 (by decide +kernel)
theorem dX12_link_42 : decode cX12_link 42 = .ok (.getfield 321, 3) := dk_180 (by decide +kernel)
theorem dX12_link_45 : decode cX12_link 45 = .ok (.iload 4, 2) := dk_21 (by decide +kernel)
theorem dX12_link_47 : decode cX12_link 47 = .ok (.iaload, 1) := dk_46 (by decide +kernel)
theorem dX12_link_48 : decode cX12_link 48 = .ok (.iload_n 3, 1) := dk_29 (by decide +kernel)
theorem dX12_link_49 : decode cX12_link 49 = .ok (.if_icmp .ge 11, 3) := dk_162 (by decide +kernel)
theorem dX12_link_52 : decode cX12_link 52 = .ok (.aload_n 0, 1) := dk_42 (by decide +kernel)
theorem dX12_link_53 : decode cX12_link 53 = .ok (.getfield 321, 3) := dk_180 (by decide +kernel)
theorem dX12_link_56 : decode cX12_link 56 = .ok (.iload 4, 2) := dk_21 (by decide +kernel)
theorem dX12_link_58 : decode cX12_link 58 = .ok (.iaload, 1) := dk_46 (by decide +kernel)
theorem dX12_link_59 : decode cX12_link 59 = .ok (.istore_n 3, 1) := dk_62 (by decide +kernel)
theorem dX12_link_60 : decode cX12_link 60 = .ok (.iinc 4 1, 3) := dk_132 (by decide +kernel)
theorem dX12_link_63 : decode cX12_link 63 = .ok (.goto (-58), 3) := dk_167 (by decide +kernel)
theorem dX12_link_66 : decode cX12_link 66 = .ok (.iload_n 3, 1) := dk_29 (by decide +kernel)
theorem dX12_link_67 : decode cX12_link 67 = .ok (.ireturn, 1) := dk_172 (by decide +kernel)
def wsRX12_link : List Cond := .code yX12_link cX12_link 5 (some .int) :: ([.fieldLink RX12 1069 "OptimaWorksModel" "arcs" "I", .fieldLink RX12 312 "OptimaWorksModel" "arcFrom" "[I", .fieldLink RX12 315 "OptimaWorksModel" "arcTo" "[I", .fieldLink RX12 321 "OptimaWorksModel" "arcCost" "[I"] ++ wsX120)
theorem iwsRX12_link_in12 : ∀ w ∈ wsX120, w ∈ wsRX12_link := fun _ h => List.mem_cons_of_mem _ (List.mem_append_right _ h)
theorem gdwsRX12_link : wsRX12_link.all goodWord = true := gdC rfl (gdA (by decide +kernel : ([.fieldLink RX12 1069 "OptimaWorksModel" "arcs" "I", .fieldLink RX12 312 "OptimaWorksModel" "arcFrom" "[I", .fieldLink RX12 315 "OptimaWorksModel" "arcTo" "[I", .fieldLink RX12 321 "OptimaWorksModel" "arcCost" "[I"] : List Cond).all goodWord = true) gdwsX120)
set_option maxHeartbeats 4000000 in
set_option maxRecDepth 100000 in
/-- link(a, b) -/
theorem r_X12_link (l : Launch) (dC : Nat → ClassId) (dI : Nat → Nat → Nat) (a : Nat → Nat) (k : Nat → ClassId) (h0 : Nat) (vi : Nat → Int32) (vj : Nat → Int64) (vF : Nat → Nat → Int32) (vG : Nat → Nat → Int64) (aI : Int32) (bJ : Int32) (ar : Nat) (har : vi 150 = nI ar) (har40 : ar ≤ 40) (hAr : ArO (vF 95) (vF 96) (vF 97) (vF 98) ar) (ha0 : 0 ≤ (aI).toInt) (hb0 : 0 ≤ (bJ).toInt) (sz : Nat) : Met l yX12_link wsRX12_link ({ frames := 0, cells := 0, slots := 0, locals := 0 }) (va_Pc [.ref h0, .int aI, .int bJ] (fun U => U.heap.size = sz ∧ va_P (dC, dI) vwCl (WR a k h0 vi vj vF vG) U.heap ∧ va_K (dC, dI) vwCl (tX12 k) U ∧ va_D (fun _ => True) (WR a k h0 vi vj vF vG))) (va_Qi (fun (r : Int32) (u : Unit) => (tuE r (tuL (((ar : Nat) : Int), vF 95, vF 96, vF 97, vF 98) (aI).toInt.toNat (bJ).toInt.toNat ar))) (fun (u : Unit) t => va_P (dC, dI) vwCl (WR a k h0 vi vj vF vG) t.heap ∧ va_D (va_A (WR a k h0 vi vj vF vG) sz) (WR a k h0 vi vj vF vG)) (va_A (WR a k h0 vi vj vF vG) sz)) 0 0 (va_A (WR a k h0 vi vj vF vG) sz) := by
  refine Met.ofW (cc := cX12_link) (maxL := 5) (ret := (some .int)) (by decide) rfl ?_
  intro p e s m args below meth c s₁ B hml hv
  obtain ⟨rfl, hsz, hP, hK, hD0⟩ := hv
  have hx := B.exec
  have hb := B.bytes
  have hr := B.returns
  have hts := atoms_spec (ws := wsRX12_link) B.pre
  have hown : s.vm.findClass RX12 = some m.cls := findClass_of_methodNamed B.named
  have hlocks := B.notSynchronized
  subst hsz
  have hD := hD0.self (sz := s.heap.size)
  generalize hAe : va_A (WR a k h0 vi vj vF vG) s.heap.size = A at hD ⊢
  have hA : ∀ q : Nat, s.heap.size ≤ q → A q := fun q h => by rw [← hAe]; exact Or.inr h
  have hS : va_S A s.heap s.heap [] := va_S.rf
  have hl := lv_entry ([.ref h0, .int aI, .int bJ]) (n := 5) (Nat.le_of_ble_eq_true rfl)
  rw [lg_entry_eq]
  generalize (lg_sl ([.ref h0, .int aI, .int bJ]) ++ List.replicate (5 - (lg_sl ([.ref h0, .int aI, .int bJ])).length) Slot.unset).toArray = ls at hl ⊢
  have hl : lv_has ls 5 [(0, .ref h0), (1, .int aI), (2, .int bJ)] := hl
  refine lv_iconst (v := (-1)) hx hb dX12_link_0 (by decide) ?_
  refine lv_istore_n hx hb dX12_link_1 rfl hl (by decide) rfl (fun ls (hl : lv_has ls _ ([(3, .int (-1)), (0, .ref h0), (1, .int aI), (2, .int bJ)])) => ?_)
  refine lv_iconst (v := 0) hx hb dX12_link_2 (by decide) ?_
  refine lv_istore hx hb dX12_link_3 hl (by decide) rfl (fun ls (hl : lv_has ls _ ([(4, .int 0), (3, .int (-1)), (0, .ref h0), (1, .int aI), (2, .int bJ)])) => ?_)
  have hl : lv_has _ _ ([(0, .ref h0), (1, .int aI), (2, .int bJ), (3, .int (-1)), (4, .int (nI 0))]) := lv_sub hl [2, 3, 4, 1, 0] rfl
  refine (fun (loop : ∀ (n9 : Nat) (k5 : Nat) (cq : Int32) (H : Heap) (locs : List Loc) (ls : Array Slot), (k5 ≤ ar) → (tuE cq (tuL (((ar : Nat) : Int), vF 95, vF 96, vF 97, vF 98) (aI).toInt.toNat (bJ).toInt.toNat k5)) →  (ar < k5 + n9) → va_P (dC, dI) vwCl (WR a k h0 vi vj vF vG) H → va_D A (WR a k h0 vi vj vF vG) → va_S A s.heap H locs → lv_has ls 5 [(0, .ref h0), (1, .int aI), (2, .int bJ), (3, .int cq), (4, .int (nI k5))] → W p l e _ s m _ below meth c H locs 0 0 _ (F0 m 5 ls [])) => loop (ar + 1) 0 (-1) _ _ _ (by omega) (Or.inl ⟨by decide, rfl⟩) (by omega) hP hD hS hl) ?_
  intro n9
  induction n9 with
  | zero => intro k5 cq H locs ls hk5 hcq hf9; exact False.elim (by omega)
  | succ n9 ih5 =>
    intro k5 cq H locs ls hk5 hcq hf5 hP hD hS hl
    refine lv_iload hx hb dX12_link_5 (lv_at hl 4 rfl) ?_
    refine lv_aload_n hx hb dX12_link_7 rfl (lv_at hl 0 rfl) ?_
    refine va_get (D := (dC, dI)) (ci := 12) (v := .int (vi 150)) (C := RX12) (T := TX12) (N := 163) (fs := fM (vS a vi vj)) hx hb hts iwsRX12_link_in12 hown hK hP 0 rfl rfl 150 (by decide) (hts (.fieldLink RX12 1069 "OptimaWorksModel" "arcs" "I") (by decide +kernel)) (fun _ h9 => h9) rfl dX12_link_8 ?_
    refine lv_topi (fun y1 hy1 => ?_)
    obtain rfl : (nI ar) = y1 := (hy1.trans (har)).symm
    refine lv_icmp_ge (tgt := 66) hx hb dX12_link_11 (by decide) (fun c_11 => ?_) (fun c_11 => ?_)
    · have t_11 : ((k5 : Nat) : Int) ≥ ((ar : Nat) : Int) := toI_ge c_11 (nI_toInt (by omega)) (nI_toInt (by omega))
      refine lv_iload_n hx hb dX12_link_66 rfl (lv_at hl 3 rfl) ?_
      refine W.widen (k := 0) (n := 0) (by decide +kernel) (by decide +kernel) ?_
      exact W.iret (v := cq) hx hb hr (fun t9_ ht hW => ⟨⟨cq, (), rfl, by (try dsimp only); (have e9 : k5 = ar := (by omega)); rw [e9] at hcq; exact hcq, by rw [ht]; exact hP, hD⟩, hS.F ht⟩) hS.2.2 dX12_link_67
    · have t_11 : ¬ ((k5 : Nat) : Int) ≥ ((ar : Nat) : Int) := toI_nge c_11 (nI_toInt (by omega)) (nI_toInt (by omega))
      obtain ⟨x5, y5, hx5, hy5, hxy5, ex5, ey5, hr5, hc5⟩ := hAr k5 (by omega)
      have hf5 : 0 ≤ (vF 95 k5).toInt := by rw [ex5, nI_toInt (by omega)]; omega
      have ht5 : 0 ≤ (vF 96 k5).toInt := by rw [ey5, nI_toInt (by omega)]; omega
      refine lv_aload_n hx hb dX12_link_14 rfl (lv_at hl 0 rfl) ?_
      refine va_get (D := (dC, dI)) (ci := 12) (v := .ref (a 95)) (C := RX12) (T := TX12) (N := 163) (fs := fM (vS a vi vj)) hx hb hts iwsRX12_link_in12 hown hK hP 0 rfl rfl 151 (by decide) (hts (.fieldLink RX12 312 "OptimaWorksModel" "arcFrom" "[I") (by decide +kernel)) (fun _ h9 => h9) rfl dX12_link_15 ?_
      refine lv_iload hx hb dX12_link_18 (lv_at hl 4 rfl) ?_
      refine va_iald (cA := k 95) (n := 40) (f := (vF 95)) hx hb hK hP 96 95 (WR_get 95 (by decide)) (TR_get 95 (by decide)) (vp_in_nI (show k5 < 40 by omega) (by omega)) dX12_link_20 ?_
      refine lv_topi (fun y2 hy2 => ?_)
      obtain rfl : ((vF 95) k5) = y2 := (hy2.trans (by rw [nI_clamp (by omega)])).symm
      refine lv_iload_n hx hb dX12_link_21 rfl (lv_at hl 1 rfl) ?_
      refine lv_icmp_ne (tgt := 60) hx hb dX12_link_22 (by decide) (fun c_22 => ?_) (fun c_22 => ?_)
      · have t_22 : (((vF 95) k5)).toInt ≠ (aI).toInt := toI_ne c_22 rfl rfl
        refine lv_iinc (v := (nI (k5 + 1))) hx hb dX12_link_60 hl (k := 4) rfl (nI_add k5 1) (by decide) rfl (fun ls (hl : lv_has ls _ ([(4, .int (nI (k5 + 1))), (0, .ref h0), (1, .int aI), (2, .int bJ), (3, .int cq)])) => ?_)
        refine lv_goto (tgt := 5) hx hb dX12_link_63 (by decide) ?_
        have hl : lv_has _ _ ([(0, .ref h0), (1, .int aI), (2, .int bJ), (3, .int cq), (4, .int (nI (k5 + 1)))]) := lv_sub hl [1, 2, 3, 4, 0] rfl
        exact ih5 (k5 + 1) cq _ _ _ (by omega) (hcq.no1 ha0 hf5 t_22) (by omega) hP hD hS hl
      · have t_22 : (((vF 95) k5)).toInt = (aI).toInt := toI_nne c_22 rfl rfl
        refine lv_aload_n hx hb dX12_link_25 rfl (lv_at hl 0 rfl) ?_
        refine va_get (D := (dC, dI)) (ci := 12) (v := .ref (a 96)) (C := RX12) (T := TX12) (N := 163) (fs := fM (vS a vi vj)) hx hb hts iwsRX12_link_in12 hown hK hP 0 rfl rfl 152 (by decide) (hts (.fieldLink RX12 315 "OptimaWorksModel" "arcTo" "[I") (by decide +kernel)) (fun _ h9 => h9) rfl dX12_link_26 ?_
        refine lv_iload hx hb dX12_link_29 (lv_at hl 4 rfl) ?_
        refine va_iald (cA := k 96) (n := 40) (f := (vF 96)) hx hb hK hP 97 96 (WR_get 96 (by decide)) (TR_get 96 (by decide)) (vp_in_nI (show k5 < 40 by omega) (by omega)) dX12_link_31 ?_
        refine lv_topi (fun y3 hy3 => ?_)
        obtain rfl : ((vF 96) k5) = y3 := (hy3.trans (by rw [nI_clamp (by omega)])).symm
        refine lv_iload_n hx hb dX12_link_32 rfl (lv_at hl 2 rfl) ?_
        refine lv_icmp_ne (tgt := 60) hx hb dX12_link_33 (by decide) (fun c_33 => ?_) (fun c_33 => ?_)
        · have t_33 : (((vF 96) k5)).toInt ≠ (bJ).toInt := toI_ne c_33 rfl rfl
          refine lv_iinc (v := (nI (k5 + 1))) hx hb dX12_link_60 hl (k := 4) rfl (nI_add k5 1) (by decide) rfl (fun ls (hl : lv_has ls _ ([(4, .int (nI (k5 + 1))), (0, .ref h0), (1, .int aI), (2, .int bJ), (3, .int cq)])) => ?_)
          refine lv_goto (tgt := 5) hx hb dX12_link_63 (by decide) ?_
          have hl : lv_has _ _ ([(0, .ref h0), (1, .int aI), (2, .int bJ), (3, .int cq), (4, .int (nI (k5 + 1)))]) := lv_sub hl [1, 2, 3, 4, 0] rfl
          exact ih5 (k5 + 1) cq _ _ _ (by omega) (hcq.no2 hb0 ht5 t_33) (by omega) hP hD hS hl
        · have t_33 : (((vF 96) k5)).toInt = (bJ).toInt := toI_nne c_33 rfl rfl
          refine lv_iload_n hx hb dX12_link_36 rfl (lv_at hl 3 rfl) ?_
          refine lv_iconst (v := (-1)) hx hb dX12_link_37 (by decide) ?_
          refine lv_icmp_eq (tgt := 52) hx hb dX12_link_38 (by decide) (fun c_38 => ?_) (fun c_38 => ?_)
          · have t_38 : (cq).toInt = -1 := toI_eq c_38 rfl (by decide)
            refine lv_aload_n hx hb dX12_link_52 rfl (lv_at hl 0 rfl) ?_
            refine va_get (D := (dC, dI)) (ci := 12) (v := .ref (a 98)) (C := RX12) (T := TX12) (N := 163) (fs := fM (vS a vi vj)) hx hb hts iwsRX12_link_in12 hown hK hP 0 rfl rfl 154 (by decide) (hts (.fieldLink RX12 321 "OptimaWorksModel" "arcCost" "[I") (by decide +kernel)) (fun _ h9 => h9) rfl dX12_link_53 ?_
            refine lv_iload hx hb dX12_link_56 (lv_at hl 4 rfl) ?_
            refine va_iald (cA := k 98) (n := 40) (f := (vF 98)) hx hb hK hP 99 98 (WR_get 98 (by decide)) (TR_get 98 (by decide)) (vp_in_nI (show k5 < 40 by omega) (by omega)) dX12_link_58 ?_
            refine lv_topi (fun y4 hy4 => ?_)
            obtain rfl : ((vF 98) k5) = y4 := (hy4.trans (by rw [nI_clamp (by omega)])).symm
            refine lv_istore_n hx hb dX12_link_59 rfl hl (by decide) rfl (fun ls (hl : lv_has ls _ ([(3, .int ((vF 98) k5)), (0, .ref h0), (1, .int aI), (2, .int bJ), (4, .int (nI k5))])) => ?_)
            refine lv_iinc (v := (nI (k5 + 1))) hx hb dX12_link_60 hl (k := 4) rfl (nI_add k5 1) (by decide) rfl (fun ls (hl : lv_has ls _ ([(4, .int (nI (k5 + 1))), (3, .int ((vF 98) k5)), (0, .ref h0), (1, .int aI), (2, .int bJ)])) => ?_)
            refine lv_goto (tgt := 5) hx hb dX12_link_63 (by decide) ?_
            have hl : lv_has _ _ ([(0, .ref h0), (1, .int aI), (2, .int bJ), (3, .int ((vF 98) k5)), (4, .int (nI (k5 + 1)))]) := lv_sub hl [2, 3, 4, 1, 0] rfl
            exact ih5 (k5 + 1) ((vF 98) k5) _ _ _ (by omega) (hcq.take t_22 t_33 hc5 (Or.inl t_38)) (by omega) hP hD hS hl
          · have t_38 : ¬ (cq).toInt = -1 := toI_neq c_38 rfl (by decide)
            refine lv_aload_n hx hb dX12_link_41 rfl (lv_at hl 0 rfl) ?_
            refine va_get (D := (dC, dI)) (ci := 12) (v := .ref (a 98)) (C := RX12) (T := TX12) (N := 163) (fs := fM (vS a vi vj)) hx hb hts iwsRX12_link_in12 hown hK hP 0 rfl rfl 154 (by decide) (hts (.fieldLink RX12 321 "OptimaWorksModel" "arcCost" "[I") (by decide +kernel)) (fun _ h9 => h9) rfl dX12_link_42 ?_
            refine lv_iload hx hb dX12_link_45 (lv_at hl 4 rfl) ?_
            refine va_iald (cA := k 98) (n := 40) (f := (vF 98)) hx hb hK hP 99 98 (WR_get 98 (by decide)) (TR_get 98 (by decide)) (vp_in_nI (show k5 < 40 by omega) (by omega)) dX12_link_47 ?_
            refine lv_topi (fun y5 hy5 => ?_)
            obtain rfl : ((vF 98) k5) = y5 := (hy5.trans (by rw [nI_clamp (by omega)])).symm
            refine lv_iload_n hx hb dX12_link_48 rfl (lv_at hl 3 rfl) ?_
            refine lv_icmp_ge (tgt := 60) hx hb dX12_link_49 (by decide) (fun c_49 => ?_) (fun c_49 => ?_)
            · have t_49 : (((vF 98) k5)).toInt ≥ (cq).toInt := toI_ge c_49 rfl rfl
              refine lv_iinc (v := (nI (k5 + 1))) hx hb dX12_link_60 hl (k := 4) rfl (nI_add k5 1) (by decide) rfl (fun ls (hl : lv_has ls _ ([(4, .int (nI (k5 + 1))), (0, .ref h0), (1, .int aI), (2, .int bJ), (3, .int cq)])) => ?_)
              refine lv_goto (tgt := 5) hx hb dX12_link_63 (by decide) ?_
              have hl : lv_has _ _ ([(0, .ref h0), (1, .int aI), (2, .int bJ), (3, .int cq), (4, .int (nI (k5 + 1)))]) := lv_sub hl [1, 2, 3, 4, 0] rfl
              exact ih5 (k5 + 1) cq _ _ _ (by omega) (hcq.keep t_22 t_33 t_38 t_49) (by omega) hP hD hS hl
            · have t_49 : ¬ (((vF 98) k5)).toInt ≥ (cq).toInt := toI_nge c_49 rfl rfl
              refine lv_aload_n hx hb dX12_link_52 rfl (lv_at hl 0 rfl) ?_
              refine va_get (D := (dC, dI)) (ci := 12) (v := .ref (a 98)) (C := RX12) (T := TX12) (N := 163) (fs := fM (vS a vi vj)) hx hb hts iwsRX12_link_in12 hown hK hP 0 rfl rfl 154 (by decide) (hts (.fieldLink RX12 321 "OptimaWorksModel" "arcCost" "[I") (by decide +kernel)) (fun _ h9 => h9) rfl dX12_link_53 ?_
              refine lv_iload hx hb dX12_link_56 (lv_at hl 4 rfl) ?_
              refine va_iald (cA := k 98) (n := 40) (f := (vF 98)) hx hb hK hP 99 98 (WR_get 98 (by decide)) (TR_get 98 (by decide)) (vp_in_nI (show k5 < 40 by omega) (by omega)) dX12_link_58 ?_
              refine lv_topi (fun y6 hy6 => ?_)
              obtain rfl : ((vF 98) k5) = y6 := (hy6.trans (by rw [nI_clamp (by omega)])).symm
              refine lv_istore_n hx hb dX12_link_59 rfl hl (by decide) rfl (fun ls (hl : lv_has ls _ ([(3, .int ((vF 98) k5)), (0, .ref h0), (1, .int aI), (2, .int bJ), (4, .int (nI k5))])) => ?_)
              refine lv_iinc (v := (nI (k5 + 1))) hx hb dX12_link_60 hl (k := 4) rfl (nI_add k5 1) (by decide) rfl (fun ls (hl : lv_has ls _ ([(4, .int (nI (k5 + 1))), (3, .int ((vF 98) k5)), (0, .ref h0), (1, .int aI), (2, .int bJ)])) => ?_)
              refine lv_goto (tgt := 5) hx hb dX12_link_63 (by decide) ?_
              have hl : lv_has _ _ ([(0, .ref h0), (1, .int aI), (2, .int bJ), (3, .int ((vF 98) k5)), (4, .int (nI (k5 + 1)))]) := lv_sub hl [2, 3, 4, 1, 0] rfl
              exact ih5 (k5 + 1) ((vF 98) k5) _ _ _ (by omega) (hcq.take t_22 t_33 hc5 (Or.inr t_49)) (by omega) hP hD hS hl
theorem dX12_tree_0 : decode cX12_tree 0 = .ok (.aload_n 0, 1) := dk_42 (by decide +kernel)
theorem dX12_tree_1 : decode cX12_tree 1 = .ok (.iconst 0, 1) := dk_3 (by decide +kernel)
theorem dX12_tree_2 : decode cX12_tree 2 = .ok (.putfield 348, 3) := dk_181 (by decide +kernel)
theorem dX12_tree_5 : decode cX12_tree 5 = .ok (.iconst 0, 1) := dk_3 (by decide +kernel)
theorem dX12_tree_6 : decode cX12_tree 6 = .ok (.istore_n 1, 1) := dk_60 (by decide +kernel)
theorem dX12_tree_7 : decode cX12_tree 7 = .ok (.iload_n 1, 1) := dk_27 (by decide +kernel)
theorem dX12_tree_8 : decode cX12_tree 8 = .ok (.bipush 12, 2) := dk_16 (by decide +kernel)
theorem dX12_tree_10 : decode cX12_tree 10 = .ok (.if_icmp .ge 16, 3) := dk_162 (by decide +kernel)
theorem dX12_tree_13 : decode cX12_tree 13 = .ok (.aload_n 0, 1) := dk_42 (by decide +kernel)
theorem dX12_tree_14 : decode cX12_tree 14 = .ok (.getfield 336, 3) := dk_180 (by decide +kernel)
theorem dX12_tree_17 : decode cX12_tree 17 = .ok (.iload_n 1, 1) := dk_27 (by decide +kernel)
theorem dX12_tree_18 : decode cX12_tree 18 = .ok (.iload_n 1, 1) := dk_27 (by decide +kernel)
theorem dX12_tree_19 : decode cX12_tree 19 = .ok (.iastore, 1) := dk_79 (by decide +kernel)
theorem dX12_tree_20 : decode cX12_tree 20 = .ok (.iinc 1 1, 3) := dk_132 (by decide +kernel)
theorem dX12_tree_23 : decode cX12_tree 23 = .ok (.goto (-16), 3) := dk_167 (by decide +kernel)
theorem dX12_tree_26 : decode cX12_tree 26 = .ok (.lconst 0, 1) := dk_9 (by decide +kernel)
theorem dX12_tree_27 : decode cX12_tree 27 = .ok (.lstore_n 1, 1) := dk_64 (by decide +kernel)
theorem dX12_tree_28 : decode cX12_tree 28 = .ok (.iconst 0, 1) := dk_3 (by decide +kernel)
theorem dX12_tree_29 : decode cX12_tree 29 = .ok (.istore_n 3, 1) := dk_62 (by decide +kernel)
theorem dX12_tree_30 : decode cX12_tree 30 = .ok (.iload_n 3, 1) := dk_29 (by decide +kernel)
theorem dX12_tree_31 : decode cX12_tree 31 = .ok (.sipush 1000, 3) := dk_17 (by decide +kernel)
theorem dX12_tree_34 : decode cX12_tree 34 = .ok (.if_icmp .gt 130, 3) := dk_163 (by decide +kernel)
theorem dX12_tree_37 : decode cX12_tree 37 = .ok (.iconst 0, 1) := dk_3 (by decide +kernel)
theorem dX12_tree_38 : decode cX12_tree 38 = .ok (.istore 4, 2) := dk_54 (by decide +kernel)
theorem dX12_tree_40 : decode cX12_tree 40 = .ok (.iload 4, 2) := dk_21 (by decide +kernel)
theorem dX12_tree_42 : decode cX12_tree 42 = .ok (.aload_n 0, 1) := dk_42 (by decide +kernel)
theorem dX12_tree_43 : decode cX12_tree 43 = .ok (.getfield 1069, 3) := dk_180 (by decide +kernel)
theorem dX12_tree_46 : decode cX12_tree 46 = .ok (.if_icmp .ge 112, 3) := dk_162 (by decide +kernel)
theorem dX12_tree_49 : decode cX12_tree 49 = .ok (.aload_n 0, 1) := dk_42 (by decide +kernel)
theorem dX12_tree_50 : decode cX12_tree 50 = .ok (.getfield 336, 3) := dk_180 (by decide +kernel)
theorem dX12_tree_53 : decode cX12_tree 53 = .ok (.aload_n 0, 1) := dk_42 (by decide +kernel)
theorem dX12_tree_54 : decode cX12_tree 54 = .ok (.getfield 312, 3) := dk_180 (by decide +kernel)
theorem dX12_tree_57 : decode cX12_tree 57 = .ok (.iload 4, 2) := dk_21 (by decide +kernel)
theorem dX12_tree_59 : decode cX12_tree 59 = .ok (.iaload, 1) := dk_46 (by decide +kernel)
theorem dX12_tree_60 : decode cX12_tree 60 = .ok (.iaload, 1) := dk_46 (by decide +kernel)
theorem dX12_tree_61 : decode cX12_tree 61 = .ok (.istore 5, 2) := dk_54 (by decide +kernel)
theorem dX12_tree_63 : decode cX12_tree 63 = .ok (.aload_n 0, 1) := dk_42 (by decide +kernel)
theorem dX12_tree_64 : decode cX12_tree 64 = .ok (.getfield 336, 3) := dk_180 (by decide +kernel)
theorem dX12_tree_67 : decode cX12_tree 67 = .ok (.aload_n 0, 1) := dk_42 (by decide +kernel)
theorem dX12_tree_68 : decode cX12_tree 68 = .ok (.getfield 315, 3) := dk_180 (by decide +kernel)
theorem dX12_tree_71 : decode cX12_tree 71 = .ok (.iload 4, 2) := dk_21 (by decide +kernel)
theorem dX12_tree_73 : decode cX12_tree 73 = .ok (.iaload, 1) := dk_46 (by decide +kernel)
theorem dX12_tree_74 : decode cX12_tree 74 = .ok (.iaload, 1) := dk_46 (by decide +kernel)
theorem dX12_tree_75 : decode cX12_tree 75 = .ok (.istore 6, 2) := dk_54 (by decide +kernel)
theorem dX12_tree_77 : decode cX12_tree 77 = .ok (.aload_n 0, 1) := dk_42 (by decide +kernel)
theorem dX12_tree_78 : decode cX12_tree 78 = .ok (.getfield 321, 3) := dk_180 (by decide +kernel)
theorem dX12_tree_81 : decode cX12_tree 81 = .ok (.iload 4, 2) := dk_21 (by decide +kernel)
theorem dX12_tree_83 : decode cX12_tree 83 = .ok (.iaload, 1) := dk_46 (by decide +kernel)
theorem dX12_tree_84 : decode cX12_tree 84 = .ok (.iload_n 3, 1) := dk_29 (by decide +kernel)
theorem dX12_tree_85 : decode cX12_tree 85 = .ok (.if_icmp .ne 67, 3) := dk_160 (by decide +kernel)
theorem dX12_tree_88 : decode cX12_tree 88 = .ok (.iload 5, 2) := dk_21 (by decide +kernel)
theorem dX12_tree_90 : decode cX12_tree 90 = .ok (.iload 6, 2) := dk_21 (by decide +kernel)
theorem dX12_tree_92 : decode cX12_tree 92 = .ok (.if_icmp .ne 6, 3) := dk_160 (by decide +kernel)
theorem dX12_tree_95 : decode cX12_tree 95 = .ok (.goto 57, 3) := dk_167 (by decide +kernel)
theorem dX12_tree_98 : decode cX12_tree 98 = .ok (.lload_n 1, 1) := dk_31 (by decide +kernel)
theorem dX12_tree_99 : decode cX12_tree 99 = .ok (.lconst 1, 1) := dk_10 (by decide +kernel)
theorem dX12_tree_100 : decode cX12_tree 100 = .ok (.iload 4, 2) := dk_21 (by decide +kernel)
theorem dX12_tree_102 : decode cX12_tree 102 = .ok (.lshl, 1) := dk_121 (by decide +kernel)
theorem dX12_tree_103 : decode cX12_tree 103 = .ok (.lor, 1) := dk_129 (by decide +kernel)
theorem dX12_tree_104 : decode cX12_tree 104 = .ok (.lstore_n 1, 1) := dk_64 (by decide +kernel)
theorem dX12_tree_105 : decode cX12_tree 105 = .ok (.iconst 0, 1) := dk_3 (by decide +kernel)
theorem dX12_tree_106 : decode cX12_tree 106 = .ok (.istore 7, 2) := dk_54 (by decide +kernel)
theorem dX12_tree_108 : decode cX12_tree 108 = .ok (.iload 7, 2) := dk_21 (by decide +kernel)
theorem dX12_tree_110 : decode cX12_tree 110 = .ok (.bipush 12, 2) := dk_16 (by decide +kernel)
theorem dX12_tree_112 : decode cX12_tree 112 = .ok (.if_icmp .ge 40, 3) := dk_162 (by decide +kernel)
theorem dX12_tree_115 : decode cX12_tree 115 = .ok (.aload_n 0, 1) := dk_42 (by decide +kernel)
theorem dX12_tree_116 : decode cX12_tree 116 = .ok (.getfield 336, 3) := dk_180 (by decide +kernel)
theorem dX12_tree_119 : decode cX12_tree 119 = .ok (.iload 7, 2) := dk_21 (by decide +kernel)
theorem dX12_tree_121 : decode cX12_tree 121 = .ok (.aload_n 0, 1) := dk_42 (by decide +kernel)
theorem dX12_tree_122 : decode cX12_tree 122 = .ok (.getfield 336, 3) := dk_180 (by decide +kernel)
theorem dX12_tree_125 : decode cX12_tree 125 = .ok (.iload 7, 2) := dk_21 (by decide +kernel)
theorem dX12_tree_127 : decode cX12_tree 127 = .ok (.iaload, 1) := dk_46 (by decide +kernel)
theorem dX12_tree_128 : decode cX12_tree 128 = .ok (.iload 6, 2) := dk_21 (by decide +kernel)
theorem dX12_tree_130 : decode cX12_tree 130 = .ok (.if_icmp .ne 8, 3) := dk_160 (by decide +kernel)
theorem dX12_tree_133 : decode cX12_tree 133 = .ok (.iload 5, 2) := dk_21 (by decide +kernel)
theorem dX12_tree_135 : decode cX12_tree 135 = .ok (.goto 10, 3) := dk_167 (by decide +kernel)
theorem dX12_tree_138 : decode cX12_tree 138 = .ok (.aload_n 0, 1) := dk_42 (by decide +kernel)
theorem dX12_tree_139 : decode cX12_tree 139 = .ok (.getfield 336, 3) := dk_180 (by decide +kernel)
theorem dX12_tree_142 : decode cX12_tree 142 = .ok (.iload 7, 2) := dk_21 (by decide +kernel)
theorem dX12_tree_144 : decode cX12_tree 144 = .ok (.iaload, 1) := dk_46 (by decide +kernel)
theorem dX12_tree_145 : decode cX12_tree 145 = .ok (.iastore, 1) := dk_79 (by decide +kernel)
theorem dX12_tree_146 : decode cX12_tree 146 = .ok (.iinc 7 1, 3) := dk_132 (by decide +kernel)
theorem dX12_tree_149 : decode cX12_tree 149 = .ok (.goto (-41), 3) := dk_167 (by decide +kernel)
theorem dX12_tree_152 : decode cX12_tree 152 = .ok (.iinc 4 1, 3) := dk_132 (by decide +kernel)
theorem dX12_tree_155 : decode cX12_tree 155 = .ok (.goto (-115), 3) := dk_167 (by decide +kernel)
theorem dX12_tree_158 : decode cX12_tree 158 = .ok (.iinc 3 1, 3) := dk_132 (by decide +kernel)
theorem dX12_tree_161 : decode cX12_tree 161 = .ok (.goto (-131), 3) := dk_167 (by decide +kernel)
theorem dX12_tree_164 : decode cX12_tree 164 = .ok (.lload_n 1, 1) := dk_31 (by decide +kernel)
theorem dX12_tree_165 : decode cX12_tree 165 = .ok (.lreturn, 1) := dk_173 (by decide +kernel)
def wsRX12_tree : List Cond := .code yX12_tree cX12_tree 8 (some .long) :: ([.fieldLink RX12 348 "OptimaWorksModel" "thrown" "I", .fieldLink RX12 1069 "OptimaWorksModel" "arcs" "I", .fieldLink RX12 336 "OptimaWorksModel" "joined" "[I", .fieldLink RX12 312 "OptimaWorksModel" "arcFrom" "[I", .fieldLink RX12 315 "OptimaWorksModel" "arcTo" "[I", .fieldLink RX12 321 "OptimaWorksModel" "arcCost" "[I"] ++ wsX120)
theorem iwsRX12_tree_in12 : ∀ w ∈ wsX120, w ∈ wsRX12_tree := fun _ h => List.mem_cons_of_mem _ (List.mem_append_right _ h)
theorem gdwsRX12_tree : wsRX12_tree.all goodWord = true := gdC rfl (gdA (by decide +kernel : ([.fieldLink RX12 348 "OptimaWorksModel" "thrown" "I", .fieldLink RX12 1069 "OptimaWorksModel" "arcs" "I", .fieldLink RX12 336 "OptimaWorksModel" "joined" "[I", .fieldLink RX12 312 "OptimaWorksModel" "arcFrom" "[I", .fieldLink RX12 315 "OptimaWorksModel" "arcTo" "[I", .fieldLink RX12 321 "OptimaWorksModel" "arcCost" "[I"] : List Cond).all goodWord = true) gdwsX120)
set_option maxHeartbeats 4000000 in
set_option maxRecDepth 100000 in
/-- tree() -/
theorem r_X12_tree (l : Launch) (dC : Nat → ClassId) (dI : Nat → Nat → Nat) (a : Nat → Nat) (k : Nat → ClassId) (h0 : Nat) (vi : Nat → Int32) (vj : Nat → Int64) (vF : Nat → Nat → Int32) (vG : Nat → Nat → Int64) (ar : Nat) (har : vi 150 = nI ar) (har40 : ar ≤ 40) (hAr : ArO (vF 95) (vF 96) (vF 97) (vF 98) ar) (sz : Nat) : Met l yX12_tree wsRX12_tree ({ frames := 0, cells := 0, slots := 0, locals := 0 }) (va_Pc [.ref h0] (fun U => U.heap.size = sz ∧ va_P (dC, dI) vwCl (WR a k h0 vi vj vF vG) U.heap ∧ va_K (dC, dI) vwCl (tX12 k) U ∧ va_D (fun _ => True) (WR a k h0 vi vj vF vG))) (va_Ql (fun (r : Int64) (u : Nat → Int32) => (tAll (((ar : Nat) : Int), vF 95, vF 96, vF 97, vF 98) r)) (fun (u : Nat → Int32) t => va_P (dC, dI) vwCl (WR a k h0 (fT vi 0 0) vj (fT vF 103 u) vG) t.heap ∧ va_D (va_A (WR a k h0 vi vj vF vG) sz) (WR a k h0 (fT vi 0 0) vj (fT vF 103 u) vG)) (va_A (WR a k h0 vi vj vF vG) sz)) 0 0 (va_A (WR a k h0 vi vj vF vG) sz) := by
  refine Met.ofW (cc := cX12_tree) (maxL := 8) (ret := (some .long)) (by decide) rfl ?_
  intro p e s m args below meth c s₁ B hml hv
  obtain ⟨rfl, hsz, hP, hK, hD0⟩ := hv
  have hx := B.exec
  have hb := B.bytes
  have hr := B.returns
  have hts := atoms_spec (ws := wsRX12_tree) B.pre
  have hown : s.vm.findClass RX12 = some m.cls := findClass_of_methodNamed B.named
  have hlocks := B.notSynchronized
  subst hsz
  have hD := hD0.self (sz := s.heap.size)
  generalize hAe : va_A (WR a k h0 vi vj vF vG) s.heap.size = A at hD ⊢
  have hA : ∀ q : Nat, s.heap.size ≤ q → A q := fun q h => by rw [← hAe]; exact Or.inr h
  have hS : va_S A s.heap s.heap [] := va_S.rf
  have hl := lv_entry ([.ref h0]) (n := 8) (Nat.le_of_ble_eq_true rfl)
  rw [lg_entry_eq]
  generalize (lg_sl ([.ref h0]) ++ List.replicate (8 - (lg_sl ([.ref h0])).length) Slot.unset).toArray = ls at hl ⊢
  have hl : lv_has ls 8 [(0, .ref h0)] := hl
  refine lv_aload_n hx hb dX12_tree_0 rfl (lv_at hl 0 rfl) ?_
  refine lv_iconst (v := 0) hx hb dX12_tree_1 (by decide) ?_
  refine va_put (D := (dC, dI)) (ci := 12) (v := .int 0) (ty := .int) (C := RX12) (T := TX12) (N := 163) (fs := fM (vS a vi vj)) hx hb hts iwsRX12_tree_in12 tyX12 tyX12_ok nmX12 hown hK hP hD hS 0 rfl rfl 0 (by decide) (hts (.fieldLink RX12 348 "OptimaWorksModel" "thrown" "I") (by decide +kernel)) (fun _ h9 => h9) rfl (by decide +kernel) rfl rfl (Nat.le_of_ble_eq_true rfl) dX12_tree_2 (fun H locs hP hD hS => ?_)
  have hP : va_P (dC, dI) vwCl (WR a k h0 (fT vi 0 0) vj vF vG) H := by rw [← WR_i 0 _ rfl]; exact hP
  have hD : va_D A (WR a k h0 (fT vi 0 0) vj vF vG) := by rw [← WR_i 0 _ rfl]; exact hD
  refine lv_iconst (v := 0) hx hb dX12_tree_5 (by decide) ?_
  refine lv_istore_n hx hb dX12_tree_6 rfl hl (by decide) rfl (fun ls (hl : lv_has ls _ ([(1, .int 0), (0, .ref h0)])) => ?_)
  have e9 : fT vF 103 (vF 103) = vF := by funext q9; by_cases h9_103 : q9 = 103; (subst h9_103; exact (fT_eq _ _ _).trans (Eq.trans (by first | rfl | assumption | (symm; assumption) | (subst_vars; rfl)) (Eq.refl _).symm)); exact (fT_ne _ _ h9_103).trans (Eq.refl _).symm
  have hP : va_P (dC, dI) vwCl (WR a k h0 (fT vi 0 0) vj (fT vF 103 (vF 103)) vG) H := by rw [e9]; exact hP
  have hD : va_D A (WR a k h0 (fT vi 0 0) vj (fT vF 103 (vF 103)) vG) := by rw [e9]; exact hD
  clear e9
  have hl : lv_has _ _ ([(0, .ref h0), (1, .int (nI 0))]) := lv_sub hl [1, 0] rfl
  refine (fun (loop : ∀ (n9 : Nat) (n1 : Nat) (j1 : Nat → Int32) (H : Heap) (locs : List Loc) (ls : Array Slot), (n1 ≤ 12) → (∀ n, n < n1 → ∃ x, x < 12 ∧ j1 n = nI x) → (∀ n, n < n1 → (j1 n).toInt = ((n : Nat) : Int)) →  (12 < n1 + n9) → va_P (dC, dI) vwCl (WR a k h0 (fT vi 0 0) vj (fT vF 103 j1) vG) H → va_D A (WR a k h0 (fT vi 0 0) vj (fT vF 103 j1) vG) → va_S A s.heap H locs → lv_has ls 8 [(0, .ref h0), (1, .int (nI n1))] → W p l e _ s m _ below meth c H locs 0 0 _ (F0 m 7 ls [])) => loop (13) 0 (vF 103) _ _ _ (by omega) (fun n hn => absurd hn (by omega)) (fun n hn => absurd hn (by omega)) (by omega) hP hD hS hl) ?_
  intro n9
  induction n9 with
  | zero => intro n1 j1 H locs ls hn1 hj1 hjx hf9; exact False.elim (by omega)
  | succ n9 ih7 =>
    intro n1 j1 H locs ls hn1 hj1 hjx hf7 hP hD hS hl
    refine lv_iload_n hx hb dX12_tree_7 rfl (lv_at hl 1 rfl) ?_
    refine lv_bipush (v := 12) hx hb dX12_tree_8 (by decide) ?_
    refine lv_icmp_ge (tgt := 26) hx hb dX12_tree_10 (by decide) (fun c_10 => ?_) (fun c_10 => ?_)
    · have t_10 : ((n1 : Nat) : Int) ≥ 12 := toI_ge c_10 (nI_toInt (by omega)) (by decide)
      refine lv_lconst (v := 0) hx hb dX12_tree_26 (by decide) ?_
      refine lv_lstore_n hx hb dX12_tree_27 rfl hl (by decide) rfl (fun ls (hl : lv_has ls _ ([(1, .long 0), (0, .ref h0)])) => ?_)
      refine lv_iconst (v := 0) hx hb dX12_tree_28 (by decide) ?_
      refine lv_istore_n hx hb dX12_tree_29 rfl hl (by decide) rfl (fun ls (hl : lv_has ls _ ([(3, .int 0), (1, .long 0), (0, .ref h0)])) => ?_)
      have hl : lv_has _ _ ([(0, .ref h0), (1, .long 0), (3, .int (nI 0))]) := lv_sub hl [2, 1, 0] rfl
      refine (fun (loop : ∀ (n9 : Nat) (c5 : Nat) (bt : Int64) (j0 : Nat → Int32) (H : Heap) (locs : List Loc) (ls : Array Slot), (c5 ≤ 1001) → (∀ n, n < 12 → ∃ x, x < 12 ∧ j0 n = nI x) → (tRef (((ar : Nat) : Int), vF 95, vF 96, vF 97, vF 98) ((c5 : Nat) : Int) 0 bt j0) →  (1001 < c5 + n9) → va_P (dC, dI) vwCl (WR a k h0 (fT vi 0 0) vj (fT vF 103 j0) vG) H → va_D A (WR a k h0 (fT vi 0 0) vj (fT vF 103 j0) vG) → va_S A s.heap H locs → lv_has ls 8 [(0, .ref h0), (1, .long bt), (3, .int (nI c5))] → W p l e _ s m _ below meth c H locs 0 0 _ (F0 m 30 ls [])) => loop (1002) 0 0 j1 _ _ _ (by omega) (fun n hn => hj1 n (by omega)) (tRef.start (ArO.val hAr) (fun n hn => hjx n (by omega))) (by omega) hP hD hS hl) ?_
      intro n9
      induction n9 with
      | zero => intro c5 bt j0 H locs ls hc5 hj0 hTr hf9; exact False.elim (by omega)
      | succ n9 ih30_1 =>
        intro c5 bt j0 H locs ls hc5 hj0 hTr hf30_1 hP hD hS hl
        refine lv_iload_n hx hb dX12_tree_30 rfl (lv_at hl 2 rfl) ?_
        refine lv_sipush (v := 1000) hx hb dX12_tree_31 (by decide) ?_
        refine lv_icmp_gt (tgt := 164) hx hb dX12_tree_34 (by decide) (fun c_34 => ?_) (fun c_34 => ?_)
        · have t_34 : ((c5 : Nat) : Int) > 1000 := toI_gt c_34 (nI_toInt (by omega)) (by decide)
          refine lv_lload_n hx hb dX12_tree_164 rfl (lv_at hl 1 rfl) ?_
          refine W.widen (k := 0) (n := 0) (by decide +kernel) (by decide +kernel) ?_
          exact W.lret (v := bt) hx hb hr (fun t9_ ht hW => ⟨⟨bt, j0, rfl, by (try dsimp only); exact tRef.done (by rw [show (1001 : Int) = ((c5 : Nat) : Int) from by omega]; exact hTr) (ArO.val hAr), by rw [ht]; exact hP, hD⟩, hS.F ht⟩) hS.2.2 dX12_tree_165
        · have t_34 : ¬ ((c5 : Nat) : Int) > 1000 := toI_ngt c_34 (nI_toInt (by omega)) (by decide)
          refine lv_iconst (v := 0) hx hb dX12_tree_37 (by decide) ?_
          refine lv_istore hx hb dX12_tree_38 hl (by decide) rfl (fun ls (hl : lv_has ls _ ([(4, .int 0), (0, .ref h0), (1, .long bt), (3, .int (nI c5))])) => ?_)
          have hl : lv_has _ _ ([(0, .ref h0), (1, .long bt), (3, .int (nI c5)), (4, .int (nI 0))]) := lv_sub hl [1, 2, 3, 0] rfl
          refine (fun (loop : ∀ (n9 : Nat) (a5 : Nat) (bt : Int64) (j2 : Nat → Int32) (H : Heap) (locs : List Loc) (ls : Array Slot), (a5 ≤ ar) → (∀ n, n < 12 → ∃ x, x < 12 ∧ j2 n = nI x) → (tRef (((ar : Nat) : Int), vF 95, vF 96, vF 97, vF 98) ((c5 : Nat) : Int) a5 bt j2) →  (ar < a5 + n9) → va_P (dC, dI) vwCl (WR a k h0 (fT vi 0 0) vj (fT vF 103 j2) vG) H → va_D A (WR a k h0 (fT vi 0 0) vj (fT vF 103 j2) vG) → va_S A s.heap H locs → lv_has ls 8 [(0, .ref h0), (1, .long bt), (3, .int (nI c5)), (4, .int (nI a5))] → W p l e _ s m _ below meth c H locs 0 0 _ (F0 m 40 ls [])) => loop (ar + 1) 0 bt j0 _ _ _ (by omega) (hj0) (hTr) (by omega) hP hD hS hl) ?_
          intro n9
          induction n9 with
          | zero => intro a5 bt j2 H locs ls ha5 hj2 hT2 hf9; exact False.elim (by omega)
          | succ n9 ih40_2 =>
            intro a5 bt j2 H locs ls ha5 hj2 hT2 hf40_2 hP hD hS hl
            refine lv_iload hx hb dX12_tree_40 (lv_at hl 3 rfl) ?_
            refine lv_aload_n hx hb dX12_tree_42 rfl (lv_at hl 0 rfl) ?_
            refine va_get (D := (dC, dI)) (ci := 12) (v := .int (vi 150)) (C := RX12) (T := TX12) (N := 163) (fs := fM (vS a (fT vi 0 0) vj)) hx hb hts iwsRX12_tree_in12 hown hK hP 0 rfl rfl 150 (by decide) (hts (.fieldLink RX12 1069 "OptimaWorksModel" "arcs" "I") (by decide +kernel)) (fun _ h9 => h9) rfl dX12_tree_43 ?_
            refine lv_topi (fun y1 hy1 => ?_)
            obtain rfl : (nI ar) = y1 := (hy1.trans (har)).symm
            refine lv_icmp_ge (tgt := 158) hx hb dX12_tree_46 (by decide) (fun c_46 => ?_) (fun c_46 => ?_)
            · have t_46 : ((a5 : Nat) : Int) ≥ ((ar : Nat) : Int) := toI_ge c_46 (nI_toInt (by omega)) (nI_toInt (by omega))
              refine lv_iinc (v := (nI (c5 + 1))) hx hb dX12_tree_158 hl (k := 2) rfl (nI_add c5 1) (by decide) rfl (fun ls (hl : lv_has ls _ ([(3, .int (nI (c5 + 1))), (0, .ref h0), (1, .long bt), (4, .int (nI a5))])) => ?_)
              refine lv_goto (tgt := 30) hx hb dX12_tree_161 (by decide) ?_
              have hl : lv_has _ _ ([(0, .ref h0), (1, .long bt), (3, .int (nI (c5 + 1)))]) := lv_sub hl [1, 2, 0] rfl
              exact ih30_1 (c5 + 1) bt j2 _ _ _ (by omega) (hj2) (by rw [show ((c5 + 1 : Nat) : Int) = ((c5 : Nat) : Int) + 1 from by omega]; exact hT2.next (by dsimp only; omega)) (by omega) hP hD hS hl
            · have t_46 : ¬ ((a5 : Nat) : Int) ≥ ((ar : Nat) : Int) := toI_nge c_46 (nI_toInt (by omega)) (nI_toInt (by omega))
              obtain ⟨x5, y5, hx5, hy5, hxy5, ex5, ey5, _⟩ := hAr a5 (by omega)
              obtain ⟨u5, hu5, eu5⟩ := hj2 x5 hx5
              obtain ⟨w5, hw5, ew5⟩ := hj2 y5 hy5
              refine lv_aload_n hx hb dX12_tree_49 rfl (lv_at hl 0 rfl) ?_
              refine va_get (D := (dC, dI)) (ci := 12) (v := .ref (a 103)) (C := RX12) (T := TX12) (N := 163) (fs := fM (vS a (fT vi 0 0) vj)) hx hb hts iwsRX12_tree_in12 hown hK hP 0 rfl rfl 159 (by decide) (hts (.fieldLink RX12 336 "OptimaWorksModel" "joined" "[I") (by decide +kernel)) (fun _ h9 => h9) rfl dX12_tree_50 ?_
              refine lv_aload_n hx hb dX12_tree_53 rfl (lv_at hl 0 rfl) ?_
              refine va_get (D := (dC, dI)) (ci := 12) (v := .ref (a 95)) (C := RX12) (T := TX12) (N := 163) (fs := fM (vS a (fT vi 0 0) vj)) hx hb hts iwsRX12_tree_in12 hown hK hP 0 rfl rfl 151 (by decide) (hts (.fieldLink RX12 312 "OptimaWorksModel" "arcFrom" "[I") (by decide +kernel)) (fun _ h9 => h9) rfl dX12_tree_54 ?_
              refine lv_iload hx hb dX12_tree_57 (lv_at hl 3 rfl) ?_
              refine va_iald (cA := k 95) (n := 40) (f := (vF 95)) hx hb hK hP 96 95 (WR_get 95 (by decide)) (TR_get 95 (by decide)) (vp_in_nI (show a5 < 40 by omega) (by omega)) dX12_tree_59 ?_
              refine lv_topi (fun y2 hy2 => ?_)
              obtain rfl : ((vF 95) a5) = y2 := (hy2.trans (by rw [nI_clamp (by omega)])).symm
              refine lv_topi (fun y3 hy3 => ?_)
              obtain rfl : (nI x5) = y3 := (hy3.trans (ex5)).symm
              refine va_iald (cA := k 103) (n := 12) (f := j2) hx hb hK hP 104 103 (WR_get 103 (by decide)) (TR_get 103 (by decide)) (vp_in_nI (show x5 < 12 by omega) (by omega)) dX12_tree_60 ?_
              refine lv_topi (fun y4 hy4 => ?_)
              obtain rfl : (j2 x5) = y4 := (hy4.trans (by rw [nI_clamp (by omega)])).symm
              refine lv_topi (fun y5 hy5 => ?_)
              obtain rfl : (nI u5) = y5 := (hy5.trans (eu5)).symm
              refine lv_istore hx hb dX12_tree_61 hl (by decide) rfl (fun ls (hl : lv_has ls _ ([(5, .int (nI u5)), (0, .ref h0), (1, .long bt), (3, .int (nI c5)), (4, .int (nI a5))])) => ?_)
              refine lv_aload_n hx hb dX12_tree_63 rfl (lv_at hl 1 rfl) ?_
              refine va_get (D := (dC, dI)) (ci := 12) (v := .ref (a 103)) (C := RX12) (T := TX12) (N := 163) (fs := fM (vS a (fT vi 0 0) vj)) hx hb hts iwsRX12_tree_in12 hown hK hP 0 rfl rfl 159 (by decide) (hts (.fieldLink RX12 336 "OptimaWorksModel" "joined" "[I") (by decide +kernel)) (fun _ h9 => h9) rfl dX12_tree_64 ?_
              refine lv_aload_n hx hb dX12_tree_67 rfl (lv_at hl 1 rfl) ?_
              refine va_get (D := (dC, dI)) (ci := 12) (v := .ref (a 96)) (C := RX12) (T := TX12) (N := 163) (fs := fM (vS a (fT vi 0 0) vj)) hx hb hts iwsRX12_tree_in12 hown hK hP 0 rfl rfl 152 (by decide) (hts (.fieldLink RX12 315 "OptimaWorksModel" "arcTo" "[I") (by decide +kernel)) (fun _ h9 => h9) rfl dX12_tree_68 ?_
              refine lv_iload hx hb dX12_tree_71 (lv_at hl 4 rfl) ?_
              refine va_iald (cA := k 96) (n := 40) (f := (vF 96)) hx hb hK hP 97 96 (WR_get 96 (by decide)) (TR_get 96 (by decide)) (vp_in_nI (show a5 < 40 by omega) (by omega)) dX12_tree_73 ?_
              refine lv_topi (fun y6 hy6 => ?_)
              obtain rfl : ((vF 96) a5) = y6 := (hy6.trans (by rw [nI_clamp (by omega)])).symm
              refine lv_topi (fun y7 hy7 => ?_)
              obtain rfl : (nI y5) = y7 := (hy7.trans (ey5)).symm
              refine va_iald (cA := k 103) (n := 12) (f := j2) hx hb hK hP 104 103 (WR_get 103 (by decide)) (TR_get 103 (by decide)) (vp_in_nI (show y5 < 12 by omega) (by omega)) dX12_tree_74 ?_
              refine lv_topi (fun y8 hy8 => ?_)
              obtain rfl : (j2 y5) = y8 := (hy8.trans (by rw [nI_clamp (by omega)])).symm
              refine lv_topi (fun y9 hy9 => ?_)
              obtain rfl : (nI w5) = y9 := (hy9.trans (ew5)).symm
              refine lv_istore hx hb dX12_tree_75 hl (by decide) rfl (fun ls (hl : lv_has ls _ ([(6, .int (nI w5)), (5, .int (nI u5)), (0, .ref h0), (1, .long bt), (3, .int (nI c5)), (4, .int (nI a5))])) => ?_)
              refine lv_aload_n hx hb dX12_tree_77 rfl (lv_at hl 2 rfl) ?_
              refine va_get (D := (dC, dI)) (ci := 12) (v := .ref (a 98)) (C := RX12) (T := TX12) (N := 163) (fs := fM (vS a (fT vi 0 0) vj)) hx hb hts iwsRX12_tree_in12 hown hK hP 0 rfl rfl 154 (by decide) (hts (.fieldLink RX12 321 "OptimaWorksModel" "arcCost" "[I") (by decide +kernel)) (fun _ h9 => h9) rfl dX12_tree_78 ?_
              refine lv_iload hx hb dX12_tree_81 (lv_at hl 5 rfl) ?_
              refine va_iald (cA := k 98) (n := 40) (f := (vF 98)) hx hb hK hP 99 98 (WR_get 98 (by decide)) (TR_get 98 (by decide)) (vp_in_nI (show a5 < 40 by omega) (by omega)) dX12_tree_83 ?_
              refine lv_topi (fun y10 hy10 => ?_)
              obtain rfl : ((vF 98) a5) = y10 := (hy10.trans (by rw [nI_clamp (by omega)])).symm
              refine lv_iload_n hx hb dX12_tree_84 rfl (lv_at hl 4 rfl) ?_
              refine lv_icmp_ne (tgt := 152) hx hb dX12_tree_85 (by decide) (fun c_85 => ?_) (fun c_85 => ?_)
              · have t_85 : (((vF 98) a5)).toInt ≠ ((c5 : Nat) : Int) := toI_ne c_85 rfl (nI_toInt (by omega))
                refine lv_iinc (v := (nI (a5 + 1))) hx hb dX12_tree_152 hl (k := 5) rfl (nI_add a5 1) (by decide) rfl (fun ls (hl : lv_has ls _ ([(4, .int (nI (a5 + 1))), (6, .int (nI w5)), (5, .int (nI u5)), (0, .ref h0), (1, .long bt), (3, .int (nI c5))])) => ?_)
                refine lv_goto (tgt := 40) hx hb dX12_tree_155 (by decide) ?_
                have hl : lv_has _ _ ([(0, .ref h0), (1, .long bt), (3, .int (nI c5)), (4, .int (nI (a5 + 1)))]) := lv_sub hl [3, 4, 5, 0] rfl
                exact ih40_2 (a5 + 1) bt j2 _ _ _ (by omega) (hj2) (by first | exact hT2.other t_85 | (have exf : (j2 (tFr (((ar : Nat) : Int), vF 95, vF 96, vF 97, vF 98) a5)).toInt = ((u5 : Nat) : Int) := (by rw [show tFr (((ar : Nat) : Int), vF 95, vF 96, vF 97, vF 98) a5 = x5 from (by show (vF 95 a5).toInt.toNat = x5; rw [ex5, nI_toInt (by omega)]; omega), eu5]; exact nI_toInt (by omega)); have eyf : (j2 (tTo (((ar : Nat) : Int), vF 95, vF 96, vF 97, vF 98) a5)).toInt = ((w5 : Nat) : Int) := (by rw [show tTo (((ar : Nat) : Int), vF 95, vF 96, vF 97, vF 98) a5 = y5 from (by show (vF 96 a5).toInt.toNat = y5; rw [ey5, nI_toInt (by omega)]; omega), ew5]; exact nI_toInt (by omega)); exact hT2.same (ArO.val hAr) (by dsimp only; omega) t_85 (by rw [exf, eyf]; exact t_92))) (by omega) hP hD hS hl
              · have t_85 : (((vF 98) a5)).toInt = ((c5 : Nat) : Int) := toI_nne c_85 rfl (nI_toInt (by omega))
                refine lv_iload hx hb dX12_tree_88 (lv_at hl 1 rfl) ?_
                refine lv_iload hx hb dX12_tree_90 (lv_at hl 0 rfl) ?_
                refine lv_icmp_ne (tgt := 98) hx hb dX12_tree_92 (by decide) (fun c_92 => ?_) (fun c_92 => ?_)
                · have t_92 : ((u5 : Nat) : Int) ≠ ((w5 : Nat) : Int) := toI_ne c_92 (nI_toInt (by omega)) (nI_toInt (by omega))
                  refine lv_lload_n hx hb dX12_tree_98 rfl (lv_at hl 3 rfl) ?_
                  refine lv_lconst (v := 1) hx hb dX12_tree_99 (by decide) ?_
                  refine lv_iload hx hb dX12_tree_100 (lv_at hl 5 rfl) ?_
                  refine lv_lshl hx hb dX12_tree_102 rfl ?_
                  refine lv_lor hx hb dX12_tree_103 ?_
                  refine lv_lstore_n hx hb dX12_tree_104 rfl hl (by decide) rfl (fun ls (hl : lv_has ls _ ([(1, .long (bt ||| (1 <<< (((nI a5) : Int32).toInt64 &&& 63)))), (6, .int (nI w5)), (5, .int (nI u5)), (0, .ref h0), (3, .int (nI c5)), (4, .int (nI a5))])) => ?_)
                  refine lv_iconst (v := 0) hx hb dX12_tree_105 (by decide) ?_
                  refine lv_istore hx hb dX12_tree_106 hl (by decide) rfl (fun ls (hl : lv_has ls _ ([(7, .int 0), (1, .long (bt ||| (1 <<< (((nI a5) : Int32).toInt64 &&& 63)))), (6, .int (nI w5)), (5, .int (nI u5)), (0, .ref h0), (3, .int (nI c5)), (4, .int (nI a5))])) => ?_)
                  have hl : lv_has _ _ ([(0, .ref h0), (1, .long (bt ||| (1 <<< (((nI a5) : Int32).toInt64 &&& 63)))), (3, .int (nI c5)), (4, .int (nI a5)), (5, .int (nI u5)), (6, .int (nI w5)), (7, .int (nI 0))]) := lv_sub hl [4, 1, 5, 6, 3, 2, 0] rfl
                  refine (fun (loop : ∀ (n9 : Nat) (n5 : Nat) (bt2 : Int64) (j3 : Nat → Int32) (H : Heap) (locs : List Loc) (ls : Array Slot), (n5 ≤ 12) → (∀ n, n < 12 → ∃ x, x < 12 ∧ j3 n = nI x) → (bt2 = (bt ||| ((1 : Int64) <<< ((nI a5).toInt64 &&& 63)))) → (∀ i, i < 12 → (j3 i).toInt = if i < n5 ∧ (j2 i).toInt = ((w5 : Nat) : Int) then ((u5 : Nat) : Int) else (j2 i).toInt) →  (12 < n5 + n9) → va_P (dC, dI) vwCl (WR a k h0 (fT vi 0 0) vj (fT vF 103 j3) vG) H → va_D A (WR a k h0 (fT vi 0 0) vj (fT vF 103 j3) vG) → va_S A s.heap H locs → lv_has ls 8 [(0, .ref h0), (1, .long bt2), (3, .int (nI c5)), (4, .int (nI a5)), (5, .int (nI u5)), (6, .int (nI w5)), (7, .int (nI n5))] → W p l e _ s m _ below meth c H locs 0 0 _ (F0 m 108 ls [])) => loop (13) 0 (bt ||| (1 <<< (((nI a5) : Int32).toInt64 &&& 63))) j2 _ _ _ (by omega) (hj2) (rfl) (tRel.start) (by omega) hP hD hS hl) ?_
                  intro n9
                  induction n9 with
                  | zero => intro n5 bt2 j3 H locs ls hn5 hj3 hb2 hj4 hf9; exact False.elim (by omega)
                  | succ n9 ih108_3 =>
                    intro n5 bt2 j3 H locs ls hn5 hj3 hb2 hj4 hf108_3 hP hD hS hl
                    refine lv_iload hx hb dX12_tree_108 (lv_at hl 6 rfl) ?_
                    refine lv_bipush (v := 12) hx hb dX12_tree_110 (by decide) ?_
                    refine lv_icmp_ge (tgt := 152) hx hb dX12_tree_112 (by decide) (fun c_112 => ?_) (fun c_112 => ?_)
                    · have t_112 : ((n5 : Nat) : Int) ≥ 12 := toI_ge c_112 (nI_toInt (by omega)) (by decide)
                      refine lv_iinc (v := (nI (a5 + 1))) hx hb dX12_tree_152 hl (k := 3) rfl (nI_add a5 1) (by decide) rfl (fun ls (hl : lv_has ls _ ([(4, .int (nI (a5 + 1))), (0, .ref h0), (1, .long bt2), (3, .int (nI c5)), (5, .int (nI u5)), (6, .int (nI w5)), (7, .int (nI n5))])) => ?_)
                      refine lv_goto (tgt := 40) hx hb dX12_tree_155 (by decide) ?_
                      have hl : lv_has _ _ ([(0, .ref h0), (1, .long bt2), (3, .int (nI c5)), (4, .int (nI (a5 + 1)))]) := lv_sub hl [1, 2, 3, 0] rfl
                      exact ih40_2 (a5 + 1) bt2 j3 _ _ _ (by omega) (hj3) (by have exf : (j2 (tFr (((ar : Nat) : Int), vF 95, vF 96, vF 97, vF 98) a5)).toInt = ((u5 : Nat) : Int) := (by rw [show tFr (((ar : Nat) : Int), vF 95, vF 96, vF 97, vF 98) a5 = x5 from (by show (vF 95 a5).toInt.toNat = x5; rw [ex5, nI_toInt (by omega)]; omega), eu5]; exact nI_toInt (by omega)); have eyf : (j2 (tTo (((ar : Nat) : Int), vF 95, vF 96, vF 97, vF 98) a5)).toInt = ((w5 : Nat) : Int) := (by rw [show tTo (((ar : Nat) : Int), vF 95, vF 96, vF 97, vF 98) a5 = y5 from (by show (vF 96 a5).toInt.toNat = y5; rw [ey5, nI_toInt (by omega)]; omega), ew5]; exact nI_toInt (by omega)); rw [hb2]; exact hT2.take (ArO.val hAr) (by dsimp only; omega) (by omega) t_85 (by rw [exf, eyf]; exact t_92) (by rw [exf, eyf]; exact tRel.done hj4 (by omega))) (by omega) hP hD hS hl
                    · have t_112 : ¬ ((n5 : Nat) : Int) ≥ 12 := toI_nge c_112 (nI_toInt (by omega)) (by decide)
                      obtain ⟨z5, hz5, ez5⟩ := hj3 n5 (by omega)
                      refine lv_aload_n hx hb dX12_tree_115 rfl (lv_at hl 0 rfl) ?_
                      refine va_get (D := (dC, dI)) (ci := 12) (v := .ref (a 103)) (C := RX12) (T := TX12) (N := 163) (fs := fM (vS a (fT vi 0 0) vj)) hx hb hts iwsRX12_tree_in12 hown hK hP 0 rfl rfl 159 (by decide) (hts (.fieldLink RX12 336 "OptimaWorksModel" "joined" "[I") (by decide +kernel)) (fun _ h9 => h9) rfl dX12_tree_116 ?_
                      refine lv_iload hx hb dX12_tree_119 (lv_at hl 6 rfl) ?_
                      refine lv_aload_n hx hb dX12_tree_121 rfl (lv_at hl 0 rfl) ?_
                      refine va_get (D := (dC, dI)) (ci := 12) (v := .ref (a 103)) (C := RX12) (T := TX12) (N := 163) (fs := fM (vS a (fT vi 0 0) vj)) hx hb hts iwsRX12_tree_in12 hown hK hP 0 rfl rfl 159 (by decide) (hts (.fieldLink RX12 336 "OptimaWorksModel" "joined" "[I") (by decide +kernel)) (fun _ h9 => h9) rfl dX12_tree_122 ?_
                      refine lv_iload hx hb dX12_tree_125 (lv_at hl 6 rfl) ?_
                      refine va_iald (cA := k 103) (n := 12) (f := j3) hx hb hK hP 104 103 (WR_get 103 (by decide)) (TR_get 103 (by decide)) (vp_in_nI (show n5 < 12 by omega) (by omega)) dX12_tree_127 ?_
                      refine lv_topi (fun y11 hy11 => ?_)
                      obtain rfl : (j3 n5) = y11 := (hy11.trans (by rw [nI_clamp (by omega)])).symm
                      refine lv_topi (fun y12 hy12 => ?_)
                      obtain rfl : (nI z5) = y12 := (hy12.trans (ez5)).symm
                      refine lv_iload hx hb dX12_tree_128 (lv_at hl 5 rfl) ?_
                      refine W.cut (pc := 145) (fun H locs ls stk => ∃ (v9 : Nat), (v9 < 12) ∧ (((v9 : Nat) : Int) = if ((z5 : Nat) : Int) = ((w5 : Nat) : Int) then ((u5 : Nat) : Int) else ((z5 : Nat) : Int)) ∧  stk = [.int (nI v9), .int (nI n5), .ref (a 103)] ∧ va_P (dC, dI) vwCl (WR a k h0 (fT vi 0 0) vj (fT vF 103 j3) vG) H ∧ va_D A (WR a k h0 (fT vi 0 0) vj (fT vF 103 j3) vG) ∧ va_S A s.heap H locs ∧ lv_has ls 8 [(0, .ref h0), (1, .long bt2), (3, .int (nI c5)), (4, .int (nI a5)), (5, .int (nI u5)), (6, .int (nI w5)), (7, .int (nI n5))]) (fun join1 => ?_) ?_
                      · refine lv_icmp_ne (tgt := 138) hx hb dX12_tree_130 (by decide) (fun c_130 => ?_) (fun c_130 => ?_)
                        · have t_130 : ((z5 : Nat) : Int) ≠ ((w5 : Nat) : Int) := toI_ne c_130 (nI_toInt (by omega)) (nI_toInt (by omega))
                          refine lv_aload_n hx hb dX12_tree_138 rfl (lv_at hl 0 rfl) ?_
                          refine va_get (D := (dC, dI)) (ci := 12) (v := .ref (a 103)) (C := RX12) (T := TX12) (N := 163) (fs := fM (vS a (fT vi 0 0) vj)) hx hb hts iwsRX12_tree_in12 hown hK hP 0 rfl rfl 159 (by decide) (hts (.fieldLink RX12 336 "OptimaWorksModel" "joined" "[I") (by decide +kernel)) (fun _ h9 => h9) rfl dX12_tree_139 ?_
                          refine lv_iload hx hb dX12_tree_142 (lv_at hl 6 rfl) ?_
                          refine va_iald (cA := k 103) (n := 12) (f := j3) hx hb hK hP 104 103 (WR_get 103 (by decide)) (TR_get 103 (by decide)) (vp_in_nI (show n5 < 12 by omega) (by omega)) dX12_tree_144 ?_
                          refine lv_topi (fun y13 hy13 => ?_)
                          obtain rfl : (j3 n5) = y13 := (hy13.trans (by rw [nI_clamp (by omega)])).symm
                          refine lv_topi (fun y14 hy14 => ?_)
                          obtain rfl : (nI z5) = y14 := (hy14.trans (ez5)).symm
                          have hl : lv_has _ _ ([(0, .ref h0), (1, .long bt2), (3, .int (nI c5)), (4, .int (nI a5)), (5, .int (nI u5)), (6, .int (nI w5)), (7, .int (nI n5))]) := lv_sub hl [0, 1, 2, 3, 4, 5, 6] rfl
                          exact join1 _ _ _ _ ⟨z5, by omega, by first | rw [if_pos (by omega)] | rw [if_neg (by omega)], rfl, hP, hD, hS, hl⟩
                        · have t_130 : ((z5 : Nat) : Int) = ((w5 : Nat) : Int) := toI_nne c_130 (nI_toInt (by omega)) (nI_toInt (by omega))
                          refine lv_iload hx hb dX12_tree_133 (lv_at hl 4 rfl) ?_
                          refine lv_goto (tgt := 145) hx hb dX12_tree_135 (by decide) ?_
                          have hl : lv_has _ _ ([(0, .ref h0), (1, .long bt2), (3, .int (nI c5)), (4, .int (nI a5)), (5, .int (nI u5)), (6, .int (nI w5)), (7, .int (nI n5))]) := lv_sub hl [0, 1, 2, 3, 4, 5, 6] rfl
                          exact join1 _ _ _ _ ⟨u5, by omega, by first | rw [if_pos (by omega)] | rw [if_neg (by omega)], rfl, hP, hD, hS, hl⟩
                      · rintro H locs ls stk ⟨v9, hv9, hv8, rfl, hP, hD, hS, hl⟩
                        refine va_iast (cA := k 103) (n := 12) (f := j3) hx hb hK hP hD hS 104 103 (WR_get 103 (by decide)) (TR_get 103 (by decide)) (vp_in_nI (show n5 < 12 by omega) (by omega)) dX12_tree_145 (fun H locs hP hD hS => ?_)
                        have e9 : fT vF 103 (upd j3 ((nI n5)).toNatClampNeg (nI v9)) = fT (fT vF 103 j3) 103 (upd j3 ((nI n5)).toNatClampNeg (nI v9)) := (fT_sm _ _ _ _).symm
                        have hP : va_P (dC, dI) vwCl (WR a k h0 (fT vi 0 0) vj (fT vF 103 (upd j3 ((nI n5)).toNatClampNeg (nI v9))) vG) H := by rw [e9, ← WR_F 103 (by decide) _ rfl]; exact hP
                        have hD : va_D A (WR a k h0 (fT vi 0 0) vj (fT vF 103 (upd j3 ((nI n5)).toNatClampNeg (nI v9))) vG) := by rw [e9, ← WR_F 103 (by decide) _ rfl]; exact hD
                        clear e9
                        refine lv_iinc (v := (nI (n5 + 1))) hx hb dX12_tree_146 hl (k := 6) rfl (nI_add n5 1) (by decide) rfl (fun ls (hl : lv_has ls _ ([(7, .int (nI (n5 + 1))), (0, .ref h0), (1, .long bt2), (3, .int (nI c5)), (4, .int (nI a5)), (5, .int (nI u5)), (6, .int (nI w5))])) => ?_)
                        refine lv_goto (tgt := 108) hx hb dX12_tree_149 (by decide) ?_
                        have hl : lv_has _ _ ([(0, .ref h0), (1, .long bt2), (3, .int (nI c5)), (4, .int (nI a5)), (5, .int (nI u5)), (6, .int (nI w5)), (7, .int (nI (n5 + 1)))]) := lv_sub hl [1, 2, 3, 4, 5, 6, 0] rfl
                        exact ih108_3 (n5 + 1) bt2 (upd j3 ((nI n5)).toNatClampNeg (nI v9)) _ _ _ (by omega) (fun n hn => by rw [upd_at (by omega)]; by_cases e9 : n = n5; (rw [if_pos e9]; exact ⟨v9, hv9, rfl⟩); (rw [if_neg e9]; exact hj3 n hn)) (hb2) (tRel.step hj4 (by omega) (nI_clamp (by omega)) (by rw [nI_toInt (by omega), ez5, nI_toInt (by omega)]; exact hv8)) (by omega) hP hD hS hl
                · have t_92 : ((u5 : Nat) : Int) = ((w5 : Nat) : Int) := toI_nne c_92 (nI_toInt (by omega)) (nI_toInt (by omega))
                  refine lv_goto (tgt := 152) hx hb dX12_tree_95 (by decide) ?_
                  refine lv_iinc (v := (nI (a5 + 1))) hx hb dX12_tree_152 hl (k := 5) rfl (nI_add a5 1) (by decide) rfl (fun ls (hl : lv_has ls _ ([(4, .int (nI (a5 + 1))), (6, .int (nI w5)), (5, .int (nI u5)), (0, .ref h0), (1, .long bt), (3, .int (nI c5))])) => ?_)
                  refine lv_goto (tgt := 40) hx hb dX12_tree_155 (by decide) ?_
                  have hl : lv_has _ _ ([(0, .ref h0), (1, .long bt), (3, .int (nI c5)), (4, .int (nI (a5 + 1)))]) := lv_sub hl [3, 4, 5, 0] rfl
                  exact ih40_2 (a5 + 1) bt j2 _ _ _ (by omega) (hj2) (by first | exact hT2.other t_85 | (have exf : (j2 (tFr (((ar : Nat) : Int), vF 95, vF 96, vF 97, vF 98) a5)).toInt = ((u5 : Nat) : Int) := (by rw [show tFr (((ar : Nat) : Int), vF 95, vF 96, vF 97, vF 98) a5 = x5 from (by show (vF 95 a5).toInt.toNat = x5; rw [ex5, nI_toInt (by omega)]; omega), eu5]; exact nI_toInt (by omega)); have eyf : (j2 (tTo (((ar : Nat) : Int), vF 95, vF 96, vF 97, vF 98) a5)).toInt = ((w5 : Nat) : Int) := (by rw [show tTo (((ar : Nat) : Int), vF 95, vF 96, vF 97, vF 98) a5 = y5 from (by show (vF 96 a5).toInt.toNat = y5; rw [ey5, nI_toInt (by omega)]; omega), ew5]; exact nI_toInt (by omega)); exact hT2.same (ArO.val hAr) (by dsimp only; omega) t_85 (by rw [exf, eyf]; exact t_92))) (by omega) hP hD hS hl
    · have t_10 : ¬ ((n1 : Nat) : Int) ≥ 12 := toI_nge c_10 (nI_toInt (by omega)) (by decide)
      refine lv_aload_n hx hb dX12_tree_13 rfl (lv_at hl 0 rfl) ?_
      refine va_get (D := (dC, dI)) (ci := 12) (v := .ref (a 103)) (C := RX12) (T := TX12) (N := 163) (fs := fM (vS a (fT vi 0 0) vj)) hx hb hts iwsRX12_tree_in12 hown hK hP 0 rfl rfl 159 (by decide) (hts (.fieldLink RX12 336 "OptimaWorksModel" "joined" "[I") (by decide +kernel)) (fun _ h9 => h9) rfl dX12_tree_14 ?_
      refine lv_iload_n hx hb dX12_tree_17 rfl (lv_at hl 1 rfl) ?_
      refine lv_iload_n hx hb dX12_tree_18 rfl (lv_at hl 1 rfl) ?_
      refine va_iast (cA := k 103) (n := 12) (f := j1) hx hb hK hP hD hS 104 103 (WR_get 103 (by decide)) (TR_get 103 (by decide)) (vp_in_nI (show n1 < 12 by omega) (by omega)) dX12_tree_19 (fun H locs hP hD hS => ?_)
      have e9 : fT vF 103 (upd j1 ((nI n1)).toNatClampNeg (nI n1)) = fT (fT vF 103 j1) 103 (upd j1 ((nI n1)).toNatClampNeg (nI n1)) := (fT_sm _ _ _ _).symm
      have hP : va_P (dC, dI) vwCl (WR a k h0 (fT vi 0 0) vj (fT vF 103 (upd j1 ((nI n1)).toNatClampNeg (nI n1))) vG) H := by rw [e9, ← WR_F 103 (by decide) _ rfl]; exact hP
      have hD : va_D A (WR a k h0 (fT vi 0 0) vj (fT vF 103 (upd j1 ((nI n1)).toNatClampNeg (nI n1))) vG) := by rw [e9, ← WR_F 103 (by decide) _ rfl]; exact hD
      clear e9
      refine lv_iinc (v := (nI (n1 + 1))) hx hb dX12_tree_20 hl (k := 1) rfl (nI_add n1 1) (by decide) rfl (fun ls (hl : lv_has ls _ ([(1, .int (nI (n1 + 1))), (0, .ref h0)])) => ?_)
      refine lv_goto (tgt := 7) hx hb dX12_tree_23 (by decide) ?_
      have hl : lv_has _ _ ([(0, .ref h0), (1, .int (nI (n1 + 1)))]) := lv_sub hl [1, 0] rfl
      exact ih7 (n1 + 1) (upd j1 ((nI n1)).toNatClampNeg (nI n1)) _ _ _ (by omega) (fun n hn => by rw [upd_at (by omega)]; by_cases e9 : n = n1; (rw [if_pos e9]; exact ⟨n1, by omega, rfl⟩); (rw [if_neg e9]; exact hj1 n (by omega))) (fun n hn => by rw [upd_at (by omega)]; by_cases e9 : n = n1; (rw [if_pos e9, e9]; exact nI_toInt (by omega)); (rw [if_neg e9]; exact hjx n (by omega))) (by omega) hP hD hS hl

section
theorem hd_yX12_send_RX12 : yX12_send.cls = RX12 ∧ yX12_send.cls ≠ "java/lang/invoke/MethodHandle" ∧ yX12_send.cls ≠ "java/lang/invoke/VarHandle" ∧ (parseMethodDescriptor yX12_send.desc).map (fun d => d.parameters.length) = some 3 := by decide +kernel
theorem dX12_greatest_0 : decode cX12_greatest 0 = .ok (.aload_n 0, 1) := dk_42 (by decide +kernel)
theorem dX12_greatest_1 : decode cX12_greatest 1 = .ok (.iload_n 1, 1) := dk_27 (by decide +kernel)
theorem dX12_greatest_2 : decode cX12_greatest 2 = .ok (.iload_n 2, 1) := dk_28 (by decide +kernel)
theorem dX12_greatest_3 : decode cX12_greatest 3 = .ok (.invokevirtual 1079, 3) := dk_182 (by decide +kernel)
theorem dX12_greatest_6 : decode cX12_greatest 6 = .ok (.ifCond .eq 15, 3) := dk_153 (by decide +kernel)
theorem dX12_greatest_9 : decode cX12_greatest 9 = .ok (.aload_n 0, 1) := dk_42 (by decide +kernel)
theorem dX12_greatest_10 : decode cX12_greatest 10 = .ok (.iload_n 1, 1) := dk_27 (by decide +kernel)
theorem dX12_greatest_11 : decode cX12_greatest 11 = .ok (.iload_n 2, 1) := dk_28 (by decide +kernel)
theorem dX12_greatest_12 : decode cX12_greatest 12 = .ok (.ldc_w 1082, 3) := dk_19 (by decide +kernel)
theorem dX12_greatest_15 : decode cX12_greatest 15 = .ok (.invokevirtual 1083, 3) := dk_182 (by decide +kernel)
theorem dX12_greatest_18 : decode cX12_greatest 18 = .ok (.goto 4, 3) := dk_167 (by decide +kernel)
theorem dX12_greatest_21 : decode cX12_greatest 21 = .ok (.iconst 0, 1) := dk_3 (by decide +kernel)
theorem dX12_greatest_22 : decode cX12_greatest 22 = .ok (.ireturn, 1) := dk_172 (by decide +kernel)
def wsRX12_greatest : List Cond := .code yX12_greatest cX12_greatest 3 (some .int) :: ([.constant RX12 1082 100000] ++ wsX120 ++ (wsV RX12 1079 RX12 yX12_areEnds wsRX12_areEnds) ++ (wsV RX12 1083 RX12 yX12_send wsRX12_send))
theorem iwsRX12_greatest_in12 : ∀ w ∈ wsX120, w ∈ wsRX12_greatest := fun _ h => List.mem_cons_of_mem _ (List.mem_append_left _ (List.mem_append_left _ (List.mem_append_right _ h)))
theorem gwsRX12_greatest_0 : GoodIn wsRX12_greatest (wsV RX12 1079 RX12 yX12_areEnds wsRX12_areEnds) := goodIn_sub (fun _ h => List.mem_cons_of_mem _ (List.mem_append_left _ (List.mem_append_right _ h))) (gdV (by decide +kernel) gdwsRX12_areEnds)
theorem gwsRX12_greatest_1 : GoodIn wsRX12_greatest (wsV RX12 1083 RX12 yX12_send wsRX12_send) := goodIn_sub (fun _ h => List.mem_cons_of_mem _ (List.mem_append_right _ h)) (gdV (by decide +kernel) gdwsRX12_send)
theorem gdwsRX12_greatest : wsRX12_greatest.all goodWord = true := gdC rfl (gdA (gdA (gdA (by decide +kernel : ([.constant RX12 1082 100000] : List Cond).all goodWord = true) gdwsX120) (gdV (by decide +kernel) gdwsRX12_areEnds)) (gdV (by decide +kernel) gdwsRX12_send))
set_option maxHeartbeats 4000000 in
set_option maxRecDepth 100000 in
/-- greatest(s, t) -/
theorem r_X12_greatest (l : Launch) (dC : Nat → ClassId) (dI : Nat → Nat → Nat) (a : Nat → Nat) (k : Nat → ClassId) (h0 : Nat) (vi : Nat → Int32) (vj : Nat → Int64) (vF : Nat → Nat → Int32) (vG : Nat → Nat → Int64) (sI : Int32) (tI : Int32) (ar : Nat) (har : vi 150 = nI ar) (har40 : ar ≤ 40) (hAr : ArO (vF 95) (vF 96) (vF 97) (vF 98) ar) (sz : Nat) : Met l yX12_greatest wsRX12_greatest ({ frames := 2, cells := 0, slots := 0, locals := 54 }) (va_Pc [.ref h0, .int sI, .int tI] (fun U => U.heap.size = sz ∧ va_P (dC, dI) vwCl (WR a k h0 vi vj vF vG) U.heap ∧ va_K (dC, dI) vwCl (tX12 k) U ∧ va_D (fun _ => True) (WR a k h0 vi vj vF vG))) (va_Qi (fun (r : Int32) (u : (Int32) × (Nat → Int32) × (Nat → Int32) × (Nat → Int32)) => ((((u.1) = 1 ∧ ¬ ((0 ≤ (sI).toInt ∧ (sI).toInt ≤ 11) ∧ 0 ≤ (tI).toInt ∧ (tI).toInt ≤ 11)) ∨ ((u.1) = 2 ∧ ((0 ≤ (sI).toInt ∧ (sI).toInt ≤ 11) ∧ 0 ≤ (tI).toInt ∧ (tI).toInt ≤ 11) ∧ (sI).toInt = (tI).toInt))) ∨ (((u.1) = 0) ∧ (((0 ≤ (sI).toInt ∧ (sI).toInt ≤ 11) ∧ 0 ≤ (tI).toInt ∧ (tI).toInt ≤ 11) ∧ (sI).toInt ≠ (tI).toInt) ∧ (mxF (((ar : Nat) : Int), vF 95, vF 96, vF 97, vF 98) (sI).toInt.toNat (tI).toInt.toNat r.toInt))) (fun (u : (Int32) × (Nat → Int32) × (Nat → Int32) × (Nat → Int32)) t => va_P (dC, dI) vwCl (WR a k h0 (fT vi 0 (u.1)) vj (fT (fT (fT vF 99 (u.2.1)) 100 (u.2.2.1)) 101 (u.2.2.2)) vG) t.heap ∧ va_D (va_A (WR a k h0 vi vj vF vG) sz) (WR a k h0 (fT vi 0 (u.1)) vj (fT (fT (fT vF 99 (u.2.1)) 100 (u.2.2.1)) 101 (u.2.2.2)) vG)) (va_A (WR a k h0 vi vj vF vG) sz)) 0 0 (va_A (WR a k h0 vi vj vF vG) sz) := by
  refine Met.ofW (cc := cX12_greatest) (maxL := 3) (ret := (some .int)) (by decide) rfl ?_
  intro p e s m args below meth c s₁ B hml hv
  obtain ⟨rfl, hsz, hP, hK, hD0⟩ := hv
  have hx := B.exec
  have hb := B.bytes
  have hr := B.returns
  have hts := atoms_spec (ws := wsRX12_greatest) B.pre
  have hown : s.vm.findClass RX12 = some m.cls := findClass_of_methodNamed B.named
  have hlocks := B.notSynchronized
  subst hsz
  have hD := hD0.self (sz := s.heap.size)
  generalize hAe : va_A (WR a k h0 vi vj vF vG) s.heap.size = A at hD ⊢
  have hA : ∀ q : Nat, s.heap.size ≤ q → A q := fun q h => by rw [← hAe]; exact Or.inr h
  have hS : va_S A s.heap s.heap [] := va_S.rf
  have hl := lv_entry ([.ref h0, .int sI, .int tI]) (n := 3) (Nat.le_of_ble_eq_true rfl)
  rw [lg_entry_eq]
  generalize (lg_sl ([.ref h0, .int sI, .int tI]) ++ List.replicate (3 - (lg_sl ([.ref h0, .int sI, .int tI])).length) Slot.unset).toArray = ls at hl ⊢
  have hl : lv_has ls 3 [(0, .ref h0), (1, .int sI), (2, .int tI)] := hl
  refine lv_aload_n hx hb dX12_greatest_0 rfl (lv_at hl 0 rfl) ?_
  refine lv_iload_n hx hb dX12_greatest_1 rfl (lv_at hl 1 rfl) ?_
  refine lv_iload_n hx hb dX12_greatest_2 rfl (lv_at hl 2 rfl) ?_
  have hFc := allFree hD hS hA
  refine va_calli (va_runV (As := [.int sI, .int tI]) (rest := []) ⟨hx, hb, hml, hown, hts⟩ (r_X12_areEnds l dC dI a k h0 vi vj vF vG sI tI s.heap.size) (cwV 2 hts gwsRX12_greatest_0 rfl rfl rfl hd_yX12_areEnds_RX12 (by decide +kernel)) (fz_pre (va_recv hK hP (ci := 12) (q0 := 0) rfl rfl) hP hK hD) rfl rfl hl.1 rfl (lv_room (Nat.le_of_ble_eq_true rfl)) dX12_greatest_3 (by decide +kernel)) hS (fun q _ h => hFc q h) hFc (fun r3 th3 t9_ H locs ht hvm hw9 hB9 hz1 hk1 hS => ?_)
  have hP : va_P (dC, dI) vwCl (WR a k h0 (fT vi 0 th3) vj vF vG) H := fz_P ht hB9.1
  have hD : va_D A (WR a k h0 (fT vi 0 th3) vj vF vG) := hB9.2.weaken (fun _ q _ h => hFc q.1 h)
  rcases hw9 with ⟨rfl, f3_0, f3_1, f3_2, f3_3⟩ | ⟨rfl, f3_0⟩
  · refine lv_if_eq (tgt := 21) hx hb dX12_greatest_6 (by decide) (fun c9 => absurd c9 (by decide)) (fun _ => ?_)
    obtain ⟨sN, hsN, esN⟩ := of_toInt (x := sI) (k := 12) (by omega) (by omega)
    subst esN
    obtain ⟨tN, htN, etN⟩ := of_toInt (x := tI) (k := 12) (by omega) (by omega)
    subst etN
    have htsn : tN ≠ sN := fun e9 => f3_2 (by rw [e9])
    have es9 : (nI sN).toInt.toNat = sN := by rw [nI_toInt (by omega)]; omega
    have et9 : (nI tN).toInt.toNat = tN := by rw [nI_toInt (by omega)]; omega
    refine lv_aload_n hx hb dX12_greatest_9 rfl (lv_at hl 0 rfl) ?_
    refine lv_iload_n hx hb dX12_greatest_10 rfl (lv_at hl 1 rfl) ?_
    refine lv_iload_n hx hb dX12_greatest_11 rfl (lv_at hl 2 rfl) ?_
    refine lv_ldcw (v := 100000) hx hb hown (hts (.constant RX12 1082 100000) (by decide +kernel)) dX12_greatest_12 ?_
    have hFc := allFree hD hS hA
    refine va_calli (va_runV (As := [.int (nI sN), .int (nI tN), .int 100000]) (rest := []) ⟨hx, hb, hml, hown, hts⟩ (r_X12_send l dC dI a k h0 (fT vi 0 th3) vj vF vG ar sN tN 100000 har (by first | with_reducible assumption | decide | omega | rfl | assumption) (by first | with_reducible assumption | decide | omega | rfl | assumption) (by first | with_reducible assumption | decide | omega | rfl | assumption) (by first | with_reducible assumption | decide | omega | rfl | assumption) (by first | with_reducible assumption | decide | omega | rfl | assumption) H.size) (cwV 3 hts gwsRX12_greatest_1 rfl rfl rfl hd_yX12_send_RX12 (by decide +kernel)) (fz_pre (va_recv hK hP (ci := 12) (q0 := 0) rfl rfl) hP hK hD) rfl rfl hl.1 rfl (lv_room (Nat.le_of_ble_eq_true rfl)) dX12_greatest_15 (by decide +kernel)) hS (fun q _ h => hFc q h) hFc (fun r15 u t9_ H locs ht hvm hw9 hB9 hz1 hk1 hS => ?_)
    revert u hw9 hB9
    refine fz_p3 ?_
    intro g9915 g10015 g10115 hw9 hB9
    try dsimp only at hw9 hB9
    have hP : va_P (dC, dI) vwCl (WR a k h0 (fT vi 0 th3) vj (fT (fT (fT vF 99 g9915) 100 g10015) 101 g10115) vG) H := fz_P ht hB9.1
    have hD : va_D A (WR a k h0 (fT vi 0 th3) vj (fT (fT (fT vF 99 g9915) 100 g10015) 101 g10115) vG) := hB9.2.weaken (fun _ q _ h => hFc q.1 h)
    revert hw9
    refine fz_a6 ?_
    intro f15_0 f15_1 f15_2 f15_3 f15_4 f15_5
    have f15_0 : FlO (vF 97) g9915 ar := f15_0
    have f15_1 : rsI (((ar : Nat) : Int), (vF 95), (vF 96), (vF 97), (vF 98)) sN tN (fI g9915) r15.toInt ar := f15_1
    have f15_2 : r15.toInt < (100000 : Int32).toInt → ∃ R, sep sN tN R ∧ flC (((ar : Nat) : Int), (vF 95), (vF 96), (vF 97), (vF 98)) (fI g9915) R ar := f15_2
    have f15_4 : ∃ p, PoO (vF 95) (vF 96) (vF 97) (vF 98) g9915 ar (fun _ => True) p := f15_4
    refine lv_goto (tgt := 22) hx hb dX12_greatest_18 (by decide) ?_
    refine W.widen (k := 0) (n := 0) (by decide +kernel) (by decide +kernel) ?_
    exact W.iret (v := r15) hx hb hr (fun t9_ ht hW => ⟨⟨r15, (th3, g9915, g10015, g10115), rfl, by (try dsimp only); exact Or.inr ⟨f3_3, ⟨by omega, fun e9 => f3_2 (Int32.toInt_inj.mp e9)⟩, by rw [es9, et9]; exact rsI.great hAr har40 f15_0 htsn f15_1 f15_2 (by decide)⟩, by rw [ht]; exact hP, hD⟩, hS.F ht⟩) hS.2.2 dX12_greatest_22
  · refine lv_if_eq (tgt := 21) hx hb dX12_greatest_6 (by decide) (fun _ => ?_) (fun c9 => absurd (by decide) c9)
    refine lv_iconst (v := 0) hx hb dX12_greatest_21 (by decide) ?_
    refine W.widen (k := 0) (n := 0) (by decide +kernel) (by decide +kernel) ?_
    have e9 : fT (fT (fT vF 99 (vF 99)) 100 (vF 100)) 101 (vF 101) = vF := (fT_id _ _ ((fT_ne _ _ (Nat.ne_of_beq_eq_false rfl)).trans (fT_ne _ _ (Nat.ne_of_beq_eq_false rfl)))).trans ((fT_id _ _ (fT_ne _ _ (Nat.ne_of_beq_eq_false rfl))).trans (fT_id _ _ (rfl)))
    have hP : va_P (dC, dI) vwCl (WR a k h0 (fT vi 0 th3) vj (fT (fT (fT vF 99 (vF 99)) 100 (vF 100)) 101 (vF 101)) vG) H := by rw [e9]; exact hP
    have hD : va_D A (WR a k h0 (fT vi 0 th3) vj (fT (fT (fT vF 99 (vF 99)) 100 (vF 100)) 101 (vF 101)) vG) := by rw [e9]; exact hD
    clear e9
    exact W.iret (v := 0) hx hb hr (fun t9_ ht hW => ⟨⟨0, (th3, (vF 99), (vF 100), (vF 101)), rfl, by (try dsimp only); exact Or.inl f3_0, by rw [ht]; exact hP, hD⟩, hS.F ht⟩) hS.2.2 dX12_greatest_22
theorem dX12_cheapest_0 : decode cX12_cheapest 0 = .ok (.aload_n 0, 1) := dk_42 (by decide +kernel)
theorem dX12_cheapest_1 : decode cX12_cheapest 1 = .ok (.iload_n 1, 1) := dk_27 (by decide +kernel)
theorem dX12_cheapest_2 : decode cX12_cheapest 2 = .ok (.iload_n 2, 1) := dk_28 (by decide +kernel)
theorem dX12_cheapest_3 : decode cX12_cheapest 3 = .ok (.invokevirtual 1079, 3) := dk_182 (by decide +kernel)
theorem dX12_cheapest_6 : decode cX12_cheapest 6 = .ok (.ifCond .ne 5, 3) := dk_154 (by decide +kernel)
theorem dX12_cheapest_9 : decode cX12_cheapest 9 = .ok (.iconst 0, 1) := dk_3 (by decide +kernel)
theorem dX12_cheapest_10 : decode cX12_cheapest 10 = .ok (.ireturn, 1) := dk_172 (by decide +kernel)
theorem dX12_cheapest_11 : decode cX12_cheapest 11 = .ok (.iload_n 3, 1) := dk_29 (by decide +kernel)
theorem dX12_cheapest_12 : decode cX12_cheapest 12 = .ok (.ifCond .lt 14, 3) := dk_155 (by decide +kernel)
theorem dX12_cheapest_15 : decode cX12_cheapest 15 = .ok (.aload_n 0, 1) := dk_42 (by decide +kernel)
theorem dX12_cheapest_16 : decode cX12_cheapest 16 = .ok (.iload_n 1, 1) := dk_27 (by decide +kernel)
theorem dX12_cheapest_17 : decode cX12_cheapest 17 = .ok (.iload_n 2, 1) := dk_28 (by decide +kernel)
theorem dX12_cheapest_18 : decode cX12_cheapest 18 = .ok (.iload_n 3, 1) := dk_29 (by decide +kernel)
theorem dX12_cheapest_19 : decode cX12_cheapest 19 = .ok (.invokevirtual 1083, 3) := dk_182 (by decide +kernel)
theorem dX12_cheapest_22 : decode cX12_cheapest 22 = .ok (.iload_n 3, 1) := dk_29 (by decide +kernel)
theorem dX12_cheapest_23 : decode cX12_cheapest 23 = .ok (.if_icmp .ge 5, 3) := dk_162 (by decide +kernel)
theorem dX12_cheapest_26 : decode cX12_cheapest 26 = .ok (.iconst (-1), 1) := dk_2 (by decide +kernel)
theorem dX12_cheapest_27 : decode cX12_cheapest 27 = .ok (.ireturn, 1) := dk_172 (by decide +kernel)
theorem dX12_cheapest_28 : decode cX12_cheapest 28 = .ok (.iconst 0, 1) := dk_3 (by decide +kernel)
theorem dX12_cheapest_29 : decode cX12_cheapest 29 = .ok (.istore 4, 2) := dk_54 (by decide +kernel)
theorem dX12_cheapest_31 : decode cX12_cheapest 31 = .ok (.iconst 0, 1) := dk_3 (by decide +kernel)
theorem dX12_cheapest_32 : decode cX12_cheapest 32 = .ok (.istore 5, 2) := dk_54 (by decide +kernel)
theorem dX12_cheapest_34 : decode cX12_cheapest 34 = .ok (.iload 5, 2) := dk_21 (by decide +kernel)
theorem dX12_cheapest_36 : decode cX12_cheapest 36 = .ok (.aload_n 0, 1) := dk_42 (by decide +kernel)
theorem dX12_cheapest_37 : decode cX12_cheapest 37 = .ok (.getfield 1069, 3) := dk_180 (by decide +kernel)
theorem dX12_cheapest_40 : decode cX12_cheapest 40 = .ok (.if_icmp .ge 29, 3) := dk_162 (by decide +kernel)
theorem dX12_cheapest_43 : decode cX12_cheapest 43 = .ok (.iload 4, 2) := dk_21 (by decide +kernel)
theorem dX12_cheapest_45 : decode cX12_cheapest 45 = .ok (.aload_n 0, 1) := dk_42 (by decide +kernel)
theorem dX12_cheapest_46 : decode cX12_cheapest 46 = .ok (.getfield 324, 3) := dk_180 (by decide +kernel)
theorem dX12_cheapest_49 : decode cX12_cheapest 49 = .ok (.iload 5, 2) := dk_21 (by decide +kernel)
theorem dX12_cheapest_51 : decode cX12_cheapest 51 = .ok (.iaload, 1) := dk_46 (by decide +kernel)
theorem dX12_cheapest_52 : decode cX12_cheapest 52 = .ok (.aload_n 0, 1) := dk_42 (by decide +kernel)
theorem dX12_cheapest_53 : decode cX12_cheapest 53 = .ok (.getfield 321, 3) := dk_180 (by decide +kernel)
theorem dX12_cheapest_56 : decode cX12_cheapest 56 = .ok (.iload 5, 2) := dk_21 (by decide +kernel)
theorem dX12_cheapest_58 : decode cX12_cheapest 58 = .ok (.iaload, 1) := dk_46 (by decide +kernel)
theorem dX12_cheapest_59 : decode cX12_cheapest 59 = .ok (.imul, 1) := dk_104 (by decide +kernel)
theorem dX12_cheapest_60 : decode cX12_cheapest 60 = .ok (.iadd, 1) := dk_96 (by decide +kernel)
theorem dX12_cheapest_61 : decode cX12_cheapest 61 = .ok (.istore 4, 2) := dk_54 (by decide +kernel)
theorem dX12_cheapest_63 : decode cX12_cheapest 63 = .ok (.iinc 5 1, 3) := dk_132 (by decide +kernel)
theorem dX12_cheapest_66 : decode cX12_cheapest 66 = .ok (.goto (-32), 3) := dk_167 (by decide +kernel)
theorem dX12_cheapest_69 : decode cX12_cheapest 69 = .ok (.iload 4, 2) := dk_21 (by decide +kernel)
theorem dX12_cheapest_71 : decode cX12_cheapest 71 = .ok (.ireturn, 1) := dk_172 (by decide +kernel)
def wsRX12_cheapest : List Cond := .code yX12_cheapest cX12_cheapest 6 (some .int) :: ([.fieldLink RX12 1069 "OptimaWorksModel" "arcs" "I", .fieldLink RX12 324 "OptimaWorksModel" "flow" "[I", .fieldLink RX12 321 "OptimaWorksModel" "arcCost" "[I"] ++ wsX120 ++ (wsV RX12 1079 RX12 yX12_areEnds wsRX12_areEnds) ++ (wsV RX12 1083 RX12 yX12_send wsRX12_send))
theorem iwsRX12_cheapest_in12 : ∀ w ∈ wsX120, w ∈ wsRX12_cheapest := fun _ h => List.mem_cons_of_mem _ (List.mem_append_left _ (List.mem_append_left _ (List.mem_append_right _ h)))
theorem gwsRX12_cheapest_0 : GoodIn wsRX12_cheapest (wsV RX12 1079 RX12 yX12_areEnds wsRX12_areEnds) := goodIn_sub (fun _ h => List.mem_cons_of_mem _ (List.mem_append_left _ (List.mem_append_right _ h))) (gdV (by decide +kernel) gdwsRX12_areEnds)
theorem gwsRX12_cheapest_1 : GoodIn wsRX12_cheapest (wsV RX12 1083 RX12 yX12_send wsRX12_send) := goodIn_sub (fun _ h => List.mem_cons_of_mem _ (List.mem_append_right _ h)) (gdV (by decide +kernel) gdwsRX12_send)
theorem gdwsRX12_cheapest : wsRX12_cheapest.all goodWord = true := gdC rfl (gdA (gdA (gdA (by decide +kernel : ([.fieldLink RX12 1069 "OptimaWorksModel" "arcs" "I", .fieldLink RX12 324 "OptimaWorksModel" "flow" "[I", .fieldLink RX12 321 "OptimaWorksModel" "arcCost" "[I"] : List Cond).all goodWord = true) gdwsX120) (gdV (by decide +kernel) gdwsRX12_areEnds)) (gdV (by decide +kernel) gdwsRX12_send))
set_option maxHeartbeats 4000000 in
set_option maxRecDepth 100000 in
/-- cheapest(s, t, amount) -/
theorem r_X12_cheapest (l : Launch) (dC : Nat → ClassId) (dI : Nat → Nat → Nat) (a : Nat → Nat) (k : Nat → ClassId) (h0 : Nat) (vi : Nat → Int32) (vj : Nat → Int64) (vF : Nat → Nat → Int32) (vG : Nat → Nat → Int64) (amI : Int32) (sI : Int32) (tI : Int32) (ar : Nat) (har : vi 150 = nI ar) (har40 : ar ≤ 40) (hAr : ArO (vF 95) (vF 96) (vF 97) (vF 98) ar) (sz : Nat) : Met l yX12_cheapest wsRX12_cheapest ({ frames := 2, cells := 0, slots := 0, locals := 54 }) (va_Pc [.ref h0, .int sI, .int tI, .int amI] (fun U => U.heap.size = sz ∧ va_P (dC, dI) vwCl (WR a k h0 vi vj vF vG) U.heap ∧ va_K (dC, dI) vwCl (tX12 k) U ∧ va_D (fun _ => True) (WR a k h0 vi vj vF vG))) (va_Qi (fun (r : Int32) (u : (Int32) × (Nat → Int32) × (Nat → Int32) × (Nat → Int32)) => ((((u.1) = 1 ∧ ¬ ((0 ≤ (sI).toInt ∧ (sI).toInt ≤ 11) ∧ 0 ≤ (tI).toInt ∧ (tI).toInt ≤ 11)) ∨ ((u.1) = 2 ∧ ((0 ≤ (sI).toInt ∧ (sI).toInt ≤ 11) ∧ 0 ≤ (tI).toInt ∧ (tI).toInt ≤ 11) ∧ (sI).toInt = (tI).toInt))) ∨ (((u.1) = 0) ∧ (((0 ≤ (sI).toInt ∧ (sI).toInt ≤ 11) ∧ 0 ≤ (tI).toInt ∧ (tI).toInt ≤ 11) ∧ (sI).toInt ≠ (tI).toInt) ∧ (mnC (((ar : Nat) : Int), vF 95, vF 96, vF 97, vF 98) (sI).toInt.toNat (tI).toInt.toNat (amI).toInt r.toInt))) (fun (u : (Int32) × (Nat → Int32) × (Nat → Int32) × (Nat → Int32)) t => va_P (dC, dI) vwCl (WR a k h0 (fT vi 0 (u.1)) vj (fT (fT (fT vF 99 (u.2.1)) 100 (u.2.2.1)) 101 (u.2.2.2)) vG) t.heap ∧ va_D (va_A (WR a k h0 vi vj vF vG) sz) (WR a k h0 (fT vi 0 (u.1)) vj (fT (fT (fT vF 99 (u.2.1)) 100 (u.2.2.1)) 101 (u.2.2.2)) vG)) (va_A (WR a k h0 vi vj vF vG) sz)) 0 0 (va_A (WR a k h0 vi vj vF vG) sz) := by
  refine Met.ofW (cc := cX12_cheapest) (maxL := 6) (ret := (some .int)) (by decide) rfl ?_
  intro p e s m args below meth c s₁ B hml hv
  obtain ⟨rfl, hsz, hP, hK, hD0⟩ := hv
  have hx := B.exec
  have hb := B.bytes
  have hr := B.returns
  have hts := atoms_spec (ws := wsRX12_cheapest) B.pre
  have hown : s.vm.findClass RX12 = some m.cls := findClass_of_methodNamed B.named
  have hlocks := B.notSynchronized
  subst hsz
  have hD := hD0.self (sz := s.heap.size)
  generalize hAe : va_A (WR a k h0 vi vj vF vG) s.heap.size = A at hD ⊢
  have hA : ∀ q : Nat, s.heap.size ≤ q → A q := fun q h => by rw [← hAe]; exact Or.inr h
  have hS : va_S A s.heap s.heap [] := va_S.rf
  have hl := lv_entry ([.ref h0, .int sI, .int tI, .int amI]) (n := 6) (Nat.le_of_ble_eq_true rfl)
  rw [lg_entry_eq]
  generalize (lg_sl ([.ref h0, .int sI, .int tI, .int amI]) ++ List.replicate (6 - (lg_sl ([.ref h0, .int sI, .int tI, .int amI])).length) Slot.unset).toArray = ls at hl ⊢
  have hl : lv_has ls 6 [(0, .ref h0), (1, .int sI), (2, .int tI), (3, .int amI)] := hl
  refine lv_aload_n hx hb dX12_cheapest_0 rfl (lv_at hl 0 rfl) ?_
  refine lv_iload_n hx hb dX12_cheapest_1 rfl (lv_at hl 1 rfl) ?_
  refine lv_iload_n hx hb dX12_cheapest_2 rfl (lv_at hl 2 rfl) ?_
  have hFc := allFree hD hS hA
  refine va_calli (va_runV (As := [.int sI, .int tI]) (rest := []) ⟨hx, hb, hml, hown, hts⟩ (r_X12_areEnds l dC dI a k h0 vi vj vF vG sI tI s.heap.size) (cwV 2 hts gwsRX12_cheapest_0 rfl rfl rfl hd_yX12_areEnds_RX12 (by decide +kernel)) (fz_pre (va_recv hK hP (ci := 12) (q0 := 0) rfl rfl) hP hK hD) rfl rfl hl.1 rfl (lv_room (Nat.le_of_ble_eq_true rfl)) dX12_cheapest_3 (by decide +kernel)) hS (fun q _ h => hFc q h) hFc (fun r3 th3 t9_ H locs ht hvm hw9 hB9 hz1 hk1 hS => ?_)
  have hP : va_P (dC, dI) vwCl (WR a k h0 (fT vi 0 th3) vj vF vG) H := fz_P ht hB9.1
  have hD : va_D A (WR a k h0 (fT vi 0 th3) vj vF vG) := hB9.2.weaken (fun _ q _ h => hFc q.1 h)
  rcases hw9 with ⟨rfl, f3_0, f3_1, f3_2, f3_3⟩ | ⟨rfl, f3_0⟩
  · refine lv_if_ne (tgt := 11) hx hb dX12_cheapest_6 (by decide) (fun _ => ?_) (fun c9 => absurd c9 (by decide))
    obtain ⟨sN, hsN, esN⟩ := of_toInt (x := sI) (k := 12) (by omega) (by omega)
    subst esN
    obtain ⟨tN, htN, etN⟩ := of_toInt (x := tI) (k := 12) (by omega) (by omega)
    subst etN
    have htsn : tN ≠ sN := fun e9 => f3_2 (by rw [e9])
    have es9 : (nI sN).toInt.toNat = sN := by rw [nI_toInt (by omega)]; omega
    have et9 : (nI tN).toInt.toNat = tN := by rw [nI_toInt (by omega)]; omega
    refine lv_iload_n hx hb dX12_cheapest_11 rfl (lv_at hl 3 rfl) ?_
    refine lv_if_lt (tgt := 26) hx hb dX12_cheapest_12 (by decide) (fun c_12 => ?_) (fun c_12 => ?_)
    · have t_12 : (amI).toInt < 0 := toI_lt c_12 rfl (by decide)
      refine lv_iconst (v := (-1)) hx hb dX12_cheapest_26 (by decide) ?_
      refine W.widen (k := 0) (n := 0) (by decide +kernel) (by decide +kernel) ?_
      have e9 : fT (fT (fT vF 99 (vF 99)) 100 (vF 100)) 101 (vF 101) = vF := (fT_id _ _ ((fT_ne _ _ (Nat.ne_of_beq_eq_false rfl)).trans (fT_ne _ _ (Nat.ne_of_beq_eq_false rfl)))).trans ((fT_id _ _ (fT_ne _ _ (Nat.ne_of_beq_eq_false rfl))).trans (fT_id _ _ (rfl)))
      have hP : va_P (dC, dI) vwCl (WR a k h0 (fT vi 0 th3) vj (fT (fT (fT vF 99 (vF 99)) 100 (vF 100)) 101 (vF 101)) vG) H := by rw [e9]; exact hP
      have hD : va_D A (WR a k h0 (fT vi 0 th3) vj (fT (fT (fT vF 99 (vF 99)) 100 (vF 100)) 101 (vF 101)) vG) := by rw [e9]; exact hD
      clear e9
      exact W.iret (v := (-1)) hx hb hr (fun t9_ ht hW => ⟨⟨(-1), (th3, (vF 99), (vF 100), (vF 101)), rfl, by (try dsimp only); exact Or.inr ⟨f3_3, ⟨by omega, fun e9 => f3_2 (Int32.toInt_inj.mp e9)⟩, by rw [es9, et9]; exact Or.inl ⟨t_12, by decide⟩⟩, by rw [ht]; exact hP, hD⟩, hS.F ht⟩) hS.2.2 dX12_cheapest_27
    · have t_12 : ¬ (amI).toInt < 0 := toI_nlt c_12 rfl (by decide)
      refine lv_aload_n hx hb dX12_cheapest_15 rfl (lv_at hl 0 rfl) ?_
      refine lv_iload_n hx hb dX12_cheapest_16 rfl (lv_at hl 1 rfl) ?_
      refine lv_iload_n hx hb dX12_cheapest_17 rfl (lv_at hl 2 rfl) ?_
      refine lv_iload_n hx hb dX12_cheapest_18 rfl (lv_at hl 3 rfl) ?_
      have hFc := allFree hD hS hA
      refine va_calli (va_runV (As := [.int (nI sN), .int (nI tN), .int amI]) (rest := []) ⟨hx, hb, hml, hown, hts⟩ (r_X12_send l dC dI a k h0 (fT vi 0 th3) vj vF vG ar sN tN amI har (by first | with_reducible assumption | decide | omega | rfl | assumption) (by first | with_reducible assumption | decide | omega | rfl | assumption) (by first | with_reducible assumption | decide | omega | rfl | assumption) (by first | with_reducible assumption | decide | omega | rfl | assumption) (by first | with_reducible assumption | decide | omega | rfl | assumption) H.size) (cwV 3 hts gwsRX12_cheapest_1 rfl rfl rfl hd_yX12_send_RX12 (by decide +kernel)) (fz_pre (va_recv hK hP (ci := 12) (q0 := 0) rfl rfl) hP hK hD) rfl rfl hl.1 rfl (lv_room (Nat.le_of_ble_eq_true rfl)) dX12_cheapest_19 (by decide +kernel)) hS (fun q _ h => hFc q h) hFc (fun r19 u t9_ H locs ht hvm hw9 hB9 hz1 hk1 hS => ?_)
      revert u hw9 hB9
      refine fz_p3 ?_
      intro g9919 g10019 g10119 hw9 hB9
      try dsimp only at hw9 hB9
      have hP : va_P (dC, dI) vwCl (WR a k h0 (fT vi 0 th3) vj (fT (fT (fT vF 99 g9919) 100 g10019) 101 g10119) vG) H := fz_P ht hB9.1
      have hD : va_D A (WR a k h0 (fT vi 0 th3) vj (fT (fT (fT vF 99 g9919) 100 g10019) 101 g10119) vG) := hB9.2.weaken (fun _ q _ h => hFc q.1 h)
      revert hw9
      refine fz_a6 ?_
      intro f19_0 f19_1 f19_2 f19_3 f19_4 f19_5
      have f19_0 : FlO (vF 97) g9919 ar := f19_0
      have f19_1 : rsI (((ar : Nat) : Int), (vF 95), (vF 96), (vF 97), (vF 98)) sN tN (fI g9919) r19.toInt ar := f19_1
      have f19_2 : r19.toInt < (amI : Int32).toInt → ∃ R, sep sN tN R ∧ flC (((ar : Nat) : Int), (vF 95), (vF 96), (vF 97), (vF 98)) (fI g9919) R ar := f19_2
      have f19_4 : ∃ p, PoO (vF 95) (vF 96) (vF 97) (vF 98) g9919 ar (fun _ => True) p := f19_4
      refine lv_iload_n hx hb dX12_cheapest_22 rfl (lv_at hl 3 rfl) ?_
      refine lv_icmp_ge (tgt := 28) hx hb dX12_cheapest_23 (by decide) (fun c_23 => ?_) (fun c_23 => ?_)
      · have t_23 : (r19).toInt ≥ (amI).toInt := toI_ge c_23 rfl rfl
        refine lv_iconst (v := 0) hx hb dX12_cheapest_28 (by decide) ?_
        refine lv_istore hx hb dX12_cheapest_29 hl (by decide) rfl (fun ls (hl : lv_has ls _ ([(4, .int 0), (0, .ref h0), (1, .int (nI sN)), (2, .int (nI tN)), (3, .int amI)])) => ?_)
        refine lv_iconst (v := 0) hx hb dX12_cheapest_31 (by decide) ?_
        refine lv_istore hx hb dX12_cheapest_32 hl (by decide) rfl (fun ls (hl : lv_has ls _ ([(5, .int 0), (4, .int 0), (0, .ref h0), (1, .int (nI sN)), (2, .int (nI tN)), (3, .int amI)])) => ?_)
        have hl : lv_has _ _ ([(0, .ref h0), (4, .int 0), (5, .int (nI 0))]) := lv_sub hl [2, 1, 0] rfl
        refine (fun (loop : ∀ (n9 : Nat) (a5 : Nat) (nq : Int32) (H : Heap) (locs : List Loc) (ls : Array Slot), (a5 ≤ ar) → ((nq).toInt = csA (((ar : Nat) : Int), vF 95, vF 96, vF 97, vF 98) (fI g9919) a5 ∧ 0 ≤ (nq).toInt ∧ (nq).toInt ≤ 1000000 * ((a5 : Nat) : Int)) →  (ar < a5 + n9) → va_P (dC, dI) vwCl (WR a k h0 (fT vi 0 th3) vj (fT (fT (fT vF 99 g9919) 100 g10019) 101 g10119) vG) H → va_D A (WR a k h0 (fT vi 0 th3) vj (fT (fT (fT vF 99 g9919) 100 g10019) 101 g10119) vG) → va_S A s.heap H locs → lv_has ls 6 [(0, .ref h0), (4, .int nq), (5, .int (nI a5))] → W p l e _ s m _ below meth c H locs 0 0 _ (F0 m 34 ls [])) => loop (ar + 1) 0 0 _ _ _ (by omega) (⟨(show (0 : Int32).toInt = 0 from by decide), by decide, by decide⟩) (by omega) hP hD hS hl) ?_
        intro n9
        induction n9 with
        | zero => intro a5 nq H locs ls ha5 hcs hf9; exact False.elim (by omega)
        | succ n9 ih34 =>
          intro a5 nq H locs ls ha5 hcs hf34 hP hD hS hl
          refine lv_iload hx hb dX12_cheapest_34 (lv_at hl 2 rfl) ?_
          refine lv_aload_n hx hb dX12_cheapest_36 rfl (lv_at hl 0 rfl) ?_
          refine va_get (D := (dC, dI)) (ci := 12) (v := .int (vi 150)) (C := RX12) (T := TX12) (N := 163) (fs := fM (vS a (fT vi 0 th3) vj)) hx hb hts iwsRX12_cheapest_in12 hown hK hP 0 rfl rfl 150 (by decide) (hts (.fieldLink RX12 1069 "OptimaWorksModel" "arcs" "I") (by decide +kernel)) (fun _ h9 => h9) rfl dX12_cheapest_37 ?_
          refine lv_topi (fun y1 hy1 => ?_)
          obtain rfl : (nI ar) = y1 := (hy1.trans (har)).symm
          refine lv_icmp_ge (tgt := 69) hx hb dX12_cheapest_40 (by decide) (fun c_40 => ?_) (fun c_40 => ?_)
          · have t_40 : ((a5 : Nat) : Int) ≥ ((ar : Nat) : Int) := toI_ge c_40 (nI_toInt (by omega)) (nI_toInt (by omega))
            refine lv_iload hx hb dX12_cheapest_69 (lv_at hl 1 rfl) ?_
            refine W.widen (k := 0) (n := 0) (by decide +kernel) (by decide +kernel) ?_
            exact W.iret (v := nq) hx hb hr (fun t9_ ht hW => ⟨⟨nq, (th3, g9919, g10019, g10119), rfl, by (try dsimp only); exact Or.inr ⟨f3_3, ⟨by omega, fun e9 => f3_2 (Int32.toInt_inj.mp e9)⟩, by rw [es9, et9]; exact mnC.some hAr f19_0 f19_1 f19_4 (by omega) (by omega) (by (have h9 := hcs.1); rw [show a5 = ar from by omega] at h9; exact h9)⟩, by rw [ht]; exact hP, hD⟩, hS.F ht⟩) hS.2.2 dX12_cheapest_71
          · have t_40 : ¬ ((a5 : Nat) : Int) ≥ ((ar : Nat) : Int) := toI_nge c_40 (nI_toInt (by omega)) (nI_toInt (by omega))
            obtain ⟨x5, yB, hx5, hyB, hxy5, ex5, eyB, hr5, hc5⟩ := hAr a5 (by omega)
            have hfl5 := f19_0 a5 (by omega)
            refine lv_iload hx hb dX12_cheapest_43 (lv_at hl 1 rfl) ?_
            refine lv_aload_n hx hb dX12_cheapest_45 rfl (lv_at hl 0 rfl) ?_
            refine va_get (D := (dC, dI)) (ci := 12) (v := .ref (a 99)) (C := RX12) (T := TX12) (N := 163) (fs := fM (vS a (fT vi 0 th3) vj)) hx hb hts iwsRX12_cheapest_in12 hown hK hP 0 rfl rfl 155 (by decide) (hts (.fieldLink RX12 324 "OptimaWorksModel" "flow" "[I") (by decide +kernel)) (fun _ h9 => h9) rfl dX12_cheapest_46 ?_
            refine lv_iload hx hb dX12_cheapest_49 (lv_at hl 2 rfl) ?_
            refine va_iald (cA := k 99) (n := 40) (f := g9919) hx hb hK hP 100 99 (WR_get 99 (by decide)) (TR_get 99 (by decide)) (vp_in_nI (show a5 < 40 by omega) (by omega)) dX12_cheapest_51 ?_
            refine lv_topi (fun y2 hy2 => ?_)
            obtain rfl : (g9919 a5) = y2 := (hy2.trans (by rw [nI_clamp (by omega)])).symm
            refine lv_aload_n hx hb dX12_cheapest_52 rfl (lv_at hl 0 rfl) ?_
            refine va_get (D := (dC, dI)) (ci := 12) (v := .ref (a 98)) (C := RX12) (T := TX12) (N := 163) (fs := fM (vS a (fT vi 0 th3) vj)) hx hb hts iwsRX12_cheapest_in12 hown hK hP 0 rfl rfl 154 (by decide) (hts (.fieldLink RX12 321 "OptimaWorksModel" "arcCost" "[I") (by decide +kernel)) (fun _ h9 => h9) rfl dX12_cheapest_53 ?_
            refine lv_iload hx hb dX12_cheapest_56 (lv_at hl 2 rfl) ?_
            refine va_iald (cA := k 98) (n := 40) (f := (vF 98)) hx hb hK hP 99 98 (WR_get 98 (by decide)) (TR_get 98 (by decide)) (vp_in_nI (show a5 < 40 by omega) (by omega)) dX12_cheapest_58 ?_
            refine lv_topi (fun y3 hy3 => ?_)
            obtain rfl : ((vF 98) a5) = y3 := (hy3.trans (by rw [nI_clamp (by omega)])).symm
            refine lv_imul hx hb dX12_cheapest_59 ?_
            refine lv_iadd hx hb dX12_cheapest_60 ?_
            refine lv_istore hx hb dX12_cheapest_61 hl (by decide) rfl (fun ls (hl : lv_has ls _ ([(4, .int (nq + ((g9919 a5) * ((vF 98) a5)))), (0, .ref h0), (5, .int (nI a5))])) => ?_)
            refine lv_iinc (v := (nI (a5 + 1))) hx hb dX12_cheapest_63 hl (k := 2) rfl (nI_add a5 1) (by decide) rfl (fun ls (hl : lv_has ls _ ([(5, .int (nI (a5 + 1))), (4, .int (nq + ((g9919 a5) * ((vF 98) a5)))), (0, .ref h0)])) => ?_)
            refine lv_goto (tgt := 34) hx hb dX12_cheapest_66 (by decide) ?_
            have hl : lv_has _ _ ([(0, .ref h0), (4, .int (nq + ((g9919 a5) * ((vF 98) a5)))), (5, .int (nI (a5 + 1)))]) := lv_sub hl [2, 1, 0] rfl
            exact ih34 (a5 + 1) (nq + ((g9919 a5) * ((vF 98) a5))) _ _ _ (by omega) (csA.step hcs (by omega) rfl rfl (by omega) hc5) (by omega) hP hD hS hl
      · have t_23 : ¬ (r19).toInt ≥ (amI).toInt := toI_nge c_23 rfl rfl
        refine lv_iconst (v := (-1)) hx hb dX12_cheapest_26 (by decide) ?_
        refine W.widen (k := 0) (n := 0) (by decide +kernel) (by decide +kernel) ?_
        exact W.iret (v := (-1)) hx hb hr (fun t9_ ht hW => ⟨⟨(-1), (th3, g9919, g10019, g10119), rfl, by (try dsimp only); exact Or.inr ⟨f3_3, ⟨by omega, fun e9 => f3_2 (Int32.toInt_inj.mp e9)⟩, by rw [es9, et9]; exact mnC.none f19_0 f19_1 f19_2 (by omega) (by omega) (by decide)⟩, by rw [ht]; exact hP, hD⟩, hS.F ht⟩) hS.2.2 dX12_cheapest_27
  · refine lv_if_ne (tgt := 11) hx hb dX12_cheapest_6 (by decide) (fun c9 => absurd c9 (by decide)) (fun _ => ?_)
    refine lv_iconst (v := 0) hx hb dX12_cheapest_9 (by decide) ?_
    refine W.widen (k := 0) (n := 0) (by decide +kernel) (by decide +kernel) ?_
    have e9 : fT (fT (fT vF 99 (vF 99)) 100 (vF 100)) 101 (vF 101) = vF := (fT_id _ _ ((fT_ne _ _ (Nat.ne_of_beq_eq_false rfl)).trans (fT_ne _ _ (Nat.ne_of_beq_eq_false rfl)))).trans ((fT_id _ _ (fT_ne _ _ (Nat.ne_of_beq_eq_false rfl))).trans (fT_id _ _ (rfl)))
    have hP : va_P (dC, dI) vwCl (WR a k h0 (fT vi 0 th3) vj (fT (fT (fT vF 99 (vF 99)) 100 (vF 100)) 101 (vF 101)) vG) H := by rw [e9]; exact hP
    have hD : va_D A (WR a k h0 (fT vi 0 th3) vj (fT (fT (fT vF 99 (vF 99)) 100 (vF 100)) 101 (vF 101)) vG) := by rw [e9]; exact hD
    clear e9
    exact W.iret (v := 0) hx hb hr (fun t9_ ht hW => ⟨⟨0, (th3, (vF 99), (vF 100), (vF 101)), rfl, by (try dsimp only); exact Or.inl f3_0, by rw [ht]; exact hP, hD⟩, hS.F ht⟩) hS.2.2 dX12_cheapest_10
theorem dX12_cut_0 : decode cX12_cut 0 = .ok (.aload_n 0, 1) := dk_42 (by decide +kernel)
theorem dX12_cut_1 : decode cX12_cut 1 = .ok (.iload_n 1, 1) := dk_27 (by decide +kernel)
theorem dX12_cut_2 : decode cX12_cut 2 = .ok (.iload_n 2, 1) := dk_28 (by decide +kernel)
theorem dX12_cut_3 : decode cX12_cut 3 = .ok (.invokevirtual 1079, 3) := dk_182 (by decide +kernel)
theorem dX12_cut_6 : decode cX12_cut 6 = .ok (.ifCond .ne 5, 3) := dk_154 (by decide +kernel)
theorem dX12_cut_9 : decode cX12_cut 9 = .ok (.iconst 0, 1) := dk_3 (by decide +kernel)
theorem dX12_cut_10 : decode cX12_cut 10 = .ok (.ireturn, 1) := dk_172 (by decide +kernel)
theorem dX12_cut_11 : decode cX12_cut 11 = .ok (.aload_n 0, 1) := dk_42 (by decide +kernel)
theorem dX12_cut_12 : decode cX12_cut 12 = .ok (.iload_n 1, 1) := dk_27 (by decide +kernel)
theorem dX12_cut_13 : decode cX12_cut 13 = .ok (.iload_n 2, 1) := dk_28 (by decide +kernel)
theorem dX12_cut_14 : decode cX12_cut 14 = .ok (.ldc_w 1082, 3) := dk_19 (by decide +kernel)
theorem dX12_cut_17 : decode cX12_cut 17 = .ok (.invokevirtual 1083, 3) := dk_182 (by decide +kernel)
theorem dX12_cut_20 : decode cX12_cut 20 = .ok (.pop, 1) := dk_87 (by decide +kernel)
theorem dX12_cut_21 : decode cX12_cut 21 = .ok (.iconst 1, 1) := dk_4 (by decide +kernel)
theorem dX12_cut_22 : decode cX12_cut 22 = .ok (.iload_n 1, 1) := dk_27 (by decide +kernel)
theorem dX12_cut_23 : decode cX12_cut 23 = .ok (.ishl, 1) := dk_120 (by decide +kernel)
theorem dX12_cut_24 : decode cX12_cut 24 = .ok (.istore_n 3, 1) := dk_62 (by decide +kernel)
theorem dX12_cut_25 : decode cX12_cut 25 = .ok (.iconst 1, 1) := dk_4 (by decide +kernel)
theorem dX12_cut_26 : decode cX12_cut 26 = .ok (.istore 4, 2) := dk_54 (by decide +kernel)
theorem dX12_cut_28 : decode cX12_cut 28 = .ok (.iload 4, 2) := dk_21 (by decide +kernel)
theorem dX12_cut_30 : decode cX12_cut 30 = .ok (.ifCond .eq 169, 3) := dk_153 (by decide +kernel)
theorem dX12_cut_33 : decode cX12_cut 33 = .ok (.iconst 0, 1) := dk_3 (by decide +kernel)
theorem dX12_cut_34 : decode cX12_cut 34 = .ok (.istore 4, 2) := dk_54 (by decide +kernel)
theorem dX12_cut_36 : decode cX12_cut 36 = .ok (.iconst 0, 1) := dk_3 (by decide +kernel)
theorem dX12_cut_37 : decode cX12_cut 37 = .ok (.istore 5, 2) := dk_54 (by decide +kernel)
theorem dX12_cut_39 : decode cX12_cut 39 = .ok (.iload 5, 2) := dk_21 (by decide +kernel)
theorem dX12_cut_41 : decode cX12_cut 41 = .ok (.aload_n 0, 1) := dk_42 (by decide +kernel)
theorem dX12_cut_42 : decode cX12_cut 42 = .ok (.getfield 1069, 3) := dk_180 (by decide +kernel)
theorem dX12_cut_45 : decode cX12_cut 45 = .ok (.if_icmp .ge 151, 3) := dk_162 (by decide +kernel)
theorem dX12_cut_48 : decode cX12_cut 48 = .ok (.aload_n 0, 1) := dk_42 (by decide +kernel)
theorem dX12_cut_49 : decode cX12_cut 49 = .ok (.getfield 324, 3) := dk_180 (by decide +kernel)
theorem dX12_cut_52 : decode cX12_cut 52 = .ok (.iload 5, 2) := dk_21 (by decide +kernel)
theorem dX12_cut_54 : decode cX12_cut 54 = .ok (.iaload, 1) := dk_46 (by decide +kernel)
theorem dX12_cut_55 : decode cX12_cut 55 = .ok (.aload_n 0, 1) := dk_42 (by decide +kernel)
theorem dX12_cut_56 : decode cX12_cut 56 = .ok (.getfield 318, 3) := dk_180 (by decide +kernel)
theorem dX12_cut_59 : decode cX12_cut 59 = .ok (.iload 5, 2) := dk_21 (by decide +kernel)
theorem dX12_cut_61 : decode cX12_cut 61 = .ok (.iaload, 1) := dk_46 (by decide +kernel)
theorem dX12_cut_62 : decode cX12_cut 62 = .ok (.if_icmp .ge 36, 3) := dk_162 (by decide +kernel)
theorem dX12_cut_65 : decode cX12_cut 65 = .ok (.iload_n 3, 1) := dk_29 (by decide +kernel)
theorem dX12_cut_66 : decode cX12_cut 66 = .ok (.aload_n 0, 1) := dk_42 (by decide +kernel)
theorem dX12_cut_67 : decode cX12_cut 67 = .ok (.getfield 312, 3) := dk_180 (by decide +kernel)
theorem dX12_cut_70 : decode cX12_cut 70 = .ok (.iload 5, 2) := dk_21 (by decide +kernel)
theorem dX12_cut_72 : decode cX12_cut 72 = .ok (.iaload, 1) := dk_46 (by decide +kernel)
theorem dX12_cut_73 : decode cX12_cut 73 = .ok (.ishr, 1) := dk_122 (by decide +kernel)
theorem dX12_cut_74 : decode cX12_cut 74 = .ok (.iconst 1, 1) := dk_4 (by decide +kernel)
theorem dX12_cut_75 : decode cX12_cut 75 = .ok (.iand, 1) := dk_126 (by decide +kernel)
theorem dX12_cut_76 : decode cX12_cut 76 = .ok (.iconst 1, 1) := dk_4 (by decide +kernel)
theorem dX12_cut_77 : decode cX12_cut 77 = .ok (.if_icmp .ne 21, 3) := dk_160 (by decide +kernel)
theorem dX12_cut_80 : decode cX12_cut 80 = .ok (.iload_n 3, 1) := dk_29 (by decide +kernel)
theorem dX12_cut_81 : decode cX12_cut 81 = .ok (.aload_n 0, 1) := dk_42 (by decide +kernel)
theorem dX12_cut_82 : decode cX12_cut 82 = .ok (.getfield 315, 3) := dk_180 (by decide +kernel)
theorem dX12_cut_85 : decode cX12_cut 85 = .ok (.iload 5, 2) := dk_21 (by decide +kernel)
theorem dX12_cut_87 : decode cX12_cut 87 = .ok (.iaload, 1) := dk_46 (by decide +kernel)
theorem dX12_cut_88 : decode cX12_cut 88 = .ok (.ishr, 1) := dk_122 (by decide +kernel)
theorem dX12_cut_89 : decode cX12_cut 89 = .ok (.iconst 1, 1) := dk_4 (by decide +kernel)
theorem dX12_cut_90 : decode cX12_cut 90 = .ok (.iand, 1) := dk_126 (by decide +kernel)
theorem dX12_cut_91 : decode cX12_cut 91 = .ok (.ifCond .ne 7, 3) := dk_154 (by decide +kernel)
theorem dX12_cut_94 : decode cX12_cut 94 = .ok (.iconst 1, 1) := dk_4 (by decide +kernel)
theorem dX12_cut_95 : decode cX12_cut 95 = .ok (.goto 4, 3) := dk_167 (by decide +kernel)
theorem dX12_cut_98 : decode cX12_cut 98 = .ok (.iconst 0, 1) := dk_3 (by decide +kernel)
theorem dX12_cut_99 : decode cX12_cut 99 = .ok (.istore 6, 2) := dk_54 (by decide +kernel)
theorem dX12_cut_101 : decode cX12_cut 101 = .ok (.aload_n 0, 1) := dk_42 (by decide +kernel)
theorem dX12_cut_102 : decode cX12_cut 102 = .ok (.getfield 324, 3) := dk_180 (by decide +kernel)
theorem dX12_cut_105 : decode cX12_cut 105 = .ok (.iload 5, 2) := dk_21 (by decide +kernel)
theorem dX12_cut_107 : decode cX12_cut 107 = .ok (.iaload, 1) := dk_46 (by decide +kernel)
theorem dX12_cut_108 : decode cX12_cut 108 = .ok (.ifCond .le 36, 3) := dk_158 (by decide +kernel)
theorem dX12_cut_111 : decode cX12_cut 111 = .ok (.iload_n 3, 1) := dk_29 (by decide +kernel)
theorem dX12_cut_112 : decode cX12_cut 112 = .ok (.aload_n 0, 1) := dk_42 (by decide +kernel)
theorem dX12_cut_113 : decode cX12_cut 113 = .ok (.getfield 315, 3) := dk_180 (by decide +kernel)
theorem dX12_cut_116 : decode cX12_cut 116 = .ok (.iload 5, 2) := dk_21 (by decide +kernel)
theorem dX12_cut_118 : decode cX12_cut 118 = .ok (.iaload, 1) := dk_46 (by decide +kernel)
theorem dX12_cut_119 : decode cX12_cut 119 = .ok (.ishr, 1) := dk_122 (by decide +kernel)
theorem dX12_cut_120 : decode cX12_cut 120 = .ok (.iconst 1, 1) := dk_4 (by decide +kernel)
theorem dX12_cut_121 : decode cX12_cut 121 = .ok (.iand, 1) := dk_126 (by decide +kernel)
theorem dX12_cut_122 : decode cX12_cut 122 = .ok (.iconst 1, 1) := dk_4 (by decide +kernel)
theorem dX12_cut_123 : decode cX12_cut 123 = .ok (.if_icmp .ne 21, 3) := dk_160 (by decide +kernel)
theorem dX12_cut_126 : decode cX12_cut 126 = .ok (.iload_n 3, 1) := dk_29 (by decide +kernel)
theorem dX12_cut_127 : decode cX12_cut 127 = .ok (.aload_n 0, 1) := dk_42 (by decide +kernel)
theorem dX12_cut_128 : decode cX12_cut 128 = .ok (.getfield 312, 3) := dk_180 (by decide +kernel)
theorem dX12_cut_131 : decode cX12_cut 131 = .ok (.iload 5, 2) := dk_21 (by decide +kernel)
theorem dX12_cut_133 : decode cX12_cut 133 = .ok (.iaload, 1) := dk_46 (by decide +kernel)
theorem dX12_cut_134 : decode cX12_cut 134 = .ok (.ishr, 1) := dk_122 (by decide +kernel)
theorem dX12_cut_135 : decode cX12_cut 135 = .ok (.iconst 1, 1) := dk_4 (by decide +kernel)
theorem dX12_cut_136 : decode cX12_cut 136 = .ok (.iand, 1) := dk_126 (by decide +kernel)
theorem dX12_cut_137 : decode cX12_cut 137 = .ok (.ifCond .ne 7, 3) := dk_154 (by decide +kernel)
theorem dX12_cut_140 : decode cX12_cut 140 = .ok (.iconst 1, 1) := dk_4 (by decide +kernel)
theorem dX12_cut_141 : decode cX12_cut 141 = .ok (.goto 4, 3) := dk_167 (by decide +kernel)
theorem dX12_cut_144 : decode cX12_cut 144 = .ok (.iconst 0, 1) := dk_3 (by decide +kernel)
theorem dX12_cut_145 : decode cX12_cut 145 = .ok (.istore 7, 2) := dk_54 (by decide +kernel)
theorem dX12_cut_147 : decode cX12_cut 147 = .ok (.iload 6, 2) := dk_21 (by decide +kernel)
theorem dX12_cut_149 : decode cX12_cut 149 = .ok (.ifCond .ne 11, 3) := dk_154 (by decide +kernel)
theorem dX12_cut_152 : decode cX12_cut 152 = .ok (.iload 7, 2) := dk_21 (by decide +kernel)
theorem dX12_cut_154 : decode cX12_cut 154 = .ok (.ifCond .ne 6, 3) := dk_154 (by decide +kernel)
theorem dX12_cut_157 : decode cX12_cut 157 = .ok (.goto 33, 3) := dk_167 (by decide +kernel)
theorem dX12_cut_160 : decode cX12_cut 160 = .ok (.iload_n 3, 1) := dk_29 (by decide +kernel)
theorem dX12_cut_161 : decode cX12_cut 161 = .ok (.iconst 1, 1) := dk_4 (by decide +kernel)
theorem dX12_cut_162 : decode cX12_cut 162 = .ok (.iload 6, 2) := dk_21 (by decide +kernel)
theorem dX12_cut_164 : decode cX12_cut 164 = .ok (.ifCond .eq 13, 3) := dk_153 (by decide +kernel)
theorem dX12_cut_167 : decode cX12_cut 167 = .ok (.aload_n 0, 1) := dk_42 (by decide +kernel)
theorem dX12_cut_168 : decode cX12_cut 168 = .ok (.getfield 315, 3) := dk_180 (by decide +kernel)
theorem dX12_cut_171 : decode cX12_cut 171 = .ok (.iload 5, 2) := dk_21 (by decide +kernel)
theorem dX12_cut_173 : decode cX12_cut 173 = .ok (.iaload, 1) := dk_46 (by decide +kernel)
theorem dX12_cut_174 : decode cX12_cut 174 = .ok (.goto 10, 3) := dk_167 (by decide +kernel)
theorem dX12_cut_177 : decode cX12_cut 177 = .ok (.aload_n 0, 1) := dk_42 (by decide +kernel)
theorem dX12_cut_178 : decode cX12_cut 178 = .ok (.getfield 312, 3) := dk_180 (by decide +kernel)
theorem dX12_cut_181 : decode cX12_cut 181 = .ok (.iload 5, 2) := dk_21 (by decide +kernel)
theorem dX12_cut_183 : decode cX12_cut 183 = .ok (.iaload, 1) := dk_46 (by decide +kernel)
theorem dX12_cut_184 : decode cX12_cut 184 = .ok (.ishl, 1) := dk_120 (by decide +kernel)
theorem dX12_cut_185 : decode cX12_cut 185 = .ok (.ior, 1) := dk_128 (by decide +kernel)
theorem dX12_cut_186 : decode cX12_cut 186 = .ok (.istore_n 3, 1) := dk_62 (by decide +kernel)
theorem dX12_cut_187 : decode cX12_cut 187 = .ok (.iconst 1, 1) := dk_4 (by decide +kernel)
theorem dX12_cut_188 : decode cX12_cut 188 = .ok (.istore 4, 2) := dk_54 (by decide +kernel)
theorem dX12_cut_190 : decode cX12_cut 190 = .ok (.iinc 5 1, 3) := dk_132 (by decide +kernel)
theorem dX12_cut_193 : decode cX12_cut 193 = .ok (.goto (-154), 3) := dk_167 (by decide +kernel)
theorem dX12_cut_196 : decode cX12_cut 196 = .ok (.goto (-168), 3) := dk_167 (by decide +kernel)
theorem dX12_cut_199 : decode cX12_cut 199 = .ok (.iload_n 3, 1) := dk_29 (by decide +kernel)
theorem dX12_cut_200 : decode cX12_cut 200 = .ok (.ireturn, 1) := dk_172 (by decide +kernel)
def wsRX12_cut : List Cond := .code yX12_cut cX12_cut 8 (some .int) :: ([.constant RX12 1082 100000, .fieldLink RX12 1069 "OptimaWorksModel" "arcs" "I", .fieldLink RX12 324 "OptimaWorksModel" "flow" "[I", .fieldLink RX12 318 "OptimaWorksModel" "arcRoom" "[I", .fieldLink RX12 312 "OptimaWorksModel" "arcFrom" "[I", .fieldLink RX12 315 "OptimaWorksModel" "arcTo" "[I"] ++ wsX120 ++ (wsV RX12 1079 RX12 yX12_areEnds wsRX12_areEnds) ++ (wsV RX12 1083 RX12 yX12_send wsRX12_send))
theorem iwsRX12_cut_in12 : ∀ w ∈ wsX120, w ∈ wsRX12_cut := fun _ h => List.mem_cons_of_mem _ (List.mem_append_left _ (List.mem_append_left _ (List.mem_append_right _ h)))
theorem gwsRX12_cut_0 : GoodIn wsRX12_cut (wsV RX12 1079 RX12 yX12_areEnds wsRX12_areEnds) := goodIn_sub (fun _ h => List.mem_cons_of_mem _ (List.mem_append_left _ (List.mem_append_right _ h))) (gdV (by decide +kernel) gdwsRX12_areEnds)
theorem gwsRX12_cut_1 : GoodIn wsRX12_cut (wsV RX12 1083 RX12 yX12_send wsRX12_send) := goodIn_sub (fun _ h => List.mem_cons_of_mem _ (List.mem_append_right _ h)) (gdV (by decide +kernel) gdwsRX12_send)
theorem gdwsRX12_cut : wsRX12_cut.all goodWord = true := gdC rfl (gdA (gdA (gdA (by decide +kernel : ([.constant RX12 1082 100000, .fieldLink RX12 1069 "OptimaWorksModel" "arcs" "I", .fieldLink RX12 324 "OptimaWorksModel" "flow" "[I", .fieldLink RX12 318 "OptimaWorksModel" "arcRoom" "[I", .fieldLink RX12 312 "OptimaWorksModel" "arcFrom" "[I", .fieldLink RX12 315 "OptimaWorksModel" "arcTo" "[I"] : List Cond).all goodWord = true) gdwsX120) (gdV (by decide +kernel) gdwsRX12_areEnds)) (gdV (by decide +kernel) gdwsRX12_send))
set_option maxHeartbeats 4000000 in
set_option maxRecDepth 100000 in
/-- cut(s, t) -/
theorem r_X12_cut (l : Launch) (dC : Nat → ClassId) (dI : Nat → Nat → Nat) (a : Nat → Nat) (k : Nat → ClassId) (h0 : Nat) (vi : Nat → Int32) (vj : Nat → Int64) (vF : Nat → Nat → Int32) (vG : Nat → Nat → Int64) (sI : Int32) (tI : Int32) (ar : Nat) (har : vi 150 = nI ar) (har40 : ar ≤ 40) (hAr : ArO (vF 95) (vF 96) (vF 97) (vF 98) ar) (sz : Nat) : Met l yX12_cut wsRX12_cut ({ frames := 2, cells := 0, slots := 0, locals := 54 }) (va_Pc [.ref h0, .int sI, .int tI] (fun U => U.heap.size = sz ∧ va_P (dC, dI) vwCl (WR a k h0 vi vj vF vG) U.heap ∧ va_K (dC, dI) vwCl (tX12 k) U ∧ va_D (fun _ => True) (WR a k h0 vi vj vF vG))) (va_Qi (fun (r : Int32) (u : (Int32) × (Nat → Int32) × (Nat → Int32) × (Nat → Int32)) => ((((u.1) = 1 ∧ ¬ ((0 ≤ (sI).toInt ∧ (sI).toInt ≤ 11) ∧ 0 ≤ (tI).toInt ∧ (tI).toInt ≤ 11)) ∨ ((u.1) = 2 ∧ ((0 ≤ (sI).toInt ∧ (sI).toInt ≤ 11) ∧ 0 ≤ (tI).toInt ∧ (tI).toInt ≤ 11) ∧ (sI).toInt = (tI).toInt))) ∨ (((u.1) = 0) ∧ (((0 ≤ (sI).toInt ∧ (sI).toInt ≤ 11) ∧ 0 ≤ (tI).toInt ∧ (tI).toInt ≤ 11) ∧ (sI).toInt ≠ (tI).toInt) ∧ (mxC (((ar : Nat) : Int), vF 95, vF 96, vF 97, vF 98) (sI).toInt.toNat (tI).toInt.toNat r))) (fun (u : (Int32) × (Nat → Int32) × (Nat → Int32) × (Nat → Int32)) t => va_P (dC, dI) vwCl (WR a k h0 (fT vi 0 (u.1)) vj (fT (fT (fT vF 99 (u.2.1)) 100 (u.2.2.1)) 101 (u.2.2.2)) vG) t.heap ∧ va_D (va_A (WR a k h0 vi vj vF vG) sz) (WR a k h0 (fT vi 0 (u.1)) vj (fT (fT (fT vF 99 (u.2.1)) 100 (u.2.2.1)) 101 (u.2.2.2)) vG)) (va_A (WR a k h0 vi vj vF vG) sz)) 0 0 (va_A (WR a k h0 vi vj vF vG) sz) := by
  refine Met.ofW (cc := cX12_cut) (maxL := 8) (ret := (some .int)) (by decide) rfl ?_
  intro p e s m args below meth c s₁ B hml hv
  obtain ⟨rfl, hsz, hP, hK, hD0⟩ := hv
  have hx := B.exec
  have hb := B.bytes
  have hr := B.returns
  have hts := atoms_spec (ws := wsRX12_cut) B.pre
  have hown : s.vm.findClass RX12 = some m.cls := findClass_of_methodNamed B.named
  have hlocks := B.notSynchronized
  subst hsz
  have hD := hD0.self (sz := s.heap.size)
  generalize hAe : va_A (WR a k h0 vi vj vF vG) s.heap.size = A at hD ⊢
  have hA : ∀ q : Nat, s.heap.size ≤ q → A q := fun q h => by rw [← hAe]; exact Or.inr h
  have hS : va_S A s.heap s.heap [] := va_S.rf
  have hl := lv_entry ([.ref h0, .int sI, .int tI]) (n := 8) (Nat.le_of_ble_eq_true rfl)
  rw [lg_entry_eq]
  generalize (lg_sl ([.ref h0, .int sI, .int tI]) ++ List.replicate (8 - (lg_sl ([.ref h0, .int sI, .int tI])).length) Slot.unset).toArray = ls at hl ⊢
  have hl : lv_has ls 8 [(0, .ref h0), (1, .int sI), (2, .int tI)] := hl
  refine lv_aload_n hx hb dX12_cut_0 rfl (lv_at hl 0 rfl) ?_
  refine lv_iload_n hx hb dX12_cut_1 rfl (lv_at hl 1 rfl) ?_
  refine lv_iload_n hx hb dX12_cut_2 rfl (lv_at hl 2 rfl) ?_
  have hFc := allFree hD hS hA
  refine va_calli (va_runV (As := [.int sI, .int tI]) (rest := []) ⟨hx, hb, hml, hown, hts⟩ (r_X12_areEnds l dC dI a k h0 vi vj vF vG sI tI s.heap.size) (cwV 2 hts gwsRX12_cut_0 rfl rfl rfl hd_yX12_areEnds_RX12 (by decide +kernel)) (fz_pre (va_recv hK hP (ci := 12) (q0 := 0) rfl rfl) hP hK hD) rfl rfl hl.1 rfl (lv_room (Nat.le_of_ble_eq_true rfl)) dX12_cut_3 (by decide +kernel)) hS (fun q _ h => hFc q h) hFc (fun r3 th3 t9_ H locs ht hvm hw9 hB9 hz1 hk1 hS => ?_)
  have hP : va_P (dC, dI) vwCl (WR a k h0 (fT vi 0 th3) vj vF vG) H := fz_P ht hB9.1
  have hD : va_D A (WR a k h0 (fT vi 0 th3) vj vF vG) := hB9.2.weaken (fun _ q _ h => hFc q.1 h)
  rcases hw9 with ⟨rfl, f3_0, f3_1, f3_2, f3_3⟩ | ⟨rfl, f3_0⟩
  · refine lv_if_ne (tgt := 11) hx hb dX12_cut_6 (by decide) (fun _ => ?_) (fun c9 => absurd c9 (by decide))
    obtain ⟨sN, hsN, esN⟩ := of_toInt (x := sI) (k := 12) (by omega) (by omega)
    subst esN
    obtain ⟨tN, htN, etN⟩ := of_toInt (x := tI) (k := 12) (by omega) (by omega)
    subst etN
    have htsn : tN ≠ sN := fun e9 => f3_2 (by rw [e9])
    have es9 : (nI sN).toInt.toNat = sN := by rw [nI_toInt (by omega)]; omega
    have et9 : (nI tN).toInt.toNat = tN := by rw [nI_toInt (by omega)]; omega
    refine lv_aload_n hx hb dX12_cut_11 rfl (lv_at hl 0 rfl) ?_
    refine lv_iload_n hx hb dX12_cut_12 rfl (lv_at hl 1 rfl) ?_
    refine lv_iload_n hx hb dX12_cut_13 rfl (lv_at hl 2 rfl) ?_
    refine lv_ldcw (v := 100000) hx hb hown (hts (.constant RX12 1082 100000) (by decide +kernel)) dX12_cut_14 ?_
    have hFc := allFree hD hS hA
    refine va_calli (va_runV (As := [.int (nI sN), .int (nI tN), .int 100000]) (rest := []) ⟨hx, hb, hml, hown, hts⟩ (r_X12_send l dC dI a k h0 (fT vi 0 th3) vj vF vG ar sN tN 100000 har (by first | with_reducible assumption | decide | omega | rfl | assumption) (by first | with_reducible assumption | decide | omega | rfl | assumption) (by first | with_reducible assumption | decide | omega | rfl | assumption) (by first | with_reducible assumption | decide | omega | rfl | assumption) (by first | with_reducible assumption | decide | omega | rfl | assumption) H.size) (cwV 3 hts gwsRX12_cut_1 rfl rfl rfl hd_yX12_send_RX12 (by decide +kernel)) (fz_pre (va_recv hK hP (ci := 12) (q0 := 0) rfl rfl) hP hK hD) rfl rfl hl.1 rfl (lv_room (Nat.le_of_ble_eq_true rfl)) dX12_cut_17 (by decide +kernel)) hS (fun q _ h => hFc q h) hFc (fun r17 u t9_ H locs ht hvm hw9 hB9 hz1 hk1 hS => ?_)
    revert u hw9 hB9
    refine fz_p3 ?_
    intro g9917 g10017 g10117 hw9 hB9
    try dsimp only at hw9 hB9
    have hP : va_P (dC, dI) vwCl (WR a k h0 (fT vi 0 th3) vj (fT (fT (fT vF 99 g9917) 100 g10017) 101 g10117) vG) H := fz_P ht hB9.1
    have hD : va_D A (WR a k h0 (fT vi 0 th3) vj (fT (fT (fT vF 99 g9917) 100 g10017) 101 g10117) vG) := hB9.2.weaken (fun _ q _ h => hFc q.1 h)
    revert hw9
    refine fz_a6 ?_
    intro f17_0 f17_1 f17_2 f17_3 f17_4 f17_5
    have f17_0 : FlO (vF 97) g9917 ar := f17_0
    have f17_1 : rsI (((ar : Nat) : Int), (vF 95), (vF 96), (vF 97), (vF 98)) sN tN (fI g9917) r17.toInt ar := f17_1
    have f17_2 : r17.toInt < (100000 : Int32).toInt → ∃ R, sep sN tN R ∧ flC (((ar : Nat) : Int), (vF 95), (vF 96), (vF 97), (vF 98)) (fI g9917) R ar := f17_2
    have f17_4 : ∃ p, PoO (vF 95) (vF 96) (vF 97) (vF 98) g9917 ar (fun _ => True) p := f17_4
    refine lv_pop hx hb dX12_cut_20 rfl ?_
    refine lv_iconst (v := 1) hx hb dX12_cut_21 (by decide) ?_
    refine lv_iload_n hx hb dX12_cut_22 rfl (lv_at hl 1 rfl) ?_
    refine lv_ishl hx hb dX12_cut_23 ?_
    refine lv_topi (fun y1 hy1 => ?_)
    obtain rfl : (nI (2 ^ sN)) = y1 := (hy1.trans (pow_bit sN (by omega))).symm
    refine lv_istore_n hx hb dX12_cut_24 rfl hl (by decide) rfl (fun ls (hl : lv_has ls _ ([(3, .int (nI (2 ^ sN))), (0, .ref h0), (1, .int (nI sN)), (2, .int (nI tN))])) => ?_)
    refine lv_iconst (v := 1) hx hb dX12_cut_25 (by decide) ?_
    refine lv_istore hx hb dX12_cut_26 hl (by decide) rfl (fun ls (hl : lv_has ls _ ([(4, .int 1), (3, .int (nI (2 ^ sN))), (0, .ref h0), (1, .int (nI sN)), (2, .int (nI tN))])) => ?_)
    have hl : lv_has _ _ ([(0, .ref h0), (3, .int (nI (2 ^ sN))), (4, .int 1)]) := lv_sub hl [2, 1, 0] rfl
    refine (fun (loop : ∀ (n9 : Nat) (se : Nat) (mo : Int32) (H : Heap) (locs : List Loc) (ls : Array Slot), (se < 4096) → (bI (nI se) sN = true) → (∀ n, bI (nI se) n = true → n < 12) → (∀ S, S sN = true → flC (((ar : Nat) : Int), vF 95, vF 96, vF 97, vF 98) (fI g9917) S ar → ∀ n, bI (nI se) n = true → S n = true) → (mo = 0 → flC (((ar : Nat) : Int), vF 95, vF 96, vF 97, vF 98) (fI g9917) (bI (nI se)) ar) →  ((mo = 0 ∧ 0 < n9) ∨ (0 < n9 ∧ 4096 < se + n9)) → va_P (dC, dI) vwCl (WR a k h0 (fT vi 0 th3) vj (fT (fT (fT vF 99 g9917) 100 g10017) 101 g10117) vG) H → va_D A (WR a k h0 (fT vi 0 th3) vj (fT (fT (fT vF 99 g9917) 100 g10017) 101 g10117) vG) → va_S A s.heap H locs → lv_has ls 8 [(0, .ref h0), (3, .int (nI se)), (4, .int mo)] → W p l e _ s m _ below meth c H locs 0 0 _ (F0 m 28 ls [])) => loop (4097) (2 ^ sN) 1 _ _ _ (Nat.pow_lt_pow_right (m := sN) (n := 12) (by decide) (by omega)) (by rw [bI_pow (by omega)]; exact decide_eq_true rfl) (fun n h9 => by rw [bI_pow (by omega)] at h9; (have h8 := of_decide_eq_true h9); omega) (fun S h1 _ n h9 => by rw [bI_pow (by omega)] at h9; rw [of_decide_eq_true h9]; exact h1) (fun h9 => absurd h9 (by decide)) (Or.inr ⟨by decide, by (have h9 := Nat.one_le_two_pow (n := sN)); omega⟩) hP hD hS hl) ?_
    intro n9
    induction n9 with
    | zero => intro se mo H locs ls hse hs0 hsl hmin hcl hf9; exact False.elim (by omega)
    | succ n9 ih28 =>
      intro se mo H locs ls hse hs0 hsl hmin hcl hf28 hP hD hS hl
      have hfx := hf28
      refine lv_iload hx hb dX12_cut_28 (lv_at hl 2 rfl) ?_
      refine lv_if_eq (tgt := 199) hx hb dX12_cut_30 (by decide) (fun c_30 => ?_) (fun c_30 => ?_)
      · have t_30 : (mo).toInt = 0 := toI_eq c_30 rfl (by decide)
        refine lv_iload_n hx hb dX12_cut_199 rfl (lv_at hl 1 rfl) ?_
        refine W.widen (k := 0) (n := 0) (by decide +kernel) (by decide +kernel) ?_
        exact W.iret (v := (nI se)) hx hb hr (fun t9_ ht hW => ⟨⟨(nI se), (th3, g9917, g10017, g10117), rfl, by (try dsimp only); exact Or.inr ⟨f3_3, ⟨by omega, fun e9 => f3_2 (Int32.toInt_inj.mp e9)⟩, by rw [es9, et9]; exact rsI.seen hAr har40 f17_0 htsn f17_1 f17_2 (by decide) (by omega) hs0 (hcl c_30) hmin hsl⟩, by rw [ht]; exact hP, hD⟩, hS.F ht⟩) hS.2.2 dX12_cut_200
      · have t_30 : ¬ (mo).toInt = 0 := toI_neq c_30 rfl (by decide)
        refine lv_iconst (v := 0) hx hb dX12_cut_33 (by decide) ?_
        refine lv_istore hx hb dX12_cut_34 hl (by decide) rfl (fun ls (hl : lv_has ls _ ([(4, .int 0), (0, .ref h0), (3, .int (nI se))])) => ?_)
        refine lv_iconst (v := 0) hx hb dX12_cut_36 (by decide) ?_
        refine lv_istore hx hb dX12_cut_37 hl (by decide) rfl (fun ls (hl : lv_has ls _ ([(5, .int 0), (4, .int 0), (0, .ref h0), (3, .int (nI se))])) => ?_)
        have hl : lv_has _ _ ([(0, .ref h0), (3, .int (nI se)), (4, .int 0), (5, .int (nI 0))]) := lv_sub hl [2, 3, 1, 0] rfl
        refine (fun (loop : ∀ (n9 : Nat) (a5 : Nat) (se2 : Nat) (m2 : Int32) (H : Heap) (locs : List Loc) (ls : Array Slot), (a5 ≤ ar) → (se ≤ se2 ∧ se2 < 4096) → (m2 = 0 ∨ se < se2) → (bI (nI se2) sN = true) → (∀ n, bI (nI se2) n = true → n < 12) → (∀ S, S sN = true → flC (((ar : Nat) : Int), vF 95, vF 96, vF 97, vF 98) (fI g9917) S ar → ∀ n, bI (nI se2) n = true → S n = true) → (m2 = 0 → flC (((ar : Nat) : Int), vF 95, vF 96, vF 97, vF 98) (fI g9917) (bI (nI se2)) a5) →  (ar < a5 + n9) → va_P (dC, dI) vwCl (WR a k h0 (fT vi 0 th3) vj (fT (fT (fT vF 99 g9917) 100 g10017) 101 g10117) vG) H → va_D A (WR a k h0 (fT vi 0 th3) vj (fT (fT (fT vF 99 g9917) 100 g10017) 101 g10117) vG) → va_S A s.heap H locs → lv_has ls 8 [(0, .ref h0), (3, .int (nI se2)), (4, .int m2), (5, .int (nI a5))] → W p l e _ s m _ below meth c H locs 0 0 _ (F0 m 39 ls [])) => loop (ar + 1) 0 se 0 _ _ _ (by omega) (by omega) (Or.inl rfl) (hs0) (hsl) (hmin) (fun _ a ha => absurd ha (by omega)) (by omega) hP hD hS hl) ?_
        intro n9
        induction n9 with
        | zero => intro a5 se2 m2 H locs ls ha5 hse2 hm2 hs2 hsl2 hmin2 hcl2 hf9; exact False.elim (by omega)
        | succ n9 ih39_1 =>
          intro a5 se2 m2 H locs ls ha5 hse2 hm2 hs2 hsl2 hmin2 hcl2 hf39_1 hP hD hS hl
          refine lv_iload hx hb dX12_cut_39 (lv_at hl 3 rfl) ?_
          refine lv_aload_n hx hb dX12_cut_41 rfl (lv_at hl 0 rfl) ?_
          refine va_get (D := (dC, dI)) (ci := 12) (v := .int (vi 150)) (C := RX12) (T := TX12) (N := 163) (fs := fM (vS a (fT vi 0 th3) vj)) hx hb hts iwsRX12_cut_in12 hown hK hP 0 rfl rfl 150 (by decide) (hts (.fieldLink RX12 1069 "OptimaWorksModel" "arcs" "I") (by decide +kernel)) (fun _ h9 => h9) rfl dX12_cut_42 ?_
          refine lv_topi (fun y2 hy2 => ?_)
          obtain rfl : (nI ar) = y2 := (hy2.trans (har)).symm
          refine lv_icmp_ge (tgt := 196) hx hb dX12_cut_45 (by decide) (fun c_45 => ?_) (fun c_45 => ?_)
          · have t_45 : ((a5 : Nat) : Int) ≥ ((ar : Nat) : Int) := toI_ge c_45 (nI_toInt (by omega)) (nI_toInt (by omega))
            refine lv_goto (tgt := 28) hx hb dX12_cut_196 (by decide) ?_
            have hl : lv_has _ _ ([(0, .ref h0), (3, .int (nI se2)), (4, .int m2)]) := lv_sub hl [0, 1, 2] rfl
            exact ih28 se2 m2 _ _ _ (by omega) (hs2) (hsl2) (hmin2) (fun h9 => by (have h8 := hcl2 h9); rw [show a5 = ar by omega] at h8; exact h8) (by (have h8 := hfx.resolve_left (fun h => c_30 h.1)); rcases hm2 with h7 | h7; (exact Or.inl ⟨h7, by omega⟩); (exact Or.inr ⟨by omega, by omega⟩)) hP hD hS hl
          · have t_45 : ¬ ((a5 : Nat) : Int) ≥ ((ar : Nat) : Int) := toI_nge c_45 (nI_toInt (by omega)) (nI_toInt (by omega))
            obtain ⟨x5, yB, hx5, hyB, hxy5, ex5, eyB, hr5, hc5⟩ := hAr a5 (by omega)
            have hfl5 := f17_0 a5 (by omega)
            have eF5 : tFr (((ar : Nat) : Int), vF 95, vF 96, vF 97, vF 98) a5 = x5 := tFr_nI (d := (((ar : Nat) : Int), vF 95, vF 96, vF 97, vF 98)) hx5 ex5
            have eT5 : tTo (((ar : Nat) : Int), vF 95, vF 96, vF 97, vF 98) a5 = yB := tTo_nI (d := (((ar : Nat) : Int), vF 95, vF 96, vF 97, vF 98)) hyB eyB
            refine lv_aload_n hx hb dX12_cut_48 rfl (lv_at hl 0 rfl) ?_
            refine va_get (D := (dC, dI)) (ci := 12) (v := .ref (a 99)) (C := RX12) (T := TX12) (N := 163) (fs := fM (vS a (fT vi 0 th3) vj)) hx hb hts iwsRX12_cut_in12 hown hK hP 0 rfl rfl 155 (by decide) (hts (.fieldLink RX12 324 "OptimaWorksModel" "flow" "[I") (by decide +kernel)) (fun _ h9 => h9) rfl dX12_cut_49 ?_
            refine lv_iload hx hb dX12_cut_52 (lv_at hl 3 rfl) ?_
            refine va_iald (cA := k 99) (n := 40) (f := g9917) hx hb hK hP 100 99 (WR_get 99 (by decide)) (TR_get 99 (by decide)) (vp_in_nI (show a5 < 40 by omega) (by omega)) dX12_cut_54 ?_
            refine lv_topi (fun y3 hy3 => ?_)
            obtain rfl : (g9917 a5) = y3 := (hy3.trans (by rw [nI_clamp (by omega)])).symm
            refine lv_aload_n hx hb dX12_cut_55 rfl (lv_at hl 0 rfl) ?_
            refine va_get (D := (dC, dI)) (ci := 12) (v := .ref (a 97)) (C := RX12) (T := TX12) (N := 163) (fs := fM (vS a (fT vi 0 th3) vj)) hx hb hts iwsRX12_cut_in12 hown hK hP 0 rfl rfl 153 (by decide) (hts (.fieldLink RX12 318 "OptimaWorksModel" "arcRoom" "[I") (by decide +kernel)) (fun _ h9 => h9) rfl dX12_cut_56 ?_
            refine lv_iload hx hb dX12_cut_59 (lv_at hl 3 rfl) ?_
            refine va_iald (cA := k 97) (n := 40) (f := (vF 97)) hx hb hK hP 98 97 (WR_get 97 (by decide)) (TR_get 97 (by decide)) (vp_in_nI (show a5 < 40 by omega) (by omega)) dX12_cut_61 ?_
            refine lv_topi (fun y4 hy4 => ?_)
            obtain rfl : ((vF 97) a5) = y4 := (hy4.trans (by rw [nI_clamp (by omega)])).symm
            refine W.cut (pc := 99) (fun H locs ls stk => ∃ (ah : Int32), ((ah = 0 ∧ ¬ ((g9917 a5).toInt < (vF 97 a5).toInt ∧ bI (nI se2) x5 = true ∧ bI (nI se2) yB = false)) ∨ (ah = 1 ∧ (nI se2 >>> (nI yB &&& 31)) &&& 1 = 0 ∧ ((g9917 a5).toInt < (vF 97 a5).toInt ∧ bI (nI se2) x5 = true ∧ bI (nI se2) yB = false))) ∧  stk = [.int ah] ∧ va_P (dC, dI) vwCl (WR a k h0 (fT vi 0 th3) vj (fT (fT (fT vF 99 g9917) 100 g10017) 101 g10117) vG) H ∧ va_D A (WR a k h0 (fT vi 0 th3) vj (fT (fT (fT vF 99 g9917) 100 g10017) 101 g10117) vG) ∧ va_S A s.heap H locs ∧ lv_has ls 8 [(0, .ref h0), (3, .int (nI se2)), (4, .int m2), (5, .int (nI a5))]) (fun join1 => ?_) ?_
            · refine lv_icmp_ge (tgt := 98) hx hb dX12_cut_62 (by decide) (fun c_62 => ?_) (fun c_62 => ?_)
              · have t_62 : ((g9917 a5)).toInt ≥ (((vF 97) a5)).toInt := toI_ge c_62 rfl rfl
                refine lv_iconst (v := 0) hx hb dX12_cut_98 (by decide) ?_
                have hl : lv_has _ _ ([(0, .ref h0), (3, .int (nI se2)), (4, .int m2), (5, .int (nI a5))]) := lv_sub hl [0, 1, 2, 3] rfl
                exact join1 _ _ _ _ ⟨0, Or.inl ⟨rfl, fun h9 => absurd h9.1 (by omega)⟩, rfl, hP, hD, hS, hl⟩
              · have t_62 : ¬ ((g9917 a5)).toInt ≥ (((vF 97) a5)).toInt := toI_nge c_62 rfl rfl
                refine lv_iload_n hx hb dX12_cut_65 rfl (lv_at hl 1 rfl) ?_
                refine lv_aload_n hx hb dX12_cut_66 rfl (lv_at hl 0 rfl) ?_
                refine va_get (D := (dC, dI)) (ci := 12) (v := .ref (a 95)) (C := RX12) (T := TX12) (N := 163) (fs := fM (vS a (fT vi 0 th3) vj)) hx hb hts iwsRX12_cut_in12 hown hK hP 0 rfl rfl 151 (by decide) (hts (.fieldLink RX12 312 "OptimaWorksModel" "arcFrom" "[I") (by decide +kernel)) (fun _ h9 => h9) rfl dX12_cut_67 ?_
                refine lv_iload hx hb dX12_cut_70 (lv_at hl 3 rfl) ?_
                refine va_iald (cA := k 95) (n := 40) (f := (vF 95)) hx hb hK hP 96 95 (WR_get 95 (by decide)) (TR_get 95 (by decide)) (vp_in_nI (show a5 < 40 by omega) (by omega)) dX12_cut_72 ?_
                refine lv_topi (fun y5 hy5 => ?_)
                obtain rfl : ((vF 95) a5) = y5 := (hy5.trans (by rw [nI_clamp (by omega)])).symm
                refine lv_topi (fun y6 hy6 => ?_)
                obtain rfl : (nI x5) = y6 := (hy6.trans (ex5)).symm
                refine lv_ishr hx hb dX12_cut_73 ?_
                refine lv_iconst (v := 1) hx hb dX12_cut_74 (by decide) ?_
                refine lv_iand hx hb dX12_cut_75 ?_
                refine lv_iconst (v := 1) hx hb dX12_cut_76 (by decide) ?_
                refine lv_icmp_ne (tgt := 98) hx hb dX12_cut_77 (by decide) (fun c_77 => ?_) (fun c_77 => ?_)
                · have t_77 : ((((nI se2) >>> ((nI x5) &&& 31)) &&& 1)).toInt ≠ 1 := toI_ne c_77 rfl (by decide)
                  refine lv_iconst (v := 0) hx hb dX12_cut_98 (by decide) ?_
                  have hl : lv_has _ _ ([(0, .ref h0), (3, .int (nI se2)), (4, .int m2), (5, .int (nI a5))]) := lv_sub hl [0, 1, 2, 3] rfl
                  exact join1 _ _ _ _ ⟨0, Or.inl ⟨rfl, fun h9 => c_77 (bI_oneT (by omega) h9.2.1)⟩, rfl, hP, hD, hS, hl⟩
                · have t_77 : ((((nI se2) >>> ((nI x5) &&& 31)) &&& 1)).toInt = 1 := toI_nne c_77 rfl (by decide)
                  refine lv_iload_n hx hb dX12_cut_80 rfl (lv_at hl 1 rfl) ?_
                  refine lv_aload_n hx hb dX12_cut_81 rfl (lv_at hl 0 rfl) ?_
                  refine va_get (D := (dC, dI)) (ci := 12) (v := .ref (a 96)) (C := RX12) (T := TX12) (N := 163) (fs := fM (vS a (fT vi 0 th3) vj)) hx hb hts iwsRX12_cut_in12 hown hK hP 0 rfl rfl 152 (by decide) (hts (.fieldLink RX12 315 "OptimaWorksModel" "arcTo" "[I") (by decide +kernel)) (fun _ h9 => h9) rfl dX12_cut_82 ?_
                  refine lv_iload hx hb dX12_cut_85 (lv_at hl 3 rfl) ?_
                  refine va_iald (cA := k 96) (n := 40) (f := (vF 96)) hx hb hK hP 97 96 (WR_get 96 (by decide)) (TR_get 96 (by decide)) (vp_in_nI (show a5 < 40 by omega) (by omega)) dX12_cut_87 ?_
                  refine lv_topi (fun y7 hy7 => ?_)
                  obtain rfl : ((vF 96) a5) = y7 := (hy7.trans (by rw [nI_clamp (by omega)])).symm
                  refine lv_topi (fun y8 hy8 => ?_)
                  obtain rfl : (nI yB) = y8 := (hy8.trans (eyB)).symm
                  refine lv_ishr hx hb dX12_cut_88 ?_
                  refine lv_iconst (v := 1) hx hb dX12_cut_89 (by decide) ?_
                  refine lv_iand hx hb dX12_cut_90 ?_
                  refine lv_if_ne (tgt := 98) hx hb dX12_cut_91 (by decide) (fun c_91 => ?_) (fun c_91 => ?_)
                  · have t_91 : ((((nI se2) >>> ((nI yB) &&& 31)) &&& 1)).toInt ≠ 0 := toI_ne c_91 rfl (by decide)
                    refine lv_iconst (v := 0) hx hb dX12_cut_98 (by decide) ?_
                    have hl : lv_has _ _ ([(0, .ref h0), (3, .int (nI se2)), (4, .int m2), (5, .int (nI a5))]) := lv_sub hl [0, 1, 2, 3] rfl
                    exact join1 _ _ _ _ ⟨0, Or.inl ⟨rfl, fun h9 => c_91 ((bI_test (by omega)).mpr h9.2.2)⟩, rfl, hP, hD, hS, hl⟩
                  · have t_91 : ((((nI se2) >>> ((nI yB) &&& 31)) &&& 1)).toInt = 0 := toI_nne c_91 rfl (by decide)
                    refine lv_iconst (v := 1) hx hb dX12_cut_94 (by decide) ?_
                    refine lv_goto (tgt := 99) hx hb dX12_cut_95 (by decide) ?_
                    have hl : lv_has _ _ ([(0, .ref h0), (3, .int (nI se2)), (4, .int m2), (5, .int (nI a5))]) := lv_sub hl [0, 1, 2, 3] rfl
                    exact join1 _ _ _ _ ⟨1, Or.inr ⟨rfl, c_91, (by omega), bI_one (by omega) c_77, (bI_test (by omega)).mp c_91⟩, rfl, hP, hD, hS, hl⟩
            · rintro H locs ls stk ⟨ah, hah, rfl, hP, hD, hS, hl⟩
              refine lv_istore hx hb dX12_cut_99 hl (by decide) rfl (fun ls (hl : lv_has ls _ ([(6, .int ah), (0, .ref h0), (3, .int (nI se2)), (4, .int m2), (5, .int (nI a5))])) => ?_)
              refine lv_aload_n hx hb dX12_cut_101 rfl (lv_at hl 1 rfl) ?_
              refine va_get (D := (dC, dI)) (ci := 12) (v := .ref (a 99)) (C := RX12) (T := TX12) (N := 163) (fs := fM (vS a (fT vi 0 th3) vj)) hx hb hts iwsRX12_cut_in12 hown hK hP 0 rfl rfl 155 (by decide) (hts (.fieldLink RX12 324 "OptimaWorksModel" "flow" "[I") (by decide +kernel)) (fun _ h9 => h9) rfl dX12_cut_102 ?_
              refine lv_iload hx hb dX12_cut_105 (lv_at hl 4 rfl) ?_
              refine va_iald (cA := k 99) (n := 40) (f := g9917) hx hb hK hP 100 99 (WR_get 99 (by decide)) (TR_get 99 (by decide)) (vp_in_nI (show a5 < 40 by omega) (by omega)) dX12_cut_107 ?_
              refine lv_topi (fun y9 hy9 => ?_)
              obtain rfl : (g9917 a5) = y9 := (hy9.trans (by rw [nI_clamp (by omega)])).symm
              refine W.cut (pc := 145) (fun H locs ls stk => ∃ (bk : Int32), ((bk = 0 ∧ ¬ (0 < (g9917 a5).toInt ∧ bI (nI se2) yB = true ∧ bI (nI se2) x5 = false)) ∨ (bk = 1 ∧ (nI se2 >>> (nI x5 &&& 31)) &&& 1 = 0 ∧ (0 < (g9917 a5).toInt ∧ bI (nI se2) yB = true ∧ bI (nI se2) x5 = false))) ∧  stk = [.int bk] ∧ va_P (dC, dI) vwCl (WR a k h0 (fT vi 0 th3) vj (fT (fT (fT vF 99 g9917) 100 g10017) 101 g10117) vG) H ∧ va_D A (WR a k h0 (fT vi 0 th3) vj (fT (fT (fT vF 99 g9917) 100 g10017) 101 g10117) vG) ∧ va_S A s.heap H locs ∧ lv_has ls 8 [(6, .int ah), (0, .ref h0), (3, .int (nI se2)), (4, .int m2), (5, .int (nI a5))]) (fun join2 => ?_) ?_
              · refine lv_if_le (tgt := 144) hx hb dX12_cut_108 (by decide) (fun c_108 => ?_) (fun c_108 => ?_)
                · have t_108 : ((g9917 a5)).toInt ≤ 0 := toI_le c_108 rfl (by decide)
                  refine lv_iconst (v := 0) hx hb dX12_cut_144 (by decide) ?_
                  have hl : lv_has _ _ ([(6, .int ah), (0, .ref h0), (3, .int (nI se2)), (4, .int m2), (5, .int (nI a5))]) := lv_sub hl [0, 1, 2, 3, 4] rfl
                  exact join2 _ _ _ _ ⟨0, Or.inl ⟨rfl, fun h9 => absurd h9.1 (by omega)⟩, rfl, hP, hD, hS, hl⟩
                · have t_108 : ¬ ((g9917 a5)).toInt ≤ 0 := toI_nle c_108 rfl (by decide)
                  refine lv_iload_n hx hb dX12_cut_111 rfl (lv_at hl 2 rfl) ?_
                  refine lv_aload_n hx hb dX12_cut_112 rfl (lv_at hl 1 rfl) ?_
                  refine va_get (D := (dC, dI)) (ci := 12) (v := .ref (a 96)) (C := RX12) (T := TX12) (N := 163) (fs := fM (vS a (fT vi 0 th3) vj)) hx hb hts iwsRX12_cut_in12 hown hK hP 0 rfl rfl 152 (by decide) (hts (.fieldLink RX12 315 "OptimaWorksModel" "arcTo" "[I") (by decide +kernel)) (fun _ h9 => h9) rfl dX12_cut_113 ?_
                  refine lv_iload hx hb dX12_cut_116 (lv_at hl 4 rfl) ?_
                  refine va_iald (cA := k 96) (n := 40) (f := (vF 96)) hx hb hK hP 97 96 (WR_get 96 (by decide)) (TR_get 96 (by decide)) (vp_in_nI (show a5 < 40 by omega) (by omega)) dX12_cut_118 ?_
                  refine lv_topi (fun y10 hy10 => ?_)
                  obtain rfl : ((vF 96) a5) = y10 := (hy10.trans (by rw [nI_clamp (by omega)])).symm
                  refine lv_topi (fun y11 hy11 => ?_)
                  obtain rfl : (nI yB) = y11 := (hy11.trans (eyB)).symm
                  refine lv_ishr hx hb dX12_cut_119 ?_
                  refine lv_iconst (v := 1) hx hb dX12_cut_120 (by decide) ?_
                  refine lv_iand hx hb dX12_cut_121 ?_
                  refine lv_iconst (v := 1) hx hb dX12_cut_122 (by decide) ?_
                  refine lv_icmp_ne (tgt := 144) hx hb dX12_cut_123 (by decide) (fun c_123 => ?_) (fun c_123 => ?_)
                  · have t_123 : ((((nI se2) >>> ((nI yB) &&& 31)) &&& 1)).toInt ≠ 1 := toI_ne c_123 rfl (by decide)
                    refine lv_iconst (v := 0) hx hb dX12_cut_144 (by decide) ?_
                    have hl : lv_has _ _ ([(6, .int ah), (0, .ref h0), (3, .int (nI se2)), (4, .int m2), (5, .int (nI a5))]) := lv_sub hl [0, 1, 2, 3, 4] rfl
                    exact join2 _ _ _ _ ⟨0, Or.inl ⟨rfl, fun h9 => c_123 (bI_oneT (by omega) h9.2.1)⟩, rfl, hP, hD, hS, hl⟩
                  · have t_123 : ((((nI se2) >>> ((nI yB) &&& 31)) &&& 1)).toInt = 1 := toI_nne c_123 rfl (by decide)
                    refine lv_iload_n hx hb dX12_cut_126 rfl (lv_at hl 2 rfl) ?_
                    refine lv_aload_n hx hb dX12_cut_127 rfl (lv_at hl 1 rfl) ?_
                    refine va_get (D := (dC, dI)) (ci := 12) (v := .ref (a 95)) (C := RX12) (T := TX12) (N := 163) (fs := fM (vS a (fT vi 0 th3) vj)) hx hb hts iwsRX12_cut_in12 hown hK hP 0 rfl rfl 151 (by decide) (hts (.fieldLink RX12 312 "OptimaWorksModel" "arcFrom" "[I") (by decide +kernel)) (fun _ h9 => h9) rfl dX12_cut_128 ?_
                    refine lv_iload hx hb dX12_cut_131 (lv_at hl 4 rfl) ?_
                    refine va_iald (cA := k 95) (n := 40) (f := (vF 95)) hx hb hK hP 96 95 (WR_get 95 (by decide)) (TR_get 95 (by decide)) (vp_in_nI (show a5 < 40 by omega) (by omega)) dX12_cut_133 ?_
                    refine lv_topi (fun y12 hy12 => ?_)
                    obtain rfl : ((vF 95) a5) = y12 := (hy12.trans (by rw [nI_clamp (by omega)])).symm
                    refine lv_topi (fun y13 hy13 => ?_)
                    obtain rfl : (nI x5) = y13 := (hy13.trans (ex5)).symm
                    refine lv_ishr hx hb dX12_cut_134 ?_
                    refine lv_iconst (v := 1) hx hb dX12_cut_135 (by decide) ?_
                    refine lv_iand hx hb dX12_cut_136 ?_
                    refine lv_if_ne (tgt := 144) hx hb dX12_cut_137 (by decide) (fun c_137 => ?_) (fun c_137 => ?_)
                    · have t_137 : ((((nI se2) >>> ((nI x5) &&& 31)) &&& 1)).toInt ≠ 0 := toI_ne c_137 rfl (by decide)
                      refine lv_iconst (v := 0) hx hb dX12_cut_144 (by decide) ?_
                      have hl : lv_has _ _ ([(6, .int ah), (0, .ref h0), (3, .int (nI se2)), (4, .int m2), (5, .int (nI a5))]) := lv_sub hl [0, 1, 2, 3, 4] rfl
                      exact join2 _ _ _ _ ⟨0, Or.inl ⟨rfl, fun h9 => c_137 ((bI_test (by omega)).mpr h9.2.2)⟩, rfl, hP, hD, hS, hl⟩
                    · have t_137 : ((((nI se2) >>> ((nI x5) &&& 31)) &&& 1)).toInt = 0 := toI_nne c_137 rfl (by decide)
                      refine lv_iconst (v := 1) hx hb dX12_cut_140 (by decide) ?_
                      refine lv_goto (tgt := 145) hx hb dX12_cut_141 (by decide) ?_
                      have hl : lv_has _ _ ([(6, .int ah), (0, .ref h0), (3, .int (nI se2)), (4, .int m2), (5, .int (nI a5))]) := lv_sub hl [0, 1, 2, 3, 4] rfl
                      exact join2 _ _ _ _ ⟨1, Or.inr ⟨rfl, c_137, (by omega), bI_one (by omega) c_123, (bI_test (by omega)).mp c_137⟩, rfl, hP, hD, hS, hl⟩
              · rintro H locs ls stk ⟨bk, hbk, rfl, hP, hD, hS, hl⟩
                refine lv_istore hx hb dX12_cut_145 hl (by decide) rfl (fun ls (hl : lv_has ls _ ([(7, .int bk), (6, .int ah), (0, .ref h0), (3, .int (nI se2)), (4, .int m2), (5, .int (nI a5))])) => ?_)
                refine lv_iload hx hb dX12_cut_147 (lv_at hl 1 rfl) ?_
                refine lv_if_ne (tgt := 160) hx hb dX12_cut_149 (by decide) (fun c_149 => ?_) (fun c_149 => ?_)
                · have t_149 : (ah).toInt ≠ 0 := toI_ne c_149 rfl (by decide)
                  refine lv_iload_n hx hb dX12_cut_160 rfl (lv_at hl 3 rfl) ?_
                  refine lv_iconst (v := 1) hx hb dX12_cut_161 (by decide) ?_
                  refine lv_iload hx hb dX12_cut_162 (lv_at hl 1 rfl) ?_
                  refine lv_if_eq (tgt := 177) hx hb dX12_cut_164 (by decide) (fun c9 => False.elim (c_149 c9)) (fun c_164 => ?_)
                  have t_164 : ¬ (ah).toInt = 0 := toI_neq c_164 rfl (by decide)
                  obtain ⟨s7, hs7, hs8, es7⟩ := setB (a := se2) (x := yB) (k := 12) (by omega) (by decide) (by omega) ((hah.resolve_left (fun h => c_149 h.1)).2.1)
                  refine lv_aload_n hx hb dX12_cut_167 rfl (lv_at hl 2 rfl) ?_
                  refine va_get (D := (dC, dI)) (ci := 12) (v := .ref (a 96)) (C := RX12) (T := TX12) (N := 163) (fs := fM (vS a (fT vi 0 th3) vj)) hx hb hts iwsRX12_cut_in12 hown hK hP 0 rfl rfl 152 (by decide) (hts (.fieldLink RX12 315 "OptimaWorksModel" "arcTo" "[I") (by decide +kernel)) (fun _ h9 => h9) rfl dX12_cut_168 ?_
                  refine lv_iload hx hb dX12_cut_171 (lv_at hl 5 rfl) ?_
                  refine va_iald (cA := k 96) (n := 40) (f := (vF 96)) hx hb hK hP 97 96 (WR_get 96 (by decide)) (TR_get 96 (by decide)) (vp_in_nI (show a5 < 40 by omega) (by omega)) dX12_cut_173 ?_
                  refine lv_topi (fun y14 hy14 => ?_)
                  obtain rfl : ((vF 96) a5) = y14 := (hy14.trans (by rw [nI_clamp (by omega)])).symm
                  refine lv_topi (fun y15 hy15 => ?_)
                  obtain rfl : (nI yB) = y15 := (hy15.trans (eyB)).symm
                  refine lv_goto (tgt := 184) hx hb dX12_cut_174 (by decide) ?_
                  refine lv_ishl hx hb dX12_cut_184 ?_
                  refine lv_ior hx hb dX12_cut_185 ?_
                  refine lv_topi (fun y16 hy16 => ?_)
                  obtain rfl : (nI s7) = y16 := (hy16.trans (es7)).symm
                  refine lv_istore_n hx hb dX12_cut_186 rfl hl (by decide) rfl (fun ls (hl : lv_has ls _ ([(3, .int (nI s7)), (7, .int bk), (6, .int ah), (0, .ref h0), (4, .int m2), (5, .int (nI a5))])) => ?_)
                  refine lv_iconst (v := 1) hx hb dX12_cut_187 (by decide) ?_
                  refine lv_istore hx hb dX12_cut_188 hl (by decide) rfl (fun ls (hl : lv_has ls _ ([(4, .int 1), (3, .int (nI s7)), (7, .int bk), (6, .int ah), (0, .ref h0), (5, .int (nI a5))])) => ?_)
                  refine lv_iinc (v := (nI (a5 + 1))) hx hb dX12_cut_190 hl (k := 5) rfl (nI_add a5 1) (by decide) rfl (fun ls (hl : lv_has ls _ ([(5, .int (nI (a5 + 1))), (4, .int 1), (3, .int (nI s7)), (7, .int bk), (6, .int ah), (0, .ref h0)])) => ?_)
                  refine lv_goto (tgt := 39) hx hb dX12_cut_193 (by decide) ?_
                  have hl : lv_has _ _ ([(0, .ref h0), (3, .int (nI s7)), (4, .int 1), (5, .int (nI (a5 + 1)))]) := lv_sub hl [5, 2, 1, 0] rfl
                  exact ih39_1 (a5 + 1) s7 1 _ _ _ (by omega) (by omega) (Or.inr (by omega)) (by rw [bI_set (by omega) es7, hs2]; rfl) (setLow (by omega) es7 hsl2) (setMin (by omega) es7 hmin2 (fun S h1 h2 => h2.ahead (a := a5) (by omega) eF5 eT5 (hmin2 S h1 h2 x5 (hah.resolve_left (fun h => c_149 h.1)).2.2.2.1) (hah.resolve_left (fun h => c_149 h.1)).2.2.1)) (fun h9 => absurd h9 (by decide)) (by omega) hP hD hS hl
                · have t_149 : (ah).toInt = 0 := toI_nne c_149 rfl (by decide)
                  refine lv_iload hx hb dX12_cut_152 (lv_at hl 0 rfl) ?_
                  refine lv_if_ne (tgt := 160) hx hb dX12_cut_154 (by decide) (fun c_154 => ?_) (fun c_154 => ?_)
                  · have t_154 : (bk).toInt ≠ 0 := toI_ne c_154 rfl (by decide)
                    refine lv_iload_n hx hb dX12_cut_160 rfl (lv_at hl 3 rfl) ?_
                    refine lv_iconst (v := 1) hx hb dX12_cut_161 (by decide) ?_
                    refine lv_iload hx hb dX12_cut_162 (lv_at hl 1 rfl) ?_
                    refine lv_if_eq (tgt := 177) hx hb dX12_cut_164 (by decide) (fun c_164 => ?_) (fun c9 => False.elim (c9 c_149))
                    have t_164 : (ah).toInt = 0 := toI_eq c_164 rfl (by decide)
                    obtain ⟨s7, hs7, hs8, es7⟩ := setB (a := se2) (x := x5) (k := 12) (by omega) (by decide) (by omega) ((hbk.resolve_left (fun h => c_154 h.1)).2.1)
                    refine lv_aload_n hx hb dX12_cut_177 rfl (lv_at hl 2 rfl) ?_
                    refine va_get (D := (dC, dI)) (ci := 12) (v := .ref (a 95)) (C := RX12) (T := TX12) (N := 163) (fs := fM (vS a (fT vi 0 th3) vj)) hx hb hts iwsRX12_cut_in12 hown hK hP 0 rfl rfl 151 (by decide) (hts (.fieldLink RX12 312 "OptimaWorksModel" "arcFrom" "[I") (by decide +kernel)) (fun _ h9 => h9) rfl dX12_cut_178 ?_
                    refine lv_iload hx hb dX12_cut_181 (lv_at hl 5 rfl) ?_
                    refine va_iald (cA := k 95) (n := 40) (f := (vF 95)) hx hb hK hP 96 95 (WR_get 95 (by decide)) (TR_get 95 (by decide)) (vp_in_nI (show a5 < 40 by omega) (by omega)) dX12_cut_183 ?_
                    refine lv_topi (fun y17 hy17 => ?_)
                    obtain rfl : ((vF 95) a5) = y17 := (hy17.trans (by rw [nI_clamp (by omega)])).symm
                    refine lv_topi (fun y18 hy18 => ?_)
                    obtain rfl : (nI x5) = y18 := (hy18.trans (ex5)).symm
                    refine lv_ishl hx hb dX12_cut_184 ?_
                    refine lv_ior hx hb dX12_cut_185 ?_
                    refine lv_topi (fun y19 hy19 => ?_)
                    obtain rfl : (nI s7) = y19 := (hy19.trans (es7)).symm
                    refine lv_istore_n hx hb dX12_cut_186 rfl hl (by decide) rfl (fun ls (hl : lv_has ls _ ([(3, .int (nI s7)), (7, .int bk), (6, .int ah), (0, .ref h0), (4, .int m2), (5, .int (nI a5))])) => ?_)
                    refine lv_iconst (v := 1) hx hb dX12_cut_187 (by decide) ?_
                    refine lv_istore hx hb dX12_cut_188 hl (by decide) rfl (fun ls (hl : lv_has ls _ ([(4, .int 1), (3, .int (nI s7)), (7, .int bk), (6, .int ah), (0, .ref h0), (5, .int (nI a5))])) => ?_)
                    refine lv_iinc (v := (nI (a5 + 1))) hx hb dX12_cut_190 hl (k := 5) rfl (nI_add a5 1) (by decide) rfl (fun ls (hl : lv_has ls _ ([(5, .int (nI (a5 + 1))), (4, .int 1), (3, .int (nI s7)), (7, .int bk), (6, .int ah), (0, .ref h0)])) => ?_)
                    refine lv_goto (tgt := 39) hx hb dX12_cut_193 (by decide) ?_
                    have hl : lv_has _ _ ([(0, .ref h0), (3, .int (nI s7)), (4, .int 1), (5, .int (nI (a5 + 1)))]) := lv_sub hl [5, 2, 1, 0] rfl
                    exact ih39_1 (a5 + 1) s7 1 _ _ _ (by omega) (by omega) (Or.inr (by omega)) (by rw [bI_set (by omega) es7, hs2]; rfl) (setLow (by omega) es7 hsl2) (setMin (by omega) es7 hmin2 (fun S h1 h2 => h2.back (a := a5) (by omega) eF5 eT5 (hmin2 S h1 h2 yB (hbk.resolve_left (fun h => c_154 h.1)).2.2.2.1) (hbk.resolve_left (fun h => c_154 h.1)).2.2.1)) (fun h9 => absurd h9 (by decide)) (by omega) hP hD hS hl
                  · have t_154 : (bk).toInt = 0 := toI_nne c_154 rfl (by decide)
                    refine lv_goto (tgt := 190) hx hb dX12_cut_157 (by decide) ?_
                    refine lv_iinc (v := (nI (a5 + 1))) hx hb dX12_cut_190 hl (k := 5) rfl (nI_add a5 1) (by decide) rfl (fun ls (hl : lv_has ls _ ([(5, .int (nI (a5 + 1))), (7, .int bk), (6, .int ah), (0, .ref h0), (3, .int (nI se2)), (4, .int m2)])) => ?_)
                    refine lv_goto (tgt := 39) hx hb dX12_cut_193 (by decide) ?_
                    have hl : lv_has _ _ ([(0, .ref h0), (3, .int (nI se2)), (4, .int m2), (5, .int (nI (a5 + 1)))]) := lv_sub hl [3, 4, 5, 0] rfl
                    exact ih39_1 (a5 + 1) se2 m2 _ _ _ (by omega) (by omega) (hm2) (hs2) (hsl2) (hmin2) (fun h9 => (hcl2 h9).next eF5 eT5 hfl5 (hah.resolve_right (fun h => by rw [h.1] at c_149; exact absurd c_149 (by decide))).2 (hbk.resolve_right (fun h => by rw [h.1] at c_154; exact absurd c_154 (by decide))).2) (by omega) hP hD hS hl
  · refine lv_if_ne (tgt := 11) hx hb dX12_cut_6 (by decide) (fun c9 => absurd c9 (by decide)) (fun _ => ?_)
    refine lv_iconst (v := 0) hx hb dX12_cut_9 (by decide) ?_
    refine W.widen (k := 0) (n := 0) (by decide +kernel) (by decide +kernel) ?_
    have e9 : fT (fT (fT vF 99 (vF 99)) 100 (vF 100)) 101 (vF 101) = vF := (fT_id _ _ ((fT_ne _ _ (Nat.ne_of_beq_eq_false rfl)).trans (fT_ne _ _ (Nat.ne_of_beq_eq_false rfl)))).trans ((fT_id _ _ (fT_ne _ _ (Nat.ne_of_beq_eq_false rfl))).trans (fT_id _ _ (rfl)))
    have hP : va_P (dC, dI) vwCl (WR a k h0 (fT vi 0 th3) vj (fT (fT (fT vF 99 (vF 99)) 100 (vF 100)) 101 (vF 101)) vG) H := by rw [e9]; exact hP
    have hD : va_D A (WR a k h0 (fT vi 0 th3) vj (fT (fT (fT vF 99 (vF 99)) 100 (vF 100)) 101 (vF 101)) vG) := by rw [e9]; exact hD
    clear e9
    exact W.iret (v := 0) hx hb hr (fun t9_ ht hW => ⟨⟨0, (th3, (vF 99), (vF 100), (vF 101)), rfl, by (try dsimp only); exact Or.inl f3_0, by rw [ht]; exact hP, hD⟩, hS.F ht⟩) hS.2.2 dX12_cut_10
end
section
theorem lv_ldcwS {p : Program} {l : Launch} {e : Env} {R : Room} {s : State} {m : MethodId} {args : Array Value} {below : List Frame} {meth : Method} {c : Code} {H : Heap} {locs : List Loc} {cells slots : Nat} {Q : State → Prop} {cc : ByteArray} {pc : Nat} {ls : Array Slot} {rest : List Value} (hexec : p.tables.exec = Jvm.exec) (hb : c.code = cc) {own tx : String} {index q : Nat} (hown : s.vm.findClass own = some m.cls) (hZ : vk_R own index tx q s) (hdg : decode cc pc = .ok (.ldc_w index, 3))
    (k : W p l e R s m args below meth c H locs cells slots Q (F0 m (pc + 3) ls (.ref q :: rest))) : W p l e R s m args below meth c H locs cells slots Q (F0 m pc ls rest) := by
  intro T hT X
  obtain ⟨t, a1, b1⟩ := k T hT X
  refine ⟨t, ?_, b1⟩
  obtain ⟨k9, cf, i, a', hk, hcf, hcp, -, hr, hev'⟩ := Cond.stringRef_spec hown hZ.1
  cases hZ.2.symm.trans hev'
  obtain ⟨k', hk', he⟩ := X.warmed.alike.2.2 _ _ hk
  have hr' : k'.resolved[index]? = some (some (.string q)) := by
    rcases X.warmed.entry hk hk' index with h | ⟨h, -⟩
    · rw [h]; exact hr
    · rw [hr] at h; cases h
  have hdg' : decode c.code (F0 m pc ls rest).pc = .ok (.ldc_w index, 3) := by rw [hb]; exact hdg
  jvm_step X.here [hexec, hdg', ldc_w.wp_string (e := e) (s := T) (f := F0 m pc ls rest) X.here.top hk' (by rw [he]; exact hcf) hcp hr']
  exact a1
/-- what the machine's own String asks of its statics -/
def JdkE (A : Nat → Prop) (U : State) (H : Heap) : Prop := va_Z RJ0 "COMPACT_STRINGS" "Z" (.int 1) A U H ∧ va_Zq "jdk/internal/util/Preconditions" "SIOOBE_FORMATTER" "Ljava/util/function/BiFunction;" A U H
theorem JdkE.kept {A : Nat → Prop} {U : State} {H H1 : Heap} (h : JdkE A U H) (hq : ∀ a : Nat, a < H.size → ¬ A a → H1[a]? = H[a]?) : JdkE A U H1 := ⟨h.1.kept hq, h.2.kept hq⟩
theorem JdkE.narrow {A B : Nat → Prop} {U : State} {H : Heap} (h : JdkE A U H) (hAB : ∀ q, B q → A q) : JdkE B U H := ⟨h.1.narrow hAB, h.2.narrow hAB⟩
theorem JdkE.alike {A : Nat → Prop} {U V : State} {H : Heap} (h : JdkE A U H) (hv : U.vm.Alike V.vm) : JdkE A V H := ⟨va_Z.moved hv h.1, va_Zq.moved hv h.2⟩
theorem JdkE.warm {A : Nat → Prop} {s U : State} {H : Heap} (h : JdkE A s H) (hW : s.WarmedH U.vm) : JdkE A U H := h.alike hW.alike
theorem JdkE.same {A : Nat → Prop} {U V : State} {H : Heap} (h : JdkE A U H) (hv : V.vm = U.vm) : JdkE A V H := h.alike (by rw [hv]; exact Vm.Alike.refl U.vm)
/-- a row of bytes -/
def ArrE (v n : Nat) (f : Nat → Int32) (A : Nat → Prop) (U : State) (H : Heap) : Prop := JdkE A U H ∧ va_T .byte v n (fun j => .int (f j)) A U H
theorem ArrE.kept {v n : Nat} {f : Nat → Int32} {A : Nat → Prop} {U : State} {H H1 : Heap} (h : ArrE v n f A U H) (hq : ∀ a : Nat, a < H.size → ¬ A a → H1[a]? = H[a]?) : ArrE v n f A U H1 := ⟨h.1.kept hq, h.2.kept hq⟩
theorem ArrE.narrow {v n : Nat} {f : Nat → Int32} {A B : Nat → Prop} {U : State} {H : Heap} (h : ArrE v n f A U H) (hAB : ∀ q, B q → A q) : ArrE v n f B U H := ⟨h.1.narrow hAB, h.2.narrow hAB⟩
theorem ArrE.alike {v n : Nat} {f : Nat → Int32} {A : Nat → Prop} {U V : State} {H : Heap} (h : ArrE v n f A U H) (hv : U.vm.Alike V.vm) : ArrE v n f A V H := ⟨h.1.alike hv, va_T.moved hv h.2⟩
theorem ArrE.warm {v n : Nat} {f : Nat → Int32} {A : Nat → Prop} {s U : State} {H : Heap} (h : ArrE v n f A s H) (hW : s.WarmedH U.vm) : ArrE v n f A U H := h.alike hW.alike
theorem ArrE.same {v n : Nat} {f : Nat → Int32} {A : Nat → Prop} {U V : State} {H : Heap} (h : ArrE v n f A U H) (hv : V.vm = U.vm) : ArrE v n f A V H := h.alike (by rw [hv]; exact Vm.Alike.refl U.vm)
/-- a text of n letters -/
def StrE (q n : Nat) (f : Nat → Int32) (A : Nat → Prop) (U : State) (H : Heap) : Prop := JdkE A U H ∧ va_O RJ0 q A U H ∧ va_OF RJ0 "coder" "B" (.int 0) q A U H ∧ ∃ v : Nat, va_OF RJ0 "value" "[B" (.ref v) q A U H ∧ va_T .byte v n (fun j => .int (f j)) A U H
theorem StrE.kept {q n : Nat} {f : Nat → Int32} {A : Nat → Prop} {U : State} {H H1 : Heap} (h : StrE q n f A U H) (hq : ∀ a : Nat, a < H.size → ¬ A a → H1[a]? = H[a]?) : StrE q n f A U H1 := ⟨h.1.kept hq, h.2.1.kept hq, h.2.2.1.kept hq, h.2.2.2.imp (fun _ h9 => ⟨h9.1.kept hq, h9.2.kept hq⟩)⟩
theorem StrE.narrow {q n : Nat} {f : Nat → Int32} {A B : Nat → Prop} {U : State} {H : Heap} (h : StrE q n f A U H) (hAB : ∀ q, B q → A q) : StrE q n f B U H := ⟨h.1.narrow hAB, h.2.1.narrow hAB, h.2.2.1.narrow hAB, h.2.2.2.imp (fun _ h9 => ⟨h9.1.narrow hAB, h9.2.narrow hAB⟩)⟩
theorem StrE.alike {q n : Nat} {f : Nat → Int32} {A : Nat → Prop} {U V : State} {H : Heap} (h : StrE q n f A U H) (hv : U.vm.Alike V.vm) : StrE q n f A V H := ⟨h.1.alike hv, va_O.moved hv h.2.1, va_OF.moved hv h.2.2.1, h.2.2.2.imp (fun _ h9 => ⟨va_OF.moved hv h9.1, va_T.moved hv h9.2⟩)⟩
theorem StrE.warm {q n : Nat} {f : Nat → Int32} {A : Nat → Prop} {s U : State} {H : Heap} (h : StrE q n f A s H) (hW : s.WarmedH U.vm) : StrE q n f A U H := h.alike hW.alike
theorem StrE.same {q n : Nat} {f : Nat → Int32} {A : Nat → Prop} {U V : State} {H : Heap} (h : StrE q n f A U H) (hv : V.vm = U.vm) : StrE q n f A V H := h.alike (by rw [hv]; exact Vm.Alike.refl U.vm)
theorem StrE.recv {q n : Nat} {f : Nat → Int32} {A : Nat → Prop} {s : State} {H : Heap} {locs : List Loc} (h : StrE q n f A s s.heap) (hS : va_S A s.heap H locs) : ∃ cell : Cell, H[q]? = some cell ∧ cell.vm.isStatics = false ∧ s.vm.findClass RJ0 = some cell.cls := by
  obtain ⟨cell, h1, h2, h3, -⟩ := h.2.1.kept hS.2.1
  exact ⟨cell, h1, h2, h3⟩
/-- the letters of the two texts -/
def kf (j : Nat) : Int32 := ([115, 101, 116, 32, 112, 97, 114, 97, 109, 32, 118, 97, 114, 32, 119, 104, 111, 108, 101, 32, 102, 114, 111, 109, 32, 116, 111, 32, 114, 111, 119, 32, 111, 114, 32, 105, 102, 32, 97, 110, 100, 32, 110, 111, 116, 32, 105, 110, 32, 115, 117, 109, 32, 100, 105, 102, 102, 101, 114, 101, 110, 116, 32, 109, 105, 110, 32, 109, 97, 120, 32] : List Int32).getD j 0
def tf (j : Nat) : Int32 := ([118, 97, 114, 32, 120, 32, 119, 104, 111, 108, 101, 32, 102, 114, 111, 109, 32, 116, 111, 32, 114, 111, 119, 32, 114, 32, 58, 32, 111, 114, 32, 60, 61, 32, 62, 61, 32, 61, 32, 100, 105, 102, 102, 101, 114, 101, 110, 116, 32, 44, 32, 59, 32, 109, 105, 110, 32, 109, 97, 120, 32, 42, 32] : List Int32).getD j 0
def c16 (x : Int32) : Int32 := ((x &&& 255).toUInt32 % 65536).toInt32
def kl (j : Nat) : Int32 := c16 (kf j)
def nSp : Nat → Nat
  | 0 => 0
  | n + 1 => nSp n + (if kl n = 32 then 1 else 0)
theorem kl_end : ∀ i, i < 71 → kl i ≠ 32 → i + 1 < 71 := by decide +kernel
theorem nSp_lt : ∀ i, i < 72 → nSp i < 16 → i < 71 := by decide +kernel
/-- the reference's two texts -/
def StrA (A : Nat → Prop) (U : State) (H : Heap) : Prop := (∃ q, vk_R RX12 471 "set param var whole from to row or if and not in sum different min max " q U ∧ StrE q 71 kf A U H) ∧ ∃ q, vk_R RX12 950 "var x whole from to row r : or <= >= = different , ; min max * " q U ∧ StrE q 63 tf A U H
theorem StrA.kept {A : Nat → Prop} {U : State} {H H1 : Heap} (h : StrA A U H) (hq : ∀ a : Nat, a < H.size → ¬ A a → H1[a]? = H[a]?) : StrA A U H1 := ⟨h.1.imp (fun _ h9 => ⟨h9.1, h9.2.kept hq⟩), h.2.imp (fun _ h9 => ⟨h9.1, h9.2.kept hq⟩)⟩
theorem StrA.narrow {A B : Nat → Prop} {U : State} {H : Heap} (h : StrA A U H) (hAB : ∀ q, B q → A q) : StrA B U H := ⟨h.1.imp (fun _ h9 => ⟨h9.1, h9.2.narrow hAB⟩), h.2.imp (fun _ h9 => ⟨h9.1, h9.2.narrow hAB⟩)⟩
theorem StrA.warm {A : Nat → Prop} {s U : State} {H : Heap} (h : StrA A s H) (hW : s.WarmedH U.vm) : StrA A U H := ⟨h.1.imp (fun _ h9 => ⟨vk_R.warm hW h9.1, h9.2.warm hW⟩), h.2.imp (fun _ h9 => ⟨vk_R.warm hW h9.1, h9.2.warm hW⟩)⟩
theorem StrA.same {A : Nat → Prop} {U V : State} {H : Heap} (h : StrA A U H) (hv : V.vm = U.vm) : StrA A V H := ⟨h.1.imp (fun _ h9 => ⟨vk_R.same hv h9.1, h9.2.same hv⟩), h.2.imp (fun _ h9 => ⟨vk_R.same hv h9.1, h9.2.same hv⟩)⟩
theorem nar_c (x : Int32) : narrow .char (.int (x.toUInt32 % 65536).toInt32) = .int (x.toUInt32 % 65536).toInt32 := by
  have h : ∀ y : Int32, narrow .char (.int y) = .int (y.toUInt32 % 65536).toInt32 := fun _ => rfl
  rw [h]
  congr 2
  refine UInt32.toNat_inj.mp ?_
  have h1 : ((x.toUInt32 % 65536).toInt32.toUInt32) = x.toUInt32 % 65536 := rfl
  rw [h1, UInt32.toNat_mod, UInt32.toNat_mod]
  exact Nat.mod_mod _ _
end
section
theorem hd_yJ0_isLatin1_aae02_RJ0 : yJ0_isLatin1_aae02.cls = RJ0 ∧ yJ0_isLatin1_aae02.cls ≠ "java/lang/invoke/MethodHandle" ∧ yJ0_isLatin1_aae02.cls ≠ "java/lang/invoke/VarHandle" ∧ (parseMethodDescriptor yJ0_isLatin1_aae02.desc).map (fun d => d.parameters.length) = some 0 := by decide +kernel
theorem hd_yJ0_charAt_5068e_RJ0 : yJ0_charAt_5068e.cls = RJ0 ∧ yJ0_charAt_5068e.cls ≠ "java/lang/invoke/MethodHandle" ∧ yJ0_charAt_5068e.cls ≠ "java/lang/invoke/VarHandle" ∧ (parseMethodDescriptor yJ0_charAt_5068e.desc).map (fun d => d.parameters.length) = some 1 := by decide +kernel
theorem dJ3_checkIndex_8e157_0 : decode cJ3_checkIndex_8e157 0 = .ok (.iload_n 0, 1) := dk_26 (by decide +kernel)
theorem dJ3_checkIndex_8e157_1 : decode cJ3_checkIndex_8e157 1 = .ok (.ifCond .lt 8, 3) := dk_155 (by decide +kernel)
theorem dJ3_checkIndex_8e157_4 : decode cJ3_checkIndex_8e157 4 = .ok (.iload_n 0, 1) := dk_26 (by decide +kernel)
theorem dJ3_checkIndex_8e157_5 : decode cJ3_checkIndex_8e157 5 = .ok (.iload_n 1, 1) := dk_27 (by decide +kernel)
theorem dJ3_checkIndex_8e157_6 : decode cJ3_checkIndex_8e157 6 = .ok (.if_icmp .lt 10, 3) := dk_161 (by decide +kernel)
theorem dJ3_checkIndex_8e157_16 : decode cJ3_checkIndex_8e157 16 = .ok (.iload_n 0, 1) := dk_26 (by decide +kernel)
theorem dJ3_checkIndex_8e157_17 : decode cJ3_checkIndex_8e157 17 = .ok (.ireturn, 1) := dk_172 (by decide +kernel)
def wsRJ3cia : List Cond := .code yJ3_checkIndex_8e157 cJ3_checkIndex_8e157 3 (some .int) :: ([])
theorem gdwsRJ3cia : wsRJ3cia.all goodWord = true := gdC rfl (by decide +kernel : ([] : List Cond).all goodWord = true)
set_option maxHeartbeats 4000000 in
set_option maxRecDepth 100000 in
/-- Preconditions.checkIndex, within -/
theorem r_J3_checkIndex_8e157a (l : Launch) (dC : Nat → ClassId) (dI : Nat → Nat → Nat) (fq : Nat) (kn : Nat) (nn : Nat) (hkn : kn < nn) (hnn : nn < 2 ^ 31) (sz : Nat) : Met l yJ3_checkIndex_8e157 wsRJ3cia ({ frames := 0, cells := 0, slots := 0, locals := 0 }) (va_Pc [.int (nI kn), .int (nI nn), .ref fq] (fun U => U.heap.size = sz ∧ va_P (dC, dI) vwCl [] U.heap ∧ va_K (dC, dI) vwCl [] U ∧ va_D (fun _ => True) [])) (va_Qi (fun (r : Int32) (u : Unit) => True) (fun (u : Unit) t => True) (va_A [] sz)) 0 0 (va_A [] sz) := by
  refine Met.ofW (cc := cJ3_checkIndex_8e157) (maxL := 3) (ret := (some .int)) (by decide) rfl ?_
  intro p e s m args below meth c s₁ B hml hv
  obtain ⟨rfl, hsz, hP, hK, hD0⟩ := hv
  have hx := B.exec
  have hb := B.bytes
  have hr := B.returns
  have hts := atoms_spec (ws := wsRJ3cia) B.pre
  have hown : s.vm.findClass RJ3 = some m.cls := findClass_of_methodNamed B.named
  have hlocks := B.notSynchronized
  subst hsz
  have hD := hD0.self (sz := s.heap.size)
  generalize hAe : va_A [] s.heap.size = A at hD ⊢
  have hA : ∀ q : Nat, s.heap.size ≤ q → A q := fun q h => by rw [← hAe]; exact Or.inr h
  have hS : va_S A s.heap s.heap [] := va_S.rf
  have hl := lv_entry ([.int (nI kn), .int (nI nn), .ref fq]) (n := 3) (Nat.le_of_ble_eq_true rfl)
  rw [lg_entry_eq]
  generalize (lg_sl ([.int (nI kn), .int (nI nn), .ref fq]) ++ List.replicate (3 - (lg_sl ([.int (nI kn), .int (nI nn), .ref fq])).length) Slot.unset).toArray = ls at hl ⊢
  have hl : lv_has ls 3 [(0, .int (nI kn)), (1, .int (nI nn)), (2, .ref fq)] := hl
  refine lv_iload_n hx hb dJ3_checkIndex_8e157_0 rfl (lv_at hl 0 rfl) ?_
  refine lv_if_lt (tgt := 9) hx hb dJ3_checkIndex_8e157_1 (by decide) (fun c9 => False.elim (by have t9 : ((kn : Nat) : Int) < 0 := toI_lt c9 (nI_toInt (by omega)) (by decide); omega)) (fun c_1 => ?_)
  have t_1 : ¬ ((kn : Nat) : Int) < 0 := toI_nlt c_1 (nI_toInt (by omega)) (by decide)
  refine lv_iload_n hx hb dJ3_checkIndex_8e157_4 rfl (lv_at hl 0 rfl) ?_
  refine lv_iload_n hx hb dJ3_checkIndex_8e157_5 rfl (lv_at hl 1 rfl) ?_
  refine lv_icmp_lt (tgt := 16) hx hb dJ3_checkIndex_8e157_6 (by decide) (fun c_6 => ?_) (fun c9 => False.elim (by have t9 : ¬ ((kn : Nat) : Int) < ((nn : Nat) : Int) := toI_nlt c9 (nI_toInt (by omega)) (nI_toInt (by omega)); omega))
  have t_6 : ((kn : Nat) : Int) < ((nn : Nat) : Int) := toI_lt c_6 (nI_toInt (by omega)) (nI_toInt (by omega))
  refine lv_iload_n hx hb dJ3_checkIndex_8e157_16 rfl (lv_at hl 0 rfl) ?_
  refine W.widen (k := 0) (n := 0) (by decide +kernel) (by decide +kernel) ?_
  exact W.iret (v := (nI kn)) hx hb hr (fun t9_ ht hW => ⟨⟨(nI kn), (), rfl, trivial, trivial⟩, hS.F ht⟩) hS.2.2 dJ3_checkIndex_8e157_17
def wsRJ3cib : List Cond := .code yJ3_checkIndex_8e157 cJ3_checkIndex_8e157 3 (some .int) :: ([])
theorem gdwsRJ3cib : wsRJ3cib.all goodWord = true := gdC rfl (by decide +kernel : ([] : List Cond).all goodWord = true)
set_option maxHeartbeats 4000000 in
set_option maxRecDepth 100000 in
/-- Preconditions.checkIndex, within -/
theorem r_J3_checkIndex_8e157b (l : Launch) (dC : Nat → ClassId) (dI : Nat → Nat → Nat) (kn : Nat) (nn : Nat) (hkn : kn < nn) (hnn : nn < 2 ^ 31) (sz : Nat) : Met l yJ3_checkIndex_8e157 wsRJ3cib ({ frames := 0, cells := 0, slots := 0, locals := 0 }) (va_Pc [.int (nI kn), .int (nI nn), .null] (fun U => U.heap.size = sz ∧ va_P (dC, dI) vwCl [] U.heap ∧ va_K (dC, dI) vwCl [] U ∧ va_D (fun _ => True) [])) (va_Qi (fun (r : Int32) (u : Unit) => True) (fun (u : Unit) t => True) (va_A [] sz)) 0 0 (va_A [] sz) := by
  refine Met.ofW (cc := cJ3_checkIndex_8e157) (maxL := 3) (ret := (some .int)) (by decide) rfl ?_
  intro p e s m args below meth c s₁ B hml hv
  obtain ⟨rfl, hsz, hP, hK, hD0⟩ := hv
  have hx := B.exec
  have hb := B.bytes
  have hr := B.returns
  have hts := atoms_spec (ws := wsRJ3cib) B.pre
  have hown : s.vm.findClass RJ3 = some m.cls := findClass_of_methodNamed B.named
  have hlocks := B.notSynchronized
  subst hsz
  have hD := hD0.self (sz := s.heap.size)
  generalize hAe : va_A [] s.heap.size = A at hD ⊢
  have hA : ∀ q : Nat, s.heap.size ≤ q → A q := fun q h => by rw [← hAe]; exact Or.inr h
  have hS : va_S A s.heap s.heap [] := va_S.rf
  have hl := lv_entry ([.int (nI kn), .int (nI nn), .null]) (n := 3) (Nat.le_of_ble_eq_true rfl)
  rw [lg_entry_eq]
  generalize (lg_sl ([.int (nI kn), .int (nI nn), .null]) ++ List.replicate (3 - (lg_sl ([.int (nI kn), .int (nI nn), .null])).length) Slot.unset).toArray = ls at hl ⊢
  have hl : lv_has ls 3 [(0, .int (nI kn)), (1, .int (nI nn)), (2, .null)] := hl
  refine lv_iload_n hx hb dJ3_checkIndex_8e157_0 rfl (lv_at hl 0 rfl) ?_
  refine lv_if_lt (tgt := 9) hx hb dJ3_checkIndex_8e157_1 (by decide) (fun c9 => False.elim (by have t9 : ((kn : Nat) : Int) < 0 := toI_lt c9 (nI_toInt (by omega)) (by decide); omega)) (fun c_1 => ?_)
  have t_1 : ¬ ((kn : Nat) : Int) < 0 := toI_nlt c_1 (nI_toInt (by omega)) (by decide)
  refine lv_iload_n hx hb dJ3_checkIndex_8e157_4 rfl (lv_at hl 0 rfl) ?_
  refine lv_iload_n hx hb dJ3_checkIndex_8e157_5 rfl (lv_at hl 1 rfl) ?_
  refine lv_icmp_lt (tgt := 16) hx hb dJ3_checkIndex_8e157_6 (by decide) (fun c_6 => ?_) (fun c9 => False.elim (by have t9 : ¬ ((kn : Nat) : Int) < ((nn : Nat) : Int) := toI_nlt c9 (nI_toInt (by omega)) (nI_toInt (by omega)); omega))
  have t_6 : ((kn : Nat) : Int) < ((nn : Nat) : Int) := toI_lt c_6 (nI_toInt (by omega)) (nI_toInt (by omega))
  refine lv_iload_n hx hb dJ3_checkIndex_8e157_16 rfl (lv_at hl 0 rfl) ?_
  refine W.widen (k := 0) (n := 0) (by decide +kernel) (by decide +kernel) ?_
  exact W.iret (v := (nI kn)) hx hb hr (fun t9_ ht hW => ⟨⟨(nI kn), (), rfl, trivial, trivial⟩, hS.F ht⟩) hS.2.2 dJ3_checkIndex_8e157_17
theorem dJ0_checkIndex_df160_0 : decode cJ0_checkIndex_df160 0 = .ok (.iload_n 0, 1) := dk_26 (by decide +kernel)
theorem dJ0_checkIndex_df160_1 : decode cJ0_checkIndex_df160 1 = .ok (.iload_n 1, 1) := dk_27 (by decide +kernel)
theorem dJ0_checkIndex_df160_2 : decode cJ0_checkIndex_df160 2 = .ok (.getstatic 1053, 3) := dk_178 (by decide +kernel)
theorem dJ0_checkIndex_df160_5 : decode cJ0_checkIndex_df160 5 = .ok (.invokestatic 1059, 3) := dk_184 (by decide +kernel)
theorem dJ0_checkIndex_df160_8 : decode cJ0_checkIndex_df160 8 = .ok (.pop, 1) := dk_87 (by decide +kernel)
theorem dJ0_checkIndex_df160_9 : decode cJ0_checkIndex_df160 9 = .ok (.return_, 1) := dk_177 (by decide +kernel)
def wsRJ0ci : List Cond := .code yJ0_checkIndex_df160 cJ0_checkIndex_df160 2 none :: ([.fieldLink RJ0 1053 "jdk/internal/util/Preconditions" "SIOOBE_FORMATTER" "Ljava/util/function/BiFunction;"] ++ (va_wsS RJ0 1059 yJ3_checkIndex_8e157 wsRJ3cib) ++ (va_wsS RJ0 1059 yJ3_checkIndex_8e157 wsRJ3cia))
theorem gwsRJ0ci_0 : GoodIn wsRJ0ci (va_wsS RJ0 1059 yJ3_checkIndex_8e157 wsRJ3cib) := goodIn_sub (fun _ h => List.mem_cons_of_mem _ (List.mem_append_left _ (List.mem_append_right _ h))) (gdS (by decide +kernel) gdwsRJ3cib)
theorem gwsRJ0ci_1 : GoodIn wsRJ0ci (va_wsS RJ0 1059 yJ3_checkIndex_8e157 wsRJ3cia) := goodIn_sub (fun _ h => List.mem_cons_of_mem _ (List.mem_append_right _ h)) (gdS (by decide +kernel) gdwsRJ3cia)
theorem gdwsRJ0ci : wsRJ0ci.all goodWord = true := gdC rfl (gdA (gdA (by decide +kernel : ([.fieldLink RJ0 1053 "jdk/internal/util/Preconditions" "SIOOBE_FORMATTER" "Ljava/util/function/BiFunction;"] : List Cond).all goodWord = true) (gdS (by decide +kernel) gdwsRJ3cib)) (gdS (by decide +kernel) gdwsRJ3cia))
set_option maxHeartbeats 4000000 in
set_option maxRecDepth 100000 in
/-- String.checkIndex, within -/
theorem r_J0_checkIndex_df160 (l : Launch) (dC : Nat → ClassId) (dI : Nat → Nat → Nat) (kn : Nat) (nn : Nat) (hkn : kn < nn) (hnn : nn < 2 ^ 31) (sz : Nat) : Met l yJ0_checkIndex_df160 wsRJ0ci ({ frames := 1, cells := 0, slots := 0, locals := 22 }) (va_Pc [.int (nI kn), .int (nI nn)] (fun U => U.heap.size = sz ∧ va_P (dC, dI) vwCl [] U.heap ∧ va_K (dC, dI) vwCl [] U ∧ va_D (fun _ => True) [] ∧ JdkE (va_A [] sz) U U.heap)) (va_Qv (fun (u : Unit) => True) (fun (u : Unit) t => True) (va_A [] sz)) 0 0 (va_A [] sz) := by
  refine Met.ofW (cc := cJ0_checkIndex_df160) (maxL := 2) (ret := none) (by decide) rfl ?_
  intro p e s m args below meth c s₁ B hml hv
  obtain ⟨rfl, hsz, hP, hK, hD0, hE⟩ := hv
  have hx := B.exec
  have hb := B.bytes
  have hr := B.returns
  have hts := atoms_spec (ws := wsRJ0ci) B.pre
  have hown : s.vm.findClass RJ0 = some m.cls := findClass_of_methodNamed B.named
  have hlocks := B.notSynchronized
  subst hsz
  have hD := hD0.self (sz := s.heap.size)
  generalize hAe : va_A [] s.heap.size = A at hD hE ⊢
  have hA : ∀ q : Nat, s.heap.size ≤ q → A q := fun q h => by rw [← hAe]; exact Or.inr h
  have hS : va_S A s.heap s.heap [] := va_S.rf
  have hl := lv_entry ([.int (nI kn), .int (nI nn)]) (n := 2) (Nat.le_of_ble_eq_true rfl)
  rw [lg_entry_eq]
  generalize (lg_sl ([.int (nI kn), .int (nI nn)]) ++ List.replicate (2 - (lg_sl ([.int (nI kn), .int (nI nn)])).length) Slot.unset).toArray = ls at hl ⊢
  have hl : lv_has ls 2 [(0, .int (nI kn)), (1, .int (nI nn))] := hl
  refine lv_iload_n hx hb dJ0_checkIndex_df160_0 rfl (lv_at hl 0 rfl) ?_
  refine lv_iload_n hx hb dJ0_checkIndex_df160_1 rfl (lv_at hl 1 rfl) ?_
  rcases hE.2 with hz | ⟨fq, hz⟩
  · refine va_gets hx hb hz hS hown (hts (.fieldLink RJ0 1053 "jdk/internal/util/Preconditions" "SIOOBE_FORMATTER" "Ljava/util/function/BiFunction;") (by decide +kernel)) (fun _ h9 => h9) dJ0_checkIndex_df160_2 ?_
    have hFc := noneFree hS hA
    refine va_calli (va_runS (As := [.int (nI kn), .int (nI nn), .null]) (rest := []) ⟨hx, hb, hml, hown, hts⟩ (r_J3_checkIndex_8e157b l dC dI kn nn (by first | with_reducible assumption | decide | omega | rfl | assumption) (by first | with_reducible assumption | decide | omega | rfl | assumption) s.heap.size) (va_cwS 3 hts gwsRJ0ci_0 rfl rfl rfl (by decide +kernel) ⟨by decide +kernel, by decide +kernel⟩) ⟨fun a U g mk q => by obtain ⟨q0, q1, qP, qK, qD⟩ := q; exact ⟨q0, q1, qP, va_K.moved (u := U) (U := U.calling g mk a) (Vm.Alike.refl U.vm) qK, qD⟩, fun U hU9 hW => ⟨rfl, by rw [hU9], by rw [hU9]; exact nilP, va_K.moved hW.alike (hK.sub (tys' := []) [] rfl), nilD⟩⟩ rfl rfl hl.1 rfl (lv_room (Nat.le_of_ble_eq_true rfl)) dJ0_checkIndex_df160_5 (by decide +kernel)) hS (fun q _ h => hFc q h) hFc (fun r5 u t9_ H1 locs ht hvm hw9 hB9 hz1 hk1 hS => ?_)
    have hP := keepAll hP hk1
    clear hB9
    generalize H1 = H at hP hS ⊢
    have hP : va_P (dC, dI) vwCl ([]) H := hP
    have hD : va_D A ([]) := hD
    refine lv_pop hx hb dJ0_checkIndex_df160_8 rfl ?_
    refine W.widen (k := 0) (n := 0) (by decide +kernel) (by decide +kernel) ?_
    exact W.vret hx hb hr (fun t9_ ht hW => ⟨⟨(), rfl, trivial, trivial⟩, hS.F ht⟩) hS.2.2 dJ0_checkIndex_df160_9
  · refine va_gets hx hb hz hS hown (hts (.fieldLink RJ0 1053 "jdk/internal/util/Preconditions" "SIOOBE_FORMATTER" "Ljava/util/function/BiFunction;") (by decide +kernel)) (fun _ h9 => h9) dJ0_checkIndex_df160_2 ?_
    have hFc := noneFree hS hA
    refine va_calli (va_runS (As := [.int (nI kn), .int (nI nn), .ref fq]) (rest := []) ⟨hx, hb, hml, hown, hts⟩ (r_J3_checkIndex_8e157a l dC dI fq kn nn (by first | with_reducible assumption | decide | omega | rfl | assumption) (by first | with_reducible assumption | decide | omega | rfl | assumption) s.heap.size) (va_cwS 3 hts gwsRJ0ci_1 rfl rfl rfl (by decide +kernel) ⟨by decide +kernel, by decide +kernel⟩) ⟨fun a U g mk q => by obtain ⟨q0, q1, qP, qK, qD⟩ := q; exact ⟨q0, q1, qP, va_K.moved (u := U) (U := U.calling g mk a) (Vm.Alike.refl U.vm) qK, qD⟩, fun U hU9 hW => ⟨rfl, by rw [hU9], by rw [hU9]; exact nilP, va_K.moved hW.alike (hK.sub (tys' := []) [] rfl), nilD⟩⟩ rfl rfl hl.1 rfl (lv_room (Nat.le_of_ble_eq_true rfl)) dJ0_checkIndex_df160_5 (by decide +kernel)) hS (fun q _ h => hFc q h) hFc (fun r5_1 u t9_ H1 locs ht hvm hw9 hB9 hz1 hk1 hS => ?_)
    have hP := keepAll hP hk1
    clear hB9
    generalize H1 = H at hP hS ⊢
    have hP : va_P (dC, dI) vwCl ([]) H := hP
    have hD : va_D A ([]) := hD
    refine lv_pop hx hb dJ0_checkIndex_df160_8 rfl ?_
    refine W.widen (k := 0) (n := 0) (by decide +kernel) (by decide +kernel) ?_
    exact W.vret hx hb hr (fun t9_ ht hW => ⟨⟨(), rfl, trivial, trivial⟩, hS.F ht⟩) hS.2.2 dJ0_checkIndex_df160_9
theorem dJ1_charAt_3b067_0 : decode cJ1_charAt_3b067 0 = .ok (.iload_n 1, 1) := dk_27 (by decide +kernel)
theorem dJ1_charAt_3b067_1 : decode cJ1_charAt_3b067 1 = .ok (.aload_n 0, 1) := dk_42 (by decide +kernel)
theorem dJ1_charAt_3b067_2 : decode cJ1_charAt_3b067 2 = .ok (.arraylength, 1) := dk_190 (by decide +kernel)
theorem dJ1_charAt_3b067_3 : decode cJ1_charAt_3b067 3 = .ok (.invokestatic 9, 3) := dk_184 (by decide +kernel)
theorem dJ1_charAt_3b067_6 : decode cJ1_charAt_3b067 6 = .ok (.aload_n 0, 1) := dk_42 (by decide +kernel)
theorem dJ1_charAt_3b067_7 : decode cJ1_charAt_3b067 7 = .ok (.iload_n 1, 1) := dk_27 (by decide +kernel)
theorem dJ1_charAt_3b067_8 : decode cJ1_charAt_3b067 8 = .ok (.baload, 1) := dk_51 (by decide +kernel)
theorem dJ1_charAt_3b067_9 : decode cJ1_charAt_3b067 9 = .ok (.sipush 255, 3) := dk_17 (by decide +kernel)
theorem dJ1_charAt_3b067_12 : decode cJ1_charAt_3b067 12 = .ok (.iand, 1) := dk_126 (by decide +kernel)
theorem dJ1_charAt_3b067_13 : decode cJ1_charAt_3b067 13 = .ok (.i2c, 1) := dk_146 (by decide +kernel)
theorem dJ1_charAt_3b067_14 : decode cJ1_charAt_3b067 14 = .ok (.ireturn, 1) := dk_172 (by decide +kernel)
def wsRJ1ca : List Cond := .code yJ1_charAt_3b067 cJ1_charAt_3b067 2 (some .char) :: ([] ++ (va_wsS RJ1 9 yJ0_checkIndex_df160 wsRJ0ci))
theorem gwsRJ1ca_0 : GoodIn wsRJ1ca (va_wsS RJ1 9 yJ0_checkIndex_df160 wsRJ0ci) := goodIn_sub (fun _ h => List.mem_cons_of_mem _ (List.mem_append_right _ h)) (gdS (by decide +kernel) gdwsRJ0ci)
theorem gdwsRJ1ca : wsRJ1ca.all goodWord = true := gdC rfl (gdA (by decide +kernel : ([] : List Cond).all goodWord = true) (gdS (by decide +kernel) gdwsRJ0ci))
set_option maxHeartbeats 4000000 in
set_option maxRecDepth 100000 in
/-- StringLatin1.charAt, within -/
theorem r_J1_charAt_3b067 (l : Launch) (dC : Nat → ClassId) (dI : Nat → Nat → Nat) (vq : Nat) (fB : Nat → Int32) (kn : Nat) (nn : Nat) (hkn : kn < nn) (hnn : nn < 2 ^ 31) (sz : Nat) : Met l yJ1_charAt_3b067 wsRJ1ca ({ frames := 2, cells := 0, slots := 0, locals := 43 }) (va_Pc [.ref vq, .int (nI kn)] (fun U => U.heap.size = sz ∧ va_P (dC, dI) vwCl [] U.heap ∧ va_K (dC, dI) vwCl [] U ∧ va_D (fun _ => True) [] ∧ (ArrE vq nn fB) (va_A [] sz) U U.heap)) (va_Qi (fun (r : Int32) (u : Unit) => (narrow .char (.int r) = .int r) ∧ (r = c16 (fB kn))) (fun (u : Unit) t => True) (va_A [] sz)) 0 0 (va_A [] sz) := by
  refine Met.ofW (cc := cJ1_charAt_3b067) (maxL := 2) (ret := (some .char)) (by decide) rfl ?_
  intro p e s m args below meth c s₁ B hml hv
  obtain ⟨rfl, hsz, hP, hK, hD0, hE⟩ := hv
  have hx := B.exec
  have hb := B.bytes
  have hr := B.returns
  have hts := atoms_spec (ws := wsRJ1ca) B.pre
  have hown : s.vm.findClass RJ1 = some m.cls := findClass_of_methodNamed B.named
  have hlocks := B.notSynchronized
  subst hsz
  have hD := hD0.self (sz := s.heap.size)
  generalize hAe : va_A [] s.heap.size = A at hD hE ⊢
  have hA : ∀ q : Nat, s.heap.size ≤ q → A q := fun q h => by rw [← hAe]; exact Or.inr h
  have hS : va_S A s.heap s.heap [] := va_S.rf
  have hl := lv_entry ([.ref vq, .int (nI kn)]) (n := 2) (Nat.le_of_ble_eq_true rfl)
  rw [lg_entry_eq]
  generalize (lg_sl ([.ref vq, .int (nI kn)]) ++ List.replicate (2 - (lg_sl ([.ref vq, .int (nI kn)])).length) Slot.unset).toArray = ls at hl ⊢
  have hl : lv_has ls 2 [(0, .ref vq), (1, .int (nI kn))] := hl
  refine lv_iload_n hx hb dJ1_charAt_3b067_0 rfl (lv_at hl 1 rfl) ?_
  refine lv_aload_n hx hb dJ1_charAt_3b067_1 rfl (lv_at hl 0 rfl) ?_
  have hTB := hE.2
  refine va_tlen hx hb hTB hS (v := nI nn) rfl dJ1_charAt_3b067_2 ?_
  have hFc := noneFree hS hA
  refine va_callv (va_runS (As := [.int (nI kn), .int (nI nn)]) (rest := []) ⟨hx, hb, hml, hown, hts⟩ (r_J0_checkIndex_df160 l dC dI kn nn (by first | with_reducible assumption | decide | omega | rfl | assumption) (by first | with_reducible assumption | decide | omega | rfl | assumption) s.heap.size) (va_cwS 2 hts gwsRJ1ca_0 rfl rfl rfl (by decide +kernel) ⟨by decide +kernel, by decide +kernel⟩) ⟨fun a U g mk q => by obtain ⟨q0, q1, qP, qK, qD, qE⟩ := q; exact ⟨q0, q1, qP, va_K.moved (u := U) (U := U.calling g mk a) (Vm.Alike.refl U.vm) qK, qD, qE.same rfl⟩, fun U hU9 hW => ⟨rfl, by rw [hU9], by rw [hU9]; exact nilP, va_K.moved hW.alike (hK.sub (tys' := []) [] rfl), nilD, by rw [hU9]; exact (((hE.1 : JdkE A s s.heap).kept hS.2.1).narrow (fun q h => hFc q h)).warm hW⟩⟩ rfl rfl hl.1 rfl (lv_room (Nat.le_of_ble_eq_true rfl)) dJ1_charAt_3b067_3 (by decide +kernel)) hS (fun q _ h => hFc q h) hFc (fun u t9_ H1 locs ht hvm hw9 hB9 hz1 hk1 hS => ?_)
  have hP := keepAll hP hk1
  clear hB9
  generalize H1 = H at hP hS ⊢
  have hP : va_P (dC, dI) vwCl ([]) H := hP
  have hD : va_D A ([]) := hD
  refine lv_aload_n hx hb dJ1_charAt_3b067_6 rfl (lv_at hl 0 rfl) ?_
  refine lv_iload_n hx hb dJ1_charAt_3b067_7 rfl (lv_at hl 1 rfl) ?_
  refine va_tb hx hb hTB hS (vp_in_nI (show kn < nn by omega) (by omega)) (v := .int (fB kn)) (by rw [nI_clamp (by omega)]) dJ1_charAt_3b067_8 ?_
  refine lv_sipush (v := 255) hx hb dJ1_charAt_3b067_9 (by decide) ?_
  refine lv_iand hx hb dJ1_charAt_3b067_12 ?_
  obtain ⟨rC, hrC⟩ : ∃ rC, rC = ((((fB kn) &&& 255)).toUInt32 % 65536).toInt32 := ⟨_, rfl⟩
  refine lv_i2c hx hb dJ1_charAt_3b067_13 hrC.symm ?_
  refine W.widen (k := 0) (n := 0) (by decide +kernel) (by decide +kernel) ?_
  exact W.zret (v := rC) hx hb hr (by rw [hrC]; exact nar_c _) (fun t9_ ht hW => ⟨⟨rC, (), rfl, by (try dsimp only); exact ⟨by rw [hrC]; exact nar_c _, hrC⟩, trivial⟩, hS.F ht⟩) hS.2.2 dJ1_charAt_3b067_14
theorem dJ0_isLatin1_aae02_0 : decode cJ0_isLatin1_aae02 0 = .ok (.getstatic 38, 3) := dk_178 (by decide +kernel)
theorem dJ0_isLatin1_aae02_3 : decode cJ0_isLatin1_aae02 3 = .ok (.ifCond .eq 14, 3) := dk_153 (by decide +kernel)
theorem dJ0_isLatin1_aae02_6 : decode cJ0_isLatin1_aae02 6 = .ok (.aload_n 0, 1) := dk_42 (by decide +kernel)
theorem dJ0_isLatin1_aae02_7 : decode cJ0_isLatin1_aae02 7 = .ok (.getfield 15, 3) := dk_180 (by decide +kernel)
theorem dJ0_isLatin1_aae02_10 : decode cJ0_isLatin1_aae02 10 = .ok (.ifCond .ne 7, 3) := dk_154 (by decide +kernel)
theorem dJ0_isLatin1_aae02_13 : decode cJ0_isLatin1_aae02 13 = .ok (.iconst 1, 1) := dk_4 (by decide +kernel)
theorem dJ0_isLatin1_aae02_14 : decode cJ0_isLatin1_aae02 14 = .ok (.goto 4, 3) := dk_167 (by decide +kernel)
theorem dJ0_isLatin1_aae02_18 : decode cJ0_isLatin1_aae02 18 = .ok (.ireturn, 1) := dk_172 (by decide +kernel)
def wsRJ0il : List Cond := .code yJ0_isLatin1_aae02 cJ0_isLatin1_aae02 1 (some .boolean) :: ([.fieldLink RJ0 38 "java/lang/String" "COMPACT_STRINGS" "Z", .fieldLink RJ0 15 "java/lang/String" "coder" "B"])
theorem gdwsRJ0il : wsRJ0il.all goodWord = true := gdC rfl (by decide +kernel : ([.fieldLink RJ0 38 "java/lang/String" "COMPACT_STRINGS" "Z", .fieldLink RJ0 15 "java/lang/String" "coder" "B"] : List Cond).all goodWord = true)
set_option maxHeartbeats 4000000 in
set_option maxRecDepth 100000 in
/-- String.isLatin1 -/
theorem r_J0_isLatin1_aae02 (l : Launch) (dC : Nat → ClassId) (dI : Nat → Nat → Nat) (qS : Nat) (nn : Nat) (fB : Nat → Int32) (sz : Nat) : Met l yJ0_isLatin1_aae02 wsRJ0il ({ frames := 0, cells := 0, slots := 0, locals := 0 }) (va_Pc [.ref qS] (fun U => U.heap.size = sz ∧ va_P (dC, dI) vwCl [] U.heap ∧ va_K (dC, dI) vwCl [] U ∧ va_D (fun _ => True) [] ∧ (StrE qS nn fB) (va_A [] sz) U U.heap)) (va_Qi (fun (r : Int32) (u : Unit) => r = 1) (fun (u : Unit) t => True) (va_A [] sz)) 0 0 (va_A [] sz) := by
  refine Met.ofW (cc := cJ0_isLatin1_aae02) (maxL := 1) (ret := (some .boolean)) (by decide) rfl ?_
  intro p e s m args below meth c s₁ B hml hv
  obtain ⟨rfl, hsz, hP, hK, hD0, hE⟩ := hv
  have hx := B.exec
  have hb := B.bytes
  have hr := B.returns
  have hts := atoms_spec (ws := wsRJ0il) B.pre
  have hown : s.vm.findClass RJ0 = some m.cls := findClass_of_methodNamed B.named
  have hlocks := B.notSynchronized
  subst hsz
  have hD := hD0.self (sz := s.heap.size)
  generalize hAe : va_A [] s.heap.size = A at hD hE ⊢
  have hA : ∀ q : Nat, s.heap.size ≤ q → A q := fun q h => by rw [← hAe]; exact Or.inr h
  have hS : va_S A s.heap s.heap [] := va_S.rf
  have hl := lv_entry ([.ref qS]) (n := 1) (Nat.le_of_ble_eq_true rfl)
  rw [lg_entry_eq]
  generalize (lg_sl ([.ref qS]) ++ List.replicate (1 - (lg_sl ([.ref qS])).length) Slot.unset).toArray = ls at hl ⊢
  have hl : lv_has ls 1 [(0, .ref qS)] := hl
  refine va_gets hx hb hE.1.1 hS hown (hts (.fieldLink RJ0 38 "java/lang/String" "COMPACT_STRINGS" "Z") (by decide +kernel)) (fun _ h9 => h9) dJ0_isLatin1_aae02_0 ?_
  refine lv_if_eq (tgt := 17) hx hb dJ0_isLatin1_aae02_3 (by decide) (fun c9 => absurd c9 (by decide)) (fun _ => ?_)
  refine lv_aload_n hx hb dJ0_isLatin1_aae02_6 rfl (lv_at hl 0 rfl) ?_
  refine vk_getf hx hb hE.2.2.1 hS hown (hts (.fieldLink RJ0 15 "java/lang/String" "coder" "B") (by decide +kernel)) (fun _ h9 => h9) dJ0_isLatin1_aae02_7 ?_
  refine lv_if_ne (tgt := 17) hx hb dJ0_isLatin1_aae02_10 (by decide) (fun c9 => absurd c9 (by decide)) (fun _ => ?_)
  refine lv_iconst (v := 1) hx hb dJ0_isLatin1_aae02_13 (by decide) ?_
  refine lv_goto (tgt := 18) hx hb dJ0_isLatin1_aae02_14 (by decide) ?_
  refine W.widen (k := 0) (n := 0) (by decide +kernel) (by decide +kernel) ?_
  exact W.zret (v := 1) hx hb hr rfl (fun t9_ ht hW => ⟨⟨1, (), rfl, by (first | rfl | assumption | trivial | omega | (simp []; done) | (simp; omega)), trivial⟩, hS.F ht⟩) hS.2.2 dJ0_isLatin1_aae02_18
theorem dJ0_charAt_5068e_0 : decode cJ0_charAt_5068e 0 = .ok (.aload_n 0, 1) := dk_42 (by decide +kernel)
theorem dJ0_charAt_5068e_1 : decode cJ0_charAt_5068e 1 = .ok (.invokevirtual 492, 3) := dk_182 (by decide +kernel)
theorem dJ0_charAt_5068e_4 : decode cJ0_charAt_5068e 4 = .ok (.ifCond .eq 12, 3) := dk_153 (by decide +kernel)
theorem dJ0_charAt_5068e_7 : decode cJ0_charAt_5068e 7 = .ok (.aload_n 0, 1) := dk_42 (by decide +kernel)
theorem dJ0_charAt_5068e_8 : decode cJ0_charAt_5068e 8 = .ok (.getfield 9, 3) := dk_180 (by decide +kernel)
theorem dJ0_charAt_5068e_11 : decode cJ0_charAt_5068e 11 = .ok (.iload_n 1, 1) := dk_27 (by decide +kernel)
theorem dJ0_charAt_5068e_12 : decode cJ0_charAt_5068e 12 = .ok (.invokestatic 495, 3) := dk_184 (by decide +kernel)
theorem dJ0_charAt_5068e_15 : decode cJ0_charAt_5068e 15 = .ok (.ireturn, 1) := dk_172 (by decide +kernel)
def wsRJ0ca : List Cond := .code yJ0_charAt_5068e cJ0_charAt_5068e 2 (some .char) :: ([.fieldLink RJ0 9 "java/lang/String" "value" "[B"] ++ (wsV RJ0 492 RJ0 yJ0_isLatin1_aae02 wsRJ0il) ++ (va_wsS RJ0 495 yJ1_charAt_3b067 wsRJ1ca))
theorem gwsRJ0ca_0 : GoodIn wsRJ0ca (wsV RJ0 492 RJ0 yJ0_isLatin1_aae02 wsRJ0il) := goodIn_sub (fun _ h => List.mem_cons_of_mem _ (List.mem_append_left _ (List.mem_append_right _ h))) (gdV (by decide +kernel) gdwsRJ0il)
theorem gwsRJ0ca_1 : GoodIn wsRJ0ca (va_wsS RJ0 495 yJ1_charAt_3b067 wsRJ1ca) := goodIn_sub (fun _ h => List.mem_cons_of_mem _ (List.mem_append_right _ h)) (gdS (by decide +kernel) gdwsRJ1ca)
theorem gdwsRJ0ca : wsRJ0ca.all goodWord = true := gdC rfl (gdA (gdA (by decide +kernel : ([.fieldLink RJ0 9 "java/lang/String" "value" "[B"] : List Cond).all goodWord = true) (gdV (by decide +kernel) gdwsRJ0il)) (gdS (by decide +kernel) gdwsRJ1ca))
set_option maxHeartbeats 4000000 in
set_option maxRecDepth 100000 in
/-- String.charAt, within -/
theorem r_J0_charAt_5068e (l : Launch) (dC : Nat → ClassId) (dI : Nat → Nat → Nat) (qS : Nat) (fB : Nat → Int32) (kn : Nat) (nn : Nat) (hkn : kn < nn) (hnn : nn < 2 ^ 31) (sz : Nat) : Met l yJ0_charAt_5068e wsRJ0ca ({ frames := 3, cells := 0, slots := 0, locals := 64 }) (va_Pc [.ref qS, .int (nI kn)] (fun U => U.heap.size = sz ∧ va_P (dC, dI) vwCl [] U.heap ∧ va_K (dC, dI) vwCl [] U ∧ va_D (fun _ => True) [] ∧ (StrE qS nn fB) (va_A [] sz) U U.heap)) (va_Qi (fun (r : Int32) (u : Unit) => (narrow .char (.int r) = .int r) ∧ (r = c16 (fB kn))) (fun (u : Unit) t => True) (va_A [] sz)) 0 0 (va_A [] sz) := by
  refine Met.ofW (cc := cJ0_charAt_5068e) (maxL := 2) (ret := (some .char)) (by decide) rfl ?_
  intro p e s m args below meth c s₁ B hml hv
  obtain ⟨rfl, hsz, hP, hK, hD0, hE⟩ := hv
  have hx := B.exec
  have hb := B.bytes
  have hr := B.returns
  have hts := atoms_spec (ws := wsRJ0ca) B.pre
  have hown : s.vm.findClass RJ0 = some m.cls := findClass_of_methodNamed B.named
  have hlocks := B.notSynchronized
  subst hsz
  have hD := hD0.self (sz := s.heap.size)
  generalize hAe : va_A [] s.heap.size = A at hD hE ⊢
  have hA : ∀ q : Nat, s.heap.size ≤ q → A q := fun q h => by rw [← hAe]; exact Or.inr h
  have hS : va_S A s.heap s.heap [] := va_S.rf
  have hl := lv_entry ([.ref qS, .int (nI kn)]) (n := 2) (Nat.le_of_ble_eq_true rfl)
  rw [lg_entry_eq]
  generalize (lg_sl ([.ref qS, .int (nI kn)]) ++ List.replicate (2 - (lg_sl ([.ref qS, .int (nI kn)])).length) Slot.unset).toArray = ls at hl ⊢
  have hl : lv_has ls 2 [(0, .ref qS), (1, .int (nI kn))] := hl
  refine lv_aload_n hx hb dJ0_charAt_5068e_0 rfl (lv_at hl 0 rfl) ?_
  have hFc := noneFree hS hA
  refine va_calli (va_runV (As := []) (rest := []) ⟨hx, hb, hml, hown, hts⟩ (r_J0_isLatin1_aae02 l dC dI qS nn fB s.heap.size) (cwV 0 hts gwsRJ0ca_0 rfl rfl rfl hd_yJ0_isLatin1_aae02_RJ0 (by decide +kernel)) ⟨fun a U g mk q => by obtain ⟨q0, q1, qP, qK, qD, qE⟩ := q; exact ⟨q0, q1, qP, va_K.moved (u := U) (U := U.calling g mk a) (Vm.Alike.refl U.vm) qK, qD, qE.same rfl⟩, hE.recv hS, fun U hU9 hW => ⟨rfl, by rw [hU9], by rw [hU9]; exact nilP, va_K.moved hW.alike (hK.sub (tys' := []) [] rfl), nilD, by rw [hU9]; exact (((hE : (StrE qS nn fB) A s s.heap).kept hS.2.1).narrow (fun q h => hFc q h)).warm hW⟩⟩ rfl rfl hl.1 rfl (lv_room (Nat.le_of_ble_eq_true rfl)) dJ0_charAt_5068e_1 (by decide +kernel)) hS (fun q _ h => hFc q h) hFc (fun r1 u t9_ H1 locs ht hvm hw9 hB9 hz1 hk1 hS => ?_)
  have hP := keepAll hP hk1
  clear hB9
  generalize H1 = H at hP hS ⊢
  have hP : va_P (dC, dI) vwCl ([]) H := hP
  have hD : va_D A ([]) := hD
  obtain rfl := hw9
  refine lv_if_eq (tgt := 16) hx hb dJ0_charAt_5068e_4 (by decide) (fun c9 => absurd c9 (by decide)) (fun _ => ?_)
  refine lv_aload_n hx hb dJ0_charAt_5068e_7 rfl (lv_at hl 0 rfl) ?_
  obtain ⟨vB, hvB, hfB⟩ := hE.2.2.2
  refine vk_getf hx hb hvB hS hown (hts (.fieldLink RJ0 9 "java/lang/String" "value" "[B") (by decide +kernel)) (fun _ h9 => h9) dJ0_charAt_5068e_8 ?_
  refine lv_iload_n hx hb dJ0_charAt_5068e_11 rfl (lv_at hl 1 rfl) ?_
  have hFc := noneFree hS hA
  refine va_calli (va_runS (As := [.ref vB, .int (nI kn)]) (rest := []) ⟨hx, hb, hml, hown, hts⟩ (r_J1_charAt_3b067 l dC dI vB fB kn nn (by first | with_reducible assumption | decide | omega | rfl | assumption) (by first | with_reducible assumption | decide | omega | rfl | assumption) H.size) (va_cwS 2 hts gwsRJ0ca_1 rfl rfl rfl (by decide +kernel) ⟨by decide +kernel, by decide +kernel⟩) ⟨fun a U g mk q => by obtain ⟨q0, q1, qP, qK, qD, qE⟩ := q; exact ⟨q0, q1, qP, va_K.moved (u := U) (U := U.calling g mk a) (Vm.Alike.refl U.vm) qK, qD, qE.same rfl⟩, fun U hU9 hW => ⟨rfl, by rw [hU9], by rw [hU9]; exact nilP, va_K.moved hW.alike (hK.sub (tys' := []) [] rfl), nilD, by rw [hU9]; exact ((((show ArrE vB nn fB A s s.heap from ⟨hE.1, hfB⟩) : (ArrE vB nn fB) A s s.heap).kept hS.2.1).narrow (fun q h => hFc q h)).warm hW⟩⟩ rfl rfl hl.1 rfl (lv_room (Nat.le_of_ble_eq_true rfl)) dJ0_charAt_5068e_12 (by decide +kernel)) hS (fun q _ h => hFc q h) hFc (fun r12 u t9_ H1 locs ht hvm hw9 hB9 hz1 hk1 hS => ?_)
  have hP := keepAll hP hk1
  clear hB9
  generalize H1 = H at hP hS ⊢
  have hP : va_P (dC, dI) vwCl ([]) H := hP
  have hD : va_D A ([]) := hD
  revert hw9
  refine fz_a2 ?_
  intro f12_0 f12_1
  refine W.widen (k := 0) (n := 0) (by decide +kernel) (by decide +kernel) ?_
  exact W.zret (v := r12) hx hb hr f12_0 (fun t9_ ht hW => ⟨⟨r12, (), rfl, by (try dsimp only); exact ⟨f12_0, f12_1⟩, trivial⟩, hS.F ht⟩) hS.2.2 dJ0_charAt_5068e_15
theorem dX12_keyLetter_0 : decode cX12_keyLetter 0 = .ok (.ldc_w 471, 3) := dk_19 (by decide +kernel)
theorem dX12_keyLetter_3 : decode cX12_keyLetter 3 = .ok (.iload_n 0, 1) := dk_26 (by decide +kernel)
theorem dX12_keyLetter_4 : decode cX12_keyLetter 4 = .ok (.invokevirtual 473, 3) := dk_182 (by decide +kernel)
theorem dX12_keyLetter_7 : decode cX12_keyLetter 7 = .ok (.ireturn, 1) := dk_172 (by decide +kernel)
def wsRX12_keyLetter : List Cond := .code yX12_keyLetter cX12_keyLetter 1 (some .int) :: ([] ++ (wsV RX12 473 RJ0 yJ0_charAt_5068e wsRJ0ca))
theorem gwsRX12_keyLetter_0 : GoodIn wsRX12_keyLetter (wsV RX12 473 RJ0 yJ0_charAt_5068e wsRJ0ca) := goodIn_sub (fun _ h => List.mem_cons_of_mem _ (List.mem_append_right _ h)) (gdV (by decide +kernel) gdwsRJ0ca)
theorem gdwsRX12_keyLetter : wsRX12_keyLetter.all goodWord = true := gdC rfl (gdA (by decide +kernel : ([] : List Cond).all goodWord = true) (gdV (by decide +kernel) gdwsRJ0ca))
set_option maxHeartbeats 4000000 in
set_option maxRecDepth 100000 in
/-- X12_keyLetter -/
theorem r_X12_keyLetter (l : Launch) (dC : Nat → ClassId) (dI : Nat → Nat → Nat) (kn : Nat) (hkn : kn < 71) (sz : Nat) : Met l yX12_keyLetter wsRX12_keyLetter ({ frames := 4, cells := 0, slots := 0, locals := 85 }) (va_Pc [.int (nI kn)] (fun U => U.heap.size = sz ∧ va_P (dC, dI) vwCl [] U.heap ∧ va_K (dC, dI) vwCl [] U ∧ va_D (fun _ => True) [] ∧ StrA (va_A [] sz) U U.heap)) (va_Qi (fun (r : Int32) (u : Unit) => ((r) = kl kn)) (fun (u : Unit) t => True) (va_A [] sz)) 0 0 (va_A [] sz) := by
  refine Met.ofW (cc := cX12_keyLetter) (maxL := 1) (ret := (some .int)) (by decide) rfl ?_
  intro p e s m args below meth c s₁ B hml hv
  obtain ⟨rfl, hsz, hP, hK, hD0, hE⟩ := hv
  have hx := B.exec
  have hb := B.bytes
  have hr := B.returns
  have hts := atoms_spec (ws := wsRX12_keyLetter) B.pre
  have hown : s.vm.findClass RX12 = some m.cls := findClass_of_methodNamed B.named
  have hlocks := B.notSynchronized
  subst hsz
  have hD := hD0.self (sz := s.heap.size)
  generalize hAe : va_A [] s.heap.size = A at hD hE ⊢
  have hA : ∀ q : Nat, s.heap.size ≤ q → A q := fun q h => by rw [← hAe]; exact Or.inr h
  have hS : va_S A s.heap s.heap [] := va_S.rf
  have hl := lv_entry ([.int (nI kn)]) (n := 1) (Nat.le_of_ble_eq_true rfl)
  rw [lg_entry_eq]
  generalize (lg_sl ([.int (nI kn)]) ++ List.replicate (1 - (lg_sl ([.int (nI kn)])).length) Slot.unset).toArray = ls at hl ⊢
  have hl : lv_has ls 1 [(0, .int (nI kn))] := hl
  obtain ⟨qS, hRS, hSS⟩ := hE.1
  refine lv_ldcwS hx hb hown hRS dX12_keyLetter_0 ?_
  refine lv_iload_n hx hb dX12_keyLetter_3 rfl (lv_at hl 0 rfl) ?_
  have hFc := noneFree hS hA
  refine va_calli (va_runV (As := [.int (nI kn)]) (rest := []) ⟨hx, hb, hml, hown, hts⟩ (r_J0_charAt_5068e l dC dI qS kf kn 71 (by first | with_reducible assumption | decide | omega | rfl | assumption) (by first | with_reducible assumption | decide | omega | rfl | assumption) s.heap.size) (cwV 1 hts gwsRX12_keyLetter_0 rfl rfl rfl hd_yJ0_charAt_5068e_RJ0 (by decide +kernel)) ⟨fun a U g mk q => by obtain ⟨q0, q1, qP, qK, qD, qE⟩ := q; exact ⟨q0, q1, qP, va_K.moved (u := U) (U := U.calling g mk a) (Vm.Alike.refl U.vm) qK, qD, qE.same rfl⟩, hSS.recv hS, fun U hU9 hW => ⟨rfl, by rw [hU9], by rw [hU9]; exact nilP, va_K.moved hW.alike (hK.sub (tys' := []) [] rfl), nilD, by rw [hU9]; exact (((hSS : (StrE qS 71 kf) A s s.heap).kept hS.2.1).narrow (fun q h => hFc q h)).warm hW⟩⟩ rfl rfl hl.1 rfl (lv_room (Nat.le_of_ble_eq_true rfl)) dX12_keyLetter_4 (by decide +kernel)) hS (fun q _ h => hFc q h) hFc (fun r4 u t9_ H1 locs ht hvm hw9 hB9 hz1 hk1 hS => ?_)
  have hP := keepAll hP hk1
  clear hB9
  generalize H1 = H at hP hS ⊢
  have hP : va_P (dC, dI) vwCl ([]) H := hP
  have hD : va_D A ([]) := hD
  revert hw9
  refine fz_a2 ?_
  intro f4_0 f4_1
  refine W.widen (k := 0) (n := 0) (by decide +kernel) (by decide +kernel) ?_
  exact W.iret (v := r4) hx hb hr (fun t9_ ht hW => ⟨⟨r4, (), rfl, by (try dsimp only); exact f4_1, trivial⟩, hS.F ht⟩) hS.2.2 dX12_keyLetter_7
theorem dX12_textLetter_0 : decode cX12_textLetter 0 = .ok (.ldc_w 950, 3) := dk_19 (by decide +kernel)
theorem dX12_textLetter_3 : decode cX12_textLetter 3 = .ok (.iload_n 0, 1) := dk_26 (by decide +kernel)
theorem dX12_textLetter_4 : decode cX12_textLetter 4 = .ok (.invokevirtual 473, 3) := dk_182 (by decide +kernel)
theorem dX12_textLetter_7 : decode cX12_textLetter 7 = .ok (.ireturn, 1) := dk_172 (by decide +kernel)
def wsRX12_textLetter : List Cond := .code yX12_textLetter cX12_textLetter 1 (some .int) :: ([] ++ (wsV RX12 473 RJ0 yJ0_charAt_5068e wsRJ0ca))
theorem gwsRX12_textLetter_0 : GoodIn wsRX12_textLetter (wsV RX12 473 RJ0 yJ0_charAt_5068e wsRJ0ca) := goodIn_sub (fun _ h => List.mem_cons_of_mem _ (List.mem_append_right _ h)) (gdV (by decide +kernel) gdwsRJ0ca)
theorem gdwsRX12_textLetter : wsRX12_textLetter.all goodWord = true := gdC rfl (gdA (by decide +kernel : ([] : List Cond).all goodWord = true) (gdV (by decide +kernel) gdwsRJ0ca))
set_option maxHeartbeats 4000000 in
set_option maxRecDepth 100000 in
/-- X12_textLetter -/
theorem r_X12_textLetter (l : Launch) (dC : Nat → ClassId) (dI : Nat → Nat → Nat) (kn : Nat) (hkn : kn < 63) (sz : Nat) : Met l yX12_textLetter wsRX12_textLetter ({ frames := 4, cells := 0, slots := 0, locals := 85 }) (va_Pc [.int (nI kn)] (fun U => U.heap.size = sz ∧ va_P (dC, dI) vwCl [] U.heap ∧ va_K (dC, dI) vwCl [] U ∧ va_D (fun _ => True) [] ∧ StrA (va_A [] sz) U U.heap)) (va_Qi (fun (r : Int32) (u : Unit) => True) (fun (u : Unit) t => True) (va_A [] sz)) 0 0 (va_A [] sz) := by
  refine Met.ofW (cc := cX12_textLetter) (maxL := 1) (ret := (some .int)) (by decide) rfl ?_
  intro p e s m args below meth c s₁ B hml hv
  obtain ⟨rfl, hsz, hP, hK, hD0, hE⟩ := hv
  have hx := B.exec
  have hb := B.bytes
  have hr := B.returns
  have hts := atoms_spec (ws := wsRX12_textLetter) B.pre
  have hown : s.vm.findClass RX12 = some m.cls := findClass_of_methodNamed B.named
  have hlocks := B.notSynchronized
  subst hsz
  have hD := hD0.self (sz := s.heap.size)
  generalize hAe : va_A [] s.heap.size = A at hD hE ⊢
  have hA : ∀ q : Nat, s.heap.size ≤ q → A q := fun q h => by rw [← hAe]; exact Or.inr h
  have hS : va_S A s.heap s.heap [] := va_S.rf
  have hl := lv_entry ([.int (nI kn)]) (n := 1) (Nat.le_of_ble_eq_true rfl)
  rw [lg_entry_eq]
  generalize (lg_sl ([.int (nI kn)]) ++ List.replicate (1 - (lg_sl ([.int (nI kn)])).length) Slot.unset).toArray = ls at hl ⊢
  have hl : lv_has ls 1 [(0, .int (nI kn))] := hl
  obtain ⟨qS, hRS, hSS⟩ := hE.2
  refine lv_ldcwS hx hb hown hRS dX12_textLetter_0 ?_
  refine lv_iload_n hx hb dX12_textLetter_3 rfl (lv_at hl 0 rfl) ?_
  have hFc := noneFree hS hA
  refine va_calli (va_runV (As := [.int (nI kn)]) (rest := []) ⟨hx, hb, hml, hown, hts⟩ (r_J0_charAt_5068e l dC dI qS tf kn 63 (by first | with_reducible assumption | decide | omega | rfl | assumption) (by first | with_reducible assumption | decide | omega | rfl | assumption) s.heap.size) (cwV 1 hts gwsRX12_textLetter_0 rfl rfl rfl hd_yJ0_charAt_5068e_RJ0 (by decide +kernel)) ⟨fun a U g mk q => by obtain ⟨q0, q1, qP, qK, qD, qE⟩ := q; exact ⟨q0, q1, qP, va_K.moved (u := U) (U := U.calling g mk a) (Vm.Alike.refl U.vm) qK, qD, qE.same rfl⟩, hSS.recv hS, fun U hU9 hW => ⟨rfl, by rw [hU9], by rw [hU9]; exact nilP, va_K.moved hW.alike (hK.sub (tys' := []) [] rfl), nilD, by rw [hU9]; exact (((hSS : (StrE qS 63 tf) A s s.heap).kept hS.2.1).narrow (fun q h => hFc q h)).warm hW⟩⟩ rfl rfl hl.1 rfl (lv_room (Nat.le_of_ble_eq_true rfl)) dX12_textLetter_4 (by decide +kernel)) hS (fun q _ h => hFc q h) hFc (fun r4 u t9_ H1 locs ht hvm hw9 hB9 hz1 hk1 hS => ?_)
  have hP := keepAll hP hk1
  clear hB9
  generalize H1 = H at hP hS ⊢
  have hP : va_P (dC, dI) vwCl ([]) H := hP
  have hD : va_D A ([]) := hD
  revert hw9
  refine fz_a2 ?_
  intro f4_0 f4_1
  refine W.widen (k := 0) (n := 0) (by decide +kernel) (by decide +kernel) ?_
  exact W.iret (v := r4) hx hb hr (fun t9_ ht hW => ⟨⟨r4, (), rfl, trivial, trivial⟩, hS.F ht⟩) hS.2.2 dX12_textLetter_7
end
section
theorem hd_yX12_sayText_RX12 : yX12_sayText.cls = RX12 ∧ yX12_sayText.cls ≠ "java/lang/invoke/MethodHandle" ∧ yX12_sayText.cls ≠ "java/lang/invoke/VarHandle" ∧ (parseMethodDescriptor yX12_sayText.desc).map (fun d => d.parameters.length) = some 2 := by decide +kernel
theorem hd_yX12_sayGoal_RX12 : yX12_sayGoal.cls = RX12 ∧ yX12_sayGoal.cls ≠ "java/lang/invoke/MethodHandle" ∧ yX12_sayGoal.cls ≠ "java/lang/invoke/VarHandle" ∧ (parseMethodDescriptor yX12_sayGoal.desc).map (fun d => d.parameters.length) = some 1 := by decide +kernel
theorem hd_yX12_endLine_RX12 : yX12_endLine.cls = RX12 ∧ yX12_endLine.cls ≠ "java/lang/invoke/MethodHandle" ∧ yX12_endLine.cls ≠ "java/lang/invoke/VarHandle" ∧ (parseMethodDescriptor yX12_endLine.desc).map (fun d => d.parameters.length) = some 0 := by decide +kernel
theorem hd_yX12_sayWay_RX12 : yX12_sayWay.cls = RX12 ∧ yX12_sayWay.cls ≠ "java/lang/invoke/MethodHandle" ∧ yX12_sayWay.cls ≠ "java/lang/invoke/VarHandle" ∧ (parseMethodDescriptor yX12_sayWay.desc).map (fun d => d.parameters.length) = some 1 := by decide +kernel
theorem dX12_sayText_0 : decode cX12_sayText 0 = .ok (.iload_n 1, 1) := dk_27 (by decide +kernel)
theorem dX12_sayText_1 : decode cX12_sayText 1 = .ok (.istore_n 3, 1) := dk_62 (by decide +kernel)
theorem dX12_sayText_2 : decode cX12_sayText 2 = .ok (.iload_n 3, 1) := dk_29 (by decide +kernel)
theorem dX12_sayText_3 : decode cX12_sayText 3 = .ok (.iload_n 2, 1) := dk_28 (by decide +kernel)
theorem dX12_sayText_4 : decode cX12_sayText 4 = .ok (.if_icmp .ge 17, 3) := dk_162 (by decide +kernel)
theorem dX12_sayText_7 : decode cX12_sayText 7 = .ok (.aload_n 0, 1) := dk_42 (by decide +kernel)
theorem dX12_sayText_8 : decode cX12_sayText 8 = .ok (.iload_n 3, 1) := dk_29 (by decide +kernel)
theorem dX12_sayText_9 : decode cX12_sayText 9 = .ok (.invokestatic 952, 3) := dk_184 (by decide +kernel)
theorem dX12_sayText_12 : decode cX12_sayText 12 = .ok (.invokevirtual 936, 3) := dk_182 (by decide +kernel)
theorem dX12_sayText_15 : decode cX12_sayText 15 = .ok (.iinc 3 1, 3) := dk_132 (by decide +kernel)
theorem dX12_sayText_18 : decode cX12_sayText 18 = .ok (.goto (-16), 3) := dk_167 (by decide +kernel)
theorem dX12_sayText_21 : decode cX12_sayText 21 = .ok (.return_, 1) := dk_177 (by decide +kernel)
def wsRX12_sayText : List Cond := .code yX12_sayText cX12_sayText 4 none :: ([] ++ wsX120 ++ (va_wsS RX12 952 yX12_textLetter wsRX12_textLetter) ++ (wsV RX12 936 RX12 yX12_say wsRX12_say))
theorem iwsRX12_sayText_in12 : ∀ w ∈ wsX120, w ∈ wsRX12_sayText := fun _ h => List.mem_cons_of_mem _ (List.mem_append_left _ (List.mem_append_left _ (List.mem_append_right _ h)))
theorem gwsRX12_sayText_0 : GoodIn wsRX12_sayText (va_wsS RX12 952 yX12_textLetter wsRX12_textLetter) := goodIn_sub (fun _ h => List.mem_cons_of_mem _ (List.mem_append_left _ (List.mem_append_right _ h))) (gdS (by decide +kernel) gdwsRX12_textLetter)
theorem gwsRX12_sayText_1 : GoodIn wsRX12_sayText (wsV RX12 936 RX12 yX12_say wsRX12_say) := goodIn_sub (fun _ h => List.mem_cons_of_mem _ (List.mem_append_right _ h)) (gdV (by decide +kernel) gdwsRX12_say)
theorem gdwsRX12_sayText : wsRX12_sayText.all goodWord = true := gdC rfl (gdA (gdA (gdA (by decide +kernel : ([] : List Cond).all goodWord = true) gdwsX120) (gdS (by decide +kernel) gdwsRX12_textLetter)) (gdV (by decide +kernel) gdwsRX12_say))
set_option maxHeartbeats 4000000 in
set_option maxRecDepth 100000 in
/-- sayText(begin, end) -/
theorem r_X12_sayText (l : Launch) (dC : Nat → ClassId) (dI : Nat → Nat → Nat) (a : Nat → Nat) (k : Nat → ClassId) (h0 : Nat) (vi : Nat → Int32) (vj : Nat → Int64) (vF : Nat → Nat → Int32) (vG : Nat → Nat → Int64) (bn : Nat) (en : Nat) (pn : Nat) (hpn : vi 125 = nI pn) (hpn2 : pn ≤ 30000) (hen : en ≤ 63) (hbn : bn ≤ 63) (sz : Nat) : Met l yX12_sayText wsRX12_sayText ({ frames := 5, cells := 0, slots := 0, locals := 105 }) (va_Pc [.ref h0, .int (nI bn), .int (nI en)] (fun U => U.heap.size = sz ∧ va_P (dC, dI) vwCl (WR a k h0 vi vj vF vG) U.heap ∧ va_K (dC, dI) vwCl (tX12 k) U ∧ va_D (fun _ => True) (WR a k h0 vi vj vF vG) ∧ StrA (va_A (WR a k h0 vi vj vF vG) sz) U U.heap)) (va_Qv (fun (u : (Nat) × (Nat → Int32)) => ((u.1) ≤ 30000)) (fun (u : (Nat) × (Nat → Int32)) t => va_P (dC, dI) vwCl (WR a k h0 (fT vi 125 (nI (u.1))) vj (fT vF 75 (u.2)) vG) t.heap ∧ va_D (va_A (WR a k h0 vi vj vF vG) sz) (WR a k h0 (fT vi 125 (nI (u.1))) vj (fT vF 75 (u.2)) vG)) (va_A (WR a k h0 vi vj vF vG) sz)) 0 0 (va_A (WR a k h0 vi vj vF vG) sz) := by
  refine Met.ofW (cc := cX12_sayText) (maxL := 4) (ret := none) (by decide) rfl ?_
  intro p e s m args below meth c s₁ B hml hv
  obtain ⟨rfl, hsz, hP, hK, hD0, hE⟩ := hv
  have hx := B.exec
  have hb := B.bytes
  have hr := B.returns
  have hts := atoms_spec (ws := wsRX12_sayText) B.pre
  have hown : s.vm.findClass RX12 = some m.cls := findClass_of_methodNamed B.named
  have hlocks := B.notSynchronized
  subst hsz
  have hD := hD0.self (sz := s.heap.size)
  generalize hAe : va_A (WR a k h0 vi vj vF vG) s.heap.size = A at hD hE ⊢
  have hA : ∀ q : Nat, s.heap.size ≤ q → A q := fun q h => by rw [← hAe]; exact Or.inr h
  have hS : va_S A s.heap s.heap [] := va_S.rf
  have hl := lv_entry ([.ref h0, .int (nI bn), .int (nI en)]) (n := 4) (Nat.le_of_ble_eq_true rfl)
  rw [lg_entry_eq]
  generalize (lg_sl ([.ref h0, .int (nI bn), .int (nI en)]) ++ List.replicate (4 - (lg_sl ([.ref h0, .int (nI bn), .int (nI en)])).length) Slot.unset).toArray = ls at hl ⊢
  have hl : lv_has ls 4 [(0, .ref h0), (1, .int (nI bn)), (2, .int (nI en))] := hl
  refine lv_iload_n hx hb dX12_sayText_0 rfl (lv_at hl 1 rfl) ?_
  refine lv_istore_n hx hb dX12_sayText_1 rfl hl (by decide) rfl (fun ls (hl : lv_has ls _ ([(3, .int (nI bn)), (0, .ref h0), (1, .int (nI bn)), (2, .int (nI en))])) => ?_)
  have e9 : fT vi 125 (nI pn) = vi := by funext q9; by_cases h9_125 : q9 = 125; (subst h9_125; exact (fT_eq _ _ _).trans (Eq.trans (by first | with_reducible rfl | with_reducible assumption | (symm; with_reducible assumption) | rfl | assumption | (symm; assumption) | (subst_vars; rfl)) (Eq.refl _).symm)); exact (fT_ne _ _ h9_125).trans (Eq.refl _).symm
  have hP : va_P (dC, dI) vwCl (WR a k h0 (fT vi 125 (nI pn)) vj vF vG) s.heap := by rw [e9]; exact hP
  have hD : va_D A (WR a k h0 (fT vi 125 (nI pn)) vj vF vG) := by rw [e9]; exact hD
  clear e9
  have e9 : fT vF 75 (vF 75) = vF := by funext q9; by_cases h9_75 : q9 = 75; (subst h9_75; exact (fT_eq _ _ _).trans (Eq.trans (by first | with_reducible rfl | with_reducible assumption | (symm; with_reducible assumption) | rfl | assumption | (symm; assumption) | (subst_vars; rfl)) (Eq.refl _).symm)); exact (fT_ne _ _ h9_75).trans (Eq.refl _).symm
  have hP : va_P (dC, dI) vwCl (WR a k h0 (fT vi 125 (nI pn)) vj (fT vF 75 (vF 75)) vG) s.heap := by rw [e9]; exact hP
  have hD : va_D A (WR a k h0 (fT vi 125 (nI pn)) vj (fT vF 75 (vF 75)) vG) := by rw [e9]; exact hD
  clear e9
  have hl : lv_has _ _ ([(0, .ref h0), (1, .int (nI bn)), (2, .int (nI en)), (3, .int (nI bn))]) := lv_sub hl [1, 2, 3, 0] rfl
  refine (fun (loop : ∀ (n9 : Nat) (k5 : Nat) (x1_i125 : Nat) (x1_F75 : Nat → Int32) (H : Heap) (locs : List Loc) (ls : Array Slot), (k5 ≤ 63) → (x1_i125 ≤ 30000) →  (63 < k5 + n9) → va_P (dC, dI) vwCl (WR a k h0 (fT vi 125 (nI x1_i125)) vj (fT vF 75 x1_F75) vG) H → va_D A (WR a k h0 (fT vi 125 (nI x1_i125)) vj (fT vF 75 x1_F75) vG) → va_S A s.heap H locs → lv_has ls 4 [(0, .ref h0), (1, .int (nI bn)), (2, .int (nI en)), (3, .int (nI k5))] → W p l e _ s m _ below meth c H locs 0 0 _ (F0 m 2 ls [])) => loop (64) bn pn (vF 75) _ _ _ (by omega) (by first | with_reducible assumption | omega | assumption) (by omega) hP hD hS hl) ?_
  intro n9
  induction n9 with
  | zero => intro k5 x1_i125 x1_F75 H locs ls hk5 hx1_i125 hf9; exact False.elim (by omega)
  | succ n9 ih2 =>
    intro k5 x1_i125 x1_F75 H locs ls hk5 hx1_i125 hf2 hP hD hS hl
    refine lv_iload_n hx hb dX12_sayText_2 rfl (lv_at hl 3 rfl) ?_
    refine lv_iload_n hx hb dX12_sayText_3 rfl (lv_at hl 2 rfl) ?_
    refine lv_icmp_ge (tgt := 21) hx hb dX12_sayText_4 (by decide) (fun c_4 => ?_) (fun c_4 => ?_)
    · have t_4 : ((k5 : Nat) : Int) ≥ ((en : Nat) : Int) := toI_ge c_4 (nI_toInt (by omega)) (nI_toInt (by omega))
      refine W.widen (k := 0) (n := 0) (by decide +kernel) (by decide +kernel) ?_
      exact W.vret hx hb hr (fun t9_ ht hW => ⟨⟨(x1_i125, x1_F75), rfl, by (try dsimp only); first | assumption | omega, by rw [ht]; exact hP, hD⟩, hS.F ht⟩) hS.2.2 dX12_sayText_21
    · have t_4 : ¬ ((k5 : Nat) : Int) ≥ ((en : Nat) : Int) := toI_nge c_4 (nI_toInt (by omega)) (nI_toInt (by omega))
      refine lv_aload_n hx hb dX12_sayText_7 rfl (lv_at hl 0 rfl) ?_
      refine lv_iload_n hx hb dX12_sayText_8 rfl (lv_at hl 3 rfl) ?_
      have hFc := noneFree hS hA
      refine va_calli (va_runS (As := [.int (nI k5)]) (rest := [.ref h0]) ⟨hx, hb, hml, hown, hts⟩ (r_X12_textLetter l dC dI k5 (by first | with_reducible assumption | decide | omega | rfl | assumption) H.size) (va_cwS 1 hts gwsRX12_sayText_0 rfl rfl rfl (by decide +kernel) ⟨by decide +kernel, by decide +kernel⟩) ⟨fun a U g mk q => by obtain ⟨q0, q1, qP, qK, qD, qE⟩ := q; exact ⟨q0, q1, qP, va_K.moved (u := U) (U := U.calling g mk a) (Vm.Alike.refl U.vm) qK, qD, qE.same rfl⟩, fun U hU9 hW => ⟨rfl, by rw [hU9], by rw [hU9]; exact nilP, va_K.moved hW.alike (hK.sub (tys' := []) [] rfl), nilD, by rw [hU9]; exact (((hE : StrA A s s.heap).kept hS.2.1).narrow (fun q h => hFc q h)).warm hW⟩⟩ rfl rfl hl.1 rfl (lv_room (Nat.le_of_ble_eq_true rfl)) dX12_sayText_9 (by decide +kernel)) hS (fun q _ h => hFc q h) hFc (fun r9 u t9_ H1 locs ht hvm hw9 hB9 hz1 hk1 hS => ?_)
      have hP := keepAll hP hk1
      clear hB9
      generalize H1 = H at hP hS ⊢
      have hP : va_P (dC, dI) vwCl (WR a k h0 (fT vi 125 (nI x1_i125)) vj (fT vF 75 x1_F75) vG) H := hP
      have hD : va_D A (WR a k h0 (fT vi 125 (nI x1_i125)) vj (fT vF 75 x1_F75) vG) := hD
      have hFc := allFree hD hS hA
      refine va_callv (va_runV (As := [.int r9]) (rest := []) ⟨hx, hb, hml, hown, hts⟩ (r_X12_say l dC dI a k h0 (fT vi 125 (nI x1_i125)) vj (fT vF 75 x1_F75) vG r9 x1_i125 rfl (by first | with_reducible assumption | decide | omega | rfl | assumption) H.size) (cwV 1 hts gwsRX12_sayText_1 rfl rfl rfl hd_yX12_say_RX12 (by decide +kernel)) (fz_pre (va_recv hK hP (ci := 12) (q0 := 0) rfl rfl) hP hK hD) rfl rfl hl.1 rfl (lv_room (Nat.le_of_ble_eq_true rfl)) dX12_sayText_12 (by decide +kernel)) hS (fun q _ h => hFc q h) hFc (fun u t9_ H locs ht hvm hw9 hB9 hz1 hk1 hS => ?_)
      revert u hw9 hB9
      refine fz_p2 ?_
      intro p212 f7512 hw9 hB9
      try dsimp only at hw9 hB9
      have hP : va_P (dC, dI) vwCl (WR a k h0 (fT (fT vi 125 (nI x1_i125)) 125 (nI p212)) vj (fT (fT vF 75 x1_F75) 75 f7512) vG) H := fz_P ht hB9.1
      have hD : va_D A (WR a k h0 (fT (fT vi 125 (nI x1_i125)) 125 (nI p212)) vj (fT (fT vF 75 x1_F75) 75 f7512) vG) := hB9.2.weaken (fun _ q _ h => hFc q.1 h)
      have e9 : fT vi 125 (nI p212) = fT (fT vi 125 (nI x1_i125)) 125 (nI p212) := (fT_sm _ _ _ _).symm
      rw [← e9] at hP hD
      clear e9
      have e9 : fT vF 75 f7512 = fT (fT vF 75 x1_F75) 75 f7512 := (fT_sm _ _ _ _).symm
      rw [← e9] at hP hD
      clear e9
      have hP : va_P (dC, dI) vwCl (WR a k h0 (fT vi 125 (nI p212)) vj (fT vF 75 f7512) vG) H := hP
      have hD : va_D A (WR a k h0 (fT vi 125 (nI p212)) vj (fT vF 75 f7512) vG) := hD
      revert hw9
      refine fz_a3 ?_
      intro f12_0 f12_1 f12_2
      refine lv_iinc (v := (nI (k5 + 1))) hx hb dX12_sayText_15 hl (k := 3) rfl (nI_add k5 1) (by decide) rfl (fun ls (hl : lv_has ls _ ([(3, .int (nI (k5 + 1))), (0, .ref h0), (1, .int (nI bn)), (2, .int (nI en))])) => ?_)
      refine lv_goto (tgt := 2) hx hb dX12_sayText_18 (by decide) ?_
      have hl : lv_has _ _ ([(0, .ref h0), (1, .int (nI bn)), (2, .int (nI en)), (3, .int (nI (k5 + 1)))]) := lv_sub hl [1, 2, 3, 0] rfl
      exact ih2 (k5 + 1) p212 f7512 _ _ _ (by omega) (by first | with_reducible assumption | omega | assumption) (by omega) hP hD hS hl
theorem dX12_sayGoal_0 : decode cX12_sayGoal 0 = .ok (.aload_n 0, 1) := dk_42 (by decide +kernel)
theorem dX12_sayGoal_1 : decode cX12_sayGoal 1 = .ok (.aload_n 0, 1) := dk_42 (by decide +kernel)
theorem dX12_sayGoal_2 : decode cX12_sayGoal 2 = .ok (.getfield 218, 3) := dk_180 (by decide +kernel)
theorem dX12_sayGoal_5 : decode cX12_sayGoal 5 = .ok (.iload_n 1, 1) := dk_27 (by decide +kernel)
theorem dX12_sayGoal_6 : decode cX12_sayGoal 6 = .ok (.iaload, 1) := dk_46 (by decide +kernel)
theorem dX12_sayGoal_7 : decode cX12_sayGoal 7 = .ok (.iconst 1, 1) := dk_4 (by decide +kernel)
theorem dX12_sayGoal_8 : decode cX12_sayGoal 8 = .ok (.if_icmp .ne 8, 3) := dk_160 (by decide +kernel)
theorem dX12_sayGoal_11 : decode cX12_sayGoal 11 = .ok (.bipush 57, 2) := dk_16 (by decide +kernel)
theorem dX12_sayGoal_13 : decode cX12_sayGoal 13 = .ok (.goto 5, 3) := dk_167 (by decide +kernel)
theorem dX12_sayGoal_16 : decode cX12_sayGoal 16 = .ok (.bipush 53, 2) := dk_16 (by decide +kernel)
theorem dX12_sayGoal_18 : decode cX12_sayGoal 18 = .ok (.aload_n 0, 1) := dk_42 (by decide +kernel)
theorem dX12_sayGoal_19 : decode cX12_sayGoal 19 = .ok (.getfield 218, 3) := dk_180 (by decide +kernel)
theorem dX12_sayGoal_22 : decode cX12_sayGoal 22 = .ok (.iload_n 1, 1) := dk_27 (by decide +kernel)
theorem dX12_sayGoal_23 : decode cX12_sayGoal 23 = .ok (.iaload, 1) := dk_46 (by decide +kernel)
theorem dX12_sayGoal_24 : decode cX12_sayGoal 24 = .ok (.iconst 1, 1) := dk_4 (by decide +kernel)
theorem dX12_sayGoal_25 : decode cX12_sayGoal 25 = .ok (.if_icmp .ne 8, 3) := dk_160 (by decide +kernel)
theorem dX12_sayGoal_28 : decode cX12_sayGoal 28 = .ok (.bipush 61, 2) := dk_16 (by decide +kernel)
theorem dX12_sayGoal_30 : decode cX12_sayGoal 30 = .ok (.goto 5, 3) := dk_167 (by decide +kernel)
theorem dX12_sayGoal_33 : decode cX12_sayGoal 33 = .ok (.bipush 57, 2) := dk_16 (by decide +kernel)
theorem dX12_sayGoal_35 : decode cX12_sayGoal 35 = .ok (.invokevirtual 965, 3) := dk_182 (by decide +kernel)
theorem dX12_sayGoal_38 : decode cX12_sayGoal 38 = .ok (.iconst 0, 1) := dk_3 (by decide +kernel)
theorem dX12_sayGoal_39 : decode cX12_sayGoal 39 = .ok (.istore_n 2, 1) := dk_61 (by decide +kernel)
theorem dX12_sayGoal_40 : decode cX12_sayGoal 40 = .ok (.iconst 0, 1) := dk_3 (by decide +kernel)
theorem dX12_sayGoal_41 : decode cX12_sayGoal 41 = .ok (.istore_n 3, 1) := dk_62 (by decide +kernel)
theorem dX12_sayGoal_42 : decode cX12_sayGoal 42 = .ok (.iload_n 3, 1) := dk_29 (by decide +kernel)
theorem dX12_sayGoal_43 : decode cX12_sayGoal 43 = .ok (.aload_n 0, 1) := dk_42 (by decide +kernel)
theorem dX12_sayGoal_44 : decode cX12_sayGoal 44 = .ok (.getfield 774, 3) := dk_180 (by decide +kernel)
theorem dX12_sayGoal_47 : decode cX12_sayGoal 47 = .ok (.if_icmp .ge 55, 3) := dk_162 (by decide +kernel)
theorem dX12_sayGoal_50 : decode cX12_sayGoal 50 = .ok (.aload_n 0, 1) := dk_42 (by decide +kernel)
theorem dX12_sayGoal_51 : decode cX12_sayGoal 51 = .ok (.getfield 212, 3) := dk_180 (by decide +kernel)
theorem dX12_sayGoal_54 : decode cX12_sayGoal 54 = .ok (.bipush 9, 2) := dk_16 (by decide +kernel)
theorem dX12_sayGoal_56 : decode cX12_sayGoal 56 = .ok (.iload_n 1, 1) := dk_27 (by decide +kernel)
theorem dX12_sayGoal_57 : decode cX12_sayGoal 57 = .ok (.imul, 1) := dk_104 (by decide +kernel)
theorem dX12_sayGoal_58 : decode cX12_sayGoal 58 = .ok (.iconst 1, 1) := dk_4 (by decide +kernel)
theorem dX12_sayGoal_59 : decode cX12_sayGoal 59 = .ok (.iadd, 1) := dk_96 (by decide +kernel)
theorem dX12_sayGoal_60 : decode cX12_sayGoal 60 = .ok (.iload_n 3, 1) := dk_29 (by decide +kernel)
theorem dX12_sayGoal_61 : decode cX12_sayGoal 61 = .ok (.iadd, 1) := dk_96 (by decide +kernel)
theorem dX12_sayGoal_62 : decode cX12_sayGoal 62 = .ok (.iaload, 1) := dk_46 (by decide +kernel)
theorem dX12_sayGoal_63 : decode cX12_sayGoal 63 = .ok (.istore 4, 2) := dk_54 (by decide +kernel)
theorem dX12_sayGoal_65 : decode cX12_sayGoal 65 = .ok (.iload 4, 2) := dk_21 (by decide +kernel)
theorem dX12_sayGoal_67 : decode cX12_sayGoal 67 = .ok (.ifCond .ne 6, 3) := dk_154 (by decide +kernel)
theorem dX12_sayGoal_70 : decode cX12_sayGoal 70 = .ok (.goto 26, 3) := dk_167 (by decide +kernel)
theorem dX12_sayGoal_73 : decode cX12_sayGoal 73 = .ok (.aload_n 0, 1) := dk_42 (by decide +kernel)
theorem dX12_sayGoal_74 : decode cX12_sayGoal 74 = .ok (.iload 4, 2) := dk_21 (by decide +kernel)
theorem dX12_sayGoal_76 : decode cX12_sayGoal 76 = .ok (.aload_n 0, 1) := dk_42 (by decide +kernel)
theorem dX12_sayGoal_77 : decode cX12_sayGoal 77 = .ok (.getfield 215, 3) := dk_180 (by decide +kernel)
theorem dX12_sayGoal_80 : decode cX12_sayGoal 80 = .ok (.bipush 9, 2) := dk_16 (by decide +kernel)
theorem dX12_sayGoal_82 : decode cX12_sayGoal 82 = .ok (.iload_n 1, 1) := dk_27 (by decide +kernel)
theorem dX12_sayGoal_83 : decode cX12_sayGoal 83 = .ok (.imul, 1) := dk_104 (by decide +kernel)
theorem dX12_sayGoal_84 : decode cX12_sayGoal 84 = .ok (.iconst 1, 1) := dk_4 (by decide +kernel)
theorem dX12_sayGoal_85 : decode cX12_sayGoal 85 = .ok (.iadd, 1) := dk_96 (by decide +kernel)
theorem dX12_sayGoal_86 : decode cX12_sayGoal 86 = .ok (.iload_n 3, 1) := dk_29 (by decide +kernel)
theorem dX12_sayGoal_87 : decode cX12_sayGoal 87 = .ok (.iadd, 1) := dk_96 (by decide +kernel)
theorem dX12_sayGoal_88 : decode cX12_sayGoal 88 = .ok (.iaload, 1) := dk_46 (by decide +kernel)
theorem dX12_sayGoal_89 : decode cX12_sayGoal 89 = .ok (.iload_n 3, 1) := dk_29 (by decide +kernel)
theorem dX12_sayGoal_90 : decode cX12_sayGoal 90 = .ok (.iload_n 2, 1) := dk_28 (by decide +kernel)
theorem dX12_sayGoal_91 : decode cX12_sayGoal 91 = .ok (.invokevirtual 961, 3) := dk_182 (by decide +kernel)
theorem dX12_sayGoal_94 : decode cX12_sayGoal 94 = .ok (.iconst 1, 1) := dk_4 (by decide +kernel)
theorem dX12_sayGoal_95 : decode cX12_sayGoal 95 = .ok (.istore_n 2, 1) := dk_61 (by decide +kernel)
theorem dX12_sayGoal_96 : decode cX12_sayGoal 96 = .ok (.iinc 3 1, 3) := dk_132 (by decide +kernel)
theorem dX12_sayGoal_99 : decode cX12_sayGoal 99 = .ok (.goto (-57), 3) := dk_167 (by decide +kernel)
theorem dX12_sayGoal_102 : decode cX12_sayGoal 102 = .ok (.aload_n 0, 1) := dk_42 (by decide +kernel)
theorem dX12_sayGoal_103 : decode cX12_sayGoal 103 = .ok (.getfield 212, 3) := dk_180 (by decide +kernel)
theorem dX12_sayGoal_106 : decode cX12_sayGoal 106 = .ok (.bipush 9, 2) := dk_16 (by decide +kernel)
theorem dX12_sayGoal_108 : decode cX12_sayGoal 108 = .ok (.iload_n 1, 1) := dk_27 (by decide +kernel)
theorem dX12_sayGoal_109 : decode cX12_sayGoal 109 = .ok (.imul, 1) := dk_104 (by decide +kernel)
theorem dX12_sayGoal_110 : decode cX12_sayGoal 110 = .ok (.iaload, 1) := dk_46 (by decide +kernel)
theorem dX12_sayGoal_111 : decode cX12_sayGoal 111 = .ok (.ifCond .eq 30, 3) := dk_153 (by decide +kernel)
theorem dX12_sayGoal_114 : decode cX12_sayGoal 114 = .ok (.aload_n 0, 1) := dk_42 (by decide +kernel)
theorem dX12_sayGoal_115 : decode cX12_sayGoal 115 = .ok (.aload_n 0, 1) := dk_42 (by decide +kernel)
theorem dX12_sayGoal_116 : decode cX12_sayGoal 116 = .ok (.getfield 212, 3) := dk_180 (by decide +kernel)
theorem dX12_sayGoal_119 : decode cX12_sayGoal 119 = .ok (.bipush 9, 2) := dk_16 (by decide +kernel)
theorem dX12_sayGoal_121 : decode cX12_sayGoal 121 = .ok (.iload_n 1, 1) := dk_27 (by decide +kernel)
theorem dX12_sayGoal_122 : decode cX12_sayGoal 122 = .ok (.imul, 1) := dk_104 (by decide +kernel)
theorem dX12_sayGoal_123 : decode cX12_sayGoal 123 = .ok (.iaload, 1) := dk_46 (by decide +kernel)
theorem dX12_sayGoal_124 : decode cX12_sayGoal 124 = .ok (.aload_n 0, 1) := dk_42 (by decide +kernel)
theorem dX12_sayGoal_125 : decode cX12_sayGoal 125 = .ok (.getfield 215, 3) := dk_180 (by decide +kernel)
theorem dX12_sayGoal_128 : decode cX12_sayGoal 128 = .ok (.bipush 9, 2) := dk_16 (by decide +kernel)
theorem dX12_sayGoal_130 : decode cX12_sayGoal 130 = .ok (.iload_n 1, 1) := dk_27 (by decide +kernel)
theorem dX12_sayGoal_131 : decode cX12_sayGoal 131 = .ok (.imul, 1) := dk_104 (by decide +kernel)
theorem dX12_sayGoal_132 : decode cX12_sayGoal 132 = .ok (.iaload, 1) := dk_46 (by decide +kernel)
theorem dX12_sayGoal_133 : decode cX12_sayGoal 133 = .ok (.iconst (-1), 1) := dk_2 (by decide +kernel)
theorem dX12_sayGoal_134 : decode cX12_sayGoal 134 = .ok (.iload_n 2, 1) := dk_28 (by decide +kernel)
theorem dX12_sayGoal_135 : decode cX12_sayGoal 135 = .ok (.invokevirtual 961, 3) := dk_182 (by decide +kernel)
theorem dX12_sayGoal_138 : decode cX12_sayGoal 138 = .ok (.goto 13, 3) := dk_167 (by decide +kernel)
theorem dX12_sayGoal_141 : decode cX12_sayGoal 141 = .ok (.iload_n 2, 1) := dk_28 (by decide +kernel)
theorem dX12_sayGoal_142 : decode cX12_sayGoal 142 = .ok (.ifCond .ne 9, 3) := dk_154 (by decide +kernel)
theorem dX12_sayGoal_145 : decode cX12_sayGoal 145 = .ok (.aload_n 0, 1) := dk_42 (by decide +kernel)
theorem dX12_sayGoal_146 : decode cX12_sayGoal 146 = .ok (.bipush 48, 2) := dk_16 (by decide +kernel)
theorem dX12_sayGoal_148 : decode cX12_sayGoal 148 = .ok (.invokevirtual 936, 3) := dk_182 (by decide +kernel)
theorem dX12_sayGoal_151 : decode cX12_sayGoal 151 = .ok (.return_, 1) := dk_177 (by decide +kernel)
def wsRX12_sayGoal : List Cond := .code yX12_sayGoal cX12_sayGoal 5 none :: ([.fieldLink RX12 218 "OptimaWorksModel" "goalMax" "[I", .fieldLink RX12 774 "OptimaWorksModel" "variables" "I", .fieldLink RX12 212 "OptimaWorksModel" "goalTop" "[I", .fieldLink RX12 215 "OptimaWorksModel" "goalUnder" "[I"] ++ wsX120 ++ (wsV RX12 965 RX12 yX12_sayText wsRX12_sayText) ++ (wsV RX12 936 RX12 yX12_say wsRX12_say) ++ (wsV RX12 961 RX12 yX12_sayTerm wsRX12_sayTerm))
theorem iwsRX12_sayGoal_in12 : ∀ w ∈ wsX120, w ∈ wsRX12_sayGoal := fun _ h => List.mem_cons_of_mem _ (List.mem_append_left _ (List.mem_append_left _ (List.mem_append_left _ (List.mem_append_right _ h))))
theorem gwsRX12_sayGoal_0 : GoodIn wsRX12_sayGoal (wsV RX12 965 RX12 yX12_sayText wsRX12_sayText) := goodIn_sub (fun _ h => List.mem_cons_of_mem _ (List.mem_append_left _ (List.mem_append_left _ (List.mem_append_right _ h)))) (gdV (by decide +kernel) gdwsRX12_sayText)
theorem gwsRX12_sayGoal_1 : GoodIn wsRX12_sayGoal (wsV RX12 936 RX12 yX12_say wsRX12_say) := goodIn_sub (fun _ h => List.mem_cons_of_mem _ (List.mem_append_left _ (List.mem_append_right _ h))) (gdV (by decide +kernel) gdwsRX12_say)
theorem gwsRX12_sayGoal_2 : GoodIn wsRX12_sayGoal (wsV RX12 961 RX12 yX12_sayTerm wsRX12_sayTerm) := goodIn_sub (fun _ h => List.mem_cons_of_mem _ (List.mem_append_right _ h)) (gdV (by decide +kernel) gdwsRX12_sayTerm)
theorem gdwsRX12_sayGoal : wsRX12_sayGoal.all goodWord = true := gdC rfl (gdA (gdA (gdA (gdA (by decide +kernel : ([.fieldLink RX12 218 "OptimaWorksModel" "goalMax" "[I", .fieldLink RX12 774 "OptimaWorksModel" "variables" "I", .fieldLink RX12 212 "OptimaWorksModel" "goalTop" "[I", .fieldLink RX12 215 "OptimaWorksModel" "goalUnder" "[I"] : List Cond).all goodWord = true) gdwsX120) (gdV (by decide +kernel) gdwsRX12_sayText)) (gdV (by decide +kernel) gdwsRX12_say)) (gdV (by decide +kernel) gdwsRX12_sayTerm))
set_option maxHeartbeats 4000000 in
set_option maxRecDepth 100000 in
/-- sayGoal(g) -/
theorem r_X12_sayGoal (l : Launch) (dC : Nat → ClassId) (dI : Nat → Nat → Nat) (a : Nat → Nat) (k : Nat → ClassId) (h0 : Nat) (vi : Nat → Int32) (vj : Nat → Int64) (vF : Nat → Nat → Int32) (vG : Nat → Nat → Int64) (gn : Nat) (vn : Nat) (gq : Nat) (pn : Nat) (hpn : vi 125 = nI pn) (hpn2 : pn ≤ 30000) (hvn : vi 90 = nI vn) (hvn8 : vn ≤ 8) (hgq : gq ≤ 3) (hM : MdlB vF gq) (hgn : gn < gq) (sz : Nat) : Met l yX12_sayGoal wsRX12_sayGoal ({ frames := 6, cells := 0, slots := 0, locals := 128 }) (va_Pc [.ref h0, .int (nI gn)] (fun U => U.heap.size = sz ∧ va_P (dC, dI) vwCl (WR a k h0 vi vj vF vG) U.heap ∧ va_K (dC, dI) vwCl (tX12 k) U ∧ va_D (fun _ => True) (WR a k h0 vi vj vF vG) ∧ StrA (va_A (WR a k h0 vi vj vF vG) sz) U U.heap)) (va_Qv (fun (u : (Nat) × (Nat → Int32)) => ((u.1) ≤ 30000)) (fun (u : (Nat) × (Nat → Int32)) t => va_P (dC, dI) vwCl (WR a k h0 (fT vi 125 (nI (u.1))) vj (fT vF 75 (u.2)) vG) t.heap ∧ va_D (va_A (WR a k h0 vi vj vF vG) sz) (WR a k h0 (fT vi 125 (nI (u.1))) vj (fT vF 75 (u.2)) vG)) (va_A (WR a k h0 vi vj vF vG) sz)) 0 0 (va_A (WR a k h0 vi vj vF vG) sz) := by
  refine Met.ofW (cc := cX12_sayGoal) (maxL := 5) (ret := none) (by decide) rfl ?_
  intro p e s m args below meth c s₁ B hml hv
  obtain ⟨rfl, hsz, hP, hK, hD0, hE⟩ := hv
  have hx := B.exec
  have hb := B.bytes
  have hr := B.returns
  have hts := atoms_spec (ws := wsRX12_sayGoal) B.pre
  have hown : s.vm.findClass RX12 = some m.cls := findClass_of_methodNamed B.named
  have hlocks := B.notSynchronized
  subst hsz
  have hD := hD0.self (sz := s.heap.size)
  generalize hAe : va_A (WR a k h0 vi vj vF vG) s.heap.size = A at hD hE ⊢
  have hA : ∀ q : Nat, s.heap.size ≤ q → A q := fun q h => by rw [← hAe]; exact Or.inr h
  have hS : va_S A s.heap s.heap [] := va_S.rf
  have hl := lv_entry ([.ref h0, .int (nI gn)]) (n := 5) (Nat.le_of_ble_eq_true rfl)
  rw [lg_entry_eq]
  generalize (lg_sl ([.ref h0, .int (nI gn)]) ++ List.replicate (5 - (lg_sl ([.ref h0, .int (nI gn)])).length) Slot.unset).toArray = ls at hl ⊢
  have hl : lv_has ls 5 [(0, .ref h0), (1, .int (nI gn))] := hl
  refine lv_aload_n hx hb dX12_sayGoal_0 rfl (lv_at hl 0 rfl) ?_
  refine lv_aload_n hx hb dX12_sayGoal_1 rfl (lv_at hl 0 rfl) ?_
  refine va_get (D := (dC, dI)) (ci := 12) (v := .ref (a 65)) (C := RX12) (T := TX12) (N := 163) (fs := fM (vS a vi vj)) hx hb hts iwsRX12_sayGoal_in12 hown hK hP 0 rfl rfl 105 (by decide) (hts (.fieldLink RX12 218 "OptimaWorksModel" "goalMax" "[I") (by decide +kernel)) (fun _ h9 => h9) rfl dX12_sayGoal_2 ?_
  refine lv_iload_n hx hb dX12_sayGoal_5 rfl (lv_at hl 1 rfl) ?_
  refine va_iald (cA := k 65) (n := 3) (f := (vF 65)) hx hb hK hP 66 65 (WR_get 65 (by decide)) (TR_get 65 (by decide)) (vp_in_nI (show gn < 3 by omega) (by omega)) dX12_sayGoal_6 ?_
  refine lv_topi (fun y1 hy1 => ?_)
  obtain rfl : ((vF 65) gn) = y1 := (hy1.trans (by rw [nI_clamp (by omega)])).symm
  refine lv_iconst (v := 1) hx hb dX12_sayGoal_7 (by decide) ?_
  refine W.cut (pc := 35) (fun H locs ls stk => ∃ (e9 : Nat) (b9 : Nat), (e9 ≤ 63 ∧ b9 ≤ 63) ∧  stk = [.int (nI e9), .int (nI b9), .ref h0] ∧ va_P (dC, dI) vwCl (WR a k h0 vi vj vF vG) H ∧ va_D A (WR a k h0 vi vj vF vG) ∧ va_S A s.heap H locs ∧ lv_has ls 5 [(0, .ref h0), (1, .int (nI gn))]) (fun join1 => ?_) ?_
  · refine lv_icmp_ne (tgt := 16) hx hb dX12_sayGoal_8 (by decide) (fun c_8 => ?_) (fun c_8 => ?_)
    · have t_8 : (((vF 65) gn)).toInt ≠ 1 := toI_ne c_8 rfl (by decide)
      refine lv_bipush (v := 53) hx hb dX12_sayGoal_16 (by decide) ?_
      refine lv_aload_n hx hb dX12_sayGoal_18 rfl (lv_at hl 0 rfl) ?_
      refine va_get (D := (dC, dI)) (ci := 12) (v := .ref (a 65)) (C := RX12) (T := TX12) (N := 163) (fs := fM (vS a vi vj)) hx hb hts iwsRX12_sayGoal_in12 hown hK hP 0 rfl rfl 105 (by decide) (hts (.fieldLink RX12 218 "OptimaWorksModel" "goalMax" "[I") (by decide +kernel)) (fun _ h9 => h9) rfl dX12_sayGoal_19 ?_
      refine lv_iload_n hx hb dX12_sayGoal_22 rfl (lv_at hl 1 rfl) ?_
      refine va_iald (cA := k 65) (n := 3) (f := (vF 65)) hx hb hK hP 66 65 (WR_get 65 (by decide)) (TR_get 65 (by decide)) (vp_in_nI (show gn < 3 by omega) (by omega)) dX12_sayGoal_23 ?_
      refine lv_topi (fun y2 hy2 => ?_)
      obtain rfl : ((vF 65) gn) = y2 := (hy2.trans (by rw [nI_clamp (by omega)])).symm
      refine lv_iconst (v := 1) hx hb dX12_sayGoal_24 (by decide) ?_
      refine lv_icmp_ne (tgt := 33) hx hb dX12_sayGoal_25 (by decide) (fun c_25 => ?_) (fun c_25 => ?_)
      · have t_25 : (((vF 65) gn)).toInt ≠ 1 := toI_ne c_25 rfl (by decide)
        refine lv_bipush (v := 57) hx hb dX12_sayGoal_33 (by decide) ?_
        have hl : lv_has _ _ ([(0, .ref h0), (1, .int (nI gn))]) := lv_sub hl [0, 1] rfl
        exact join1 _ _ _ _ ⟨57, 53, by omega, rfl, hP, hD, hS, hl⟩
      · have t_25 : (((vF 65) gn)).toInt = 1 := toI_nne c_25 rfl (by decide)
        refine lv_bipush (v := 61) hx hb dX12_sayGoal_28 (by decide) ?_
        refine lv_goto (tgt := 35) hx hb dX12_sayGoal_30 (by decide) ?_
        have hl : lv_has _ _ ([(0, .ref h0), (1, .int (nI gn))]) := lv_sub hl [0, 1] rfl
        exact join1 _ _ _ _ ⟨61, 53, by omega, rfl, hP, hD, hS, hl⟩
    · have t_8 : (((vF 65) gn)).toInt = 1 := toI_nne c_8 rfl (by decide)
      refine lv_bipush (v := 57) hx hb dX12_sayGoal_11 (by decide) ?_
      refine lv_goto (tgt := 18) hx hb dX12_sayGoal_13 (by decide) ?_
      refine lv_aload_n hx hb dX12_sayGoal_18 rfl (lv_at hl 0 rfl) ?_
      refine va_get (D := (dC, dI)) (ci := 12) (v := .ref (a 65)) (C := RX12) (T := TX12) (N := 163) (fs := fM (vS a vi vj)) hx hb hts iwsRX12_sayGoal_in12 hown hK hP 0 rfl rfl 105 (by decide) (hts (.fieldLink RX12 218 "OptimaWorksModel" "goalMax" "[I") (by decide +kernel)) (fun _ h9 => h9) rfl dX12_sayGoal_19 ?_
      refine lv_iload_n hx hb dX12_sayGoal_22 rfl (lv_at hl 1 rfl) ?_
      refine va_iald (cA := k 65) (n := 3) (f := (vF 65)) hx hb hK hP 66 65 (WR_get 65 (by decide)) (TR_get 65 (by decide)) (vp_in_nI (show gn < 3 by omega) (by omega)) dX12_sayGoal_23 ?_
      refine lv_topi (fun y3 hy3 => ?_)
      obtain rfl : ((vF 65) gn) = y3 := (hy3.trans (by rw [nI_clamp (by omega)])).symm
      refine lv_iconst (v := 1) hx hb dX12_sayGoal_24 (by decide) ?_
      refine lv_icmp_ne (tgt := 33) hx hb dX12_sayGoal_25 (by decide) (fun c_25 => ?_) (fun c_25 => ?_)
      · have t_25 : (((vF 65) gn)).toInt ≠ 1 := toI_ne c_25 rfl (by decide)
        refine lv_bipush (v := 57) hx hb dX12_sayGoal_33 (by decide) ?_
        have hl : lv_has _ _ ([(0, .ref h0), (1, .int (nI gn))]) := lv_sub hl [0, 1] rfl
        exact join1 _ _ _ _ ⟨57, 57, by omega, rfl, hP, hD, hS, hl⟩
      · have t_25 : (((vF 65) gn)).toInt = 1 := toI_nne c_25 rfl (by decide)
        refine lv_bipush (v := 61) hx hb dX12_sayGoal_28 (by decide) ?_
        refine lv_goto (tgt := 35) hx hb dX12_sayGoal_30 (by decide) ?_
        have hl : lv_has _ _ ([(0, .ref h0), (1, .int (nI gn))]) := lv_sub hl [0, 1] rfl
        exact join1 _ _ _ _ ⟨61, 57, by omega, rfl, hP, hD, hS, hl⟩
  · rintro H locs ls stk ⟨e9, b9, he9, rfl, hP, hD, hS, hl⟩
    have hFc := allFree hD hS hA
    refine va_callv (va_runV (As := [.int (nI b9), .int (nI e9)]) (rest := []) ⟨hx, hb, hml, hown, hts⟩ (r_X12_sayText l dC dI a k h0 vi vj vF vG b9 e9 pn hpn (by first | with_reducible assumption | decide | omega | rfl | assumption) (by first | with_reducible assumption | decide | omega | rfl | assumption) (by first | with_reducible assumption | decide | omega | rfl | assumption) H.size) (cwV 2 hts gwsRX12_sayGoal_0 rfl rfl rfl hd_yX12_sayText_RX12 (by decide +kernel)) (fz_preE (va_recv hK hP (ci := 12) (q0 := 0) rfl rfl) hP hK hD (fun a U g mk qE => qE.same rfl) (fun U hU9 hW => by rw [hU9]; exact (((hE : StrA A s s.heap).kept hS.2.1).narrow (fun q h => hFc q h)).warm hW)) rfl rfl hl.1 rfl (lv_room (Nat.le_of_ble_eq_true rfl)) dX12_sayGoal_35 (by decide +kernel)) hS (fun q _ h => hFc q h) hFc (fun u t9_ H locs ht hvm hw9 hB9 hz1 hk1 hS => ?_)
    revert u hw9 hB9
    refine fz_p2 ?_
    intro p235 f7535 hw9 hB9
    try dsimp only at hw9 hB9
    have hP : va_P (dC, dI) vwCl (WR a k h0 (fT vi 125 (nI p235)) vj (fT vF 75 f7535) vG) H := fz_P ht hB9.1
    have hD : va_D A (WR a k h0 (fT vi 125 (nI p235)) vj (fT vF 75 f7535) vG) := hB9.2.weaken (fun _ q _ h => hFc q.1 h)
    have f35_0 := hw9
    try dsimp only at f35_0
    refine lv_iconst (v := 0) hx hb dX12_sayGoal_38 (by decide) ?_
    refine lv_istore_n hx hb dX12_sayGoal_39 rfl hl (by decide) rfl (fun ls (hl : lv_has ls _ ([(2, .int 0), (0, .ref h0), (1, .int (nI gn))])) => ?_)
    refine lv_iconst (v := 0) hx hb dX12_sayGoal_40 (by decide) ?_
    refine lv_istore_n hx hb dX12_sayGoal_41 rfl hl (by decide) rfl (fun ls (hl : lv_has ls _ ([(3, .int 0), (2, .int 0), (0, .ref h0), (1, .int (nI gn))])) => ?_)
    have hl : lv_has _ _ ([(0, .ref h0), (1, .int (nI gn)), (2, .int 0), (3, .int (nI 0))]) := lv_sub hl [2, 3, 1, 0] rfl
    refine (fun (loop : ∀ (n9 : Nat) (k5 : Nat) (so : Int32) (x2_i125 : Nat) (x2_F75 : Nat → Int32) (H : Heap) (locs : List Loc) (ls : Array Slot), (k5 ≤ vn) → (x2_i125 ≤ 30000) →  (vn < k5 + n9) → va_P (dC, dI) vwCl (WR a k h0 (fT vi 125 (nI x2_i125)) vj (fT vF 75 x2_F75) vG) H → va_D A (WR a k h0 (fT vi 125 (nI x2_i125)) vj (fT vF 75 x2_F75) vG) → va_S A s.heap H locs → lv_has ls 5 [(0, .ref h0), (1, .int (nI gn)), (2, .int so), (3, .int (nI k5))] → W p l e _ s m _ below meth c H locs 0 0 _ (F0 m 42 ls [])) => loop (vn + 1) 0 0 p235 f7535 _ _ _ (by omega) (by first | with_reducible assumption | omega | assumption) (by omega) hP hD hS hl) ?_
    intro n9
    induction n9 with
    | zero => intro k5 so x2_i125 x2_F75 H locs ls hk5 hx2_i125 hf9; exact False.elim (by omega)
    | succ n9 ih42 =>
      intro k5 so x2_i125 x2_F75 H locs ls hk5 hx2_i125 hf42 hP hD hS hl
      refine lv_iload_n hx hb dX12_sayGoal_42 rfl (lv_at hl 3 rfl) ?_
      refine lv_aload_n hx hb dX12_sayGoal_43 rfl (lv_at hl 0 rfl) ?_
      refine va_get (D := (dC, dI)) (ci := 12) (v := .int (vi 90)) (C := RX12) (T := TX12) (N := 163) (fs := fM (vS a (fT vi 125 (nI x2_i125)) vj)) hx hb hts iwsRX12_sayGoal_in12 hown hK hP 0 rfl rfl 90 (by decide) (hts (.fieldLink RX12 774 "OptimaWorksModel" "variables" "I") (by decide +kernel)) (fun _ h9 => h9) rfl dX12_sayGoal_44 ?_
      refine lv_topi (fun y4 hy4 => ?_)
      obtain rfl : (nI vn) = y4 := (hy4.trans (hvn)).symm
      refine lv_icmp_ge (tgt := 102) hx hb dX12_sayGoal_47 (by decide) (fun c_47 => ?_) (fun c_47 => ?_)
      · have t_47 : ((k5 : Nat) : Int) ≥ ((vn : Nat) : Int) := toI_ge c_47 (nI_toInt (by omega)) (nI_toInt (by omega))
        refine lv_aload_n hx hb dX12_sayGoal_102 rfl (lv_at hl 0 rfl) ?_
        refine va_get (D := (dC, dI)) (ci := 12) (v := .ref (a 63)) (C := RX12) (T := TX12) (N := 163) (fs := fM (vS a (fT vi 125 (nI x2_i125)) vj)) hx hb hts iwsRX12_sayGoal_in12 hown hK hP 0 rfl rfl 103 (by decide) (hts (.fieldLink RX12 212 "OptimaWorksModel" "goalTop" "[I") (by decide +kernel)) (fun _ h9 => h9) rfl dX12_sayGoal_103 ?_
        refine lv_bipush (v := 9) hx hb dX12_sayGoal_106 (by decide) ?_
        refine lv_iload_n hx hb dX12_sayGoal_108 rfl (lv_at hl 1 rfl) ?_
        refine lv_imul hx hb dX12_sayGoal_109 ?_
        refine lv_topi (fun y5 hy5 => ?_)
        obtain rfl : (nI (9 * gn)) = y5 := (hy5.trans (pk_mul 9 gn)).symm
        refine va_iald (cA := k 63) (n := 27) (f := (vF 63)) hx hb hK hP 64 63 (WR_get 63 (by decide)) (TR_get 63 (by decide)) (vp_in_nI (show (9 * gn) < 27 by omega) (by omega)) dX12_sayGoal_110 ?_
        refine lv_topi (fun y6 hy6 => ?_)
        obtain rfl : ((vF 63) (9 * gn)) = y6 := (hy6.trans (by rw [nI_clamp (by omega)])).symm
        refine lv_if_eq (tgt := 141) hx hb dX12_sayGoal_111 (by decide) (fun c_111 => ?_) (fun c_111 => ?_)
        · have t_111 : (((vF 63) (9 * gn))).toInt = 0 := toI_eq c_111 rfl (by decide)
          refine lv_iload_n hx hb dX12_sayGoal_141 rfl (lv_at hl 2 rfl) ?_
          refine lv_if_ne (tgt := 151) hx hb dX12_sayGoal_142 (by decide) (fun c_142 => ?_) (fun c_142 => ?_)
          · have t_142 : (so).toInt ≠ 0 := toI_ne c_142 rfl (by decide)
            refine W.widen (k := 0) (n := 0) (by decide +kernel) (by decide +kernel) ?_
            exact W.vret hx hb hr (fun t9_ ht hW => ⟨⟨(x2_i125, x2_F75), rfl, by (try dsimp only); first | assumption | omega, by rw [ht]; exact hP, hD⟩, hS.F ht⟩) hS.2.2 dX12_sayGoal_151
          · have t_142 : (so).toInt = 0 := toI_nne c_142 rfl (by decide)
            refine lv_aload_n hx hb dX12_sayGoal_145 rfl (lv_at hl 0 rfl) ?_
            refine lv_bipush (v := 48) hx hb dX12_sayGoal_146 (by decide) ?_
            have hFc := allFree hD hS hA
            refine va_callv (va_runV (As := [.int 48]) (rest := []) ⟨hx, hb, hml, hown, hts⟩ (r_X12_say l dC dI a k h0 (fT vi 125 (nI x2_i125)) vj (fT vF 75 x2_F75) vG 48 x2_i125 rfl (by first | with_reducible assumption | decide | omega | rfl | assumption) H.size) (cwV 1 hts gwsRX12_sayGoal_1 rfl rfl rfl hd_yX12_say_RX12 (by decide +kernel)) (fz_pre (va_recv hK hP (ci := 12) (q0 := 0) rfl rfl) hP hK hD) rfl rfl hl.1 rfl (lv_room (Nat.le_of_ble_eq_true rfl)) dX12_sayGoal_148 (by decide +kernel)) hS (fun q _ h => hFc q h) hFc (fun u t9_ H locs ht hvm hw9 hB9 hz1 hk1 hS => ?_)
            revert u hw9 hB9
            refine fz_p2 ?_
            intro p2148 f75148 hw9 hB9
            try dsimp only at hw9 hB9
            have hP : va_P (dC, dI) vwCl (WR a k h0 (fT (fT vi 125 (nI x2_i125)) 125 (nI p2148)) vj (fT (fT vF 75 x2_F75) 75 f75148) vG) H := fz_P ht hB9.1
            have hD : va_D A (WR a k h0 (fT (fT vi 125 (nI x2_i125)) 125 (nI p2148)) vj (fT (fT vF 75 x2_F75) 75 f75148) vG) := hB9.2.weaken (fun _ q _ h => hFc q.1 h)
            have e9 : fT vi 125 (nI p2148) = fT (fT vi 125 (nI x2_i125)) 125 (nI p2148) := (fT_sm _ _ _ _).symm
            rw [← e9] at hP hD
            clear e9
            have e9 : fT vF 75 f75148 = fT (fT vF 75 x2_F75) 75 f75148 := (fT_sm _ _ _ _).symm
            rw [← e9] at hP hD
            clear e9
            have hP : va_P (dC, dI) vwCl (WR a k h0 (fT vi 125 (nI p2148)) vj (fT vF 75 f75148) vG) H := hP
            have hD : va_D A (WR a k h0 (fT vi 125 (nI p2148)) vj (fT vF 75 f75148) vG) := hD
            revert hw9
            refine fz_a3 ?_
            intro f148_0 f148_1 f148_2
            refine W.widen (k := 0) (n := 0) (by decide +kernel) (by decide +kernel) ?_
            exact W.vret hx hb hr (fun t9_ ht hW => ⟨⟨(p2148, f75148), rfl, by (try dsimp only); first | assumption | omega, by rw [ht]; exact hP, hD⟩, hS.F ht⟩) hS.2.2 dX12_sayGoal_151
        · have t_111 : ¬ (((vF 63) (9 * gn))).toInt = 0 := toI_neq c_111 rfl (by decide)
          have bt := hM.top hgn (k := 0) (by omega)
          have bu := hM.under hgn (k := 0) (by omega)
          rw [if_pos rfl] at bt bu
          simp only [Nat.add_zero] at bt bu
          refine lv_aload_n hx hb dX12_sayGoal_114 rfl (lv_at hl 0 rfl) ?_
          refine lv_aload_n hx hb dX12_sayGoal_115 rfl (lv_at hl 0 rfl) ?_
          refine va_get (D := (dC, dI)) (ci := 12) (v := .ref (a 63)) (C := RX12) (T := TX12) (N := 163) (fs := fM (vS a (fT vi 125 (nI x2_i125)) vj)) hx hb hts iwsRX12_sayGoal_in12 hown hK hP 0 rfl rfl 103 (by decide) (hts (.fieldLink RX12 212 "OptimaWorksModel" "goalTop" "[I") (by decide +kernel)) (fun _ h9 => h9) rfl dX12_sayGoal_116 ?_
          refine lv_bipush (v := 9) hx hb dX12_sayGoal_119 (by decide) ?_
          refine lv_iload_n hx hb dX12_sayGoal_121 rfl (lv_at hl 1 rfl) ?_
          refine lv_imul hx hb dX12_sayGoal_122 ?_
          refine lv_topi (fun y7 hy7 => ?_)
          obtain rfl : (nI (9 * gn)) = y7 := (hy7.trans (pk_mul 9 gn)).symm
          refine va_iald (cA := k 63) (n := 27) (f := (vF 63)) hx hb hK hP 64 63 (WR_get 63 (by decide)) (TR_get 63 (by decide)) (vp_in_nI (show (9 * gn) < 27 by omega) (by omega)) dX12_sayGoal_123 ?_
          refine lv_topi (fun y8 hy8 => ?_)
          obtain rfl : ((vF 63) (9 * gn)) = y8 := (hy8.trans (by rw [nI_clamp (by omega)])).symm
          refine lv_aload_n hx hb dX12_sayGoal_124 rfl (lv_at hl 0 rfl) ?_
          refine va_get (D := (dC, dI)) (ci := 12) (v := .ref (a 64)) (C := RX12) (T := TX12) (N := 163) (fs := fM (vS a (fT vi 125 (nI x2_i125)) vj)) hx hb hts iwsRX12_sayGoal_in12 hown hK hP 0 rfl rfl 104 (by decide) (hts (.fieldLink RX12 215 "OptimaWorksModel" "goalUnder" "[I") (by decide +kernel)) (fun _ h9 => h9) rfl dX12_sayGoal_125 ?_
          refine lv_bipush (v := 9) hx hb dX12_sayGoal_128 (by decide) ?_
          refine lv_iload_n hx hb dX12_sayGoal_130 rfl (lv_at hl 1 rfl) ?_
          refine lv_imul hx hb dX12_sayGoal_131 ?_
          refine lv_topi (fun y9 hy9 => ?_)
          obtain rfl : (nI (9 * gn)) = y9 := (hy9.trans (pk_mul 9 gn)).symm
          refine va_iald (cA := k 64) (n := 27) (f := (vF 64)) hx hb hK hP 65 64 (WR_get 64 (by decide)) (TR_get 64 (by decide)) (vp_in_nI (show (9 * gn) < 27 by omega) (by omega)) dX12_sayGoal_132 ?_
          refine lv_topi (fun y10 hy10 => ?_)
          obtain rfl : ((vF 64) (9 * gn)) = y10 := (hy10.trans (by rw [nI_clamp (by omega)])).symm
          refine lv_iconst (v := (-1)) hx hb dX12_sayGoal_133 (by decide) ?_
          refine lv_iload_n hx hb dX12_sayGoal_134 rfl (lv_at hl 2 rfl) ?_
          have hFc := allFree hD hS hA
          refine va_callv (va_runV (As := [.int ((vF 63) (9 * gn)), .int ((vF 64) (9 * gn)), .int (-1), .int so]) (rest := []) ⟨hx, hb, hml, hown, hts⟩ (r_X12_sayTerm l dC dI a k h0 (fT vi 125 (nI x2_i125)) vj (fT vF 75 x2_F75) vG ((vF 63) (9 * gn)) ((vF 64) (9 * gn)) (-1) so x2_i125 rfl (by first | with_reducible assumption | decide | omega | rfl | assumption) (by omega) (by omega) (by decide) H.size) (cwV 4 hts gwsRX12_sayGoal_2 rfl rfl rfl hd_yX12_sayTerm_RX12 (by decide +kernel)) (fz_pre (va_recv hK hP (ci := 12) (q0 := 0) rfl rfl) hP hK hD) rfl rfl hl.1 rfl (lv_room (Nat.le_of_ble_eq_true rfl)) dX12_sayGoal_135 (by decide +kernel)) hS (fun q _ h => hFc q h) hFc (fun u t9_ H locs ht hvm hw9 hB9 hz1 hk1 hS => ?_)
          revert u hw9 hB9
          refine fz_p2 ?_
          intro p2135 f75135 hw9 hB9
          try dsimp only at hw9 hB9
          have hP : va_P (dC, dI) vwCl (WR a k h0 (fT (fT vi 125 (nI x2_i125)) 125 (nI p2135)) vj (fT (fT vF 75 x2_F75) 75 f75135) vG) H := fz_P ht hB9.1
          have hD : va_D A (WR a k h0 (fT (fT vi 125 (nI x2_i125)) 125 (nI p2135)) vj (fT (fT vF 75 x2_F75) 75 f75135) vG) := hB9.2.weaken (fun _ q _ h => hFc q.1 h)
          have e9 : fT vi 125 (nI p2135) = fT (fT vi 125 (nI x2_i125)) 125 (nI p2135) := (fT_sm _ _ _ _).symm
          rw [← e9] at hP hD
          clear e9
          have e9 : fT vF 75 f75135 = fT (fT vF 75 x2_F75) 75 f75135 := (fT_sm _ _ _ _).symm
          rw [← e9] at hP hD
          clear e9
          have hP : va_P (dC, dI) vwCl (WR a k h0 (fT vi 125 (nI p2135)) vj (fT vF 75 f75135) vG) H := hP
          have hD : va_D A (WR a k h0 (fT vi 125 (nI p2135)) vj (fT vF 75 f75135) vG) := hD
          have f135_0 := hw9
          try dsimp only at f135_0
          refine lv_goto (tgt := 151) hx hb dX12_sayGoal_138 (by decide) ?_
          refine W.widen (k := 0) (n := 0) (by decide +kernel) (by decide +kernel) ?_
          exact W.vret hx hb hr (fun t9_ ht hW => ⟨⟨(p2135, f75135), rfl, by (try dsimp only); first | assumption | omega, by rw [ht]; exact hP, hD⟩, hS.F ht⟩) hS.2.2 dX12_sayGoal_151
      · have t_47 : ¬ ((k5 : Nat) : Int) ≥ ((vn : Nat) : Int) := toI_nge c_47 (nI_toInt (by omega)) (nI_toInt (by omega))
        refine lv_aload_n hx hb dX12_sayGoal_50 rfl (lv_at hl 0 rfl) ?_
        refine va_get (D := (dC, dI)) (ci := 12) (v := .ref (a 63)) (C := RX12) (T := TX12) (N := 163) (fs := fM (vS a (fT vi 125 (nI x2_i125)) vj)) hx hb hts iwsRX12_sayGoal_in12 hown hK hP 0 rfl rfl 103 (by decide) (hts (.fieldLink RX12 212 "OptimaWorksModel" "goalTop" "[I") (by decide +kernel)) (fun _ h9 => h9) rfl dX12_sayGoal_51 ?_
        refine lv_bipush (v := 9) hx hb dX12_sayGoal_54 (by decide) ?_
        refine lv_iload_n hx hb dX12_sayGoal_56 rfl (lv_at hl 1 rfl) ?_
        refine lv_imul hx hb dX12_sayGoal_57 ?_
        refine lv_topi (fun y11 hy11 => ?_)
        obtain rfl : (nI (9 * gn)) = y11 := (hy11.trans (pk_mul 9 gn)).symm
        refine lv_iconst (v := 1) hx hb dX12_sayGoal_58 (by decide) ?_
        refine lv_iadd hx hb dX12_sayGoal_59 ?_
        refine lv_topi (fun y12 hy12 => ?_)
        obtain rfl : (nI ((9 * gn) + 1)) = y12 := (hy12.trans (nI_add (9 * gn) 1)).symm
        refine lv_iload_n hx hb dX12_sayGoal_60 rfl (lv_at hl 3 rfl) ?_
        refine lv_iadd hx hb dX12_sayGoal_61 ?_
        refine lv_topi (fun y13 hy13 => ?_)
        obtain rfl : (nI (((9 * gn) + 1) + k5)) = y13 := (hy13.trans (nI_add ((9 * gn) + 1) k5)).symm
        refine va_iald (cA := k 63) (n := 27) (f := (vF 63)) hx hb hK hP 64 63 (WR_get 63 (by decide)) (TR_get 63 (by decide)) (vp_in_nI (show (((9 * gn) + 1) + k5) < 27 by omega) (by omega)) dX12_sayGoal_62 ?_
        refine lv_topi (fun y14 hy14 => ?_)
        obtain rfl : ((vF 63) (((9 * gn) + 1) + k5)) = y14 := (hy14.trans (by rw [nI_clamp (by omega)])).symm
        refine lv_istore hx hb dX12_sayGoal_63 hl (by decide) rfl (fun ls (hl : lv_has ls _ ([(4, .int ((vF 63) (((9 * gn) + 1) + k5))), (0, .ref h0), (1, .int (nI gn)), (2, .int so), (3, .int (nI k5))])) => ?_)
        refine lv_iload hx hb dX12_sayGoal_65 (lv_at hl 0 rfl) ?_
        refine lv_if_ne (tgt := 73) hx hb dX12_sayGoal_67 (by decide) (fun c_67 => ?_) (fun c_67 => ?_)
        · have t_67 : (((vF 63) (((9 * gn) + 1) + k5))).toInt ≠ 0 := toI_ne c_67 rfl (by decide)
          have bt := hM.top hgn (k := k5 + 1) (by omega)
          have bu := hM.under hgn (k := k5 + 1) (by omega)
          rw [if_neg (by omega)] at bt bu
          rw [show 9 * gn + (k5 + 1) = 9 * gn + 1 + k5 by omega] at bt bu
          refine lv_aload_n hx hb dX12_sayGoal_73 rfl (lv_at hl 1 rfl) ?_
          refine lv_iload hx hb dX12_sayGoal_74 (lv_at hl 0 rfl) ?_
          refine lv_aload_n hx hb dX12_sayGoal_76 rfl (lv_at hl 1 rfl) ?_
          refine va_get (D := (dC, dI)) (ci := 12) (v := .ref (a 64)) (C := RX12) (T := TX12) (N := 163) (fs := fM (vS a (fT vi 125 (nI x2_i125)) vj)) hx hb hts iwsRX12_sayGoal_in12 hown hK hP 0 rfl rfl 104 (by decide) (hts (.fieldLink RX12 215 "OptimaWorksModel" "goalUnder" "[I") (by decide +kernel)) (fun _ h9 => h9) rfl dX12_sayGoal_77 ?_
          refine lv_bipush (v := 9) hx hb dX12_sayGoal_80 (by decide) ?_
          refine lv_iload_n hx hb dX12_sayGoal_82 rfl (lv_at hl 2 rfl) ?_
          refine lv_imul hx hb dX12_sayGoal_83 ?_
          refine lv_topi (fun y15 hy15 => ?_)
          obtain rfl : (nI (9 * gn)) = y15 := (hy15.trans (pk_mul 9 gn)).symm
          refine lv_iconst (v := 1) hx hb dX12_sayGoal_84 (by decide) ?_
          refine lv_iadd hx hb dX12_sayGoal_85 ?_
          refine lv_topi (fun y16 hy16 => ?_)
          obtain rfl : (nI ((9 * gn) + 1)) = y16 := (hy16.trans (nI_add (9 * gn) 1)).symm
          refine lv_iload_n hx hb dX12_sayGoal_86 rfl (lv_at hl 4 rfl) ?_
          refine lv_iadd hx hb dX12_sayGoal_87 ?_
          refine lv_topi (fun y17 hy17 => ?_)
          obtain rfl : (nI (((9 * gn) + 1) + k5)) = y17 := (hy17.trans (nI_add ((9 * gn) + 1) k5)).symm
          refine va_iald (cA := k 64) (n := 27) (f := (vF 64)) hx hb hK hP 65 64 (WR_get 64 (by decide)) (TR_get 64 (by decide)) (vp_in_nI (show (((9 * gn) + 1) + k5) < 27 by omega) (by omega)) dX12_sayGoal_88 ?_
          refine lv_topi (fun y18 hy18 => ?_)
          obtain rfl : ((vF 64) (((9 * gn) + 1) + k5)) = y18 := (hy18.trans (by rw [nI_clamp (by omega)])).symm
          refine lv_iload_n hx hb dX12_sayGoal_89 rfl (lv_at hl 4 rfl) ?_
          refine lv_iload_n hx hb dX12_sayGoal_90 rfl (lv_at hl 3 rfl) ?_
          have hFc := allFree hD hS hA
          refine va_callv (va_runV (As := [.int ((vF 63) (((9 * gn) + 1) + k5)), .int ((vF 64) (((9 * gn) + 1) + k5)), .int (nI k5), .int so]) (rest := []) ⟨hx, hb, hml, hown, hts⟩ (r_X12_sayTerm l dC dI a k h0 (fT vi 125 (nI x2_i125)) vj (fT vF 75 x2_F75) vG ((vF 63) (((9 * gn) + 1) + k5)) ((vF 64) (((9 * gn) + 1) + k5)) (nI k5) so x2_i125 rfl (by first | with_reducible assumption | decide | omega | rfl | assumption) (by omega) (by omega) (by (have e9 := nI_toInt (n := k5) (by omega)); rw [e9]; omega) H.size) (cwV 4 hts gwsRX12_sayGoal_2 rfl rfl rfl hd_yX12_sayTerm_RX12 (by decide +kernel)) (fz_pre (va_recv hK hP (ci := 12) (q0 := 0) rfl rfl) hP hK hD) rfl rfl hl.1 rfl (lv_room (Nat.le_of_ble_eq_true rfl)) dX12_sayGoal_91 (by decide +kernel)) hS (fun q _ h => hFc q h) hFc (fun u t9_ H locs ht hvm hw9 hB9 hz1 hk1 hS => ?_)
          revert u hw9 hB9
          refine fz_p2 ?_
          intro p291 f7591 hw9 hB9
          try dsimp only at hw9 hB9
          have hP : va_P (dC, dI) vwCl (WR a k h0 (fT (fT vi 125 (nI x2_i125)) 125 (nI p291)) vj (fT (fT vF 75 x2_F75) 75 f7591) vG) H := fz_P ht hB9.1
          have hD : va_D A (WR a k h0 (fT (fT vi 125 (nI x2_i125)) 125 (nI p291)) vj (fT (fT vF 75 x2_F75) 75 f7591) vG) := hB9.2.weaken (fun _ q _ h => hFc q.1 h)
          have e9 : fT vi 125 (nI p291) = fT (fT vi 125 (nI x2_i125)) 125 (nI p291) := (fT_sm _ _ _ _).symm
          rw [← e9] at hP hD
          clear e9
          have e9 : fT vF 75 f7591 = fT (fT vF 75 x2_F75) 75 f7591 := (fT_sm _ _ _ _).symm
          rw [← e9] at hP hD
          clear e9
          have hP : va_P (dC, dI) vwCl (WR a k h0 (fT vi 125 (nI p291)) vj (fT vF 75 f7591) vG) H := hP
          have hD : va_D A (WR a k h0 (fT vi 125 (nI p291)) vj (fT vF 75 f7591) vG) := hD
          have f91_0 := hw9
          try dsimp only at f91_0
          refine lv_iconst (v := 1) hx hb dX12_sayGoal_94 (by decide) ?_
          refine lv_istore_n hx hb dX12_sayGoal_95 rfl hl (by decide) rfl (fun ls (hl : lv_has ls _ ([(2, .int 1), (4, .int ((vF 63) (((9 * gn) + 1) + k5))), (0, .ref h0), (1, .int (nI gn)), (3, .int (nI k5))])) => ?_)
          refine lv_iinc (v := (nI (k5 + 1))) hx hb dX12_sayGoal_96 hl (k := 4) rfl (nI_add k5 1) (by decide) rfl (fun ls (hl : lv_has ls _ ([(3, .int (nI (k5 + 1))), (2, .int 1), (4, .int ((vF 63) (((9 * gn) + 1) + k5))), (0, .ref h0), (1, .int (nI gn))])) => ?_)
          refine lv_goto (tgt := 42) hx hb dX12_sayGoal_99 (by decide) ?_
          have hl : lv_has _ _ ([(0, .ref h0), (1, .int (nI gn)), (2, .int 1), (3, .int (nI (k5 + 1)))]) := lv_sub hl [3, 4, 1, 0] rfl
          exact ih42 (k5 + 1) 1 p291 f7591 _ _ _ (by omega) (by first | with_reducible assumption | omega | assumption) (by omega) hP hD hS hl
        · have t_67 : (((vF 63) (((9 * gn) + 1) + k5))).toInt = 0 := toI_nne c_67 rfl (by decide)
          refine lv_goto (tgt := 96) hx hb dX12_sayGoal_70 (by decide) ?_
          refine lv_iinc (v := (nI (k5 + 1))) hx hb dX12_sayGoal_96 hl (k := 4) rfl (nI_add k5 1) (by decide) rfl (fun ls (hl : lv_has ls _ ([(3, .int (nI (k5 + 1))), (4, .int ((vF 63) (((9 * gn) + 1) + k5))), (0, .ref h0), (1, .int (nI gn)), (2, .int so)])) => ?_)
          refine lv_goto (tgt := 42) hx hb dX12_sayGoal_99 (by decide) ?_
          have hl : lv_has _ _ ([(0, .ref h0), (1, .int (nI gn)), (2, .int so), (3, .int (nI (k5 + 1)))]) := lv_sub hl [2, 3, 4, 0] rfl
          exact ih42 (k5 + 1) so x2_i125 x2_F75 _ _ _ (by omega) (by first | with_reducible assumption | omega | assumption) (by omega) hP hD hS hl
theorem dX12_write_0 : decode cX12_write 0 = .ok (.aload_n 0, 1) := dk_42 (by decide +kernel)
theorem dX12_write_1 : decode cX12_write 1 = .ok (.aload_n 0, 1) := dk_42 (by decide +kernel)
theorem dX12_write_2 : decode cX12_write 2 = .ok (.getfield 808, 3) := dk_180 (by decide +kernel)
theorem dX12_write_5 : decode cX12_write 5 = .ok (.ifCond .eq 7, 3) := dk_153 (by decide +kernel)
theorem dX12_write_8 : decode cX12_write 8 = .ok (.iconst 0, 1) := dk_3 (by decide +kernel)
theorem dX12_write_9 : decode cX12_write 9 = .ok (.goto 4, 3) := dk_167 (by decide +kernel)
theorem dX12_write_12 : decode cX12_write 12 = .ok (.iconst 1, 1) := dk_4 (by decide +kernel)
theorem dX12_write_13 : decode cX12_write 13 = .ok (.putfield 348, 3) := dk_181 (by decide +kernel)
theorem dX12_write_16 : decode cX12_write 16 = .ok (.aload_n 0, 1) := dk_42 (by decide +kernel)
theorem dX12_write_17 : decode cX12_write 17 = .ok (.getfield 348, 3) := dk_180 (by decide +kernel)
theorem dX12_write_20 : decode cX12_write 20 = .ok (.ifCond .le 5, 3) := dk_158 (by decide +kernel)
theorem dX12_write_23 : decode cX12_write 23 = .ok (.iconst 0, 1) := dk_3 (by decide +kernel)
theorem dX12_write_24 : decode cX12_write 24 = .ok (.ireturn, 1) := dk_172 (by decide +kernel)
theorem dX12_write_25 : decode cX12_write 25 = .ok (.aload_n 0, 1) := dk_42 (by decide +kernel)
theorem dX12_write_26 : decode cX12_write 26 = .ok (.iconst 0, 1) := dk_3 (by decide +kernel)
theorem dX12_write_27 : decode cX12_write 27 = .ok (.putfield 933, 3) := dk_181 (by decide +kernel)
theorem dX12_write_30 : decode cX12_write 30 = .ok (.iconst 0, 1) := dk_3 (by decide +kernel)
theorem dX12_write_31 : decode cX12_write 31 = .ok (.istore_n 1, 1) := dk_60 (by decide +kernel)
theorem dX12_write_32 : decode cX12_write 32 = .ok (.iload_n 1, 1) := dk_27 (by decide +kernel)
theorem dX12_write_33 : decode cX12_write 33 = .ok (.aload_n 0, 1) := dk_42 (by decide +kernel)
theorem dX12_write_34 : decode cX12_write 34 = .ok (.getfield 774, 3) := dk_180 (by decide +kernel)
theorem dX12_write_37 : decode cX12_write 37 = .ok (.if_icmp .ge 90, 3) := dk_162 (by decide +kernel)
theorem dX12_write_40 : decode cX12_write 40 = .ok (.aload_n 0, 1) := dk_42 (by decide +kernel)
theorem dX12_write_41 : decode cX12_write 41 = .ok (.iconst 0, 1) := dk_3 (by decide +kernel)
theorem dX12_write_42 : decode cX12_write 42 = .ok (.iconst 5, 1) := dk_8 (by decide +kernel)
theorem dX12_write_43 : decode cX12_write 43 = .ok (.invokevirtual 965, 3) := dk_182 (by decide +kernel)
theorem dX12_write_46 : decode cX12_write 46 = .ok (.aload_n 0, 1) := dk_42 (by decide +kernel)
theorem dX12_write_47 : decode cX12_write 47 = .ok (.iload_n 1, 1) := dk_27 (by decide +kernel)
theorem dX12_write_48 : decode cX12_write 48 = .ok (.invokevirtual 955, 3) := dk_182 (by decide +kernel)
theorem dX12_write_51 : decode cX12_write 51 = .ok (.aload_n 0, 1) := dk_42 (by decide +kernel)
theorem dX12_write_52 : decode cX12_write 52 = .ok (.bipush 32, 2) := dk_16 (by decide +kernel)
theorem dX12_write_54 : decode cX12_write 54 = .ok (.invokevirtual 936, 3) := dk_182 (by decide +kernel)
theorem dX12_write_57 : decode cX12_write 57 = .ok (.aload_n 0, 1) := dk_42 (by decide +kernel)
theorem dX12_write_58 : decode cX12_write 58 = .ok (.getfield 197, 3) := dk_180 (by decide +kernel)
theorem dX12_write_61 : decode cX12_write 61 = .ok (.iload_n 1, 1) := dk_27 (by decide +kernel)
theorem dX12_write_62 : decode cX12_write 62 = .ok (.iaload, 1) := dk_46 (by decide +kernel)
theorem dX12_write_63 : decode cX12_write 63 = .ok (.iconst 1, 1) := dk_4 (by decide +kernel)
theorem dX12_write_64 : decode cX12_write 64 = .ok (.if_icmp .ne 11, 3) := dk_160 (by decide +kernel)
theorem dX12_write_67 : decode cX12_write 67 = .ok (.aload_n 0, 1) := dk_42 (by decide +kernel)
theorem dX12_write_68 : decode cX12_write 68 = .ok (.bipush 6, 2) := dk_16 (by decide +kernel)
theorem dX12_write_70 : decode cX12_write 70 = .ok (.bipush 12, 2) := dk_16 (by decide +kernel)
theorem dX12_write_72 : decode cX12_write 72 = .ok (.invokevirtual 965, 3) := dk_182 (by decide +kernel)
theorem dX12_write_75 : decode cX12_write 75 = .ok (.aload_n 0, 1) := dk_42 (by decide +kernel)
theorem dX12_write_76 : decode cX12_write 76 = .ok (.bipush 12, 2) := dk_16 (by decide +kernel)
theorem dX12_write_78 : decode cX12_write 78 = .ok (.bipush 17, 2) := dk_16 (by decide +kernel)
theorem dX12_write_80 : decode cX12_write 80 = .ok (.invokevirtual 965, 3) := dk_182 (by decide +kernel)
theorem dX12_write_83 : decode cX12_write 83 = .ok (.aload_n 0, 1) := dk_42 (by decide +kernel)
theorem dX12_write_84 : decode cX12_write 84 = .ok (.aload_n 0, 1) := dk_42 (by decide +kernel)
theorem dX12_write_85 : decode cX12_write 85 = .ok (.getfield 191, 3) := dk_180 (by decide +kernel)
theorem dX12_write_88 : decode cX12_write 88 = .ok (.iload_n 1, 1) := dk_27 (by decide +kernel)
theorem dX12_write_89 : decode cX12_write 89 = .ok (.iaload, 1) := dk_46 (by decide +kernel)
theorem dX12_write_90 : decode cX12_write 90 = .ok (.invokevirtual 955, 3) := dk_182 (by decide +kernel)
theorem dX12_write_93 : decode cX12_write 93 = .ok (.aload_n 0, 1) := dk_42 (by decide +kernel)
theorem dX12_write_94 : decode cX12_write 94 = .ok (.bipush 32, 2) := dk_16 (by decide +kernel)
theorem dX12_write_96 : decode cX12_write 96 = .ok (.invokevirtual 936, 3) := dk_182 (by decide +kernel)
theorem dX12_write_99 : decode cX12_write 99 = .ok (.aload_n 0, 1) := dk_42 (by decide +kernel)
theorem dX12_write_100 : decode cX12_write 100 = .ok (.bipush 17, 2) := dk_16 (by decide +kernel)
theorem dX12_write_102 : decode cX12_write 102 = .ok (.bipush 20, 2) := dk_16 (by decide +kernel)
theorem dX12_write_104 : decode cX12_write 104 = .ok (.invokevirtual 965, 3) := dk_182 (by decide +kernel)
theorem dX12_write_107 : decode cX12_write 107 = .ok (.aload_n 0, 1) := dk_42 (by decide +kernel)
theorem dX12_write_108 : decode cX12_write 108 = .ok (.aload_n 0, 1) := dk_42 (by decide +kernel)
theorem dX12_write_109 : decode cX12_write 109 = .ok (.getfield 194, 3) := dk_180 (by decide +kernel)
theorem dX12_write_112 : decode cX12_write 112 = .ok (.iload_n 1, 1) := dk_27 (by decide +kernel)
theorem dX12_write_113 : decode cX12_write 113 = .ok (.iaload, 1) := dk_46 (by decide +kernel)
theorem dX12_write_114 : decode cX12_write 114 = .ok (.invokevirtual 955, 3) := dk_182 (by decide +kernel)
theorem dX12_write_117 : decode cX12_write 117 = .ok (.aload_n 0, 1) := dk_42 (by decide +kernel)
theorem dX12_write_118 : decode cX12_write 118 = .ok (.invokevirtual 968, 3) := dk_182 (by decide +kernel)
theorem dX12_write_121 : decode cX12_write 121 = .ok (.iinc 1 1, 3) := dk_132 (by decide +kernel)
theorem dX12_write_124 : decode cX12_write 124 = .ok (.goto (-92), 3) := dk_167 (by decide +kernel)
theorem dX12_write_127 : decode cX12_write 127 = .ok (.iconst 0, 1) := dk_3 (by decide +kernel)
theorem dX12_write_128 : decode cX12_write 128 = .ok (.istore_n 1, 1) := dk_60 (by decide +kernel)
theorem dX12_write_129 : decode cX12_write 129 = .ok (.iload_n 1, 1) := dk_27 (by decide +kernel)
theorem dX12_write_130 : decode cX12_write 130 = .ok (.aload_n 0, 1) := dk_42 (by decide +kernel)
theorem dX12_write_131 : decode cX12_write 131 = .ok (.getfield 786, 3) := dk_180 (by decide +kernel)
theorem dX12_write_134 : decode cX12_write 134 = .ok (.if_icmp .ge 89, 3) := dk_162 (by decide +kernel)
theorem dX12_write_137 : decode cX12_write 137 = .ok (.aload_n 0, 1) := dk_42 (by decide +kernel)
theorem dX12_write_138 : decode cX12_write 138 = .ok (.bipush 20, 2) := dk_16 (by decide +kernel)
theorem dX12_write_140 : decode cX12_write 140 = .ok (.bipush 25, 2) := dk_16 (by decide +kernel)
theorem dX12_write_142 : decode cX12_write 142 = .ok (.invokevirtual 965, 3) := dk_182 (by decide +kernel)
theorem dX12_write_145 : decode cX12_write 145 = .ok (.aload_n 0, 1) := dk_42 (by decide +kernel)
theorem dX12_write_146 : decode cX12_write 146 = .ok (.iload_n 1, 1) := dk_27 (by decide +kernel)
theorem dX12_write_147 : decode cX12_write 147 = .ok (.invokevirtual 955, 3) := dk_182 (by decide +kernel)
theorem dX12_write_150 : decode cX12_write 150 = .ok (.aload_n 0, 1) := dk_42 (by decide +kernel)
theorem dX12_write_151 : decode cX12_write 151 = .ok (.bipush 32, 2) := dk_16 (by decide +kernel)
theorem dX12_write_153 : decode cX12_write 153 = .ok (.invokevirtual 936, 3) := dk_182 (by decide +kernel)
theorem dX12_write_156 : decode cX12_write 156 = .ok (.aload_n 0, 1) := dk_42 (by decide +kernel)
theorem dX12_write_157 : decode cX12_write 157 = .ok (.bipush 26, 2) := dk_16 (by decide +kernel)
theorem dX12_write_159 : decode cX12_write 159 = .ok (.bipush 28, 2) := dk_16 (by decide +kernel)
theorem dX12_write_161 : decode cX12_write 161 = .ok (.invokevirtual 965, 3) := dk_182 (by decide +kernel)
theorem dX12_write_164 : decode cX12_write 164 = .ok (.iconst 0, 1) := dk_3 (by decide +kernel)
theorem dX12_write_165 : decode cX12_write 165 = .ok (.istore_n 2, 1) := dk_61 (by decide +kernel)
theorem dX12_write_166 : decode cX12_write 166 = .ok (.iload_n 2, 1) := dk_28 (by decide +kernel)
theorem dX12_write_167 : decode cX12_write 167 = .ok (.aload_n 0, 1) := dk_42 (by decide +kernel)
theorem dX12_write_168 : decode cX12_write 168 = .ok (.getfield 200, 3) := dk_180 (by decide +kernel)
theorem dX12_write_171 : decode cX12_write 171 = .ok (.iload_n 1, 1) := dk_27 (by decide +kernel)
theorem dX12_write_172 : decode cX12_write 172 = .ok (.iaload, 1) := dk_46 (by decide +kernel)
theorem dX12_write_173 : decode cX12_write 173 = .ok (.if_icmp .ge 40, 3) := dk_162 (by decide +kernel)
theorem dX12_write_176 : decode cX12_write 176 = .ok (.iload_n 2, 1) := dk_28 (by decide +kernel)
theorem dX12_write_177 : decode cX12_write 177 = .ok (.ifCond .le 9, 3) := dk_158 (by decide +kernel)
theorem dX12_write_180 : decode cX12_write 180 = .ok (.aload_n 0, 1) := dk_42 (by decide +kernel)
theorem dX12_write_181 : decode cX12_write 181 = .ok (.bipush 32, 2) := dk_16 (by decide +kernel)
theorem dX12_write_183 : decode cX12_write 183 = .ok (.invokevirtual 936, 3) := dk_182 (by decide +kernel)
theorem dX12_write_186 : decode cX12_write 186 = .ok (.iload_n 2, 1) := dk_28 (by decide +kernel)
theorem dX12_write_187 : decode cX12_write 187 = .ok (.ifCond .le 11, 3) := dk_158 (by decide +kernel)
theorem dX12_write_190 : decode cX12_write 190 = .ok (.aload_n 0, 1) := dk_42 (by decide +kernel)
theorem dX12_write_191 : decode cX12_write 191 = .ok (.bipush 28, 2) := dk_16 (by decide +kernel)
theorem dX12_write_193 : decode cX12_write 193 = .ok (.bipush 31, 2) := dk_16 (by decide +kernel)
theorem dX12_write_195 : decode cX12_write 195 = .ok (.invokevirtual 965, 3) := dk_182 (by decide +kernel)
theorem dX12_write_198 : decode cX12_write 198 = .ok (.aload_n 0, 1) := dk_42 (by decide +kernel)
theorem dX12_write_199 : decode cX12_write 199 = .ok (.iconst 3, 1) := dk_6 (by decide +kernel)
theorem dX12_write_200 : decode cX12_write 200 = .ok (.iload_n 1, 1) := dk_27 (by decide +kernel)
theorem dX12_write_201 : decode cX12_write 201 = .ok (.imul, 1) := dk_104 (by decide +kernel)
theorem dX12_write_202 : decode cX12_write 202 = .ok (.iload_n 2, 1) := dk_28 (by decide +kernel)
theorem dX12_write_203 : decode cX12_write 203 = .ok (.iadd, 1) := dk_96 (by decide +kernel)
theorem dX12_write_204 : decode cX12_write 204 = .ok (.invokevirtual 971, 3) := dk_182 (by decide +kernel)
theorem dX12_write_207 : decode cX12_write 207 = .ok (.iinc 2 1, 3) := dk_132 (by decide +kernel)
theorem dX12_write_210 : decode cX12_write 210 = .ok (.goto (-44), 3) := dk_167 (by decide +kernel)
theorem dX12_write_213 : decode cX12_write 213 = .ok (.aload_n 0, 1) := dk_42 (by decide +kernel)
theorem dX12_write_214 : decode cX12_write 214 = .ok (.invokevirtual 968, 3) := dk_182 (by decide +kernel)
theorem dX12_write_217 : decode cX12_write 217 = .ok (.iinc 1 1, 3) := dk_132 (by decide +kernel)
theorem dX12_write_220 : decode cX12_write 220 = .ok (.goto (-91), 3) := dk_167 (by decide +kernel)
theorem dX12_write_223 : decode cX12_write 223 = .ok (.iconst 0, 1) := dk_3 (by decide +kernel)
theorem dX12_write_224 : decode cX12_write 224 = .ok (.istore_n 1, 1) := dk_60 (by decide +kernel)
theorem dX12_write_225 : decode cX12_write 225 = .ok (.iload_n 1, 1) := dk_27 (by decide +kernel)
theorem dX12_write_226 : decode cX12_write 226 = .ok (.aload_n 0, 1) := dk_42 (by decide +kernel)
theorem dX12_write_227 : decode cX12_write 227 = .ok (.getfield 802, 3) := dk_180 (by decide +kernel)
theorem dX12_write_230 : decode cX12_write 230 = .ok (.if_icmp .ge 90, 3) := dk_162 (by decide +kernel)
theorem dX12_write_233 : decode cX12_write 233 = .ok (.aload_n 0, 1) := dk_42 (by decide +kernel)
theorem dX12_write_234 : decode cX12_write 234 = .ok (.bipush 39, 2) := dk_16 (by decide +kernel)
theorem dX12_write_236 : decode cX12_write 236 = .ok (.bipush 48, 2) := dk_16 (by decide +kernel)
theorem dX12_write_238 : decode cX12_write 238 = .ok (.invokevirtual 965, 3) := dk_182 (by decide +kernel)
theorem dX12_write_241 : decode cX12_write 241 = .ok (.iconst 0, 1) := dk_3 (by decide +kernel)
theorem dX12_write_242 : decode cX12_write 242 = .ok (.istore_n 2, 1) := dk_61 (by decide +kernel)
theorem dX12_write_243 : decode cX12_write 243 = .ok (.iconst 0, 1) := dk_3 (by decide +kernel)
theorem dX12_write_244 : decode cX12_write 244 = .ok (.istore_n 3, 1) := dk_62 (by decide +kernel)
theorem dX12_write_245 : decode cX12_write 245 = .ok (.iload_n 3, 1) := dk_29 (by decide +kernel)
theorem dX12_write_246 : decode cX12_write 246 = .ok (.aload_n 0, 1) := dk_42 (by decide +kernel)
theorem dX12_write_247 : decode cX12_write 247 = .ok (.getfield 774, 3) := dk_180 (by decide +kernel)
theorem dX12_write_250 : decode cX12_write 250 = .ok (.if_icmp .ge 60, 3) := dk_162 (by decide +kernel)
theorem dX12_write_253 : decode cX12_write 253 = .ok (.aload_n 0, 1) := dk_42 (by decide +kernel)
theorem dX12_write_254 : decode cX12_write 254 = .ok (.getfield 209, 3) := dk_180 (by decide +kernel)
theorem dX12_write_257 : decode cX12_write 257 = .ok (.iload_n 1, 1) := dk_27 (by decide +kernel)
theorem dX12_write_258 : decode cX12_write 258 = .ok (.iaload, 1) := dk_46 (by decide +kernel)
theorem dX12_write_259 : decode cX12_write 259 = .ok (.iload_n 3, 1) := dk_29 (by decide +kernel)
theorem dX12_write_260 : decode cX12_write 260 = .ok (.ishr, 1) := dk_122 (by decide +kernel)
theorem dX12_write_261 : decode cX12_write 261 = .ok (.iconst 1, 1) := dk_4 (by decide +kernel)
theorem dX12_write_262 : decode cX12_write 262 = .ok (.iand, 1) := dk_126 (by decide +kernel)
theorem dX12_write_263 : decode cX12_write 263 = .ok (.ifCond .ne 6, 3) := dk_154 (by decide +kernel)
theorem dX12_write_266 : decode cX12_write 266 = .ok (.goto 38, 3) := dk_167 (by decide +kernel)
theorem dX12_write_269 : decode cX12_write 269 = .ok (.aload_n 0, 1) := dk_42 (by decide +kernel)
theorem dX12_write_270 : decode cX12_write 270 = .ok (.bipush 32, 2) := dk_16 (by decide +kernel)
theorem dX12_write_272 : decode cX12_write 272 = .ok (.invokevirtual 936, 3) := dk_182 (by decide +kernel)
theorem dX12_write_275 : decode cX12_write 275 = .ok (.iload_n 2, 1) := dk_28 (by decide +kernel)
theorem dX12_write_276 : decode cX12_write 276 = .ok (.ifCond .eq 15, 3) := dk_153 (by decide +kernel)
theorem dX12_write_279 : decode cX12_write 279 = .ok (.aload_n 0, 1) := dk_42 (by decide +kernel)
theorem dX12_write_280 : decode cX12_write 280 = .ok (.bipush 44, 2) := dk_16 (by decide +kernel)
theorem dX12_write_282 : decode cX12_write 282 = .ok (.invokevirtual 936, 3) := dk_182 (by decide +kernel)
theorem dX12_write_285 : decode cX12_write 285 = .ok (.aload_n 0, 1) := dk_42 (by decide +kernel)
theorem dX12_write_286 : decode cX12_write 286 = .ok (.bipush 32, 2) := dk_16 (by decide +kernel)
theorem dX12_write_288 : decode cX12_write 288 = .ok (.invokevirtual 936, 3) := dk_182 (by decide +kernel)
theorem dX12_write_291 : decode cX12_write 291 = .ok (.aload_n 0, 1) := dk_42 (by decide +kernel)
theorem dX12_write_292 : decode cX12_write 292 = .ok (.bipush 120, 2) := dk_16 (by decide +kernel)
theorem dX12_write_294 : decode cX12_write 294 = .ok (.invokevirtual 936, 3) := dk_182 (by decide +kernel)
theorem dX12_write_297 : decode cX12_write 297 = .ok (.aload_n 0, 1) := dk_42 (by decide +kernel)
theorem dX12_write_298 : decode cX12_write 298 = .ok (.iload_n 3, 1) := dk_29 (by decide +kernel)
theorem dX12_write_299 : decode cX12_write 299 = .ok (.invokevirtual 955, 3) := dk_182 (by decide +kernel)
theorem dX12_write_302 : decode cX12_write 302 = .ok (.iconst 1, 1) := dk_4 (by decide +kernel)
theorem dX12_write_303 : decode cX12_write 303 = .ok (.istore_n 2, 1) := dk_61 (by decide +kernel)
theorem dX12_write_304 : decode cX12_write 304 = .ok (.iinc 3 1, 3) := dk_132 (by decide +kernel)
theorem dX12_write_307 : decode cX12_write 307 = .ok (.goto (-62), 3) := dk_167 (by decide +kernel)
theorem dX12_write_310 : decode cX12_write 310 = .ok (.aload_n 0, 1) := dk_42 (by decide +kernel)
theorem dX12_write_311 : decode cX12_write 311 = .ok (.invokevirtual 968, 3) := dk_182 (by decide +kernel)
theorem dX12_write_314 : decode cX12_write 314 = .ok (.iinc 1 1, 3) := dk_132 (by decide +kernel)
theorem dX12_write_317 : decode cX12_write 317 = .ok (.goto (-92), 3) := dk_167 (by decide +kernel)
theorem dX12_write_320 : decode cX12_write 320 = .ok (.iconst 0, 1) := dk_3 (by decide +kernel)
theorem dX12_write_321 : decode cX12_write 321 = .ok (.istore_n 1, 1) := dk_60 (by decide +kernel)
theorem dX12_write_322 : decode cX12_write 322 = .ok (.iload_n 1, 1) := dk_27 (by decide +kernel)
theorem dX12_write_323 : decode cX12_write 323 = .ok (.aload_n 0, 1) := dk_42 (by decide +kernel)
theorem dX12_write_324 : decode cX12_write 324 = .ok (.getfield 805, 3) := dk_180 (by decide +kernel)
theorem dX12_write_327 : decode cX12_write 327 = .ok (.if_icmp .ge 18, 3) := dk_162 (by decide +kernel)
theorem dX12_write_330 : decode cX12_write 330 = .ok (.aload_n 0, 1) := dk_42 (by decide +kernel)
theorem dX12_write_331 : decode cX12_write 331 = .ok (.iload_n 1, 1) := dk_27 (by decide +kernel)
theorem dX12_write_332 : decode cX12_write 332 = .ok (.invokevirtual 974, 3) := dk_182 (by decide +kernel)
theorem dX12_write_335 : decode cX12_write 335 = .ok (.aload_n 0, 1) := dk_42 (by decide +kernel)
theorem dX12_write_336 : decode cX12_write 336 = .ok (.invokevirtual 968, 3) := dk_182 (by decide +kernel)
theorem dX12_write_339 : decode cX12_write 339 = .ok (.iinc 1 1, 3) := dk_132 (by decide +kernel)
theorem dX12_write_342 : decode cX12_write 342 = .ok (.goto (-20), 3) := dk_167 (by decide +kernel)
theorem dX12_write_345 : decode cX12_write 345 = .ok (.aload_n 0, 1) := dk_42 (by decide +kernel)
theorem dX12_write_346 : decode cX12_write 346 = .ok (.getfield 933, 3) := dk_180 (by decide +kernel)
theorem dX12_write_349 : decode cX12_write 349 = .ok (.ireturn, 1) := dk_172 (by decide +kernel)
def wsRX12_write : List Cond := .code yX12_write cX12_write 4 (some .int) :: ([.fieldLink RX12 808 "OptimaWorksModel" "isModel" "Z", .fieldLink RX12 348 "OptimaWorksModel" "thrown" "I", .fieldLink RX12 933 "OptimaWorksModel" "printed" "I", .fieldLink RX12 774 "OptimaWorksModel" "variables" "I", .fieldLink RX12 786 "OptimaWorksModel" "modelRows" "I", .fieldLink RX12 802 "OptimaWorksModel" "differents" "I", .fieldLink RX12 805 "OptimaWorksModel" "modelGoals" "I", .fieldLink RX12 209 "OptimaWorksModel" "differentSet" "[I", .fieldLink RX12 200 "OptimaWorksModel" "wayMany" "[I", .fieldLink RX12 197 "OptimaWorksModel" "whole" "[I", .fieldLink RX12 191 "OptimaWorksModel" "low" "[I", .fieldLink RX12 194 "OptimaWorksModel" "high" "[I"] ++ wsX120 ++ (wsV RX12 974 RX12 yX12_sayGoal wsRX12_sayGoal) ++ (wsV RX12 968 RX12 yX12_endLine wsRX12_endLine) ++ (wsV RX12 965 RX12 yX12_sayText wsRX12_sayText) ++ (wsV RX12 936 RX12 yX12_say wsRX12_say) ++ (wsV RX12 955 RX12 yX12_sayNumber wsRX12_sayNumber) ++ (wsV RX12 971 RX12 yX12_sayWay wsRX12_sayWay))
theorem iwsRX12_write_in12 : ∀ w ∈ wsX120, w ∈ wsRX12_write := fun _ h => List.mem_cons_of_mem _ (List.mem_append_left _ (List.mem_append_left _ (List.mem_append_left _ (List.mem_append_left _ (List.mem_append_left _ (List.mem_append_left _ (List.mem_append_right _ h)))))))
theorem gwsRX12_write_0 : GoodIn wsRX12_write (wsV RX12 974 RX12 yX12_sayGoal wsRX12_sayGoal) := goodIn_sub (fun _ h => List.mem_cons_of_mem _ (List.mem_append_left _ (List.mem_append_left _ (List.mem_append_left _ (List.mem_append_left _ (List.mem_append_left _ (List.mem_append_right _ h))))))) (gdV (by decide +kernel) gdwsRX12_sayGoal)
theorem gwsRX12_write_1 : GoodIn wsRX12_write (wsV RX12 968 RX12 yX12_endLine wsRX12_endLine) := goodIn_sub (fun _ h => List.mem_cons_of_mem _ (List.mem_append_left _ (List.mem_append_left _ (List.mem_append_left _ (List.mem_append_left _ (List.mem_append_right _ h)))))) (gdV (by decide +kernel) gdwsRX12_endLine)
theorem gwsRX12_write_2 : GoodIn wsRX12_write (wsV RX12 965 RX12 yX12_sayText wsRX12_sayText) := goodIn_sub (fun _ h => List.mem_cons_of_mem _ (List.mem_append_left _ (List.mem_append_left _ (List.mem_append_left _ (List.mem_append_right _ h))))) (gdV (by decide +kernel) gdwsRX12_sayText)
theorem gwsRX12_write_3 : GoodIn wsRX12_write (wsV RX12 936 RX12 yX12_say wsRX12_say) := goodIn_sub (fun _ h => List.mem_cons_of_mem _ (List.mem_append_left _ (List.mem_append_left _ (List.mem_append_right _ h)))) (gdV (by decide +kernel) gdwsRX12_say)
theorem gwsRX12_write_4 : GoodIn wsRX12_write (wsV RX12 955 RX12 yX12_sayNumber wsRX12_sayNumber) := goodIn_sub (fun _ h => List.mem_cons_of_mem _ (List.mem_append_left _ (List.mem_append_right _ h))) (gdV (by decide +kernel) gdwsRX12_sayNumber)
theorem gwsRX12_write_5 : GoodIn wsRX12_write (wsV RX12 971 RX12 yX12_sayWay wsRX12_sayWay) := goodIn_sub (fun _ h => List.mem_cons_of_mem _ (List.mem_append_right _ h)) (gdV (by decide +kernel) gdwsRX12_sayWay)
theorem gdwsRX12_write : wsRX12_write.all goodWord = true := gdC rfl (gdA (gdA (gdA (gdA (gdA (gdA (gdA (by decide +kernel : ([.fieldLink RX12 808 "OptimaWorksModel" "isModel" "Z", .fieldLink RX12 348 "OptimaWorksModel" "thrown" "I", .fieldLink RX12 933 "OptimaWorksModel" "printed" "I", .fieldLink RX12 774 "OptimaWorksModel" "variables" "I", .fieldLink RX12 786 "OptimaWorksModel" "modelRows" "I", .fieldLink RX12 802 "OptimaWorksModel" "differents" "I", .fieldLink RX12 805 "OptimaWorksModel" "modelGoals" "I", .fieldLink RX12 209 "OptimaWorksModel" "differentSet" "[I", .fieldLink RX12 200 "OptimaWorksModel" "wayMany" "[I", .fieldLink RX12 197 "OptimaWorksModel" "whole" "[I", .fieldLink RX12 191 "OptimaWorksModel" "low" "[I", .fieldLink RX12 194 "OptimaWorksModel" "high" "[I"] : List Cond).all goodWord = true) gdwsX120) (gdV (by decide +kernel) gdwsRX12_sayGoal)) (gdV (by decide +kernel) gdwsRX12_endLine)) (gdV (by decide +kernel) gdwsRX12_sayText)) (gdV (by decide +kernel) gdwsRX12_say)) (gdV (by decide +kernel) gdwsRX12_sayNumber)) (gdV (by decide +kernel) gdwsRX12_sayWay))
set_option maxHeartbeats 4000000 in
set_option maxRecDepth 100000 in
/-- write() -/
theorem r_X12_write (l : Launch) (dC : Nat → ClassId) (dI : Nat → Nat → Nat) (a : Nat → Nat) (k : Nat → ClassId) (h0 : Nat) (vi : Nat → Int32) (vj : Nat → Int64) (vF : Nat → Nat → Int32) (vG : Nat → Nat → Int64) (vn : Nat) (mr : Nat) (gq : Nat) (dn : Nat) (pn : Nat) (hpn : vi 125 = nI pn) (hpn2 : pn ≤ 30000) (hvn : vi 90 = nI vn) (hvn8 : vn ≤ 8) (hmr : vi 91 = nI mr) (hmr12 : mr ≤ 12) (hmg : vi 93 = nI gq) (hgq : gq ≤ 3) (hdn : vi 92 = nI dn) (hdn8 : dn ≤ 8) (hM : MdlB vF gq) (hwm : WmO (vF 59) mr) (sz : Nat) : Met l yX12_write wsRX12_write ({ frames := 7, cells := 0, slots := 0, locals := 152 }) (va_Pc [.ref h0] (fun U => U.heap.size = sz ∧ va_P (dC, dI) vwCl (WR a k h0 vi vj vF vG) U.heap ∧ va_K (dC, dI) vwCl (tX12 k) U ∧ va_D (fun _ => True) (WR a k h0 vi vj vF vG) ∧ StrA (va_A (WR a k h0 vi vj vF vG) sz) U U.heap)) (va_Qi (fun (r : Int32) (u : (Int32) × (Nat) × (Nat → Int32)) => ((u.2.1) ≤ 30000)) (fun (u : (Int32) × (Nat) × (Nat → Int32)) t => va_P (dC, dI) vwCl (WR a k h0 (fT (fT vi 0 (u.1)) 125 (nI (u.2.1))) vj (fT vF 75 (u.2.2)) vG) t.heap ∧ va_D (va_A (WR a k h0 vi vj vF vG) sz) (WR a k h0 (fT (fT vi 0 (u.1)) 125 (nI (u.2.1))) vj (fT vF 75 (u.2.2)) vG)) (va_A (WR a k h0 vi vj vF vG) sz)) 0 0 (va_A (WR a k h0 vi vj vF vG) sz) := by
  refine Met.ofW (cc := cX12_write) (maxL := 4) (ret := (some .int)) (by decide) rfl ?_
  intro p e s m args below meth c s₁ B hml hv
  obtain ⟨rfl, hsz, hP, hK, hD0, hE⟩ := hv
  have hx := B.exec
  have hb := B.bytes
  have hr := B.returns
  have hts := atoms_spec (ws := wsRX12_write) B.pre
  have hown : s.vm.findClass RX12 = some m.cls := findClass_of_methodNamed B.named
  have hlocks := B.notSynchronized
  subst hsz
  have hD := hD0.self (sz := s.heap.size)
  generalize hAe : va_A (WR a k h0 vi vj vF vG) s.heap.size = A at hD hE ⊢
  have hA : ∀ q : Nat, s.heap.size ≤ q → A q := fun q h => by rw [← hAe]; exact Or.inr h
  have hS : va_S A s.heap s.heap [] := va_S.rf
  have hl := lv_entry ([.ref h0]) (n := 4) (Nat.le_of_ble_eq_true rfl)
  rw [lg_entry_eq]
  generalize (lg_sl ([.ref h0]) ++ List.replicate (4 - (lg_sl ([.ref h0])).length) Slot.unset).toArray = ls at hl ⊢
  have hl : lv_has ls 4 [(0, .ref h0)] := hl
  refine lv_aload_n hx hb dX12_write_0 rfl (lv_at hl 0 rfl) ?_
  refine lv_aload_n hx hb dX12_write_1 rfl (lv_at hl 0 rfl) ?_
  refine va_get (D := (dC, dI)) (ci := 12) (v := .int (vi 95)) (C := RX12) (T := TX12) (N := 163) (fs := fM (vS a vi vj)) hx hb hts iwsRX12_write_in12 hown hK hP 0 rfl rfl 95 (by decide) (hts (.fieldLink RX12 808 "OptimaWorksModel" "isModel" "Z") (by decide +kernel)) (fun _ h9 => h9) rfl dX12_write_2 ?_
  refine lv_if_eq (tgt := 12) hx hb dX12_write_5 (by decide) (fun c_5 => ?_) (fun c_5 => ?_)
  · have t_5 : ((vi 95)).toInt = 0 := toI_eq c_5 rfl (by decide)
    refine lv_iconst (v := 1) hx hb dX12_write_12 (by decide) ?_
    refine va_put (D := (dC, dI)) (ci := 12) (v := .int 1) (ty := .int) (C := RX12) (T := TX12) (N := 163) (fs := fM (vS a vi vj)) hx hb hts iwsRX12_write_in12 tyX12 tyX12_ok nmX12 hown hK hP hD hS 0 rfl rfl 0 (by decide) (hts (.fieldLink RX12 348 "OptimaWorksModel" "thrown" "I") (by decide +kernel)) (fun _ h9 => h9) rfl (by decide +kernel) rfl rfl (Nat.le_of_ble_eq_true rfl) dX12_write_13 (fun H locs hP hD hS => ?_)
    have hP : va_P (dC, dI) vwCl (WR a k h0 (fT vi 0 1) vj vF vG) H := by rw [← WR_i 0 _ rfl]; exact hP
    have hD : va_D A (WR a k h0 (fT vi 0 1) vj vF vG) := by rw [← WR_i 0 _ rfl]; exact hD
    refine lv_aload_n hx hb dX12_write_16 rfl (lv_at hl 0 rfl) ?_
    refine va_get (D := (dC, dI)) (ci := 12) (v := .int 1) (C := RX12) (T := TX12) (N := 163) (fs := fM (vS a (fT vi 0 1) vj)) hx hb hts iwsRX12_write_in12 hown hK hP 0 rfl rfl 0 (by decide) (hts (.fieldLink RX12 348 "OptimaWorksModel" "thrown" "I") (by decide +kernel)) (fun _ h9 => h9) rfl dX12_write_17 ?_
    refine lv_if_le (tgt := 25) hx hb dX12_write_20 (by decide) (fun c9 => absurd c9 (by decide)) (fun _ => ?_)
    refine lv_iconst (v := 0) hx hb dX12_write_23 (by decide) ?_
    refine W.widen (k := 0) (n := 0) (by decide +kernel) (by decide +kernel) ?_
    have e9 : fT (fT vi 0 1) 125 (nI pn) = fT vi 0 1 := by funext q9; by_cases h9_0 : q9 = 0; (subst h9_0; exact ((fT_ne _ _ (Nat.ne_of_beq_eq_false rfl)).trans (fT_eq _ _ _)).trans (Eq.trans (by first | with_reducible rfl | with_reducible assumption | (symm; with_reducible assumption) | rfl | assumption | (symm; assumption) | (subst_vars; rfl)) (fT_eq _ _ _).symm)); by_cases h9_125 : q9 = 125; (subst h9_125; exact (fT_eq _ _ _).trans (Eq.trans (by first | with_reducible rfl | with_reducible assumption | (symm; with_reducible assumption) | rfl | assumption | (symm; assumption) | (subst_vars; rfl)) (fT_ne _ _ (Nat.ne_of_beq_eq_false rfl)).symm)); exact ((fT_ne _ _ h9_125).trans (fT_ne _ _ h9_0)).trans (fT_ne _ _ h9_0).symm
    have hP : va_P (dC, dI) vwCl (WR a k h0 (fT (fT vi 0 1) 125 (nI pn)) vj vF vG) H := by rw [e9]; exact hP
    have hD : va_D A (WR a k h0 (fT (fT vi 0 1) 125 (nI pn)) vj vF vG) := by rw [e9]; exact hD
    clear e9
    have e9 : fT vF 75 (vF 75) = vF := fT_id _ _ (rfl)
    have hP : va_P (dC, dI) vwCl (WR a k h0 (fT (fT vi 0 1) 125 (nI pn)) vj (fT vF 75 (vF 75)) vG) H := by rw [e9]; exact hP
    have hD : va_D A (WR a k h0 (fT (fT vi 0 1) 125 (nI pn)) vj (fT vF 75 (vF 75)) vG) := by rw [e9]; exact hD
    clear e9
    exact W.iret (v := 0) hx hb hr (fun t9_ ht hW => ⟨⟨0, (1, pn, (vF 75)), rfl, by (try dsimp only); first | assumption | omega, by rw [ht]; exact hP, hD⟩, hS.F ht⟩) hS.2.2 dX12_write_24
  · have t_5 : ¬ ((vi 95)).toInt = 0 := toI_neq c_5 rfl (by decide)
    refine lv_iconst (v := 0) hx hb dX12_write_8 (by decide) ?_
    refine lv_goto (tgt := 13) hx hb dX12_write_9 (by decide) ?_
    refine va_put (D := (dC, dI)) (ci := 12) (v := .int 0) (ty := .int) (C := RX12) (T := TX12) (N := 163) (fs := fM (vS a vi vj)) hx hb hts iwsRX12_write_in12 tyX12 tyX12_ok nmX12 hown hK hP hD hS 0 rfl rfl 0 (by decide) (hts (.fieldLink RX12 348 "OptimaWorksModel" "thrown" "I") (by decide +kernel)) (fun _ h9 => h9) rfl (by decide +kernel) rfl rfl (Nat.le_of_ble_eq_true rfl) dX12_write_13 (fun H locs hP hD hS => ?_)
    have hP : va_P (dC, dI) vwCl (WR a k h0 (fT vi 0 0) vj vF vG) H := by rw [← WR_i 0 _ rfl]; exact hP
    have hD : va_D A (WR a k h0 (fT vi 0 0) vj vF vG) := by rw [← WR_i 0 _ rfl]; exact hD
    refine lv_aload_n hx hb dX12_write_16 rfl (lv_at hl 0 rfl) ?_
    refine va_get (D := (dC, dI)) (ci := 12) (v := .int 0) (C := RX12) (T := TX12) (N := 163) (fs := fM (vS a (fT vi 0 0) vj)) hx hb hts iwsRX12_write_in12 hown hK hP 0 rfl rfl 0 (by decide) (hts (.fieldLink RX12 348 "OptimaWorksModel" "thrown" "I") (by decide +kernel)) (fun _ h9 => h9) rfl dX12_write_17 ?_
    refine lv_if_le (tgt := 25) hx hb dX12_write_20 (by decide) (fun _ => ?_) (fun c9 => absurd (by decide) c9)
    refine lv_aload_n hx hb dX12_write_25 rfl (lv_at hl 0 rfl) ?_
    refine lv_iconst (v := 0) hx hb dX12_write_26 (by decide) ?_
    refine va_put (D := (dC, dI)) (ci := 12) (v := .int 0) (ty := .int) (C := RX12) (T := TX12) (N := 163) (fs := fM (vS a (fT vi 0 0) vj)) hx hb hts iwsRX12_write_in12 tyX12 tyX12_ok nmX12 hown hK hP hD hS 0 rfl rfl 125 (by decide) (hts (.fieldLink RX12 933 "OptimaWorksModel" "printed" "I") (by decide +kernel)) (fun _ h9 => h9) rfl (by decide +kernel) rfl rfl (Nat.le_of_ble_eq_true rfl) dX12_write_27 (fun H locs hP hD hS => ?_)
    have hP : va_P (dC, dI) vwCl (WR a k h0 (fT (fT vi 0 0) 125 0) vj vF vG) H := by rw [← WR_i 125 _ rfl]; exact hP
    have hD : va_D A (WR a k h0 (fT (fT vi 0 0) 125 0) vj vF vG) := by rw [← WR_i 125 _ rfl]; exact hD
    refine lv_iconst (v := 0) hx hb dX12_write_30 (by decide) ?_
    refine lv_istore_n hx hb dX12_write_31 rfl hl (by decide) rfl (fun ls (hl : lv_has ls _ ([(1, .int 0), (0, .ref h0)])) => ?_)
    have e9 : fT (fT vi 0 0) 125 (nI 0) = fT (fT vi 0 0) 125 0 := by funext q9; by_cases h9_0 : q9 = 0; (subst h9_0; exact ((fT_ne _ _ (Nat.ne_of_beq_eq_false rfl)).trans (fT_eq _ _ _)).trans (Eq.trans (by first | with_reducible rfl | with_reducible assumption | (symm; with_reducible assumption) | rfl | assumption | (symm; assumption) | (subst_vars; rfl)) ((fT_ne _ _ (Nat.ne_of_beq_eq_false rfl)).trans (fT_eq _ _ _)).symm)); by_cases h9_125 : q9 = 125; (subst h9_125; exact (fT_eq _ _ _).trans (Eq.trans (by first | with_reducible rfl | with_reducible assumption | (symm; with_reducible assumption) | rfl | assumption | (symm; assumption) | (subst_vars; rfl)) (fT_eq _ _ _).symm)); exact ((fT_ne _ _ h9_125).trans (fT_ne _ _ h9_0)).trans ((fT_ne _ _ h9_125).trans (fT_ne _ _ h9_0)).symm
    have hP : va_P (dC, dI) vwCl (WR a k h0 (fT (fT vi 0 0) 125 (nI 0)) vj vF vG) H := by rw [e9]; exact hP
    have hD : va_D A (WR a k h0 (fT (fT vi 0 0) 125 (nI 0)) vj vF vG) := by rw [e9]; exact hD
    clear e9
    have e9 : fT vF 75 (vF 75) = vF := by funext q9; by_cases h9_75 : q9 = 75; (subst h9_75; exact (fT_eq _ _ _).trans (Eq.trans (by first | with_reducible rfl | with_reducible assumption | (symm; with_reducible assumption) | rfl | assumption | (symm; assumption) | (subst_vars; rfl)) (Eq.refl _).symm)); exact (fT_ne _ _ h9_75).trans (Eq.refl _).symm
    have hP : va_P (dC, dI) vwCl (WR a k h0 (fT (fT vi 0 0) 125 (nI 0)) vj (fT vF 75 (vF 75)) vG) H := by rw [e9]; exact hP
    have hD : va_D A (WR a k h0 (fT (fT vi 0 0) 125 (nI 0)) vj (fT vF 75 (vF 75)) vG) := by rw [e9]; exact hD
    clear e9
    have hl : lv_has _ _ ([(0, .ref h0), (1, .int (nI 0))]) := lv_sub hl [1, 0] rfl
    refine (fun (loop : ∀ (n9 : Nat) (k5 : Nat) (x31_i125 : Nat) (x31_F75 : Nat → Int32) (H : Heap) (locs : List Loc) (ls : Array Slot), (k5 ≤ vn) → (x31_i125 ≤ 30000) →  (vn < k5 + n9) → va_P (dC, dI) vwCl (WR a k h0 (fT (fT vi 0 0) 125 (nI x31_i125)) vj (fT vF 75 x31_F75) vG) H → va_D A (WR a k h0 (fT (fT vi 0 0) 125 (nI x31_i125)) vj (fT vF 75 x31_F75) vG) → va_S A s.heap H locs → lv_has ls 4 [(0, .ref h0), (1, .int (nI k5))] → W p l e _ s m _ below meth c H locs 0 0 _ (F0 m 32 ls [])) => loop (vn + 1) 0 0 (vF 75) _ _ _ (by omega) (by first | with_reducible assumption | omega | assumption) (by omega) hP hD hS hl) ?_
    intro n9
    induction n9 with
    | zero => intro k5 x31_i125 x31_F75 H locs ls hk5 hx31_i125 hf9; exact False.elim (by omega)
    | succ n9 ih32 =>
      intro k5 x31_i125 x31_F75 H locs ls hk5 hx31_i125 hf32 hP hD hS hl
      refine lv_iload_n hx hb dX12_write_32 rfl (lv_at hl 1 rfl) ?_
      refine lv_aload_n hx hb dX12_write_33 rfl (lv_at hl 0 rfl) ?_
      refine va_get (D := (dC, dI)) (ci := 12) (v := .int (vi 90)) (C := RX12) (T := TX12) (N := 163) (fs := fM (vS a (fT (fT vi 0 0) 125 (nI x31_i125)) vj)) hx hb hts iwsRX12_write_in12 hown hK hP 0 rfl rfl 90 (by decide) (hts (.fieldLink RX12 774 "OptimaWorksModel" "variables" "I") (by decide +kernel)) (fun _ h9 => h9) rfl dX12_write_34 ?_
      refine lv_topi (fun y1 hy1 => ?_)
      obtain rfl : (nI vn) = y1 := (hy1.trans (hvn)).symm
      refine lv_icmp_ge (tgt := 127) hx hb dX12_write_37 (by decide) (fun c_37 => ?_) (fun c_37 => ?_)
      · have t_37 : ((k5 : Nat) : Int) ≥ ((vn : Nat) : Int) := toI_ge c_37 (nI_toInt (by omega)) (nI_toInt (by omega))
        refine lv_iconst (v := 0) hx hb dX12_write_127 (by decide) ?_
        refine lv_istore_n hx hb dX12_write_128 rfl hl (by decide) rfl (fun ls (hl : lv_has ls _ ([(1, .int 0), (0, .ref h0)])) => ?_)
        have hl : lv_has _ _ ([(0, .ref h0), (1, .int (nI 0))]) := lv_sub hl [1, 0] rfl
        refine (fun (loop : ∀ (n9 : Nat) (r5 : Nat) (x46_i125 : Nat) (x46_F75 : Nat → Int32) (H : Heap) (locs : List Loc) (ls : Array Slot), (r5 ≤ mr) → (x46_i125 ≤ 30000) →  (mr < r5 + n9) → va_P (dC, dI) vwCl (WR a k h0 (fT (fT vi 0 0) 125 (nI x46_i125)) vj (fT vF 75 x46_F75) vG) H → va_D A (WR a k h0 (fT (fT vi 0 0) 125 (nI x46_i125)) vj (fT vF 75 x46_F75) vG) → va_S A s.heap H locs → lv_has ls 4 [(0, .ref h0), (1, .int (nI r5))] → W p l e _ s m _ below meth c H locs 0 0 _ (F0 m 129 ls [])) => loop (mr + 1) 0 x31_i125 x31_F75 _ _ _ (by omega) (by first | with_reducible assumption | omega | assumption) (by omega) hP hD hS hl) ?_
        intro n9
        induction n9 with
        | zero => intro r5 x46_i125 x46_F75 H locs ls hr5 hx46_i125 hf9; exact False.elim (by omega)
        | succ n9 ih129_1 =>
          intro r5 x46_i125 x46_F75 H locs ls hr5 hx46_i125 hf129_1 hP hD hS hl
          refine lv_iload_n hx hb dX12_write_129 rfl (lv_at hl 1 rfl) ?_
          refine lv_aload_n hx hb dX12_write_130 rfl (lv_at hl 0 rfl) ?_
          refine va_get (D := (dC, dI)) (ci := 12) (v := .int (vi 91)) (C := RX12) (T := TX12) (N := 163) (fs := fM (vS a (fT (fT vi 0 0) 125 (nI x46_i125)) vj)) hx hb hts iwsRX12_write_in12 hown hK hP 0 rfl rfl 91 (by decide) (hts (.fieldLink RX12 786 "OptimaWorksModel" "modelRows" "I") (by decide +kernel)) (fun _ h9 => h9) rfl dX12_write_131 ?_
          refine lv_topi (fun y2 hy2 => ?_)
          obtain rfl : (nI mr) = y2 := (hy2.trans (hmr)).symm
          refine lv_icmp_ge (tgt := 223) hx hb dX12_write_134 (by decide) (fun c_134 => ?_) (fun c_134 => ?_)
          · have t_134 : ((r5 : Nat) : Int) ≥ ((mr : Nat) : Int) := toI_ge c_134 (nI_toInt (by omega)) (nI_toInt (by omega))
            refine lv_iconst (v := 0) hx hb dX12_write_223 (by decide) ?_
            refine lv_istore_n hx hb dX12_write_224 rfl hl (by decide) rfl (fun ls (hl : lv_has ls _ ([(1, .int 0), (0, .ref h0)])) => ?_)
            have hl : lv_has _ _ ([(0, .ref h0), (1, .int (nI 0))]) := lv_sub hl [1, 0] rfl
            refine (fun (loop : ∀ (n9 : Nat) (d5 : Nat) (x51_i125 : Nat) (x51_F75 : Nat → Int32) (H : Heap) (locs : List Loc) (ls : Array Slot), (d5 ≤ dn) → (x51_i125 ≤ 30000) →  (dn < d5 + n9) → va_P (dC, dI) vwCl (WR a k h0 (fT (fT vi 0 0) 125 (nI x51_i125)) vj (fT vF 75 x51_F75) vG) H → va_D A (WR a k h0 (fT (fT vi 0 0) 125 (nI x51_i125)) vj (fT vF 75 x51_F75) vG) → va_S A s.heap H locs → lv_has ls 4 [(0, .ref h0), (1, .int (nI d5))] → W p l e _ s m _ below meth c H locs 0 0 _ (F0 m 225 ls [])) => loop (dn + 1) 0 x46_i125 x46_F75 _ _ _ (by omega) (by first | with_reducible assumption | omega | assumption) (by omega) hP hD hS hl) ?_
            intro n9
            induction n9 with
            | zero => intro d5 x51_i125 x51_F75 H locs ls hd5 hx51_i125 hf9; exact False.elim (by omega)
            | succ n9 ih225_2 =>
              intro d5 x51_i125 x51_F75 H locs ls hd5 hx51_i125 hf225_2 hP hD hS hl
              refine lv_iload_n hx hb dX12_write_225 rfl (lv_at hl 1 rfl) ?_
              refine lv_aload_n hx hb dX12_write_226 rfl (lv_at hl 0 rfl) ?_
              refine va_get (D := (dC, dI)) (ci := 12) (v := .int (vi 92)) (C := RX12) (T := TX12) (N := 163) (fs := fM (vS a (fT (fT vi 0 0) 125 (nI x51_i125)) vj)) hx hb hts iwsRX12_write_in12 hown hK hP 0 rfl rfl 92 (by decide) (hts (.fieldLink RX12 802 "OptimaWorksModel" "differents" "I") (by decide +kernel)) (fun _ h9 => h9) rfl dX12_write_227 ?_
              refine lv_topi (fun y3 hy3 => ?_)
              obtain rfl : (nI dn) = y3 := (hy3.trans (hdn)).symm
              refine lv_icmp_ge (tgt := 320) hx hb dX12_write_230 (by decide) (fun c_230 => ?_) (fun c_230 => ?_)
              · have t_230 : ((d5 : Nat) : Int) ≥ ((dn : Nat) : Int) := toI_ge c_230 (nI_toInt (by omega)) (nI_toInt (by omega))
                refine lv_iconst (v := 0) hx hb dX12_write_320 (by decide) ?_
                refine lv_istore_n hx hb dX12_write_321 rfl hl (by decide) rfl (fun ls (hl : lv_has ls _ ([(1, .int 0), (0, .ref h0)])) => ?_)
                have hl : lv_has _ _ ([(0, .ref h0), (1, .int (nI 0))]) := lv_sub hl [1, 0] rfl
                refine (fun (loop : ∀ (n9 : Nat) (g5 : Nat) (x52_i125 : Nat) (x52_F75 : Nat → Int32) (H : Heap) (locs : List Loc) (ls : Array Slot), (g5 ≤ gq) → (x52_i125 ≤ 30000) →  (gq < g5 + n9) → va_P (dC, dI) vwCl (WR a k h0 (fT (fT vi 0 0) 125 (nI x52_i125)) vj (fT vF 75 x52_F75) vG) H → va_D A (WR a k h0 (fT (fT vi 0 0) 125 (nI x52_i125)) vj (fT vF 75 x52_F75) vG) → va_S A s.heap H locs → lv_has ls 4 [(0, .ref h0), (1, .int (nI g5))] → W p l e _ s m _ below meth c H locs 0 0 _ (F0 m 322 ls [])) => loop (gq + 1) 0 x51_i125 x51_F75 _ _ _ (by omega) (by first | with_reducible assumption | omega | assumption) (by omega) hP hD hS hl) ?_
                intro n9
                induction n9 with
                | zero => intro g5 x52_i125 x52_F75 H locs ls hg5 hx52_i125 hf9; exact False.elim (by omega)
                | succ n9 ih322_3 =>
                  intro g5 x52_i125 x52_F75 H locs ls hg5 hx52_i125 hf322_3 hP hD hS hl
                  refine lv_iload_n hx hb dX12_write_322 rfl (lv_at hl 1 rfl) ?_
                  refine lv_aload_n hx hb dX12_write_323 rfl (lv_at hl 0 rfl) ?_
                  refine va_get (D := (dC, dI)) (ci := 12) (v := .int (vi 93)) (C := RX12) (T := TX12) (N := 163) (fs := fM (vS a (fT (fT vi 0 0) 125 (nI x52_i125)) vj)) hx hb hts iwsRX12_write_in12 hown hK hP 0 rfl rfl 93 (by decide) (hts (.fieldLink RX12 805 "OptimaWorksModel" "modelGoals" "I") (by decide +kernel)) (fun _ h9 => h9) rfl dX12_write_324 ?_
                  refine lv_topi (fun y4 hy4 => ?_)
                  obtain rfl : (nI gq) = y4 := (hy4.trans (hmg)).symm
                  refine lv_icmp_ge (tgt := 345) hx hb dX12_write_327 (by decide) (fun c_327 => ?_) (fun c_327 => ?_)
                  · have t_327 : ((g5 : Nat) : Int) ≥ ((gq : Nat) : Int) := toI_ge c_327 (nI_toInt (by omega)) (nI_toInt (by omega))
                    refine lv_aload_n hx hb dX12_write_345 rfl (lv_at hl 0 rfl) ?_
                    refine va_get (D := (dC, dI)) (ci := 12) (v := .int (nI x52_i125)) (C := RX12) (T := TX12) (N := 163) (fs := fM (vS a (fT (fT vi 0 0) 125 (nI x52_i125)) vj)) hx hb hts iwsRX12_write_in12 hown hK hP 0 rfl rfl 125 (by decide) (hts (.fieldLink RX12 933 "OptimaWorksModel" "printed" "I") (by decide +kernel)) (fun _ h9 => h9) rfl dX12_write_346 ?_
                    refine W.widen (k := 0) (n := 0) (by decide +kernel) (by decide +kernel) ?_
                    exact W.iret (v := (nI x52_i125)) hx hb hr (fun t9_ ht hW => ⟨⟨(nI x52_i125), (0, x52_i125, x52_F75), rfl, by (try dsimp only); first | assumption | omega, by rw [ht]; exact hP, hD⟩, hS.F ht⟩) hS.2.2 dX12_write_349
                  · have t_327 : ¬ ((g5 : Nat) : Int) ≥ ((gq : Nat) : Int) := toI_nge c_327 (nI_toInt (by omega)) (nI_toInt (by omega))
                    refine lv_aload_n hx hb dX12_write_330 rfl (lv_at hl 0 rfl) ?_
                    refine lv_iload_n hx hb dX12_write_331 rfl (lv_at hl 1 rfl) ?_
                    have hFc := allFree hD hS hA
                    refine va_callv (va_runV (As := [.int (nI g5)]) (rest := []) ⟨hx, hb, hml, hown, hts⟩ (r_X12_sayGoal l dC dI a k h0 (fT (fT vi 0 0) 125 (nI x52_i125)) vj (fT vF 75 x52_F75) vG g5 vn gq x52_i125 rfl (by first | with_reducible assumption | decide | omega | rfl | assumption) hvn (by first | with_reducible assumption | decide | omega | rfl | assumption) (by first | with_reducible assumption | decide | omega | rfl | assumption) (by first | with_reducible assumption | decide | omega | rfl | assumption) (by first | with_reducible assumption | decide | omega | rfl | assumption) H.size) (cwV 1 hts gwsRX12_write_0 rfl rfl rfl hd_yX12_sayGoal_RX12 (by decide +kernel)) (fz_preE (va_recv hK hP (ci := 12) (q0 := 0) rfl rfl) hP hK hD (fun a U g mk qE => qE.same rfl) (fun U hU9 hW => by rw [hU9]; exact (((hE : StrA A s s.heap).kept hS.2.1).narrow (fun q h => hFc q h)).warm hW)) rfl rfl hl.1 rfl (lv_room (Nat.le_of_ble_eq_true rfl)) dX12_write_332 (by decide +kernel)) hS (fun q _ h => hFc q h) hFc (fun u t9_ H locs ht hvm hw9 hB9 hz1 hk1 hS => ?_)
                    revert u hw9 hB9
                    refine fz_p2 ?_
                    intro p2332 f75332 hw9 hB9
                    try dsimp only at hw9 hB9
                    have hP : va_P (dC, dI) vwCl (WR a k h0 (fT (fT (fT vi 0 0) 125 (nI x52_i125)) 125 (nI p2332)) vj (fT (fT vF 75 x52_F75) 75 f75332) vG) H := fz_P ht hB9.1
                    have hD : va_D A (WR a k h0 (fT (fT (fT vi 0 0) 125 (nI x52_i125)) 125 (nI p2332)) vj (fT (fT vF 75 x52_F75) 75 f75332) vG) := hB9.2.weaken (fun _ q _ h => hFc q.1 h)
                    have e9 : fT (fT vi 0 0) 125 (nI p2332) = fT (fT (fT vi 0 0) 125 (nI x52_i125)) 125 (nI p2332) := (fT_sm _ _ _ _).symm
                    rw [← e9] at hP hD
                    clear e9
                    have e9 : fT vF 75 f75332 = fT (fT vF 75 x52_F75) 75 f75332 := (fT_sm _ _ _ _).symm
                    rw [← e9] at hP hD
                    clear e9
                    have hP : va_P (dC, dI) vwCl (WR a k h0 (fT (fT vi 0 0) 125 (nI p2332)) vj (fT vF 75 f75332) vG) H := hP
                    have hD : va_D A (WR a k h0 (fT (fT vi 0 0) 125 (nI p2332)) vj (fT vF 75 f75332) vG) := hD
                    have f332_0 := hw9
                    try dsimp only at f332_0
                    refine lv_aload_n hx hb dX12_write_335 rfl (lv_at hl 0 rfl) ?_
                    have hFc := allFree hD hS hA
                    refine va_callv (va_runV (As := []) (rest := []) ⟨hx, hb, hml, hown, hts⟩ (r_X12_endLine l dC dI a k h0 (fT (fT vi 0 0) 125 (nI p2332)) vj (fT vF 75 f75332) vG p2332 rfl (by first | with_reducible assumption | decide | omega | rfl | assumption) H.size) (cwV 0 hts gwsRX12_write_1 rfl rfl rfl hd_yX12_endLine_RX12 (by decide +kernel)) (fz_pre (va_recv hK hP (ci := 12) (q0 := 0) rfl rfl) hP hK hD) rfl rfl hl.1 rfl (lv_room (Nat.le_of_ble_eq_true rfl)) dX12_write_336 (by decide +kernel)) hS (fun q _ h => hFc q h) hFc (fun u t9_ H locs ht hvm hw9 hB9 hz1 hk1 hS => ?_)
                    revert u hw9 hB9
                    refine fz_p2 ?_
                    intro p2336 f75336 hw9 hB9
                    try dsimp only at hw9 hB9
                    have hP : va_P (dC, dI) vwCl (WR a k h0 (fT (fT (fT vi 0 0) 125 (nI p2332)) 125 (nI p2336)) vj (fT (fT vF 75 f75332) 75 f75336) vG) H := fz_P ht hB9.1
                    have hD : va_D A (WR a k h0 (fT (fT (fT vi 0 0) 125 (nI p2332)) 125 (nI p2336)) vj (fT (fT vF 75 f75332) 75 f75336) vG) := hB9.2.weaken (fun _ q _ h => hFc q.1 h)
                    have e9 : fT (fT vi 0 0) 125 (nI p2336) = fT (fT (fT vi 0 0) 125 (nI p2332)) 125 (nI p2336) := (fT_sm _ _ _ _).symm
                    rw [← e9] at hP hD
                    clear e9
                    have e9 : fT vF 75 f75336 = fT (fT vF 75 f75332) 75 f75336 := (fT_sm _ _ _ _).symm
                    rw [← e9] at hP hD
                    clear e9
                    have hP : va_P (dC, dI) vwCl (WR a k h0 (fT (fT vi 0 0) 125 (nI p2336)) vj (fT vF 75 f75336) vG) H := hP
                    have hD : va_D A (WR a k h0 (fT (fT vi 0 0) 125 (nI p2336)) vj (fT vF 75 f75336) vG) := hD
                    have f336_0 := hw9
                    try dsimp only at f336_0
                    refine lv_iinc (v := (nI (g5 + 1))) hx hb dX12_write_339 hl (k := 1) rfl (nI_add g5 1) (by decide) rfl (fun ls (hl : lv_has ls _ ([(1, .int (nI (g5 + 1))), (0, .ref h0)])) => ?_)
                    refine lv_goto (tgt := 322) hx hb dX12_write_342 (by decide) ?_
                    have hl : lv_has _ _ ([(0, .ref h0), (1, .int (nI (g5 + 1)))]) := lv_sub hl [1, 0] rfl
                    exact ih322_3 (g5 + 1) p2336 f75336 _ _ _ (by omega) (by first | with_reducible assumption | omega | assumption) (by omega) hP hD hS hl
              · have t_230 : ¬ ((d5 : Nat) : Int) ≥ ((dn : Nat) : Int) := toI_nge c_230 (nI_toInt (by omega)) (nI_toInt (by omega))
                refine lv_aload_n hx hb dX12_write_233 rfl (lv_at hl 0 rfl) ?_
                refine lv_bipush (v := 39) hx hb dX12_write_234 (by decide) ?_
                refine lv_bipush (v := 48) hx hb dX12_write_236 (by decide) ?_
                have hFc := allFree hD hS hA
                refine va_callv (va_runV (As := [.int 39, .int 48]) (rest := []) ⟨hx, hb, hml, hown, hts⟩ (r_X12_sayText l dC dI a k h0 (fT (fT vi 0 0) 125 (nI x51_i125)) vj (fT vF 75 x51_F75) vG 39 48 x51_i125 rfl (by first | with_reducible assumption | decide | omega | rfl | assumption) (by first | with_reducible assumption | decide | omega | rfl | assumption) (by first | with_reducible assumption | decide | omega | rfl | assumption) H.size) (cwV 2 hts gwsRX12_write_2 rfl rfl rfl hd_yX12_sayText_RX12 (by decide +kernel)) (fz_preE (va_recv hK hP (ci := 12) (q0 := 0) rfl rfl) hP hK hD (fun a U g mk qE => qE.same rfl) (fun U hU9 hW => by rw [hU9]; exact (((hE : StrA A s s.heap).kept hS.2.1).narrow (fun q h => hFc q h)).warm hW)) rfl rfl hl.1 rfl (lv_room (Nat.le_of_ble_eq_true rfl)) dX12_write_238 (by decide +kernel)) hS (fun q _ h => hFc q h) hFc (fun u t9_ H locs ht hvm hw9 hB9 hz1 hk1 hS => ?_)
                revert u hw9 hB9
                refine fz_p2 ?_
                intro p2238 f75238 hw9 hB9
                try dsimp only at hw9 hB9
                have hP : va_P (dC, dI) vwCl (WR a k h0 (fT (fT (fT vi 0 0) 125 (nI x51_i125)) 125 (nI p2238)) vj (fT (fT vF 75 x51_F75) 75 f75238) vG) H := fz_P ht hB9.1
                have hD : va_D A (WR a k h0 (fT (fT (fT vi 0 0) 125 (nI x51_i125)) 125 (nI p2238)) vj (fT (fT vF 75 x51_F75) 75 f75238) vG) := hB9.2.weaken (fun _ q _ h => hFc q.1 h)
                have e9 : fT (fT vi 0 0) 125 (nI p2238) = fT (fT (fT vi 0 0) 125 (nI x51_i125)) 125 (nI p2238) := (fT_sm _ _ _ _).symm
                rw [← e9] at hP hD
                clear e9
                have e9 : fT vF 75 f75238 = fT (fT vF 75 x51_F75) 75 f75238 := (fT_sm _ _ _ _).symm
                rw [← e9] at hP hD
                clear e9
                have hP : va_P (dC, dI) vwCl (WR a k h0 (fT (fT vi 0 0) 125 (nI p2238)) vj (fT vF 75 f75238) vG) H := hP
                have hD : va_D A (WR a k h0 (fT (fT vi 0 0) 125 (nI p2238)) vj (fT vF 75 f75238) vG) := hD
                have f238_0 := hw9
                try dsimp only at f238_0
                refine lv_iconst (v := 0) hx hb dX12_write_241 (by decide) ?_
                refine lv_istore_n hx hb dX12_write_242 rfl hl (by decide) rfl (fun ls (hl : lv_has ls _ ([(2, .int 0), (0, .ref h0), (1, .int (nI d5))])) => ?_)
                refine lv_iconst (v := 0) hx hb dX12_write_243 (by decide) ?_
                refine lv_istore_n hx hb dX12_write_244 rfl hl (by decide) rfl (fun ls (hl : lv_has ls _ ([(3, .int 0), (2, .int 0), (0, .ref h0), (1, .int (nI d5))])) => ?_)
                have hl : lv_has _ _ ([(0, .ref h0), (1, .int (nI d5)), (2, .int 0), (3, .int (nI 0))]) := lv_sub hl [2, 3, 1, 0] rfl
                refine (fun (loop : ∀ (n9 : Nat) (k6 : Nat) (so : Int32) (x54_i125 : Nat) (x54_F75 : Nat → Int32) (H : Heap) (locs : List Loc) (ls : Array Slot), (k6 ≤ vn) → (x54_i125 ≤ 30000) →  (vn < k6 + n9) → va_P (dC, dI) vwCl (WR a k h0 (fT (fT vi 0 0) 125 (nI x54_i125)) vj (fT vF 75 x54_F75) vG) H → va_D A (WR a k h0 (fT (fT vi 0 0) 125 (nI x54_i125)) vj (fT vF 75 x54_F75) vG) → va_S A s.heap H locs → lv_has ls 4 [(0, .ref h0), (1, .int (nI d5)), (2, .int so), (3, .int (nI k6))] → W p l e _ s m _ below meth c H locs 0 0 _ (F0 m 245 ls [])) => loop (vn + 1) 0 0 p2238 f75238 _ _ _ (by omega) (by first | with_reducible assumption | omega | assumption) (by omega) hP hD hS hl) ?_
                intro n9
                induction n9 with
                | zero => intro k6 so x54_i125 x54_F75 H locs ls hk6 hx54_i125 hf9; exact False.elim (by omega)
                | succ n9 ih245_4 =>
                  intro k6 so x54_i125 x54_F75 H locs ls hk6 hx54_i125 hf245_4 hP hD hS hl
                  refine lv_iload_n hx hb dX12_write_245 rfl (lv_at hl 3 rfl) ?_
                  refine lv_aload_n hx hb dX12_write_246 rfl (lv_at hl 0 rfl) ?_
                  refine va_get (D := (dC, dI)) (ci := 12) (v := .int (vi 90)) (C := RX12) (T := TX12) (N := 163) (fs := fM (vS a (fT (fT vi 0 0) 125 (nI x54_i125)) vj)) hx hb hts iwsRX12_write_in12 hown hK hP 0 rfl rfl 90 (by decide) (hts (.fieldLink RX12 774 "OptimaWorksModel" "variables" "I") (by decide +kernel)) (fun _ h9 => h9) rfl dX12_write_247 ?_
                  refine lv_topi (fun y5 hy5 => ?_)
                  obtain rfl : (nI vn) = y5 := (hy5.trans (hvn)).symm
                  refine lv_icmp_ge (tgt := 310) hx hb dX12_write_250 (by decide) (fun c_250 => ?_) (fun c_250 => ?_)
                  · have t_250 : ((k6 : Nat) : Int) ≥ ((vn : Nat) : Int) := toI_ge c_250 (nI_toInt (by omega)) (nI_toInt (by omega))
                    refine lv_aload_n hx hb dX12_write_310 rfl (lv_at hl 0 rfl) ?_
                    have hFc := allFree hD hS hA
                    refine va_callv (va_runV (As := []) (rest := []) ⟨hx, hb, hml, hown, hts⟩ (r_X12_endLine l dC dI a k h0 (fT (fT vi 0 0) 125 (nI x54_i125)) vj (fT vF 75 x54_F75) vG x54_i125 rfl (by first | with_reducible assumption | decide | omega | rfl | assumption) H.size) (cwV 0 hts gwsRX12_write_1 rfl rfl rfl hd_yX12_endLine_RX12 (by decide +kernel)) (fz_pre (va_recv hK hP (ci := 12) (q0 := 0) rfl rfl) hP hK hD) rfl rfl hl.1 rfl (lv_room (Nat.le_of_ble_eq_true rfl)) dX12_write_311 (by decide +kernel)) hS (fun q _ h => hFc q h) hFc (fun u t9_ H locs ht hvm hw9 hB9 hz1 hk1 hS => ?_)
                    revert u hw9 hB9
                    refine fz_p2 ?_
                    intro p2311 f75311 hw9 hB9
                    try dsimp only at hw9 hB9
                    have hP : va_P (dC, dI) vwCl (WR a k h0 (fT (fT (fT vi 0 0) 125 (nI x54_i125)) 125 (nI p2311)) vj (fT (fT vF 75 x54_F75) 75 f75311) vG) H := fz_P ht hB9.1
                    have hD : va_D A (WR a k h0 (fT (fT (fT vi 0 0) 125 (nI x54_i125)) 125 (nI p2311)) vj (fT (fT vF 75 x54_F75) 75 f75311) vG) := hB9.2.weaken (fun _ q _ h => hFc q.1 h)
                    have e9 : fT (fT vi 0 0) 125 (nI p2311) = fT (fT (fT vi 0 0) 125 (nI x54_i125)) 125 (nI p2311) := (fT_sm _ _ _ _).symm
                    rw [← e9] at hP hD
                    clear e9
                    have e9 : fT vF 75 f75311 = fT (fT vF 75 x54_F75) 75 f75311 := (fT_sm _ _ _ _).symm
                    rw [← e9] at hP hD
                    clear e9
                    have hP : va_P (dC, dI) vwCl (WR a k h0 (fT (fT vi 0 0) 125 (nI p2311)) vj (fT vF 75 f75311) vG) H := hP
                    have hD : va_D A (WR a k h0 (fT (fT vi 0 0) 125 (nI p2311)) vj (fT vF 75 f75311) vG) := hD
                    have f311_0 := hw9
                    try dsimp only at f311_0
                    refine lv_iinc (v := (nI (d5 + 1))) hx hb dX12_write_314 hl (k := 1) rfl (nI_add d5 1) (by decide) rfl (fun ls (hl : lv_has ls _ ([(1, .int (nI (d5 + 1))), (0, .ref h0), (2, .int so), (3, .int (nI k6))])) => ?_)
                    refine lv_goto (tgt := 225) hx hb dX12_write_317 (by decide) ?_
                    have hl : lv_has _ _ ([(0, .ref h0), (1, .int (nI (d5 + 1)))]) := lv_sub hl [1, 0] rfl
                    exact ih225_2 (d5 + 1) p2311 f75311 _ _ _ (by omega) (by first | with_reducible assumption | omega | assumption) (by omega) hP hD hS hl
                  · have t_250 : ¬ ((k6 : Nat) : Int) ≥ ((vn : Nat) : Int) := toI_nge c_250 (nI_toInt (by omega)) (nI_toInt (by omega))
                    refine lv_aload_n hx hb dX12_write_253 rfl (lv_at hl 0 rfl) ?_
                    refine va_get (D := (dC, dI)) (ci := 12) (v := .ref (a 62)) (C := RX12) (T := TX12) (N := 163) (fs := fM (vS a (fT (fT vi 0 0) 125 (nI x54_i125)) vj)) hx hb hts iwsRX12_write_in12 hown hK hP 0 rfl rfl 102 (by decide) (hts (.fieldLink RX12 209 "OptimaWorksModel" "differentSet" "[I") (by decide +kernel)) (fun _ h9 => h9) rfl dX12_write_254 ?_
                    refine lv_iload_n hx hb dX12_write_257 rfl (lv_at hl 1 rfl) ?_
                    refine va_iald (cA := k 62) (n := 9) (f := (vF 62)) hx hb hK hP 63 62 (WR_get 62 (by decide)) (TR_get 62 (by decide)) (vp_in_nI (show d5 < 9 by omega) (by omega)) dX12_write_258 ?_
                    refine lv_topi (fun y6 hy6 => ?_)
                    obtain rfl : ((vF 62) d5) = y6 := (hy6.trans (by rw [nI_clamp (by omega)])).symm
                    refine lv_iload_n hx hb dX12_write_259 rfl (lv_at hl 3 rfl) ?_
                    refine lv_ishr hx hb dX12_write_260 ?_
                    refine lv_iconst (v := 1) hx hb dX12_write_261 (by decide) ?_
                    refine lv_iand hx hb dX12_write_262 ?_
                    refine lv_if_ne (tgt := 269) hx hb dX12_write_263 (by decide) (fun c_263 => ?_) (fun c_263 => ?_)
                    · have t_263 : (((((vF 62) d5) >>> ((nI k6) &&& 31)) &&& 1)).toInt ≠ 0 := toI_ne c_263 rfl (by decide)
                      refine lv_aload_n hx hb dX12_write_269 rfl (lv_at hl 0 rfl) ?_
                      refine lv_bipush (v := 32) hx hb dX12_write_270 (by decide) ?_
                      have hFc := allFree hD hS hA
                      refine va_callv (va_runV (As := [.int 32]) (rest := []) ⟨hx, hb, hml, hown, hts⟩ (r_X12_say l dC dI a k h0 (fT (fT vi 0 0) 125 (nI x54_i125)) vj (fT vF 75 x54_F75) vG 32 x54_i125 rfl (by first | with_reducible assumption | decide | omega | rfl | assumption) H.size) (cwV 1 hts gwsRX12_write_3 rfl rfl rfl hd_yX12_say_RX12 (by decide +kernel)) (fz_pre (va_recv hK hP (ci := 12) (q0 := 0) rfl rfl) hP hK hD) rfl rfl hl.1 rfl (lv_room (Nat.le_of_ble_eq_true rfl)) dX12_write_272 (by decide +kernel)) hS (fun q _ h => hFc q h) hFc (fun u t9_ H locs ht hvm hw9 hB9 hz1 hk1 hS => ?_)
                      revert u hw9 hB9
                      refine fz_p2 ?_
                      intro p2272 f75272 hw9 hB9
                      try dsimp only at hw9 hB9
                      have hP : va_P (dC, dI) vwCl (WR a k h0 (fT (fT (fT vi 0 0) 125 (nI x54_i125)) 125 (nI p2272)) vj (fT (fT vF 75 x54_F75) 75 f75272) vG) H := fz_P ht hB9.1
                      have hD : va_D A (WR a k h0 (fT (fT (fT vi 0 0) 125 (nI x54_i125)) 125 (nI p2272)) vj (fT (fT vF 75 x54_F75) 75 f75272) vG) := hB9.2.weaken (fun _ q _ h => hFc q.1 h)
                      have e9 : fT (fT vi 0 0) 125 (nI p2272) = fT (fT (fT vi 0 0) 125 (nI x54_i125)) 125 (nI p2272) := (fT_sm _ _ _ _).symm
                      rw [← e9] at hP hD
                      clear e9
                      have e9 : fT vF 75 f75272 = fT (fT vF 75 x54_F75) 75 f75272 := (fT_sm _ _ _ _).symm
                      rw [← e9] at hP hD
                      clear e9
                      have hP : va_P (dC, dI) vwCl (WR a k h0 (fT (fT vi 0 0) 125 (nI p2272)) vj (fT vF 75 f75272) vG) H := hP
                      have hD : va_D A (WR a k h0 (fT (fT vi 0 0) 125 (nI p2272)) vj (fT vF 75 f75272) vG) := hD
                      revert hw9
                      refine fz_a3 ?_
                      intro f272_0 f272_1 f272_2
                      refine lv_iload_n hx hb dX12_write_275 rfl (lv_at hl 2 rfl) ?_
                      refine W.cut (pc := 291) (fun H locs ls stk => ∃ (j55_i125 : Nat) (j55_F75 : Nat → Int32), (j55_i125 ≤ 30000) ∧  stk = [] ∧ va_P (dC, dI) vwCl (WR a k h0 (fT (fT vi 0 0) 125 (nI j55_i125)) vj (fT vF 75 j55_F75) vG) H ∧ va_D A (WR a k h0 (fT (fT vi 0 0) 125 (nI j55_i125)) vj (fT vF 75 j55_F75) vG) ∧ va_S A s.heap H locs ∧ lv_has ls 4 [(0, .ref h0), (1, .int (nI d5)), (2, .int so), (3, .int (nI k6))]) (fun join1 => ?_) ?_
                      · refine lv_if_eq (tgt := 291) hx hb dX12_write_276 (by decide) (fun c_276 => ?_) (fun c_276 => ?_)
                        · have t_276 : (so).toInt = 0 := toI_eq c_276 rfl (by decide)
                          have hl : lv_has _ _ ([(0, .ref h0), (1, .int (nI d5)), (2, .int so), (3, .int (nI k6))]) := lv_sub hl [0, 1, 2, 3] rfl
                          exact join1 _ _ _ _ ⟨p2272, f75272, by first | assumption | omega, rfl, hP, hD, hS, hl⟩
                        · have t_276 : ¬ (so).toInt = 0 := toI_neq c_276 rfl (by decide)
                          refine lv_aload_n hx hb dX12_write_279 rfl (lv_at hl 0 rfl) ?_
                          refine lv_bipush (v := 44) hx hb dX12_write_280 (by decide) ?_
                          have hFc := allFree hD hS hA
                          refine va_callv (va_runV (As := [.int 44]) (rest := []) ⟨hx, hb, hml, hown, hts⟩ (r_X12_say l dC dI a k h0 (fT (fT vi 0 0) 125 (nI p2272)) vj (fT vF 75 f75272) vG 44 p2272 rfl (by first | with_reducible assumption | decide | omega | rfl | assumption) H.size) (cwV 1 hts gwsRX12_write_3 rfl rfl rfl hd_yX12_say_RX12 (by decide +kernel)) (fz_pre (va_recv hK hP (ci := 12) (q0 := 0) rfl rfl) hP hK hD) rfl rfl hl.1 rfl (lv_room (Nat.le_of_ble_eq_true rfl)) dX12_write_282 (by decide +kernel)) hS (fun q _ h => hFc q h) hFc (fun u t9_ H locs ht hvm hw9 hB9 hz1 hk1 hS => ?_)
                          revert u hw9 hB9
                          refine fz_p2 ?_
                          intro p2282 f75282 hw9 hB9
                          try dsimp only at hw9 hB9
                          have hP : va_P (dC, dI) vwCl (WR a k h0 (fT (fT (fT vi 0 0) 125 (nI p2272)) 125 (nI p2282)) vj (fT (fT vF 75 f75272) 75 f75282) vG) H := fz_P ht hB9.1
                          have hD : va_D A (WR a k h0 (fT (fT (fT vi 0 0) 125 (nI p2272)) 125 (nI p2282)) vj (fT (fT vF 75 f75272) 75 f75282) vG) := hB9.2.weaken (fun _ q _ h => hFc q.1 h)
                          have e9 : fT (fT vi 0 0) 125 (nI p2282) = fT (fT (fT vi 0 0) 125 (nI p2272)) 125 (nI p2282) := (fT_sm _ _ _ _).symm
                          rw [← e9] at hP hD
                          clear e9
                          have e9 : fT vF 75 f75282 = fT (fT vF 75 f75272) 75 f75282 := (fT_sm _ _ _ _).symm
                          rw [← e9] at hP hD
                          clear e9
                          have hP : va_P (dC, dI) vwCl (WR a k h0 (fT (fT vi 0 0) 125 (nI p2282)) vj (fT vF 75 f75282) vG) H := hP
                          have hD : va_D A (WR a k h0 (fT (fT vi 0 0) 125 (nI p2282)) vj (fT vF 75 f75282) vG) := hD
                          revert hw9
                          refine fz_a3 ?_
                          intro f282_0 f282_1 f282_2
                          refine lv_aload_n hx hb dX12_write_285 rfl (lv_at hl 0 rfl) ?_
                          refine lv_bipush (v := 32) hx hb dX12_write_286 (by decide) ?_
                          have hFc := allFree hD hS hA
                          refine va_callv (va_runV (As := [.int 32]) (rest := []) ⟨hx, hb, hml, hown, hts⟩ (r_X12_say l dC dI a k h0 (fT (fT vi 0 0) 125 (nI p2282)) vj (fT vF 75 f75282) vG 32 p2282 rfl (by first | with_reducible assumption | decide | omega | rfl | assumption) H.size) (cwV 1 hts gwsRX12_write_3 rfl rfl rfl hd_yX12_say_RX12 (by decide +kernel)) (fz_pre (va_recv hK hP (ci := 12) (q0 := 0) rfl rfl) hP hK hD) rfl rfl hl.1 rfl (lv_room (Nat.le_of_ble_eq_true rfl)) dX12_write_288 (by decide +kernel)) hS (fun q _ h => hFc q h) hFc (fun u t9_ H locs ht hvm hw9 hB9 hz1 hk1 hS => ?_)
                          revert u hw9 hB9
                          refine fz_p2 ?_
                          intro p2288 f75288 hw9 hB9
                          try dsimp only at hw9 hB9
                          have hP : va_P (dC, dI) vwCl (WR a k h0 (fT (fT (fT vi 0 0) 125 (nI p2282)) 125 (nI p2288)) vj (fT (fT vF 75 f75282) 75 f75288) vG) H := fz_P ht hB9.1
                          have hD : va_D A (WR a k h0 (fT (fT (fT vi 0 0) 125 (nI p2282)) 125 (nI p2288)) vj (fT (fT vF 75 f75282) 75 f75288) vG) := hB9.2.weaken (fun _ q _ h => hFc q.1 h)
                          have e9 : fT (fT vi 0 0) 125 (nI p2288) = fT (fT (fT vi 0 0) 125 (nI p2282)) 125 (nI p2288) := (fT_sm _ _ _ _).symm
                          rw [← e9] at hP hD
                          clear e9
                          have e9 : fT vF 75 f75288 = fT (fT vF 75 f75282) 75 f75288 := (fT_sm _ _ _ _).symm
                          rw [← e9] at hP hD
                          clear e9
                          have hP : va_P (dC, dI) vwCl (WR a k h0 (fT (fT vi 0 0) 125 (nI p2288)) vj (fT vF 75 f75288) vG) H := hP
                          have hD : va_D A (WR a k h0 (fT (fT vi 0 0) 125 (nI p2288)) vj (fT vF 75 f75288) vG) := hD
                          revert hw9
                          refine fz_a3 ?_
                          intro f288_0 f288_1 f288_2
                          have hl : lv_has _ _ ([(0, .ref h0), (1, .int (nI d5)), (2, .int so), (3, .int (nI k6))]) := lv_sub hl [0, 1, 2, 3] rfl
                          exact join1 _ _ _ _ ⟨p2288, f75288, by first | assumption | omega, rfl, hP, hD, hS, hl⟩
                      · rintro H locs ls stk ⟨j55_i125, j55_F75, hj55_i125, rfl, hP, hD, hS, hl⟩
                        refine lv_aload_n hx hb dX12_write_291 rfl (lv_at hl 0 rfl) ?_
                        refine lv_bipush (v := 120) hx hb dX12_write_292 (by decide) ?_
                        have hFc := allFree hD hS hA
                        refine va_callv (va_runV (As := [.int 120]) (rest := []) ⟨hx, hb, hml, hown, hts⟩ (r_X12_say l dC dI a k h0 (fT (fT vi 0 0) 125 (nI j55_i125)) vj (fT vF 75 j55_F75) vG 120 j55_i125 rfl (by first | with_reducible assumption | decide | omega | rfl | assumption) H.size) (cwV 1 hts gwsRX12_write_3 rfl rfl rfl hd_yX12_say_RX12 (by decide +kernel)) (fz_pre (va_recv hK hP (ci := 12) (q0 := 0) rfl rfl) hP hK hD) rfl rfl hl.1 rfl (lv_room (Nat.le_of_ble_eq_true rfl)) dX12_write_294 (by decide +kernel)) hS (fun q _ h => hFc q h) hFc (fun u t9_ H locs ht hvm hw9 hB9 hz1 hk1 hS => ?_)
                        revert u hw9 hB9
                        refine fz_p2 ?_
                        intro p2294 f75294 hw9 hB9
                        try dsimp only at hw9 hB9
                        have hP : va_P (dC, dI) vwCl (WR a k h0 (fT (fT (fT vi 0 0) 125 (nI j55_i125)) 125 (nI p2294)) vj (fT (fT vF 75 j55_F75) 75 f75294) vG) H := fz_P ht hB9.1
                        have hD : va_D A (WR a k h0 (fT (fT (fT vi 0 0) 125 (nI j55_i125)) 125 (nI p2294)) vj (fT (fT vF 75 j55_F75) 75 f75294) vG) := hB9.2.weaken (fun _ q _ h => hFc q.1 h)
                        have e9 : fT (fT vi 0 0) 125 (nI p2294) = fT (fT (fT vi 0 0) 125 (nI j55_i125)) 125 (nI p2294) := (fT_sm _ _ _ _).symm
                        rw [← e9] at hP hD
                        clear e9
                        have e9 : fT vF 75 f75294 = fT (fT vF 75 j55_F75) 75 f75294 := (fT_sm _ _ _ _).symm
                        rw [← e9] at hP hD
                        clear e9
                        have hP : va_P (dC, dI) vwCl (WR a k h0 (fT (fT vi 0 0) 125 (nI p2294)) vj (fT vF 75 f75294) vG) H := hP
                        have hD : va_D A (WR a k h0 (fT (fT vi 0 0) 125 (nI p2294)) vj (fT vF 75 f75294) vG) := hD
                        revert hw9
                        refine fz_a3 ?_
                        intro f294_0 f294_1 f294_2
                        refine lv_aload_n hx hb dX12_write_297 rfl (lv_at hl 0 rfl) ?_
                        refine lv_iload_n hx hb dX12_write_298 rfl (lv_at hl 3 rfl) ?_
                        have hFc := allFree hD hS hA
                        refine va_callv (va_runV (As := [.int (nI k6)]) (rest := []) ⟨hx, hb, hml, hown, hts⟩ (r_X12_sayNumber l dC dI a k h0 (fT (fT vi 0 0) 125 (nI p2294)) vj (fT vF 75 f75294) vG (nI k6) p2294 rfl (by first | with_reducible assumption | decide | omega | rfl | assumption) (by rw [nI_toInt (by omega)]; omega) H.size) (cwV 1 hts gwsRX12_write_4 rfl rfl rfl hd_yX12_sayNumber_RX12 (by decide +kernel)) (fz_pre (va_recv hK hP (ci := 12) (q0 := 0) rfl rfl) hP hK hD) rfl rfl hl.1 rfl (lv_room (Nat.le_of_ble_eq_true rfl)) dX12_write_299 (by decide +kernel)) hS (fun q _ h => hFc q h) hFc (fun u t9_ H locs ht hvm hw9 hB9 hz1 hk1 hS => ?_)
                        revert u hw9 hB9
                        refine fz_p2 ?_
                        intro p2299 f75299 hw9 hB9
                        try dsimp only at hw9 hB9
                        have hP : va_P (dC, dI) vwCl (WR a k h0 (fT (fT (fT vi 0 0) 125 (nI p2294)) 125 (nI p2299)) vj (fT (fT vF 75 f75294) 75 f75299) vG) H := fz_P ht hB9.1
                        have hD : va_D A (WR a k h0 (fT (fT (fT vi 0 0) 125 (nI p2294)) 125 (nI p2299)) vj (fT (fT vF 75 f75294) 75 f75299) vG) := hB9.2.weaken (fun _ q _ h => hFc q.1 h)
                        have e9 : fT (fT vi 0 0) 125 (nI p2299) = fT (fT (fT vi 0 0) 125 (nI p2294)) 125 (nI p2299) := (fT_sm _ _ _ _).symm
                        rw [← e9] at hP hD
                        clear e9
                        have e9 : fT vF 75 f75299 = fT (fT vF 75 f75294) 75 f75299 := (fT_sm _ _ _ _).symm
                        rw [← e9] at hP hD
                        clear e9
                        have hP : va_P (dC, dI) vwCl (WR a k h0 (fT (fT vi 0 0) 125 (nI p2299)) vj (fT vF 75 f75299) vG) H := hP
                        have hD : va_D A (WR a k h0 (fT (fT vi 0 0) 125 (nI p2299)) vj (fT vF 75 f75299) vG) := hD
                        have f299_0 := hw9
                        try dsimp only at f299_0
                        refine lv_iconst (v := 1) hx hb dX12_write_302 (by decide) ?_
                        refine lv_istore_n hx hb dX12_write_303 rfl hl (by decide) rfl (fun ls (hl : lv_has ls _ ([(2, .int 1), (0, .ref h0), (1, .int (nI d5)), (3, .int (nI k6))])) => ?_)
                        refine lv_iinc (v := (nI (k6 + 1))) hx hb dX12_write_304 hl (k := 3) rfl (nI_add k6 1) (by decide) rfl (fun ls (hl : lv_has ls _ ([(3, .int (nI (k6 + 1))), (2, .int 1), (0, .ref h0), (1, .int (nI d5))])) => ?_)
                        refine lv_goto (tgt := 245) hx hb dX12_write_307 (by decide) ?_
                        have hl : lv_has _ _ ([(0, .ref h0), (1, .int (nI d5)), (2, .int 1), (3, .int (nI (k6 + 1)))]) := lv_sub hl [2, 3, 1, 0] rfl
                        exact ih245_4 (k6 + 1) 1 p2299 f75299 _ _ _ (by omega) (by first | with_reducible assumption | omega | assumption) (by omega) hP hD hS hl
                    · have t_263 : (((((vF 62) d5) >>> ((nI k6) &&& 31)) &&& 1)).toInt = 0 := toI_nne c_263 rfl (by decide)
                      refine lv_goto (tgt := 304) hx hb dX12_write_266 (by decide) ?_
                      refine lv_iinc (v := (nI (k6 + 1))) hx hb dX12_write_304 hl (k := 3) rfl (nI_add k6 1) (by decide) rfl (fun ls (hl : lv_has ls _ ([(3, .int (nI (k6 + 1))), (0, .ref h0), (1, .int (nI d5)), (2, .int so)])) => ?_)
                      refine lv_goto (tgt := 245) hx hb dX12_write_307 (by decide) ?_
                      have hl : lv_has _ _ ([(0, .ref h0), (1, .int (nI d5)), (2, .int so), (3, .int (nI (k6 + 1)))]) := lv_sub hl [1, 2, 3, 0] rfl
                      exact ih245_4 (k6 + 1) so x54_i125 x54_F75 _ _ _ (by omega) (by first | with_reducible assumption | omega | assumption) (by omega) hP hD hS hl
          · have t_134 : ¬ ((r5 : Nat) : Int) ≥ ((mr : Nat) : Int) := toI_nge c_134 (nI_toInt (by omega)) (nI_toInt (by omega))
            refine lv_aload_n hx hb dX12_write_137 rfl (lv_at hl 0 rfl) ?_
            refine lv_bipush (v := 20) hx hb dX12_write_138 (by decide) ?_
            refine lv_bipush (v := 25) hx hb dX12_write_140 (by decide) ?_
            have hFc := allFree hD hS hA
            refine va_callv (va_runV (As := [.int 20, .int 25]) (rest := []) ⟨hx, hb, hml, hown, hts⟩ (r_X12_sayText l dC dI a k h0 (fT (fT vi 0 0) 125 (nI x46_i125)) vj (fT vF 75 x46_F75) vG 20 25 x46_i125 rfl (by first | with_reducible assumption | decide | omega | rfl | assumption) (by first | with_reducible assumption | decide | omega | rfl | assumption) (by first | with_reducible assumption | decide | omega | rfl | assumption) H.size) (cwV 2 hts gwsRX12_write_2 rfl rfl rfl hd_yX12_sayText_RX12 (by decide +kernel)) (fz_preE (va_recv hK hP (ci := 12) (q0 := 0) rfl rfl) hP hK hD (fun a U g mk qE => qE.same rfl) (fun U hU9 hW => by rw [hU9]; exact (((hE : StrA A s s.heap).kept hS.2.1).narrow (fun q h => hFc q h)).warm hW)) rfl rfl hl.1 rfl (lv_room (Nat.le_of_ble_eq_true rfl)) dX12_write_142 (by decide +kernel)) hS (fun q _ h => hFc q h) hFc (fun u t9_ H locs ht hvm hw9 hB9 hz1 hk1 hS => ?_)
            revert u hw9 hB9
            refine fz_p2 ?_
            intro p2142 f75142 hw9 hB9
            try dsimp only at hw9 hB9
            have hP : va_P (dC, dI) vwCl (WR a k h0 (fT (fT (fT vi 0 0) 125 (nI x46_i125)) 125 (nI p2142)) vj (fT (fT vF 75 x46_F75) 75 f75142) vG) H := fz_P ht hB9.1
            have hD : va_D A (WR a k h0 (fT (fT (fT vi 0 0) 125 (nI x46_i125)) 125 (nI p2142)) vj (fT (fT vF 75 x46_F75) 75 f75142) vG) := hB9.2.weaken (fun _ q _ h => hFc q.1 h)
            have e9 : fT (fT vi 0 0) 125 (nI p2142) = fT (fT (fT vi 0 0) 125 (nI x46_i125)) 125 (nI p2142) := (fT_sm _ _ _ _).symm
            rw [← e9] at hP hD
            clear e9
            have e9 : fT vF 75 f75142 = fT (fT vF 75 x46_F75) 75 f75142 := (fT_sm _ _ _ _).symm
            rw [← e9] at hP hD
            clear e9
            have hP : va_P (dC, dI) vwCl (WR a k h0 (fT (fT vi 0 0) 125 (nI p2142)) vj (fT vF 75 f75142) vG) H := hP
            have hD : va_D A (WR a k h0 (fT (fT vi 0 0) 125 (nI p2142)) vj (fT vF 75 f75142) vG) := hD
            have f142_0 := hw9
            try dsimp only at f142_0
            refine lv_aload_n hx hb dX12_write_145 rfl (lv_at hl 0 rfl) ?_
            refine lv_iload_n hx hb dX12_write_146 rfl (lv_at hl 1 rfl) ?_
            have hFc := allFree hD hS hA
            refine va_callv (va_runV (As := [.int (nI r5)]) (rest := []) ⟨hx, hb, hml, hown, hts⟩ (r_X12_sayNumber l dC dI a k h0 (fT (fT vi 0 0) 125 (nI p2142)) vj (fT vF 75 f75142) vG (nI r5) p2142 rfl (by first | with_reducible assumption | decide | omega | rfl | assumption) (by rw [nI_toInt (by omega)]; omega) H.size) (cwV 1 hts gwsRX12_write_4 rfl rfl rfl hd_yX12_sayNumber_RX12 (by decide +kernel)) (fz_pre (va_recv hK hP (ci := 12) (q0 := 0) rfl rfl) hP hK hD) rfl rfl hl.1 rfl (lv_room (Nat.le_of_ble_eq_true rfl)) dX12_write_147 (by decide +kernel)) hS (fun q _ h => hFc q h) hFc (fun u t9_ H locs ht hvm hw9 hB9 hz1 hk1 hS => ?_)
            revert u hw9 hB9
            refine fz_p2 ?_
            intro p2147 f75147 hw9 hB9
            try dsimp only at hw9 hB9
            have hP : va_P (dC, dI) vwCl (WR a k h0 (fT (fT (fT vi 0 0) 125 (nI p2142)) 125 (nI p2147)) vj (fT (fT vF 75 f75142) 75 f75147) vG) H := fz_P ht hB9.1
            have hD : va_D A (WR a k h0 (fT (fT (fT vi 0 0) 125 (nI p2142)) 125 (nI p2147)) vj (fT (fT vF 75 f75142) 75 f75147) vG) := hB9.2.weaken (fun _ q _ h => hFc q.1 h)
            have e9 : fT (fT vi 0 0) 125 (nI p2147) = fT (fT (fT vi 0 0) 125 (nI p2142)) 125 (nI p2147) := (fT_sm _ _ _ _).symm
            rw [← e9] at hP hD
            clear e9
            have e9 : fT vF 75 f75147 = fT (fT vF 75 f75142) 75 f75147 := (fT_sm _ _ _ _).symm
            rw [← e9] at hP hD
            clear e9
            have hP : va_P (dC, dI) vwCl (WR a k h0 (fT (fT vi 0 0) 125 (nI p2147)) vj (fT vF 75 f75147) vG) H := hP
            have hD : va_D A (WR a k h0 (fT (fT vi 0 0) 125 (nI p2147)) vj (fT vF 75 f75147) vG) := hD
            have f147_0 := hw9
            try dsimp only at f147_0
            refine lv_aload_n hx hb dX12_write_150 rfl (lv_at hl 0 rfl) ?_
            refine lv_bipush (v := 32) hx hb dX12_write_151 (by decide) ?_
            have hFc := allFree hD hS hA
            refine va_callv (va_runV (As := [.int 32]) (rest := []) ⟨hx, hb, hml, hown, hts⟩ (r_X12_say l dC dI a k h0 (fT (fT vi 0 0) 125 (nI p2147)) vj (fT vF 75 f75147) vG 32 p2147 rfl (by first | with_reducible assumption | decide | omega | rfl | assumption) H.size) (cwV 1 hts gwsRX12_write_3 rfl rfl rfl hd_yX12_say_RX12 (by decide +kernel)) (fz_pre (va_recv hK hP (ci := 12) (q0 := 0) rfl rfl) hP hK hD) rfl rfl hl.1 rfl (lv_room (Nat.le_of_ble_eq_true rfl)) dX12_write_153 (by decide +kernel)) hS (fun q _ h => hFc q h) hFc (fun u t9_ H locs ht hvm hw9 hB9 hz1 hk1 hS => ?_)
            revert u hw9 hB9
            refine fz_p2 ?_
            intro p2153 f75153 hw9 hB9
            try dsimp only at hw9 hB9
            have hP : va_P (dC, dI) vwCl (WR a k h0 (fT (fT (fT vi 0 0) 125 (nI p2147)) 125 (nI p2153)) vj (fT (fT vF 75 f75147) 75 f75153) vG) H := fz_P ht hB9.1
            have hD : va_D A (WR a k h0 (fT (fT (fT vi 0 0) 125 (nI p2147)) 125 (nI p2153)) vj (fT (fT vF 75 f75147) 75 f75153) vG) := hB9.2.weaken (fun _ q _ h => hFc q.1 h)
            have e9 : fT (fT vi 0 0) 125 (nI p2153) = fT (fT (fT vi 0 0) 125 (nI p2147)) 125 (nI p2153) := (fT_sm _ _ _ _).symm
            rw [← e9] at hP hD
            clear e9
            have e9 : fT vF 75 f75153 = fT (fT vF 75 f75147) 75 f75153 := (fT_sm _ _ _ _).symm
            rw [← e9] at hP hD
            clear e9
            have hP : va_P (dC, dI) vwCl (WR a k h0 (fT (fT vi 0 0) 125 (nI p2153)) vj (fT vF 75 f75153) vG) H := hP
            have hD : va_D A (WR a k h0 (fT (fT vi 0 0) 125 (nI p2153)) vj (fT vF 75 f75153) vG) := hD
            revert hw9
            refine fz_a3 ?_
            intro f153_0 f153_1 f153_2
            refine lv_aload_n hx hb dX12_write_156 rfl (lv_at hl 0 rfl) ?_
            refine lv_bipush (v := 26) hx hb dX12_write_157 (by decide) ?_
            refine lv_bipush (v := 28) hx hb dX12_write_159 (by decide) ?_
            have hFc := allFree hD hS hA
            refine va_callv (va_runV (As := [.int 26, .int 28]) (rest := []) ⟨hx, hb, hml, hown, hts⟩ (r_X12_sayText l dC dI a k h0 (fT (fT vi 0 0) 125 (nI p2153)) vj (fT vF 75 f75153) vG 26 28 p2153 rfl (by first | with_reducible assumption | decide | omega | rfl | assumption) (by first | with_reducible assumption | decide | omega | rfl | assumption) (by first | with_reducible assumption | decide | omega | rfl | assumption) H.size) (cwV 2 hts gwsRX12_write_2 rfl rfl rfl hd_yX12_sayText_RX12 (by decide +kernel)) (fz_preE (va_recv hK hP (ci := 12) (q0 := 0) rfl rfl) hP hK hD (fun a U g mk qE => qE.same rfl) (fun U hU9 hW => by rw [hU9]; exact (((hE : StrA A s s.heap).kept hS.2.1).narrow (fun q h => hFc q h)).warm hW)) rfl rfl hl.1 rfl (lv_room (Nat.le_of_ble_eq_true rfl)) dX12_write_161 (by decide +kernel)) hS (fun q _ h => hFc q h) hFc (fun u t9_ H locs ht hvm hw9 hB9 hz1 hk1 hS => ?_)
            revert u hw9 hB9
            refine fz_p2 ?_
            intro p2161 f75161 hw9 hB9
            try dsimp only at hw9 hB9
            have hP : va_P (dC, dI) vwCl (WR a k h0 (fT (fT (fT vi 0 0) 125 (nI p2153)) 125 (nI p2161)) vj (fT (fT vF 75 f75153) 75 f75161) vG) H := fz_P ht hB9.1
            have hD : va_D A (WR a k h0 (fT (fT (fT vi 0 0) 125 (nI p2153)) 125 (nI p2161)) vj (fT (fT vF 75 f75153) 75 f75161) vG) := hB9.2.weaken (fun _ q _ h => hFc q.1 h)
            have e9 : fT (fT vi 0 0) 125 (nI p2161) = fT (fT (fT vi 0 0) 125 (nI p2153)) 125 (nI p2161) := (fT_sm _ _ _ _).symm
            rw [← e9] at hP hD
            clear e9
            have e9 : fT vF 75 f75161 = fT (fT vF 75 f75153) 75 f75161 := (fT_sm _ _ _ _).symm
            rw [← e9] at hP hD
            clear e9
            have hP : va_P (dC, dI) vwCl (WR a k h0 (fT (fT vi 0 0) 125 (nI p2161)) vj (fT vF 75 f75161) vG) H := hP
            have hD : va_D A (WR a k h0 (fT (fT vi 0 0) 125 (nI p2161)) vj (fT vF 75 f75161) vG) := hD
            have f161_0 := hw9
            try dsimp only at f161_0
            obtain ⟨wk, ewk, hwk1, hwk3⟩ := hwm r5 (by omega)
            refine lv_iconst (v := 0) hx hb dX12_write_164 (by decide) ?_
            refine lv_istore_n hx hb dX12_write_165 rfl hl (by decide) rfl (fun ls (hl : lv_has ls _ ([(2, .int 0), (0, .ref h0), (1, .int (nI r5))])) => ?_)
            have hl : lv_has _ _ ([(0, .ref h0), (1, .int (nI r5)), (2, .int (nI 0))]) := lv_sub hl [1, 2, 0] rfl
            refine (fun (loop : ∀ (n9 : Nat) (w5 : Nat) (x58_i125 : Nat) (x58_F75 : Nat → Int32) (H : Heap) (locs : List Loc) (ls : Array Slot), (w5 ≤ wk) → (x58_i125 ≤ 30000) →  (wk < w5 + n9) → va_P (dC, dI) vwCl (WR a k h0 (fT (fT vi 0 0) 125 (nI x58_i125)) vj (fT vF 75 x58_F75) vG) H → va_D A (WR a k h0 (fT (fT vi 0 0) 125 (nI x58_i125)) vj (fT vF 75 x58_F75) vG) → va_S A s.heap H locs → lv_has ls 4 [(0, .ref h0), (1, .int (nI r5)), (2, .int (nI w5))] → W p l e _ s m _ below meth c H locs 0 0 _ (F0 m 166 ls [])) => loop (wk + 1) 0 p2161 f75161 _ _ _ (by omega) (by first | with_reducible assumption | omega | assumption) (by omega) hP hD hS hl) ?_
            intro n9
            induction n9 with
            | zero => intro w5 x58_i125 x58_F75 H locs ls hw5 hx58_i125 hf9; exact False.elim (by omega)
            | succ n9 ih166_5 =>
              intro w5 x58_i125 x58_F75 H locs ls hw5 hx58_i125 hf166_5 hP hD hS hl
              refine lv_iload_n hx hb dX12_write_166 rfl (lv_at hl 2 rfl) ?_
              refine lv_aload_n hx hb dX12_write_167 rfl (lv_at hl 0 rfl) ?_
              refine va_get (D := (dC, dI)) (ci := 12) (v := .ref (a 59)) (C := RX12) (T := TX12) (N := 163) (fs := fM (vS a (fT (fT vi 0 0) 125 (nI x58_i125)) vj)) hx hb hts iwsRX12_write_in12 hown hK hP 0 rfl rfl 99 (by decide) (hts (.fieldLink RX12 200 "OptimaWorksModel" "wayMany" "[I") (by decide +kernel)) (fun _ h9 => h9) rfl dX12_write_168 ?_
              refine lv_iload_n hx hb dX12_write_171 rfl (lv_at hl 1 rfl) ?_
              refine va_iald (cA := k 59) (n := 13) (f := (vF 59)) hx hb hK hP 60 59 (WR_get 59 (by decide)) (TR_get 59 (by decide)) (vp_in_nI (show r5 < 13 by omega) (by omega)) dX12_write_172 ?_
              refine lv_topi (fun y7 hy7 => ?_)
              obtain rfl : ((vF 59) r5) = y7 := (hy7.trans (by rw [nI_clamp (by omega)])).symm
              refine lv_topi (fun y8 hy8 => ?_)
              obtain rfl : (nI wk) = y8 := (hy8.trans (ewk)).symm
              refine lv_icmp_ge (tgt := 213) hx hb dX12_write_173 (by decide) (fun c_173 => ?_) (fun c_173 => ?_)
              · have t_173 : ((w5 : Nat) : Int) ≥ ((wk : Nat) : Int) := toI_ge c_173 (nI_toInt (by omega)) (nI_toInt (by omega))
                refine lv_aload_n hx hb dX12_write_213 rfl (lv_at hl 0 rfl) ?_
                have hFc := allFree hD hS hA
                refine va_callv (va_runV (As := []) (rest := []) ⟨hx, hb, hml, hown, hts⟩ (r_X12_endLine l dC dI a k h0 (fT (fT vi 0 0) 125 (nI x58_i125)) vj (fT vF 75 x58_F75) vG x58_i125 rfl (by first | with_reducible assumption | decide | omega | rfl | assumption) H.size) (cwV 0 hts gwsRX12_write_1 rfl rfl rfl hd_yX12_endLine_RX12 (by decide +kernel)) (fz_pre (va_recv hK hP (ci := 12) (q0 := 0) rfl rfl) hP hK hD) rfl rfl hl.1 rfl (lv_room (Nat.le_of_ble_eq_true rfl)) dX12_write_214 (by decide +kernel)) hS (fun q _ h => hFc q h) hFc (fun u t9_ H locs ht hvm hw9 hB9 hz1 hk1 hS => ?_)
                revert u hw9 hB9
                refine fz_p2 ?_
                intro p2214 f75214 hw9 hB9
                try dsimp only at hw9 hB9
                have hP : va_P (dC, dI) vwCl (WR a k h0 (fT (fT (fT vi 0 0) 125 (nI x58_i125)) 125 (nI p2214)) vj (fT (fT vF 75 x58_F75) 75 f75214) vG) H := fz_P ht hB9.1
                have hD : va_D A (WR a k h0 (fT (fT (fT vi 0 0) 125 (nI x58_i125)) 125 (nI p2214)) vj (fT (fT vF 75 x58_F75) 75 f75214) vG) := hB9.2.weaken (fun _ q _ h => hFc q.1 h)
                have e9 : fT (fT vi 0 0) 125 (nI p2214) = fT (fT (fT vi 0 0) 125 (nI x58_i125)) 125 (nI p2214) := (fT_sm _ _ _ _).symm
                rw [← e9] at hP hD
                clear e9
                have e9 : fT vF 75 f75214 = fT (fT vF 75 x58_F75) 75 f75214 := (fT_sm _ _ _ _).symm
                rw [← e9] at hP hD
                clear e9
                have hP : va_P (dC, dI) vwCl (WR a k h0 (fT (fT vi 0 0) 125 (nI p2214)) vj (fT vF 75 f75214) vG) H := hP
                have hD : va_D A (WR a k h0 (fT (fT vi 0 0) 125 (nI p2214)) vj (fT vF 75 f75214) vG) := hD
                have f214_0 := hw9
                try dsimp only at f214_0
                refine lv_iinc (v := (nI (r5 + 1))) hx hb dX12_write_217 hl (k := 1) rfl (nI_add r5 1) (by decide) rfl (fun ls (hl : lv_has ls _ ([(1, .int (nI (r5 + 1))), (0, .ref h0), (2, .int (nI w5))])) => ?_)
                refine lv_goto (tgt := 129) hx hb dX12_write_220 (by decide) ?_
                have hl : lv_has _ _ ([(0, .ref h0), (1, .int (nI (r5 + 1)))]) := lv_sub hl [1, 0] rfl
                exact ih129_1 (r5 + 1) p2214 f75214 _ _ _ (by omega) (by first | with_reducible assumption | omega | assumption) (by omega) hP hD hS hl
              · have t_173 : ¬ ((w5 : Nat) : Int) ≥ ((wk : Nat) : Int) := toI_nge c_173 (nI_toInt (by omega)) (nI_toInt (by omega))
                refine lv_iload_n hx hb dX12_write_176 rfl (lv_at hl 2 rfl) ?_
                refine W.cut (pc := 186) (fun H locs ls stk => ∃ (j59_i125 : Nat) (j59_F75 : Nat → Int32), (j59_i125 ≤ 30000) ∧  stk = [] ∧ va_P (dC, dI) vwCl (WR a k h0 (fT (fT vi 0 0) 125 (nI j59_i125)) vj (fT vF 75 j59_F75) vG) H ∧ va_D A (WR a k h0 (fT (fT vi 0 0) 125 (nI j59_i125)) vj (fT vF 75 j59_F75) vG) ∧ va_S A s.heap H locs ∧ lv_has ls 4 [(0, .ref h0), (1, .int (nI r5)), (2, .int (nI w5))]) (fun join2 => ?_) ?_
                · refine lv_if_le (tgt := 186) hx hb dX12_write_177 (by decide) (fun c_177 => ?_) (fun c_177 => ?_)
                  · have t_177 : ((w5 : Nat) : Int) ≤ 0 := toI_le c_177 (nI_toInt (by omega)) (by decide)
                    have hl : lv_has _ _ ([(0, .ref h0), (1, .int (nI r5)), (2, .int (nI w5))]) := lv_sub hl [0, 1, 2] rfl
                    exact join2 _ _ _ _ ⟨x58_i125, x58_F75, by first | assumption | omega, rfl, hP, hD, hS, hl⟩
                  · have t_177 : ¬ ((w5 : Nat) : Int) ≤ 0 := toI_nle c_177 (nI_toInt (by omega)) (by decide)
                    refine lv_aload_n hx hb dX12_write_180 rfl (lv_at hl 0 rfl) ?_
                    refine lv_bipush (v := 32) hx hb dX12_write_181 (by decide) ?_
                    have hFc := allFree hD hS hA
                    refine va_callv (va_runV (As := [.int 32]) (rest := []) ⟨hx, hb, hml, hown, hts⟩ (r_X12_say l dC dI a k h0 (fT (fT vi 0 0) 125 (nI x58_i125)) vj (fT vF 75 x58_F75) vG 32 x58_i125 rfl (by first | with_reducible assumption | decide | omega | rfl | assumption) H.size) (cwV 1 hts gwsRX12_write_3 rfl rfl rfl hd_yX12_say_RX12 (by decide +kernel)) (fz_pre (va_recv hK hP (ci := 12) (q0 := 0) rfl rfl) hP hK hD) rfl rfl hl.1 rfl (lv_room (Nat.le_of_ble_eq_true rfl)) dX12_write_183 (by decide +kernel)) hS (fun q _ h => hFc q h) hFc (fun u t9_ H locs ht hvm hw9 hB9 hz1 hk1 hS => ?_)
                    revert u hw9 hB9
                    refine fz_p2 ?_
                    intro p2183 f75183 hw9 hB9
                    try dsimp only at hw9 hB9
                    have hP : va_P (dC, dI) vwCl (WR a k h0 (fT (fT (fT vi 0 0) 125 (nI x58_i125)) 125 (nI p2183)) vj (fT (fT vF 75 x58_F75) 75 f75183) vG) H := fz_P ht hB9.1
                    have hD : va_D A (WR a k h0 (fT (fT (fT vi 0 0) 125 (nI x58_i125)) 125 (nI p2183)) vj (fT (fT vF 75 x58_F75) 75 f75183) vG) := hB9.2.weaken (fun _ q _ h => hFc q.1 h)
                    have e9 : fT (fT vi 0 0) 125 (nI p2183) = fT (fT (fT vi 0 0) 125 (nI x58_i125)) 125 (nI p2183) := (fT_sm _ _ _ _).symm
                    rw [← e9] at hP hD
                    clear e9
                    have e9 : fT vF 75 f75183 = fT (fT vF 75 x58_F75) 75 f75183 := (fT_sm _ _ _ _).symm
                    rw [← e9] at hP hD
                    clear e9
                    have hP : va_P (dC, dI) vwCl (WR a k h0 (fT (fT vi 0 0) 125 (nI p2183)) vj (fT vF 75 f75183) vG) H := hP
                    have hD : va_D A (WR a k h0 (fT (fT vi 0 0) 125 (nI p2183)) vj (fT vF 75 f75183) vG) := hD
                    revert hw9
                    refine fz_a3 ?_
                    intro f183_0 f183_1 f183_2
                    have hl : lv_has _ _ ([(0, .ref h0), (1, .int (nI r5)), (2, .int (nI w5))]) := lv_sub hl [0, 1, 2] rfl
                    exact join2 _ _ _ _ ⟨p2183, f75183, by first | assumption | omega, rfl, hP, hD, hS, hl⟩
                · rintro H locs ls stk ⟨j59_i125, j59_F75, hj59_i125, rfl, hP, hD, hS, hl⟩
                  refine lv_iload_n hx hb dX12_write_186 rfl (lv_at hl 2 rfl) ?_
                  refine W.cut (pc := 198) (fun H locs ls stk => ∃ (j60_i125 : Nat) (j60_F75 : Nat → Int32), (j60_i125 ≤ 30000) ∧  stk = [] ∧ va_P (dC, dI) vwCl (WR a k h0 (fT (fT vi 0 0) 125 (nI j60_i125)) vj (fT vF 75 j60_F75) vG) H ∧ va_D A (WR a k h0 (fT (fT vi 0 0) 125 (nI j60_i125)) vj (fT vF 75 j60_F75) vG) ∧ va_S A s.heap H locs ∧ lv_has ls 4 [(0, .ref h0), (1, .int (nI r5)), (2, .int (nI w5))]) (fun join3 => ?_) ?_
                  · refine lv_if_le (tgt := 198) hx hb dX12_write_187 (by decide) (fun c_187 => ?_) (fun c_187 => ?_)
                    · have t_187 : ((w5 : Nat) : Int) ≤ 0 := toI_le c_187 (nI_toInt (by omega)) (by decide)
                      have hl : lv_has _ _ ([(0, .ref h0), (1, .int (nI r5)), (2, .int (nI w5))]) := lv_sub hl [0, 1, 2] rfl
                      exact join3 _ _ _ _ ⟨j59_i125, j59_F75, by first | assumption | omega, rfl, hP, hD, hS, hl⟩
                    · have t_187 : ¬ ((w5 : Nat) : Int) ≤ 0 := toI_nle c_187 (nI_toInt (by omega)) (by decide)
                      refine lv_aload_n hx hb dX12_write_190 rfl (lv_at hl 0 rfl) ?_
                      refine lv_bipush (v := 28) hx hb dX12_write_191 (by decide) ?_
                      refine lv_bipush (v := 31) hx hb dX12_write_193 (by decide) ?_
                      have hFc := allFree hD hS hA
                      refine va_callv (va_runV (As := [.int 28, .int 31]) (rest := []) ⟨hx, hb, hml, hown, hts⟩ (r_X12_sayText l dC dI a k h0 (fT (fT vi 0 0) 125 (nI j59_i125)) vj (fT vF 75 j59_F75) vG 28 31 j59_i125 rfl (by first | with_reducible assumption | decide | omega | rfl | assumption) (by first | with_reducible assumption | decide | omega | rfl | assumption) (by first | with_reducible assumption | decide | omega | rfl | assumption) H.size) (cwV 2 hts gwsRX12_write_2 rfl rfl rfl hd_yX12_sayText_RX12 (by decide +kernel)) (fz_preE (va_recv hK hP (ci := 12) (q0 := 0) rfl rfl) hP hK hD (fun a U g mk qE => qE.same rfl) (fun U hU9 hW => by rw [hU9]; exact (((hE : StrA A s s.heap).kept hS.2.1).narrow (fun q h => hFc q h)).warm hW)) rfl rfl hl.1 rfl (lv_room (Nat.le_of_ble_eq_true rfl)) dX12_write_195 (by decide +kernel)) hS (fun q _ h => hFc q h) hFc (fun u t9_ H locs ht hvm hw9 hB9 hz1 hk1 hS => ?_)
                      revert u hw9 hB9
                      refine fz_p2 ?_
                      intro p2195 f75195 hw9 hB9
                      try dsimp only at hw9 hB9
                      have hP : va_P (dC, dI) vwCl (WR a k h0 (fT (fT (fT vi 0 0) 125 (nI j59_i125)) 125 (nI p2195)) vj (fT (fT vF 75 j59_F75) 75 f75195) vG) H := fz_P ht hB9.1
                      have hD : va_D A (WR a k h0 (fT (fT (fT vi 0 0) 125 (nI j59_i125)) 125 (nI p2195)) vj (fT (fT vF 75 j59_F75) 75 f75195) vG) := hB9.2.weaken (fun _ q _ h => hFc q.1 h)
                      have e9 : fT (fT vi 0 0) 125 (nI p2195) = fT (fT (fT vi 0 0) 125 (nI j59_i125)) 125 (nI p2195) := (fT_sm _ _ _ _).symm
                      rw [← e9] at hP hD
                      clear e9
                      have e9 : fT vF 75 f75195 = fT (fT vF 75 j59_F75) 75 f75195 := (fT_sm _ _ _ _).symm
                      rw [← e9] at hP hD
                      clear e9
                      have hP : va_P (dC, dI) vwCl (WR a k h0 (fT (fT vi 0 0) 125 (nI p2195)) vj (fT vF 75 f75195) vG) H := hP
                      have hD : va_D A (WR a k h0 (fT (fT vi 0 0) 125 (nI p2195)) vj (fT vF 75 f75195) vG) := hD
                      have f195_0 := hw9
                      try dsimp only at f195_0
                      have hl : lv_has _ _ ([(0, .ref h0), (1, .int (nI r5)), (2, .int (nI w5))]) := lv_sub hl [0, 1, 2] rfl
                      exact join3 _ _ _ _ ⟨p2195, f75195, by first | assumption | omega, rfl, hP, hD, hS, hl⟩
                  · rintro H locs ls stk ⟨j60_i125, j60_F75, hj60_i125, rfl, hP, hD, hS, hl⟩
                    refine lv_aload_n hx hb dX12_write_198 rfl (lv_at hl 0 rfl) ?_
                    refine lv_iconst (v := 3) hx hb dX12_write_199 (by decide) ?_
                    refine lv_iload_n hx hb dX12_write_200 rfl (lv_at hl 1 rfl) ?_
                    refine lv_imul hx hb dX12_write_201 ?_
                    refine lv_topi (fun y9 hy9 => ?_)
                    obtain rfl : (nI (3 * r5)) = y9 := (hy9.trans (pk_mul 3 r5)).symm
                    refine lv_iload_n hx hb dX12_write_202 rfl (lv_at hl 2 rfl) ?_
                    refine lv_iadd hx hb dX12_write_203 ?_
                    refine lv_topi (fun y10 hy10 => ?_)
                    obtain rfl : (nI ((3 * r5) + w5)) = y10 := (hy10.trans (nI_add (3 * r5) w5)).symm
                    have hFc := allFree hD hS hA
                    refine va_callv (va_runV (As := [.int (nI ((3 * r5) + w5))]) (rest := []) ⟨hx, hb, hml, hown, hts⟩ (r_X12_sayWay l dC dI a k h0 (fT (fT vi 0 0) 125 (nI j60_i125)) vj (fT vF 75 j60_F75) vG ((3 * r5) + w5) vn gq j60_i125 rfl (by first | with_reducible assumption | decide | omega | rfl | assumption) hvn (by first | with_reducible assumption | decide | omega | rfl | assumption) (by first | with_reducible assumption | decide | omega | rfl | assumption) (by omega) H.size) (cwV 1 hts gwsRX12_write_5 rfl rfl rfl hd_yX12_sayWay_RX12 (by decide +kernel)) (fz_pre (va_recv hK hP (ci := 12) (q0 := 0) rfl rfl) hP hK hD) rfl rfl hl.1 rfl (lv_room (Nat.le_of_ble_eq_true rfl)) dX12_write_204 (by decide +kernel)) hS (fun q _ h => hFc q h) hFc (fun u t9_ H locs ht hvm hw9 hB9 hz1 hk1 hS => ?_)
                    revert u hw9 hB9
                    refine fz_p2 ?_
                    intro p2204 f75204 hw9 hB9
                    try dsimp only at hw9 hB9
                    have hP : va_P (dC, dI) vwCl (WR a k h0 (fT (fT (fT vi 0 0) 125 (nI j60_i125)) 125 (nI p2204)) vj (fT (fT vF 75 j60_F75) 75 f75204) vG) H := fz_P ht hB9.1
                    have hD : va_D A (WR a k h0 (fT (fT (fT vi 0 0) 125 (nI j60_i125)) 125 (nI p2204)) vj (fT (fT vF 75 j60_F75) 75 f75204) vG) := hB9.2.weaken (fun _ q _ h => hFc q.1 h)
                    have e9 : fT (fT vi 0 0) 125 (nI p2204) = fT (fT (fT vi 0 0) 125 (nI j60_i125)) 125 (nI p2204) := (fT_sm _ _ _ _).symm
                    rw [← e9] at hP hD
                    clear e9
                    have e9 : fT vF 75 f75204 = fT (fT vF 75 j60_F75) 75 f75204 := (fT_sm _ _ _ _).symm
                    rw [← e9] at hP hD
                    clear e9
                    have hP : va_P (dC, dI) vwCl (WR a k h0 (fT (fT vi 0 0) 125 (nI p2204)) vj (fT vF 75 f75204) vG) H := hP
                    have hD : va_D A (WR a k h0 (fT (fT vi 0 0) 125 (nI p2204)) vj (fT vF 75 f75204) vG) := hD
                    have f204_0 := hw9
                    try dsimp only at f204_0
                    refine lv_iinc (v := (nI (w5 + 1))) hx hb dX12_write_207 hl (k := 2) rfl (nI_add w5 1) (by decide) rfl (fun ls (hl : lv_has ls _ ([(2, .int (nI (w5 + 1))), (0, .ref h0), (1, .int (nI r5))])) => ?_)
                    refine lv_goto (tgt := 166) hx hb dX12_write_210 (by decide) ?_
                    have hl : lv_has _ _ ([(0, .ref h0), (1, .int (nI r5)), (2, .int (nI (w5 + 1)))]) := lv_sub hl [1, 2, 0] rfl
                    exact ih166_5 (w5 + 1) p2204 f75204 _ _ _ (by omega) (by first | with_reducible assumption | omega | assumption) (by omega) hP hD hS hl
      · have t_37 : ¬ ((k5 : Nat) : Int) ≥ ((vn : Nat) : Int) := toI_nge c_37 (nI_toInt (by omega)) (nI_toInt (by omega))
        refine lv_aload_n hx hb dX12_write_40 rfl (lv_at hl 0 rfl) ?_
        refine lv_iconst (v := 0) hx hb dX12_write_41 (by decide) ?_
        refine lv_iconst (v := 5) hx hb dX12_write_42 (by decide) ?_
        have hFc := allFree hD hS hA
        refine va_callv (va_runV (As := [.int 0, .int 5]) (rest := []) ⟨hx, hb, hml, hown, hts⟩ (r_X12_sayText l dC dI a k h0 (fT (fT vi 0 0) 125 (nI x31_i125)) vj (fT vF 75 x31_F75) vG 0 5 x31_i125 rfl (by first | with_reducible assumption | decide | omega | rfl | assumption) (by first | with_reducible assumption | decide | omega | rfl | assumption) (by first | with_reducible assumption | decide | omega | rfl | assumption) H.size) (cwV 2 hts gwsRX12_write_2 rfl rfl rfl hd_yX12_sayText_RX12 (by decide +kernel)) (fz_preE (va_recv hK hP (ci := 12) (q0 := 0) rfl rfl) hP hK hD (fun a U g mk qE => qE.same rfl) (fun U hU9 hW => by rw [hU9]; exact (((hE : StrA A s s.heap).kept hS.2.1).narrow (fun q h => hFc q h)).warm hW)) rfl rfl hl.1 rfl (lv_room (Nat.le_of_ble_eq_true rfl)) dX12_write_43 (by decide +kernel)) hS (fun q _ h => hFc q h) hFc (fun u t9_ H locs ht hvm hw9 hB9 hz1 hk1 hS => ?_)
        revert u hw9 hB9
        refine fz_p2 ?_
        intro p243 f7543 hw9 hB9
        try dsimp only at hw9 hB9
        have hP : va_P (dC, dI) vwCl (WR a k h0 (fT (fT (fT vi 0 0) 125 (nI x31_i125)) 125 (nI p243)) vj (fT (fT vF 75 x31_F75) 75 f7543) vG) H := fz_P ht hB9.1
        have hD : va_D A (WR a k h0 (fT (fT (fT vi 0 0) 125 (nI x31_i125)) 125 (nI p243)) vj (fT (fT vF 75 x31_F75) 75 f7543) vG) := hB9.2.weaken (fun _ q _ h => hFc q.1 h)
        have e9 : fT (fT vi 0 0) 125 (nI p243) = fT (fT (fT vi 0 0) 125 (nI x31_i125)) 125 (nI p243) := (fT_sm _ _ _ _).symm
        rw [← e9] at hP hD
        clear e9
        have e9 : fT vF 75 f7543 = fT (fT vF 75 x31_F75) 75 f7543 := (fT_sm _ _ _ _).symm
        rw [← e9] at hP hD
        clear e9
        have hP : va_P (dC, dI) vwCl (WR a k h0 (fT (fT vi 0 0) 125 (nI p243)) vj (fT vF 75 f7543) vG) H := hP
        have hD : va_D A (WR a k h0 (fT (fT vi 0 0) 125 (nI p243)) vj (fT vF 75 f7543) vG) := hD
        have f43_0 := hw9
        try dsimp only at f43_0
        refine lv_aload_n hx hb dX12_write_46 rfl (lv_at hl 0 rfl) ?_
        refine lv_iload_n hx hb dX12_write_47 rfl (lv_at hl 1 rfl) ?_
        have hFc := allFree hD hS hA
        refine va_callv (va_runV (As := [.int (nI k5)]) (rest := []) ⟨hx, hb, hml, hown, hts⟩ (r_X12_sayNumber l dC dI a k h0 (fT (fT vi 0 0) 125 (nI p243)) vj (fT vF 75 f7543) vG (nI k5) p243 rfl (by first | with_reducible assumption | decide | omega | rfl | assumption) (by rw [nI_toInt (by omega)]; omega) H.size) (cwV 1 hts gwsRX12_write_4 rfl rfl rfl hd_yX12_sayNumber_RX12 (by decide +kernel)) (fz_pre (va_recv hK hP (ci := 12) (q0 := 0) rfl rfl) hP hK hD) rfl rfl hl.1 rfl (lv_room (Nat.le_of_ble_eq_true rfl)) dX12_write_48 (by decide +kernel)) hS (fun q _ h => hFc q h) hFc (fun u t9_ H locs ht hvm hw9 hB9 hz1 hk1 hS => ?_)
        revert u hw9 hB9
        refine fz_p2 ?_
        intro p248 f7548 hw9 hB9
        try dsimp only at hw9 hB9
        have hP : va_P (dC, dI) vwCl (WR a k h0 (fT (fT (fT vi 0 0) 125 (nI p243)) 125 (nI p248)) vj (fT (fT vF 75 f7543) 75 f7548) vG) H := fz_P ht hB9.1
        have hD : va_D A (WR a k h0 (fT (fT (fT vi 0 0) 125 (nI p243)) 125 (nI p248)) vj (fT (fT vF 75 f7543) 75 f7548) vG) := hB9.2.weaken (fun _ q _ h => hFc q.1 h)
        have e9 : fT (fT vi 0 0) 125 (nI p248) = fT (fT (fT vi 0 0) 125 (nI p243)) 125 (nI p248) := (fT_sm _ _ _ _).symm
        rw [← e9] at hP hD
        clear e9
        have e9 : fT vF 75 f7548 = fT (fT vF 75 f7543) 75 f7548 := (fT_sm _ _ _ _).symm
        rw [← e9] at hP hD
        clear e9
        have hP : va_P (dC, dI) vwCl (WR a k h0 (fT (fT vi 0 0) 125 (nI p248)) vj (fT vF 75 f7548) vG) H := hP
        have hD : va_D A (WR a k h0 (fT (fT vi 0 0) 125 (nI p248)) vj (fT vF 75 f7548) vG) := hD
        have f48_0 := hw9
        try dsimp only at f48_0
        refine lv_aload_n hx hb dX12_write_51 rfl (lv_at hl 0 rfl) ?_
        refine lv_bipush (v := 32) hx hb dX12_write_52 (by decide) ?_
        have hFc := allFree hD hS hA
        refine va_callv (va_runV (As := [.int 32]) (rest := []) ⟨hx, hb, hml, hown, hts⟩ (r_X12_say l dC dI a k h0 (fT (fT vi 0 0) 125 (nI p248)) vj (fT vF 75 f7548) vG 32 p248 rfl (by first | with_reducible assumption | decide | omega | rfl | assumption) H.size) (cwV 1 hts gwsRX12_write_3 rfl rfl rfl hd_yX12_say_RX12 (by decide +kernel)) (fz_pre (va_recv hK hP (ci := 12) (q0 := 0) rfl rfl) hP hK hD) rfl rfl hl.1 rfl (lv_room (Nat.le_of_ble_eq_true rfl)) dX12_write_54 (by decide +kernel)) hS (fun q _ h => hFc q h) hFc (fun u t9_ H locs ht hvm hw9 hB9 hz1 hk1 hS => ?_)
        revert u hw9 hB9
        refine fz_p2 ?_
        intro p254 f7554 hw9 hB9
        try dsimp only at hw9 hB9
        have hP : va_P (dC, dI) vwCl (WR a k h0 (fT (fT (fT vi 0 0) 125 (nI p248)) 125 (nI p254)) vj (fT (fT vF 75 f7548) 75 f7554) vG) H := fz_P ht hB9.1
        have hD : va_D A (WR a k h0 (fT (fT (fT vi 0 0) 125 (nI p248)) 125 (nI p254)) vj (fT (fT vF 75 f7548) 75 f7554) vG) := hB9.2.weaken (fun _ q _ h => hFc q.1 h)
        have e9 : fT (fT vi 0 0) 125 (nI p254) = fT (fT (fT vi 0 0) 125 (nI p248)) 125 (nI p254) := (fT_sm _ _ _ _).symm
        rw [← e9] at hP hD
        clear e9
        have e9 : fT vF 75 f7554 = fT (fT vF 75 f7548) 75 f7554 := (fT_sm _ _ _ _).symm
        rw [← e9] at hP hD
        clear e9
        have hP : va_P (dC, dI) vwCl (WR a k h0 (fT (fT vi 0 0) 125 (nI p254)) vj (fT vF 75 f7554) vG) H := hP
        have hD : va_D A (WR a k h0 (fT (fT vi 0 0) 125 (nI p254)) vj (fT vF 75 f7554) vG) := hD
        revert hw9
        refine fz_a3 ?_
        intro f54_0 f54_1 f54_2
        refine lv_aload_n hx hb dX12_write_57 rfl (lv_at hl 0 rfl) ?_
        refine va_get (D := (dC, dI)) (ci := 12) (v := .ref (a 58)) (C := RX12) (T := TX12) (N := 163) (fs := fM (vS a (fT (fT vi 0 0) 125 (nI p254)) vj)) hx hb hts iwsRX12_write_in12 hown hK hP 0 rfl rfl 98 (by decide) (hts (.fieldLink RX12 197 "OptimaWorksModel" "whole" "[I") (by decide +kernel)) (fun _ h9 => h9) rfl dX12_write_58 ?_
        refine lv_iload_n hx hb dX12_write_61 rfl (lv_at hl 1 rfl) ?_
        refine va_iald (cA := k 58) (n := 9) (f := (vF 58)) hx hb hK hP 59 58 (WR_get 58 (by decide)) (TR_get 58 (by decide)) (vp_in_nI (show k5 < 9 by omega) (by omega)) dX12_write_62 ?_
        refine lv_topi (fun y11 hy11 => ?_)
        obtain rfl : ((vF 58) k5) = y11 := (hy11.trans (by rw [nI_clamp (by omega)])).symm
        refine lv_iconst (v := 1) hx hb dX12_write_63 (by decide) ?_
        refine W.cut (pc := 75) (fun H locs ls stk => ∃ (j61_i125 : Nat) (j61_F75 : Nat → Int32), (j61_i125 ≤ 30000) ∧  stk = [] ∧ va_P (dC, dI) vwCl (WR a k h0 (fT (fT vi 0 0) 125 (nI j61_i125)) vj (fT vF 75 j61_F75) vG) H ∧ va_D A (WR a k h0 (fT (fT vi 0 0) 125 (nI j61_i125)) vj (fT vF 75 j61_F75) vG) ∧ va_S A s.heap H locs ∧ lv_has ls 4 [(0, .ref h0), (1, .int (nI k5))]) (fun join4 => ?_) ?_
        · refine lv_icmp_ne (tgt := 75) hx hb dX12_write_64 (by decide) (fun c_64 => ?_) (fun c_64 => ?_)
          · have t_64 : (((vF 58) k5)).toInt ≠ 1 := toI_ne c_64 rfl (by decide)
            have hl : lv_has _ _ ([(0, .ref h0), (1, .int (nI k5))]) := lv_sub hl [0, 1] rfl
            exact join4 _ _ _ _ ⟨p254, f7554, by first | assumption | omega, rfl, hP, hD, hS, hl⟩
          · have t_64 : (((vF 58) k5)).toInt = 1 := toI_nne c_64 rfl (by decide)
            refine lv_aload_n hx hb dX12_write_67 rfl (lv_at hl 0 rfl) ?_
            refine lv_bipush (v := 6) hx hb dX12_write_68 (by decide) ?_
            refine lv_bipush (v := 12) hx hb dX12_write_70 (by decide) ?_
            have hFc := allFree hD hS hA
            refine va_callv (va_runV (As := [.int 6, .int 12]) (rest := []) ⟨hx, hb, hml, hown, hts⟩ (r_X12_sayText l dC dI a k h0 (fT (fT vi 0 0) 125 (nI p254)) vj (fT vF 75 f7554) vG 6 12 p254 rfl (by first | with_reducible assumption | decide | omega | rfl | assumption) (by first | with_reducible assumption | decide | omega | rfl | assumption) (by first | with_reducible assumption | decide | omega | rfl | assumption) H.size) (cwV 2 hts gwsRX12_write_2 rfl rfl rfl hd_yX12_sayText_RX12 (by decide +kernel)) (fz_preE (va_recv hK hP (ci := 12) (q0 := 0) rfl rfl) hP hK hD (fun a U g mk qE => qE.same rfl) (fun U hU9 hW => by rw [hU9]; exact (((hE : StrA A s s.heap).kept hS.2.1).narrow (fun q h => hFc q h)).warm hW)) rfl rfl hl.1 rfl (lv_room (Nat.le_of_ble_eq_true rfl)) dX12_write_72 (by decide +kernel)) hS (fun q _ h => hFc q h) hFc (fun u t9_ H locs ht hvm hw9 hB9 hz1 hk1 hS => ?_)
            revert u hw9 hB9
            refine fz_p2 ?_
            intro p272 f7572 hw9 hB9
            try dsimp only at hw9 hB9
            have hP : va_P (dC, dI) vwCl (WR a k h0 (fT (fT (fT vi 0 0) 125 (nI p254)) 125 (nI p272)) vj (fT (fT vF 75 f7554) 75 f7572) vG) H := fz_P ht hB9.1
            have hD : va_D A (WR a k h0 (fT (fT (fT vi 0 0) 125 (nI p254)) 125 (nI p272)) vj (fT (fT vF 75 f7554) 75 f7572) vG) := hB9.2.weaken (fun _ q _ h => hFc q.1 h)
            have e9 : fT (fT vi 0 0) 125 (nI p272) = fT (fT (fT vi 0 0) 125 (nI p254)) 125 (nI p272) := (fT_sm _ _ _ _).symm
            rw [← e9] at hP hD
            clear e9
            have e9 : fT vF 75 f7572 = fT (fT vF 75 f7554) 75 f7572 := (fT_sm _ _ _ _).symm
            rw [← e9] at hP hD
            clear e9
            have hP : va_P (dC, dI) vwCl (WR a k h0 (fT (fT vi 0 0) 125 (nI p272)) vj (fT vF 75 f7572) vG) H := hP
            have hD : va_D A (WR a k h0 (fT (fT vi 0 0) 125 (nI p272)) vj (fT vF 75 f7572) vG) := hD
            have f72_0 := hw9
            try dsimp only at f72_0
            have hl : lv_has _ _ ([(0, .ref h0), (1, .int (nI k5))]) := lv_sub hl [0, 1] rfl
            exact join4 _ _ _ _ ⟨p272, f7572, by first | assumption | omega, rfl, hP, hD, hS, hl⟩
        · rintro H locs ls stk ⟨j61_i125, j61_F75, hj61_i125, rfl, hP, hD, hS, hl⟩
          refine lv_aload_n hx hb dX12_write_75 rfl (lv_at hl 0 rfl) ?_
          refine lv_bipush (v := 12) hx hb dX12_write_76 (by decide) ?_
          refine lv_bipush (v := 17) hx hb dX12_write_78 (by decide) ?_
          have hFc := allFree hD hS hA
          refine va_callv (va_runV (As := [.int 12, .int 17]) (rest := []) ⟨hx, hb, hml, hown, hts⟩ (r_X12_sayText l dC dI a k h0 (fT (fT vi 0 0) 125 (nI j61_i125)) vj (fT vF 75 j61_F75) vG 12 17 j61_i125 rfl (by first | with_reducible assumption | decide | omega | rfl | assumption) (by first | with_reducible assumption | decide | omega | rfl | assumption) (by first | with_reducible assumption | decide | omega | rfl | assumption) H.size) (cwV 2 hts gwsRX12_write_2 rfl rfl rfl hd_yX12_sayText_RX12 (by decide +kernel)) (fz_preE (va_recv hK hP (ci := 12) (q0 := 0) rfl rfl) hP hK hD (fun a U g mk qE => qE.same rfl) (fun U hU9 hW => by rw [hU9]; exact (((hE : StrA A s s.heap).kept hS.2.1).narrow (fun q h => hFc q h)).warm hW)) rfl rfl hl.1 rfl (lv_room (Nat.le_of_ble_eq_true rfl)) dX12_write_80 (by decide +kernel)) hS (fun q _ h => hFc q h) hFc (fun u t9_ H locs ht hvm hw9 hB9 hz1 hk1 hS => ?_)
          revert u hw9 hB9
          refine fz_p2 ?_
          intro p280 f7580 hw9 hB9
          try dsimp only at hw9 hB9
          have hP : va_P (dC, dI) vwCl (WR a k h0 (fT (fT (fT vi 0 0) 125 (nI j61_i125)) 125 (nI p280)) vj (fT (fT vF 75 j61_F75) 75 f7580) vG) H := fz_P ht hB9.1
          have hD : va_D A (WR a k h0 (fT (fT (fT vi 0 0) 125 (nI j61_i125)) 125 (nI p280)) vj (fT (fT vF 75 j61_F75) 75 f7580) vG) := hB9.2.weaken (fun _ q _ h => hFc q.1 h)
          have e9 : fT (fT vi 0 0) 125 (nI p280) = fT (fT (fT vi 0 0) 125 (nI j61_i125)) 125 (nI p280) := (fT_sm _ _ _ _).symm
          rw [← e9] at hP hD
          clear e9
          have e9 : fT vF 75 f7580 = fT (fT vF 75 j61_F75) 75 f7580 := (fT_sm _ _ _ _).symm
          rw [← e9] at hP hD
          clear e9
          have hP : va_P (dC, dI) vwCl (WR a k h0 (fT (fT vi 0 0) 125 (nI p280)) vj (fT vF 75 f7580) vG) H := hP
          have hD : va_D A (WR a k h0 (fT (fT vi 0 0) 125 (nI p280)) vj (fT vF 75 f7580) vG) := hD
          have f80_0 := hw9
          try dsimp only at f80_0
          have bl := hM.1 k5 (by omega)
          refine lv_aload_n hx hb dX12_write_83 rfl (lv_at hl 0 rfl) ?_
          refine lv_aload_n hx hb dX12_write_84 rfl (lv_at hl 0 rfl) ?_
          refine va_get (D := (dC, dI)) (ci := 12) (v := .ref (a 56)) (C := RX12) (T := TX12) (N := 163) (fs := fM (vS a (fT (fT vi 0 0) 125 (nI p280)) vj)) hx hb hts iwsRX12_write_in12 hown hK hP 0 rfl rfl 96 (by decide) (hts (.fieldLink RX12 191 "OptimaWorksModel" "low" "[I") (by decide +kernel)) (fun _ h9 => h9) rfl dX12_write_85 ?_
          refine lv_iload_n hx hb dX12_write_88 rfl (lv_at hl 1 rfl) ?_
          refine va_iald (cA := k 56) (n := 9) (f := (vF 56)) hx hb hK hP 57 56 (WR_get 56 (by decide)) (TR_get 56 (by decide)) (vp_in_nI (show k5 < 9 by omega) (by omega)) dX12_write_89 ?_
          refine lv_topi (fun y12 hy12 => ?_)
          obtain rfl : ((vF 56) k5) = y12 := (hy12.trans (by rw [nI_clamp (by omega)])).symm
          have hFc := allFree hD hS hA
          refine va_callv (va_runV (As := [.int ((vF 56) k5)]) (rest := []) ⟨hx, hb, hml, hown, hts⟩ (r_X12_sayNumber l dC dI a k h0 (fT (fT vi 0 0) 125 (nI p280)) vj (fT vF 75 f7580) vG ((vF 56) k5) p280 rfl (by first | with_reducible assumption | decide | omega | rfl | assumption) (by omega) H.size) (cwV 1 hts gwsRX12_write_4 rfl rfl rfl hd_yX12_sayNumber_RX12 (by decide +kernel)) (fz_pre (va_recv hK hP (ci := 12) (q0 := 0) rfl rfl) hP hK hD) rfl rfl hl.1 rfl (lv_room (Nat.le_of_ble_eq_true rfl)) dX12_write_90 (by decide +kernel)) hS (fun q _ h => hFc q h) hFc (fun u t9_ H locs ht hvm hw9 hB9 hz1 hk1 hS => ?_)
          revert u hw9 hB9
          refine fz_p2 ?_
          intro p290 f7590 hw9 hB9
          try dsimp only at hw9 hB9
          have hP : va_P (dC, dI) vwCl (WR a k h0 (fT (fT (fT vi 0 0) 125 (nI p280)) 125 (nI p290)) vj (fT (fT vF 75 f7580) 75 f7590) vG) H := fz_P ht hB9.1
          have hD : va_D A (WR a k h0 (fT (fT (fT vi 0 0) 125 (nI p280)) 125 (nI p290)) vj (fT (fT vF 75 f7580) 75 f7590) vG) := hB9.2.weaken (fun _ q _ h => hFc q.1 h)
          have e9 : fT (fT vi 0 0) 125 (nI p290) = fT (fT (fT vi 0 0) 125 (nI p280)) 125 (nI p290) := (fT_sm _ _ _ _).symm
          rw [← e9] at hP hD
          clear e9
          have e9 : fT vF 75 f7590 = fT (fT vF 75 f7580) 75 f7590 := (fT_sm _ _ _ _).symm
          rw [← e9] at hP hD
          clear e9
          have hP : va_P (dC, dI) vwCl (WR a k h0 (fT (fT vi 0 0) 125 (nI p290)) vj (fT vF 75 f7590) vG) H := hP
          have hD : va_D A (WR a k h0 (fT (fT vi 0 0) 125 (nI p290)) vj (fT vF 75 f7590) vG) := hD
          have f90_0 := hw9
          try dsimp only at f90_0
          refine lv_aload_n hx hb dX12_write_93 rfl (lv_at hl 0 rfl) ?_
          refine lv_bipush (v := 32) hx hb dX12_write_94 (by decide) ?_
          have hFc := allFree hD hS hA
          refine va_callv (va_runV (As := [.int 32]) (rest := []) ⟨hx, hb, hml, hown, hts⟩ (r_X12_say l dC dI a k h0 (fT (fT vi 0 0) 125 (nI p290)) vj (fT vF 75 f7590) vG 32 p290 rfl (by first | with_reducible assumption | decide | omega | rfl | assumption) H.size) (cwV 1 hts gwsRX12_write_3 rfl rfl rfl hd_yX12_say_RX12 (by decide +kernel)) (fz_pre (va_recv hK hP (ci := 12) (q0 := 0) rfl rfl) hP hK hD) rfl rfl hl.1 rfl (lv_room (Nat.le_of_ble_eq_true rfl)) dX12_write_96 (by decide +kernel)) hS (fun q _ h => hFc q h) hFc (fun u t9_ H locs ht hvm hw9 hB9 hz1 hk1 hS => ?_)
          revert u hw9 hB9
          refine fz_p2 ?_
          intro p296 f7596 hw9 hB9
          try dsimp only at hw9 hB9
          have hP : va_P (dC, dI) vwCl (WR a k h0 (fT (fT (fT vi 0 0) 125 (nI p290)) 125 (nI p296)) vj (fT (fT vF 75 f7590) 75 f7596) vG) H := fz_P ht hB9.1
          have hD : va_D A (WR a k h0 (fT (fT (fT vi 0 0) 125 (nI p290)) 125 (nI p296)) vj (fT (fT vF 75 f7590) 75 f7596) vG) := hB9.2.weaken (fun _ q _ h => hFc q.1 h)
          have e9 : fT (fT vi 0 0) 125 (nI p296) = fT (fT (fT vi 0 0) 125 (nI p290)) 125 (nI p296) := (fT_sm _ _ _ _).symm
          rw [← e9] at hP hD
          clear e9
          have e9 : fT vF 75 f7596 = fT (fT vF 75 f7590) 75 f7596 := (fT_sm _ _ _ _).symm
          rw [← e9] at hP hD
          clear e9
          have hP : va_P (dC, dI) vwCl (WR a k h0 (fT (fT vi 0 0) 125 (nI p296)) vj (fT vF 75 f7596) vG) H := hP
          have hD : va_D A (WR a k h0 (fT (fT vi 0 0) 125 (nI p296)) vj (fT vF 75 f7596) vG) := hD
          revert hw9
          refine fz_a3 ?_
          intro f96_0 f96_1 f96_2
          refine lv_aload_n hx hb dX12_write_99 rfl (lv_at hl 0 rfl) ?_
          refine lv_bipush (v := 17) hx hb dX12_write_100 (by decide) ?_
          refine lv_bipush (v := 20) hx hb dX12_write_102 (by decide) ?_
          have hFc := allFree hD hS hA
          refine va_callv (va_runV (As := [.int 17, .int 20]) (rest := []) ⟨hx, hb, hml, hown, hts⟩ (r_X12_sayText l dC dI a k h0 (fT (fT vi 0 0) 125 (nI p296)) vj (fT vF 75 f7596) vG 17 20 p296 rfl (by first | with_reducible assumption | decide | omega | rfl | assumption) (by first | with_reducible assumption | decide | omega | rfl | assumption) (by first | with_reducible assumption | decide | omega | rfl | assumption) H.size) (cwV 2 hts gwsRX12_write_2 rfl rfl rfl hd_yX12_sayText_RX12 (by decide +kernel)) (fz_preE (va_recv hK hP (ci := 12) (q0 := 0) rfl rfl) hP hK hD (fun a U g mk qE => qE.same rfl) (fun U hU9 hW => by rw [hU9]; exact (((hE : StrA A s s.heap).kept hS.2.1).narrow (fun q h => hFc q h)).warm hW)) rfl rfl hl.1 rfl (lv_room (Nat.le_of_ble_eq_true rfl)) dX12_write_104 (by decide +kernel)) hS (fun q _ h => hFc q h) hFc (fun u t9_ H locs ht hvm hw9 hB9 hz1 hk1 hS => ?_)
          revert u hw9 hB9
          refine fz_p2 ?_
          intro p2104 f75104 hw9 hB9
          try dsimp only at hw9 hB9
          have hP : va_P (dC, dI) vwCl (WR a k h0 (fT (fT (fT vi 0 0) 125 (nI p296)) 125 (nI p2104)) vj (fT (fT vF 75 f7596) 75 f75104) vG) H := fz_P ht hB9.1
          have hD : va_D A (WR a k h0 (fT (fT (fT vi 0 0) 125 (nI p296)) 125 (nI p2104)) vj (fT (fT vF 75 f7596) 75 f75104) vG) := hB9.2.weaken (fun _ q _ h => hFc q.1 h)
          have e9 : fT (fT vi 0 0) 125 (nI p2104) = fT (fT (fT vi 0 0) 125 (nI p296)) 125 (nI p2104) := (fT_sm _ _ _ _).symm
          rw [← e9] at hP hD
          clear e9
          have e9 : fT vF 75 f75104 = fT (fT vF 75 f7596) 75 f75104 := (fT_sm _ _ _ _).symm
          rw [← e9] at hP hD
          clear e9
          have hP : va_P (dC, dI) vwCl (WR a k h0 (fT (fT vi 0 0) 125 (nI p2104)) vj (fT vF 75 f75104) vG) H := hP
          have hD : va_D A (WR a k h0 (fT (fT vi 0 0) 125 (nI p2104)) vj (fT vF 75 f75104) vG) := hD
          have f104_0 := hw9
          try dsimp only at f104_0
          have bh := hM.2.1 k5 (by omega)
          refine lv_aload_n hx hb dX12_write_107 rfl (lv_at hl 0 rfl) ?_
          refine lv_aload_n hx hb dX12_write_108 rfl (lv_at hl 0 rfl) ?_
          refine va_get (D := (dC, dI)) (ci := 12) (v := .ref (a 57)) (C := RX12) (T := TX12) (N := 163) (fs := fM (vS a (fT (fT vi 0 0) 125 (nI p2104)) vj)) hx hb hts iwsRX12_write_in12 hown hK hP 0 rfl rfl 97 (by decide) (hts (.fieldLink RX12 194 "OptimaWorksModel" "high" "[I") (by decide +kernel)) (fun _ h9 => h9) rfl dX12_write_109 ?_
          refine lv_iload_n hx hb dX12_write_112 rfl (lv_at hl 1 rfl) ?_
          refine va_iald (cA := k 57) (n := 9) (f := (vF 57)) hx hb hK hP 58 57 (WR_get 57 (by decide)) (TR_get 57 (by decide)) (vp_in_nI (show k5 < 9 by omega) (by omega)) dX12_write_113 ?_
          refine lv_topi (fun y13 hy13 => ?_)
          obtain rfl : ((vF 57) k5) = y13 := (hy13.trans (by rw [nI_clamp (by omega)])).symm
          have hFc := allFree hD hS hA
          refine va_callv (va_runV (As := [.int ((vF 57) k5)]) (rest := []) ⟨hx, hb, hml, hown, hts⟩ (r_X12_sayNumber l dC dI a k h0 (fT (fT vi 0 0) 125 (nI p2104)) vj (fT vF 75 f75104) vG ((vF 57) k5) p2104 rfl (by first | with_reducible assumption | decide | omega | rfl | assumption) (by omega) H.size) (cwV 1 hts gwsRX12_write_4 rfl rfl rfl hd_yX12_sayNumber_RX12 (by decide +kernel)) (fz_pre (va_recv hK hP (ci := 12) (q0 := 0) rfl rfl) hP hK hD) rfl rfl hl.1 rfl (lv_room (Nat.le_of_ble_eq_true rfl)) dX12_write_114 (by decide +kernel)) hS (fun q _ h => hFc q h) hFc (fun u t9_ H locs ht hvm hw9 hB9 hz1 hk1 hS => ?_)
          revert u hw9 hB9
          refine fz_p2 ?_
          intro p2114 f75114 hw9 hB9
          try dsimp only at hw9 hB9
          have hP : va_P (dC, dI) vwCl (WR a k h0 (fT (fT (fT vi 0 0) 125 (nI p2104)) 125 (nI p2114)) vj (fT (fT vF 75 f75104) 75 f75114) vG) H := fz_P ht hB9.1
          have hD : va_D A (WR a k h0 (fT (fT (fT vi 0 0) 125 (nI p2104)) 125 (nI p2114)) vj (fT (fT vF 75 f75104) 75 f75114) vG) := hB9.2.weaken (fun _ q _ h => hFc q.1 h)
          have e9 : fT (fT vi 0 0) 125 (nI p2114) = fT (fT (fT vi 0 0) 125 (nI p2104)) 125 (nI p2114) := (fT_sm _ _ _ _).symm
          rw [← e9] at hP hD
          clear e9
          have e9 : fT vF 75 f75114 = fT (fT vF 75 f75104) 75 f75114 := (fT_sm _ _ _ _).symm
          rw [← e9] at hP hD
          clear e9
          have hP : va_P (dC, dI) vwCl (WR a k h0 (fT (fT vi 0 0) 125 (nI p2114)) vj (fT vF 75 f75114) vG) H := hP
          have hD : va_D A (WR a k h0 (fT (fT vi 0 0) 125 (nI p2114)) vj (fT vF 75 f75114) vG) := hD
          have f114_0 := hw9
          try dsimp only at f114_0
          refine lv_aload_n hx hb dX12_write_117 rfl (lv_at hl 0 rfl) ?_
          have hFc := allFree hD hS hA
          refine va_callv (va_runV (As := []) (rest := []) ⟨hx, hb, hml, hown, hts⟩ (r_X12_endLine l dC dI a k h0 (fT (fT vi 0 0) 125 (nI p2114)) vj (fT vF 75 f75114) vG p2114 rfl (by first | with_reducible assumption | decide | omega | rfl | assumption) H.size) (cwV 0 hts gwsRX12_write_1 rfl rfl rfl hd_yX12_endLine_RX12 (by decide +kernel)) (fz_pre (va_recv hK hP (ci := 12) (q0 := 0) rfl rfl) hP hK hD) rfl rfl hl.1 rfl (lv_room (Nat.le_of_ble_eq_true rfl)) dX12_write_118 (by decide +kernel)) hS (fun q _ h => hFc q h) hFc (fun u t9_ H locs ht hvm hw9 hB9 hz1 hk1 hS => ?_)
          revert u hw9 hB9
          refine fz_p2 ?_
          intro p2118 f75118 hw9 hB9
          try dsimp only at hw9 hB9
          have hP : va_P (dC, dI) vwCl (WR a k h0 (fT (fT (fT vi 0 0) 125 (nI p2114)) 125 (nI p2118)) vj (fT (fT vF 75 f75114) 75 f75118) vG) H := fz_P ht hB9.1
          have hD : va_D A (WR a k h0 (fT (fT (fT vi 0 0) 125 (nI p2114)) 125 (nI p2118)) vj (fT (fT vF 75 f75114) 75 f75118) vG) := hB9.2.weaken (fun _ q _ h => hFc q.1 h)
          have e9 : fT (fT vi 0 0) 125 (nI p2118) = fT (fT (fT vi 0 0) 125 (nI p2114)) 125 (nI p2118) := (fT_sm _ _ _ _).symm
          rw [← e9] at hP hD
          clear e9
          have e9 : fT vF 75 f75118 = fT (fT vF 75 f75114) 75 f75118 := (fT_sm _ _ _ _).symm
          rw [← e9] at hP hD
          clear e9
          have hP : va_P (dC, dI) vwCl (WR a k h0 (fT (fT vi 0 0) 125 (nI p2118)) vj (fT vF 75 f75118) vG) H := hP
          have hD : va_D A (WR a k h0 (fT (fT vi 0 0) 125 (nI p2118)) vj (fT vF 75 f75118) vG) := hD
          have f118_0 := hw9
          try dsimp only at f118_0
          refine lv_iinc (v := (nI (k5 + 1))) hx hb dX12_write_121 hl (k := 1) rfl (nI_add k5 1) (by decide) rfl (fun ls (hl : lv_has ls _ ([(1, .int (nI (k5 + 1))), (0, .ref h0)])) => ?_)
          refine lv_goto (tgt := 32) hx hb dX12_write_124 (by decide) ?_
          have hl : lv_has _ _ ([(0, .ref h0), (1, .int (nI (k5 + 1)))]) := lv_sub hl [1, 0] rfl
          exact ih32 (k5 + 1) p2118 f75118 _ _ _ (by omega) (by first | with_reducible assumption | omega | assumption) (by omega) hP hD hS hl
theorem dX12_key_0 : decode cX12_key 0 = .ok (.iconst 0, 1) := dk_3 (by decide +kernel)
theorem dX12_key_1 : decode cX12_key 1 = .ok (.istore_n 3, 1) := dk_62 (by decide +kernel)
theorem dX12_key_2 : decode cX12_key 2 = .ok (.iconst 0, 1) := dk_3 (by decide +kernel)
theorem dX12_key_3 : decode cX12_key 3 = .ok (.istore 4, 2) := dk_54 (by decide +kernel)
theorem dX12_key_5 : decode cX12_key 5 = .ok (.iload 4, 2) := dk_21 (by decide +kernel)
theorem dX12_key_7 : decode cX12_key 7 = .ok (.bipush 16, 2) := dk_16 (by decide +kernel)
theorem dX12_key_9 : decode cX12_key 9 = .ok (.if_icmp .ge 83, 3) := dk_162 (by decide +kernel)
theorem dX12_key_12 : decode cX12_key 12 = .ok (.iconst 0, 1) := dk_3 (by decide +kernel)
theorem dX12_key_13 : decode cX12_key 13 = .ok (.istore 5, 2) := dk_54 (by decide +kernel)
theorem dX12_key_15 : decode cX12_key 15 = .ok (.iconst 1, 1) := dk_4 (by decide +kernel)
theorem dX12_key_16 : decode cX12_key 16 = .ok (.istore 6, 2) := dk_54 (by decide +kernel)
theorem dX12_key_18 : decode cX12_key 18 = .ok (.iload_n 3, 1) := dk_29 (by decide +kernel)
theorem dX12_key_19 : decode cX12_key 19 = .ok (.invokestatic 479, 3) := dk_184 (by decide +kernel)
theorem dX12_key_22 : decode cX12_key 22 = .ok (.bipush 32, 2) := dk_16 (by decide +kernel)
theorem dX12_key_24 : decode cX12_key 24 = .ok (.if_icmp .eq 45, 3) := dk_159 (by decide +kernel)
theorem dX12_key_27 : decode cX12_key 27 = .ok (.iload 6, 2) := dk_21 (by decide +kernel)
theorem dX12_key_29 : decode cX12_key 29 = .ok (.ifCond .eq 28, 3) := dk_153 (by decide +kernel)
theorem dX12_key_32 : decode cX12_key 32 = .ok (.iload 5, 2) := dk_21 (by decide +kernel)
theorem dX12_key_34 : decode cX12_key 34 = .ok (.iload_n 2, 1) := dk_28 (by decide +kernel)
theorem dX12_key_35 : decode cX12_key 35 = .ok (.if_icmp .ge 22, 3) := dk_162 (by decide +kernel)
theorem dX12_key_38 : decode cX12_key 38 = .ok (.aload_n 0, 1) := dk_42 (by decide +kernel)
theorem dX12_key_39 : decode cX12_key 39 = .ok (.iload_n 1, 1) := dk_27 (by decide +kernel)
theorem dX12_key_40 : decode cX12_key 40 = .ok (.iload 5, 2) := dk_21 (by decide +kernel)
theorem dX12_key_42 : decode cX12_key 42 = .ok (.iadd, 1) := dk_96 (by decide +kernel)
theorem dX12_key_43 : decode cX12_key 43 = .ok (.invokevirtual 482, 3) := dk_182 (by decide +kernel)
theorem dX12_key_46 : decode cX12_key 46 = .ok (.iload_n 3, 1) := dk_29 (by decide +kernel)
theorem dX12_key_47 : decode cX12_key 47 = .ok (.invokestatic 479, 3) := dk_184 (by decide +kernel)
theorem dX12_key_50 : decode cX12_key 50 = .ok (.if_icmp .ne 7, 3) := dk_160 (by decide +kernel)
theorem dX12_key_53 : decode cX12_key 53 = .ok (.iconst 1, 1) := dk_4 (by decide +kernel)
theorem dX12_key_54 : decode cX12_key 54 = .ok (.goto 4, 3) := dk_167 (by decide +kernel)
theorem dX12_key_57 : decode cX12_key 57 = .ok (.iconst 0, 1) := dk_3 (by decide +kernel)
theorem dX12_key_58 : decode cX12_key 58 = .ok (.istore 6, 2) := dk_54 (by decide +kernel)
theorem dX12_key_60 : decode cX12_key 60 = .ok (.iinc 3 1, 3) := dk_132 (by decide +kernel)
theorem dX12_key_63 : decode cX12_key 63 = .ok (.iinc 5 1, 3) := dk_132 (by decide +kernel)
theorem dX12_key_66 : decode cX12_key 66 = .ok (.goto (-48), 3) := dk_167 (by decide +kernel)
theorem dX12_key_69 : decode cX12_key 69 = .ok (.iinc 3 1, 3) := dk_132 (by decide +kernel)
theorem dX12_key_72 : decode cX12_key 72 = .ok (.iload 6, 2) := dk_21 (by decide +kernel)
theorem dX12_key_74 : decode cX12_key 74 = .ok (.ifCond .eq 12, 3) := dk_153 (by decide +kernel)
theorem dX12_key_77 : decode cX12_key 77 = .ok (.iload 5, 2) := dk_21 (by decide +kernel)
theorem dX12_key_79 : decode cX12_key 79 = .ok (.iload_n 2, 1) := dk_28 (by decide +kernel)
theorem dX12_key_80 : decode cX12_key 80 = .ok (.if_icmp .ne 6, 3) := dk_160 (by decide +kernel)
theorem dX12_key_83 : decode cX12_key 83 = .ok (.iload 4, 2) := dk_21 (by decide +kernel)
theorem dX12_key_85 : decode cX12_key 85 = .ok (.ireturn, 1) := dk_172 (by decide +kernel)
theorem dX12_key_86 : decode cX12_key 86 = .ok (.iinc 4 1, 3) := dk_132 (by decide +kernel)
theorem dX12_key_89 : decode cX12_key 89 = .ok (.goto (-84), 3) := dk_167 (by decide +kernel)
theorem dX12_key_92 : decode cX12_key 92 = .ok (.iconst (-1), 1) := dk_2 (by decide +kernel)
theorem dX12_key_93 : decode cX12_key 93 = .ok (.ireturn, 1) := dk_172 (by decide +kernel)
def wsRX12_key : List Cond := .code yX12_key cX12_key 7 (some .int) :: ([] ++ wsX120 ++ (va_wsS RX12 479 yX12_keyLetter wsRX12_keyLetter) ++ (wsV RX12 482 RX12 yX12_byteAt wsRX12_byteAt))
theorem iwsRX12_key_in12 : ∀ w ∈ wsX120, w ∈ wsRX12_key := fun _ h => List.mem_cons_of_mem _ (List.mem_append_left _ (List.mem_append_left _ (List.mem_append_right _ h)))
theorem gwsRX12_key_0 : GoodIn wsRX12_key (va_wsS RX12 479 yX12_keyLetter wsRX12_keyLetter) := goodIn_sub (fun _ h => List.mem_cons_of_mem _ (List.mem_append_left _ (List.mem_append_right _ h))) (gdS (by decide +kernel) gdwsRX12_keyLetter)
theorem gwsRX12_key_1 : GoodIn wsRX12_key (wsV RX12 482 RX12 yX12_byteAt wsRX12_byteAt) := goodIn_sub (fun _ h => List.mem_cons_of_mem _ (List.mem_append_right _ h)) (gdV (by decide +kernel) gdwsRX12_byteAt)
theorem gdwsRX12_key : wsRX12_key.all goodWord = true := gdC rfl (gdA (gdA (gdA (by decide +kernel : ([] : List Cond).all goodWord = true) gdwsX120) (gdS (by decide +kernel) gdwsRX12_keyLetter)) (gdV (by decide +kernel) gdwsRX12_byteAt))
set_option maxHeartbeats 4000000 in
set_option maxRecDepth 100000 in
/-- key(begin, n) -/
theorem r_X12_key (l : Launch) (dC : Nat → ClassId) (dI : Nat → Nat → Nat) (a : Nat → Nat) (k : Nat → ClassId) (h0 : Nat) (vi : Nat → Int32) (vj : Nat → Int64) (vF : Nat → Nat → Int32) (vG : Nat → Nat → Int64) (bn : Nat) (nn : Nat) (tp : Nat) (hTp : vi 16 = nI tp) (htp : tp ≤ 4000) (hbn : bn ≤ 4000) (hnn : nn ≤ 4000) (sz : Nat) : Met l yX12_key wsRX12_key ({ frames := 5, cells := 0, slots := 0, locals := 105 }) (va_Pc [.ref h0, .int (nI bn), .int (nI nn)] (fun U => U.heap.size = sz ∧ va_P (dC, dI) vwCl (WR a k h0 vi vj vF vG) U.heap ∧ va_K (dC, dI) vwCl (tX12 k) U ∧ va_D (fun _ => True) (WR a k h0 vi vj vF vG) ∧ StrA (va_A (WR a k h0 vi vj vF vG) sz) U U.heap)) (va_Qi (fun (r : Int32) (u : Unit) => True) (fun (u : Unit) t => va_P (dC, dI) vwCl (WR a k h0 vi vj vF vG) t.heap ∧ va_D (va_A (WR a k h0 vi vj vF vG) sz) (WR a k h0 vi vj vF vG)) (va_A (WR a k h0 vi vj vF vG) sz)) 0 0 (va_A (WR a k h0 vi vj vF vG) sz) := by
  refine Met.ofW (cc := cX12_key) (maxL := 7) (ret := (some .int)) (by decide) rfl ?_
  intro p e s m args below meth c s₁ B hml hv
  obtain ⟨rfl, hsz, hP, hK, hD0, hE⟩ := hv
  have hx := B.exec
  have hb := B.bytes
  have hr := B.returns
  have hts := atoms_spec (ws := wsRX12_key) B.pre
  have hown : s.vm.findClass RX12 = some m.cls := findClass_of_methodNamed B.named
  have hlocks := B.notSynchronized
  subst hsz
  have hD := hD0.self (sz := s.heap.size)
  generalize hAe : va_A (WR a k h0 vi vj vF vG) s.heap.size = A at hD hE ⊢
  have hA : ∀ q : Nat, s.heap.size ≤ q → A q := fun q h => by rw [← hAe]; exact Or.inr h
  have hS : va_S A s.heap s.heap [] := va_S.rf
  have hl := lv_entry ([.ref h0, .int (nI bn), .int (nI nn)]) (n := 7) (Nat.le_of_ble_eq_true rfl)
  rw [lg_entry_eq]
  generalize (lg_sl ([.ref h0, .int (nI bn), .int (nI nn)]) ++ List.replicate (7 - (lg_sl ([.ref h0, .int (nI bn), .int (nI nn)])).length) Slot.unset).toArray = ls at hl ⊢
  have hl : lv_has ls 7 [(0, .ref h0), (1, .int (nI bn)), (2, .int (nI nn))] := hl
  refine lv_iconst (v := 0) hx hb dX12_key_0 (by decide) ?_
  refine lv_istore_n hx hb dX12_key_1 rfl hl (by decide) rfl (fun ls (hl : lv_has ls _ ([(3, .int 0), (0, .ref h0), (1, .int (nI bn)), (2, .int (nI nn))])) => ?_)
  refine lv_iconst (v := 0) hx hb dX12_key_2 (by decide) ?_
  refine lv_istore hx hb dX12_key_3 hl (by decide) rfl (fun ls (hl : lv_has ls _ ([(4, .int 0), (3, .int 0), (0, .ref h0), (1, .int (nI bn)), (2, .int (nI nn))])) => ?_)
  have hl : lv_has _ _ ([(0, .ref h0), (1, .int (nI bn)), (2, .int (nI nn)), (3, .int (nI 0)), (4, .int (nI 0))]) := lv_sub hl [2, 3, 4, 1, 0] rfl
  refine (fun (loop : ∀ (n9 : Nat) (k5 : Nat) (i5 : Nat) (H : Heap) (locs : List Loc) (ls : Array Slot), (i5 ≤ 71 ∧ k5 ≤ 16 ∧ nSp i5 = k5) →  (16 < k5 + n9) → va_P (dC, dI) vwCl (WR a k h0 vi vj vF vG) H → va_D A (WR a k h0 vi vj vF vG) → va_S A s.heap H locs → lv_has ls 7 [(0, .ref h0), (1, .int (nI bn)), (2, .int (nI nn)), (3, .int (nI i5)), (4, .int (nI k5))] → W p l e _ s m _ below meth c H locs 0 0 _ (F0 m 5 ls [])) => loop (17) 0 0 _ _ _ (⟨by omega, by omega, rfl⟩) (by omega) hP hD hS hl) ?_
  intro n9
  induction n9 with
  | zero => intro k5 i5 H locs ls hi5 hf9; exact False.elim (by omega)
  | succ n9 ih5 =>
    intro k5 i5 H locs ls hi5 hf5 hP hD hS hl
    refine lv_iload hx hb dX12_key_5 (lv_at hl 4 rfl) ?_
    refine lv_bipush (v := 16) hx hb dX12_key_7 (by decide) ?_
    refine lv_icmp_ge (tgt := 92) hx hb dX12_key_9 (by decide) (fun c_9 => ?_) (fun c_9 => ?_)
    · have t_9 : ((k5 : Nat) : Int) ≥ 16 := toI_ge c_9 (nI_toInt (by omega)) (by decide)
      refine lv_iconst (v := (-1)) hx hb dX12_key_92 (by decide) ?_
      refine W.widen (k := 0) (n := 0) (by decide +kernel) (by decide +kernel) ?_
      exact W.iret (v := (-1)) hx hb hr (fun t9_ ht hW => ⟨⟨(-1), (), rfl, trivial, by rw [ht]; exact hP, hD⟩, hS.F ht⟩) hS.2.2 dX12_key_93
    · have t_9 : ¬ ((k5 : Nat) : Int) ≥ 16 := toI_nge c_9 (nI_toInt (by omega)) (by decide)
      refine lv_iconst (v := 0) hx hb dX12_key_12 (by decide) ?_
      refine lv_istore hx hb dX12_key_13 hl (by decide) rfl (fun ls (hl : lv_has ls _ ([(5, .int 0), (0, .ref h0), (1, .int (nI bn)), (2, .int (nI nn)), (3, .int (nI i5)), (4, .int (nI k5))])) => ?_)
      refine lv_iconst (v := 1) hx hb dX12_key_15 (by decide) ?_
      refine lv_istore hx hb dX12_key_16 hl (by decide) rfl (fun ls (hl : lv_has ls _ ([(6, .int 1), (5, .int 0), (0, .ref h0), (1, .int (nI bn)), (2, .int (nI nn)), (3, .int (nI i5)), (4, .int (nI k5))])) => ?_)
      have hl : lv_has _ _ ([(0, .ref h0), (1, .int (nI bn)), (2, .int (nI nn)), (3, .int (nI i5)), (4, .int (nI k5)), (5, .int (nI 0)), (6, .int 1)]) := lv_sub hl [2, 3, 4, 5, 6, 1, 0] rfl
      refine (fun (loop : ∀ (n9 : Nat) (i6 : Nat) (j6 : Nat) (iq : Int32) (H : Heap) (locs : List Loc) (ls : Array Slot), (i6 < 71 ∧ nSp i6 = k5 ∧ j6 ≤ i6) →  (71 < i6 + n9) → va_P (dC, dI) vwCl (WR a k h0 vi vj vF vG) H → va_D A (WR a k h0 vi vj vF vG) → va_S A s.heap H locs → lv_has ls 7 [(0, .ref h0), (1, .int (nI bn)), (2, .int (nI nn)), (3, .int (nI i6)), (4, .int (nI k5)), (5, .int (nI j6)), (6, .int iq)] → W p l e _ s m _ below meth c H locs 0 0 _ (F0 m 18 ls [])) => loop (72) i5 0 1 _ _ _ (⟨nSp_lt i5 (by omega) (by omega), by omega, by omega⟩) (by omega) hP hD hS hl) ?_
      intro n9
      induction n9 with
      | zero => intro i6 j6 iq H locs ls hi6 hf9; exact False.elim (by omega)
      | succ n9 ih18_1 =>
        intro i6 j6 iq H locs ls hi6 hf18_1 hP hD hS hl
        refine lv_iload_n hx hb dX12_key_18 rfl (lv_at hl 3 rfl) ?_
        have hFc := noneFree hS hA
        refine va_calli (va_runS (As := [.int (nI i6)]) (rest := []) ⟨hx, hb, hml, hown, hts⟩ (r_X12_keyLetter l dC dI i6 (by first | with_reducible assumption | decide | omega | rfl | assumption) H.size) (va_cwS 1 hts gwsRX12_key_0 rfl rfl rfl (by decide +kernel) ⟨by decide +kernel, by decide +kernel⟩) ⟨fun a U g mk q => by obtain ⟨q0, q1, qP, qK, qD, qE⟩ := q; exact ⟨q0, q1, qP, va_K.moved (u := U) (U := U.calling g mk a) (Vm.Alike.refl U.vm) qK, qD, qE.same rfl⟩, fun U hU9 hW => ⟨rfl, by rw [hU9], by rw [hU9]; exact nilP, va_K.moved hW.alike (hK.sub (tys' := []) [] rfl), nilD, by rw [hU9]; exact (((hE : StrA A s s.heap).kept hS.2.1).narrow (fun q h => hFc q h)).warm hW⟩⟩ rfl rfl hl.1 rfl (lv_room (Nat.le_of_ble_eq_true rfl)) dX12_key_19 (by decide +kernel)) hS (fun q _ h => hFc q h) hFc (fun r19 u t9_ H1 locs ht hvm hw9 hB9 hz1 hk1 hS => ?_)
        have hP := keepAll hP hk1
        clear hB9
        generalize H1 = H at hP hS ⊢
        have hP : va_P (dC, dI) vwCl (WR a k h0 vi vj vF vG) H := hP
        have hD : va_D A (WR a k h0 vi vj vF vG) := hD
        have f19_0 := hw9
        try dsimp only at f19_0
        refine lv_bipush (v := 32) hx hb dX12_key_22 (by decide) ?_
        refine lv_icmp_eq (tgt := 69) hx hb dX12_key_24 (by decide) (fun c_24 => ?_) (fun c_24 => ?_)
        · have t_24 : (r19).toInt = 32 := toI_eq c_24 rfl (by decide)
          refine lv_iinc (v := (nI (i6 + 1))) hx hb dX12_key_69 hl (k := 3) rfl (nI_add i6 1) (by decide) rfl (fun ls (hl : lv_has ls _ ([(3, .int (nI (i6 + 1))), (0, .ref h0), (1, .int (nI bn)), (2, .int (nI nn)), (4, .int (nI k5)), (5, .int (nI j6)), (6, .int iq)])) => ?_)
          refine lv_iload hx hb dX12_key_72 (lv_at hl 6 rfl) ?_
          refine W.cut (pc := 86) (fun H locs ls stk =>  stk = [] ∧ va_P (dC, dI) vwCl (WR a k h0 vi vj vF vG) H ∧ va_D A (WR a k h0 vi vj vF vG) ∧ va_S A s.heap H locs ∧ lv_has ls 7 [(3, .int (nI (i6 + 1))), (0, .ref h0), (1, .int (nI bn)), (2, .int (nI nn)), (4, .int (nI k5)), (5, .int (nI j6)), (6, .int iq)]) (fun join1 => ?_) ?_
          · refine lv_if_eq (tgt := 86) hx hb dX12_key_74 (by decide) (fun c_74 => ?_) (fun c_74 => ?_)
            · have t_74 : (iq).toInt = 0 := toI_eq c_74 rfl (by decide)
              have hl : lv_has _ _ ([(3, .int (nI (i6 + 1))), (0, .ref h0), (1, .int (nI bn)), (2, .int (nI nn)), (4, .int (nI k5)), (5, .int (nI j6)), (6, .int iq)]) := lv_sub hl [0, 1, 2, 3, 4, 5, 6] rfl
              exact join1 _ _ _ _ ⟨rfl, hP, hD, hS, hl⟩
            · have t_74 : ¬ (iq).toInt = 0 := toI_neq c_74 rfl (by decide)
              refine lv_iload hx hb dX12_key_77 (lv_at hl 5 rfl) ?_
              refine lv_iload_n hx hb dX12_key_79 rfl (lv_at hl 3 rfl) ?_
              refine lv_icmp_ne (tgt := 86) hx hb dX12_key_80 (by decide) (fun c_80 => ?_) (fun c_80 => ?_)
              · have t_80 : ((j6 : Nat) : Int) ≠ ((nn : Nat) : Int) := toI_ne c_80 (nI_toInt (by omega)) (nI_toInt (by omega))
                have hl : lv_has _ _ ([(3, .int (nI (i6 + 1))), (0, .ref h0), (1, .int (nI bn)), (2, .int (nI nn)), (4, .int (nI k5)), (5, .int (nI j6)), (6, .int iq)]) := lv_sub hl [0, 1, 2, 3, 4, 5, 6] rfl
                exact join1 _ _ _ _ ⟨rfl, hP, hD, hS, hl⟩
              · have t_80 : ((j6 : Nat) : Int) = ((nn : Nat) : Int) := toI_nne c_80 (nI_toInt (by omega)) (nI_toInt (by omega))
                refine lv_iload hx hb dX12_key_83 (lv_at hl 4 rfl) ?_
                refine W.widen (k := 0) (n := 0) (by decide +kernel) (by decide +kernel) ?_
                exact W.iret (v := (nI k5)) hx hb hr (fun t9_ ht hW => ⟨⟨(nI k5), (), rfl, trivial, by rw [ht]; exact hP, hD⟩, hS.F ht⟩) hS.2.2 dX12_key_85
          · rintro H locs ls stk ⟨rfl, hP, hD, hS, hl⟩
            refine lv_iinc (v := (nI (k5 + 1))) hx hb dX12_key_86 hl (k := 4) rfl (nI_add k5 1) (by decide) rfl (fun ls (hl : lv_has ls _ ([(4, .int (nI (k5 + 1))), (3, .int (nI (i6 + 1))), (0, .ref h0), (1, .int (nI bn)), (2, .int (nI nn)), (5, .int (nI j6)), (6, .int iq)])) => ?_)
            refine lv_goto (tgt := 5) hx hb dX12_key_89 (by decide) ?_
            have hl : lv_has _ _ ([(0, .ref h0), (1, .int (nI bn)), (2, .int (nI nn)), (3, .int (nI (i6 + 1))), (4, .int (nI (k5 + 1)))]) := lv_sub hl [2, 3, 4, 1, 0] rfl
            exact ih5 (k5 + 1) (i6 + 1) _ _ _ (by (have h9 : nSp (i6 + 1) = nSp i6 + 1 := by simp only [nSp]; rw [if_pos (by rw [← f19_0]; exact c_24)]); omega) (by omega) hP hD hS hl
        · have t_24 : ¬ (r19).toInt = 32 := toI_neq c_24 rfl (by decide)
          refine lv_iload hx hb dX12_key_27 (lv_at hl 6 rfl) ?_
          refine W.cut (pc := 58) (fun H locs ls stk => ∃ (j2_s0 : Int32),  stk = [.int j2_s0] ∧ va_P (dC, dI) vwCl (WR a k h0 vi vj vF vG) H ∧ va_D A (WR a k h0 vi vj vF vG) ∧ va_S A s.heap H locs ∧ lv_has ls 7 [(0, .ref h0), (1, .int (nI bn)), (2, .int (nI nn)), (3, .int (nI i6)), (4, .int (nI k5)), (5, .int (nI j6)), (6, .int iq)]) (fun join2 => ?_) ?_
          · refine lv_if_eq (tgt := 57) hx hb dX12_key_29 (by decide) (fun c_29 => ?_) (fun c_29 => ?_)
            · have t_29 : (iq).toInt = 0 := toI_eq c_29 rfl (by decide)
              refine lv_iconst (v := 0) hx hb dX12_key_57 (by decide) ?_
              have hl : lv_has _ _ ([(0, .ref h0), (1, .int (nI bn)), (2, .int (nI nn)), (3, .int (nI i6)), (4, .int (nI k5)), (5, .int (nI j6)), (6, .int iq)]) := lv_sub hl [0, 1, 2, 3, 4, 5, 6] rfl
              exact join2 _ _ _ _ ⟨0, rfl, hP, hD, hS, hl⟩
            · have t_29 : ¬ (iq).toInt = 0 := toI_neq c_29 rfl (by decide)
              refine lv_iload hx hb dX12_key_32 (lv_at hl 5 rfl) ?_
              refine lv_iload_n hx hb dX12_key_34 rfl (lv_at hl 2 rfl) ?_
              refine lv_icmp_ge (tgt := 57) hx hb dX12_key_35 (by decide) (fun c_35 => ?_) (fun c_35 => ?_)
              · have t_35 : ((j6 : Nat) : Int) ≥ ((nn : Nat) : Int) := toI_ge c_35 (nI_toInt (by omega)) (nI_toInt (by omega))
                refine lv_iconst (v := 0) hx hb dX12_key_57 (by decide) ?_
                have hl : lv_has _ _ ([(0, .ref h0), (1, .int (nI bn)), (2, .int (nI nn)), (3, .int (nI i6)), (4, .int (nI k5)), (5, .int (nI j6)), (6, .int iq)]) := lv_sub hl [0, 1, 2, 3, 4, 5, 6] rfl
                exact join2 _ _ _ _ ⟨0, rfl, hP, hD, hS, hl⟩
              · have t_35 : ¬ ((j6 : Nat) : Int) ≥ ((nn : Nat) : Int) := toI_nge c_35 (nI_toInt (by omega)) (nI_toInt (by omega))
                refine lv_aload_n hx hb dX12_key_38 rfl (lv_at hl 0 rfl) ?_
                refine lv_iload_n hx hb dX12_key_39 rfl (lv_at hl 1 rfl) ?_
                refine lv_iload hx hb dX12_key_40 (lv_at hl 5 rfl) ?_
                refine lv_iadd hx hb dX12_key_42 ?_
                refine lv_topi (fun y1 hy1 => ?_)
                obtain rfl : (nI (bn + j6)) = y1 := (hy1.trans (nI_add bn j6)).symm
                have hFc := allFree hD hS hA
                refine va_calli (va_runV (As := [.int (nI (bn + j6))]) (rest := []) ⟨hx, hb, hml, hown, hts⟩ (r_X12_byteAt l dC dI a k h0 vi vj vF vG (bn + j6) tp hTp (by first | with_reducible assumption | decide | omega | rfl | assumption) (by first | with_reducible assumption | decide | omega | rfl | assumption) H.size) (cwV 1 hts gwsRX12_key_1 rfl rfl rfl hd_yX12_byteAt_RX12 (by decide +kernel)) (fz_pre (va_recv hK hP (ci := 12) (q0 := 0) rfl rfl) hP hK hD) rfl rfl hl.1 rfl (lv_room (Nat.le_of_ble_eq_true rfl)) dX12_key_43 (by decide +kernel)) hS (fun q _ h => hFc q h) hFc (fun r43 u t9_ H locs ht hvm hw9 hB9 hz1 hk1 hS => ?_)
                have hP : va_P (dC, dI) vwCl (WR a k h0 vi vj vF vG) H := fz_P ht hB9.1
                have hD : va_D A (WR a k h0 vi vj vF vG) := hB9.2.weaken (fun _ q _ h => hFc q.1 h)
                obtain rfl := hw9
                refine lv_iload_n hx hb dX12_key_46 rfl (lv_at hl 3 rfl) ?_
                have hFc := noneFree hS hA
                refine va_calli (va_runS (As := [.int (nI i6)]) (rest := [.int (bA tp (vF 9) (bn + j6))]) ⟨hx, hb, hml, hown, hts⟩ (r_X12_keyLetter l dC dI i6 (by first | with_reducible assumption | decide | omega | rfl | assumption) H.size) (va_cwS 1 hts gwsRX12_key_0 rfl rfl rfl (by decide +kernel) ⟨by decide +kernel, by decide +kernel⟩) ⟨fun a U g mk q => by obtain ⟨q0, q1, qP, qK, qD, qE⟩ := q; exact ⟨q0, q1, qP, va_K.moved (u := U) (U := U.calling g mk a) (Vm.Alike.refl U.vm) qK, qD, qE.same rfl⟩, fun U hU9 hW => ⟨rfl, by rw [hU9], by rw [hU9]; exact nilP, va_K.moved hW.alike (hK.sub (tys' := []) [] rfl), nilD, by rw [hU9]; exact (((hE : StrA A s s.heap).kept hS.2.1).narrow (fun q h => hFc q h)).warm hW⟩⟩ rfl rfl hl.1 rfl (lv_room (Nat.le_of_ble_eq_true rfl)) dX12_key_47 (by decide +kernel)) hS (fun q _ h => hFc q h) hFc (fun r47 u t9_ H1 locs ht hvm hw9 hB9 hz1 hk1 hS => ?_)
                have hP := keepAll hP hk1
                clear hB9
                generalize H1 = H at hP hS ⊢
                have hP : va_P (dC, dI) vwCl (WR a k h0 vi vj vF vG) H := hP
                have hD : va_D A (WR a k h0 vi vj vF vG) := hD
                have f47_0 := hw9
                try dsimp only at f47_0
                refine lv_icmp_ne (tgt := 57) hx hb dX12_key_50 (by decide) (fun c_50 => ?_) (fun c_50 => ?_)
                · have t_50 : ((bA tp (vF 9) (bn + j6))).toInt ≠ (r47).toInt := toI_ne c_50 rfl rfl
                  refine lv_iconst (v := 0) hx hb dX12_key_57 (by decide) ?_
                  have hl : lv_has _ _ ([(0, .ref h0), (1, .int (nI bn)), (2, .int (nI nn)), (3, .int (nI i6)), (4, .int (nI k5)), (5, .int (nI j6)), (6, .int iq)]) := lv_sub hl [0, 1, 2, 3, 4, 5, 6] rfl
                  exact join2 _ _ _ _ ⟨0, rfl, hP, hD, hS, hl⟩
                · have t_50 : ((bA tp (vF 9) (bn + j6))).toInt = (r47).toInt := toI_nne c_50 rfl rfl
                  refine lv_iconst (v := 1) hx hb dX12_key_53 (by decide) ?_
                  refine lv_goto (tgt := 58) hx hb dX12_key_54 (by decide) ?_
                  have hl : lv_has _ _ ([(0, .ref h0), (1, .int (nI bn)), (2, .int (nI nn)), (3, .int (nI i6)), (4, .int (nI k5)), (5, .int (nI j6)), (6, .int iq)]) := lv_sub hl [0, 1, 2, 3, 4, 5, 6] rfl
                  exact join2 _ _ _ _ ⟨1, rfl, hP, hD, hS, hl⟩
          · rintro H locs ls stk ⟨j2_s0, rfl, hP, hD, hS, hl⟩
            refine lv_istore hx hb dX12_key_58 hl (by decide) rfl (fun ls (hl : lv_has ls _ ([(6, .int j2_s0), (0, .ref h0), (1, .int (nI bn)), (2, .int (nI nn)), (3, .int (nI i6)), (4, .int (nI k5)), (5, .int (nI j6))])) => ?_)
            refine lv_iinc (v := (nI (i6 + 1))) hx hb dX12_key_60 hl (k := 4) rfl (nI_add i6 1) (by decide) rfl (fun ls (hl : lv_has ls _ ([(3, .int (nI (i6 + 1))), (6, .int j2_s0), (0, .ref h0), (1, .int (nI bn)), (2, .int (nI nn)), (4, .int (nI k5)), (5, .int (nI j6))])) => ?_)
            refine lv_iinc (v := (nI (j6 + 1))) hx hb dX12_key_63 hl (k := 6) rfl (nI_add j6 1) (by decide) rfl (fun ls (hl : lv_has ls _ ([(5, .int (nI (j6 + 1))), (3, .int (nI (i6 + 1))), (6, .int j2_s0), (0, .ref h0), (1, .int (nI bn)), (2, .int (nI nn)), (4, .int (nI k5))])) => ?_)
            refine lv_goto (tgt := 18) hx hb dX12_key_66 (by decide) ?_
            have hl : lv_has _ _ ([(0, .ref h0), (1, .int (nI bn)), (2, .int (nI nn)), (3, .int (nI (i6 + 1))), (4, .int (nI k5)), (5, .int (nI (j6 + 1))), (6, .int j2_s0)]) := lv_sub hl [3, 4, 5, 1, 6, 0, 2] rfl
            exact ih18_1 (i6 + 1) (j6 + 1) j2_s0 _ _ _ (by (have h9 : nSp (i6 + 1) = nSp i6 := by simp only [nSp]; rw [if_neg (by rw [← f19_0]; exact c_24)]; rfl); (have h8 := kl_end i6 (by omega) (by rw [← f19_0]; exact c_24)); omega) (by omega) hP hD hS hl
end
section
/-- the word before the reader: from fn to an; only the end has no letters; a number has at most six figures -/
def LxO (tp fn an : Nat) (wd sg : Int32) : Prop := fn ≤ an ∧ an ≤ tp ∧ (wd = 0 ∨ fn < an) ∧ (wd = 3 → 0 ≤ sg.toInt ∧ sg.toInt ≤ 999999)
theorem i32z {x : Int32} (h : x.toInt = 0) : x = 0 := Int32.toInt_inj.mp (by rw [h]; decide)
end

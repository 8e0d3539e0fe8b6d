theorem hd_yX12_send_RX12 : yX12_send.cls = RX12 ∧ yX12_send.cls ≠ "java/lang/invoke/MethodHandle" ∧ yX12_send.cls ≠ "java/lang/invoke/VarHandle" ∧ (parseMethodDescriptor yX12_send.desc).map (fun d => d.parameters.length) = some 3 := by decide +kernel
theorem dX12_greatest_0 : decode cX12_greatest 0 = .ok (.aload_n 0, 1) := dk_42 (by decide +kernel)
theorem dX12_greatest_1 : decode cX12_greatest 1 = .ok (.iload_n 1, 1) := dk_27 (by decide +kernel)
theorem dX12_greatest_2 : decode cX12_greatest 2 = .ok (.iload_n 2, 1) := dk_28 (by decide +kernel)
theorem dX12_greatest_3 : decode cX12_greatest 3 = .ok (.invokevirtual 1079, 3) := dk_182 (by decide +kernel)
theorem dX12_greatest_6 : decode cX12_greatest 6 = .ok (.ifCond .eq 15, 3) := dk_153 (by decide +kernel)
theorem dX12_greatest_9 : decode cX12_greatest 9 = .ok (.aload_n 0, 1) := dk_42 (by decide +kernel)
theorem dX12_greatest_10 : decode cX12_greatest 10 = .ok (.iload_n 1, 1) := dk_27 (by decide +kernel)
theorem dX12_greatest_11 : decode cX12_greatest 11 = .ok (.iload_n 2, 1) := dk_28 (by decide +kernel)
theorem dX12_greatest_12 : decode cX12_greatest 12 = .ok (.ldc_w 1082, 3) := dk_19 (by decide +kernel)
theorem dX12_greatest_15 : decode cX12_greatest 15 = .ok (.invokevirtual 1083, 3) := dk_182 (by decide +kernel)
theorem dX12_greatest_18 : decode cX12_greatest 18 = .ok (.goto 4, 3) := dk_167 (by decide +kernel)
theorem dX12_greatest_21 : decode cX12_greatest 21 = .ok (.iconst 0, 1) := dk_3 (by decide +kernel)
theorem dX12_greatest_22 : decode cX12_greatest 22 = .ok (.ireturn, 1) := dk_172 (by decide +kernel)
def wsRX12_greatest : List Cond := .code yX12_greatest cX12_greatest 3 (some .int) :: ([.constant RX12 1082 100000] ++ wsX120 ++ (wsV RX12 1079 RX12 yX12_areEnds wsRX12_areEnds) ++ (wsV RX12 1083 RX12 yX12_send wsRX12_send))
theorem iwsRX12_greatest_in12 : ∀ w ∈ wsX120, w ∈ wsRX12_greatest := fun _ h => List.mem_cons_of_mem _ (List.mem_append_left _ (List.mem_append_left _ (List.mem_append_right _ h)))
theorem gwsRX12_greatest_0 : GoodIn wsRX12_greatest (wsV RX12 1079 RX12 yX12_areEnds wsRX12_areEnds) := goodIn_sub (fun _ h => List.mem_cons_of_mem _ (List.mem_append_left _ (List.mem_append_right _ h))) (gdV (by decide +kernel) gdwsRX12_areEnds)
theorem gwsRX12_greatest_1 : GoodIn wsRX12_greatest (wsV RX12 1083 RX12 yX12_send wsRX12_send) := goodIn_sub (fun _ h => List.mem_cons_of_mem _ (List.mem_append_right _ h)) (gdV (by decide +kernel) gdwsRX12_send)
theorem gdwsRX12_greatest : wsRX12_greatest.all goodWord = true := gdC rfl (gdA (gdA (gdA (by decide +kernel : ([.constant RX12 1082 100000] : List Cond).all goodWord = true) gdwsX120) (gdV (by decide +kernel) gdwsRX12_areEnds)) (gdV (by decide +kernel) gdwsRX12_send))
set_option maxHeartbeats 4000000 in
set_option maxRecDepth 100000 in
/-- greatest(s, t) -/
theorem r_X12_greatest (l : Launch) (dC : Nat → ClassId) (dI : Nat → Nat → Nat) (a : Nat → Nat) (k : Nat → ClassId) (h0 : Nat) (vi : Nat → Int32) (vj : Nat → Int64) (vF : Nat → Nat → Int32) (vG : Nat → Nat → Int64) (sI : Int32) (tI : Int32) (ar : Nat) (har : vi 150 = nI ar) (har40 : ar ≤ 40) (hAr : ArO (vF 95) (vF 96) (vF 97) (vF 98) ar) (sz : Nat) : Met l yX12_greatest wsRX12_greatest ({ frames := 2, cells := 0, slots := 0, locals := 54 }) (va_Pc [.ref h0, .int sI, .int tI] (fun U => U.heap.size = sz ∧ va_P (dC, dI) vwCl (WR a k h0 vi vj vF vG) U.heap ∧ va_K (dC, dI) vwCl (tX12 k) U ∧ va_D (fun _ => True) (WR a k h0 vi vj vF vG))) (va_Qi (fun (r : Int32) (u : (Int32) × (Nat → Int32) × (Nat → Int32) × (Nat → Int32)) => ((((u.1) = 1 ∧ ¬ ((0 ≤ (sI).toInt ∧ (sI).toInt ≤ 11) ∧ 0 ≤ (tI).toInt ∧ (tI).toInt ≤ 11)) ∨ ((u.1) = 2 ∧ ((0 ≤ (sI).toInt ∧ (sI).toInt ≤ 11) ∧ 0 ≤ (tI).toInt ∧ (tI).toInt ≤ 11) ∧ (sI).toInt = (tI).toInt))) ∨ (((u.1) = 0) ∧ (((0 ≤ (sI).toInt ∧ (sI).toInt ≤ 11) ∧ 0 ≤ (tI).toInt ∧ (tI).toInt ≤ 11) ∧ (sI).toInt ≠ (tI).toInt) ∧ (mxF (((ar : Nat) : Int), vF 95, vF 96, vF 97, vF 98) (sI).toInt.toNat (tI).toInt.toNat r.toInt))) (fun (u : (Int32) × (Nat → Int32) × (Nat → Int32) × (Nat → Int32)) t => va_P (dC, dI) vwCl (WR a k h0 (fT vi 0 (u.1)) vj (fT (fT (fT vF 99 (u.2.1)) 100 (u.2.2.1)) 101 (u.2.2.2)) vG) t.heap ∧ va_D (va_A (WR a k h0 vi vj vF vG) sz) (WR a k h0 (fT vi 0 (u.1)) vj (fT (fT (fT vF 99 (u.2.1)) 100 (u.2.2.1)) 101 (u.2.2.2)) vG)) (va_A (WR a k h0 vi vj vF vG) sz)) 0 0 (va_A (WR a k h0 vi vj vF vG) sz) := by
  refine Met.ofW (cc := cX12_greatest) (maxL := 3) (ret := (some .int)) (by decide) rfl ?_
  intro p e s m args below meth c s₁ B hml hv
  obtain ⟨rfl, hsz, hP, hK, hD0⟩ := hv
  have hx := B.exec
  have hb := B.bytes
  have hr := B.returns
  have hts := atoms_spec (ws := wsRX12_greatest) B.pre
  have hown : s.vm.findClass RX12 = some m.cls := findClass_of_methodNamed B.named
  have hlocks := B.notSynchronized
  subst hsz
  have hD := hD0.self (sz := s.heap.size)
  generalize hAe : va_A (WR a k h0 vi vj vF vG) s.heap.size = A at hD ⊢
  have hA : ∀ q : Nat, s.heap.size ≤ q → A q := fun q h => by rw [← hAe]; exact Or.inr h
  have hS : va_S A s.heap s.heap [] := va_S.rf
  have hl := lv_entry ([.ref h0, .int sI, .int tI]) (n := 3) (Nat.le_of_ble_eq_true rfl)
  rw [lg_entry_eq]
  generalize (lg_sl ([.ref h0, .int sI, .int tI]) ++ List.replicate (3 - (lg_sl ([.ref h0, .int sI, .int tI])).length) Slot.unset).toArray = ls at hl ⊢
  have hl : lv_has ls 3 [(0, .ref h0), (1, .int sI), (2, .int tI)] := hl
  refine lv_aload_n hx hb dX12_greatest_0 rfl (lv_at hl 0 rfl) ?_
  refine lv_iload_n hx hb dX12_greatest_1 rfl (lv_at hl 1 rfl) ?_
  refine lv_iload_n hx hb dX12_greatest_2 rfl (lv_at hl 2 rfl) ?_
  have hFc := allFree hD hS hA
  refine va_calli (va_runV (As := [.int sI, .int tI]) (rest := []) ⟨hx, hb, hml, hown, hts⟩ (r_X12_areEnds l dC dI a k h0 vi vj vF vG sI tI s.heap.size) (cwV 2 hts gwsRX12_greatest_0 rfl rfl rfl hd_yX12_areEnds_RX12 (by decide +kernel)) (fz_pre (va_recv hK hP (ci := 12) (q0 := 0) rfl rfl) hP hK hD) rfl rfl hl.1 rfl (lv_room (Nat.le_of_ble_eq_true rfl)) dX12_greatest_3 (by decide +kernel)) hS (fun q _ h => hFc q h) hFc (fun r3 u t9_ H locs ht hvm hw9 hB9 hz1 hk1 hS => ?_)
  obtain ⟨th3, hwit3⟩ : ∃ w9, w9 = u := ⟨u, rfl⟩
  subst hwit3
  have hP : va_P (dC, dI) vwCl (WR a k h0 (fT vi 0 th3) vj vF vG) H := fz_P ht hB9.1
  have hD : va_D A (WR a k h0 (fT vi 0 th3) vj vF vG) := hB9.2.weaken (fun _ q _ h => hFc q.1 h)
  rcases hw9 with ⟨rfl, f3_0, f3_1, f3_2, f3_3⟩ | ⟨rfl, f3_0⟩
  · refine lv_if_eq (tgt := 21) hx hb dX12_greatest_6 (by decide) (fun c9 => absurd c9 (by decide)) (fun _ => ?_)
    obtain ⟨sN, hsN, esN⟩ := of_toInt (x := sI) (k := 12) (by omega) (by omega)
    subst esN
    obtain ⟨tN, htN, etN⟩ := of_toInt (x := tI) (k := 12) (by omega) (by omega)
    subst etN
    have htsn : tN ≠ sN := fun e9 => f3_2 (by rw [e9])
    have es9 : (nI sN).toInt.toNat = sN := by rw [nI_toInt (by omega)]; omega
    have et9 : (nI tN).toInt.toNat = tN := by rw [nI_toInt (by omega)]; omega
    refine lv_aload_n hx hb dX12_greatest_9 rfl (lv_at hl 0 rfl) ?_
    refine lv_iload_n hx hb dX12_greatest_10 rfl (lv_at hl 1 rfl) ?_
    refine lv_iload_n hx hb dX12_greatest_11 rfl (lv_at hl 2 rfl) ?_
    refine lv_ldcw (v := 100000) hx hb hown (hts (.constant RX12 1082 100000) (by decide +kernel)) dX12_greatest_12 ?_
    have hFc := allFree hD hS hA
    refine va_calli (va_runV (As := [.int (nI sN), .int (nI tN), .int 100000]) (rest := []) ⟨hx, hb, hml, hown, hts⟩ (r_X12_send l dC dI a k h0 (fT vi 0 th3) vj vF vG ar sN tN 100000 har (by first | assumption | decide | omega | rfl) (by first | assumption | decide | omega | rfl) (by first | assumption | decide | omega | rfl) (by first | assumption | decide | omega | rfl) (by first | assumption | decide | omega | rfl) H.size) (cwV 3 hts gwsRX12_greatest_1 rfl rfl rfl hd_yX12_send_RX12 (by decide +kernel)) (fz_pre (va_recv hK hP (ci := 12) (q0 := 0) rfl rfl) hP hK hD) rfl rfl hl.1 rfl (lv_room (Nat.le_of_ble_eq_true rfl)) dX12_greatest_15 (by decide +kernel)) hS (fun q _ h => hFc q h) hFc (fun r15 u t9_ H locs ht hvm hw9 hB9 hz1 hk1 hS => ?_)
    obtain ⟨g9915, g10015, g10115⟩ := u
    try dsimp only at hw9 hB9
    have hP : va_P (dC, dI) vwCl (WR a k h0 (fT vi 0 th3) vj (fT (fT (fT vF 99 g9915) 100 g10015) 101 g10115) vG) H := fz_P ht hB9.1
    have hD : va_D A (WR a k h0 (fT vi 0 th3) vj (fT (fT (fT vF 99 g9915) 100 g10015) 101 g10115) vG) := hB9.2.weaken (fun _ q _ h => hFc q.1 h)
    obtain ⟨f15_0, f15_1, f15_2, f15_3, f15_4, f15_5⟩ := hw9
    have f15_0 : FlO (vF 97) g9915 ar := f15_0
    have f15_1 : rsI (((ar : Nat) : Int), (vF 95), (vF 96), (vF 97), (vF 98)) sN tN (fI g9915) r15.toInt ar := f15_1
    have f15_2 : r15.toInt < (100000 : Int32).toInt → ∃ R, sep sN tN R ∧ flC (((ar : Nat) : Int), (vF 95), (vF 96), (vF 97), (vF 98)) (fI g9915) R ar := f15_2
    have f15_4 : ∃ p, PoO (vF 95) (vF 96) (vF 97) (vF 98) g9915 ar (fun _ => True) p := f15_4
    refine lv_goto (tgt := 22) hx hb dX12_greatest_18 (by decide) ?_
    refine W.widen (k := 0) (n := 0) (by decide +kernel) (by decide +kernel) ?_
    exact W.iret (v := r15) hx hb hr (fun t9_ ht hW => ⟨⟨r15, (th3, g9915, g10015, g10115), rfl, by (try dsimp only); exact Or.inr ⟨f3_3, ⟨by omega, fun e9 => f3_2 (Int32.toInt_inj.mp e9)⟩, by rw [es9, et9]; exact rsI.great hAr har40 f15_0 htsn f15_1 f15_2 (by decide)⟩, by rw [ht]; exact hP, hD⟩, hS.F ht⟩) hS.2.2 dX12_greatest_22
  · refine lv_if_eq (tgt := 21) hx hb dX12_greatest_6 (by decide) (fun _ => ?_) (fun c9 => absurd (by decide) c9)
    refine lv_iconst (v := 0) hx hb dX12_greatest_21 (by decide) ?_
    refine W.widen (k := 0) (n := 0) (by decide +kernel) (by decide +kernel) ?_
    have e9 : fT (fT (fT vF 99 (vF 99)) 100 (vF 100)) 101 (vF 101) = vF := (fT_id _ _ ((fT_ne _ _ (Nat.ne_of_beq_eq_false rfl)).trans (fT_ne _ _ (Nat.ne_of_beq_eq_false rfl)))).trans ((fT_id _ _ (fT_ne _ _ (Nat.ne_of_beq_eq_false rfl))).trans (fT_id _ _ (rfl)))
    have hP : va_P (dC, dI) vwCl (WR a k h0 (fT vi 0 th3) vj (fT (fT (fT vF 99 (vF 99)) 100 (vF 100)) 101 (vF 101)) vG) H := by rw [e9]; exact hP
    have hD : va_D A (WR a k h0 (fT vi 0 th3) vj (fT (fT (fT vF 99 (vF 99)) 100 (vF 100)) 101 (vF 101)) vG) := by rw [e9]; exact hD
    clear e9
    exact W.iret (v := 0) hx hb hr (fun t9_ ht hW => ⟨⟨0, (th3, (vF 99), (vF 100), (vF 101)), rfl, by (try dsimp only); exact Or.inl f3_0, by rw [ht]; exact hP, hD⟩, hS.F ht⟩) hS.2.2 dX12_greatest_22
theorem dX12_cheapest_0 : decode cX12_cheapest 0 = .ok (.aload_n 0, 1) := dk_42 (by decide +kernel)
theorem dX12_cheapest_1 : decode cX12_cheapest 1 = .ok (.iload_n 1, 1) := dk_27 (by decide +kernel)
theorem dX12_cheapest_2 : decode cX12_cheapest 2 = .ok (.iload_n 2, 1) := dk_28 (by decide +kernel)
theorem dX12_cheapest_3 : decode cX12_cheapest 3 = .ok (.invokevirtual 1079, 3) := dk_182 (by decide +kernel)
theorem dX12_cheapest_6 : decode cX12_cheapest 6 = .ok (.ifCond .ne 5, 3) := dk_154 (by decide +kernel)
theorem dX12_cheapest_9 : decode cX12_cheapest 9 = .ok (.iconst 0, 1) := dk_3 (by decide +kernel)
theorem dX12_cheapest_10 : decode cX12_cheapest 10 = .ok (.ireturn, 1) := dk_172 (by decide +kernel)
theorem dX12_cheapest_11 : decode cX12_cheapest 11 = .ok (.iload_n 3, 1) := dk_29 (by decide +kernel)
theorem dX12_cheapest_12 : decode cX12_cheapest 12 = .ok (.ifCond .lt 14, 3) := dk_155 (by decide +kernel)
theorem dX12_cheapest_15 : decode cX12_cheapest 15 = .ok (.aload_n 0, 1) := dk_42 (by decide +kernel)
theorem dX12_cheapest_16 : decode cX12_cheapest 16 = .ok (.iload_n 1, 1) := dk_27 (by decide +kernel)
theorem dX12_cheapest_17 : decode cX12_cheapest 17 = .ok (.iload_n 2, 1) := dk_28 (by decide +kernel)
theorem dX12_cheapest_18 : decode cX12_cheapest 18 = .ok (.iload_n 3, 1) := dk_29 (by decide +kernel)
theorem dX12_cheapest_19 : decode cX12_cheapest 19 = .ok (.invokevirtual 1083, 3) := dk_182 (by decide +kernel)
theorem dX12_cheapest_22 : decode cX12_cheapest 22 = .ok (.iload_n 3, 1) := dk_29 (by decide +kernel)
theorem dX12_cheapest_23 : decode cX12_cheapest 23 = .ok (.if_icmp .ge 5, 3) := dk_162 (by decide +kernel)
theorem dX12_cheapest_26 : decode cX12_cheapest 26 = .ok (.iconst (-1), 1) := dk_2 (by decide +kernel)
theorem dX12_cheapest_27 : decode cX12_cheapest 27 = .ok (.ireturn, 1) := dk_172 (by decide +kernel)
theorem dX12_cheapest_28 : decode cX12_cheapest 28 = .ok (.iconst 0, 1) := dk_3 (by decide +kernel)
theorem dX12_cheapest_29 : decode cX12_cheapest 29 = .ok (.istore 4, 2) := dk_54 (by decide +kernel)
theorem dX12_cheapest_31 : decode cX12_cheapest 31 = .ok (.iconst 0, 1) := dk_3 (by decide +kernel)
theorem dX12_cheapest_32 : decode cX12_cheapest 32 = .ok (.istore 5, 2) := dk_54 (by decide +kernel)
theorem dX12_cheapest_34 : decode cX12_cheapest 34 = .ok (.iload 5, 2) := dk_21 (by decide +kernel)
theorem dX12_cheapest_36 : decode cX12_cheapest 36 = .ok (.aload_n 0, 1) := dk_42 (by decide +kernel)
theorem dX12_cheapest_37 : decode cX12_cheapest 37 = .ok (.getfield 1069, 3) := dk_180 (by decide +kernel)
theorem dX12_cheapest_40 : decode cX12_cheapest 40 = .ok (.if_icmp .ge 29, 3) := dk_162 (by decide +kernel)
theorem dX12_cheapest_43 : decode cX12_cheapest 43 = .ok (.iload 4, 2) := dk_21 (by decide +kernel)
theorem dX12_cheapest_45 : decode cX12_cheapest 45 = .ok (.aload_n 0, 1) := dk_42 (by decide +kernel)
theorem dX12_cheapest_46 : decode cX12_cheapest 46 = .ok (.getfield 324, 3) := dk_180 (by decide +kernel)
theorem dX12_cheapest_49 : decode cX12_cheapest 49 = .ok (.iload 5, 2) := dk_21 (by decide +kernel)
theorem dX12_cheapest_51 : decode cX12_cheapest 51 = .ok (.iaload, 1) := dk_46 (by decide +kernel)
theorem dX12_cheapest_52 : decode cX12_cheapest 52 = .ok (.aload_n 0, 1) := dk_42 (by decide +kernel)
theorem dX12_cheapest_53 : decode cX12_cheapest 53 = .ok (.getfield 321, 3) := dk_180 (by decide +kernel)
theorem dX12_cheapest_56 : decode cX12_cheapest 56 = .ok (.iload 5, 2) := dk_21 (by decide +kernel)
theorem dX12_cheapest_58 : decode cX12_cheapest 58 = .ok (.iaload, 1) := dk_46 (by decide +kernel)
theorem dX12_cheapest_59 : decode cX12_cheapest 59 = .ok (.imul, 1) := dk_104 (by decide +kernel)
theorem dX12_cheapest_60 : decode cX12_cheapest 60 = .ok (.iadd, 1) := dk_96 (by decide +kernel)
theorem dX12_cheapest_61 : decode cX12_cheapest 61 = .ok (.istore 4, 2) := dk_54 (by decide +kernel)
theorem dX12_cheapest_63 : decode cX12_cheapest 63 = .ok (.iinc 5 1, 3) := dk_132 (by decide +kernel)
theorem dX12_cheapest_66 : decode cX12_cheapest 66 = .ok (.goto (-32), 3) := dk_167 (by decide +kernel)
theorem dX12_cheapest_69 : decode cX12_cheapest 69 = .ok (.iload 4, 2) := dk_21 (by decide +kernel)
theorem dX12_cheapest_71 : decode cX12_cheapest 71 = .ok (.ireturn, 1) := dk_172 (by decide +kernel)
def wsRX12_cheapest : List Cond := .code yX12_cheapest cX12_cheapest 6 (some .int) :: ([.fieldLink RX12 1069 "OptimaWorksModel" "arcs" "I", .fieldLink RX12 324 "OptimaWorksModel" "flow" "[I", .fieldLink RX12 321 "OptimaWorksModel" "arcCost" "[I"] ++ wsX120 ++ (wsV RX12 1079 RX12 yX12_areEnds wsRX12_areEnds) ++ (wsV RX12 1083 RX12 yX12_send wsRX12_send))
theorem iwsRX12_cheapest_in12 : ∀ w ∈ wsX120, w ∈ wsRX12_cheapest := fun _ h => List.mem_cons_of_mem _ (List.mem_append_left _ (List.mem_append_left _ (List.mem_append_right _ h)))
theorem gwsRX12_cheapest_0 : GoodIn wsRX12_cheapest (wsV RX12 1079 RX12 yX12_areEnds wsRX12_areEnds) := goodIn_sub (fun _ h => List.mem_cons_of_mem _ (List.mem_append_left _ (List.mem_append_right _ h))) (gdV (by decide +kernel) gdwsRX12_areEnds)
theorem gwsRX12_cheapest_1 : GoodIn wsRX12_cheapest (wsV RX12 1083 RX12 yX12_send wsRX12_send) := goodIn_sub (fun _ h => List.mem_cons_of_mem _ (List.mem_append_right _ h)) (gdV (by decide +kernel) gdwsRX12_send)
theorem gdwsRX12_cheapest : wsRX12_cheapest.all goodWord = true := gdC rfl (gdA (gdA (gdA (by decide +kernel : ([.fieldLink RX12 1069 "OptimaWorksModel" "arcs" "I", .fieldLink RX12 324 "OptimaWorksModel" "flow" "[I", .fieldLink RX12 321 "OptimaWorksModel" "arcCost" "[I"] : List Cond).all goodWord = true) gdwsX120) (gdV (by decide +kernel) gdwsRX12_areEnds)) (gdV (by decide +kernel) gdwsRX12_send))
set_option maxHeartbeats 4000000 in
set_option maxRecDepth 100000 in
/-- cheapest(s, t, amount) -/
theorem r_X12_cheapest (l : Launch) (dC : Nat → ClassId) (dI : Nat → Nat → Nat) (a : Nat → Nat) (k : Nat → ClassId) (h0 : Nat) (vi : Nat → Int32) (vj : Nat → Int64) (vF : Nat → Nat → Int32) (vG : Nat → Nat → Int64) (amI : Int32) (sI : Int32) (tI : Int32) (ar : Nat) (har : vi 150 = nI ar) (har40 : ar ≤ 40) (hAr : ArO (vF 95) (vF 96) (vF 97) (vF 98) ar) (sz : Nat) : Met l yX12_cheapest wsRX12_cheapest ({ frames := 2, cells := 0, slots := 0, locals := 54 }) (va_Pc [.ref h0, .int sI, .int tI, .int amI] (fun U => U.heap.size = sz ∧ va_P (dC, dI) vwCl (WR a k h0 vi vj vF vG) U.heap ∧ va_K (dC, dI) vwCl (tX12 k) U ∧ va_D (fun _ => True) (WR a k h0 vi vj vF vG))) (va_Qi (fun (r : Int32) (u : (Int32) × (Nat → Int32) × (Nat → Int32) × (Nat → Int32)) => ((((u.1) = 1 ∧ ¬ ((0 ≤ (sI).toInt ∧ (sI).toInt ≤ 11) ∧ 0 ≤ (tI).toInt ∧ (tI).toInt ≤ 11)) ∨ ((u.1) = 2 ∧ ((0 ≤ (sI).toInt ∧ (sI).toInt ≤ 11) ∧ 0 ≤ (tI).toInt ∧ (tI).toInt ≤ 11) ∧ (sI).toInt = (tI).toInt))) ∨ (((u.1) = 0) ∧ (((0 ≤ (sI).toInt ∧ (sI).toInt ≤ 11) ∧ 0 ≤ (tI).toInt ∧ (tI).toInt ≤ 11) ∧ (sI).toInt ≠ (tI).toInt) ∧ (mnC (((ar : Nat) : Int), vF 95, vF 96, vF 97, vF 98) (sI).toInt.toNat (tI).toInt.toNat (amI).toInt r.toInt))) (fun (u : (Int32) × (Nat → Int32) × (Nat → Int32) × (Nat → Int32)) t => va_P (dC, dI) vwCl (WR a k h0 (fT vi 0 (u.1)) vj (fT (fT (fT vF 99 (u.2.1)) 100 (u.2.2.1)) 101 (u.2.2.2)) vG) t.heap ∧ va_D (va_A (WR a k h0 vi vj vF vG) sz) (WR a k h0 (fT vi 0 (u.1)) vj (fT (fT (fT vF 99 (u.2.1)) 100 (u.2.2.1)) 101 (u.2.2.2)) vG)) (va_A (WR a k h0 vi vj vF vG) sz)) 0 0 (va_A (WR a k h0 vi vj vF vG) sz) := by
  refine Met.ofW (cc := cX12_cheapest) (maxL := 6) (ret := (some .int)) (by decide) rfl ?_
  intro p e s m args below meth c s₁ B hml hv
  obtain ⟨rfl, hsz, hP, hK, hD0⟩ := hv
  have hx := B.exec
  have hb := B.bytes
  have hr := B.returns
  have hts := atoms_spec (ws := wsRX12_cheapest) B.pre
  have hown : s.vm.findClass RX12 = some m.cls := findClass_of_methodNamed B.named
  have hlocks := B.notSynchronized
  subst hsz
  have hD := hD0.self (sz := s.heap.size)
  generalize hAe : va_A (WR a k h0 vi vj vF vG) s.heap.size = A at hD ⊢
  have hA : ∀ q : Nat, s.heap.size ≤ q → A q := fun q h => by rw [← hAe]; exact Or.inr h
  have hS : va_S A s.heap s.heap [] := va_S.rf
  have hl := lv_entry ([.ref h0, .int sI, .int tI, .int amI]) (n := 6) (Nat.le_of_ble_eq_true rfl)
  rw [lg_entry_eq]
  generalize (lg_sl ([.ref h0, .int sI, .int tI, .int amI]) ++ List.replicate (6 - (lg_sl ([.ref h0, .int sI, .int tI, .int amI])).length) Slot.unset).toArray = ls at hl ⊢
  have hl : lv_has ls 6 [(0, .ref h0), (1, .int sI), (2, .int tI), (3, .int amI)] := hl
  refine lv_aload_n hx hb dX12_cheapest_0 rfl (lv_at hl 0 rfl) ?_
  refine lv_iload_n hx hb dX12_cheapest_1 rfl (lv_at hl 1 rfl) ?_
  refine lv_iload_n hx hb dX12_cheapest_2 rfl (lv_at hl 2 rfl) ?_
  have hFc := allFree hD hS hA
  refine va_calli (va_runV (As := [.int sI, .int tI]) (rest := []) ⟨hx, hb, hml, hown, hts⟩ (r_X12_areEnds l dC dI a k h0 vi vj vF vG sI tI s.heap.size) (cwV 2 hts gwsRX12_cheapest_0 rfl rfl rfl hd_yX12_areEnds_RX12 (by decide +kernel)) (fz_pre (va_recv hK hP (ci := 12) (q0 := 0) rfl rfl) hP hK hD) rfl rfl hl.1 rfl (lv_room (Nat.le_of_ble_eq_true rfl)) dX12_cheapest_3 (by decide +kernel)) hS (fun q _ h => hFc q h) hFc (fun r3 u t9_ H locs ht hvm hw9 hB9 hz1 hk1 hS => ?_)
  obtain ⟨th3, hwit3⟩ : ∃ w9, w9 = u := ⟨u, rfl⟩
  subst hwit3
  have hP : va_P (dC, dI) vwCl (WR a k h0 (fT vi 0 th3) vj vF vG) H := fz_P ht hB9.1
  have hD : va_D A (WR a k h0 (fT vi 0 th3) vj vF vG) := hB9.2.weaken (fun _ q _ h => hFc q.1 h)
  rcases hw9 with ⟨rfl, f3_0, f3_1, f3_2, f3_3⟩ | ⟨rfl, f3_0⟩
  · refine lv_if_ne (tgt := 11) hx hb dX12_cheapest_6 (by decide) (fun _ => ?_) (fun c9 => absurd c9 (by decide))
    obtain ⟨sN, hsN, esN⟩ := of_toInt (x := sI) (k := 12) (by omega) (by omega)
    subst esN
    obtain ⟨tN, htN, etN⟩ := of_toInt (x := tI) (k := 12) (by omega) (by omega)
    subst etN
    have htsn : tN ≠ sN := fun e9 => f3_2 (by rw [e9])
    have es9 : (nI sN).toInt.toNat = sN := by rw [nI_toInt (by omega)]; omega
    have et9 : (nI tN).toInt.toNat = tN := by rw [nI_toInt (by omega)]; omega
    refine lv_iload_n hx hb dX12_cheapest_11 rfl (lv_at hl 3 rfl) ?_
    refine lv_if_lt (tgt := 26) hx hb dX12_cheapest_12 (by decide) (fun c_12 => ?_) (fun c_12 => ?_)
    · have t_12 : (amI).toInt < 0 := toI_lt c_12 rfl (by decide)
      refine lv_iconst (v := (-1)) hx hb dX12_cheapest_26 (by decide) ?_
      refine W.widen (k := 0) (n := 0) (by decide +kernel) (by decide +kernel) ?_
      have e9 : fT (fT (fT vF 99 (vF 99)) 100 (vF 100)) 101 (vF 101) = vF := (fT_id _ _ ((fT_ne _ _ (Nat.ne_of_beq_eq_false rfl)).trans (fT_ne _ _ (Nat.ne_of_beq_eq_false rfl)))).trans ((fT_id _ _ (fT_ne _ _ (Nat.ne_of_beq_eq_false rfl))).trans (fT_id _ _ (rfl)))
      have hP : va_P (dC, dI) vwCl (WR a k h0 (fT vi 0 th3) vj (fT (fT (fT vF 99 (vF 99)) 100 (vF 100)) 101 (vF 101)) vG) H := by rw [e9]; exact hP
      have hD : va_D A (WR a k h0 (fT vi 0 th3) vj (fT (fT (fT vF 99 (vF 99)) 100 (vF 100)) 101 (vF 101)) vG) := by rw [e9]; exact hD
      clear e9
      exact W.iret (v := (-1)) hx hb hr (fun t9_ ht hW => ⟨⟨(-1), (th3, (vF 99), (vF 100), (vF 101)), rfl, by (try dsimp only); exact Or.inr ⟨f3_3, ⟨by omega, fun e9 => f3_2 (Int32.toInt_inj.mp e9)⟩, by rw [es9, et9]; exact Or.inl ⟨t_12, by decide⟩⟩, by rw [ht]; exact hP, hD⟩, hS.F ht⟩) hS.2.2 dX12_cheapest_27
    · have t_12 : ¬ (amI).toInt < 0 := toI_nlt c_12 rfl (by decide)
      refine lv_aload_n hx hb dX12_cheapest_15 rfl (lv_at hl 0 rfl) ?_
      refine lv_iload_n hx hb dX12_cheapest_16 rfl (lv_at hl 1 rfl) ?_
      refine lv_iload_n hx hb dX12_cheapest_17 rfl (lv_at hl 2 rfl) ?_
      refine lv_iload_n hx hb dX12_cheapest_18 rfl (lv_at hl 3 rfl) ?_
      have hFc := allFree hD hS hA
      refine va_calli (va_runV (As := [.int (nI sN), .int (nI tN), .int amI]) (rest := []) ⟨hx, hb, hml, hown, hts⟩ (r_X12_send l dC dI a k h0 (fT vi 0 th3) vj vF vG ar sN tN amI har (by first | assumption | decide | omega | rfl) (by first | assumption | decide | omega | rfl) (by first | assumption | decide | omega | rfl) (by first | assumption | decide | omega | rfl) (by first | assumption | decide | omega | rfl) H.size) (cwV 3 hts gwsRX12_cheapest_1 rfl rfl rfl hd_yX12_send_RX12 (by decide +kernel)) (fz_pre (va_recv hK hP (ci := 12) (q0 := 0) rfl rfl) hP hK hD) rfl rfl hl.1 rfl (lv_room (Nat.le_of_ble_eq_true rfl)) dX12_cheapest_19 (by decide +kernel)) hS (fun q _ h => hFc q h) hFc (fun r19 u t9_ H locs ht hvm hw9 hB9 hz1 hk1 hS => ?_)
      obtain ⟨g9919, g10019, g10119⟩ := u
      try dsimp only at hw9 hB9
      have hP : va_P (dC, dI) vwCl (WR a k h0 (fT vi 0 th3) vj (fT (fT (fT vF 99 g9919) 100 g10019) 101 g10119) vG) H := fz_P ht hB9.1
      have hD : va_D A (WR a k h0 (fT vi 0 th3) vj (fT (fT (fT vF 99 g9919) 100 g10019) 101 g10119) vG) := hB9.2.weaken (fun _ q _ h => hFc q.1 h)
      obtain ⟨f19_0, f19_1, f19_2, f19_3, f19_4, f19_5⟩ := hw9
      have f19_0 : FlO (vF 97) g9919 ar := f19_0
      have f19_1 : rsI (((ar : Nat) : Int), (vF 95), (vF 96), (vF 97), (vF 98)) sN tN (fI g9919) r19.toInt ar := f19_1
      have f19_2 : r19.toInt < (amI : Int32).toInt → ∃ R, sep sN tN R ∧ flC (((ar : Nat) : Int), (vF 95), (vF 96), (vF 97), (vF 98)) (fI g9919) R ar := f19_2
      have f19_4 : ∃ p, PoO (vF 95) (vF 96) (vF 97) (vF 98) g9919 ar (fun _ => True) p := f19_4
      refine lv_iload_n hx hb dX12_cheapest_22 rfl (lv_at hl 3 rfl) ?_
      refine lv_icmp_ge (tgt := 28) hx hb dX12_cheapest_23 (by decide) (fun c_23 => ?_) (fun c_23 => ?_)
      · have t_23 : (r19).toInt ≥ (amI).toInt := toI_ge c_23 rfl rfl
        refine lv_iconst (v := 0) hx hb dX12_cheapest_28 (by decide) ?_
        refine lv_istore hx hb dX12_cheapest_29 hl (by decide) rfl (fun ls (hl : lv_has ls _ ([(4, .int 0), (0, .ref h0), (1, .int (nI sN)), (2, .int (nI tN)), (3, .int amI)])) => ?_)
        refine lv_iconst (v := 0) hx hb dX12_cheapest_31 (by decide) ?_
        refine lv_istore hx hb dX12_cheapest_32 hl (by decide) rfl (fun ls (hl : lv_has ls _ ([(5, .int 0), (4, .int 0), (0, .ref h0), (1, .int (nI sN)), (2, .int (nI tN)), (3, .int amI)])) => ?_)
        have hl : lv_has _ _ ([(0, .ref h0), (4, .int 0), (5, .int (nI 0))]) := lv_sub hl [2, 1, 0] rfl
        refine (fun (loop : ∀ (n9 : Nat) (a5 : Nat) (nq : Int32) (H : Heap) (locs : List Loc) (ls : Array Slot), (a5 ≤ ar) → ((nq).toInt = csA (((ar : Nat) : Int), vF 95, vF 96, vF 97, vF 98) (fI g9919) a5 ∧ 0 ≤ (nq).toInt ∧ (nq).toInt ≤ 1000000 * ((a5 : Nat) : Int)) →  (ar < a5 + n9) → va_P (dC, dI) vwCl (WR a k h0 (fT vi 0 th3) vj (fT (fT (fT vF 99 g9919) 100 g10019) 101 g10119) vG) H → va_D A (WR a k h0 (fT vi 0 th3) vj (fT (fT (fT vF 99 g9919) 100 g10019) 101 g10119) vG) → va_S A s.heap H locs → lv_has ls 6 [(0, .ref h0), (4, .int nq), (5, .int (nI a5))] → W p l e _ s m _ below meth c H locs 0 0 _ (F0 m 34 ls [])) => loop (ar + 1) 0 0 _ _ _ (by omega) (⟨(show (0 : Int32).toInt = 0 from by decide), by decide, by decide⟩) (by omega) hP hD hS hl) ?_
        intro n9
        induction n9 with
        | zero => intro a5 nq H locs ls ha5 hcs hf9; exact False.elim (by omega)
        | succ n9 ih34 =>
          intro a5 nq H locs ls ha5 hcs hf34 hP hD hS hl
          refine lv_iload hx hb dX12_cheapest_34 (lv_at hl 2 rfl) ?_
          refine lv_aload_n hx hb dX12_cheapest_36 rfl (lv_at hl 0 rfl) ?_
          refine va_get (D := (dC, dI)) (ci := 12) (v := .int (vi 150)) (C := RX12) (T := TX12) (N := 163) (fs := fM (vS a (fT vi 0 th3) vj)) hx hb hts iwsRX12_cheapest_in12 hown hK hP 0 rfl rfl 150 (by decide) (hts (.fieldLink RX12 1069 "OptimaWorksModel" "arcs" "I") (by decide +kernel)) (fun _ h9 => h9) rfl dX12_cheapest_37 ?_
          refine lv_topi (fun y1 hy1 => ?_)
          obtain rfl : (nI ar) = y1 := (hy1.trans (har)).symm
          refine lv_icmp_ge (tgt := 69) hx hb dX12_cheapest_40 (by decide) (fun c_40 => ?_) (fun c_40 => ?_)
          · have t_40 : ((a5 : Nat) : Int) ≥ ((ar : Nat) : Int) := toI_ge c_40 (nI_toInt (by omega)) (nI_toInt (by omega))
            refine lv_iload hx hb dX12_cheapest_69 (lv_at hl 1 rfl) ?_
            refine W.widen (k := 0) (n := 0) (by decide +kernel) (by decide +kernel) ?_
            exact W.iret (v := nq) hx hb hr (fun t9_ ht hW => ⟨⟨nq, (th3, g9919, g10019, g10119), rfl, by (try dsimp only); exact Or.inr ⟨f3_3, ⟨by omega, fun e9 => f3_2 (Int32.toInt_inj.mp e9)⟩, by rw [es9, et9]; exact mnC.some hAr f19_0 f19_1 f19_4 (by omega) (by omega) (by (have h9 := hcs.1); rw [show a5 = ar from by omega] at h9; exact h9)⟩, by rw [ht]; exact hP, hD⟩, hS.F ht⟩) hS.2.2 dX12_cheapest_71
          · have t_40 : ¬ ((a5 : Nat) : Int) ≥ ((ar : Nat) : Int) := toI_nge c_40 (nI_toInt (by omega)) (nI_toInt (by omega))
            obtain ⟨x5, yB, hx5, hyB, hxy5, ex5, eyB, hr5, hc5⟩ := hAr a5 (by omega)
            have hfl5 := f19_0 a5 (by omega)
            refine lv_iload hx hb dX12_cheapest_43 (lv_at hl 1 rfl) ?_
            refine lv_aload_n hx hb dX12_cheapest_45 rfl (lv_at hl 0 rfl) ?_
            refine va_get (D := (dC, dI)) (ci := 12) (v := .ref (a 99)) (C := RX12) (T := TX12) (N := 163) (fs := fM (vS a (fT vi 0 th3) vj)) hx hb hts iwsRX12_cheapest_in12 hown hK hP 0 rfl rfl 155 (by decide) (hts (.fieldLink RX12 324 "OptimaWorksModel" "flow" "[I") (by decide +kernel)) (fun _ h9 => h9) rfl dX12_cheapest_46 ?_
            refine lv_iload hx hb dX12_cheapest_49 (lv_at hl 2 rfl) ?_
            refine va_iald (cA := k 99) (n := 40) (f := g9919) hx hb hK hP 100 99 (WR_get 99 (by decide)) (TR_get 99 (by decide)) (vp_in_nI (show a5 < 40 by omega) (by omega)) dX12_cheapest_51 ?_
            refine lv_topi (fun y2 hy2 => ?_)
            obtain rfl : (g9919 a5) = y2 := (hy2.trans (by rw [nI_clamp (by omega)])).symm
            refine lv_aload_n hx hb dX12_cheapest_52 rfl (lv_at hl 0 rfl) ?_
            refine va_get (D := (dC, dI)) (ci := 12) (v := .ref (a 98)) (C := RX12) (T := TX12) (N := 163) (fs := fM (vS a (fT vi 0 th3) vj)) hx hb hts iwsRX12_cheapest_in12 hown hK hP 0 rfl rfl 154 (by decide) (hts (.fieldLink RX12 321 "OptimaWorksModel" "arcCost" "[I") (by decide +kernel)) (fun _ h9 => h9) rfl dX12_cheapest_53 ?_
            refine lv_iload hx hb dX12_cheapest_56 (lv_at hl 2 rfl) ?_
            refine va_iald (cA := k 98) (n := 40) (f := (vF 98)) hx hb hK hP 99 98 (WR_get 98 (by decide)) (TR_get 98 (by decide)) (vp_in_nI (show a5 < 40 by omega) (by omega)) dX12_cheapest_58 ?_
            refine lv_topi (fun y3 hy3 => ?_)
            obtain rfl : ((vF 98) a5) = y3 := (hy3.trans (by rw [nI_clamp (by omega)])).symm
            refine lv_imul hx hb dX12_cheapest_59 ?_
            refine lv_iadd hx hb dX12_cheapest_60 ?_
            refine lv_istore hx hb dX12_cheapest_61 hl (by decide) rfl (fun ls (hl : lv_has ls _ ([(4, .int (nq + ((g9919 a5) * ((vF 98) a5)))), (0, .ref h0), (5, .int (nI a5))])) => ?_)
            refine lv_iinc (v := (nI (a5 + 1))) hx hb dX12_cheapest_63 hl (k := 2) rfl (nI_add a5 1) (by decide) rfl (fun ls (hl : lv_has ls _ ([(5, .int (nI (a5 + 1))), (4, .int (nq + ((g9919 a5) * ((vF 98) a5)))), (0, .ref h0)])) => ?_)
            refine lv_goto (tgt := 34) hx hb dX12_cheapest_66 (by decide) ?_
            have hl : lv_has _ _ ([(0, .ref h0), (4, .int (nq + ((g9919 a5) * ((vF 98) a5)))), (5, .int (nI (a5 + 1)))]) := lv_sub hl [2, 1, 0] rfl
            exact ih34 (a5 + 1) (nq + ((g9919 a5) * ((vF 98) a5))) _ _ _ (by omega) (csA.step hcs (by omega) rfl rfl (by omega) hc5) (by omega) hP hD hS hl
      · have t_23 : ¬ (r19).toInt ≥ (amI).toInt := toI_nge c_23 rfl rfl
        refine lv_iconst (v := (-1)) hx hb dX12_cheapest_26 (by decide) ?_
        refine W.widen (k := 0) (n := 0) (by decide +kernel) (by decide +kernel) ?_
        exact W.iret (v := (-1)) hx hb hr (fun t9_ ht hW => ⟨⟨(-1), (th3, g9919, g10019, g10119), rfl, by (try dsimp only); exact Or.inr ⟨f3_3, ⟨by omega, fun e9 => f3_2 (Int32.toInt_inj.mp e9)⟩, by rw [es9, et9]; exact mnC.none f19_0 f19_1 f19_2 (by omega) (by omega) (by decide)⟩, by rw [ht]; exact hP, hD⟩, hS.F ht⟩) hS.2.2 dX12_cheapest_27
  · refine lv_if_ne (tgt := 11) hx hb dX12_cheapest_6 (by decide) (fun c9 => absurd c9 (by decide)) (fun _ => ?_)
    refine lv_iconst (v := 0) hx hb dX12_cheapest_9 (by decide) ?_
    refine W.widen (k := 0) (n := 0) (by decide +kernel) (by decide +kernel) ?_
    have e9 : fT (fT (fT vF 99 (vF 99)) 100 (vF 100)) 101 (vF 101) = vF := (fT_id _ _ ((fT_ne _ _ (Nat.ne_of_beq_eq_false rfl)).trans (fT_ne _ _ (Nat.ne_of_beq_eq_false rfl)))).trans ((fT_id _ _ (fT_ne _ _ (Nat.ne_of_beq_eq_false rfl))).trans (fT_id _ _ (rfl)))
    have hP : va_P (dC, dI) vwCl (WR a k h0 (fT vi 0 th3) vj (fT (fT (fT vF 99 (vF 99)) 100 (vF 100)) 101 (vF 101)) vG) H := by rw [e9]; exact hP
    have hD : va_D A (WR a k h0 (fT vi 0 th3) vj (fT (fT (fT vF 99 (vF 99)) 100 (vF 100)) 101 (vF 101)) vG) := by rw [e9]; exact hD
    clear e9
    exact W.iret (v := 0) hx hb hr (fun t9_ ht hW => ⟨⟨0, (th3, (vF 99), (vF 100), (vF 101)), rfl, by (try dsimp only); exact Or.inl f3_0, by rw [ht]; exact hP, hD⟩, hS.F ht⟩) hS.2.2 dX12_cheapest_10
theorem dX12_cut_0 : decode cX12_cut 0 = .ok (.aload_n 0, 1) := dk_42 (by decide +kernel)
theorem dX12_cut_1 : decode cX12_cut 1 = .ok (.iload_n 1, 1) := dk_27 (by decide +kernel)
theorem dX12_cut_2 : decode cX12_cut 2 = .ok (.iload_n 2, 1) := dk_28 (by decide +kernel)
theorem dX12_cut_3 : decode cX12_cut 3 = .ok (.invokevirtual 1079, 3) := dk_182 (by decide +kernel)
theorem dX12_cut_6 : decode cX12_cut 6 = .ok (.ifCond .ne 5, 3) := dk_154 (by decide +kernel)
theorem dX12_cut_9 : decode cX12_cut 9 = .ok (.iconst 0, 1) := dk_3 (by decide +kernel)
theorem dX12_cut_10 : decode cX12_cut 10 = .ok (.ireturn, 1) := dk_172 (by decide +kernel)
theorem dX12_cut_11 : decode cX12_cut 11 = .ok (.aload_n 0, 1) := dk_42 (by decide +kernel)
theorem dX12_cut_12 : decode cX12_cut 12 = .ok (.iload_n 1, 1) := dk_27 (by decide +kernel)
theorem dX12_cut_13 : decode cX12_cut 13 = .ok (.iload_n 2, 1) := dk_28 (by decide +kernel)
theorem dX12_cut_14 : decode cX12_cut 14 = .ok (.ldc_w 1082, 3) := dk_19 (by decide +kernel)
theorem dX12_cut_17 : decode cX12_cut 17 = .ok (.invokevirtual 1083, 3) := dk_182 (by decide +kernel)
theorem dX12_cut_20 : decode cX12_cut 20 = .ok (.pop, 1) := dk_87 (by decide +kernel)
theorem dX12_cut_21 : decode cX12_cut 21 = .ok (.iconst 1, 1) := dk_4 (by decide +kernel)
theorem dX12_cut_22 : decode cX12_cut 22 = .ok (.iload_n 1, 1) := dk_27 (by decide +kernel)
theorem dX12_cut_23 : decode cX12_cut 23 = .ok (.ishl, 1) := dk_120 (by decide +kernel)
theorem dX12_cut_24 : decode cX12_cut 24 = .ok (.istore_n 3, 1) := dk_62 (by decide +kernel)
theorem dX12_cut_25 : decode cX12_cut 25 = .ok (.iconst 1, 1) := dk_4 (by decide +kernel)
theorem dX12_cut_26 : decode cX12_cut 26 = .ok (.istore 4, 2) := dk_54 (by decide +kernel)
theorem dX12_cut_28 : decode cX12_cut 28 = .ok (.iload 4, 2) := dk_21 (by decide +kernel)
theorem dX12_cut_30 : decode cX12_cut 30 = .ok (.ifCond .eq 169, 3) := dk_153 (by decide +kernel)
theorem dX12_cut_33 : decode cX12_cut 33 = .ok (.iconst 0, 1) := dk_3 (by decide +kernel)
theorem dX12_cut_34 : decode cX12_cut 34 = .ok (.istore 4, 2) := dk_54 (by decide +kernel)
theorem dX12_cut_36 : decode cX12_cut 36 = .ok (.iconst 0, 1) := dk_3 (by decide +kernel)
theorem dX12_cut_37 : decode cX12_cut 37 = .ok (.istore 5, 2) := dk_54 (by decide +kernel)
theorem dX12_cut_39 : decode cX12_cut 39 = .ok (.iload 5, 2) := dk_21 (by decide +kernel)
theorem dX12_cut_41 : decode cX12_cut 41 = .ok (.aload_n 0, 1) := dk_42 (by decide +kernel)
theorem dX12_cut_42 : decode cX12_cut 42 = .ok (.getfield 1069, 3) := dk_180 (by decide +kernel)
theorem dX12_cut_45 : decode cX12_cut 45 = .ok (.if_icmp .ge 151, 3) := dk_162 (by decide +kernel)
theorem dX12_cut_48 : decode cX12_cut 48 = .ok (.aload_n 0, 1) := dk_42 (by decide +kernel)
theorem dX12_cut_49 : decode cX12_cut 49 = .ok (.getfield 324, 3) := dk_180 (by decide +kernel)
theorem dX12_cut_52 : decode cX12_cut 52 = .ok (.iload 5, 2) := dk_21 (by decide +kernel)
theorem dX12_cut_54 : decode cX12_cut 54 = .ok (.iaload, 1) := dk_46 (by decide +kernel)
theorem dX12_cut_55 : decode cX12_cut 55 = .ok (.aload_n 0, 1) := dk_42 (by decide +kernel)
theorem dX12_cut_56 : decode cX12_cut 56 = .ok (.getfield 318, 3) := dk_180 (by decide +kernel)
theorem dX12_cut_59 : decode cX12_cut 59 = .ok (.iload 5, 2) := dk_21 (by decide +kernel)
theorem dX12_cut_61 : decode cX12_cut 61 = .ok (.iaload, 1) := dk_46 (by decide +kernel)
theorem dX12_cut_62 : decode cX12_cut 62 = .ok (.if_icmp .ge 36, 3) := dk_162 (by decide +kernel)
theorem dX12_cut_65 : decode cX12_cut 65 = .ok (.iload_n 3, 1) := dk_29 (by decide +kernel)
theorem dX12_cut_66 : decode cX12_cut 66 = .ok (.aload_n 0, 1) := dk_42 (by decide +kernel)
theorem dX12_cut_67 : decode cX12_cut 67 = .ok (.getfield 312, 3) := dk_180 (by decide +kernel)
theorem dX12_cut_70 : decode cX12_cut 70 = .ok (.iload 5, 2) := dk_21 (by decide +kernel)
theorem dX12_cut_72 : decode cX12_cut 72 = .ok (.iaload, 1) := dk_46 (by decide +kernel)
theorem dX12_cut_73 : decode cX12_cut 73 = .ok (.ishr, 1) := dk_122 (by decide +kernel)
theorem dX12_cut_74 : decode cX12_cut 74 = .ok (.iconst 1, 1) := dk_4 (by decide +kernel)
theorem dX12_cut_75 : decode cX12_cut 75 = .ok (.iand, 1) := dk_126 (by decide +kernel)
theorem dX12_cut_76 : decode cX12_cut 76 = .ok (.iconst 1, 1) := dk_4 (by decide +kernel)
theorem dX12_cut_77 : decode cX12_cut 77 = .ok (.if_icmp .ne 21, 3) := dk_160 (by decide +kernel)
theorem dX12_cut_80 : decode cX12_cut 80 = .ok (.iload_n 3, 1) := dk_29 (by decide +kernel)
theorem dX12_cut_81 : decode cX12_cut 81 = .ok (.aload_n 0, 1) := dk_42 (by decide +kernel)
theorem dX12_cut_82 : decode cX12_cut 82 = .ok (.getfield 315, 3) := dk_180 (by decide +kernel)
theorem dX12_cut_85 : decode cX12_cut 85 = .ok (.iload 5, 2) := dk_21 (by decide +kernel)
theorem dX12_cut_87 : decode cX12_cut 87 = .ok (.iaload, 1) := dk_46 (by decide +kernel)
theorem dX12_cut_88 : decode cX12_cut 88 = .ok (.ishr, 1) := dk_122 (by decide +kernel)
theorem dX12_cut_89 : decode cX12_cut 89 = .ok (.iconst 1, 1) := dk_4 (by decide +kernel)
theorem dX12_cut_90 : decode cX12_cut 90 = .ok (.iand, 1) := dk_126 (by decide +kernel)
theorem dX12_cut_91 : decode cX12_cut 91 = .ok (.ifCond .ne 7, 3) := dk_154 (by decide +kernel)
theorem dX12_cut_94 : decode cX12_cut 94 = .ok (.iconst 1, 1) := dk_4 (by decide +kernel)
theorem dX12_cut_95 : decode cX12_cut 95 = .ok (.goto 4, 3) := dk_167 (by decide +kernel)
theorem dX12_cut_98 : decode cX12_cut 98 = .ok (.iconst 0, 1) := dk_3 (by decide +kernel)
theorem dX12_cut_99 : decode cX12_cut 99 = .ok (.istore 6, 2) := dk_54 (by decide +kernel)
theorem dX12_cut_101 : decode cX12_cut 101 = .ok (.aload_n 0, 1) := dk_42 (by decide +kernel)
theorem dX12_cut_102 : decode cX12_cut 102 = .ok (.getfield 324, 3) := dk_180 (by decide +kernel)
theorem dX12_cut_105 : decode cX12_cut 105 = .ok (.iload 5, 2) := dk_21 (by decide +kernel)
theorem dX12_cut_107 : decode cX12_cut 107 = .ok (.iaload, 1) := dk_46 (by decide +kernel)
theorem dX12_cut_108 : decode cX12_cut 108 = .ok (.ifCond .le 36, 3) := dk_158 (by decide +kernel)
theorem dX12_cut_111 : decode cX12_cut 111 = .ok (.iload_n 3, 1) := dk_29 (by decide +kernel)
theorem dX12_cut_112 : decode cX12_cut 112 = .ok (.aload_n 0, 1) := dk_42 (by decide +kernel)
theorem dX12_cut_113 : decode cX12_cut 113 = .ok (.getfield 315, 3) := dk_180 (by decide +kernel)
theorem dX12_cut_116 : decode cX12_cut 116 = .ok (.iload 5, 2) := dk_21 (by decide +kernel)
theorem dX12_cut_118 : decode cX12_cut 118 = .ok (.iaload, 1) := dk_46 (by decide +kernel)
theorem dX12_cut_119 : decode cX12_cut 119 = .ok (.ishr, 1) := dk_122 (by decide +kernel)
theorem dX12_cut_120 : decode cX12_cut 120 = .ok (.iconst 1, 1) := dk_4 (by decide +kernel)
theorem dX12_cut_121 : decode cX12_cut 121 = .ok (.iand, 1) := dk_126 (by decide +kernel)
theorem dX12_cut_122 : decode cX12_cut 122 = .ok (.iconst 1, 1) := dk_4 (by decide +kernel)
theorem dX12_cut_123 : decode cX12_cut 123 = .ok (.if_icmp .ne 21, 3) := dk_160 (by decide +kernel)
theorem dX12_cut_126 : decode cX12_cut 126 = .ok (.iload_n 3, 1) := dk_29 (by decide +kernel)
theorem dX12_cut_127 : decode cX12_cut 127 = .ok (.aload_n 0, 1) := dk_42 (by decide +kernel)
theorem dX12_cut_128 : decode cX12_cut 128 = .ok (.getfield 312, 3) := dk_180 (by decide +kernel)
theorem dX12_cut_131 : decode cX12_cut 131 = .ok (.iload 5, 2) := dk_21 (by decide +kernel)
theorem dX12_cut_133 : decode cX12_cut 133 = .ok (.iaload, 1) := dk_46 (by decide +kernel)
theorem dX12_cut_134 : decode cX12_cut 134 = .ok (.ishr, 1) := dk_122 (by decide +kernel)
theorem dX12_cut_135 : decode cX12_cut 135 = .ok (.iconst 1, 1) := dk_4 (by decide +kernel)
theorem dX12_cut_136 : decode cX12_cut 136 = .ok (.iand, 1) := dk_126 (by decide +kernel)
theorem dX12_cut_137 : decode cX12_cut 137 = .ok (.ifCond .ne 7, 3) := dk_154 (by decide +kernel)
theorem dX12_cut_140 : decode cX12_cut 140 = .ok (.iconst 1, 1) := dk_4 (by decide +kernel)
theorem dX12_cut_141 : decode cX12_cut 141 = .ok (.goto 4, 3) := dk_167 (by decide +kernel)
theorem dX12_cut_144 : decode cX12_cut 144 = .ok (.iconst 0, 1) := dk_3 (by decide +kernel)
theorem dX12_cut_145 : decode cX12_cut 145 = .ok (.istore 7, 2) := dk_54 (by decide +kernel)
theorem dX12_cut_147 : decode cX12_cut 147 = .ok (.iload 6, 2) := dk_21 (by decide +kernel)
theorem dX12_cut_149 : decode cX12_cut 149 = .ok (.ifCond .ne 11, 3) := dk_154 (by decide +kernel)
theorem dX12_cut_152 : decode cX12_cut 152 = .ok (.iload 7, 2) := dk_21 (by decide +kernel)
theorem dX12_cut_154 : decode cX12_cut 154 = .ok (.ifCond .ne 6, 3) := dk_154 (by decide +kernel)
theorem dX12_cut_157 : decode cX12_cut 157 = .ok (.goto 33, 3) := dk_167 (by decide +kernel)
theorem dX12_cut_160 : decode cX12_cut 160 = .ok (.iload_n 3, 1) := dk_29 (by decide +kernel)
theorem dX12_cut_161 : decode cX12_cut 161 = .ok (.iconst 1, 1) := dk_4 (by decide +kernel)
theorem dX12_cut_162 : decode cX12_cut 162 = .ok (.iload 6, 2) := dk_21 (by decide +kernel)
theorem dX12_cut_164 : decode cX12_cut 164 = .ok (.ifCond .eq 13, 3) := dk_153 (by decide +kernel)
theorem dX12_cut_167 : decode cX12_cut 167 = .ok (.aload_n 0, 1) := dk_42 (by decide +kernel)
theorem dX12_cut_168 : decode cX12_cut 168 = .ok (.getfield 315, 3) := dk_180 (by decide +kernel)
theorem dX12_cut_171 : decode cX12_cut 171 = .ok (.iload 5, 2) := dk_21 (by decide +kernel)
theorem dX12_cut_173 : decode cX12_cut 173 = .ok (.iaload, 1) := dk_46 (by decide +kernel)
theorem dX12_cut_174 : decode cX12_cut 174 = .ok (.goto 10, 3) := dk_167 (by decide +kernel)
theorem dX12_cut_177 : decode cX12_cut 177 = .ok (.aload_n 0, 1) := dk_42 (by decide +kernel)
theorem dX12_cut_178 : decode cX12_cut 178 = .ok (.getfield 312, 3) := dk_180 (by decide +kernel)
theorem dX12_cut_181 : decode cX12_cut 181 = .ok (.iload 5, 2) := dk_21 (by decide +kernel)
theorem dX12_cut_183 : decode cX12_cut 183 = .ok (.iaload, 1) := dk_46 (by decide +kernel)
theorem dX12_cut_184 : decode cX12_cut 184 = .ok (.ishl, 1) := dk_120 (by decide +kernel)
theorem dX12_cut_185 : decode cX12_cut 185 = .ok (.ior, 1) := dk_128 (by decide +kernel)
theorem dX12_cut_186 : decode cX12_cut 186 = .ok (.istore_n 3, 1) := dk_62 (by decide +kernel)
theorem dX12_cut_187 : decode cX12_cut 187 = .ok (.iconst 1, 1) := dk_4 (by decide +kernel)
theorem dX12_cut_188 : decode cX12_cut 188 = .ok (.istore 4, 2) := dk_54 (by decide +kernel)
theorem dX12_cut_190 : decode cX12_cut 190 = .ok (.iinc 5 1, 3) := dk_132 (by decide +kernel)
theorem dX12_cut_193 : decode cX12_cut 193 = .ok (.goto (-154), 3) := dk_167 (by decide +kernel)
theorem dX12_cut_196 : decode cX12_cut 196 = .ok (.goto (-168), 3) := dk_167 (by decide +kernel)
theorem dX12_cut_199 : decode cX12_cut 199 = .ok (.iload_n 3, 1) := dk_29 (by decide +kernel)
theorem dX12_cut_200 : decode cX12_cut 200 = .ok (.ireturn, 1) := dk_172 (by decide +kernel)
def wsRX12_cut : List Cond := .code yX12_cut cX12_cut 8 (some .int) :: ([.constant RX12 1082 100000, .fieldLink RX12 1069 "OptimaWorksModel" "arcs" "I", .fieldLink RX12 324 "OptimaWorksModel" "flow" "[I", .fieldLink RX12 318 "OptimaWorksModel" "arcRoom" "[I", .fieldLink RX12 312 "OptimaWorksModel" "arcFrom" "[I", .fieldLink RX12 315 "OptimaWorksModel" "arcTo" "[I"] ++ wsX120 ++ (wsV RX12 1079 RX12 yX12_areEnds wsRX12_areEnds) ++ (wsV RX12 1083 RX12 yX12_send wsRX12_send))
theorem iwsRX12_cut_in12 : ∀ w ∈ wsX120, w ∈ wsRX12_cut := fun _ h => List.mem_cons_of_mem _ (List.mem_append_left _ (List.mem_append_left _ (List.mem_append_right _ h)))
theorem gwsRX12_cut_0 : GoodIn wsRX12_cut (wsV RX12 1079 RX12 yX12_areEnds wsRX12_areEnds) := goodIn_sub (fun _ h => List.mem_cons_of_mem _ (List.mem_append_left _ (List.mem_append_right _ h))) (gdV (by decide +kernel) gdwsRX12_areEnds)
theorem gwsRX12_cut_1 : GoodIn wsRX12_cut (wsV RX12 1083 RX12 yX12_send wsRX12_send) := goodIn_sub (fun _ h => List.mem_cons_of_mem _ (List.mem_append_right _ h)) (gdV (by decide +kernel) gdwsRX12_send)
theorem gdwsRX12_cut : wsRX12_cut.all goodWord = true := gdC rfl (gdA (gdA (gdA (by decide +kernel : ([.constant RX12 1082 100000, .fieldLink RX12 1069 "OptimaWorksModel" "arcs" "I", .fieldLink RX12 324 "OptimaWorksModel" "flow" "[I", .fieldLink RX12 318 "OptimaWorksModel" "arcRoom" "[I", .fieldLink RX12 312 "OptimaWorksModel" "arcFrom" "[I", .fieldLink RX12 315 "OptimaWorksModel" "arcTo" "[I"] : List Cond).all goodWord = true) gdwsX120) (gdV (by decide +kernel) gdwsRX12_areEnds)) (gdV (by decide +kernel) gdwsRX12_send))
set_option maxHeartbeats 4000000 in
set_option maxRecDepth 100000 in
/-- cut(s, t) -/
theorem r_X12_cut (l : Launch) (dC : Nat → ClassId) (dI : Nat → Nat → Nat) (a : Nat → Nat) (k : Nat → ClassId) (h0 : Nat) (vi : Nat → Int32) (vj : Nat → Int64) (vF : Nat → Nat → Int32) (vG : Nat → Nat → Int64) (sI : Int32) (tI : Int32) (ar : Nat) (har : vi 150 = nI ar) (har40 : ar ≤ 40) (hAr : ArO (vF 95) (vF 96) (vF 97) (vF 98) ar) (sz : Nat) : Met l yX12_cut wsRX12_cut ({ frames := 2, cells := 0, slots := 0, locals := 54 }) (va_Pc [.ref h0, .int sI, .int tI] (fun U => U.heap.size = sz ∧ va_P (dC, dI) vwCl (WR a k h0 vi vj vF vG) U.heap ∧ va_K (dC, dI) vwCl (tX12 k) U ∧ va_D (fun _ => True) (WR a k h0 vi vj vF vG))) (va_Qi (fun (r : Int32) (u : (Int32) × (Nat → Int32) × (Nat → Int32) × (Nat → Int32)) => ((((u.1) = 1 ∧ ¬ ((0 ≤ (sI).toInt ∧ (sI).toInt ≤ 11) ∧ 0 ≤ (tI).toInt ∧ (tI).toInt ≤ 11)) ∨ ((u.1) = 2 ∧ ((0 ≤ (sI).toInt ∧ (sI).toInt ≤ 11) ∧ 0 ≤ (tI).toInt ∧ (tI).toInt ≤ 11) ∧ (sI).toInt = (tI).toInt))) ∨ (((u.1) = 0) ∧ (((0 ≤ (sI).toInt ∧ (sI).toInt ≤ 11) ∧ 0 ≤ (tI).toInt ∧ (tI).toInt ≤ 11) ∧ (sI).toInt ≠ (tI).toInt) ∧ (mxC (((ar : Nat) : Int), vF 95, vF 96, vF 97, vF 98) (sI).toInt.toNat (tI).toInt.toNat r))) (fun (u : (Int32) × (Nat → Int32) × (Nat → Int32) × (Nat → Int32)) t => va_P (dC, dI) vwCl (WR a k h0 (fT vi 0 (u.1)) vj (fT (fT (fT vF 99 (u.2.1)) 100 (u.2.2.1)) 101 (u.2.2.2)) vG) t.heap ∧ va_D (va_A (WR a k h0 vi vj vF vG) sz) (WR a k h0 (fT vi 0 (u.1)) vj (fT (fT (fT vF 99 (u.2.1)) 100 (u.2.2.1)) 101 (u.2.2.2)) vG)) (va_A (WR a k h0 vi vj vF vG) sz)) 0 0 (va_A (WR a k h0 vi vj vF vG) sz) := by
  refine Met.ofW (cc := cX12_cut) (maxL := 8) (ret := (some .int)) (by decide) rfl ?_
  intro p e s m args below meth c s₁ B hml hv
  obtain ⟨rfl, hsz, hP, hK, hD0⟩ := hv
  have hx := B.exec
  have hb := B.bytes
  have hr := B.returns
  have hts := atoms_spec (ws := wsRX12_cut) B.pre
  have hown : s.vm.findClass RX12 = some m.cls := findClass_of_methodNamed B.named
  have hlocks := B.notSynchronized
  subst hsz
  have hD := hD0.self (sz := s.heap.size)
  generalize hAe : va_A (WR a k h0 vi vj vF vG) s.heap.size = A at hD ⊢
  have hA : ∀ q : Nat, s.heap.size ≤ q → A q := fun q h => by rw [← hAe]; exact Or.inr h
  have hS : va_S A s.heap s.heap [] := va_S.rf
  have hl := lv_entry ([.ref h0, .int sI, .int tI]) (n := 8) (Nat.le_of_ble_eq_true rfl)
  rw [lg_entry_eq]
  generalize (lg_sl ([.ref h0, .int sI, .int tI]) ++ List.replicate (8 - (lg_sl ([.ref h0, .int sI, .int tI])).length) Slot.unset).toArray = ls at hl ⊢
  have hl : lv_has ls 8 [(0, .ref h0), (1, .int sI), (2, .int tI)] := hl
  refine lv_aload_n hx hb dX12_cut_0 rfl (lv_at hl 0 rfl) ?_
  refine lv_iload_n hx hb dX12_cut_1 rfl (lv_at hl 1 rfl) ?_
  refine lv_iload_n hx hb dX12_cut_2 rfl (lv_at hl 2 rfl) ?_
  have hFc := allFree hD hS hA
  refine va_calli (va_runV (As := [.int sI, .int tI]) (rest := []) ⟨hx, hb, hml, hown, hts⟩ (r_X12_areEnds l dC dI a k h0 vi vj vF vG sI tI s.heap.size) (cwV 2 hts gwsRX12_cut_0 rfl rfl rfl hd_yX12_areEnds_RX12 (by decide +kernel)) (fz_pre (va_recv hK hP (ci := 12) (q0 := 0) rfl rfl) hP hK hD) rfl rfl hl.1 rfl (lv_room (Nat.le_of_ble_eq_true rfl)) dX12_cut_3 (by decide +kernel)) hS (fun q _ h => hFc q h) hFc (fun r3 u t9_ H locs ht hvm hw9 hB9 hz1 hk1 hS => ?_)
  obtain ⟨th3, hwit3⟩ : ∃ w9, w9 = u := ⟨u, rfl⟩
  subst hwit3
  have hP : va_P (dC, dI) vwCl (WR a k h0 (fT vi 0 th3) vj vF vG) H := fz_P ht hB9.1
  have hD : va_D A (WR a k h0 (fT vi 0 th3) vj vF vG) := hB9.2.weaken (fun _ q _ h => hFc q.1 h)
  rcases hw9 with ⟨rfl, f3_0, f3_1, f3_2, f3_3⟩ | ⟨rfl, f3_0⟩
  · refine lv_if_ne (tgt := 11) hx hb dX12_cut_6 (by decide) (fun _ => ?_) (fun c9 => absurd c9 (by decide))
    obtain ⟨sN, hsN, esN⟩ := of_toInt (x := sI) (k := 12) (by omega) (by omega)
    subst esN
    obtain ⟨tN, htN, etN⟩ := of_toInt (x := tI) (k := 12) (by omega) (by omega)
    subst etN
    have htsn : tN ≠ sN := fun e9 => f3_2 (by rw [e9])
    have es9 : (nI sN).toInt.toNat = sN := by rw [nI_toInt (by omega)]; omega
    have et9 : (nI tN).toInt.toNat = tN := by rw [nI_toInt (by omega)]; omega
    refine lv_aload_n hx hb dX12_cut_11 rfl (lv_at hl 0 rfl) ?_
    refine lv_iload_n hx hb dX12_cut_12 rfl (lv_at hl 1 rfl) ?_
    refine lv_iload_n hx hb dX12_cut_13 rfl (lv_at hl 2 rfl) ?_
    refine lv_ldcw (v := 100000) hx hb hown (hts (.constant RX12 1082 100000) (by decide +kernel)) dX12_cut_14 ?_
    have hFc := allFree hD hS hA
    refine va_calli (va_runV (As := [.int (nI sN), .int (nI tN), .int 100000]) (rest := []) ⟨hx, hb, hml, hown, hts⟩ (r_X12_send l dC dI a k h0 (fT vi 0 th3) vj vF vG ar sN tN 100000 har (by first | assumption | decide | omega | rfl) (by first | assumption | decide | omega | rfl) (by first | assumption | decide | omega | rfl) (by first | assumption | decide | omega | rfl) (by first | assumption | decide | omega | rfl) H.size) (cwV 3 hts gwsRX12_cut_1 rfl rfl rfl hd_yX12_send_RX12 (by decide +kernel)) (fz_pre (va_recv hK hP (ci := 12) (q0 := 0) rfl rfl) hP hK hD) rfl rfl hl.1 rfl (lv_room (Nat.le_of_ble_eq_true rfl)) dX12_cut_17 (by decide +kernel)) hS (fun q _ h => hFc q h) hFc (fun r17 u t9_ H locs ht hvm hw9 hB9 hz1 hk1 hS => ?_)
    obtain ⟨g9917, g10017, g10117⟩ := u
    try dsimp only at hw9 hB9
    have hP : va_P (dC, dI) vwCl (WR a k h0 (fT vi 0 th3) vj (fT (fT (fT vF 99 g9917) 100 g10017) 101 g10117) vG) H := fz_P ht hB9.1
    have hD : va_D A (WR a k h0 (fT vi 0 th3) vj (fT (fT (fT vF 99 g9917) 100 g10017) 101 g10117) vG) := hB9.2.weaken (fun _ q _ h => hFc q.1 h)
    obtain ⟨f17_0, f17_1, f17_2, f17_3, f17_4, f17_5⟩ := hw9
    have f17_0 : FlO (vF 97) g9917 ar := f17_0
    have f17_1 : rsI (((ar : Nat) : Int), (vF 95), (vF 96), (vF 97), (vF 98)) sN tN (fI g9917) r17.toInt ar := f17_1
    have f17_2 : r17.toInt < (100000 : Int32).toInt → ∃ R, sep sN tN R ∧ flC (((ar : Nat) : Int), (vF 95), (vF 96), (vF 97), (vF 98)) (fI g9917) R ar := f17_2
    have f17_4 : ∃ p, PoO (vF 95) (vF 96) (vF 97) (vF 98) g9917 ar (fun _ => True) p := f17_4
    refine lv_pop hx hb dX12_cut_20 rfl ?_
    refine lv_iconst (v := 1) hx hb dX12_cut_21 (by decide) ?_
    refine lv_iload_n hx hb dX12_cut_22 rfl (lv_at hl 1 rfl) ?_
    refine lv_ishl hx hb dX12_cut_23 ?_
    refine lv_topi (fun y1 hy1 => ?_)
    obtain rfl : (nI (2 ^ sN)) = y1 := (hy1.trans (pow_bit sN (by omega))).symm
    refine lv_istore_n hx hb dX12_cut_24 rfl hl (by decide) rfl (fun ls (hl : lv_has ls _ ([(3, .int (nI (2 ^ sN))), (0, .ref h0), (1, .int (nI sN)), (2, .int (nI tN))])) => ?_)
    refine lv_iconst (v := 1) hx hb dX12_cut_25 (by decide) ?_
    refine lv_istore hx hb dX12_cut_26 hl (by decide) rfl (fun ls (hl : lv_has ls _ ([(4, .int 1), (3, .int (nI (2 ^ sN))), (0, .ref h0), (1, .int (nI sN)), (2, .int (nI tN))])) => ?_)
    have hl : lv_has _ _ ([(0, .ref h0), (3, .int (nI (2 ^ sN))), (4, .int 1)]) := lv_sub hl [2, 1, 0] rfl
    refine (fun (loop : ∀ (n9 : Nat) (se : Nat) (mo : Int32) (H : Heap) (locs : List Loc) (ls : Array Slot), (se < 4096) → (bI (nI se) sN = true) → (∀ n, bI (nI se) n = true → n < 12) → (∀ S, S sN = true → flC (((ar : Nat) : Int), vF 95, vF 96, vF 97, vF 98) (fI g9917) S ar → ∀ n, bI (nI se) n = true → S n = true) → (mo = 0 → flC (((ar : Nat) : Int), vF 95, vF 96, vF 97, vF 98) (fI g9917) (bI (nI se)) ar) →  ((mo = 0 ∧ 0 < n9) ∨ (0 < n9 ∧ 4096 < se + n9)) → va_P (dC, dI) vwCl (WR a k h0 (fT vi 0 th3) vj (fT (fT (fT vF 99 g9917) 100 g10017) 101 g10117) vG) H → va_D A (WR a k h0 (fT vi 0 th3) vj (fT (fT (fT vF 99 g9917) 100 g10017) 101 g10117) vG) → va_S A s.heap H locs → lv_has ls 8 [(0, .ref h0), (3, .int (nI se)), (4, .int mo)] → W p l e _ s m _ below meth c H locs 0 0 _ (F0 m 28 ls [])) => loop (4097) (2 ^ sN) 1 _ _ _ (Nat.pow_lt_pow_right (m := sN) (n := 12) (by decide) (by omega)) (by rw [bI_pow (by omega)]; exact decide_eq_true rfl) (fun n h9 => by rw [bI_pow (by omega)] at h9; (have h8 := of_decide_eq_true h9); omega) (fun S h1 _ n h9 => by rw [bI_pow (by omega)] at h9; rw [of_decide_eq_true h9]; exact h1) (fun h9 => absurd h9 (by decide)) (Or.inr ⟨by decide, by (have h9 := Nat.one_le_two_pow (n := sN)); omega⟩) hP hD hS hl) ?_
    intro n9
    induction n9 with
    | zero => intro se mo H locs ls hse hs0 hsl hmin hcl hf9; exact False.elim (by omega)
    | succ n9 ih28 =>
      intro se mo H locs ls hse hs0 hsl hmin hcl hf28 hP hD hS hl
      have hfx := hf28
      refine lv_iload hx hb dX12_cut_28 (lv_at hl 2 rfl) ?_
      refine lv_if_eq (tgt := 199) hx hb dX12_cut_30 (by decide) (fun c_30 => ?_) (fun c_30 => ?_)
      · have t_30 : (mo).toInt = 0 := toI_eq c_30 rfl (by decide)
        refine lv_iload_n hx hb dX12_cut_199 rfl (lv_at hl 1 rfl) ?_
        refine W.widen (k := 0) (n := 0) (by decide +kernel) (by decide +kernel) ?_
        exact W.iret (v := (nI se)) hx hb hr (fun t9_ ht hW => ⟨⟨(nI se), (th3, g9917, g10017, g10117), rfl, by (try dsimp only); exact Or.inr ⟨f3_3, ⟨by omega, fun e9 => f3_2 (Int32.toInt_inj.mp e9)⟩, by rw [es9, et9]; exact rsI.seen hAr har40 f17_0 htsn f17_1 f17_2 (by decide) (by omega) hs0 (hcl c_30) hmin hsl⟩, by rw [ht]; exact hP, hD⟩, hS.F ht⟩) hS.2.2 dX12_cut_200
      · have t_30 : ¬ (mo).toInt = 0 := toI_neq c_30 rfl (by decide)
        refine lv_iconst (v := 0) hx hb dX12_cut_33 (by decide) ?_
        refine lv_istore hx hb dX12_cut_34 hl (by decide) rfl (fun ls (hl : lv_has ls _ ([(4, .int 0), (0, .ref h0), (3, .int (nI se))])) => ?_)
        refine lv_iconst (v := 0) hx hb dX12_cut_36 (by decide) ?_
        refine lv_istore hx hb dX12_cut_37 hl (by decide) rfl (fun ls (hl : lv_has ls _ ([(5, .int 0), (4, .int 0), (0, .ref h0), (3, .int (nI se))])) => ?_)
        have hl : lv_has _ _ ([(0, .ref h0), (3, .int (nI se)), (4, .int 0), (5, .int (nI 0))]) := lv_sub hl [2, 3, 1, 0] rfl
        refine (fun (loop : ∀ (n9 : Nat) (a5 : Nat) (se2 : Nat) (m2 : Int32) (H : Heap) (locs : List Loc) (ls : Array Slot), (a5 ≤ ar) → (se ≤ se2 ∧ se2 < 4096) → (m2 = 0 ∨ se < se2) → (bI (nI se2) sN = true) → (∀ n, bI (nI se2) n = true → n < 12) → (∀ S, S sN = true → flC (((ar : Nat) : Int), vF 95, vF 96, vF 97, vF 98) (fI g9917) S ar → ∀ n, bI (nI se2) n = true → S n = true) → (m2 = 0 → flC (((ar : Nat) : Int), vF 95, vF 96, vF 97, vF 98) (fI g9917) (bI (nI se2)) a5) →  (ar < a5 + n9) → va_P (dC, dI) vwCl (WR a k h0 (fT vi 0 th3) vj (fT (fT (fT vF 99 g9917) 100 g10017) 101 g10117) vG) H → va_D A (WR a k h0 (fT vi 0 th3) vj (fT (fT (fT vF 99 g9917) 100 g10017) 101 g10117) vG) → va_S A s.heap H locs → lv_has ls 8 [(0, .ref h0), (3, .int (nI se2)), (4, .int m2), (5, .int (nI a5))] → W p l e _ s m _ below meth c H locs 0 0 _ (F0 m 39 ls [])) => loop (ar + 1) 0 se 0 _ _ _ (by omega) (by omega) (Or.inl rfl) (hs0) (hsl) (hmin) (fun _ a ha => absurd ha (by omega)) (by omega) hP hD hS hl) ?_
        intro n9
        induction n9 with
        | zero => intro a5 se2 m2 H locs ls ha5 hse2 hm2 hs2 hsl2 hmin2 hcl2 hf9; exact False.elim (by omega)
        | succ n9 ih39_1 =>
          intro a5 se2 m2 H locs ls ha5 hse2 hm2 hs2 hsl2 hmin2 hcl2 hf39_1 hP hD hS hl
          refine lv_iload hx hb dX12_cut_39 (lv_at hl 3 rfl) ?_
          refine lv_aload_n hx hb dX12_cut_41 rfl (lv_at hl 0 rfl) ?_
          refine va_get (D := (dC, dI)) (ci := 12) (v := .int (vi 150)) (C := RX12) (T := TX12) (N := 163) (fs := fM (vS a (fT vi 0 th3) vj)) hx hb hts iwsRX12_cut_in12 hown hK hP 0 rfl rfl 150 (by decide) (hts (.fieldLink RX12 1069 "OptimaWorksModel" "arcs" "I") (by decide +kernel)) (fun _ h9 => h9) rfl dX12_cut_42 ?_
          refine lv_topi (fun y2 hy2 => ?_)
          obtain rfl : (nI ar) = y2 := (hy2.trans (har)).symm
          refine lv_icmp_ge (tgt := 196) hx hb dX12_cut_45 (by decide) (fun c_45 => ?_) (fun c_45 => ?_)
          · have t_45 : ((a5 : Nat) : Int) ≥ ((ar : Nat) : Int) := toI_ge c_45 (nI_toInt (by omega)) (nI_toInt (by omega))
            refine lv_goto (tgt := 28) hx hb dX12_cut_196 (by decide) ?_
            have hl : lv_has _ _ ([(0, .ref h0), (3, .int (nI se2)), (4, .int m2)]) := lv_sub hl [0, 1, 2] rfl
            exact ih28 se2 m2 _ _ _ (by omega) (hs2) (hsl2) (hmin2) (fun h9 => by (have h8 := hcl2 h9); rw [show a5 = ar by omega] at h8; exact h8) (by (have h8 := hfx.resolve_left (fun h => c_30 h.1)); rcases hm2 with h7 | h7; (exact Or.inl ⟨h7, by omega⟩); (exact Or.inr ⟨by omega, by omega⟩)) hP hD hS hl
          · have t_45 : ¬ ((a5 : Nat) : Int) ≥ ((ar : Nat) : Int) := toI_nge c_45 (nI_toInt (by omega)) (nI_toInt (by omega))
            obtain ⟨x5, yB, hx5, hyB, hxy5, ex5, eyB, hr5, hc5⟩ := hAr a5 (by omega)
            have hfl5 := f17_0 a5 (by omega)
            have eF5 : tFr (((ar : Nat) : Int), vF 95, vF 96, vF 97, vF 98) a5 = x5 := tFr_nI (d := (((ar : Nat) : Int), vF 95, vF 96, vF 97, vF 98)) hx5 ex5
            have eT5 : tTo (((ar : Nat) : Int), vF 95, vF 96, vF 97, vF 98) a5 = yB := tTo_nI (d := (((ar : Nat) : Int), vF 95, vF 96, vF 97, vF 98)) hyB eyB
            refine lv_aload_n hx hb dX12_cut_48 rfl (lv_at hl 0 rfl) ?_
            refine va_get (D := (dC, dI)) (ci := 12) (v := .ref (a 99)) (C := RX12) (T := TX12) (N := 163) (fs := fM (vS a (fT vi 0 th3) vj)) hx hb hts iwsRX12_cut_in12 hown hK hP 0 rfl rfl 155 (by decide) (hts (.fieldLink RX12 324 "OptimaWorksModel" "flow" "[I") (by decide +kernel)) (fun _ h9 => h9) rfl dX12_cut_49 ?_
            refine lv_iload hx hb dX12_cut_52 (lv_at hl 3 rfl) ?_
            refine va_iald (cA := k 99) (n := 40) (f := g9917) hx hb hK hP 100 99 (WR_get 99 (by decide)) (TR_get 99 (by decide)) (vp_in_nI (show a5 < 40 by omega) (by omega)) dX12_cut_54 ?_
            refine lv_topi (fun y3 hy3 => ?_)
            obtain rfl : (g9917 a5) = y3 := (hy3.trans (by rw [nI_clamp (by omega)])).symm
            refine lv_aload_n hx hb dX12_cut_55 rfl (lv_at hl 0 rfl) ?_
            refine va_get (D := (dC, dI)) (ci := 12) (v := .ref (a 97)) (C := RX12) (T := TX12) (N := 163) (fs := fM (vS a (fT vi 0 th3) vj)) hx hb hts iwsRX12_cut_in12 hown hK hP 0 rfl rfl 153 (by decide) (hts (.fieldLink RX12 318 "OptimaWorksModel" "arcRoom" "[I") (by decide +kernel)) (fun _ h9 => h9) rfl dX12_cut_56 ?_
            refine lv_iload hx hb dX12_cut_59 (lv_at hl 3 rfl) ?_
            refine va_iald (cA := k 97) (n := 40) (f := (vF 97)) hx hb hK hP 98 97 (WR_get 97 (by decide)) (TR_get 97 (by decide)) (vp_in_nI (show a5 < 40 by omega) (by omega)) dX12_cut_61 ?_
            refine lv_topi (fun y4 hy4 => ?_)
            obtain rfl : ((vF 97) a5) = y4 := (hy4.trans (by rw [nI_clamp (by omega)])).symm
            refine W.cut (pc := 99) (fun H locs ls stk => ∃ (ah : Int32), ((ah = 0 ∧ ¬ ((g9917 a5).toInt < (vF 97 a5).toInt ∧ bI (nI se2) x5 = true ∧ bI (nI se2) yB = false)) ∨ (ah = 1 ∧ (nI se2 >>> (nI yB &&& 31)) &&& 1 = 0 ∧ ((g9917 a5).toInt < (vF 97 a5).toInt ∧ bI (nI se2) x5 = true ∧ bI (nI se2) yB = false))) ∧  stk = [.int ah] ∧ va_P (dC, dI) vwCl (WR a k h0 (fT vi 0 th3) vj (fT (fT (fT vF 99 g9917) 100 g10017) 101 g10117) vG) H ∧ va_D A (WR a k h0 (fT vi 0 th3) vj (fT (fT (fT vF 99 g9917) 100 g10017) 101 g10117) vG) ∧ va_S A s.heap H locs ∧ lv_has ls 8 [(0, .ref h0), (3, .int (nI se2)), (4, .int m2), (5, .int (nI a5))]) (fun join1 => ?_) ?_
            · refine lv_icmp_ge (tgt := 98) hx hb dX12_cut_62 (by decide) (fun c_62 => ?_) (fun c_62 => ?_)
              · have t_62 : ((g9917 a5)).toInt ≥ (((vF 97) a5)).toInt := toI_ge c_62 rfl rfl
                refine lv_iconst (v := 0) hx hb dX12_cut_98 (by decide) ?_
                have hl : lv_has _ _ ([(0, .ref h0), (3, .int (nI se2)), (4, .int m2), (5, .int (nI a5))]) := lv_sub hl [0, 1, 2, 3] rfl
                exact join1 _ _ _ _ ⟨0, Or.inl ⟨rfl, fun h9 => absurd h9.1 (by omega)⟩, rfl, hP, hD, hS, hl⟩
              · have t_62 : ¬ ((g9917 a5)).toInt ≥ (((vF 97) a5)).toInt := toI_nge c_62 rfl rfl
                refine lv_iload_n hx hb dX12_cut_65 rfl (lv_at hl 1 rfl) ?_
                refine lv_aload_n hx hb dX12_cut_66 rfl (lv_at hl 0 rfl) ?_
                refine va_get (D := (dC, dI)) (ci := 12) (v := .ref (a 95)) (C := RX12) (T := TX12) (N := 163) (fs := fM (vS a (fT vi 0 th3) vj)) hx hb hts iwsRX12_cut_in12 hown hK hP 0 rfl rfl 151 (by decide) (hts (.fieldLink RX12 312 "OptimaWorksModel" "arcFrom" "[I") (by decide +kernel)) (fun _ h9 => h9) rfl dX12_cut_67 ?_
                refine lv_iload hx hb dX12_cut_70 (lv_at hl 3 rfl) ?_
                refine va_iald (cA := k 95) (n := 40) (f := (vF 95)) hx hb hK hP 96 95 (WR_get 95 (by decide)) (TR_get 95 (by decide)) (vp_in_nI (show a5 < 40 by omega) (by omega)) dX12_cut_72 ?_
                refine lv_topi (fun y5 hy5 => ?_)
                obtain rfl : ((vF 95) a5) = y5 := (hy5.trans (by rw [nI_clamp (by omega)])).symm
                refine lv_topi (fun y6 hy6 => ?_)
                obtain rfl : (nI x5) = y6 := (hy6.trans (ex5)).symm
                refine lv_ishr hx hb dX12_cut_73 ?_
                refine lv_iconst (v := 1) hx hb dX12_cut_74 (by decide) ?_
                refine lv_iand hx hb dX12_cut_75 ?_
                refine lv_iconst (v := 1) hx hb dX12_cut_76 (by decide) ?_
                refine lv_icmp_ne (tgt := 98) hx hb dX12_cut_77 (by decide) (fun c_77 => ?_) (fun c_77 => ?_)
                · have t_77 : ((((nI se2) >>> ((nI x5) &&& 31)) &&& 1)).toInt ≠ 1 := toI_ne c_77 rfl (by decide)
                  refine lv_iconst (v := 0) hx hb dX12_cut_98 (by decide) ?_
                  have hl : lv_has _ _ ([(0, .ref h0), (3, .int (nI se2)), (4, .int m2), (5, .int (nI a5))]) := lv_sub hl [0, 1, 2, 3] rfl
                  exact join1 _ _ _ _ ⟨0, Or.inl ⟨rfl, fun h9 => c_77 (bI_oneT (by omega) h9.2.1)⟩, rfl, hP, hD, hS, hl⟩
                · have t_77 : ((((nI se2) >>> ((nI x5) &&& 31)) &&& 1)).toInt = 1 := toI_nne c_77 rfl (by decide)
                  refine lv_iload_n hx hb dX12_cut_80 rfl (lv_at hl 1 rfl) ?_
                  refine lv_aload_n hx hb dX12_cut_81 rfl (lv_at hl 0 rfl) ?_
                  refine va_get (D := (dC, dI)) (ci := 12) (v := .ref (a 96)) (C := RX12) (T := TX12) (N := 163) (fs := fM (vS a (fT vi 0 th3) vj)) hx hb hts iwsRX12_cut_in12 hown hK hP 0 rfl rfl 152 (by decide) (hts (.fieldLink RX12 315 "OptimaWorksModel" "arcTo" "[I") (by decide +kernel)) (fun _ h9 => h9) rfl dX12_cut_82 ?_
                  refine lv_iload hx hb dX12_cut_85 (lv_at hl 3 rfl) ?_
                  refine va_iald (cA := k 96) (n := 40) (f := (vF 96)) hx hb hK hP 97 96 (WR_get 96 (by decide)) (TR_get 96 (by decide)) (vp_in_nI (show a5 < 40 by omega) (by omega)) dX12_cut_87 ?_
                  refine lv_topi (fun y7 hy7 => ?_)
                  obtain rfl : ((vF 96) a5) = y7 := (hy7.trans (by rw [nI_clamp (by omega)])).symm
                  refine lv_topi (fun y8 hy8 => ?_)
                  obtain rfl : (nI yB) = y8 := (hy8.trans (eyB)).symm
                  refine lv_ishr hx hb dX12_cut_88 ?_
                  refine lv_iconst (v := 1) hx hb dX12_cut_89 (by decide) ?_
                  refine lv_iand hx hb dX12_cut_90 ?_
                  refine lv_if_ne (tgt := 98) hx hb dX12_cut_91 (by decide) (fun c_91 => ?_) (fun c_91 => ?_)
                  · have t_91 : ((((nI se2) >>> ((nI yB) &&& 31)) &&& 1)).toInt ≠ 0 := toI_ne c_91 rfl (by decide)
                    refine lv_iconst (v := 0) hx hb dX12_cut_98 (by decide) ?_
                    have hl : lv_has _ _ ([(0, .ref h0), (3, .int (nI se2)), (4, .int m2), (5, .int (nI a5))]) := lv_sub hl [0, 1, 2, 3] rfl
                    exact join1 _ _ _ _ ⟨0, Or.inl ⟨rfl, fun h9 => c_91 ((bI_test (by omega)).mpr h9.2.2)⟩, rfl, hP, hD, hS, hl⟩
                  · have t_91 : ((((nI se2) >>> ((nI yB) &&& 31)) &&& 1)).toInt = 0 := toI_nne c_91 rfl (by decide)
                    refine lv_iconst (v := 1) hx hb dX12_cut_94 (by decide) ?_
                    refine lv_goto (tgt := 99) hx hb dX12_cut_95 (by decide) ?_
                    have hl : lv_has _ _ ([(0, .ref h0), (3, .int (nI se2)), (4, .int m2), (5, .int (nI a5))]) := lv_sub hl [0, 1, 2, 3] rfl
                    exact join1 _ _ _ _ ⟨1, Or.inr ⟨rfl, c_91, (by omega), bI_one (by omega) c_77, (bI_test (by omega)).mp c_91⟩, rfl, hP, hD, hS, hl⟩
            · rintro H locs ls stk ⟨ah, hah, rfl, hP, hD, hS, hl⟩
              refine lv_istore hx hb dX12_cut_99 hl (by decide) rfl (fun ls (hl : lv_has ls _ ([(6, .int ah), (0, .ref h0), (3, .int (nI se2)), (4, .int m2), (5, .int (nI a5))])) => ?_)
              refine lv_aload_n hx hb dX12_cut_101 rfl (lv_at hl 1 rfl) ?_
              refine va_get (D := (dC, dI)) (ci := 12) (v := .ref (a 99)) (C := RX12) (T := TX12) (N := 163) (fs := fM (vS a (fT vi 0 th3) vj)) hx hb hts iwsRX12_cut_in12 hown hK hP 0 rfl rfl 155 (by decide) (hts (.fieldLink RX12 324 "OptimaWorksModel" "flow" "[I") (by decide +kernel)) (fun _ h9 => h9) rfl dX12_cut_102 ?_
              refine lv_iload hx hb dX12_cut_105 (lv_at hl 4 rfl) ?_
              refine va_iald (cA := k 99) (n := 40) (f := g9917) hx hb hK hP 100 99 (WR_get 99 (by decide)) (TR_get 99 (by decide)) (vp_in_nI (show a5 < 40 by omega) (by omega)) dX12_cut_107 ?_
              refine lv_topi (fun y9 hy9 => ?_)
              obtain rfl : (g9917 a5) = y9 := (hy9.trans (by rw [nI_clamp (by omega)])).symm
              refine W.cut (pc := 145) (fun H locs ls stk => ∃ (bk : Int32), ((bk = 0 ∧ ¬ (0 < (g9917 a5).toInt ∧ bI (nI se2) yB = true ∧ bI (nI se2) x5 = false)) ∨ (bk = 1 ∧ (nI se2 >>> (nI x5 &&& 31)) &&& 1 = 0 ∧ (0 < (g9917 a5).toInt ∧ bI (nI se2) yB = true ∧ bI (nI se2) x5 = false))) ∧  stk = [.int bk] ∧ va_P (dC, dI) vwCl (WR a k h0 (fT vi 0 th3) vj (fT (fT (fT vF 99 g9917) 100 g10017) 101 g10117) vG) H ∧ va_D A (WR a k h0 (fT vi 0 th3) vj (fT (fT (fT vF 99 g9917) 100 g10017) 101 g10117) vG) ∧ va_S A s.heap H locs ∧ lv_has ls 8 [(6, .int ah), (0, .ref h0), (3, .int (nI se2)), (4, .int m2), (5, .int (nI a5))]) (fun join2 => ?_) ?_
              · refine lv_if_le (tgt := 144) hx hb dX12_cut_108 (by decide) (fun c_108 => ?_) (fun c_108 => ?_)
                · have t_108 : ((g9917 a5)).toInt ≤ 0 := toI_le c_108 rfl (by decide)
                  refine lv_iconst (v := 0) hx hb dX12_cut_144 (by decide) ?_
                  have hl : lv_has _ _ ([(6, .int ah), (0, .ref h0), (3, .int (nI se2)), (4, .int m2), (5, .int (nI a5))]) := lv_sub hl [0, 1, 2, 3, 4] rfl
                  exact join2 _ _ _ _ ⟨0, Or.inl ⟨rfl, fun h9 => absurd h9.1 (by omega)⟩, rfl, hP, hD, hS, hl⟩
                · have t_108 : ¬ ((g9917 a5)).toInt ≤ 0 := toI_nle c_108 rfl (by decide)
                  refine lv_iload_n hx hb dX12_cut_111 rfl (lv_at hl 2 rfl) ?_
                  refine lv_aload_n hx hb dX12_cut_112 rfl (lv_at hl 1 rfl) ?_
                  refine va_get (D := (dC, dI)) (ci := 12) (v := .ref (a 96)) (C := RX12) (T := TX12) (N := 163) (fs := fM (vS a (fT vi 0 th3) vj)) hx hb hts iwsRX12_cut_in12 hown hK hP 0 rfl rfl 152 (by decide) (hts (.fieldLink RX12 315 "OptimaWorksModel" "arcTo" "[I") (by decide +kernel)) (fun _ h9 => h9) rfl dX12_cut_113 ?_
                  refine lv_iload hx hb dX12_cut_116 (lv_at hl 4 rfl) ?_
                  refine va_iald (cA := k 96) (n := 40) (f := (vF 96)) hx hb hK hP 97 96 (WR_get 96 (by decide)) (TR_get 96 (by decide)) (vp_in_nI (show a5 < 40 by omega) (by omega)) dX12_cut_118 ?_
                  refine lv_topi (fun y10 hy10 => ?_)
                  obtain rfl : ((vF 96) a5) = y10 := (hy10.trans (by rw [nI_clamp (by omega)])).symm
                  refine lv_topi (fun y11 hy11 => ?_)
                  obtain rfl : (nI yB) = y11 := (hy11.trans (eyB)).symm
                  refine lv_ishr hx hb dX12_cut_119 ?_
                  refine lv_iconst (v := 1) hx hb dX12_cut_120 (by decide) ?_
                  refine lv_iand hx hb dX12_cut_121 ?_
                  refine lv_iconst (v := 1) hx hb dX12_cut_122 (by decide) ?_
                  refine lv_icmp_ne (tgt := 144) hx hb dX12_cut_123 (by decide) (fun c_123 => ?_) (fun c_123 => ?_)
                  · have t_123 : ((((nI se2) >>> ((nI yB) &&& 31)) &&& 1)).toInt ≠ 1 := toI_ne c_123 rfl (by decide)
                    refine lv_iconst (v := 0) hx hb dX12_cut_144 (by decide) ?_
                    have hl : lv_has _ _ ([(6, .int ah), (0, .ref h0), (3, .int (nI se2)), (4, .int m2), (5, .int (nI a5))]) := lv_sub hl [0, 1, 2, 3, 4] rfl
                    exact join2 _ _ _ _ ⟨0, Or.inl ⟨rfl, fun h9 => c_123 (bI_oneT (by omega) h9.2.1)⟩, rfl, hP, hD, hS, hl⟩
                  · have t_123 : ((((nI se2) >>> ((nI yB) &&& 31)) &&& 1)).toInt = 1 := toI_nne c_123 rfl (by decide)
                    refine lv_iload_n hx hb dX12_cut_126 rfl (lv_at hl 2 rfl) ?_
                    refine lv_aload_n hx hb dX12_cut_127 rfl (lv_at hl 1 rfl) ?_
                    refine va_get (D := (dC, dI)) (ci := 12) (v := .ref (a 95)) (C := RX12) (T := TX12) (N := 163) (fs := fM (vS a (fT vi 0 th3) vj)) hx hb hts iwsRX12_cut_in12 hown hK hP 0 rfl rfl 151 (by decide) (hts (.fieldLink RX12 312 "OptimaWorksModel" "arcFrom" "[I") (by decide +kernel)) (fun _ h9 => h9) rfl dX12_cut_128 ?_
                    refine lv_iload hx hb dX12_cut_131 (lv_at hl 4 rfl) ?_
                    refine va_iald (cA := k 95) (n := 40) (f := (vF 95)) hx hb hK hP 96 95 (WR_get 95 (by decide)) (TR_get 95 (by decide)) (vp_in_nI (show a5 < 40 by omega) (by omega)) dX12_cut_133 ?_
                    refine lv_topi (fun y12 hy12 => ?_)
                    obtain rfl : ((vF 95) a5) = y12 := (hy12.trans (by rw [nI_clamp (by omega)])).symm
                    refine lv_topi (fun y13 hy13 => ?_)
                    obtain rfl : (nI x5) = y13 := (hy13.trans (ex5)).symm
                    refine lv_ishr hx hb dX12_cut_134 ?_
                    refine lv_iconst (v := 1) hx hb dX12_cut_135 (by decide) ?_
                    refine lv_iand hx hb dX12_cut_136 ?_
                    refine lv_if_ne (tgt := 144) hx hb dX12_cut_137 (by decide) (fun c_137 => ?_) (fun c_137 => ?_)
                    · have t_137 : ((((nI se2) >>> ((nI x5) &&& 31)) &&& 1)).toInt ≠ 0 := toI_ne c_137 rfl (by decide)
                      refine lv_iconst (v := 0) hx hb dX12_cut_144 (by decide) ?_
                      have hl : lv_has _ _ ([(6, .int ah), (0, .ref h0), (3, .int (nI se2)), (4, .int m2), (5, .int (nI a5))]) := lv_sub hl [0, 1, 2, 3, 4] rfl
                      exact join2 _ _ _ _ ⟨0, Or.inl ⟨rfl, fun h9 => c_137 ((bI_test (by omega)).mpr h9.2.2)⟩, rfl, hP, hD, hS, hl⟩
                    · have t_137 : ((((nI se2) >>> ((nI x5) &&& 31)) &&& 1)).toInt = 0 := toI_nne c_137 rfl (by decide)
                      refine lv_iconst (v := 1) hx hb dX12_cut_140 (by decide) ?_
                      refine lv_goto (tgt := 145) hx hb dX12_cut_141 (by decide) ?_
                      have hl : lv_has _ _ ([(6, .int ah), (0, .ref h0), (3, .int (nI se2)), (4, .int m2), (5, .int (nI a5))]) := lv_sub hl [0, 1, 2, 3, 4] rfl
                      exact join2 _ _ _ _ ⟨1, Or.inr ⟨rfl, c_137, (by omega), bI_one (by omega) c_123, (bI_test (by omega)).mp c_137⟩, rfl, hP, hD, hS, hl⟩
              · rintro H locs ls stk ⟨bk, hbk, rfl, hP, hD, hS, hl⟩
                refine lv_istore hx hb dX12_cut_145 hl (by decide) rfl (fun ls (hl : lv_has ls _ ([(7, .int bk), (6, .int ah), (0, .ref h0), (3, .int (nI se2)), (4, .int m2), (5, .int (nI a5))])) => ?_)
                refine lv_iload hx hb dX12_cut_147 (lv_at hl 1 rfl) ?_
                refine lv_if_ne (tgt := 160) hx hb dX12_cut_149 (by decide) (fun c_149 => ?_) (fun c_149 => ?_)
                · have t_149 : (ah).toInt ≠ 0 := toI_ne c_149 rfl (by decide)
                  refine lv_iload_n hx hb dX12_cut_160 rfl (lv_at hl 3 rfl) ?_
                  refine lv_iconst (v := 1) hx hb dX12_cut_161 (by decide) ?_
                  refine lv_iload hx hb dX12_cut_162 (lv_at hl 1 rfl) ?_
                  refine lv_if_eq (tgt := 177) hx hb dX12_cut_164 (by decide) (fun c9 => False.elim (c_149 c9)) (fun c_164 => ?_)
                  have t_164 : ¬ (ah).toInt = 0 := toI_neq c_164 rfl (by decide)
                  obtain ⟨s7, hs7, hs8, es7⟩ := setB (a := se2) (x := yB) (k := 12) (by omega) (by decide) (by omega) ((hah.resolve_left (fun h => c_149 h.1)).2.1)
                  refine lv_aload_n hx hb dX12_cut_167 rfl (lv_at hl 2 rfl) ?_
                  refine va_get (D := (dC, dI)) (ci := 12) (v := .ref (a 96)) (C := RX12) (T := TX12) (N := 163) (fs := fM (vS a (fT vi 0 th3) vj)) hx hb hts iwsRX12_cut_in12 hown hK hP 0 rfl rfl 152 (by decide) (hts (.fieldLink RX12 315 "OptimaWorksModel" "arcTo" "[I") (by decide +kernel)) (fun _ h9 => h9) rfl dX12_cut_168 ?_
                  refine lv_iload hx hb dX12_cut_171 (lv_at hl 5 rfl) ?_
                  refine va_iald (cA := k 96) (n := 40) (f := (vF 96)) hx hb hK hP 97 96 (WR_get 96 (by decide)) (TR_get 96 (by decide)) (vp_in_nI (show a5 < 40 by omega) (by omega)) dX12_cut_173 ?_
                  refine lv_topi (fun y14 hy14 => ?_)
                  obtain rfl : ((vF 96) a5) = y14 := (hy14.trans (by rw [nI_clamp (by omega)])).symm
                  refine lv_topi (fun y15 hy15 => ?_)
                  obtain rfl : (nI yB) = y15 := (hy15.trans (eyB)).symm
                  refine lv_goto (tgt := 184) hx hb dX12_cut_174 (by decide) ?_
                  refine lv_ishl hx hb dX12_cut_184 ?_
                  refine lv_ior hx hb dX12_cut_185 ?_
                  refine lv_topi (fun y16 hy16 => ?_)
                  obtain rfl : (nI s7) = y16 := (hy16.trans (es7)).symm
                  refine lv_istore_n hx hb dX12_cut_186 rfl hl (by decide) rfl (fun ls (hl : lv_has ls _ ([(3, .int (nI s7)), (7, .int bk), (6, .int ah), (0, .ref h0), (4, .int m2), (5, .int (nI a5))])) => ?_)
                  refine lv_iconst (v := 1) hx hb dX12_cut_187 (by decide) ?_
                  refine lv_istore hx hb dX12_cut_188 hl (by decide) rfl (fun ls (hl : lv_has ls _ ([(4, .int 1), (3, .int (nI s7)), (7, .int bk), (6, .int ah), (0, .ref h0), (5, .int (nI a5))])) => ?_)
                  refine lv_iinc (v := (nI (a5 + 1))) hx hb dX12_cut_190 hl (k := 5) rfl (nI_add a5 1) (by decide) rfl (fun ls (hl : lv_has ls _ ([(5, .int (nI (a5 + 1))), (4, .int 1), (3, .int (nI s7)), (7, .int bk), (6, .int ah), (0, .ref h0)])) => ?_)
                  refine lv_goto (tgt := 39) hx hb dX12_cut_193 (by decide) ?_
                  have hl : lv_has _ _ ([(0, .ref h0), (3, .int (nI s7)), (4, .int 1), (5, .int (nI (a5 + 1)))]) := lv_sub hl [5, 2, 1, 0] rfl
                  exact ih39_1 (a5 + 1) s7 1 _ _ _ (by omega) (by omega) (Or.inr (by omega)) (by rw [bI_set (by omega) es7, hs2]; rfl) (setLow (by omega) es7 hsl2) (setMin (by omega) es7 hmin2 (fun S h1 h2 => h2.ahead (a := a5) (by omega) eF5 eT5 (hmin2 S h1 h2 x5 (hah.resolve_left (fun h => c_149 h.1)).2.2.2.1) (hah.resolve_left (fun h => c_149 h.1)).2.2.1)) (fun h9 => absurd h9 (by decide)) (by omega) hP hD hS hl
                · have t_149 : (ah).toInt = 0 := toI_nne c_149 rfl (by decide)
                  refine lv_iload hx hb dX12_cut_152 (lv_at hl 0 rfl) ?_
                  refine lv_if_ne (tgt := 160) hx hb dX12_cut_154 (by decide) (fun c_154 => ?_) (fun c_154 => ?_)
                  · have t_154 : (bk).toInt ≠ 0 := toI_ne c_154 rfl (by decide)
                    refine lv_iload_n hx hb dX12_cut_160 rfl (lv_at hl 3 rfl) ?_
                    refine lv_iconst (v := 1) hx hb dX12_cut_161 (by decide) ?_
                    refine lv_iload hx hb dX12_cut_162 (lv_at hl 1 rfl) ?_
                    refine lv_if_eq (tgt := 177) hx hb dX12_cut_164 (by decide) (fun c_164 => ?_) (fun c9 => False.elim (c9 c_149))
                    have t_164 : (ah).toInt = 0 := toI_eq c_164 rfl (by decide)
                    obtain ⟨s7, hs7, hs8, es7⟩ := setB (a := se2) (x := x5) (k := 12) (by omega) (by decide) (by omega) ((hbk.resolve_left (fun h => c_154 h.1)).2.1)
                    refine lv_aload_n hx hb dX12_cut_177 rfl (lv_at hl 2 rfl) ?_
                    refine va_get (D := (dC, dI)) (ci := 12) (v := .ref (a 95)) (C := RX12) (T := TX12) (N := 163) (fs := fM (vS a (fT vi 0 th3) vj)) hx hb hts iwsRX12_cut_in12 hown hK hP 0 rfl rfl 151 (by decide) (hts (.fieldLink RX12 312 "OptimaWorksModel" "arcFrom" "[I") (by decide +kernel)) (fun _ h9 => h9) rfl dX12_cut_178 ?_
                    refine lv_iload hx hb dX12_cut_181 (lv_at hl 5 rfl) ?_
                    refine va_iald (cA := k 95) (n := 40) (f := (vF 95)) hx hb hK hP 96 95 (WR_get 95 (by decide)) (TR_get 95 (by decide)) (vp_in_nI (show a5 < 40 by omega) (by omega)) dX12_cut_183 ?_
                    refine lv_topi (fun y17 hy17 => ?_)
                    obtain rfl : ((vF 95) a5) = y17 := (hy17.trans (by rw [nI_clamp (by omega)])).symm
                    refine lv_topi (fun y18 hy18 => ?_)
                    obtain rfl : (nI x5) = y18 := (hy18.trans (ex5)).symm
                    refine lv_ishl hx hb dX12_cut_184 ?_
                    refine lv_ior hx hb dX12_cut_185 ?_
                    refine lv_topi (fun y19 hy19 => ?_)
                    obtain rfl : (nI s7) = y19 := (hy19.trans (es7)).symm
                    refine lv_istore_n hx hb dX12_cut_186 rfl hl (by decide) rfl (fun ls (hl : lv_has ls _ ([(3, .int (nI s7)), (7, .int bk), (6, .int ah), (0, .ref h0), (4, .int m2), (5, .int (nI a5))])) => ?_)
                    refine lv_iconst (v := 1) hx hb dX12_cut_187 (by decide) ?_
                    refine lv_istore hx hb dX12_cut_188 hl (by decide) rfl (fun ls (hl : lv_has ls _ ([(4, .int 1), (3, .int (nI s7)), (7, .int bk), (6, .int ah), (0, .ref h0), (5, .int (nI a5))])) => ?_)
                    refine lv_iinc (v := (nI (a5 + 1))) hx hb dX12_cut_190 hl (k := 5) rfl (nI_add a5 1) (by decide) rfl (fun ls (hl : lv_has ls _ ([(5, .int (nI (a5 + 1))), (4, .int 1), (3, .int (nI s7)), (7, .int bk), (6, .int ah), (0, .ref h0)])) => ?_)
                    refine lv_goto (tgt := 39) hx hb dX12_cut_193 (by decide) ?_
                    have hl : lv_has _ _ ([(0, .ref h0), (3, .int (nI s7)), (4, .int 1), (5, .int (nI (a5 + 1)))]) := lv_sub hl [5, 2, 1, 0] rfl
                    exact ih39_1 (a5 + 1) s7 1 _ _ _ (by omega) (by omega) (Or.inr (by omega)) (by rw [bI_set (by omega) es7, hs2]; rfl) (setLow (by omega) es7 hsl2) (setMin (by omega) es7 hmin2 (fun S h1 h2 => h2.back (a := a5) (by omega) eF5 eT5 (hmin2 S h1 h2 yB (hbk.resolve_left (fun h => c_154 h.1)).2.2.2.1) (hbk.resolve_left (fun h => c_154 h.1)).2.2.1)) (fun h9 => absurd h9 (by decide)) (by omega) hP hD hS hl
                  · have t_154 : (bk).toInt = 0 := toI_nne c_154 rfl (by decide)
                    refine lv_goto (tgt := 190) hx hb dX12_cut_157 (by decide) ?_
                    refine lv_iinc (v := (nI (a5 + 1))) hx hb dX12_cut_190 hl (k := 5) rfl (nI_add a5 1) (by decide) rfl (fun ls (hl : lv_has ls _ ([(5, .int (nI (a5 + 1))), (7, .int bk), (6, .int ah), (0, .ref h0), (3, .int (nI se2)), (4, .int m2)])) => ?_)
                    refine lv_goto (tgt := 39) hx hb dX12_cut_193 (by decide) ?_
                    have hl : lv_has _ _ ([(0, .ref h0), (3, .int (nI se2)), (4, .int m2), (5, .int (nI (a5 + 1)))]) := lv_sub hl [3, 4, 5, 0] rfl
                    exact ih39_1 (a5 + 1) se2 m2 _ _ _ (by omega) (by omega) (hm2) (hs2) (hsl2) (hmin2) (fun h9 => (hcl2 h9).next eF5 eT5 hfl5 (hah.resolve_right (fun h => by rw [h.1] at c_149; exact absurd c_149 (by decide))).2 (hbk.resolve_right (fun h => by rw [h.1] at c_154; exact absurd c_154 (by decide))).2) (by omega) hP hD hS hl
  · refine lv_if_ne (tgt := 11) hx hb dX12_cut_6 (by decide) (fun c9 => absurd c9 (by decide)) (fun _ => ?_)
    refine lv_iconst (v := 0) hx hb dX12_cut_9 (by decide) ?_
    refine W.widen (k := 0) (n := 0) (by decide +kernel) (by decide +kernel) ?_
    have e9 : fT (fT (fT vF 99 (vF 99)) 100 (vF 100)) 101 (vF 101) = vF := (fT_id _ _ ((fT_ne _ _ (Nat.ne_of_beq_eq_false rfl)).trans (fT_ne _ _ (Nat.ne_of_beq_eq_false rfl)))).trans ((fT_id _ _ (fT_ne _ _ (Nat.ne_of_beq_eq_false rfl))).trans (fT_id _ _ (rfl)))
    have hP : va_P (dC, dI) vwCl (WR a k h0 (fT vi 0 th3) vj (fT (fT (fT vF 99 (vF 99)) 100 (vF 100)) 101 (vF 101)) vG) H := by rw [e9]; exact hP
    have hD : va_D A (WR a k h0 (fT vi 0 th3) vj (fT (fT (fT vF 99 (vF 99)) 100 (vF 100)) 101 (vF 101)) vG) := by rw [e9]; exact hD
    clear e9
    exact W.iret (v := 0) hx hb hr (fun t9_ ht hW => ⟨⟨0, (th3, (vF 99), (vF 100), (vF 101)), rfl, by (try dsimp only); exact Or.inl f3_0, by rw [ht]; exact hP, hD⟩, hS.F ht⟩) hS.2.2 dX12_cut_10

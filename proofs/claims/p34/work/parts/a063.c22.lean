theorem dX12_goalOf_0 : decode cX12_goalOf 0 = .ok (.aload_n 0, 1) := dk_42 (by decide +kernel)
theorem dX12_goalOf_1 : decode cX12_goalOf 1 = .ok (.iload_n 1, 1) := dk_27 (by decide +kernel)
theorem dX12_goalOf_2 : decode cX12_goalOf 2 = .ok (.invokevirtual 844, 3) := dk_182 (by decide +kernel)
theorem dX12_goalOf_5 : decode cX12_goalOf 5 = .ok (.aload_n 0, 1) := dk_42 (by decide +kernel)
theorem dX12_goalOf_6 : decode cX12_goalOf 6 = .ok (.iload_n 1, 1) := dk_27 (by decide +kernel)
theorem dX12_goalOf_7 : decode cX12_goalOf 7 = .ok (.iconst 0, 1) := dk_3 (by decide +kernel)
theorem dX12_goalOf_8 : decode cX12_goalOf 8 = .ok (.invokevirtual 847, 3) := dk_182 (by decide +kernel)
theorem dX12_goalOf_11 : decode cX12_goalOf 11 = .ok (.aload_n 0, 1) := dk_42 (by decide +kernel)
theorem dX12_goalOf_12 : decode cX12_goalOf 12 = .ok (.bipush 22, 2) := dk_16 (by decide +kernel)
theorem dX12_goalOf_14 : decode cX12_goalOf 14 = .ok (.bipush 17, 2) := dk_16 (by decide +kernel)
theorem dX12_goalOf_16 : decode cX12_goalOf 16 = .ok (.iload_n 2, 1) := dk_28 (by decide +kernel)
theorem dX12_goalOf_17 : decode cX12_goalOf 17 = .ok (.bipush 8, 2) := dk_16 (by decide +kernel)
theorem dX12_goalOf_19 : decode cX12_goalOf 19 = .ok (.iadd, 1) := dk_96 (by decide +kernel)
theorem dX12_goalOf_20 : decode cX12_goalOf 20 = .ok (.invokevirtual 390, 3) := dk_182 (by decide +kernel)
theorem dX12_goalOf_23 : decode cX12_goalOf 23 = .ok (.iconst 0, 1) := dk_3 (by decide +kernel)
theorem dX12_goalOf_24 : decode cX12_goalOf 24 = .ok (.istore_n 3, 1) := dk_62 (by decide +kernel)
theorem dX12_goalOf_25 : decode cX12_goalOf 25 = .ok (.iload_n 3, 1) := dk_29 (by decide +kernel)
theorem dX12_goalOf_26 : decode cX12_goalOf 26 = .ok (.aload_n 0, 1) := dk_42 (by decide +kernel)
theorem dX12_goalOf_27 : decode cX12_goalOf 27 = .ok (.getfield 774, 3) := dk_180 (by decide +kernel)
theorem dX12_goalOf_30 : decode cX12_goalOf 30 = .ok (.if_icmp .ge 47, 3) := dk_162 (by decide +kernel)
theorem dX12_goalOf_33 : decode cX12_goalOf 33 = .ok (.aload_n 0, 1) := dk_42 (by decide +kernel)
theorem dX12_goalOf_34 : decode cX12_goalOf 34 = .ok (.iload_n 1, 1) := dk_27 (by decide +kernel)
theorem dX12_goalOf_35 : decode cX12_goalOf 35 = .ok (.iload_n 3, 1) := dk_29 (by decide +kernel)
theorem dX12_goalOf_36 : decode cX12_goalOf 36 = .ok (.iconst 1, 1) := dk_4 (by decide +kernel)
theorem dX12_goalOf_37 : decode cX12_goalOf 37 = .ok (.iadd, 1) := dk_96 (by decide +kernel)
theorem dX12_goalOf_38 : decode cX12_goalOf 38 = .ok (.invokevirtual 847, 3) := dk_182 (by decide +kernel)
theorem dX12_goalOf_41 : decode cX12_goalOf 41 = .ok (.aload_n 0, 1) := dk_42 (by decide +kernel)
theorem dX12_goalOf_42 : decode cX12_goalOf 42 = .ok (.bipush 23, 2) := dk_16 (by decide +kernel)
theorem dX12_goalOf_44 : decode cX12_goalOf 44 = .ok (.bipush 17, 2) := dk_16 (by decide +kernel)
theorem dX12_goalOf_46 : decode cX12_goalOf 46 = .ok (.iload_n 2, 1) := dk_28 (by decide +kernel)
theorem dX12_goalOf_47 : decode cX12_goalOf 47 = .ok (.iload_n 3, 1) := dk_29 (by decide +kernel)
theorem dX12_goalOf_48 : decode cX12_goalOf 48 = .ok (.iadd, 1) := dk_96 (by decide +kernel)
theorem dX12_goalOf_49 : decode cX12_goalOf 49 = .ok (.invokevirtual 390, 3) := dk_182 (by decide +kernel)
theorem dX12_goalOf_52 : decode cX12_goalOf 52 = .ok (.aload_n 0, 1) := dk_42 (by decide +kernel)
theorem dX12_goalOf_53 : decode cX12_goalOf 53 = .ok (.bipush 24, 2) := dk_16 (by decide +kernel)
theorem dX12_goalOf_55 : decode cX12_goalOf 55 = .ok (.bipush 22, 2) := dk_16 (by decide +kernel)
theorem dX12_goalOf_57 : decode cX12_goalOf 57 = .ok (.bipush 23, 2) := dk_16 (by decide +kernel)
theorem dX12_goalOf_59 : decode cX12_goalOf 59 = .ok (.iconst 1, 1) := dk_4 (by decide +kernel)
theorem dX12_goalOf_60 : decode cX12_goalOf 60 = .ok (.invokevirtual 443, 3) := dk_182 (by decide +kernel)
theorem dX12_goalOf_63 : decode cX12_goalOf 63 = .ok (.aload_n 0, 1) := dk_42 (by decide +kernel)
theorem dX12_goalOf_64 : decode cX12_goalOf 64 = .ok (.bipush 22, 2) := dk_16 (by decide +kernel)
theorem dX12_goalOf_66 : decode cX12_goalOf 66 = .ok (.bipush 24, 2) := dk_16 (by decide +kernel)
theorem dX12_goalOf_68 : decode cX12_goalOf 68 = .ok (.invokevirtual 365, 3) := dk_182 (by decide +kernel)
theorem dX12_goalOf_71 : decode cX12_goalOf 71 = .ok (.iinc 3 1, 3) := dk_132 (by decide +kernel)
theorem dX12_goalOf_74 : decode cX12_goalOf 74 = .ok (.goto (-49), 3) := dk_167 (by decide +kernel)
theorem dX12_goalOf_77 : decode cX12_goalOf 77 = .ok (.aload_n 0, 1) := dk_42 (by decide +kernel)
theorem dX12_goalOf_78 : decode cX12_goalOf 78 = .ok (.iload_n 2, 1) := dk_28 (by decide +kernel)
theorem dX12_goalOf_79 : decode cX12_goalOf 79 = .ok (.bipush 10, 2) := dk_16 (by decide +kernel)
theorem dX12_goalOf_81 : decode cX12_goalOf 81 = .ok (.iadd, 1) := dk_96 (by decide +kernel)
theorem dX12_goalOf_82 : decode cX12_goalOf 82 = .ok (.iload_n 1, 1) := dk_27 (by decide +kernel)
theorem dX12_goalOf_83 : decode cX12_goalOf 83 = .ok (.iadd, 1) := dk_96 (by decide +kernel)
theorem dX12_goalOf_84 : decode cX12_goalOf 84 = .ok (.bipush 22, 2) := dk_16 (by decide +kernel)
theorem dX12_goalOf_86 : decode cX12_goalOf 86 = .ok (.invokevirtual 365, 3) := dk_182 (by decide +kernel)
theorem dX12_goalOf_89 : decode cX12_goalOf 89 = .ok (.aload_n 0, 1) := dk_42 (by decide +kernel)
theorem dX12_goalOf_90 : decode cX12_goalOf 90 = .ok (.iload_n 2, 1) := dk_28 (by decide +kernel)
theorem dX12_goalOf_91 : decode cX12_goalOf 91 = .ok (.bipush 13, 2) := dk_16 (by decide +kernel)
theorem dX12_goalOf_93 : decode cX12_goalOf 93 = .ok (.iadd, 1) := dk_96 (by decide +kernel)
theorem dX12_goalOf_94 : decode cX12_goalOf 94 = .ok (.iload_n 1, 1) := dk_27 (by decide +kernel)
theorem dX12_goalOf_95 : decode cX12_goalOf 95 = .ok (.iadd, 1) := dk_96 (by decide +kernel)
theorem dX12_goalOf_96 : decode cX12_goalOf 96 = .ok (.bipush 19, 2) := dk_16 (by decide +kernel)
theorem dX12_goalOf_98 : decode cX12_goalOf 98 = .ok (.iload_n 2, 1) := dk_28 (by decide +kernel)
theorem dX12_goalOf_99 : decode cX12_goalOf 99 = .ok (.bipush 8, 2) := dk_16 (by decide +kernel)
theorem dX12_goalOf_101 : decode cX12_goalOf 101 = .ok (.iadd, 1) := dk_96 (by decide +kernel)
theorem dX12_goalOf_102 : decode cX12_goalOf 102 = .ok (.invokevirtual 390, 3) := dk_182 (by decide +kernel)
theorem dX12_goalOf_105 : decode cX12_goalOf 105 = .ok (.return_, 1) := dk_177 (by decide +kernel)
def wsRX12_goalOf : List Cond := .code yX12_goalOf cX12_goalOf 4 none :: ([.fieldLink RX12 774 "OptimaWorksModel" "variables" "I"] ++ wsX120 ++ (wsV RX12 844 RX12 yX12_scaleOf wsRX12_scaleOf) ++ (wsV RX12 847 RX12 yX12_goalNumber wsRX12_goalNumber) ++ (wsV RX12 390 RX12 yX12_times wsRX12_times) ++ (wsV RX12 365 RX12 yX12_copy wsRX12_copy) ++ (wsV RX12 443 RX12 yX12_add wsRX12_add))
theorem iwsRX12_goalOf_in12 : ∀ w ∈ wsX120, w ∈ wsRX12_goalOf := fun _ h => List.mem_cons_of_mem _ (List.mem_append_left _ (List.mem_append_left _ (List.mem_append_left _ (List.mem_append_left _ (List.mem_append_left _ (List.mem_append_right _ h))))))
theorem gwsRX12_goalOf_0 : GoodIn wsRX12_goalOf (wsV RX12 844 RX12 yX12_scaleOf wsRX12_scaleOf) := goodIn_sub (fun _ h => List.mem_cons_of_mem _ (List.mem_append_left _ (List.mem_append_left _ (List.mem_append_left _ (List.mem_append_left _ (List.mem_append_right _ h)))))) (gdV (by decide +kernel) gdwsRX12_scaleOf)
theorem gwsRX12_goalOf_1 : GoodIn wsRX12_goalOf (wsV RX12 847 RX12 yX12_goalNumber wsRX12_goalNumber) := goodIn_sub (fun _ h => List.mem_cons_of_mem _ (List.mem_append_left _ (List.mem_append_left _ (List.mem_append_left _ (List.mem_append_right _ h))))) (gdV (by decide +kernel) gdwsRX12_goalNumber)
theorem gwsRX12_goalOf_2 : GoodIn wsRX12_goalOf (wsV RX12 390 RX12 yX12_times wsRX12_times) := goodIn_sub (fun _ h => List.mem_cons_of_mem _ (List.mem_append_left _ (List.mem_append_left _ (List.mem_append_right _ h)))) (gdV (by decide +kernel) gdwsRX12_times)
theorem gwsRX12_goalOf_3 : GoodIn wsRX12_goalOf (wsV RX12 365 RX12 yX12_copy wsRX12_copy) := goodIn_sub (fun _ h => List.mem_cons_of_mem _ (List.mem_append_left _ (List.mem_append_right _ h))) (gdV (by decide +kernel) gdwsRX12_copy)
theorem gwsRX12_goalOf_4 : GoodIn wsRX12_goalOf (wsV RX12 443 RX12 yX12_add wsRX12_add) := goodIn_sub (fun _ h => List.mem_cons_of_mem _ (List.mem_append_right _ h)) (gdV (by decide +kernel) gdwsRX12_add)
theorem gdwsRX12_goalOf : wsRX12_goalOf.all goodWord = true := gdC rfl (gdA (gdA (gdA (gdA (gdA (gdA (by decide +kernel : ([.fieldLink RX12 774 "OptimaWorksModel" "variables" "I"] : List Cond).all goodWord = true) gdwsX120) (gdV (by decide +kernel) gdwsRX12_scaleOf)) (gdV (by decide +kernel) gdwsRX12_goalNumber)) (gdV (by decide +kernel) gdwsRX12_times)) (gdV (by decide +kernel) gdwsRX12_copy)) (gdV (by decide +kernel) gdwsRX12_add))
set_option maxHeartbeats 4000000 in
set_option maxRecDepth 100000 in
/-- goalOf(g, base) -/
theorem r_X12_goalOf (l : Launch) (dC : Nat → ClassId) (dI : Nat → Nat → Nat) (a : Nat → Nat) (k : Nat → ClassId) (h0 : Nat) (vi : Nat → Int32) (vj : Nat → Int64) (vF : Nat → Nat → Int32) (vG : Nat → Nat → Int64) (gn : Nat) (bn : Nat) (vn : Nat) (gq : Nat) (mg : Nat → Int) (hBg : Bg (vF 0) mg) (hvn : vi 90 = nI vn) (hvn8 : vn ≤ 8) (hgn : gn < gq) (hgq : gq ≤ 3) (hM : MdlB vF gq) (hbn : 1000 ≤ bn ∧ bn ≤ 1020) (hAn : AnsB mg bn) (h8 : (mg (bn + 8)).natAbs < 2 ^ 120) (sz : Nat) : Met l yX12_goalOf wsRX12_goalOf ({ frames := 4, cells := 0, slots := 0, locals := 107 }) (va_Pc [.ref h0, .int (nI gn), .int (nI bn)] (fun U => U.heap.size = sz ∧ va_P (dC, dI) vwCl (WR a k h0 vi vj vF vG) U.heap ∧ va_K (dC, dI) vwCl (tX12 k) U ∧ va_D (fun _ => True) (WR a k h0 vi vj vF vG))) (va_Qv (fun (u : (Nat → Int32) × (Nat → Int32) × (Nat → Int32) × (Nat → Int64) × (Nat → Int)) => (Bg (u.1) (u.2.2.2.2)) ∧ (AnsB (u.2.2.2.2) bn) ∧ (∀ q, (q < 5 ∨ 19 < q) → (q < 22 ∨ 24 < q) → q ≠ bn + 10 + gn → q ≠ bn + 13 + gn → (u.2.2.2.2) q = mg q) ∧ (0 < mg (bn + 8) → 0 < (u.2.2.2.2) (bn + 13 + gn))) (fun (u : (Nat → Int32) × (Nat → Int32) × (Nat → Int32) × (Nat → Int64) × (Nat → Int)) t => va_P (dC, dI) vwCl (WR a k h0 vi vj (fT (fT (fT vF 0 (u.1)) 2 (u.2.1)) 3 (u.2.2.1)) (fT vG 1 (u.2.2.2.1))) t.heap ∧ va_D (va_A (WR a k h0 vi vj vF vG) sz) (WR a k h0 vi vj (fT (fT (fT vF 0 (u.1)) 2 (u.2.1)) 3 (u.2.2.1)) (fT vG 1 (u.2.2.2.1)))) (va_A (WR a k h0 vi vj vF vG) sz)) 0 0 (va_A (WR a k h0 vi vj vF vG) sz) := by
  refine Met.ofW (cc := cX12_goalOf) (maxL := 4) (ret := none) (by decide) rfl ?_
  intro p e s m args below meth c s₁ B hml hv
  obtain ⟨rfl, hsz, hP, hK, hD0⟩ := hv
  have hx := B.exec
  have hb := B.bytes
  have hr := B.returns
  have hts := atoms_spec (ws := wsRX12_goalOf) B.pre
  have hown : s.vm.findClass RX12 = some m.cls := findClass_of_methodNamed B.named
  have hlocks := B.notSynchronized
  subst hsz
  have hD := hD0.self (sz := s.heap.size)
  generalize hAe : va_A (WR a k h0 vi vj vF vG) s.heap.size = A at hD ⊢
  have hA : ∀ q : Nat, s.heap.size ≤ q → A q := fun q h => by rw [← hAe]; exact Or.inr h
  have hS : va_S A s.heap s.heap [] := va_S.rf
  have hl := lv_entry ([.ref h0, .int (nI gn), .int (nI bn)]) (n := 4) (Nat.le_of_ble_eq_true rfl)
  rw [lg_entry_eq]
  generalize (lg_sl ([.ref h0, .int (nI gn), .int (nI bn)]) ++ List.replicate (4 - (lg_sl ([.ref h0, .int (nI gn), .int (nI bn)])).length) Slot.unset).toArray = ls at hl ⊢
  have hl : lv_has ls 4 [(0, .ref h0), (1, .int (nI gn)), (2, .int (nI bn))] := hl
  refine lv_aload_n hx hb dX12_goalOf_0 rfl (lv_at hl 0 rfl) ?_
  refine lv_iload_n hx hb dX12_goalOf_1 rfl (lv_at hl 1 rfl) ?_
  have hFc := allFree hD hS hA
  refine va_callv (va_runV (As := [.int (nI gn)]) (rest := []) ⟨hx, hb, hml, hown, hts⟩ (r_X12_scaleOf l dC dI a k h0 vi vj vF vG gn gq mg hBg (by first | assumption | decide | omega | rfl) (by first | assumption | decide | omega | rfl) (by first | assumption | decide | omega | rfl) s.heap.size) (cwV 1 hts gwsRX12_goalOf_0 rfl rfl rfl (by decide +kernel) ⟨by decide +kernel, by decide +kernel⟩) ⟨fun a U g mk q => by obtain ⟨q0, q1, qP, qK, qD⟩ := q; exact ⟨q0, q1, qP, va_K.moved (u := U) (U := U.calling g mk a) (Vm.Alike.refl U.vm) qK, qD⟩, va_recv hK hP (ci := 12) (q0 := 0) rfl rfl, fun U hU9 hW => ⟨rfl, by rw [hU9], by rw [hU9]; exact hP, va_K.moved hW.alike hK, hD.weaken (fun _ _ _ _ => trivial)⟩⟩ rfl rfl hl.1 rfl (lv_room (Nat.le_of_ble_eq_true rfl)) dX12_goalOf_2 ⟨by decide +kernel, by decide +kernel⟩) hS (fun q _ h => hFc q h) hFc (fun u t9_ H1 locs ht hvm hw9 hB9 hz1 hk1 hS => ?_)
  obtain ⟨g2, f2w2, f3w2, gs2, m22⟩ := u
  try dsimp only at hw9 hB9
  obtain ⟨hP1, hD1⟩ := hB9
  rw [ht] at hP1
  have hP := hP1
  have hD := hD1.weaken (fun _ q _ h => hFc q.1 h)
  generalize H1 = H at hP hS ⊢
  have hP : va_P (dC, dI) vwCl (WR a k h0 vi vj (fT (fT (fT vF 0 g2) 2 f2w2) 3 f3w2) (fT vG 1 gs2)) H := hP
  have hD : va_D A (WR a k h0 vi vj (fT (fT (fT vF 0 g2) 2 f2w2) 3 f3w2) (fT vG 1 gs2)) := hD
  obtain ⟨f2_0, f2_1, f2_2, f2_3⟩ := hw9
  refine lv_aload_n hx hb dX12_goalOf_5 rfl (lv_at hl 0 rfl) ?_
  refine lv_iload_n hx hb dX12_goalOf_6 rfl (lv_at hl 1 rfl) ?_
  refine lv_iconst (v := 0) hx hb dX12_goalOf_7 (by decide) ?_
  have hFc := allFree hD hS hA
  refine va_callv (va_runV (As := [.int (nI gn), .int 0]) (rest := []) ⟨hx, hb, hml, hown, hts⟩ (r_X12_goalNumber l dC dI a k h0 vi vj (fT (fT (fT vF 0 g2) 2 f2w2) 3 f3w2) (fT vG 1 gs2) gn 0 gq m22 f2_0 (m22 19) rfl (by first | assumption | decide | omega | rfl) (by first | assumption | decide | omega | rfl) (by first | assumption | decide | omega | rfl) (by first | assumption | decide | omega | rfl) (f2_2) H.size) (cwV 2 hts gwsRX12_goalOf_1 rfl rfl rfl (by decide +kernel) ⟨by decide +kernel, by decide +kernel⟩) ⟨fun a U g mk q => by obtain ⟨q0, q1, qP, qK, qD⟩ := q; exact ⟨q0, q1, qP, va_K.moved (u := U) (U := U.calling g mk a) (Vm.Alike.refl U.vm) qK, qD⟩, va_recv hK hP (ci := 12) (q0 := 0) rfl rfl, fun U hU9 hW => ⟨rfl, by rw [hU9], by rw [hU9]; exact hP, va_K.moved hW.alike hK, hD.weaken (fun _ _ _ _ => trivial)⟩⟩ rfl rfl hl.1 rfl (lv_room (Nat.le_of_ble_eq_true rfl)) dX12_goalOf_8 ⟨by decide +kernel, by decide +kernel⟩) hS (fun q _ h => hFc q h) hFc (fun u t9_ H1 locs ht hvm hw9 hB9 hz1 hk1 hS => ?_)
  obtain ⟨g8, f2w8, f3w8, gs8, m28⟩ := u
  try dsimp only at hw9 hB9
  obtain ⟨hP1, hD1⟩ := hB9
  rw [ht] at hP1
  have hP := hP1
  have hD := hD1.weaken (fun _ q _ h => hFc q.1 h)
  generalize H1 = H at hP hS ⊢
  have hP : va_P (dC, dI) vwCl (WR a k h0 vi vj (fT (fT (fT (fT (fT (fT vF 0 g2) 2 f2w2) 3 f3w2) 0 g8) 2 f2w8) 3 f3w8) (fT (fT vG 1 gs2) 1 gs8)) H := hP
  have hD : va_D A (WR a k h0 vi vj (fT (fT (fT (fT (fT (fT vF 0 g2) 2 f2w2) 3 f3w2) 0 g8) 2 f2w8) 3 f3w8) (fT (fT vG 1 gs2) 1 gs8)) := hD
  have e9 : fT (fT (fT vF 0 g8) 2 f2w8) 3 f3w8 = fT (fT (fT (fT (fT (fT vF 0 g2) 2 f2w2) 3 f3w2) 0 g8) 2 f2w8) 3 f3w8 := ((congrArg (fun g9 => fT (fT g9 2 f2w8) 3 f3w8) ((fT_sw _ _ _ (Nat.ne_of_beq_eq_false rfl)).trans (congrArg (fun g9 => fT g9 3 f3w2) ((fT_sw _ _ _ (Nat.ne_of_beq_eq_false rfl)).trans (congrArg (fun g9 => fT g9 2 f2w2) (fT_sm _ _ _ _)))))).trans ((congrArg (fun g9 => fT g9 3 f3w8) ((fT_sw _ _ _ (Nat.ne_of_beq_eq_false rfl)).trans (congrArg (fun g9 => fT g9 3 f3w2) (fT_sm _ _ _ _)))).trans (fT_sm _ _ _ _))).symm
  rw [← e9] at hP hD
  clear e9
  have e9 : fT vG 1 gs8 = fT (fT vG 1 gs2) 1 gs8 := (fT_sm _ _ _ _).symm
  rw [← e9] at hP hD
  clear e9
  have hP : va_P (dC, dI) vwCl (WR a k h0 vi vj (fT (fT (fT vF 0 g8) 2 f2w8) 3 f3w8) (fT vG 1 gs8)) H := hP
  have hD : va_D A (WR a k h0 vi vj (fT (fT (fT vF 0 g8) 2 f2w8) 3 f3w8) (fT vG 1 gs8)) := hD
  obtain ⟨f8_0, f8_1, f8_2, f8_3⟩ := hw9
  have b17 := gn_bd0 f2_2 f8_2
  have b8 := h8
  refine lv_aload_n hx hb dX12_goalOf_11 rfl (lv_at hl 0 rfl) ?_
  refine lv_bipush (v := 22) hx hb dX12_goalOf_12 (by decide) ?_
  refine lv_bipush (v := 17) hx hb dX12_goalOf_14 (by decide) ?_
  refine lv_iload_n hx hb dX12_goalOf_16 rfl (lv_at hl 2 rfl) ?_
  refine lv_bipush (v := 8) hx hb dX12_goalOf_17 (by decide) ?_
  refine lv_iadd hx hb dX12_goalOf_19 ?_
  refine lv_topi (fun y1 hy1 => ?_)
  obtain rfl : (nI (bn + 8)) = y1 := (hy1.trans (nI_add bn 8)).symm
  have hFc := allFree hD hS hA
  refine va_callv (va_runV (As := [.int 22, .int 17, .int (nI (bn + 8))]) (rest := []) ⟨hx, hb, hml, hown, hts⟩ (b_X12_times l dC dI a k h0 vi vj (fT (fT (fT vF 0 g8) 2 f2w8) 3 f3w8) (fT vG 1 gs8) 22 17 (bn + 8) m28 f8_0 (m28 17) (mg (bn + 8)) rfl (by rw [f8_3 _ (by omega), f2_3 _ (by omega)]) (by first | assumption | decide | omega | rfl) (by first | assumption | decide | omega | rfl) (by first | assumption | decide | omega | rfl) (mulpN (c := 588) b17 b8 (by decide)) H.size) (cwV 3 hts gwsRX12_goalOf_2 rfl rfl rfl (by decide +kernel) ⟨by decide +kernel, by decide +kernel⟩) ⟨fun a U g mk q => by obtain ⟨q0, q1, qP, qK, qD⟩ := q; exact ⟨q0, q1, qP, va_K.moved (u := U) (U := U.calling g mk a) (Vm.Alike.refl U.vm) qK, qD⟩, va_recv hK hP (ci := 12) (q0 := 0) rfl rfl, fun U hU9 hW => ⟨rfl, by rw [hU9], by rw [hU9]; exact hP, va_K.moved hW.alike hK, hD.weaken (fun _ _ _ _ => trivial)⟩⟩ rfl rfl hl.1 rfl (lv_room (Nat.le_of_ble_eq_true rfl)) dX12_goalOf_20 ⟨by decide +kernel, by decide +kernel⟩) hS (fun q _ h => hFc q h) hFc (fun u t9_ H1 locs ht hvm hw9 hB9 hz1 hk1 hS => ?_)
  obtain ⟨g20, gs20⟩ := u
  try dsimp only at hw9 hB9
  obtain ⟨hP1, hD1⟩ := hB9
  rw [ht] at hP1
  have hP := hP1
  have hD := hD1.weaken (fun _ q _ h => hFc q.1 h)
  generalize H1 = H at hP hS ⊢
  have hP : va_P (dC, dI) vwCl (WR a k h0 vi vj (fT (fT (fT (fT vF 0 g8) 2 f2w8) 3 f3w8) 0 g20) (fT (fT vG 1 gs8) 1 gs20)) H := hP
  have hD : va_D A (WR a k h0 vi vj (fT (fT (fT (fT vF 0 g8) 2 f2w8) 3 f3w8) 0 g20) (fT (fT vG 1 gs8) 1 gs20)) := hD
  have e9 : fT (fT (fT vF 0 g20) 2 f2w8) 3 f3w8 = fT (fT (fT (fT vF 0 g8) 2 f2w8) 3 f3w8) 0 g20 := ((fT_sw _ _ _ (Nat.ne_of_beq_eq_false rfl)).trans (congrArg (fun g9 => fT g9 3 f3w8) ((fT_sw _ _ _ (Nat.ne_of_beq_eq_false rfl)).trans (congrArg (fun g9 => fT g9 2 f2w8) (fT_sm _ _ _ _))))).symm
  rw [← e9] at hP hD
  clear e9
  have e9 : fT vG 1 gs20 = fT (fT vG 1 gs8) 1 gs20 := (fT_sm _ _ _ _).symm
  rw [← e9] at hP hD
  clear e9
  have hP : va_P (dC, dI) vwCl (WR a k h0 vi vj (fT (fT (fT vF 0 g20) 2 f2w8) 3 f3w8) (fT vG 1 gs20)) H := hP
  have hD : va_D A (WR a k h0 vi vj (fT (fT (fT vF 0 g20) 2 f2w8) 3 f3w8) (fT vG 1 gs20)) := hD
  have f20_0 := hw9
  try dsimp only at f20_0
  refine lv_iconst (v := 0) hx hb dX12_goalOf_23 (by decide) ?_
  refine lv_istore_n hx hb dX12_goalOf_24 rfl hl (by decide) rfl (fun ls (hl : lv_has ls _ ([(3, .int 0), (0, .ref h0), (1, .int (nI gn)), (2, .int (nI bn))])) => ?_)
  have hl : lv_has _ _ ([(0, .ref h0), (1, .int (nI gn)), (2, .int (nI bn)), (3, .int (nI 0))]) := lv_sub hl [1, 2, 3, 0] rfl
  refine (fun (loop : ∀ (n9 : Nat) (k5 : Nat) (g1 : Nat → Int32) (f21 : Nat → Int32) (f31 : Nat → Int32) (gs1 : Nat → Int64) (m1 : Nat → Int) (x19 : Int) (x22 : Int) (H : Heap) (locs : List Loc) (ls : Array Slot), (Bg g1 m1) → (m1 19 = x19) → (m1 22 = x22) → (k5 ≤ vn) → (x19.natAbs < 2 ^ 67) → (0 < x19) → (x22.natAbs ≤ 2 ^ 201 + k5 * 2 ^ 205) → (∀ q, (q < 5 ∨ 19 < q) → (q < 22 ∨ 24 < q) → m1 q = mg q) →  (vn < k5 + n9) → va_P (dC, dI) vwCl (WR a k h0 vi vj (fT (fT (fT vF 0 g1) 2 f21) 3 f31) (fT vG 1 gs1)) H → va_D A (WR a k h0 vi vj (fT (fT (fT vF 0 g1) 2 f21) 3 f31) (fT vG 1 gs1)) → va_S A s.heap H locs → lv_has ls 4 [(0, .ref h0), (1, .int (nI gn)), (2, .int (nI bn)), (3, .int (nI k5))] → W p l e _ s m _ below meth c H locs 0 0 _ (F0 m 25 ls [])) => loop (vn + 1) 0 g20 f2w8 f3w8 gs20 (fT m28 22 ((m28 17) * (mg (bn + 8)))) (m22 19) ((m28 17) * (mg (bn + 8))) _ _ _ (f20_0) ((by rw [fT_ne _ _ (by omega), f8_1])) ((by rw [fT_eq])) (by omega) (f2_2) (f2_1) (by (have p9 := mulp (c := 201) b17 b8 (by decide)); omega) (fun q h1 h2 => by (rw [fT_ne _ _ (by omega), f8_3 _ (by omega), f2_3 _ (by omega)])) (by omega) hP hD hS hl) ?_
  intro n9
  induction n9 with
  | zero => intro k5 g1 f21 f31 gs1 m1 x19 x22 H locs ls hB1 v_x19 v_x22 hk5 h19b h19p h22b ho hf9; exact False.elim (by omega)
  | succ n9 ih25 =>
    intro k5 g1 f21 f31 gs1 m1 x19 x22 H locs ls hB1 v_x19 v_x22 hk5 h19b h19p h22b ho hf25 hP hD hS hl
    refine lv_iload_n hx hb dX12_goalOf_25 rfl (lv_at hl 3 rfl) ?_
    refine lv_aload_n hx hb dX12_goalOf_26 rfl (lv_at hl 0 rfl) ?_
    refine va_get (D := (dC, dI)) (ci := 12) (v := .int (vi 90)) (C := RX12) (T := TX12) (N := 163) (fs := fM (vS a vi vj)) hx hb hts iwsRX12_goalOf_in12 hown hK hP 0 rfl rfl 90 (by decide) (hts (.fieldLink RX12 774 "OptimaWorksModel" "variables" "I") (by decide +kernel)) (fun _ h9 => h9) rfl dX12_goalOf_27 ?_
    refine lv_topi (fun y2 hy2 => ?_)
    obtain rfl : (nI vn) = y2 := (hy2.trans (hvn)).symm
    refine lv_icmp_ge (tgt := 77) hx hb dX12_goalOf_30 (by decide) (fun c_30 => ?_) (fun c_30 => ?_)
    · have t_30 : ((k5 : Nat) : Int) ≥ ((vn : Nat) : Int) := toI_ge c_30 (nI_toInt (by omega)) (nI_toInt (by omega))
      refine lv_aload_n hx hb dX12_goalOf_77 rfl (lv_at hl 0 rfl) ?_
      refine lv_iload_n hx hb dX12_goalOf_78 rfl (lv_at hl 2 rfl) ?_
      refine lv_bipush (v := 10) hx hb dX12_goalOf_79 (by decide) ?_
      refine lv_iadd hx hb dX12_goalOf_81 ?_
      refine lv_topi (fun y3 hy3 => ?_)
      obtain rfl : (nI (bn + 10)) = y3 := (hy3.trans (nI_add bn 10)).symm
      refine lv_iload_n hx hb dX12_goalOf_82 rfl (lv_at hl 1 rfl) ?_
      refine lv_iadd hx hb dX12_goalOf_83 ?_
      refine lv_topi (fun y4 hy4 => ?_)
      obtain rfl : (nI ((bn + 10) + gn)) = y4 := (hy4.trans (nI_add (bn + 10) gn)).symm
      refine lv_bipush (v := 22) hx hb dX12_goalOf_84 (by decide) ?_
      have hFc := allFree hD hS hA
      refine va_callv (va_runV (As := [.int (nI ((bn + 10) + gn)), .int 22]) (rest := []) ⟨hx, hb, hml, hown, hts⟩ (b_X12_copy l dC dI a k h0 vi vj (fT (fT (fT vF 0 g1) 2 f21) 3 f31) (fT vG 1 gs1) ((bn + 10) + gn) 22 m1 hB1 x22 (by rw [v_x22]) (by first | assumption | decide | omega | rfl) (by first | assumption | decide | omega | rfl) (by first | assumption | decide | omega | rfl) H.size) (cwV 2 hts gwsRX12_goalOf_3 rfl rfl rfl (by decide +kernel) ⟨by decide +kernel, by decide +kernel⟩) ⟨fun a U g mk q => by obtain ⟨q0, q1, qP, qK, qD⟩ := q; exact ⟨q0, q1, qP, va_K.moved (u := U) (U := U.calling g mk a) (Vm.Alike.refl U.vm) qK, qD⟩, va_recv hK hP (ci := 12) (q0 := 0) rfl rfl, fun U hU9 hW => ⟨rfl, by rw [hU9], by rw [hU9]; exact hP, va_K.moved hW.alike hK, hD.weaken (fun _ _ _ _ => trivial)⟩⟩ rfl rfl hl.1 rfl (lv_room (Nat.le_of_ble_eq_true rfl)) dX12_goalOf_86 ⟨by decide +kernel, by decide +kernel⟩) hS (fun q _ h => hFc q h) hFc (fun u t9_ H1 locs ht hvm hw9 hB9 hz1 hk1 hS => ?_)
      obtain ⟨g86, hwit86⟩ : ∃ w9, w9 = u := ⟨u, rfl⟩
      subst hwit86
      obtain ⟨hP1, hD1⟩ := hB9
      rw [ht] at hP1
      have hP := hP1
      have hD := hD1.weaken (fun _ q _ h => hFc q.1 h)
      generalize H1 = H at hP hS ⊢
      have hP : va_P (dC, dI) vwCl (WR a k h0 vi vj (fT (fT (fT (fT vF 0 g1) 2 f21) 3 f31) 0 g86) (fT vG 1 gs1)) H := hP
      have hD : va_D A (WR a k h0 vi vj (fT (fT (fT (fT vF 0 g1) 2 f21) 3 f31) 0 g86) (fT vG 1 gs1)) := hD
      have e9 : fT (fT (fT vF 0 g86) 2 f21) 3 f31 = fT (fT (fT (fT vF 0 g1) 2 f21) 3 f31) 0 g86 := ((fT_sw _ _ _ (Nat.ne_of_beq_eq_false rfl)).trans (congrArg (fun g9 => fT g9 3 f31) ((fT_sw _ _ _ (Nat.ne_of_beq_eq_false rfl)).trans (congrArg (fun g9 => fT g9 2 f21) (fT_sm _ _ _ _))))).symm
      rw [← e9] at hP hD
      clear e9
      have hP : va_P (dC, dI) vwCl (WR a k h0 vi vj (fT (fT (fT vF 0 g86) 2 f21) 3 f31) (fT vG 1 gs1)) H := hP
      have hD : va_D A (WR a k h0 vi vj (fT (fT (fT vF 0 g86) 2 f21) 3 f31) (fT vG 1 gs1)) := hD
      have f86_0 := hw9
      try dsimp only at f86_0
      refine lv_aload_n hx hb dX12_goalOf_89 rfl (lv_at hl 0 rfl) ?_
      refine lv_iload_n hx hb dX12_goalOf_90 rfl (lv_at hl 2 rfl) ?_
      refine lv_bipush (v := 13) hx hb dX12_goalOf_91 (by decide) ?_
      refine lv_iadd hx hb dX12_goalOf_93 ?_
      refine lv_topi (fun y5 hy5 => ?_)
      obtain rfl : (nI (bn + 13)) = y5 := (hy5.trans (nI_add bn 13)).symm
      refine lv_iload_n hx hb dX12_goalOf_94 rfl (lv_at hl 1 rfl) ?_
      refine lv_iadd hx hb dX12_goalOf_95 ?_
      refine lv_topi (fun y6 hy6 => ?_)
      obtain rfl : (nI ((bn + 13) + gn)) = y6 := (hy6.trans (nI_add (bn + 13) gn)).symm
      refine lv_bipush (v := 19) hx hb dX12_goalOf_96 (by decide) ?_
      refine lv_iload_n hx hb dX12_goalOf_98 rfl (lv_at hl 2 rfl) ?_
      refine lv_bipush (v := 8) hx hb dX12_goalOf_99 (by decide) ?_
      refine lv_iadd hx hb dX12_goalOf_101 ?_
      refine lv_topi (fun y7 hy7 => ?_)
      obtain rfl : (nI (bn + 8)) = y7 := (hy7.trans (nI_add bn 8)).symm
      have hFc := allFree hD hS hA
      refine va_callv (va_runV (As := [.int (nI ((bn + 13) + gn)), .int 19, .int (nI (bn + 8))]) (rest := []) ⟨hx, hb, hml, hown, hts⟩ (b_X12_times l dC dI a k h0 vi vj (fT (fT (fT vF 0 g86) 2 f21) 3 f31) (fT vG 1 gs1) ((bn + 13) + gn) 19 (bn + 8) (fT m1 ((bn + 10) + gn) x22) f86_0 x19 (mg (bn + 8)) (by rw [fT_ne _ _ (by omega), v_x19]) (by rw [fT_ne _ _ (by omega), ho (bn + 8) (by omega) (by omega)]) (by first | assumption | decide | omega | rfl) (by first | assumption | decide | omega | rfl) (by first | assumption | decide | omega | rfl) (mulpN (c := 588) h19b h8 (by decide)) H.size) (cwV 3 hts gwsRX12_goalOf_2 rfl rfl rfl (by decide +kernel) ⟨by decide +kernel, by decide +kernel⟩) ⟨fun a U g mk q => by obtain ⟨q0, q1, qP, qK, qD⟩ := q; exact ⟨q0, q1, qP, va_K.moved (u := U) (U := U.calling g mk a) (Vm.Alike.refl U.vm) qK, qD⟩, va_recv hK hP (ci := 12) (q0 := 0) rfl rfl, fun U hU9 hW => ⟨rfl, by rw [hU9], by rw [hU9]; exact hP, va_K.moved hW.alike hK, hD.weaken (fun _ _ _ _ => trivial)⟩⟩ rfl rfl hl.1 rfl (lv_room (Nat.le_of_ble_eq_true rfl)) dX12_goalOf_102 ⟨by decide +kernel, by decide +kernel⟩) hS (fun q _ h => hFc q h) hFc (fun u t9_ H1 locs ht hvm hw9 hB9 hz1 hk1 hS => ?_)
      obtain ⟨g102, gs102⟩ := u
      try dsimp only at hw9 hB9
      obtain ⟨hP1, hD1⟩ := hB9
      rw [ht] at hP1
      have hP := hP1
      have hD := hD1.weaken (fun _ q _ h => hFc q.1 h)
      generalize H1 = H at hP hS ⊢
      have hP : va_P (dC, dI) vwCl (WR a k h0 vi vj (fT (fT (fT (fT vF 0 g86) 2 f21) 3 f31) 0 g102) (fT (fT vG 1 gs1) 1 gs102)) H := hP
      have hD : va_D A (WR a k h0 vi vj (fT (fT (fT (fT vF 0 g86) 2 f21) 3 f31) 0 g102) (fT (fT vG 1 gs1) 1 gs102)) := hD
      have e9 : fT (fT (fT vF 0 g102) 2 f21) 3 f31 = fT (fT (fT (fT vF 0 g86) 2 f21) 3 f31) 0 g102 := ((fT_sw _ _ _ (Nat.ne_of_beq_eq_false rfl)).trans (congrArg (fun g9 => fT g9 3 f31) ((fT_sw _ _ _ (Nat.ne_of_beq_eq_false rfl)).trans (congrArg (fun g9 => fT g9 2 f21) (fT_sm _ _ _ _))))).symm
      rw [← e9] at hP hD
      clear e9
      have e9 : fT vG 1 gs102 = fT (fT vG 1 gs1) 1 gs102 := (fT_sm _ _ _ _).symm
      rw [← e9] at hP hD
      clear e9
      have hP : va_P (dC, dI) vwCl (WR a k h0 vi vj (fT (fT (fT vF 0 g102) 2 f21) 3 f31) (fT vG 1 gs102)) H := hP
      have hD : va_D A (WR a k h0 vi vj (fT (fT (fT vF 0 g102) 2 f21) 3 f31) (fT vG 1 gs102)) := hD
      have f102_0 := hw9
      try dsimp only at f102_0
      refine W.widen (k := 0) (n := 0) (by decide +kernel) (by decide +kernel) ?_
      exact W.vret hx hb hr (fun t9_ ht hW => ⟨⟨(g102, f21, f31, gs102, (fT (fT m1 ((bn + 10) + gn) x22) ((bn + 13) + gn) (x19 * (mg (bn + 8))))), rfl, by (try dsimp only); exact ⟨f102_0, ⟨fun k hk => by (rw [fT_ne _ _ (by omega), fT_ne _ _ (by omega)]); rw [ho _ (by omega) (by omega)]; exact hAn.1 k hk, fun g9 hg9 => ⟨by rw [fT_ne _ _ (by omega)]; by_cases e9 : g9 = gn; (rw [e9, fT_eq]; omega); (rw [fT_ne _ _ (by omega), ho _ (by omega) (by omega)]; exact (hAn.2 g9 hg9).1), by by_cases e9 : g9 = gn; (rw [e9, fT_eq]; exact mulp h19b h8 (by decide)); (rw [fT_ne _ _ (by omega), fT_ne _ _ (by omega), ho _ (by omega) (by omega)]; exact (hAn.2 g9 hg9).2)⟩⟩, fun q h1 h2 h3 h4 => by (rw [fT_ne _ _ (by omega), fT_ne _ _ (by omega)]); exact ho q h1 h2, fun h9 => by (have e9 : (fT (fT m1 ((bn + 10) + gn) x22) ((bn + 13) + gn) (x19 * (mg (bn + 8)))) (bn + 13 + gn) = x19 * mg (bn + 8) := by rw [fT_eq]); rw [e9]; exact Int.mul_pos h19p h9⟩, by rw [ht]; exact hP, hD⟩, hS.F ht⟩) hS.2.2 dX12_goalOf_105
    · have t_30 : ¬ ((k5 : Nat) : Int) ≥ ((vn : Nat) : Int) := toI_nge c_30 (nI_toInt (by omega)) (nI_toInt (by omega))
      refine lv_aload_n hx hb dX12_goalOf_33 rfl (lv_at hl 0 rfl) ?_
      refine lv_iload_n hx hb dX12_goalOf_34 rfl (lv_at hl 1 rfl) ?_
      refine lv_iload_n hx hb dX12_goalOf_35 rfl (lv_at hl 3 rfl) ?_
      refine lv_iconst (v := 1) hx hb dX12_goalOf_36 (by decide) ?_
      refine lv_iadd hx hb dX12_goalOf_37 ?_
      refine lv_topi (fun y8 hy8 => ?_)
      obtain rfl : (nI (k5 + 1)) = y8 := (hy8.trans (nI_add k5 1)).symm
      have hFc := allFree hD hS hA
      refine va_callv (va_runV (As := [.int (nI gn), .int (nI (k5 + 1))]) (rest := []) ⟨hx, hb, hml, hown, hts⟩ (r_X12_goalNumber l dC dI a k h0 vi vj (fT (fT (fT vF 0 g1) 2 f21) 3 f31) (fT vG 1 gs1) gn (k5 + 1) gq m1 hB1 x19 (by rw [v_x19]) (by first | assumption | decide | omega | rfl) (by first | assumption | decide | omega | rfl) (by first | assumption | decide | omega | rfl) (by first | assumption | decide | omega | rfl) (h19b) H.size) (cwV 2 hts gwsRX12_goalOf_1 rfl rfl rfl (by decide +kernel) ⟨by decide +kernel, by decide +kernel⟩) ⟨fun a U g mk q => by obtain ⟨q0, q1, qP, qK, qD⟩ := q; exact ⟨q0, q1, qP, va_K.moved (u := U) (U := U.calling g mk a) (Vm.Alike.refl U.vm) qK, qD⟩, va_recv hK hP (ci := 12) (q0 := 0) rfl rfl, fun U hU9 hW => ⟨rfl, by rw [hU9], by rw [hU9]; exact hP, va_K.moved hW.alike hK, hD.weaken (fun _ _ _ _ => trivial)⟩⟩ rfl rfl hl.1 rfl (lv_room (Nat.le_of_ble_eq_true rfl)) dX12_goalOf_38 ⟨by decide +kernel, by decide +kernel⟩) hS (fun q _ h => hFc q h) hFc (fun u t9_ H1 locs ht hvm hw9 hB9 hz1 hk1 hS => ?_)
      obtain ⟨g38, f2w38, f3w38, gs38, m238⟩ := u
      try dsimp only at hw9 hB9
      obtain ⟨hP1, hD1⟩ := hB9
      rw [ht] at hP1
      have hP := hP1
      have hD := hD1.weaken (fun _ q _ h => hFc q.1 h)
      generalize H1 = H at hP hS ⊢
      have hP : va_P (dC, dI) vwCl (WR a k h0 vi vj (fT (fT (fT (fT (fT (fT vF 0 g1) 2 f21) 3 f31) 0 g38) 2 f2w38) 3 f3w38) (fT (fT vG 1 gs1) 1 gs38)) H := hP
      have hD : va_D A (WR a k h0 vi vj (fT (fT (fT (fT (fT (fT vF 0 g1) 2 f21) 3 f31) 0 g38) 2 f2w38) 3 f3w38) (fT (fT vG 1 gs1) 1 gs38)) := hD
      have e9 : fT (fT (fT vF 0 g38) 2 f2w38) 3 f3w38 = fT (fT (fT (fT (fT (fT vF 0 g1) 2 f21) 3 f31) 0 g38) 2 f2w38) 3 f3w38 := ((congrArg (fun g9 => fT (fT g9 2 f2w38) 3 f3w38) ((fT_sw _ _ _ (Nat.ne_of_beq_eq_false rfl)).trans (congrArg (fun g9 => fT g9 3 f31) ((fT_sw _ _ _ (Nat.ne_of_beq_eq_false rfl)).trans (congrArg (fun g9 => fT g9 2 f21) (fT_sm _ _ _ _)))))).trans ((congrArg (fun g9 => fT g9 3 f3w38) ((fT_sw _ _ _ (Nat.ne_of_beq_eq_false rfl)).trans (congrArg (fun g9 => fT g9 3 f31) (fT_sm _ _ _ _)))).trans (fT_sm _ _ _ _))).symm
      rw [← e9] at hP hD
      clear e9
      have e9 : fT vG 1 gs38 = fT (fT vG 1 gs1) 1 gs38 := (fT_sm _ _ _ _).symm
      rw [← e9] at hP hD
      clear e9
      have hP : va_P (dC, dI) vwCl (WR a k h0 vi vj (fT (fT (fT vF 0 g38) 2 f2w38) 3 f3w38) (fT vG 1 gs38)) H := hP
      have hD : va_D A (WR a k h0 vi vj (fT (fT (fT vF 0 g38) 2 f2w38) 3 f3w38) (fT vG 1 gs38)) := hD
      obtain ⟨f38_0, f38_1, f38_2, f38_3⟩ := hw9
      have b17b := gn_bd1 h19b f38_2
      refine lv_aload_n hx hb dX12_goalOf_41 rfl (lv_at hl 0 rfl) ?_
      refine lv_bipush (v := 23) hx hb dX12_goalOf_42 (by decide) ?_
      have bk := hAn.1 k5 (by omega)
      have p23 := mulp (c := 205) b17b bk (by decide)
      refine lv_bipush (v := 17) hx hb dX12_goalOf_44 (by decide) ?_
      refine lv_iload_n hx hb dX12_goalOf_46 rfl (lv_at hl 2 rfl) ?_
      refine lv_iload_n hx hb dX12_goalOf_47 rfl (lv_at hl 3 rfl) ?_
      refine lv_iadd hx hb dX12_goalOf_48 ?_
      refine lv_topi (fun y9 hy9 => ?_)
      obtain rfl : (nI (bn + k5)) = y9 := (hy9.trans (nI_add bn k5)).symm
      have hFc := allFree hD hS hA
      refine va_callv (va_runV (As := [.int 23, .int 17, .int (nI (bn + k5))]) (rest := []) ⟨hx, hb, hml, hown, hts⟩ (b_X12_times l dC dI a k h0 vi vj (fT (fT (fT vF 0 g38) 2 f2w38) 3 f3w38) (fT vG 1 gs38) 23 17 (bn + k5) m238 f38_0 (m238 17) (mg (bn + k5)) rfl (by rw [f38_3 _ (by omega), ho (bn + k5) (by omega) (by omega)]) (by first | assumption | decide | omega | rfl) (by first | assumption | decide | omega | rfl) (by first | assumption | decide | omega | rfl) (mulpN (c := 588) b17b bk (by decide)) H.size) (cwV 3 hts gwsRX12_goalOf_2 rfl rfl rfl (by decide +kernel) ⟨by decide +kernel, by decide +kernel⟩) ⟨fun a U g mk q => by obtain ⟨q0, q1, qP, qK, qD⟩ := q; exact ⟨q0, q1, qP, va_K.moved (u := U) (U := U.calling g mk a) (Vm.Alike.refl U.vm) qK, qD⟩, va_recv hK hP (ci := 12) (q0 := 0) rfl rfl, fun U hU9 hW => ⟨rfl, by rw [hU9], by rw [hU9]; exact hP, va_K.moved hW.alike hK, hD.weaken (fun _ _ _ _ => trivial)⟩⟩ rfl rfl hl.1 rfl (lv_room (Nat.le_of_ble_eq_true rfl)) dX12_goalOf_49 ⟨by decide +kernel, by decide +kernel⟩) hS (fun q _ h => hFc q h) hFc (fun u t9_ H1 locs ht hvm hw9 hB9 hz1 hk1 hS => ?_)
      obtain ⟨g49, gs49⟩ := u
      try dsimp only at hw9 hB9
      obtain ⟨hP1, hD1⟩ := hB9
      rw [ht] at hP1
      have hP := hP1
      have hD := hD1.weaken (fun _ q _ h => hFc q.1 h)
      generalize H1 = H at hP hS ⊢
      have hP : va_P (dC, dI) vwCl (WR a k h0 vi vj (fT (fT (fT (fT vF 0 g38) 2 f2w38) 3 f3w38) 0 g49) (fT (fT vG 1 gs38) 1 gs49)) H := hP
      have hD : va_D A (WR a k h0 vi vj (fT (fT (fT (fT vF 0 g38) 2 f2w38) 3 f3w38) 0 g49) (fT (fT vG 1 gs38) 1 gs49)) := hD
      have e9 : fT (fT (fT vF 0 g49) 2 f2w38) 3 f3w38 = fT (fT (fT (fT vF 0 g38) 2 f2w38) 3 f3w38) 0 g49 := ((fT_sw _ _ _ (Nat.ne_of_beq_eq_false rfl)).trans (congrArg (fun g9 => fT g9 3 f3w38) ((fT_sw _ _ _ (Nat.ne_of_beq_eq_false rfl)).trans (congrArg (fun g9 => fT g9 2 f2w38) (fT_sm _ _ _ _))))).symm
      rw [← e9] at hP hD
      clear e9
      have e9 : fT vG 1 gs49 = fT (fT vG 1 gs38) 1 gs49 := (fT_sm _ _ _ _).symm
      rw [← e9] at hP hD
      clear e9
      have hP : va_P (dC, dI) vwCl (WR a k h0 vi vj (fT (fT (fT vF 0 g49) 2 f2w38) 3 f3w38) (fT vG 1 gs49)) H := hP
      have hD : va_D A (WR a k h0 vi vj (fT (fT (fT vF 0 g49) 2 f2w38) 3 f3w38) (fT vG 1 gs49)) := hD
      have f49_0 := hw9
      try dsimp only at f49_0
      refine lv_aload_n hx hb dX12_goalOf_52 rfl (lv_at hl 0 rfl) ?_
      refine lv_bipush (v := 24) hx hb dX12_goalOf_53 (by decide) ?_
      refine lv_bipush (v := 22) hx hb dX12_goalOf_55 (by decide) ?_
      refine lv_bipush (v := 23) hx hb dX12_goalOf_57 (by decide) ?_
      refine lv_iconst (v := 1) hx hb dX12_goalOf_59 (by decide) ?_
      have hFc := allFree hD hS hA
      refine va_callv (va_runV (As := [.int 24, .int 22, .int 23, .int 1]) (rest := []) ⟨hx, hb, hml, hown, hts⟩ (b_X12_add l dC dI a k h0 vi vj (fT (fT (fT vF 0 g49) 2 f2w38) 3 f3w38) (fT vG 1 gs49) 24 1 1 22 23 (fT m238 23 ((m238 17) * (mg (bn + k5)))) f49_0 x22 ((m238 17) * (mg (bn + k5))) (by rw [fT_ne _ _ (by omega), f38_3 _ (by omega), v_x22]) (by rw [fT_eq]) (by first | assumption | decide | omega | rfl) (by first | assumption | decide | omega | rfl) (by first | assumption | decide | omega | rfl) (Or.inl ⟨rfl, rfl⟩) (by omega) H.size) (cwV 4 hts gwsRX12_goalOf_4 rfl rfl rfl (by decide +kernel) ⟨by decide +kernel, by decide +kernel⟩) ⟨fun a U g mk q => by obtain ⟨q0, q1, qP, qK, qD⟩ := q; exact ⟨q0, q1, qP, va_K.moved (u := U) (U := U.calling g mk a) (Vm.Alike.refl U.vm) qK, qD⟩, va_recv hK hP (ci := 12) (q0 := 0) rfl rfl, fun U hU9 hW => ⟨rfl, by rw [hU9], by rw [hU9]; exact hP, va_K.moved hW.alike hK, hD.weaken (fun _ _ _ _ => trivial)⟩⟩ rfl rfl hl.1 rfl (lv_room (Nat.le_of_ble_eq_true rfl)) dX12_goalOf_60 ⟨by decide +kernel, by decide +kernel⟩) hS (fun q _ h => hFc q h) hFc (fun u t9_ H1 locs ht hvm hw9 hB9 hz1 hk1 hS => ?_)
      obtain ⟨g60, gs60⟩ := u
      try dsimp only at hw9 hB9
      obtain ⟨hP1, hD1⟩ := hB9
      rw [ht] at hP1
      have hP := hP1
      have hD := hD1.weaken (fun _ q _ h => hFc q.1 h)
      generalize H1 = H at hP hS ⊢
      have hP : va_P (dC, dI) vwCl (WR a k h0 vi vj (fT (fT (fT (fT vF 0 g49) 2 f2w38) 3 f3w38) 0 g60) (fT (fT vG 1 gs49) 1 gs60)) H := hP
      have hD : va_D A (WR a k h0 vi vj (fT (fT (fT (fT vF 0 g49) 2 f2w38) 3 f3w38) 0 g60) (fT (fT vG 1 gs49) 1 gs60)) := hD
      have e9 : fT (fT (fT vF 0 g60) 2 f2w38) 3 f3w38 = fT (fT (fT (fT vF 0 g49) 2 f2w38) 3 f3w38) 0 g60 := ((fT_sw _ _ _ (Nat.ne_of_beq_eq_false rfl)).trans (congrArg (fun g9 => fT g9 3 f3w38) ((fT_sw _ _ _ (Nat.ne_of_beq_eq_false rfl)).trans (congrArg (fun g9 => fT g9 2 f2w38) (fT_sm _ _ _ _))))).symm
      rw [← e9] at hP hD
      clear e9
      have e9 : fT vG 1 gs60 = fT (fT vG 1 gs49) 1 gs60 := (fT_sm _ _ _ _).symm
      rw [← e9] at hP hD
      clear e9
      have hP : va_P (dC, dI) vwCl (WR a k h0 vi vj (fT (fT (fT vF 0 g60) 2 f2w38) 3 f3w38) (fT vG 1 gs60)) H := hP
      have hD : va_D A (WR a k h0 vi vj (fT (fT (fT vF 0 g60) 2 f2w38) 3 f3w38) (fT vG 1 gs60)) := hD
      have f60_0 := hw9
      try dsimp only at f60_0
      refine lv_aload_n hx hb dX12_goalOf_63 rfl (lv_at hl 0 rfl) ?_
      refine lv_bipush (v := 22) hx hb dX12_goalOf_64 (by decide) ?_
      refine lv_bipush (v := 24) hx hb dX12_goalOf_66 (by decide) ?_
      have hFc := allFree hD hS hA
      refine va_callv (va_runV (As := [.int 22, .int 24]) (rest := []) ⟨hx, hb, hml, hown, hts⟩ (b_X12_copy l dC dI a k h0 vi vj (fT (fT (fT vF 0 g60) 2 f2w38) 3 f3w38) (fT vG 1 gs60) 22 24 (fT (fT m238 23 ((m238 17) * (mg (bn + k5)))) 24 (x22 + 1 * ((m238 17) * (mg (bn + k5))))) f60_0 (x22 + 1 * ((m238 17) * (mg (bn + k5)))) (by rw [fT_eq]) (by first | assumption | decide | omega | rfl) (by first | assumption | decide | omega | rfl) (by first | assumption | decide | omega | rfl) H.size) (cwV 2 hts gwsRX12_goalOf_3 rfl rfl rfl (by decide +kernel) ⟨by decide +kernel, by decide +kernel⟩) ⟨fun a U g mk q => by obtain ⟨q0, q1, qP, qK, qD⟩ := q; exact ⟨q0, q1, qP, va_K.moved (u := U) (U := U.calling g mk a) (Vm.Alike.refl U.vm) qK, qD⟩, va_recv hK hP (ci := 12) (q0 := 0) rfl rfl, fun U hU9 hW => ⟨rfl, by rw [hU9], by rw [hU9]; exact hP, va_K.moved hW.alike hK, hD.weaken (fun _ _ _ _ => trivial)⟩⟩ rfl rfl hl.1 rfl (lv_room (Nat.le_of_ble_eq_true rfl)) dX12_goalOf_68 ⟨by decide +kernel, by decide +kernel⟩) hS (fun q _ h => hFc q h) hFc (fun u t9_ H1 locs ht hvm hw9 hB9 hz1 hk1 hS => ?_)
      obtain ⟨g68, hwit68⟩ : ∃ w9, w9 = u := ⟨u, rfl⟩
      subst hwit68
      obtain ⟨hP1, hD1⟩ := hB9
      rw [ht] at hP1
      have hP := hP1
      have hD := hD1.weaken (fun _ q _ h => hFc q.1 h)
      generalize H1 = H at hP hS ⊢
      have hP : va_P (dC, dI) vwCl (WR a k h0 vi vj (fT (fT (fT (fT vF 0 g60) 2 f2w38) 3 f3w38) 0 g68) (fT vG 1 gs60)) H := hP
      have hD : va_D A (WR a k h0 vi vj (fT (fT (fT (fT vF 0 g60) 2 f2w38) 3 f3w38) 0 g68) (fT vG 1 gs60)) := hD
      have e9 : fT (fT (fT vF 0 g68) 2 f2w38) 3 f3w38 = fT (fT (fT (fT vF 0 g60) 2 f2w38) 3 f3w38) 0 g68 := ((fT_sw _ _ _ (Nat.ne_of_beq_eq_false rfl)).trans (congrArg (fun g9 => fT g9 3 f3w38) ((fT_sw _ _ _ (Nat.ne_of_beq_eq_false rfl)).trans (congrArg (fun g9 => fT g9 2 f2w38) (fT_sm _ _ _ _))))).symm
      rw [← e9] at hP hD
      clear e9
      have hP : va_P (dC, dI) vwCl (WR a k h0 vi vj (fT (fT (fT vF 0 g68) 2 f2w38) 3 f3w38) (fT vG 1 gs60)) H := hP
      have hD : va_D A (WR a k h0 vi vj (fT (fT (fT vF 0 g68) 2 f2w38) 3 f3w38) (fT vG 1 gs60)) := hD
      have f68_0 := hw9
      try dsimp only at f68_0
      refine lv_iinc (v := (nI (k5 + 1))) hx hb dX12_goalOf_71 hl (k := 3) rfl (nI_add k5 1) (by decide) rfl (fun ls (hl : lv_has ls _ ([(3, .int (nI (k5 + 1))), (0, .ref h0), (1, .int (nI gn)), (2, .int (nI bn))])) => ?_)
      refine lv_goto (tgt := 25) hx hb dX12_goalOf_74 (by decide) ?_
      have hl : lv_has _ _ ([(0, .ref h0), (1, .int (nI gn)), (2, .int (nI bn)), (3, .int (nI (k5 + 1)))]) := lv_sub hl [1, 2, 3, 0] rfl
      exact ih25 (k5 + 1) g68 f2w38 f3w38 gs60 (fT (fT (fT m238 23 ((m238 17) * (mg (bn + k5)))) 24 (x22 + 1 * ((m238 17) * (mg (bn + k5))))) 22 (x22 + 1 * ((m238 17) * (mg (bn + k5))))) x19 (x22 + 1 * ((m238 17) * (mg (bn + k5)))) _ _ _ (f68_0) ((by rw [fT_ne _ _ (by omega), fT_ne _ _ (by omega), fT_ne _ _ (by omega), f38_1])) ((by rw [fT_eq])) (by omega) (h19b) (h19p) (by omega) (fun q h1 h2 => by (rw [fT_ne _ _ (by omega), fT_ne _ _ (by omega), fT_ne _ _ (by omega), f38_3 _ (by omega)]); exact ho q h1 h2) (by omega) hP hD hS hl
theorem dX12_tryIt_0 : decode cX12_tryIt 0 = .ok (.aload_n 0, 1) := dk_42 (by decide +kernel)
theorem dX12_tryIt_1 : decode cX12_tryIt 1 = .ok (.sipush 1028, 3) := dk_17 (by decide +kernel)
theorem dX12_tryIt_4 : decode cX12_tryIt 4 = .ok (.bipush 20, 2) := dk_16 (by decide +kernel)
theorem dX12_tryIt_6 : decode cX12_tryIt 6 = .ok (.invokevirtual 365, 3) := dk_182 (by decide +kernel)
theorem dX12_tryIt_9 : decode cX12_tryIt 9 = .ok (.iconst 0, 1) := dk_3 (by decide +kernel)
theorem dX12_tryIt_10 : decode cX12_tryIt 10 = .ok (.istore_n 1, 1) := dk_60 (by decide +kernel)
theorem dX12_tryIt_11 : decode cX12_tryIt 11 = .ok (.iload_n 1, 1) := dk_27 (by decide +kernel)
theorem dX12_tryIt_12 : decode cX12_tryIt 12 = .ok (.aload_n 0, 1) := dk_42 (by decide +kernel)
theorem dX12_tryIt_13 : decode cX12_tryIt 13 = .ok (.getfield 774, 3) := dk_180 (by decide +kernel)
theorem dX12_tryIt_16 : decode cX12_tryIt 16 = .ok (.if_icmp .ge 52, 3) := dk_162 (by decide +kernel)
theorem dX12_tryIt_19 : decode cX12_tryIt 19 = .ok (.aload_n 0, 1) := dk_42 (by decide +kernel)
theorem dX12_tryIt_20 : decode cX12_tryIt 20 = .ok (.bipush 22, 2) := dk_16 (by decide +kernel)
theorem dX12_tryIt_22 : decode cX12_tryIt 22 = .ok (.iload_n 1, 1) := dk_27 (by decide +kernel)
theorem dX12_tryIt_23 : decode cX12_tryIt 23 = .ok (.invokevirtual 856, 3) := dk_182 (by decide +kernel)
theorem dX12_tryIt_26 : decode cX12_tryIt 26 = .ok (.aload_n 0, 1) := dk_42 (by decide +kernel)
theorem dX12_tryIt_27 : decode cX12_tryIt 27 = .ok (.bipush 23, 2) := dk_16 (by decide +kernel)
theorem dX12_tryIt_29 : decode cX12_tryIt 29 = .ok (.aload_n 0, 1) := dk_42 (by decide +kernel)
theorem dX12_tryIt_30 : decode cX12_tryIt 30 = .ok (.iload_n 1, 1) := dk_27 (by decide +kernel)
theorem dX12_tryIt_31 : decode cX12_tryIt 31 = .ok (.invokevirtual 826, 3) := dk_182 (by decide +kernel)
theorem dX12_tryIt_34 : decode cX12_tryIt 34 = .ok (.i2l, 1) := dk_133 (by decide +kernel)
theorem dX12_tryIt_35 : decode cX12_tryIt 35 = .ok (.invokevirtual 369, 3) := dk_182 (by decide +kernel)
theorem dX12_tryIt_38 : decode cX12_tryIt 38 = .ok (.aload_n 0, 1) := dk_42 (by decide +kernel)
theorem dX12_tryIt_39 : decode cX12_tryIt 39 = .ok (.bipush 24, 2) := dk_16 (by decide +kernel)
theorem dX12_tryIt_41 : decode cX12_tryIt 41 = .ok (.bipush 23, 2) := dk_16 (by decide +kernel)
theorem dX12_tryIt_43 : decode cX12_tryIt 43 = .ok (.bipush 20, 2) := dk_16 (by decide +kernel)
theorem dX12_tryIt_45 : decode cX12_tryIt 45 = .ok (.invokevirtual 390, 3) := dk_182 (by decide +kernel)
theorem dX12_tryIt_48 : decode cX12_tryIt 48 = .ok (.aload_n 0, 1) := dk_42 (by decide +kernel)
theorem dX12_tryIt_49 : decode cX12_tryIt 49 = .ok (.sipush 1020, 3) := dk_17 (by decide +kernel)
theorem dX12_tryIt_52 : decode cX12_tryIt 52 = .ok (.iload_n 1, 1) := dk_27 (by decide +kernel)
theorem dX12_tryIt_53 : decode cX12_tryIt 53 = .ok (.iadd, 1) := dk_96 (by decide +kernel)
theorem dX12_tryIt_54 : decode cX12_tryIt 54 = .ok (.bipush 22, 2) := dk_16 (by decide +kernel)
theorem dX12_tryIt_56 : decode cX12_tryIt 56 = .ok (.bipush 24, 2) := dk_16 (by decide +kernel)
theorem dX12_tryIt_58 : decode cX12_tryIt 58 = .ok (.iconst 1, 1) := dk_4 (by decide +kernel)
theorem dX12_tryIt_59 : decode cX12_tryIt 59 = .ok (.invokevirtual 443, 3) := dk_182 (by decide +kernel)
theorem dX12_tryIt_62 : decode cX12_tryIt 62 = .ok (.iinc 1 1, 3) := dk_132 (by decide +kernel)
theorem dX12_tryIt_65 : decode cX12_tryIt 65 = .ok (.goto (-54), 3) := dk_167 (by decide +kernel)
theorem dX12_tryIt_68 : decode cX12_tryIt 68 = .ok (.iconst 0, 1) := dk_3 (by decide +kernel)
theorem dX12_tryIt_69 : decode cX12_tryIt 69 = .ok (.istore_n 1, 1) := dk_60 (by decide +kernel)
theorem dX12_tryIt_70 : decode cX12_tryIt 70 = .ok (.iload_n 1, 1) := dk_27 (by decide +kernel)
theorem dX12_tryIt_71 : decode cX12_tryIt 71 = .ok (.aload_n 0, 1) := dk_42 (by decide +kernel)
theorem dX12_tryIt_72 : decode cX12_tryIt 72 = .ok (.getfield 805, 3) := dk_180 (by decide +kernel)
theorem dX12_tryIt_75 : decode cX12_tryIt 75 = .ok (.if_icmp .ge 17, 3) := dk_162 (by decide +kernel)
theorem dX12_tryIt_78 : decode cX12_tryIt 78 = .ok (.aload_n 0, 1) := dk_42 (by decide +kernel)
theorem dX12_tryIt_79 : decode cX12_tryIt 79 = .ok (.iload_n 1, 1) := dk_27 (by decide +kernel)
theorem dX12_tryIt_80 : decode cX12_tryIt 80 = .ok (.sipush 1020, 3) := dk_17 (by decide +kernel)
theorem dX12_tryIt_83 : decode cX12_tryIt 83 = .ok (.invokevirtual 859, 3) := dk_182 (by decide +kernel)
theorem dX12_tryIt_86 : decode cX12_tryIt 86 = .ok (.iinc 1 1, 3) := dk_132 (by decide +kernel)
theorem dX12_tryIt_89 : decode cX12_tryIt 89 = .ok (.goto (-19), 3) := dk_167 (by decide +kernel)
theorem dX12_tryIt_92 : decode cX12_tryIt 92 = .ok (.return_, 1) := dk_177 (by decide +kernel)
def wsRX12_tryIt : List Cond := .code yX12_tryIt cX12_tryIt 2 none :: ([.fieldLink RX12 774 "OptimaWorksModel" "variables" "I", .fieldLink RX12 805 "OptimaWorksModel" "modelGoals" "I"] ++ wsX120 ++ (wsV RX12 365 RX12 yX12_copy wsRX12_copy) ++ (wsV RX12 859 RX12 yX12_goalOf wsRX12_goalOf) ++ (wsV RX12 856 RX12 yX12_thing wsRX12_thing) ++ (wsV RX12 826 RX12 yX12_least wsRX12_least) ++ (wsV RX12 369 RX12 yX12_put wsRX12_put) ++ (wsV RX12 390 RX12 yX12_times wsRX12_times) ++ (wsV RX12 443 RX12 yX12_add wsRX12_add))
theorem iwsRX12_tryIt_in12 : ∀ w ∈ wsX120, w ∈ wsRX12_tryIt := fun _ h => List.mem_cons_of_mem _ (List.mem_append_left _ (List.mem_append_left _ (List.mem_append_left _ (List.mem_append_left _ (List.mem_append_left _ (List.mem_append_left _ (List.mem_append_left _ (List.mem_append_right _ h))))))))
theorem gwsRX12_tryIt_0 : GoodIn wsRX12_tryIt (wsV RX12 365 RX12 yX12_copy wsRX12_copy) := goodIn_sub (fun _ h => List.mem_cons_of_mem _ (List.mem_append_left _ (List.mem_append_left _ (List.mem_append_left _ (List.mem_append_left _ (List.mem_append_left _ (List.mem_append_left _ (List.mem_append_right _ h)))))))) (gdV (by decide +kernel) gdwsRX12_copy)
theorem gwsRX12_tryIt_1 : GoodIn wsRX12_tryIt (wsV RX12 859 RX12 yX12_goalOf wsRX12_goalOf) := goodIn_sub (fun _ h => List.mem_cons_of_mem _ (List.mem_append_left _ (List.mem_append_left _ (List.mem_append_left _ (List.mem_append_left _ (List.mem_append_left _ (List.mem_append_right _ h))))))) (gdV (by decide +kernel) gdwsRX12_goalOf)
theorem gwsRX12_tryIt_2 : GoodIn wsRX12_tryIt (wsV RX12 856 RX12 yX12_thing wsRX12_thing) := goodIn_sub (fun _ h => List.mem_cons_of_mem _ (List.mem_append_left _ (List.mem_append_left _ (List.mem_append_left _ (List.mem_append_left _ (List.mem_append_right _ h)))))) (gdV (by decide +kernel) gdwsRX12_thing)
theorem gwsRX12_tryIt_3 : GoodIn wsRX12_tryIt (wsV RX12 826 RX12 yX12_least wsRX12_least) := goodIn_sub (fun _ h => List.mem_cons_of_mem _ (List.mem_append_left _ (List.mem_append_left _ (List.mem_append_left _ (List.mem_append_right _ h))))) (gdV (by decide +kernel) gdwsRX12_least)
theorem gwsRX12_tryIt_4 : GoodIn wsRX12_tryIt (wsV RX12 369 RX12 yX12_put wsRX12_put) := goodIn_sub (fun _ h => List.mem_cons_of_mem _ (List.mem_append_left _ (List.mem_append_left _ (List.mem_append_right _ h)))) (gdV (by decide +kernel) gdwsRX12_put)
theorem gwsRX12_tryIt_5 : GoodIn wsRX12_tryIt (wsV RX12 390 RX12 yX12_times wsRX12_times) := goodIn_sub (fun _ h => List.mem_cons_of_mem _ (List.mem_append_left _ (List.mem_append_right _ h))) (gdV (by decide +kernel) gdwsRX12_times)
theorem gwsRX12_tryIt_6 : GoodIn wsRX12_tryIt (wsV RX12 443 RX12 yX12_add wsRX12_add) := goodIn_sub (fun _ h => List.mem_cons_of_mem _ (List.mem_append_right _ h)) (gdV (by decide +kernel) gdwsRX12_add)
theorem gdwsRX12_tryIt : wsRX12_tryIt.all goodWord = true := gdC rfl (gdA (gdA (gdA (gdA (gdA (gdA (gdA (gdA (by decide +kernel : ([.fieldLink RX12 774 "OptimaWorksModel" "variables" "I", .fieldLink RX12 805 "OptimaWorksModel" "modelGoals" "I"] : List Cond).all goodWord = true) gdwsX120) (gdV (by decide +kernel) gdwsRX12_copy)) (gdV (by decide +kernel) gdwsRX12_goalOf)) (gdV (by decide +kernel) gdwsRX12_thing)) (gdV (by decide +kernel) gdwsRX12_least)) (gdV (by decide +kernel) gdwsRX12_put)) (gdV (by decide +kernel) gdwsRX12_times)) (gdV (by decide +kernel) gdwsRX12_add))
set_option maxHeartbeats 4000000 in
set_option maxRecDepth 100000 in
/-- tryIt() -/
theorem r_X12_tryIt (l : Launch) (dC : Nat → ClassId) (dI : Nat → Nat → Nat) (a : Nat → Nat) (k : Nat → ClassId) (h0 : Nat) (vi : Nat → Int32) (vj : Nat → Int64) (vF : Nat → Nat → Int32) (vG : Nat → Nat → Int64) (C : Nat) (R : Nat) (Gq : Nat) (t : Nat → Nat → Int) (D : Int) (gq : Nat) (mg : Nat → Int) (hBg : Bg (vF 0) mg) (hC : vi 5 = nI C) (hR : vi 6 = nI R) (hG : vi 7 = nI Gq) (hC45 : 0 < C ∧ C ≤ 45) (hT60 : R + Gq < 60) (hsz : (R + Gq) * (C + 1) ≤ 970) (hv9 : vi 90 = nI (C - 1)) (hC9 : C ≤ 9) (hgq : gq ≤ 3) (hmg : vi 93 = nI gq) (hM : MdlB vF gq) (hN : TabN C (R + Gq) mg t D) (hD8 : Sz 120 D) (hbt : ∀ i, i < R → Sz 120 (t i C)) (hAn : AnsB mg 1020) (hDp : 0 < D) (sz : Nat) : Met l yX12_tryIt wsRX12_tryIt ({ frames := 5, cells := 0, slots := 0, locals := 130 }) (va_Pc [.ref h0] (fun U => U.heap.size = sz ∧ va_P (dC, dI) vwCl (WR a k h0 vi vj vF vG) U.heap ∧ va_K (dC, dI) vwCl (tX12 k) U ∧ va_D (fun _ => True) (WR a k h0 vi vj vF vG))) (va_Qv (fun (u : (Nat → Int32) × (Nat → Int32) × (Nat → Int32) × (Nat → Int64) × (Nat → Int)) => (Bg (u.1) (u.2.2.2.2)) ∧ (AnsB (u.2.2.2.2) 1020) ∧ (∀ q, (q < 5 ∨ 19 < q) → (q < 22 ∨ 24 < q) → (q < 1020 ∨ 1036 ≤ q) → (u.2.2.2.2) q = mg q) ∧ ((u.2.2.2.2) 1028 = D) ∧ (∀ g9, g9 < gq → 0 < (u.2.2.2.2) (1033 + g9))) (fun (u : (Nat → Int32) × (Nat → Int32) × (Nat → Int32) × (Nat → Int64) × (Nat → Int)) t => va_P (dC, dI) vwCl (WR a k h0 vi vj (fT (fT (fT vF 0 (u.1)) 2 (u.2.1)) 3 (u.2.2.1)) (fT vG 1 (u.2.2.2.1))) t.heap ∧ va_D (va_A (WR a k h0 vi vj vF vG) sz) (WR a k h0 vi vj (fT (fT (fT vF 0 (u.1)) 2 (u.2.1)) 3 (u.2.2.1)) (fT vG 1 (u.2.2.2.1)))) (va_A (WR a k h0 vi vj vF vG) sz)) 0 0 (va_A (WR a k h0 vi vj vF vG) sz) := by
  refine Met.ofW (cc := cX12_tryIt) (maxL := 2) (ret := none) (by decide) rfl ?_
  intro p e s m args below meth c s₁ B hml hv
  obtain ⟨rfl, hsz, hP, hK, hD0⟩ := hv
  have hx := B.exec
  have hb := B.bytes
  have hr := B.returns
  have hts := atoms_spec (ws := wsRX12_tryIt) B.pre
  have hown : s.vm.findClass RX12 = some m.cls := findClass_of_methodNamed B.named
  have hlocks := B.notSynchronized
  subst hsz
  have hD := hD0.self (sz := s.heap.size)
  generalize hAe : va_A (WR a k h0 vi vj vF vG) s.heap.size = A at hD ⊢
  have hA : ∀ q : Nat, s.heap.size ≤ q → A q := fun q h => by rw [← hAe]; exact Or.inr h
  have hS : va_S A s.heap s.heap [] := va_S.rf
  have hl := lv_entry ([.ref h0]) (n := 2) (Nat.le_of_ble_eq_true rfl)
  rw [lg_entry_eq]
  generalize (lg_sl ([.ref h0]) ++ List.replicate (2 - (lg_sl ([.ref h0])).length) Slot.unset).toArray = ls at hl ⊢
  have hl : lv_has ls 2 [(0, .ref h0)] := hl
  refine lv_aload_n hx hb dX12_tryIt_0 rfl (lv_at hl 0 rfl) ?_
  refine lv_sipush (v := 1028) hx hb dX12_tryIt_1 (by decide) ?_
  refine lv_bipush (v := 20) hx hb dX12_tryIt_4 (by decide) ?_
  have hFc := allFree hD hS hA
  refine va_callv (va_runV (As := [.int 1028, .int 20]) (rest := []) ⟨hx, hb, hml, hown, hts⟩ (b_X12_copy l dC dI a k h0 vi vj vF vG 1028 20 mg hBg D (by rw [hN.2]) (by first | assumption | decide | omega | rfl) (by first | assumption | decide | omega | rfl) (by first | assumption | decide | omega | rfl) s.heap.size) (cwV 2 hts gwsRX12_tryIt_0 rfl rfl rfl (by decide +kernel) ⟨by decide +kernel, by decide +kernel⟩) ⟨fun a U g mk q => by obtain ⟨q0, q1, qP, qK, qD⟩ := q; exact ⟨q0, q1, qP, va_K.moved (u := U) (U := U.calling g mk a) (Vm.Alike.refl U.vm) qK, qD⟩, va_recv hK hP (ci := 12) (q0 := 0) rfl rfl, fun U hU9 hW => ⟨rfl, by rw [hU9], by rw [hU9]; exact hP, va_K.moved hW.alike hK, hD.weaken (fun _ _ _ _ => trivial)⟩⟩ rfl rfl hl.1 rfl (lv_room (Nat.le_of_ble_eq_true rfl)) dX12_tryIt_6 ⟨by decide +kernel, by decide +kernel⟩) hS (fun q _ h => hFc q h) hFc (fun u t9_ H1 locs ht hvm hw9 hB9 hz1 hk1 hS => ?_)
  obtain ⟨g6, hwit6⟩ : ∃ w9, w9 = u := ⟨u, rfl⟩
  subst hwit6
  obtain ⟨hP1, hD1⟩ := hB9
  rw [ht] at hP1
  have hP := hP1
  have hD := hD1.weaken (fun _ q _ h => hFc q.1 h)
  generalize H1 = H at hP hS ⊢
  have hP : va_P (dC, dI) vwCl (WR a k h0 vi vj (fT vF 0 g6) vG) H := hP
  have hD : va_D A (WR a k h0 vi vj (fT vF 0 g6) vG) := hD
  have f6_0 := hw9
  try dsimp only at f6_0
  refine lv_iconst (v := 0) hx hb dX12_tryIt_9 (by decide) ?_
  refine lv_istore_n hx hb dX12_tryIt_10 rfl hl (by decide) rfl (fun ls (hl : lv_has ls _ ([(1, .int 0), (0, .ref h0)])) => ?_)
  have e9 : fT vG 1 (vG 1) = vG := by funext q9; by_cases h9_1 : q9 = 1; (subst h9_1; exact (fT_eq _ _ _).trans (Eq.trans (by first | rfl | assumption | (symm; assumption) | (subst_vars; rfl)) (Eq.refl _).symm)); exact (fT_ne _ _ h9_1).trans (Eq.refl _).symm
  have hP : va_P (dC, dI) vwCl (WR a k h0 vi vj (fT vF 0 g6) (fT vG 1 (vG 1))) H := by rw [e9]; exact hP
  have hD : va_D A (WR a k h0 vi vj (fT vF 0 g6) (fT vG 1 (vG 1))) := by rw [e9]; exact hD
  clear e9
  have hl : lv_has _ _ ([(0, .ref h0), (1, .int (nI 0))]) := lv_sub hl [1, 0] rfl
  refine (fun (loop : ∀ (n9 : Nat) (k5 : Nat) (g1 : Nat → Int32) (gs1 : Nat → Int64) (m1 : Nat → Int) (H : Heap) (locs : List Loc) (ls : Array Slot), (Bg g1 m1) → (k5 ≤ C - 1) → (AnsB m1 1020) → (m1 1028 = D) → (∀ q, (q < 5 ∨ 19 < q) → (q < 22 ∨ 24 < q) → (q < 1020 ∨ 1036 ≤ q) → m1 q = mg q) →  (C - 1 < k5 + n9) → va_P (dC, dI) vwCl (WR a k h0 vi vj (fT vF 0 g1) (fT vG 1 gs1)) H → va_D A (WR a k h0 vi vj (fT vF 0 g1) (fT vG 1 gs1)) → va_S A s.heap H locs → lv_has ls 2 [(0, .ref h0), (1, .int (nI k5))] → W p l e _ s m _ below meth c H locs 0 0 _ (F0 m 11 ls [])) => loop (C) 0 g6 (vG 1) (fT mg 1028 D) _ _ _ (f6_0) (by omega) (⟨fun k hk => by by_cases e9 : 1020 + k = 1028; (rw [e9, fT_eq]; exact hD8.up (by decide)); (rw [fT_ne _ _ e9]; exact hAn.1 k hk), fun g9 hg9 => by rw [fT_ne _ _ (by omega), fT_ne _ _ (by omega)]; exact hAn.2 g9 hg9⟩) ((by rw [fT_eq])) (fun q h1 h2 h3 => by (rw [fT_ne _ _ (by omega)])) (by omega) hP hD hS hl) ?_
  intro n9
  induction n9 with
  | zero => intro k5 g1 gs1 m1 H locs ls hB1 hk5 hA1 h81 ho hf9; exact False.elim (by omega)
  | succ n9 ih11 =>
    intro k5 g1 gs1 m1 H locs ls hB1 hk5 hA1 h81 ho hf11 hP hD hS hl
    refine lv_iload_n hx hb dX12_tryIt_11 rfl (lv_at hl 1 rfl) ?_
    refine lv_aload_n hx hb dX12_tryIt_12 rfl (lv_at hl 0 rfl) ?_
    refine va_get (D := (dC, dI)) (ci := 12) (v := .int (vi 90)) (C := RX12) (T := TX12) (N := 163) (fs := fM (vS a vi vj)) hx hb hts iwsRX12_tryIt_in12 hown hK hP 0 rfl rfl 90 (by decide) (hts (.fieldLink RX12 774 "OptimaWorksModel" "variables" "I") (by decide +kernel)) (fun _ h9 => h9) rfl dX12_tryIt_13 ?_
    refine lv_topi (fun y1 hy1 => ?_)
    obtain rfl : (nI (C - 1)) = y1 := (hy1.trans (hv9)).symm
    refine lv_icmp_ge (tgt := 68) hx hb dX12_tryIt_16 (by decide) (fun c_16 => ?_) (fun c_16 => ?_)
    · have t_16 : ((k5 : Nat) : Int) ≥ (((C - 1) : Nat) : Int) := toI_ge c_16 (nI_toInt (by omega)) (nI_toInt (by omega))
      refine lv_iconst (v := 0) hx hb dX12_tryIt_68 (by decide) ?_
      refine lv_istore_n hx hb dX12_tryIt_69 rfl hl (by decide) rfl (fun ls (hl : lv_has ls _ ([(1, .int 0), (0, .ref h0)])) => ?_)
      have e9 : fT (fT (fT vF 0 g1) 2 (vF 2)) 3 (vF 3) = fT vF 0 g1 := by funext q9; by_cases h9_0 : q9 = 0; (subst h9_0; exact ((fT_ne _ _ (Nat.ne_of_beq_eq_false rfl)).trans ((fT_ne _ _ (Nat.ne_of_beq_eq_false rfl)).trans (fT_eq _ _ _))).trans (Eq.trans (by first | rfl | assumption | (symm; assumption) | (subst_vars; rfl)) (fT_eq _ _ _).symm)); by_cases h9_2 : q9 = 2; (subst h9_2; exact ((fT_ne _ _ (Nat.ne_of_beq_eq_false rfl)).trans (fT_eq _ _ _)).trans (Eq.trans (by first | rfl | assumption | (symm; assumption) | (subst_vars; rfl)) (fT_ne _ _ (Nat.ne_of_beq_eq_false rfl)).symm)); by_cases h9_3 : q9 = 3; (subst h9_3; exact (fT_eq _ _ _).trans (Eq.trans (by first | rfl | assumption | (symm; assumption) | (subst_vars; rfl)) (fT_ne _ _ (Nat.ne_of_beq_eq_false rfl)).symm)); exact ((fT_ne _ _ h9_3).trans ((fT_ne _ _ h9_2).trans (fT_ne _ _ h9_0))).trans (fT_ne _ _ h9_0).symm
      have hP : va_P (dC, dI) vwCl (WR a k h0 vi vj (fT (fT (fT vF 0 g1) 2 (vF 2)) 3 (vF 3)) (fT vG 1 gs1)) H := by rw [e9]; exact hP
      have hD : va_D A (WR a k h0 vi vj (fT (fT (fT vF 0 g1) 2 (vF 2)) 3 (vF 3)) (fT vG 1 gs1)) := by rw [e9]; exact hD
      clear e9
      have hl : lv_has _ _ ([(0, .ref h0), (1, .int (nI 0))]) := lv_sub hl [1, 0] rfl
      refine (fun (loop : ∀ (n9 : Nat) (k6 : Nat) (g3 : Nat → Int32) (f23 : Nat → Int32) (f33 : Nat → Int32) (gs3 : Nat → Int64) (m3 : Nat → Int) (H : Heap) (locs : List Loc) (ls : Array Slot), (Bg g3 m3) → (k6 ≤ gq) → (AnsB m3 1020) → (m3 (1020 + 8) = D) → (∀ g, g < k6 → 0 < m3 (1033 + g)) → (∀ q, (q < 5 ∨ 19 < q) → (q < 22 ∨ 24 < q) → (q < 1020 ∨ 1036 ≤ q) → m3 q = mg q) →  (gq < k6 + n9) → va_P (dC, dI) vwCl (WR a k h0 vi vj (fT (fT (fT vF 0 g3) 2 f23) 3 f33) (fT vG 1 gs3)) H → va_D A (WR a k h0 vi vj (fT (fT (fT vF 0 g3) 2 f23) 3 f33) (fT vG 1 gs3)) → va_S A s.heap H locs → lv_has ls 2 [(0, .ref h0), (1, .int (nI k6))] → W p l e _ s m _ below meth c H locs 0 0 _ (F0 m 70 ls [])) => loop (gq + 1) 0 g1 (vF 2) (vF 3) gs1 m1 _ _ _ (hB1) (by omega) (hA1) (h81) (fun g hg => absurd hg (by omega)) (ho) (by omega) hP hD hS hl) ?_
      intro n9
      induction n9 with
      | zero => intro k6 g3 f23 f33 gs3 m3 H locs ls hB3 hk6 hA2 h82e hgp ho2 hf9; exact False.elim (by omega)
      | succ n9 ih70_1 =>
        intro k6 g3 f23 f33 gs3 m3 H locs ls hB3 hk6 hA2 h82e hgp ho2 hf70_1 hP hD hS hl
        refine lv_iload_n hx hb dX12_tryIt_70 rfl (lv_at hl 1 rfl) ?_
        refine lv_aload_n hx hb dX12_tryIt_71 rfl (lv_at hl 0 rfl) ?_
        refine va_get (D := (dC, dI)) (ci := 12) (v := .int (vi 93)) (C := RX12) (T := TX12) (N := 163) (fs := fM (vS a vi vj)) hx hb hts iwsRX12_tryIt_in12 hown hK hP 0 rfl rfl 93 (by decide) (hts (.fieldLink RX12 805 "OptimaWorksModel" "modelGoals" "I") (by decide +kernel)) (fun _ h9 => h9) rfl dX12_tryIt_72 ?_
        refine lv_topi (fun y2 hy2 => ?_)
        obtain rfl : (nI gq) = y2 := (hy2.trans (hmg)).symm
        refine lv_icmp_ge (tgt := 92) hx hb dX12_tryIt_75 (by decide) (fun c_75 => ?_) (fun c_75 => ?_)
        · have t_75 : ((k6 : Nat) : Int) ≥ ((gq : Nat) : Int) := toI_ge c_75 (nI_toInt (by omega)) (nI_toInt (by omega))
          refine W.widen (k := 0) (n := 0) (by decide +kernel) (by decide +kernel) ?_
          exact W.vret hx hb hr (fun t9_ ht hW => ⟨⟨(g3, f23, f33, gs3, m3), rfl, by (try dsimp only); exact ⟨hB3, hA2, ho2, h82e, fun g hg => hgp g (by omega)⟩, by rw [ht]; exact hP, hD⟩, hS.F ht⟩) hS.2.2 dX12_tryIt_92
        · have t_75 : ¬ ((k6 : Nat) : Int) ≥ ((gq : Nat) : Int) := toI_nge c_75 (nI_toInt (by omega)) (nI_toInt (by omega))
          refine lv_aload_n hx hb dX12_tryIt_78 rfl (lv_at hl 0 rfl) ?_
          refine lv_iload_n hx hb dX12_tryIt_79 rfl (lv_at hl 1 rfl) ?_
          refine lv_sipush (v := 1020) hx hb dX12_tryIt_80 (by decide) ?_
          have hFc := allFree hD hS hA
          refine va_callv (va_runV (As := [.int (nI k6), .int 1020]) (rest := []) ⟨hx, hb, hml, hown, hts⟩ (r_X12_goalOf l dC dI a k h0 vi vj (fT (fT (fT vF 0 g3) 2 f23) 3 f33) (fT vG 1 gs3) k6 1020 (C - 1) gq m3 hB3 (by first | assumption | decide | omega | rfl) (by first | assumption | decide | omega | rfl) (by omega) (by first | assumption | decide | omega | rfl) (by first | assumption | decide | omega | rfl) (by first | assumption | decide | omega | rfl) (hA2) (by rw [h82e]; exact hD8) H.size) (cwV 2 hts gwsRX12_tryIt_1 rfl rfl rfl (by decide +kernel) ⟨by decide +kernel, by decide +kernel⟩) ⟨fun a U g mk q => by obtain ⟨q0, q1, qP, qK, qD⟩ := q; exact ⟨q0, q1, qP, va_K.moved (u := U) (U := U.calling g mk a) (Vm.Alike.refl U.vm) qK, qD⟩, va_recv hK hP (ci := 12) (q0 := 0) rfl rfl, fun U hU9 hW => ⟨rfl, by rw [hU9], by rw [hU9]; exact hP, va_K.moved hW.alike hK, hD.weaken (fun _ _ _ _ => trivial)⟩⟩ rfl rfl hl.1 rfl (lv_room (Nat.le_of_ble_eq_true rfl)) dX12_tryIt_83 ⟨by decide +kernel, by decide +kernel⟩) hS (fun q _ h => hFc q h) hFc (fun u t9_ H1 locs ht hvm hw9 hB9 hz1 hk1 hS => ?_)
          obtain ⟨g83, f2w83, f3w83, gs83, m283⟩ := u
          try dsimp only at hw9 hB9
          obtain ⟨hP1, hD1⟩ := hB9
          rw [ht] at hP1
          have hP := hP1
          have hD := hD1.weaken (fun _ q _ h => hFc q.1 h)
          generalize H1 = H at hP hS ⊢
          have hP : va_P (dC, dI) vwCl (WR a k h0 vi vj (fT (fT (fT (fT (fT (fT vF 0 g3) 2 f23) 3 f33) 0 g83) 2 f2w83) 3 f3w83) (fT (fT vG 1 gs3) 1 gs83)) H := hP
          have hD : va_D A (WR a k h0 vi vj (fT (fT (fT (fT (fT (fT vF 0 g3) 2 f23) 3 f33) 0 g83) 2 f2w83) 3 f3w83) (fT (fT vG 1 gs3) 1 gs83)) := hD
          have e9 : fT (fT (fT vF 0 g83) 2 f2w83) 3 f3w83 = fT (fT (fT (fT (fT (fT vF 0 g3) 2 f23) 3 f33) 0 g83) 2 f2w83) 3 f3w83 := ((congrArg (fun g9 => fT (fT g9 2 f2w83) 3 f3w83) ((fT_sw _ _ _ (Nat.ne_of_beq_eq_false rfl)).trans (congrArg (fun g9 => fT g9 3 f33) ((fT_sw _ _ _ (Nat.ne_of_beq_eq_false rfl)).trans (congrArg (fun g9 => fT g9 2 f23) (fT_sm _ _ _ _)))))).trans ((congrArg (fun g9 => fT g9 3 f3w83) ((fT_sw _ _ _ (Nat.ne_of_beq_eq_false rfl)).trans (congrArg (fun g9 => fT g9 3 f33) (fT_sm _ _ _ _)))).trans (fT_sm _ _ _ _))).symm
          rw [← e9] at hP hD
          clear e9
          have e9 : fT vG 1 gs83 = fT (fT vG 1 gs3) 1 gs83 := (fT_sm _ _ _ _).symm
          rw [← e9] at hP hD
          clear e9
          have hP : va_P (dC, dI) vwCl (WR a k h0 vi vj (fT (fT (fT vF 0 g83) 2 f2w83) 3 f3w83) (fT vG 1 gs83)) H := hP
          have hD : va_D A (WR a k h0 vi vj (fT (fT (fT vF 0 g83) 2 f2w83) 3 f3w83) (fT vG 1 gs83)) := hD
          obtain ⟨f83_0, f83_1, f83_2, f83_3⟩ := hw9
          refine lv_iinc (v := (nI (k6 + 1))) hx hb dX12_tryIt_86 hl (k := 1) rfl (nI_add k6 1) (by decide) rfl (fun ls (hl : lv_has ls _ ([(1, .int (nI (k6 + 1))), (0, .ref h0)])) => ?_)
          refine lv_goto (tgt := 70) hx hb dX12_tryIt_89 (by decide) ?_
          have hl : lv_has _ _ ([(0, .ref h0), (1, .int (nI (k6 + 1)))]) := lv_sub hl [1, 0] rfl
          exact ih70_1 (k6 + 1) g83 f2w83 f3w83 gs83 m283 _ _ _ (f83_0) (by omega) (f83_1) (by rw [f83_2 _ (by omega) (by omega) (by omega) (by omega)]; exact h82e) (fun g hg => by by_cases e9 : g = k6; (rw [e9]; exact f83_3 (by rw [h82e]; exact hDp)); (rw [f83_2 _ (by omega) (by omega) (by omega) (by omega)]; exact hgp g (by omega))) (fun q h1 h2 h3 => by (rw [f83_2 _ (by omega) (by omega) (by omega) (by omega)]); exact ho2 q h1 h2 h3) (by omega) hP hD hS hl
    · have t_16 : ¬ ((k5 : Nat) : Int) ≥ (((C - 1) : Nat) : Int) := toI_nge c_16 (nI_toInt (by omega)) (nI_toInt (by omega))
      refine lv_aload_n hx hb dX12_tryIt_19 rfl (lv_at hl 0 rfl) ?_
      refine lv_bipush (v := 22) hx hb dX12_tryIt_20 (by decide) ?_
      refine lv_iload_n hx hb dX12_tryIt_22 rfl (lv_at hl 1 rfl) ?_
      have hFc := allFree hD hS hA
      refine va_callv (va_runV (As := [.int 22, .int (nI k5)]) (rest := []) ⟨hx, hb, hml, hown, hts⟩ (r_X12_thing l dC dI a k h0 vi vj (fT vF 0 g1) (fT vG 1 gs1) 22 (nI k5) C R Gq t D m1 hB1 (by first | assumption | decide | omega | rfl) (by first | assumption | decide | omega | rfl) (by first | assumption | decide | omega | rfl) (by first | assumption | decide | omega | rfl) (by first | assumption | decide | omega | rfl) (by first | assumption | decide | omega | rfl) (hN.framez hsz (fun p hp => ho p (by omega) (by omega) (by omega))) (by first | assumption | decide | omega | rfl) (by first | assumption | decide | omega | rfl) H.size) (cwV 2 hts gwsRX12_tryIt_2 rfl rfl rfl (by decide +kernel) ⟨by decide +kernel, by decide +kernel⟩) ⟨fun a U g mk q => by obtain ⟨q0, q1, qP, qK, qD⟩ := q; exact ⟨q0, q1, qP, va_K.moved (u := U) (U := U.calling g mk a) (Vm.Alike.refl U.vm) qK, qD⟩, va_recv hK hP (ci := 12) (q0 := 0) rfl rfl, fun U hU9 hW => ⟨rfl, by rw [hU9], by rw [hU9]; exact hP, va_K.moved hW.alike hK, hD.weaken (fun _ _ _ _ => trivial)⟩⟩ rfl rfl hl.1 rfl (lv_room (Nat.le_of_ble_eq_true rfl)) dX12_tryIt_23 ⟨by decide +kernel, by decide +kernel⟩) hS (fun q _ h => hFc q h) hFc (fun u t9_ H1 locs ht hvm hw9 hB9 hz1 hk1 hS => ?_)
      obtain ⟨g23, m223⟩ := u
      try dsimp only at hw9 hB9
      obtain ⟨hP1, hD1⟩ := hB9
      rw [ht] at hP1
      have hP := hP1
      have hD := hD1.weaken (fun _ q _ h => hFc q.1 h)
      generalize H1 = H at hP hS ⊢
      have hP : va_P (dC, dI) vwCl (WR a k h0 vi vj (fT (fT vF 0 g1) 0 g23) (fT vG 1 gs1)) H := hP
      have hD : va_D A (WR a k h0 vi vj (fT (fT vF 0 g1) 0 g23) (fT vG 1 gs1)) := hD
      have e9 : fT vF 0 g23 = fT (fT vF 0 g1) 0 g23 := (fT_sm _ _ _ _).symm
      rw [← e9] at hP hD
      clear e9
      have hP : va_P (dC, dI) vwCl (WR a k h0 vi vj (fT vF 0 g23) (fT vG 1 gs1)) H := hP
      have hD : va_D A (WR a k h0 vi vj (fT vF 0 g23) (fT vG 1 gs1)) := hD
      obtain ⟨f23_0, f23_1, f23_2⟩ := hw9
      refine lv_aload_n hx hb dX12_tryIt_26 rfl (lv_at hl 0 rfl) ?_
      refine lv_bipush (v := 23) hx hb dX12_tryIt_27 (by decide) ?_
      refine lv_aload_n hx hb dX12_tryIt_29 rfl (lv_at hl 0 rfl) ?_
      refine lv_iload_n hx hb dX12_tryIt_30 rfl (lv_at hl 1 rfl) ?_
      have hFc := allFree hD hS hA
      refine va_calli (va_runV (As := [.int (nI k5)]) (rest := [.int 23, .ref h0]) ⟨hx, hb, hml, hown, hts⟩ (r_X12_least l dC dI a k h0 vi vj (fT vF 0 g23) (fT vG 1 gs1) k5 gq (by omega) (by first | assumption | decide | omega | rfl) H.size) (cwV 1 hts gwsRX12_tryIt_3 rfl rfl rfl (by decide +kernel) ⟨by decide +kernel, by decide +kernel⟩) ⟨fun a U g mk q => by obtain ⟨q0, q1, qP, qK, qD⟩ := q; exact ⟨q0, q1, qP, va_K.moved (u := U) (U := U.calling g mk a) (Vm.Alike.refl U.vm) qK, qD⟩, va_recv hK hP (ci := 12) (q0 := 0) rfl rfl, fun U hU9 hW => ⟨rfl, by rw [hU9], by rw [hU9]; exact hP, va_K.moved hW.alike hK, hD.weaken (fun _ _ _ _ => trivial)⟩⟩ rfl rfl hl.1 rfl (lv_room (Nat.le_of_ble_eq_true rfl)) dX12_tryIt_31 ⟨by decide +kernel, by decide +kernel⟩) hS (fun q _ h => hFc q h) hFc (fun r31 u t9_ H1 locs ht hvm hw9 hB9 hz1 hk1 hS => ?_)
      obtain ⟨hP1, hD1⟩ := hB9
      rw [ht] at hP1
      have hP := hP1
      have hD := hD1.weaken (fun _ q _ h => hFc q.1 h)
      generalize H1 = H at hP hS ⊢
      have hP : va_P (dC, dI) vwCl (WR a k h0 vi vj (fT vF 0 g23) (fT vG 1 gs1)) H := hP
      have hD : va_D A (WR a k h0 vi vj (fT vF 0 g23) (fT vG 1 gs1)) := hD
      have f31_0 := hw9
      try dsimp only at f31_0
      refine lv_i2l hx hb dX12_tryIt_34 rfl ?_
      have hFc := allFree hD hS hA
      refine va_callv (va_runV (As := [.int 23, .long (r31).toInt64]) (rest := []) ⟨hx, hb, hml, hown, hts⟩ (b_X12_put l dC dI a k h0 vi vj (fT vF 0 g23) (fT vG 1 gs1) 23 ((r31).toInt64) ((r31).toInt) m223 f23_0 (by first | assumption | decide | omega | rfl) (i64T _) (by omega) H.size) (cwV 2 hts gwsRX12_tryIt_4 rfl rfl rfl (by decide +kernel) ⟨by decide +kernel, by decide +kernel⟩) ⟨fun a U g mk q => by obtain ⟨q0, q1, qP, qK, qD⟩ := q; exact ⟨q0, q1, qP, va_K.moved (u := U) (U := U.calling g mk a) (Vm.Alike.refl U.vm) qK, qD⟩, va_recv hK hP (ci := 12) (q0 := 0) rfl rfl, fun U hU9 hW => ⟨rfl, by rw [hU9], by rw [hU9]; exact hP, va_K.moved hW.alike hK, hD.weaken (fun _ _ _ _ => trivial)⟩⟩ rfl rfl hl.1 rfl (lv_room (Nat.le_of_ble_eq_true rfl)) dX12_tryIt_35 ⟨by decide +kernel, by decide +kernel⟩) hS (fun q _ h => hFc q h) hFc (fun u t9_ H1 locs ht hvm hw9 hB9 hz1 hk1 hS => ?_)
      obtain ⟨g35, hwit35⟩ : ∃ w9, w9 = u := ⟨u, rfl⟩
      subst hwit35
      obtain ⟨hP1, hD1⟩ := hB9
      rw [ht] at hP1
      have hP := hP1
      have hD := hD1.weaken (fun _ q _ h => hFc q.1 h)
      generalize H1 = H at hP hS ⊢
      have hP : va_P (dC, dI) vwCl (WR a k h0 vi vj (fT (fT vF 0 g23) 0 g35) (fT vG 1 gs1)) H := hP
      have hD : va_D A (WR a k h0 vi vj (fT (fT vF 0 g23) 0 g35) (fT vG 1 gs1)) := hD
      have e9 : fT vF 0 g35 = fT (fT vF 0 g23) 0 g35 := (fT_sm _ _ _ _).symm
      rw [← e9] at hP hD
      clear e9
      have hP : va_P (dC, dI) vwCl (WR a k h0 vi vj (fT vF 0 g35) (fT vG 1 gs1)) H := hP
      have hD : va_D A (WR a k h0 vi vj (fT vF 0 g35) (fT vG 1 gs1)) := hD
      have f35_0 := hw9
      try dsimp only at f35_0
      have bl := f31_0
      have b22 : Sz 120 (m223 22) := by rcases f23_1 with h9 | ⟨i9, hi9, h9⟩; (rw [h9]; exact (by decide : (0 : Int).natAbs < 2 ^ 120)); (rw [h9]; exact hbt i9 hi9)
      refine lv_aload_n hx hb dX12_tryIt_38 rfl (lv_at hl 0 rfl) ?_
      refine lv_bipush (v := 24) hx hb dX12_tryIt_39 (by decide) ?_
      refine lv_bipush (v := 23) hx hb dX12_tryIt_41 (by decide) ?_
      refine lv_bipush (v := 20) hx hb dX12_tryIt_43 (by decide) ?_
      have hFc := allFree hD hS hA
      refine va_callv (va_runV (As := [.int 24, .int 23, .int 20]) (rest := []) ⟨hx, hb, hml, hown, hts⟩ (b_X12_times l dC dI a k h0 vi vj (fT vF 0 g35) (fT vG 1 gs1) 24 23 20 (fT m223 23 ((r31).toInt)) f35_0 ((r31).toInt) D (by rw [fT_eq]) (by rw [fT_ne _ _ (by omega), f23_2 _ (by omega), ((ho 20 (by omega) (by omega) (by omega)).trans hN.2)]) (by first | assumption | decide | omega | rfl) (by first | assumption | decide | omega | rfl) (by first | assumption | decide | omega | rfl) (mulpN (c := 588) (sz999 bl) hD8 (by decide)) H.size) (cwV 3 hts gwsRX12_tryIt_5 rfl rfl rfl (by decide +kernel) ⟨by decide +kernel, by decide +kernel⟩) ⟨fun a U g mk q => by obtain ⟨q0, q1, qP, qK, qD⟩ := q; exact ⟨q0, q1, qP, va_K.moved (u := U) (U := U.calling g mk a) (Vm.Alike.refl U.vm) qK, qD⟩, va_recv hK hP (ci := 12) (q0 := 0) rfl rfl, fun U hU9 hW => ⟨rfl, by rw [hU9], by rw [hU9]; exact hP, va_K.moved hW.alike hK, hD.weaken (fun _ _ _ _ => trivial)⟩⟩ rfl rfl hl.1 rfl (lv_room (Nat.le_of_ble_eq_true rfl)) dX12_tryIt_45 ⟨by decide +kernel, by decide +kernel⟩) hS (fun q _ h => hFc q h) hFc (fun u t9_ H1 locs ht hvm hw9 hB9 hz1 hk1 hS => ?_)
      obtain ⟨g45, gs45⟩ := u
      try dsimp only at hw9 hB9
      obtain ⟨hP1, hD1⟩ := hB9
      rw [ht] at hP1
      have hP := hP1
      have hD := hD1.weaken (fun _ q _ h => hFc q.1 h)
      generalize H1 = H at hP hS ⊢
      have hP : va_P (dC, dI) vwCl (WR a k h0 vi vj (fT (fT vF 0 g35) 0 g45) (fT (fT vG 1 gs1) 1 gs45)) H := hP
      have hD : va_D A (WR a k h0 vi vj (fT (fT vF 0 g35) 0 g45) (fT (fT vG 1 gs1) 1 gs45)) := hD
      have e9 : fT vF 0 g45 = fT (fT vF 0 g35) 0 g45 := (fT_sm _ _ _ _).symm
      rw [← e9] at hP hD
      clear e9
      have e9 : fT vG 1 gs45 = fT (fT vG 1 gs1) 1 gs45 := (fT_sm _ _ _ _).symm
      rw [← e9] at hP hD
      clear e9
      have hP : va_P (dC, dI) vwCl (WR a k h0 vi vj (fT vF 0 g45) (fT vG 1 gs45)) H := hP
      have hD : va_D A (WR a k h0 vi vj (fT vF 0 g45) (fT vG 1 gs45)) := hD
      have f45_0 := hw9
      try dsimp only at f45_0
      refine lv_aload_n hx hb dX12_tryIt_48 rfl (lv_at hl 0 rfl) ?_
      refine lv_sipush (v := 1020) hx hb dX12_tryIt_49 (by decide) ?_
      refine lv_iload_n hx hb dX12_tryIt_52 rfl (lv_at hl 1 rfl) ?_
      refine lv_iadd hx hb dX12_tryIt_53 ?_
      refine lv_topi (fun y3 hy3 => ?_)
      obtain rfl : (nI (1020 + k5)) = y3 := (hy3.trans (nI_add 1020 k5)).symm
      refine lv_bipush (v := 22) hx hb dX12_tryIt_54 (by decide) ?_
      refine lv_bipush (v := 24) hx hb dX12_tryIt_56 (by decide) ?_
      refine lv_iconst (v := 1) hx hb dX12_tryIt_58 (by decide) ?_
      have hFc := allFree hD hS hA
      refine va_callv (va_runV (As := [.int (nI (1020 + k5)), .int 22, .int 24, .int 1]) (rest := []) ⟨hx, hb, hml, hown, hts⟩ (b_X12_add l dC dI a k h0 vi vj (fT vF 0 g45) (fT vG 1 gs45) (1020 + k5) 1 1 22 24 (fT (fT m223 23 ((r31).toInt)) 24 (((r31).toInt) * D)) f45_0 (m223 22) (((r31).toInt) * D) (by rw [fT_ne _ _ (by omega), fT_ne _ _ (by omega)]) (by rw [fT_eq]) (by first | assumption | decide | omega | rfl) (by first | assumption | decide | omega | rfl) (by first | assumption | decide | omega | rfl) (Or.inl ⟨rfl, rfl⟩) (lift616 (add131 b22 ((sz999 bl).mul hD8 (by decide))) (by decide)) H.size) (cwV 4 hts gwsRX12_tryIt_6 rfl rfl rfl (by decide +kernel) ⟨by decide +kernel, by decide +kernel⟩) ⟨fun a U g mk q => by obtain ⟨q0, q1, qP, qK, qD⟩ := q; exact ⟨q0, q1, qP, va_K.moved (u := U) (U := U.calling g mk a) (Vm.Alike.refl U.vm) qK, qD⟩, va_recv hK hP (ci := 12) (q0 := 0) rfl rfl, fun U hU9 hW => ⟨rfl, by rw [hU9], by rw [hU9]; exact hP, va_K.moved hW.alike hK, hD.weaken (fun _ _ _ _ => trivial)⟩⟩ rfl rfl hl.1 rfl (lv_room (Nat.le_of_ble_eq_true rfl)) dX12_tryIt_59 ⟨by decide +kernel, by decide +kernel⟩) hS (fun q _ h => hFc q h) hFc (fun u t9_ H1 locs ht hvm hw9 hB9 hz1 hk1 hS => ?_)
      obtain ⟨g59, gs59⟩ := u
      try dsimp only at hw9 hB9
      obtain ⟨hP1, hD1⟩ := hB9
      rw [ht] at hP1
      have hP := hP1
      have hD := hD1.weaken (fun _ q _ h => hFc q.1 h)
      generalize H1 = H at hP hS ⊢
      have hP : va_P (dC, dI) vwCl (WR a k h0 vi vj (fT (fT vF 0 g45) 0 g59) (fT (fT vG 1 gs45) 1 gs59)) H := hP
      have hD : va_D A (WR a k h0 vi vj (fT (fT vF 0 g45) 0 g59) (fT (fT vG 1 gs45) 1 gs59)) := hD
      have e9 : fT vF 0 g59 = fT (fT vF 0 g45) 0 g59 := (fT_sm _ _ _ _).symm
      rw [← e9] at hP hD
      clear e9
      have e9 : fT vG 1 gs59 = fT (fT vG 1 gs45) 1 gs59 := (fT_sm _ _ _ _).symm
      rw [← e9] at hP hD
      clear e9
      have hP : va_P (dC, dI) vwCl (WR a k h0 vi vj (fT vF 0 g59) (fT vG 1 gs59)) H := hP
      have hD : va_D A (WR a k h0 vi vj (fT vF 0 g59) (fT vG 1 gs59)) := hD
      have f59_0 := hw9
      try dsimp only at f59_0
      refine lv_iinc (v := (nI (k5 + 1))) hx hb dX12_tryIt_62 hl (k := 1) rfl (nI_add k5 1) (by decide) rfl (fun ls (hl : lv_has ls _ ([(1, .int (nI (k5 + 1))), (0, .ref h0)])) => ?_)
      refine lv_goto (tgt := 11) hx hb dX12_tryIt_65 (by decide) ?_
      have hl : lv_has _ _ ([(0, .ref h0), (1, .int (nI (k5 + 1)))]) := lv_sub hl [1, 0] rfl
      exact ih11 (k5 + 1) g59 gs59 (fT (fT (fT m223 23 ((r31).toInt)) 24 (((r31).toInt) * D)) (1020 + k5) ((m223 22) + 1 * (((r31).toInt) * D))) _ _ _ (f59_0) (by omega) (⟨fun k hk => by by_cases e9 : 1020 + k = 1020 + k5; (rw [e9, fT_eq]; exact add131 b22 ((sz999 bl).mul hD8 (by decide))); (rw [fT_ne _ _ e9, fT_ne _ _ (by omega), fT_ne _ _ (by omega), f23_2 _ (by omega)]; exact hA1.1 k hk), fun g9 hg9 => by rw [fT_ne _ _ (by omega), fT_ne _ _ (by omega), fT_ne _ _ (by omega), f23_2 _ (by omega), fT_ne _ _ (by omega), fT_ne _ _ (by omega), fT_ne _ _ (by omega), f23_2 _ (by omega)]; exact hA1.2 g9 hg9⟩) (by (rw [fT_ne _ _ (by omega), fT_ne _ _ (by omega), fT_ne _ _ (by omega), f23_2 _ (by omega)]); exact h81) (fun q h1 h2 h3 => by (rw [fT_ne _ _ (by omega), fT_ne _ _ (by omega), fT_ne _ _ (by omega), f23_2 _ (by omega)]); exact ho q h1 h2 h3) (by omega) hP hD hS hl
theorem dX12_isBetter_0 : decode cX12_isBetter 0 = .ok (.iconst 0, 1) := dk_3 (by decide +kernel)
theorem dX12_isBetter_1 : decode cX12_isBetter 1 = .ok (.istore_n 1, 1) := dk_60 (by decide +kernel)
theorem dX12_isBetter_2 : decode cX12_isBetter 2 = .ok (.iload_n 1, 1) := dk_27 (by decide +kernel)
theorem dX12_isBetter_3 : decode cX12_isBetter 3 = .ok (.aload_n 0, 1) := dk_42 (by decide +kernel)
theorem dX12_isBetter_4 : decode cX12_isBetter 4 = .ok (.getfield 805, 3) := dk_180 (by decide +kernel)
theorem dX12_isBetter_7 : decode cX12_isBetter 7 = .ok (.if_icmp .ge 70, 3) := dk_162 (by decide +kernel)
theorem dX12_isBetter_10 : decode cX12_isBetter 10 = .ok (.aload_n 0, 1) := dk_42 (by decide +kernel)
theorem dX12_isBetter_11 : decode cX12_isBetter 11 = .ok (.sipush 1030, 3) := dk_17 (by decide +kernel)
theorem dX12_isBetter_14 : decode cX12_isBetter 14 = .ok (.iload_n 1, 1) := dk_27 (by decide +kernel)
theorem dX12_isBetter_15 : decode cX12_isBetter 15 = .ok (.iadd, 1) := dk_96 (by decide +kernel)
theorem dX12_isBetter_16 : decode cX12_isBetter 16 = .ok (.sipush 1033, 3) := dk_17 (by decide +kernel)
theorem dX12_isBetter_19 : decode cX12_isBetter 19 = .ok (.iload_n 1, 1) := dk_27 (by decide +kernel)
theorem dX12_isBetter_20 : decode cX12_isBetter 20 = .ok (.iadd, 1) := dk_96 (by decide +kernel)
theorem dX12_isBetter_21 : decode cX12_isBetter 21 = .ok (.sipush 1010, 3) := dk_17 (by decide +kernel)
theorem dX12_isBetter_24 : decode cX12_isBetter 24 = .ok (.iload_n 1, 1) := dk_27 (by decide +kernel)
theorem dX12_isBetter_25 : decode cX12_isBetter 25 = .ok (.iadd, 1) := dk_96 (by decide +kernel)
theorem dX12_isBetter_26 : decode cX12_isBetter 26 = .ok (.sipush 1013, 3) := dk_17 (by decide +kernel)
theorem dX12_isBetter_29 : decode cX12_isBetter 29 = .ok (.iload_n 1, 1) := dk_27 (by decide +kernel)
theorem dX12_isBetter_30 : decode cX12_isBetter 30 = .ok (.iadd, 1) := dk_96 (by decide +kernel)
theorem dX12_isBetter_31 : decode cX12_isBetter 31 = .ok (.invokevirtual 862, 3) := dk_182 (by decide +kernel)
theorem dX12_isBetter_34 : decode cX12_isBetter 34 = .ok (.istore_n 2, 1) := dk_61 (by decide +kernel)
theorem dX12_isBetter_35 : decode cX12_isBetter 35 = .ok (.iload_n 2, 1) := dk_28 (by decide +kernel)
theorem dX12_isBetter_36 : decode cX12_isBetter 36 = .ok (.ifCond .eq 35, 3) := dk_153 (by decide +kernel)
theorem dX12_isBetter_39 : decode cX12_isBetter 39 = .ok (.aload_n 0, 1) := dk_42 (by decide +kernel)
theorem dX12_isBetter_40 : decode cX12_isBetter 40 = .ok (.getfield 218, 3) := dk_180 (by decide +kernel)
theorem dX12_isBetter_43 : decode cX12_isBetter 43 = .ok (.iload_n 1, 1) := dk_27 (by decide +kernel)
theorem dX12_isBetter_44 : decode cX12_isBetter 44 = .ok (.iaload, 1) := dk_46 (by decide +kernel)
theorem dX12_isBetter_45 : decode cX12_isBetter 45 = .ok (.iconst 1, 1) := dk_4 (by decide +kernel)
theorem dX12_isBetter_46 : decode cX12_isBetter 46 = .ok (.if_icmp .ne 15, 3) := dk_160 (by decide +kernel)
theorem dX12_isBetter_49 : decode cX12_isBetter 49 = .ok (.iload_n 2, 1) := dk_28 (by decide +kernel)
theorem dX12_isBetter_50 : decode cX12_isBetter 50 = .ok (.ifCond .le 7, 3) := dk_158 (by decide +kernel)
theorem dX12_isBetter_53 : decode cX12_isBetter 53 = .ok (.iconst 1, 1) := dk_4 (by decide +kernel)
theorem dX12_isBetter_54 : decode cX12_isBetter 54 = .ok (.goto 16, 3) := dk_167 (by decide +kernel)
theorem dX12_isBetter_57 : decode cX12_isBetter 57 = .ok (.iconst 0, 1) := dk_3 (by decide +kernel)
theorem dX12_isBetter_58 : decode cX12_isBetter 58 = .ok (.goto 12, 3) := dk_167 (by decide +kernel)
theorem dX12_isBetter_61 : decode cX12_isBetter 61 = .ok (.iload_n 2, 1) := dk_28 (by decide +kernel)
theorem dX12_isBetter_62 : decode cX12_isBetter 62 = .ok (.ifCond .ge 7, 3) := dk_156 (by decide +kernel)
theorem dX12_isBetter_65 : decode cX12_isBetter 65 = .ok (.iconst 1, 1) := dk_4 (by decide +kernel)
theorem dX12_isBetter_66 : decode cX12_isBetter 66 = .ok (.goto 4, 3) := dk_167 (by decide +kernel)
theorem dX12_isBetter_69 : decode cX12_isBetter 69 = .ok (.iconst 0, 1) := dk_3 (by decide +kernel)
theorem dX12_isBetter_70 : decode cX12_isBetter 70 = .ok (.ireturn, 1) := dk_172 (by decide +kernel)
theorem dX12_isBetter_71 : decode cX12_isBetter 71 = .ok (.iinc 1 1, 3) := dk_132 (by decide +kernel)
theorem dX12_isBetter_74 : decode cX12_isBetter 74 = .ok (.goto (-72), 3) := dk_167 (by decide +kernel)
theorem dX12_isBetter_77 : decode cX12_isBetter 77 = .ok (.iconst 0, 1) := dk_3 (by decide +kernel)
theorem dX12_isBetter_78 : decode cX12_isBetter 78 = .ok (.istore_n 1, 1) := dk_60 (by decide +kernel)
theorem dX12_isBetter_79 : decode cX12_isBetter 79 = .ok (.iload_n 1, 1) := dk_27 (by decide +kernel)
theorem dX12_isBetter_80 : decode cX12_isBetter 80 = .ok (.aload_n 0, 1) := dk_42 (by decide +kernel)
theorem dX12_isBetter_81 : decode cX12_isBetter 81 = .ok (.getfield 774, 3) := dk_180 (by decide +kernel)
theorem dX12_isBetter_84 : decode cX12_isBetter 84 = .ok (.if_icmp .ge 44, 3) := dk_162 (by decide +kernel)
theorem dX12_isBetter_87 : decode cX12_isBetter 87 = .ok (.aload_n 0, 1) := dk_42 (by decide +kernel)
theorem dX12_isBetter_88 : decode cX12_isBetter 88 = .ok (.sipush 1020, 3) := dk_17 (by decide +kernel)
theorem dX12_isBetter_91 : decode cX12_isBetter 91 = .ok (.iload_n 1, 1) := dk_27 (by decide +kernel)
theorem dX12_isBetter_92 : decode cX12_isBetter 92 = .ok (.iadd, 1) := dk_96 (by decide +kernel)
theorem dX12_isBetter_93 : decode cX12_isBetter 93 = .ok (.sipush 1028, 3) := dk_17 (by decide +kernel)
theorem dX12_isBetter_96 : decode cX12_isBetter 96 = .ok (.sipush 1000, 3) := dk_17 (by decide +kernel)
theorem dX12_isBetter_99 : decode cX12_isBetter 99 = .ok (.iload_n 1, 1) := dk_27 (by decide +kernel)
theorem dX12_isBetter_100 : decode cX12_isBetter 100 = .ok (.iadd, 1) := dk_96 (by decide +kernel)
theorem dX12_isBetter_101 : decode cX12_isBetter 101 = .ok (.sipush 1008, 3) := dk_17 (by decide +kernel)
theorem dX12_isBetter_104 : decode cX12_isBetter 104 = .ok (.invokevirtual 862, 3) := dk_182 (by decide +kernel)
theorem dX12_isBetter_107 : decode cX12_isBetter 107 = .ok (.istore_n 2, 1) := dk_61 (by decide +kernel)
theorem dX12_isBetter_108 : decode cX12_isBetter 108 = .ok (.iload_n 2, 1) := dk_28 (by decide +kernel)
theorem dX12_isBetter_109 : decode cX12_isBetter 109 = .ok (.ifCond .eq 13, 3) := dk_153 (by decide +kernel)
theorem dX12_isBetter_112 : decode cX12_isBetter 112 = .ok (.iload_n 2, 1) := dk_28 (by decide +kernel)
theorem dX12_isBetter_113 : decode cX12_isBetter 113 = .ok (.ifCond .ge 7, 3) := dk_156 (by decide +kernel)
theorem dX12_isBetter_116 : decode cX12_isBetter 116 = .ok (.iconst 1, 1) := dk_4 (by decide +kernel)
theorem dX12_isBetter_117 : decode cX12_isBetter 117 = .ok (.goto 4, 3) := dk_167 (by decide +kernel)
theorem dX12_isBetter_120 : decode cX12_isBetter 120 = .ok (.iconst 0, 1) := dk_3 (by decide +kernel)
theorem dX12_isBetter_121 : decode cX12_isBetter 121 = .ok (.ireturn, 1) := dk_172 (by decide +kernel)
theorem dX12_isBetter_122 : decode cX12_isBetter 122 = .ok (.iinc 1 1, 3) := dk_132 (by decide +kernel)
theorem dX12_isBetter_125 : decode cX12_isBetter 125 = .ok (.goto (-46), 3) := dk_167 (by decide +kernel)
theorem dX12_isBetter_128 : decode cX12_isBetter 128 = .ok (.iconst 0, 1) := dk_3 (by decide +kernel)
theorem dX12_isBetter_129 : decode cX12_isBetter 129 = .ok (.ireturn, 1) := dk_172 (by decide +kernel)
def wsRX12_isBetter : List Cond := .code yX12_isBetter cX12_isBetter 3 (some .boolean) :: ([.fieldLink RX12 805 "OptimaWorksModel" "modelGoals" "I", .fieldLink RX12 774 "OptimaWorksModel" "variables" "I", .fieldLink RX12 218 "OptimaWorksModel" "goalMax" "[I"] ++ wsX120 ++ (wsV RX12 862 RX12 yX12_against wsRX12_against))
theorem iwsRX12_isBetter_in12 : ∀ w ∈ wsX120, w ∈ wsRX12_isBetter := fun _ h => List.mem_cons_of_mem _ (List.mem_append_left _ (List.mem_append_right _ h))
theorem gwsRX12_isBetter_0 : GoodIn wsRX12_isBetter (wsV RX12 862 RX12 yX12_against wsRX12_against) := goodIn_sub (fun _ h => List.mem_cons_of_mem _ (List.mem_append_right _ h)) (gdV (by decide +kernel) gdwsRX12_against)
theorem gdwsRX12_isBetter : wsRX12_isBetter.all goodWord = true := gdC rfl (gdA (gdA (by decide +kernel : ([.fieldLink RX12 805 "OptimaWorksModel" "modelGoals" "I", .fieldLink RX12 774 "OptimaWorksModel" "variables" "I", .fieldLink RX12 218 "OptimaWorksModel" "goalMax" "[I"] : List Cond).all goodWord = true) gdwsX120) (gdV (by decide +kernel) gdwsRX12_against))
set_option maxHeartbeats 4000000 in
set_option maxRecDepth 100000 in
/-- isBetter() -/
theorem r_X12_isBetter (l : Launch) (dC : Nat → ClassId) (dI : Nat → Nat → Nat) (a : Nat → Nat) (k : Nat → ClassId) (h0 : Nat) (vi : Nat → Int32) (vj : Nat → Int64) (vF : Nat → Nat → Int32) (vG : Nat → Nat → Int64) (vn : Nat) (gq : Nat) (mg : Nat → Int) (hBg : Bg (vF 0) mg) (hvn : vi 90 = nI vn) (hvn8 : vn ≤ 8) (hgq : gq ≤ 3) (hmg : vi 93 = nI gq) (hAn : AnsB mg 1020) (hA0 : AnsB mg 1000) (sz : Nat) : Met l yX12_isBetter wsRX12_isBetter ({ frames := 3, cells := 0, slots := 0, locals := 83 }) (va_Pc [.ref h0] (fun U => U.heap.size = sz ∧ va_P (dC, dI) vwCl (WR a k h0 vi vj vF vG) U.heap ∧ va_K (dC, dI) vwCl (tX12 k) U ∧ va_D (fun _ => True) (WR a k h0 vi vj vF vG))) (va_Qi (fun (r : Int32) (u : (Nat → Int32) × (Nat → Int64) × (Nat → Int)) => (Bg (u.1) (u.2.2)) ∧ (∀ q, (q < 3 ∨ 4 < q) → (u.2.2) q = mg q) ∧ ((r) = 0 ∨ (r) = 1)) (fun (u : (Nat → Int32) × (Nat → Int64) × (Nat → Int)) t => va_P (dC, dI) vwCl (WR a k h0 vi vj (fT vF 0 (u.1)) (fT vG 1 (u.2.1))) t.heap ∧ va_D (va_A (WR a k h0 vi vj vF vG) sz) (WR a k h0 vi vj (fT vF 0 (u.1)) (fT vG 1 (u.2.1)))) (va_A (WR a k h0 vi vj vF vG) sz)) 0 0 (va_A (WR a k h0 vi vj vF vG) sz) := by
  refine Met.ofW (cc := cX12_isBetter) (maxL := 3) (ret := (some .boolean)) (by decide) rfl ?_
  intro p e s m args below meth c s₁ B hml hv
  obtain ⟨rfl, hsz, hP, hK, hD0⟩ := hv
  have hx := B.exec
  have hb := B.bytes
  have hr := B.returns
  have hts := atoms_spec (ws := wsRX12_isBetter) B.pre
  have hown : s.vm.findClass RX12 = some m.cls := findClass_of_methodNamed B.named
  have hlocks := B.notSynchronized
  subst hsz
  have hD := hD0.self (sz := s.heap.size)
  generalize hAe : va_A (WR a k h0 vi vj vF vG) s.heap.size = A at hD ⊢
  have hA : ∀ q : Nat, s.heap.size ≤ q → A q := fun q h => by rw [← hAe]; exact Or.inr h
  have hS : va_S A s.heap s.heap [] := va_S.rf
  have hl := lv_entry ([.ref h0]) (n := 3) (Nat.le_of_ble_eq_true rfl)
  rw [lg_entry_eq]
  generalize (lg_sl ([.ref h0]) ++ List.replicate (3 - (lg_sl ([.ref h0])).length) Slot.unset).toArray = ls at hl ⊢
  have hl : lv_has ls 3 [(0, .ref h0)] := hl
  refine lv_iconst (v := 0) hx hb dX12_isBetter_0 (by decide) ?_
  refine lv_istore_n hx hb dX12_isBetter_1 rfl hl (by decide) rfl (fun ls (hl : lv_has ls _ ([(1, .int 0), (0, .ref h0)])) => ?_)
  have e9 : fT vF 0 (vF 0) = vF := by funext q9; by_cases h9_0 : q9 = 0; (subst h9_0; exact (fT_eq _ _ _).trans (Eq.trans (by first | rfl | assumption | (symm; assumption) | (subst_vars; rfl)) (Eq.refl _).symm)); exact (fT_ne _ _ h9_0).trans (Eq.refl _).symm
  have hP : va_P (dC, dI) vwCl (WR a k h0 vi vj (fT vF 0 (vF 0)) vG) s.heap := by rw [e9]; exact hP
  have hD : va_D A (WR a k h0 vi vj (fT vF 0 (vF 0)) vG) := by rw [e9]; exact hD
  clear e9
  have e9 : fT vG 1 (vG 1) = vG := by funext q9; by_cases h9_1 : q9 = 1; (subst h9_1; exact (fT_eq _ _ _).trans (Eq.trans (by first | rfl | assumption | (symm; assumption) | (subst_vars; rfl)) (Eq.refl _).symm)); exact (fT_ne _ _ h9_1).trans (Eq.refl _).symm
  have hP : va_P (dC, dI) vwCl (WR a k h0 vi vj (fT vF 0 (vF 0)) (fT vG 1 (vG 1))) s.heap := by rw [e9]; exact hP
  have hD : va_D A (WR a k h0 vi vj (fT vF 0 (vF 0)) (fT vG 1 (vG 1))) := by rw [e9]; exact hD
  clear e9
  have hl : lv_has _ _ ([(0, .ref h0), (1, .int (nI 0))]) := lv_sub hl [1, 0] rfl
  refine (fun (loop : ∀ (n9 : Nat) (k5 : Nat) (g1 : Nat → Int32) (gs1 : Nat → Int64) (m1 : Nat → Int) (H : Heap) (locs : List Loc) (ls : Array Slot), (Bg g1 m1) → (k5 ≤ gq) → (∀ q, (q < 3 ∨ 4 < q) → m1 q = mg q) →  (gq < k5 + n9) → va_P (dC, dI) vwCl (WR a k h0 vi vj (fT vF 0 g1) (fT vG 1 gs1)) H → va_D A (WR a k h0 vi vj (fT vF 0 g1) (fT vG 1 gs1)) → va_S A s.heap H locs → lv_has ls 3 [(0, .ref h0), (1, .int (nI k5))] → W p l e _ s m _ below meth c H locs 0 0 _ (F0 m 2 ls [])) => loop (gq + 1) 0 (vF 0) (vG 1) mg _ _ _ (hBg) (by omega) (fun q _ => rfl) (by omega) hP hD hS hl) ?_
  intro n9
  induction n9 with
  | zero => intro k5 g1 gs1 m1 H locs ls hB1 hk5 ho hf9; exact False.elim (by omega)
  | succ n9 ih2 =>
    intro k5 g1 gs1 m1 H locs ls hB1 hk5 ho hf2 hP hD hS hl
    refine lv_iload_n hx hb dX12_isBetter_2 rfl (lv_at hl 1 rfl) ?_
    refine lv_aload_n hx hb dX12_isBetter_3 rfl (lv_at hl 0 rfl) ?_
    refine va_get (D := (dC, dI)) (ci := 12) (v := .int (vi 93)) (C := RX12) (T := TX12) (N := 163) (fs := fM (vS a vi vj)) hx hb hts iwsRX12_isBetter_in12 hown hK hP 0 rfl rfl 93 (by decide) (hts (.fieldLink RX12 805 "OptimaWorksModel" "modelGoals" "I") (by decide +kernel)) (fun _ h9 => h9) rfl dX12_isBetter_4 ?_
    refine lv_topi (fun y1 hy1 => ?_)
    obtain rfl : (nI gq) = y1 := (hy1.trans (hmg)).symm
    refine lv_icmp_ge (tgt := 77) hx hb dX12_isBetter_7 (by decide) (fun c_7 => ?_) (fun c_7 => ?_)
    · have t_7 : ((k5 : Nat) : Int) ≥ ((gq : Nat) : Int) := toI_ge c_7 (nI_toInt (by omega)) (nI_toInt (by omega))
      refine lv_iconst (v := 0) hx hb dX12_isBetter_77 (by decide) ?_
      refine lv_istore_n hx hb dX12_isBetter_78 rfl hl (by decide) rfl (fun ls (hl : lv_has ls _ ([(1, .int 0), (0, .ref h0)])) => ?_)
      have hl : lv_has _ _ ([(0, .ref h0), (1, .int (nI 0))]) := lv_sub hl [1, 0] rfl
      refine (fun (loop : ∀ (n9 : Nat) (k6 : Nat) (g3 : Nat → Int32) (gs3 : Nat → Int64) (m3 : Nat → Int) (H : Heap) (locs : List Loc) (ls : Array Slot), (Bg g3 m3) → (k6 ≤ vn) → (∀ q, (q < 3 ∨ 4 < q) → m3 q = mg q) →  (vn < k6 + n9) → va_P (dC, dI) vwCl (WR a k h0 vi vj (fT vF 0 g3) (fT vG 1 gs3)) H → va_D A (WR a k h0 vi vj (fT vF 0 g3) (fT vG 1 gs3)) → va_S A s.heap H locs → lv_has ls 3 [(0, .ref h0), (1, .int (nI k6))] → W p l e _ s m _ below meth c H locs 0 0 _ (F0 m 79 ls [])) => loop (vn + 1) 0 g1 gs1 m1 _ _ _ (hB1) (by omega) (ho) (by omega) hP hD hS hl) ?_
      intro n9
      induction n9 with
      | zero => intro k6 g3 gs3 m3 H locs ls hB3 hk6 ho2 hf9; exact False.elim (by omega)
      | succ n9 ih79_1 =>
        intro k6 g3 gs3 m3 H locs ls hB3 hk6 ho2 hf79_1 hP hD hS hl
        refine lv_iload_n hx hb dX12_isBetter_79 rfl (lv_at hl 1 rfl) ?_
        refine lv_aload_n hx hb dX12_isBetter_80 rfl (lv_at hl 0 rfl) ?_
        refine va_get (D := (dC, dI)) (ci := 12) (v := .int (vi 90)) (C := RX12) (T := TX12) (N := 163) (fs := fM (vS a vi vj)) hx hb hts iwsRX12_isBetter_in12 hown hK hP 0 rfl rfl 90 (by decide) (hts (.fieldLink RX12 774 "OptimaWorksModel" "variables" "I") (by decide +kernel)) (fun _ h9 => h9) rfl dX12_isBetter_81 ?_
        refine lv_topi (fun y2 hy2 => ?_)
        obtain rfl : (nI vn) = y2 := (hy2.trans (hvn)).symm
        refine lv_icmp_ge (tgt := 128) hx hb dX12_isBetter_84 (by decide) (fun c_84 => ?_) (fun c_84 => ?_)
        · have t_84 : ((k6 : Nat) : Int) ≥ ((vn : Nat) : Int) := toI_ge c_84 (nI_toInt (by omega)) (nI_toInt (by omega))
          refine lv_iconst (v := 0) hx hb dX12_isBetter_128 (by decide) ?_
          refine W.widen (k := 0) (n := 0) (by decide +kernel) (by decide +kernel) ?_
          exact W.zret (v := 0) hx hb hr rfl (fun t9_ ht hW => ⟨⟨0, (g3, gs3, m3), rfl, by (try dsimp only); exact ⟨hB3, ho2, Or.inl rfl⟩, by rw [ht]; exact hP, hD⟩, hS.F ht⟩) hS.2.2 dX12_isBetter_129
        · have t_84 : ¬ ((k6 : Nat) : Int) ≥ ((vn : Nat) : Int) := toI_nge c_84 (nI_toInt (by omega)) (nI_toInt (by omega))
          refine lv_aload_n hx hb dX12_isBetter_87 rfl (lv_at hl 0 rfl) ?_
          refine lv_sipush (v := 1020) hx hb dX12_isBetter_88 (by decide) ?_
          refine lv_iload_n hx hb dX12_isBetter_91 rfl (lv_at hl 1 rfl) ?_
          refine lv_iadd hx hb dX12_isBetter_92 ?_
          refine lv_topi (fun y3 hy3 => ?_)
          obtain rfl : (nI (1020 + k6)) = y3 := (hy3.trans (nI_add 1020 k6)).symm
          refine lv_sipush (v := 1028) hx hb dX12_isBetter_93 (by decide) ?_
          refine lv_sipush (v := 1000) hx hb dX12_isBetter_96 (by decide) ?_
          refine lv_iload_n hx hb dX12_isBetter_99 rfl (lv_at hl 1 rfl) ?_
          refine lv_iadd hx hb dX12_isBetter_100 ?_
          refine lv_topi (fun y4 hy4 => ?_)
          obtain rfl : (nI (1000 + k6)) = y4 := (hy4.trans (nI_add 1000 k6)).symm
          refine lv_sipush (v := 1008) hx hb dX12_isBetter_101 (by decide) ?_
          have hFc := allFree hD hS hA
          refine va_calli (va_runV (As := [.int (nI (1020 + k6)), .int 1028, .int (nI (1000 + k6)), .int 1008]) (rest := []) ⟨hx, hb, hml, hown, hts⟩ (r_X12_against l dC dI a k h0 vi vj (fT vF 0 g3) (fT vG 1 gs3) (1020 + k6) 1028 (1000 + k6) 1008 m3 hB3 (m3 (1020 + k6)) (m3 1028) (m3 (1000 + k6)) (m3 1008) rfl rfl rfl rfl (by first | assumption | decide | omega | rfl) (by first | assumption | decide | omega | rfl) (by first | assumption | decide | omega | rfl) (by first | assumption | decide | omega | rfl) (by first | assumption | decide | omega | rfl) (mulpN (a := 131) (b := 131) (by rw [ho2 _ (by omega)]; exact hAn.1 k6 (by omega)) (by rw [ho2 _ (by omega)]; exact hA0.1 8 (by omega)) (by decide)) (mulpN (a := 131) (b := 131) (by rw [ho2 _ (by omega)]; exact hA0.1 k6 (by omega)) (by rw [ho2 _ (by omega)]; exact hAn.1 8 (by omega)) (by decide)) H.size) (cwV 4 hts gwsRX12_isBetter_0 rfl rfl rfl (by decide +kernel) ⟨by decide +kernel, by decide +kernel⟩) ⟨fun a U g mk q => by obtain ⟨q0, q1, qP, qK, qD⟩ := q; exact ⟨q0, q1, qP, va_K.moved (u := U) (U := U.calling g mk a) (Vm.Alike.refl U.vm) qK, qD⟩, va_recv hK hP (ci := 12) (q0 := 0) rfl rfl, fun U hU9 hW => ⟨rfl, by rw [hU9], by rw [hU9]; exact hP, va_K.moved hW.alike hK, hD.weaken (fun _ _ _ _ => trivial)⟩⟩ rfl rfl hl.1 rfl (lv_room (Nat.le_of_ble_eq_true rfl)) dX12_isBetter_104 ⟨by decide +kernel, by decide +kernel⟩) hS (fun q _ h => hFc q h) hFc (fun r104 u t9_ H1 locs ht hvm hw9 hB9 hz1 hk1 hS => ?_)
          obtain ⟨g104, gs104, m2104⟩ := u
          try dsimp only at hw9 hB9
          obtain ⟨hP1, hD1⟩ := hB9
          rw [ht] at hP1
          have hP := hP1
          have hD := hD1.weaken (fun _ q _ h => hFc q.1 h)
          generalize H1 = H at hP hS ⊢
          have hP : va_P (dC, dI) vwCl (WR a k h0 vi vj (fT (fT vF 0 g3) 0 g104) (fT (fT vG 1 gs3) 1 gs104)) H := hP
          have hD : va_D A (WR a k h0 vi vj (fT (fT vF 0 g3) 0 g104) (fT (fT vG 1 gs3) 1 gs104)) := hD
          have e9 : fT vF 0 g104 = fT (fT vF 0 g3) 0 g104 := (fT_sm _ _ _ _).symm
          rw [← e9] at hP hD
          clear e9
          have e9 : fT vG 1 gs104 = fT (fT vG 1 gs3) 1 gs104 := (fT_sm _ _ _ _).symm
          rw [← e9] at hP hD
          clear e9
          have hP : va_P (dC, dI) vwCl (WR a k h0 vi vj (fT vF 0 g104) (fT vG 1 gs104)) H := hP
          have hD : va_D A (WR a k h0 vi vj (fT vF 0 g104) (fT vG 1 gs104)) := hD
          obtain ⟨f104_0, f104_1, f104_2⟩ := hw9
          refine lv_istore_n hx hb dX12_isBetter_107 rfl hl (by decide) rfl (fun ls (hl : lv_has ls _ ([(2, .int r104), (0, .ref h0), (1, .int (nI k6))])) => ?_)
          refine lv_iload_n hx hb dX12_isBetter_108 rfl (lv_at hl 0 rfl) ?_
          refine lv_if_eq (tgt := 122) hx hb dX12_isBetter_109 (by decide) (fun c_109 => ?_) (fun c_109 => ?_)
          · have t_109 : (r104).toInt = 0 := toI_eq c_109 rfl (by decide)
            refine lv_iinc (v := (nI (k6 + 1))) hx hb dX12_isBetter_122 hl (k := 2) rfl (nI_add k6 1) (by decide) rfl (fun ls (hl : lv_has ls _ ([(1, .int (nI (k6 + 1))), (2, .int r104), (0, .ref h0)])) => ?_)
            refine lv_goto (tgt := 79) hx hb dX12_isBetter_125 (by decide) ?_
            have hl : lv_has _ _ ([(0, .ref h0), (1, .int (nI (k6 + 1)))]) := lv_sub hl [2, 0] rfl
            exact ih79_1 (k6 + 1) g104 gs104 m2104 _ _ _ (f104_0) (by omega) (fun q hq => by (rw [f104_2 _ (by omega)]); exact ho2 q hq) (by omega) hP hD hS hl
          · have t_109 : ¬ (r104).toInt = 0 := toI_neq c_109 rfl (by decide)
            refine lv_iload_n hx hb dX12_isBetter_112 rfl (lv_at hl 0 rfl) ?_
            refine lv_if_ge (tgt := 120) hx hb dX12_isBetter_113 (by decide) (fun c_113 => ?_) (fun c_113 => ?_)
            · have t_113 : (r104).toInt ≥ 0 := toI_ge c_113 rfl (by decide)
              refine lv_iconst (v := 0) hx hb dX12_isBetter_120 (by decide) ?_
              refine W.widen (k := 0) (n := 0) (by decide +kernel) (by decide +kernel) ?_
              exact W.zret (v := 0) hx hb hr rfl (fun t9_ ht hW => ⟨⟨0, (g104, gs104, m2104), rfl, by (try dsimp only); exact ⟨f104_0, fun q hq => by (rw [f104_2 _ (by omega)]); exact ho2 q hq, Or.inl rfl⟩, by rw [ht]; exact hP, hD⟩, hS.F ht⟩) hS.2.2 dX12_isBetter_121
            · have t_113 : ¬ (r104).toInt ≥ 0 := toI_nge c_113 rfl (by decide)
              refine lv_iconst (v := 1) hx hb dX12_isBetter_116 (by decide) ?_
              refine lv_goto (tgt := 121) hx hb dX12_isBetter_117 (by decide) ?_
              refine W.widen (k := 0) (n := 0) (by decide +kernel) (by decide +kernel) ?_
              exact W.zret (v := 1) hx hb hr rfl (fun t9_ ht hW => ⟨⟨1, (g104, gs104, m2104), rfl, by (try dsimp only); exact ⟨f104_0, fun q hq => by (rw [f104_2 _ (by omega)]); exact ho2 q hq, Or.inr rfl⟩, by rw [ht]; exact hP, hD⟩, hS.F ht⟩) hS.2.2 dX12_isBetter_121
    · have t_7 : ¬ ((k5 : Nat) : Int) ≥ ((gq : Nat) : Int) := toI_nge c_7 (nI_toInt (by omega)) (nI_toInt (by omega))
      refine lv_aload_n hx hb dX12_isBetter_10 rfl (lv_at hl 0 rfl) ?_
      refine lv_sipush (v := 1030) hx hb dX12_isBetter_11 (by decide) ?_
      refine lv_iload_n hx hb dX12_isBetter_14 rfl (lv_at hl 1 rfl) ?_
      refine lv_iadd hx hb dX12_isBetter_15 ?_
      refine lv_topi (fun y5 hy5 => ?_)
      obtain rfl : (nI (1030 + k5)) = y5 := (hy5.trans (nI_add 1030 k5)).symm
      refine lv_sipush (v := 1033) hx hb dX12_isBetter_16 (by decide) ?_
      refine lv_iload_n hx hb dX12_isBetter_19 rfl (lv_at hl 1 rfl) ?_
      refine lv_iadd hx hb dX12_isBetter_20 ?_
      refine lv_topi (fun y6 hy6 => ?_)
      obtain rfl : (nI (1033 + k5)) = y6 := (hy6.trans (nI_add 1033 k5)).symm
      refine lv_sipush (v := 1010) hx hb dX12_isBetter_21 (by decide) ?_
      refine lv_iload_n hx hb dX12_isBetter_24 rfl (lv_at hl 1 rfl) ?_
      refine lv_iadd hx hb dX12_isBetter_25 ?_
      refine lv_topi (fun y7 hy7 => ?_)
      obtain rfl : (nI (1010 + k5)) = y7 := (hy7.trans (nI_add 1010 k5)).symm
      refine lv_sipush (v := 1013) hx hb dX12_isBetter_26 (by decide) ?_
      refine lv_iload_n hx hb dX12_isBetter_29 rfl (lv_at hl 1 rfl) ?_
      refine lv_iadd hx hb dX12_isBetter_30 ?_
      refine lv_topi (fun y8 hy8 => ?_)
      obtain rfl : (nI (1013 + k5)) = y8 := (hy8.trans (nI_add 1013 k5)).symm
      have hFc := allFree hD hS hA
      refine va_calli (va_runV (As := [.int (nI (1030 + k5)), .int (nI (1033 + k5)), .int (nI (1010 + k5)), .int (nI (1013 + k5))]) (rest := []) ⟨hx, hb, hml, hown, hts⟩ (r_X12_against l dC dI a k h0 vi vj (fT vF 0 g1) (fT vG 1 gs1) (1030 + k5) (1033 + k5) (1010 + k5) (1013 + k5) m1 hB1 (m1 (1030 + k5)) (m1 (1033 + k5)) (m1 (1010 + k5)) (m1 (1013 + k5)) rfl rfl rfl rfl (by first | assumption | decide | omega | rfl) (by first | assumption | decide | omega | rfl) (by first | assumption | decide | omega | rfl) (by first | assumption | decide | omega | rfl) (by first | assumption | decide | omega | rfl) (mulpN (a := 209) (b := 187) (by rw [ho _ (by omega)]; exact (hAn.2 k5 (by omega)).1) (by rw [ho _ (by omega)]; exact (hA0.2 k5 (by omega)).2) (by decide)) (mulpN (a := 209) (b := 187) (by rw [ho _ (by omega)]; exact (hA0.2 k5 (by omega)).1) (by rw [ho _ (by omega)]; exact (hAn.2 k5 (by omega)).2) (by decide)) H.size) (cwV 4 hts gwsRX12_isBetter_0 rfl rfl rfl (by decide +kernel) ⟨by decide +kernel, by decide +kernel⟩) ⟨fun a U g mk q => by obtain ⟨q0, q1, qP, qK, qD⟩ := q; exact ⟨q0, q1, qP, va_K.moved (u := U) (U := U.calling g mk a) (Vm.Alike.refl U.vm) qK, qD⟩, va_recv hK hP (ci := 12) (q0 := 0) rfl rfl, fun U hU9 hW => ⟨rfl, by rw [hU9], by rw [hU9]; exact hP, va_K.moved hW.alike hK, hD.weaken (fun _ _ _ _ => trivial)⟩⟩ rfl rfl hl.1 rfl (lv_room (Nat.le_of_ble_eq_true rfl)) dX12_isBetter_31 ⟨by decide +kernel, by decide +kernel⟩) hS (fun q _ h => hFc q h) hFc (fun r31 u t9_ H1 locs ht hvm hw9 hB9 hz1 hk1 hS => ?_)
      obtain ⟨g31, gs31, m231⟩ := u
      try dsimp only at hw9 hB9
      obtain ⟨hP1, hD1⟩ := hB9
      rw [ht] at hP1
      have hP := hP1
      have hD := hD1.weaken (fun _ q _ h => hFc q.1 h)
      generalize H1 = H at hP hS ⊢
      have hP : va_P (dC, dI) vwCl (WR a k h0 vi vj (fT (fT vF 0 g1) 0 g31) (fT (fT vG 1 gs1) 1 gs31)) H := hP
      have hD : va_D A (WR a k h0 vi vj (fT (fT vF 0 g1) 0 g31) (fT (fT vG 1 gs1) 1 gs31)) := hD
      have e9 : fT vF 0 g31 = fT (fT vF 0 g1) 0 g31 := (fT_sm _ _ _ _).symm
      rw [← e9] at hP hD
      clear e9
      have e9 : fT vG 1 gs31 = fT (fT vG 1 gs1) 1 gs31 := (fT_sm _ _ _ _).symm
      rw [← e9] at hP hD
      clear e9
      have hP : va_P (dC, dI) vwCl (WR a k h0 vi vj (fT vF 0 g31) (fT vG 1 gs31)) H := hP
      have hD : va_D A (WR a k h0 vi vj (fT vF 0 g31) (fT vG 1 gs31)) := hD
      obtain ⟨f31_0, f31_1, f31_2⟩ := hw9
      refine lv_istore_n hx hb dX12_isBetter_34 rfl hl (by decide) rfl (fun ls (hl : lv_has ls _ ([(2, .int r31), (0, .ref h0), (1, .int (nI k5))])) => ?_)
      refine lv_iload_n hx hb dX12_isBetter_35 rfl (lv_at hl 0 rfl) ?_
      refine lv_if_eq (tgt := 71) hx hb dX12_isBetter_36 (by decide) (fun c_36 => ?_) (fun c_36 => ?_)
      · have t_36 : (r31).toInt = 0 := toI_eq c_36 rfl (by decide)
        refine lv_iinc (v := (nI (k5 + 1))) hx hb dX12_isBetter_71 hl (k := 2) rfl (nI_add k5 1) (by decide) rfl (fun ls (hl : lv_has ls _ ([(1, .int (nI (k5 + 1))), (2, .int r31), (0, .ref h0)])) => ?_)
        refine lv_goto (tgt := 2) hx hb dX12_isBetter_74 (by decide) ?_
        have hl : lv_has _ _ ([(0, .ref h0), (1, .int (nI (k5 + 1)))]) := lv_sub hl [2, 0] rfl
        exact ih2 (k5 + 1) g31 gs31 m231 _ _ _ (f31_0) (by omega) (fun q hq => by (rw [f31_2 _ (by omega)]); exact ho q hq) (by omega) hP hD hS hl
      · have t_36 : ¬ (r31).toInt = 0 := toI_neq c_36 rfl (by decide)
        refine lv_aload_n hx hb dX12_isBetter_39 rfl (lv_at hl 1 rfl) ?_
        refine va_get (D := (dC, dI)) (ci := 12) (v := .ref (a 65)) (C := RX12) (T := TX12) (N := 163) (fs := fM (vS a vi vj)) hx hb hts iwsRX12_isBetter_in12 hown hK hP 0 rfl rfl 105 (by decide) (hts (.fieldLink RX12 218 "OptimaWorksModel" "goalMax" "[I") (by decide +kernel)) (fun _ h9 => h9) rfl dX12_isBetter_40 ?_
        refine lv_iload_n hx hb dX12_isBetter_43 rfl (lv_at hl 2 rfl) ?_
        refine va_iald (cA := k 65) (n := 3) (f := (vF 65)) hx hb hK hP 66 65 (WR_get 65 (by decide)) (TR_get 65 (by decide)) (vp_in_nI (show k5 < 3 by omega) (by omega)) dX12_isBetter_44 ?_
        refine lv_topi (fun y9 hy9 => ?_)
        obtain rfl : ((vF 65) k5) = y9 := (hy9.trans (by rw [nI_clamp (by omega)])).symm
        refine lv_iconst (v := 1) hx hb dX12_isBetter_45 (by decide) ?_
        refine lv_icmp_ne (tgt := 61) hx hb dX12_isBetter_46 (by decide) (fun c_46 => ?_) (fun c_46 => ?_)
        · have t_46 : (((vF 65) k5)).toInt ≠ 1 := toI_ne c_46 rfl (by decide)
          refine lv_iload_n hx hb dX12_isBetter_61 rfl (lv_at hl 0 rfl) ?_
          refine lv_if_ge (tgt := 69) hx hb dX12_isBetter_62 (by decide) (fun c_62 => ?_) (fun c_62 => ?_)
          · have t_62 : (r31).toInt ≥ 0 := toI_ge c_62 rfl (by decide)
            refine lv_iconst (v := 0) hx hb dX12_isBetter_69 (by decide) ?_
            refine W.widen (k := 0) (n := 0) (by decide +kernel) (by decide +kernel) ?_
            exact W.zret (v := 0) hx hb hr rfl (fun t9_ ht hW => ⟨⟨0, (g31, gs31, m231), rfl, by (try dsimp only); exact ⟨f31_0, fun q hq => by (rw [f31_2 _ (by omega)]); exact ho q hq, Or.inl rfl⟩, by rw [ht]; exact hP, hD⟩, hS.F ht⟩) hS.2.2 dX12_isBetter_70
          · have t_62 : ¬ (r31).toInt ≥ 0 := toI_nge c_62 rfl (by decide)
            refine lv_iconst (v := 1) hx hb dX12_isBetter_65 (by decide) ?_
            refine lv_goto (tgt := 70) hx hb dX12_isBetter_66 (by decide) ?_
            refine W.widen (k := 0) (n := 0) (by decide +kernel) (by decide +kernel) ?_
            exact W.zret (v := 1) hx hb hr rfl (fun t9_ ht hW => ⟨⟨1, (g31, gs31, m231), rfl, by (try dsimp only); exact ⟨f31_0, fun q hq => by (rw [f31_2 _ (by omega)]); exact ho q hq, Or.inr rfl⟩, by rw [ht]; exact hP, hD⟩, hS.F ht⟩) hS.2.2 dX12_isBetter_70
        · have t_46 : (((vF 65) k5)).toInt = 1 := toI_nne c_46 rfl (by decide)
          refine lv_iload_n hx hb dX12_isBetter_49 rfl (lv_at hl 0 rfl) ?_
          refine lv_if_le (tgt := 57) hx hb dX12_isBetter_50 (by decide) (fun c_50 => ?_) (fun c_50 => ?_)
          · have t_50 : (r31).toInt ≤ 0 := toI_le c_50 rfl (by decide)
            refine lv_iconst (v := 0) hx hb dX12_isBetter_57 (by decide) ?_
            refine lv_goto (tgt := 70) hx hb dX12_isBetter_58 (by decide) ?_
            refine W.widen (k := 0) (n := 0) (by decide +kernel) (by decide +kernel) ?_
            exact W.zret (v := 0) hx hb hr rfl (fun t9_ ht hW => ⟨⟨0, (g31, gs31, m231), rfl, by (try dsimp only); exact ⟨f31_0, fun q hq => by (rw [f31_2 _ (by omega)]); exact ho q hq, Or.inl rfl⟩, by rw [ht]; exact hP, hD⟩, hS.F ht⟩) hS.2.2 dX12_isBetter_70
          · have t_50 : ¬ (r31).toInt ≤ 0 := toI_nle c_50 rfl (by decide)
            refine lv_iconst (v := 1) hx hb dX12_isBetter_53 (by decide) ?_
            refine lv_goto (tgt := 70) hx hb dX12_isBetter_54 (by decide) ?_
            refine W.widen (k := 0) (n := 0) (by decide +kernel) (by decide +kernel) ?_
            exact W.zret (v := 1) hx hb hr rfl (fun t9_ ht hW => ⟨⟨1, (g31, gs31, m231), rfl, by (try dsimp only); exact ⟨f31_0, fun q hq => by (rw [f31_2 _ (by omega)]); exact ho q hq, Or.inr rfl⟩, by rw [ht]; exact hP, hD⟩, hS.F ht⟩) hS.2.2 dX12_isBetter_70

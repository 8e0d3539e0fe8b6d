theorem hd_yX12_isNode_RX12 : yX12_isNode.cls = RX12 ∧ yX12_isNode.cls ≠ "java/lang/invoke/MethodHandle" ∧ yX12_isNode.cls ≠ "java/lang/invoke/VarHandle" ∧ (parseMethodDescriptor yX12_isNode.desc).map (fun d => d.parameters.length) = some 1 := by decide +kernel
theorem dX12_canBegin_0 : decode cX12_canBegin 0 = .ok (.aload_n 0, 1) := dk_42 (by decide +kernel)
theorem dX12_canBegin_1 : decode cX12_canBegin 1 = .ok (.getfield 494, 3) := dk_180 (by decide +kernel)
theorem dX12_canBegin_4 : decode cX12_canBegin 4 = .ok (.iconst 3, 1) := dk_6 (by decide +kernel)
theorem dX12_canBegin_5 : decode cX12_canBegin 5 = .ok (.if_icmp .eq 38, 3) := dk_159 (by decide +kernel)
theorem dX12_canBegin_8 : decode cX12_canBegin 8 = .ok (.aload_n 0, 1) := dk_42 (by decide +kernel)
theorem dX12_canBegin_9 : decode cX12_canBegin 9 = .ok (.getfield 494, 3) := dk_180 (by decide +kernel)
theorem dX12_canBegin_12 : decode cX12_canBegin 12 = .ok (.iconst 1, 1) := dk_4 (by decide +kernel)
theorem dX12_canBegin_13 : decode cX12_canBegin 13 = .ok (.if_icmp .eq 30, 3) := dk_159 (by decide +kernel)
theorem dX12_canBegin_16 : decode cX12_canBegin 16 = .ok (.aload_n 0, 1) := dk_42 (by decide +kernel)
theorem dX12_canBegin_17 : decode cX12_canBegin 17 = .ok (.bipush 45, 2) := dk_16 (by decide +kernel)
theorem dX12_canBegin_19 : decode cX12_canBegin 19 = .ok (.invokevirtual 521, 3) := dk_182 (by decide +kernel)
theorem dX12_canBegin_22 : decode cX12_canBegin 22 = .ok (.ifCond .ne 21, 3) := dk_154 (by decide +kernel)
theorem dX12_canBegin_25 : decode cX12_canBegin 25 = .ok (.aload_n 0, 1) := dk_42 (by decide +kernel)
theorem dX12_canBegin_26 : decode cX12_canBegin 26 = .ok (.bipush 40, 2) := dk_16 (by decide +kernel)
theorem dX12_canBegin_28 : decode cX12_canBegin 28 = .ok (.invokevirtual 521, 3) := dk_182 (by decide +kernel)
theorem dX12_canBegin_31 : decode cX12_canBegin 31 = .ok (.ifCond .ne 12, 3) := dk_154 (by decide +kernel)
theorem dX12_canBegin_34 : decode cX12_canBegin 34 = .ok (.aload_n 0, 1) := dk_42 (by decide +kernel)
theorem dX12_canBegin_35 : decode cX12_canBegin 35 = .ok (.bipush 12, 2) := dk_16 (by decide +kernel)
theorem dX12_canBegin_37 : decode cX12_canBegin 37 = .ok (.invokevirtual 530, 3) := dk_182 (by decide +kernel)
theorem dX12_canBegin_40 : decode cX12_canBegin 40 = .ok (.ifCond .eq 7, 3) := dk_153 (by decide +kernel)
theorem dX12_canBegin_43 : decode cX12_canBegin 43 = .ok (.iconst 1, 1) := dk_4 (by decide +kernel)
theorem dX12_canBegin_44 : decode cX12_canBegin 44 = .ok (.goto 4, 3) := dk_167 (by decide +kernel)
theorem dX12_canBegin_47 : decode cX12_canBegin 47 = .ok (.iconst 0, 1) := dk_3 (by decide +kernel)
theorem dX12_canBegin_48 : decode cX12_canBegin 48 = .ok (.istore_n 1, 1) := dk_60 (by decide +kernel)
theorem dX12_canBegin_49 : decode cX12_canBegin 49 = .ok (.iload_n 1, 1) := dk_27 (by decide +kernel)
theorem dX12_canBegin_50 : decode cX12_canBegin 50 = .ok (.ifCond .ne 10, 3) := dk_154 (by decide +kernel)
theorem dX12_canBegin_53 : decode cX12_canBegin 53 = .ok (.aload_n 0, 1) := dk_42 (by decide +kernel)
theorem dX12_canBegin_54 : decode cX12_canBegin 54 = .ok (.invokevirtual 527, 3) := dk_182 (by decide +kernel)
theorem dX12_canBegin_57 : decode cX12_canBegin 57 = .ok (.goto 39, 3) := dk_167 (by decide +kernel)
theorem dX12_canBegin_60 : decode cX12_canBegin 60 = .ok (.aload_n 0, 1) := dk_42 (by decide +kernel)
theorem dX12_canBegin_61 : decode cX12_canBegin 61 = .ok (.getfield 494, 3) := dk_180 (by decide +kernel)
theorem dX12_canBegin_64 : decode cX12_canBegin 64 = .ok (.iconst 1, 1) := dk_4 (by decide +kernel)
theorem dX12_canBegin_65 : decode cX12_canBegin 65 = .ok (.if_icmp .ne 31, 3) := dk_160 (by decide +kernel)
theorem dX12_canBegin_68 : decode cX12_canBegin 68 = .ok (.aload_n 0, 1) := dk_42 (by decide +kernel)
theorem dX12_canBegin_69 : decode cX12_canBegin 69 = .ok (.invokevirtual 558, 3) := dk_182 (by decide +kernel)
theorem dX12_canBegin_72 : decode cX12_canBegin 72 = .ok (.iconst (-1), 1) := dk_2 (by decide +kernel)
theorem dX12_canBegin_73 : decode cX12_canBegin 73 = .ok (.if_icmp .ne 23, 3) := dk_160 (by decide +kernel)
theorem dX12_canBegin_76 : decode cX12_canBegin 76 = .ok (.aload_n 0, 1) := dk_42 (by decide +kernel)
theorem dX12_canBegin_77 : decode cX12_canBegin 77 = .ok (.aload_n 0, 1) := dk_42 (by decide +kernel)
theorem dX12_canBegin_78 : decode cX12_canBegin 78 = .ok (.invokevirtual 555, 3) := dk_182 (by decide +kernel)
theorem dX12_canBegin_81 : decode cX12_canBegin 81 = .ok (.invokevirtual 567, 3) := dk_182 (by decide +kernel)
theorem dX12_canBegin_84 : decode cX12_canBegin 84 = .ok (.ifCond .ne 12, 3) := dk_154 (by decide +kernel)
theorem dX12_canBegin_87 : decode cX12_canBegin 87 = .ok (.aload_n 0, 1) := dk_42 (by decide +kernel)
theorem dX12_canBegin_88 : decode cX12_canBegin 88 = .ok (.iconst 3, 1) := dk_6 (by decide +kernel)
theorem dX12_canBegin_89 : decode cX12_canBegin 89 = .ok (.aload_n 0, 1) := dk_42 (by decide +kernel)
theorem dX12_canBegin_90 : decode cX12_canBegin 90 = .ok (.getfield 488, 3) := dk_180 (by decide +kernel)
theorem dX12_canBegin_93 : decode cX12_canBegin 93 = .ok (.invokevirtual 518, 3) := dk_182 (by decide +kernel)
theorem dX12_canBegin_96 : decode cX12_canBegin 96 = .ok (.aload_n 0, 1) := dk_42 (by decide +kernel)
theorem dX12_canBegin_97 : decode cX12_canBegin 97 = .ok (.getfield 515, 3) := dk_180 (by decide +kernel)
theorem dX12_canBegin_100 : decode cX12_canBegin 100 = .ok (.ifCond .ne 7, 3) := dk_154 (by decide +kernel)
theorem dX12_canBegin_103 : decode cX12_canBegin 103 = .ok (.iconst 1, 1) := dk_4 (by decide +kernel)
theorem dX12_canBegin_104 : decode cX12_canBegin 104 = .ok (.goto 4, 3) := dk_167 (by decide +kernel)
theorem dX12_canBegin_107 : decode cX12_canBegin 107 = .ok (.iconst 0, 1) := dk_3 (by decide +kernel)
theorem dX12_canBegin_108 : decode cX12_canBegin 108 = .ok (.ireturn, 1) := dk_172 (by decide +kernel)
def wsRX12_canBegin : List Cond := .code yX12_canBegin cX12_canBegin 2 (some .boolean) :: ([.fieldLink RX12 494 "OptimaWorksModel" "word" "I", .fieldLink RX12 515 "OptimaWorksModel" "stop" "I", .fieldLink RX12 488 "OptimaWorksModel" "from" "I"] ++ wsX120 ++ (wsV RX12 521 RX12 yX12_isSign wsRX12_isSign) ++ (wsV RX12 530 RX12 yX12_isKey wsRX12_isKey) ++ (wsV RX12 558 RX12 yX12_binder wsRbinderf) ++ (wsV RX12 555 RX12 yX12_declared wsRdeclaredf) ++ (wsV RX12 567 RX12 yX12_isNode wsRisNodeb) ++ (wsV RX12 518 RX12 yX12_faultAt wsRX12_faultAt) ++ (wsV RX12 567 RX12 yX12_isNode wsRisNodea) ++ (wsV RX12 527 RX12 yX12_wrong wsRX12_wrong))
theorem iwsRX12_canBegin_in12 : ∀ w ∈ wsX120, w ∈ wsRX12_canBegin := fun _ h => List.mem_cons_of_mem _ (List.mem_append_left _ (List.mem_append_left _ (List.mem_append_left _ (List.mem_append_left _ (List.mem_append_left _ (List.mem_append_left _ (List.mem_append_left _ (List.mem_append_left _ (List.mem_append_right _ h)))))))))
theorem gwsRX12_canBegin_0 : GoodIn wsRX12_canBegin (wsV RX12 521 RX12 yX12_isSign wsRX12_isSign) := goodIn_sub (fun _ h => List.mem_cons_of_mem _ (List.mem_append_left _ (List.mem_append_left _ (List.mem_append_left _ (List.mem_append_left _ (List.mem_append_left _ (List.mem_append_left _ (List.mem_append_left _ (List.mem_append_right _ h))))))))) (gdV (by decide +kernel) gdwsRX12_isSign)
theorem gwsRX12_canBegin_1 : GoodIn wsRX12_canBegin (wsV RX12 530 RX12 yX12_isKey wsRX12_isKey) := goodIn_sub (fun _ h => List.mem_cons_of_mem _ (List.mem_append_left _ (List.mem_append_left _ (List.mem_append_left _ (List.mem_append_left _ (List.mem_append_left _ (List.mem_append_left _ (List.mem_append_right _ h)))))))) (gdV (by decide +kernel) gdwsRX12_isKey)
theorem gwsRX12_canBegin_2 : GoodIn wsRX12_canBegin (wsV RX12 558 RX12 yX12_binder wsRbinderf) := goodIn_sub (fun _ h => List.mem_cons_of_mem _ (List.mem_append_left _ (List.mem_append_left _ (List.mem_append_left _ (List.mem_append_left _ (List.mem_append_left _ (List.mem_append_right _ h))))))) (gdV (by decide +kernel) gdwsRbinderf)
theorem gwsRX12_canBegin_3 : GoodIn wsRX12_canBegin (wsV RX12 555 RX12 yX12_declared wsRdeclaredf) := goodIn_sub (fun _ h => List.mem_cons_of_mem _ (List.mem_append_left _ (List.mem_append_left _ (List.mem_append_left _ (List.mem_append_left _ (List.mem_append_right _ h)))))) (gdV (by decide +kernel) gdwsRdeclaredf)
theorem gwsRX12_canBegin_4 : GoodIn wsRX12_canBegin (wsV RX12 567 RX12 yX12_isNode wsRisNodeb) := goodIn_sub (fun _ h => List.mem_cons_of_mem _ (List.mem_append_left _ (List.mem_append_left _ (List.mem_append_left _ (List.mem_append_right _ h))))) (gdV (by decide +kernel) gdwsRisNodeb)
theorem gwsRX12_canBegin_5 : GoodIn wsRX12_canBegin (wsV RX12 518 RX12 yX12_faultAt wsRX12_faultAt) := goodIn_sub (fun _ h => List.mem_cons_of_mem _ (List.mem_append_left _ (List.mem_append_left _ (List.mem_append_right _ h)))) (gdV (by decide +kernel) gdwsRX12_faultAt)
theorem gwsRX12_canBegin_6 : GoodIn wsRX12_canBegin (wsV RX12 567 RX12 yX12_isNode wsRisNodea) := goodIn_sub (fun _ h => List.mem_cons_of_mem _ (List.mem_append_left _ (List.mem_append_right _ h))) (gdV (by decide +kernel) gdwsRisNodea)
theorem gwsRX12_canBegin_7 : GoodIn wsRX12_canBegin (wsV RX12 527 RX12 yX12_wrong wsRX12_wrong) := goodIn_sub (fun _ h => List.mem_cons_of_mem _ (List.mem_append_right _ h)) (gdV (by decide +kernel) gdwsRX12_wrong)
theorem gdwsRX12_canBegin : wsRX12_canBegin.all goodWord = true := gdC rfl (gdA (gdA (gdA (gdA (gdA (gdA (gdA (gdA (gdA (by decide +kernel : ([.fieldLink RX12 494 "OptimaWorksModel" "word" "I", .fieldLink RX12 515 "OptimaWorksModel" "stop" "I", .fieldLink RX12 488 "OptimaWorksModel" "from" "I"] : List Cond).all goodWord = true) gdwsX120) (gdV (by decide +kernel) gdwsRX12_isSign)) (gdV (by decide +kernel) gdwsRX12_isKey)) (gdV (by decide +kernel) gdwsRbinderf)) (gdV (by decide +kernel) gdwsRdeclaredf)) (gdV (by decide +kernel) gdwsRisNodeb)) (gdV (by decide +kernel) gdwsRX12_faultAt)) (gdV (by decide +kernel) gdwsRisNodea)) (gdV (by decide +kernel) gdwsRX12_wrong))
set_option maxHeartbeats 4000000 in
set_option maxRecDepth 100000 in
/-- canBegin() -/
theorem r_X12_canBegin (l : Launch) (dC : Nat → ClassId) (dI : Nat → Nat → Nat) (a : Nat → Nat) (k : Nat → ClassId) (h0 : Nat) (vi : Nat → Int32) (vj : Nat → Int64) (vF : Nat → Nat → Int32) (vG : Nat → Nat → Int64) (tp : Nat) (an : Nat) (fn : Nat) (nm : Nat) (se : Nat) (pa : Nat) (va : Nat) (bd : Nat) (hTp : vi 16 = nI tp) (htp : tp ≤ 4000) (ha0 : vi 17 = nI an) (hfr : vi 19 = nI fn) (hLx : LxO tp fn an (vi 18) (vi 20)) (hst0 : 0 ≤ (vi 21).toInt) (hnm : vi 25 = nI nm) (hnm40 : nm ≤ 40) (hno : NmO (vF 11) (vF 12) nm) (hNk : NkO (vF 10) (vF 13) nm se pa va) (hbd : vi 30 = nI bd) (hbd60 : bd ≤ 60) (hbo : NmO (vF 14) (vF 15) 60) (sz : Nat) : Met l yX12_canBegin wsRX12_canBegin ({ frames := 2, cells := 0, slots := 0, locals := 47 }) (va_Pc [.ref h0] (fun U => U.heap.size = sz ∧ va_P (dC, dI) vwCl (WR a k h0 vi vj vF vG) U.heap ∧ va_K (dC, dI) vwCl (tX12 k) U ∧ va_D (fun _ => True) (WR a k h0 vi vj vF vG))) (va_Qi (fun (r : Int32) (u : (Int32) × (Int32)) => (r = 1 ∧ ((u.1) = 0) ∧ (CbW (vi 18) (vi 20)) ∧ (CbQ (vi 18) (vF 9) (vF 10) (vF 11) (vF 12) (vF 14) (vF 15) fn an nm bd)) ∨ (r = 0 ∧ (0 < ((u.1)).toInt))) (fun (u : (Int32) × (Int32)) t => va_P (dC, dI) vwCl (WR a k h0 (fT (fT vi 21 (u.1)) 22 (u.2)) vj vF vG) t.heap ∧ va_D (va_A (WR a k h0 vi vj vF vG) sz) (WR a k h0 (fT (fT vi 21 (u.1)) 22 (u.2)) vj vF vG)) (va_A (WR a k h0 vi vj vF vG) sz)) 0 0 (va_A (WR a k h0 vi vj vF vG) sz) := by
  refine Met.ofW (cc := cX12_canBegin) (maxL := 2) (ret := (some .boolean)) (by decide) rfl ?_
  intro p e s m args below meth c s₁ B hml hv
  obtain ⟨rfl, hsz, hP, hK, hD0⟩ := hv
  have hx := B.exec
  have hb := B.bytes
  have hr := B.returns
  have hts := atoms_spec (ws := wsRX12_canBegin) B.pre
  have hown : s.vm.findClass RX12 = some m.cls := findClass_of_methodNamed B.named
  have hlocks := B.notSynchronized
  subst hsz
  have hD := hD0.self (sz := s.heap.size)
  generalize hAe : va_A (WR a k h0 vi vj vF vG) s.heap.size = A at hD ⊢
  have hA : ∀ q : Nat, s.heap.size ≤ q → A q := fun q h => by rw [← hAe]; exact Or.inr h
  have hS : va_S A s.heap s.heap [] := va_S.rf
  have hl := lv_entry ([.ref h0]) (n := 2) (Nat.le_of_ble_eq_true rfl)
  rw [lg_entry_eq]
  generalize (lg_sl ([.ref h0]) ++ List.replicate (2 - (lg_sl ([.ref h0])).length) Slot.unset).toArray = ls at hl ⊢
  have hl : lv_has ls 2 [(0, .ref h0)] := hl
  have hfa := hLx.1
  have han := hLx.2.1
  have han4 : an ≤ 4000 := by omega
  refine lv_aload_n hx hb dX12_canBegin_0 rfl (lv_at hl 0 rfl) ?_
  refine va_get (D := (dC, dI)) (ci := 12) (v := .int (vi 18)) (C := RX12) (T := TX12) (N := 163) (fs := fM (vS a vi vj)) hx hb hts iwsRX12_canBegin_in12 hown hK hP 0 rfl rfl 18 (by decide) (hts (.fieldLink RX12 494 "OptimaWorksModel" "word" "I") (by decide +kernel)) (fun _ h9 => h9) rfl dX12_canBegin_1 ?_
  refine lv_iconst (v := 3) hx hb dX12_canBegin_4 (by decide) ?_
  refine W.cut (pc := 48) (fun H locs ls stk => ∃ (zq : Int32), ((zq = 1 ∧ CbW (vi 18) (vi 20)) ∨ (zq = 0 ∧ zq = 0)) ∧  stk = [.int zq] ∧ va_P (dC, dI) vwCl (WR a k h0 vi vj vF vG) H ∧ va_D A (WR a k h0 vi vj vF vG) ∧ va_S A s.heap H locs ∧ lv_has ls 2 [(0, .ref h0)]) (fun join1 => ?_) ?_
  · refine lv_icmp_eq (tgt := 43) hx hb dX12_canBegin_5 (by decide) (fun c_5 => ?_) (fun c_5 => ?_)
    · have t_5 : ((vi 18)).toInt = 3 := toI_eq c_5 rfl (by decide)
      refine lv_iconst (v := 1) hx hb dX12_canBegin_43 (by decide) ?_
      refine lv_goto (tgt := 48) hx hb dX12_canBegin_44 (by decide) ?_
      have hl : lv_has _ _ ([(0, .ref h0)]) := lv_sub hl [0] rfl
      exact join1 _ _ _ _ ⟨1, Or.inl ⟨rfl, by first | exact Or.inl (by omega) | exact Or.inr (Or.inl (by omega)) | exact Or.inr (Or.inr (Or.inl ⟨f19_0, f19_1⟩)) | exact Or.inr (Or.inr (Or.inr (Or.inl ⟨f28_0, f28_1⟩))) | exact Or.inr (Or.inr (Or.inr (Or.inr ⟨f37_0, f37_1⟩)))⟩, rfl, hP, hD, hS, hl⟩
    · have t_5 : ¬ ((vi 18)).toInt = 3 := toI_neq c_5 rfl (by decide)
      refine lv_aload_n hx hb dX12_canBegin_8 rfl (lv_at hl 0 rfl) ?_
      refine va_get (D := (dC, dI)) (ci := 12) (v := .int (vi 18)) (C := RX12) (T := TX12) (N := 163) (fs := fM (vS a vi vj)) hx hb hts iwsRX12_canBegin_in12 hown hK hP 0 rfl rfl 18 (by decide) (hts (.fieldLink RX12 494 "OptimaWorksModel" "word" "I") (by decide +kernel)) (fun _ h9 => h9) rfl dX12_canBegin_9 ?_
      refine lv_iconst (v := 1) hx hb dX12_canBegin_12 (by decide) ?_
      refine lv_icmp_eq (tgt := 43) hx hb dX12_canBegin_13 (by decide) (fun c_13 => ?_) (fun c_13 => ?_)
      · have t_13 : ((vi 18)).toInt = 1 := toI_eq c_13 rfl (by decide)
        refine lv_iconst (v := 1) hx hb dX12_canBegin_43 (by decide) ?_
        refine lv_goto (tgt := 48) hx hb dX12_canBegin_44 (by decide) ?_
        have hl : lv_has _ _ ([(0, .ref h0)]) := lv_sub hl [0] rfl
        exact join1 _ _ _ _ ⟨1, Or.inl ⟨rfl, by first | exact Or.inl (by omega) | exact Or.inr (Or.inl (by omega)) | exact Or.inr (Or.inr (Or.inl ⟨f19_0, f19_1⟩)) | exact Or.inr (Or.inr (Or.inr (Or.inl ⟨f28_0, f28_1⟩))) | exact Or.inr (Or.inr (Or.inr (Or.inr ⟨f37_0, f37_1⟩)))⟩, rfl, hP, hD, hS, hl⟩
      · have t_13 : ¬ ((vi 18)).toInt = 1 := toI_neq c_13 rfl (by decide)
        refine lv_aload_n hx hb dX12_canBegin_16 rfl (lv_at hl 0 rfl) ?_
        refine lv_bipush (v := 45) hx hb dX12_canBegin_17 (by decide) ?_
        have hFc := allFree hD hS hA
        refine va_calli (va_runV (As := [.int 45]) (rest := []) ⟨hx, hb, hml, hown, hts⟩ (r_X12_isSign l dC dI a k h0 vi vj vF vG 45 s.heap.size) (cwV 1 hts gwsRX12_canBegin_0 rfl rfl rfl hd_yX12_isSign_RX12 (by decide +kernel)) (fz_pre (va_recv hK hP (ci := 12) (q0 := 0) rfl rfl) hP hK hD) rfl rfl hl.1 rfl (lv_room (Nat.le_of_ble_eq_true rfl)) dX12_canBegin_19 (by decide +kernel)) hS (fun q _ h => hFc q h) hFc (fun r19 u t9_ H locs ht hvm hw9 hB9 hz1 hk1 hS => ?_)
        have hP : va_P (dC, dI) vwCl (WR a k h0 vi vj vF vG) H := fz_P ht hB9.1
        have hD : va_D A (WR a k h0 vi vj vF vG) := hB9.2.weaken (fun _ q _ h => hFc q.1 h)
        rcases hw9 with ⟨rfl, f19_0, f19_1⟩ | ⟨rfl, f19_0⟩
        · have f19_0 : (vi 18).toInt = 4 := f19_0
          have f19_1 : (vi 20) = 45 := f19_1
          refine lv_if_ne (tgt := 43) hx hb dX12_canBegin_22 (by decide) (fun _ => ?_) (fun c9 => absurd c9 (by decide))
          refine lv_iconst (v := 1) hx hb dX12_canBegin_43 (by decide) ?_
          refine lv_goto (tgt := 48) hx hb dX12_canBegin_44 (by decide) ?_
          have hl : lv_has _ _ ([(0, .ref h0)]) := lv_sub hl [0] rfl
          exact join1 _ _ _ _ ⟨1, Or.inl ⟨rfl, by first | exact Or.inl (by omega) | exact Or.inr (Or.inl (by omega)) | exact Or.inr (Or.inr (Or.inl ⟨f19_0, f19_1⟩)) | exact Or.inr (Or.inr (Or.inr (Or.inl ⟨f28_0, f28_1⟩))) | exact Or.inr (Or.inr (Or.inr (Or.inr ⟨f37_0, f37_1⟩)))⟩, rfl, hP, hD, hS, hl⟩
        · have f19_0 : ¬ ((vi 18).toInt = 4 ∧ (vi 20) = 45) := f19_0
          refine lv_if_ne (tgt := 43) hx hb dX12_canBegin_22 (by decide) (fun c9 => absurd c9 (by decide)) (fun _ => ?_)
          refine lv_aload_n hx hb dX12_canBegin_25 rfl (lv_at hl 0 rfl) ?_
          refine lv_bipush (v := 40) hx hb dX12_canBegin_26 (by decide) ?_
          have hFc := allFree hD hS hA
          refine va_calli (va_runV (As := [.int 40]) (rest := []) ⟨hx, hb, hml, hown, hts⟩ (r_X12_isSign l dC dI a k h0 vi vj vF vG 40 H.size) (cwV 1 hts gwsRX12_canBegin_0 rfl rfl rfl hd_yX12_isSign_RX12 (by decide +kernel)) (fz_pre (va_recv hK hP (ci := 12) (q0 := 0) rfl rfl) hP hK hD) rfl rfl hl.1 rfl (lv_room (Nat.le_of_ble_eq_true rfl)) dX12_canBegin_28 (by decide +kernel)) hS (fun q _ h => hFc q h) hFc (fun r28 u t9_ H locs ht hvm hw9 hB9 hz1 hk1 hS => ?_)
          have hP : va_P (dC, dI) vwCl (WR a k h0 vi vj vF vG) H := fz_P ht hB9.1
          have hD : va_D A (WR a k h0 vi vj vF vG) := hB9.2.weaken (fun _ q _ h => hFc q.1 h)
          rcases hw9 with ⟨rfl, f28_0, f28_1⟩ | ⟨rfl, f28_0⟩
          · have f28_0 : (vi 18).toInt = 4 := f28_0
            have f28_1 : (vi 20) = 40 := f28_1
            refine lv_if_ne (tgt := 43) hx hb dX12_canBegin_31 (by decide) (fun _ => ?_) (fun c9 => absurd c9 (by decide))
            refine lv_iconst (v := 1) hx hb dX12_canBegin_43 (by decide) ?_
            refine lv_goto (tgt := 48) hx hb dX12_canBegin_44 (by decide) ?_
            have hl : lv_has _ _ ([(0, .ref h0)]) := lv_sub hl [0] rfl
            exact join1 _ _ _ _ ⟨1, Or.inl ⟨rfl, by first | exact Or.inl (by omega) | exact Or.inr (Or.inl (by omega)) | exact Or.inr (Or.inr (Or.inl ⟨f19_0, f19_1⟩)) | exact Or.inr (Or.inr (Or.inr (Or.inl ⟨f28_0, f28_1⟩))) | exact Or.inr (Or.inr (Or.inr (Or.inr ⟨f37_0, f37_1⟩)))⟩, rfl, hP, hD, hS, hl⟩
          · have f28_0 : ¬ ((vi 18).toInt = 4 ∧ (vi 20) = 40) := f28_0
            refine lv_if_ne (tgt := 43) hx hb dX12_canBegin_31 (by decide) (fun c9 => absurd c9 (by decide)) (fun _ => ?_)
            refine lv_aload_n hx hb dX12_canBegin_34 rfl (lv_at hl 0 rfl) ?_
            refine lv_bipush (v := 12) hx hb dX12_canBegin_35 (by decide) ?_
            have hFc := allFree hD hS hA
            refine va_calli (va_runV (As := [.int 12]) (rest := []) ⟨hx, hb, hml, hown, hts⟩ (r_X12_isKey l dC dI a k h0 vi vj vF vG 12 H.size) (cwV 1 hts gwsRX12_canBegin_1 rfl rfl rfl hd_yX12_isKey_RX12 (by decide +kernel)) (fz_pre (va_recv hK hP (ci := 12) (q0 := 0) rfl rfl) hP hK hD) rfl rfl hl.1 rfl (lv_room (Nat.le_of_ble_eq_true rfl)) dX12_canBegin_37 (by decide +kernel)) hS (fun q _ h => hFc q h) hFc (fun r37 u t9_ H locs ht hvm hw9 hB9 hz1 hk1 hS => ?_)
            have hP : va_P (dC, dI) vwCl (WR a k h0 vi vj vF vG) H := fz_P ht hB9.1
            have hD : va_D A (WR a k h0 vi vj vF vG) := hB9.2.weaken (fun _ q _ h => hFc q.1 h)
            rcases hw9 with ⟨rfl, f37_0, f37_1⟩ | ⟨rfl, f37_0⟩
            · have f37_0 : (vi 18).toInt = 2 := f37_0
              have f37_1 : (vi 20) = 12 := f37_1
              refine lv_if_eq (tgt := 47) hx hb dX12_canBegin_40 (by decide) (fun c9 => absurd c9 (by decide)) (fun _ => ?_)
              refine lv_iconst (v := 1) hx hb dX12_canBegin_43 (by decide) ?_
              refine lv_goto (tgt := 48) hx hb dX12_canBegin_44 (by decide) ?_
              have hl : lv_has _ _ ([(0, .ref h0)]) := lv_sub hl [0] rfl
              exact join1 _ _ _ _ ⟨1, Or.inl ⟨rfl, by first | exact Or.inl (by omega) | exact Or.inr (Or.inl (by omega)) | exact Or.inr (Or.inr (Or.inl ⟨f19_0, f19_1⟩)) | exact Or.inr (Or.inr (Or.inr (Or.inl ⟨f28_0, f28_1⟩))) | exact Or.inr (Or.inr (Or.inr (Or.inr ⟨f37_0, f37_1⟩)))⟩, rfl, hP, hD, hS, hl⟩
            · have f37_0 : ¬ ((vi 18).toInt = 2 ∧ (vi 20) = 12) := f37_0
              refine lv_if_eq (tgt := 47) hx hb dX12_canBegin_40 (by decide) (fun _ => ?_) (fun c9 => absurd (by decide) c9)
              refine lv_iconst (v := 0) hx hb dX12_canBegin_47 (by decide) ?_
              have hl : lv_has _ _ ([(0, .ref h0)]) := lv_sub hl [0] rfl
              exact join1 _ _ _ _ ⟨0, Or.inr ⟨rfl, rfl⟩, rfl, hP, hD, hS, hl⟩
  · rintro H locs ls stk ⟨zq, hzq, rfl, hP, hD, hS, hl⟩
    refine lv_istore_n hx hb dX12_canBegin_48 rfl hl (by decide) rfl (fun ls (hl : lv_has ls _ ([(1, .int zq), (0, .ref h0)])) => ?_)
    refine lv_iload_n hx hb dX12_canBegin_49 rfl (lv_at hl 0 rfl) ?_
    refine lv_if_ne (tgt := 60) hx hb dX12_canBegin_50 (by decide) (fun c_50 => ?_) (fun c_50 => ?_)
    · have t_50 : (zq).toInt ≠ 0 := toI_ne c_50 rfl (by decide)
      refine lv_aload_n hx hb dX12_canBegin_60 rfl (lv_at hl 1 rfl) ?_
      refine va_get (D := (dC, dI)) (ci := 12) (v := .int (vi 18)) (C := RX12) (T := TX12) (N := 163) (fs := fM (vS a vi vj)) hx hb hts iwsRX12_canBegin_in12 hown hK hP 0 rfl rfl 18 (by decide) (hts (.fieldLink RX12 494 "OptimaWorksModel" "word" "I") (by decide +kernel)) (fun _ h9 => h9) rfl dX12_canBegin_61 ?_
      refine lv_iconst (v := 1) hx hb dX12_canBegin_64 (by decide) ?_
      refine lv_icmp_ne (tgt := 96) hx hb dX12_canBegin_65 (by decide) (fun c_65 => ?_) (fun c_65 => ?_)
      · have t_65 : ((vi 18)).toInt ≠ 1 := toI_ne c_65 rfl (by decide)
        refine lv_aload_n hx hb dX12_canBegin_96 rfl (lv_at hl 1 rfl) ?_
        refine va_get (D := (dC, dI)) (ci := 12) (v := .int (vi 21)) (C := RX12) (T := TX12) (N := 163) (fs := fM (vS a vi vj)) hx hb hts iwsRX12_canBegin_in12 hown hK hP 0 rfl rfl 21 (by decide) (hts (.fieldLink RX12 515 "OptimaWorksModel" "stop" "I") (by decide +kernel)) (fun _ h9 => h9) rfl dX12_canBegin_97 ?_
        refine lv_if_ne (tgt := 107) hx hb dX12_canBegin_100 (by decide) (fun c_100 => ?_) (fun c_100 => ?_)
        · have t_100 : ((vi 21)).toInt ≠ 0 := toI_ne c_100 rfl (by decide)
          refine lv_iconst (v := 0) hx hb dX12_canBegin_107 (by decide) ?_
          refine W.widen (k := 0) (n := 0) (by decide +kernel) (by decide +kernel) ?_
          have e9 : fT (fT vi 21 (vi 21)) 22 (vi 22) = vi := (fT_id _ _ (fT_ne _ _ (Nat.ne_of_beq_eq_false rfl))).trans (fT_id _ _ (rfl))
          have hP : va_P (dC, dI) vwCl (WR a k h0 (fT (fT vi 21 (vi 21)) 22 (vi 22)) vj vF vG) H := by rw [e9]; exact hP
          have hD : va_D A (WR a k h0 (fT (fT vi 21 (vi 21)) 22 (vi 22)) vj vF vG) := by rw [e9]; exact hD
          clear e9
          exact W.zret (v := 0) hx hb hr rfl (fun t9_ ht hW => ⟨⟨0, ((vi 21), (vi 22)), rfl, by (try dsimp only); exact Or.inr ⟨rfl, by omega⟩, by rw [ht]; exact hP, hD⟩, hS.F ht⟩) hS.2.2 dX12_canBegin_108
        · have t_100 : ((vi 21)).toInt = 0 := toI_nne c_100 rfl (by decide)
          refine lv_iconst (v := 1) hx hb dX12_canBegin_103 (by decide) ?_
          refine lv_goto (tgt := 108) hx hb dX12_canBegin_104 (by decide) ?_
          refine W.widen (k := 0) (n := 0) (by decide +kernel) (by decide +kernel) ?_
          have e9 : fT (fT vi 21 (vi 21)) 22 (vi 22) = vi := (fT_id _ _ (fT_ne _ _ (Nat.ne_of_beq_eq_false rfl))).trans (fT_id _ _ (rfl))
          have hP : va_P (dC, dI) vwCl (WR a k h0 (fT (fT vi 21 (vi 21)) 22 (vi 22)) vj vF vG) H := by rw [e9]; exact hP
          have hD : va_D A (WR a k h0 (fT (fT vi 21 (vi 21)) 22 (vi 22)) vj vF vG) := by rw [e9]; exact hD
          clear e9
          exact W.zret (v := 1) hx hb hr rfl (fun t9_ ht hW => ⟨⟨1, ((vi 21), (vi 22)), rfl, by (try dsimp only); exact Or.inl ⟨rfl, i32z (by omega), (hzq.resolve_right (fun h => c_50 h.1)).2, fun h9 => absurd h9 (by omega)⟩, by rw [ht]; exact hP, hD⟩, hS.F ht⟩) hS.2.2 dX12_canBegin_108
      · have t_65 : ((vi 18)).toInt = 1 := toI_nne c_65 rfl (by decide)
        refine lv_aload_n hx hb dX12_canBegin_68 rfl (lv_at hl 1 rfl) ?_
        have hFc := allFree hD hS hA
        refine va_calli (va_runV (As := []) (rest := []) ⟨hx, hb, hml, hown, hts⟩ (r_X12_binderf l dC dI a k h0 vi vj vF vG an fn bd ha0 hfr (by first | assumption | decide | omega | rfl) (by first | assumption | decide | omega | rfl) (hbd) (by first | assumption | decide | omega | rfl) ((fun k9 h9 => hbo k9 (by omega))) H.size) (cwV 0 hts gwsRX12_canBegin_2 rfl rfl rfl hd_yX12_binder_RX12 (by decide +kernel)) (fz_pre (va_recv hK hP (ci := 12) (q0 := 0) rfl rfl) hP hK hD) rfl rfl hl.1 rfl (lv_room (Nat.le_of_ble_eq_true rfl)) dX12_canBegin_69 (by decide +kernel)) hS (fun q _ h => hFc q h) hFc (fun r69 u t9_ H locs ht hvm hw9 hB9 hz1 hk1 hS => ?_)
        obtain ⟨kx69, hwit69⟩ : ∃ w9, w9 = u := ⟨u, rfl⟩
        subst hwit69
        have hP : va_P (dC, dI) vwCl (WR a k h0 vi vj vF vG) H := fz_P ht hB9.1
        have hD : va_D A (WR a k h0 vi vj vF vG) := hB9.2.weaken (fun _ q _ h => hFc q.1 h)
        rcases hw9 with ⟨rfl, f69_0⟩ | ⟨rfl, f69_0, f69_1⟩
        · have f69_0 : ∀ k, k < bd → ¬ SmW (vF 9) (vF 14) (vF 15) fn an k := f69_0
          refine lv_iconst (v := (-1)) hx hb dX12_canBegin_72 (by decide) ?_
          refine lv_icmp_ne (tgt := 96) hx hb dX12_canBegin_73 (by decide) (fun c9 => absurd c9 (by decide)) (fun _ => ?_)
          refine lv_aload_n hx hb dX12_canBegin_76 rfl (lv_at hl 1 rfl) ?_
          refine lv_aload_n hx hb dX12_canBegin_77 rfl (lv_at hl 1 rfl) ?_
          have hFc := allFree hD hS hA
          refine va_calli (va_runV (As := []) (rest := [.ref h0]) ⟨hx, hb, hml, hown, hts⟩ (r_X12_declaredf l dC dI a k h0 vi vj vF vG an fn nm ha0 hfr (by first | assumption | decide | omega | rfl) (by first | assumption | decide | omega | rfl) hnm (by first | assumption | decide | omega | rfl) (by first | assumption | decide | omega | rfl) H.size) (cwV 0 hts gwsRX12_canBegin_3 rfl rfl rfl hd_yX12_declared_RX12 (by decide +kernel)) (fz_pre (va_recv hK hP (ci := 12) (q0 := 0) rfl rfl) hP hK hD) rfl rfl hl.1 rfl (lv_room (Nat.le_of_ble_eq_true rfl)) dX12_canBegin_78 (by decide +kernel)) hS (fun q _ h => hFc q h) hFc (fun r78 u t9_ H locs ht hvm hw9 hB9 hz1 hk1 hS => ?_)
          obtain ⟨kx78, hwit78⟩ : ∃ w9, w9 = u := ⟨u, rfl⟩
          subst hwit78
          have hP : va_P (dC, dI) vwCl (WR a k h0 vi vj vF vG) H := fz_P ht hB9.1
          have hD : va_D A (WR a k h0 vi vj vF vG) := hB9.2.weaken (fun _ q _ h => hFc q.1 h)
          rcases hw9 with ⟨rfl, f78_0⟩ | ⟨rfl, f78_0, f78_1, f78_2⟩
          · have f78_0 : ∀ k, k < nm → ¬ SmW (vF 9) (vF 11) (vF 12) fn an k := f78_0
            have hFc := allFree hD hS hA
            refine va_calli (va_runV (As := [.int (-1)]) (rest := []) ⟨hx, hb, hml, hown, hts⟩ (r_X12_isNodeb l dC dI a k h0 vi vj vF vG H.size) (cwV 1 hts gwsRX12_canBegin_4 rfl rfl rfl hd_yX12_isNode_RX12 (by decide +kernel)) (fz_pre (va_recv hK hP (ci := 12) (q0 := 0) rfl rfl) hP hK hD) rfl rfl hl.1 rfl (lv_room (Nat.le_of_ble_eq_true rfl)) dX12_canBegin_81 (by decide +kernel)) hS (fun q _ h => hFc q h) hFc (fun r81 u t9_ H locs ht hvm hw9 hB9 hz1 hk1 hS => ?_)
            have hP : va_P (dC, dI) vwCl (WR a k h0 vi vj vF vG) H := fz_P ht hB9.1
            have hD : va_D A (WR a k h0 vi vj vF vG) := hB9.2.weaken (fun _ q _ h => hFc q.1 h)
            obtain rfl := hw9
            refine lv_if_ne (tgt := 96) hx hb dX12_canBegin_84 (by decide) (fun c9 => absurd c9 (by decide)) (fun _ => ?_)
            refine lv_aload_n hx hb dX12_canBegin_87 rfl (lv_at hl 1 rfl) ?_
            refine lv_iconst (v := 3) hx hb dX12_canBegin_88 (by decide) ?_
            refine lv_aload_n hx hb dX12_canBegin_89 rfl (lv_at hl 1 rfl) ?_
            refine va_get (D := (dC, dI)) (ci := 12) (v := .int (vi 19)) (C := RX12) (T := TX12) (N := 163) (fs := fM (vS a vi vj)) hx hb hts iwsRX12_canBegin_in12 hown hK hP 0 rfl rfl 19 (by decide) (hts (.fieldLink RX12 488 "OptimaWorksModel" "from" "I") (by decide +kernel)) (fun _ h9 => h9) rfl dX12_canBegin_90 ?_
            refine lv_topi (fun y1 hy1 => ?_)
            obtain rfl : (nI fn) = y1 := (hy1.trans (hfr)).symm
            have hFc := allFree hD hS hA
            refine va_callv (va_runV (As := [.int 3, .int (nI fn)]) (rest := []) ⟨hx, hb, hml, hown, hts⟩ (r_X12_faultAt l dC dI a k h0 vi vj vF vG 3 (nI fn) (by first | assumption | decide | omega | rfl) H.size) (cwV 2 hts gwsRX12_canBegin_5 rfl rfl rfl hd_yX12_faultAt_RX12 (by decide +kernel)) (fz_pre (va_recv hK hP (ci := 12) (q0 := 0) rfl rfl) hP hK hD) rfl rfl hl.1 rfl (lv_room (Nat.le_of_ble_eq_true rfl)) dX12_canBegin_93 (by decide +kernel)) hS (fun q _ h => hFc q h) hFc (fun u t9_ H locs ht hvm hw9 hB9 hz1 hk1 hS => ?_)
            obtain ⟨s293, p293⟩ := u
            try dsimp only at hw9 hB9
            have hP : va_P (dC, dI) vwCl (WR a k h0 (fT (fT vi 21 s293) 22 p293) vj vF vG) H := fz_P ht hB9.1
            have hD : va_D A (WR a k h0 (fT (fT vi 21 s293) 22 p293) vj vF vG) := hB9.2.weaken (fun _ q _ h => hFc q.1 h)
            obtain ⟨f93_0, f93_1⟩ := hw9
            have f93_0 : (0 < (vi 21).toInt ∧ s293 = (vi 21) ∧ p293 = (vi 22)) ∨ (¬ 0 < (vi 21).toInt ∧ s293 = 3 ∧ p293 = (nI fn)) := f93_0
            refine lv_aload_n hx hb dX12_canBegin_96 rfl (lv_at hl 1 rfl) ?_
            refine va_get (D := (dC, dI)) (ci := 12) (v := .int s293) (C := RX12) (T := TX12) (N := 163) (fs := fM (vS a (fT (fT vi 21 s293) 22 p293) vj)) hx hb hts iwsRX12_canBegin_in12 hown hK hP 0 rfl rfl 21 (by decide) (hts (.fieldLink RX12 515 "OptimaWorksModel" "stop" "I") (by decide +kernel)) (fun _ h9 => h9) rfl dX12_canBegin_97 ?_
            refine lv_if_ne (tgt := 107) hx hb dX12_canBegin_100 (by decide) (fun c_100 => ?_) (fun c9 => False.elim (by have t9 : (s293).toInt = 0 := toI_nne c9 rfl (by decide); omega))
            have t_100 : (s293).toInt ≠ 0 := toI_ne c_100 rfl (by decide)
            refine lv_iconst (v := 0) hx hb dX12_canBegin_107 (by decide) ?_
            refine W.widen (k := 0) (n := 0) (by decide +kernel) (by decide +kernel) ?_
            exact W.zret (v := 0) hx hb hr rfl (fun t9_ ht hW => ⟨⟨0, (s293, p293), rfl, by (try dsimp only); exact Or.inr ⟨rfl, by omega⟩, by rw [ht]; exact hP, hD⟩, hS.F ht⟩) hS.2.2 dX12_canBegin_108
          · have f78_1 : SmW (vF 9) (vF 11) (vF 12) fn an kx78 := f78_1
            have f78_2 : ∀ k, k < kx78 → ¬ SmW (vF 9) (vF 11) (vF 12) fn an k := f78_2
            have hFc := allFree hD hS hA
            refine va_calli (va_runV (As := [.int (nI kx78)]) (rest := []) ⟨hx, hb, hml, hown, hts⟩ (r_X12_isNodea l dC dI a k h0 vi vj vF vG kx78 (by first | assumption | decide | omega | rfl) H.size) (cwV 1 hts gwsRX12_canBegin_6 rfl rfl rfl hd_yX12_isNode_RX12 (by decide +kernel)) (fz_pre (va_recv hK hP (ci := 12) (q0 := 0) rfl rfl) hP hK hD) rfl rfl hl.1 rfl (lv_room (Nat.le_of_ble_eq_true rfl)) dX12_canBegin_81 (by decide +kernel)) hS (fun q _ h => hFc q h) hFc (fun r81_1 u t9_ H locs ht hvm hw9 hB9 hz1 hk1 hS => ?_)
            have hP : va_P (dC, dI) vwCl (WR a k h0 vi vj vF vG) H := fz_P ht hB9.1
            have hD : va_D A (WR a k h0 vi vj vF vG) := hB9.2.weaken (fun _ q _ h => hFc q.1 h)
            rcases hw9 with ⟨rfl, f81_1_0⟩ | ⟨rfl, f81_1_0⟩
            · have f81_1_0 : (vF 10) kx78 = 2 ∨ (vF 10) kx78 = 3 := f81_1_0
              refine lv_if_ne (tgt := 96) hx hb dX12_canBegin_84 (by decide) (fun _ => ?_) (fun c9 => absurd c9 (by decide))
              refine lv_aload_n hx hb dX12_canBegin_96 rfl (lv_at hl 1 rfl) ?_
              refine va_get (D := (dC, dI)) (ci := 12) (v := .int (vi 21)) (C := RX12) (T := TX12) (N := 163) (fs := fM (vS a vi vj)) hx hb hts iwsRX12_canBegin_in12 hown hK hP 0 rfl rfl 21 (by decide) (hts (.fieldLink RX12 515 "OptimaWorksModel" "stop" "I") (by decide +kernel)) (fun _ h9 => h9) rfl dX12_canBegin_97 ?_
              refine lv_if_ne (tgt := 107) hx hb dX12_canBegin_100 (by decide) (fun c_100 => ?_) (fun c_100 => ?_)
              · have t_100 : ((vi 21)).toInt ≠ 0 := toI_ne c_100 rfl (by decide)
                refine lv_iconst (v := 0) hx hb dX12_canBegin_107 (by decide) ?_
                refine W.widen (k := 0) (n := 0) (by decide +kernel) (by decide +kernel) ?_
                have e9 : fT (fT vi 21 (vi 21)) 22 (vi 22) = vi := (fT_id _ _ (fT_ne _ _ (Nat.ne_of_beq_eq_false rfl))).trans (fT_id _ _ (rfl))
                have hP : va_P (dC, dI) vwCl (WR a k h0 (fT (fT vi 21 (vi 21)) 22 (vi 22)) vj vF vG) H := by rw [e9]; exact hP
                have hD : va_D A (WR a k h0 (fT (fT vi 21 (vi 21)) 22 (vi 22)) vj vF vG) := by rw [e9]; exact hD
                clear e9
                exact W.zret (v := 0) hx hb hr rfl (fun t9_ ht hW => ⟨⟨0, ((vi 21), (vi 22)), rfl, by (try dsimp only); exact Or.inr ⟨rfl, by omega⟩, by rw [ht]; exact hP, hD⟩, hS.F ht⟩) hS.2.2 dX12_canBegin_108
              · have t_100 : ((vi 21)).toInt = 0 := toI_nne c_100 rfl (by decide)
                refine lv_iconst (v := 1) hx hb dX12_canBegin_103 (by decide) ?_
                refine lv_goto (tgt := 108) hx hb dX12_canBegin_104 (by decide) ?_
                refine W.widen (k := 0) (n := 0) (by decide +kernel) (by decide +kernel) ?_
                have e9 : fT (fT vi 21 (vi 21)) 22 (vi 22) = vi := (fT_id _ _ (fT_ne _ _ (Nat.ne_of_beq_eq_false rfl))).trans (fT_id _ _ (rfl))
                have hP : va_P (dC, dI) vwCl (WR a k h0 (fT (fT vi 21 (vi 21)) 22 (vi 22)) vj vF vG) H := by rw [e9]; exact hP
                have hD : va_D A (WR a k h0 (fT (fT vi 21 (vi 21)) 22 (vi 22)) vj vF vG) := by rw [e9]; exact hD
                clear e9
                exact W.zret (v := 1) hx hb hr rfl (fun t9_ ht hW => ⟨⟨1, ((vi 21), (vi 22)), rfl, by (try dsimp only); exact Or.inl ⟨rfl, i32z (by omega), (hzq.resolve_right (fun h => c_50 h.1)).2, fun _ => by first | exact Or.inl ⟨kx69, f69_0, f69_1⟩ | exact Or.inr ⟨kx78, f78_0, f78_1, f78_2, f81_1_0⟩⟩, by rw [ht]; exact hP, hD⟩, hS.F ht⟩) hS.2.2 dX12_canBegin_108
            · have f81_1_0 : ¬ ((vF 10) kx78 = 2 ∨ (vF 10) kx78 = 3) := f81_1_0
              refine lv_if_ne (tgt := 96) hx hb dX12_canBegin_84 (by decide) (fun c9 => absurd c9 (by decide)) (fun _ => ?_)
              refine lv_aload_n hx hb dX12_canBegin_87 rfl (lv_at hl 1 rfl) ?_
              refine lv_iconst (v := 3) hx hb dX12_canBegin_88 (by decide) ?_
              refine lv_aload_n hx hb dX12_canBegin_89 rfl (lv_at hl 1 rfl) ?_
              refine va_get (D := (dC, dI)) (ci := 12) (v := .int (vi 19)) (C := RX12) (T := TX12) (N := 163) (fs := fM (vS a vi vj)) hx hb hts iwsRX12_canBegin_in12 hown hK hP 0 rfl rfl 19 (by decide) (hts (.fieldLink RX12 488 "OptimaWorksModel" "from" "I") (by decide +kernel)) (fun _ h9 => h9) rfl dX12_canBegin_90 ?_
              refine lv_topi (fun y2 hy2 => ?_)
              obtain rfl : (nI fn) = y2 := (hy2.trans (hfr)).symm
              have hFc := allFree hD hS hA
              refine va_callv (va_runV (As := [.int 3, .int (nI fn)]) (rest := []) ⟨hx, hb, hml, hown, hts⟩ (r_X12_faultAt l dC dI a k h0 vi vj vF vG 3 (nI fn) (by first | assumption | decide | omega | rfl) H.size) (cwV 2 hts gwsRX12_canBegin_5 rfl rfl rfl hd_yX12_faultAt_RX12 (by decide +kernel)) (fz_pre (va_recv hK hP (ci := 12) (q0 := 0) rfl rfl) hP hK hD) rfl rfl hl.1 rfl (lv_room (Nat.le_of_ble_eq_true rfl)) dX12_canBegin_93 (by decide +kernel)) hS (fun q _ h => hFc q h) hFc (fun u t9_ H locs ht hvm hw9 hB9 hz1 hk1 hS => ?_)
              obtain ⟨s293_1, p293_1⟩ := u
              try dsimp only at hw9 hB9
              have hP : va_P (dC, dI) vwCl (WR a k h0 (fT (fT vi 21 s293_1) 22 p293_1) vj vF vG) H := fz_P ht hB9.1
              have hD : va_D A (WR a k h0 (fT (fT vi 21 s293_1) 22 p293_1) vj vF vG) := hB9.2.weaken (fun _ q _ h => hFc q.1 h)
              obtain ⟨f93_1_0, f93_1_1⟩ := hw9
              have f93_1_0 : (0 < (vi 21).toInt ∧ s293_1 = (vi 21) ∧ p293_1 = (vi 22)) ∨ (¬ 0 < (vi 21).toInt ∧ s293_1 = 3 ∧ p293_1 = (nI fn)) := f93_1_0
              refine lv_aload_n hx hb dX12_canBegin_96 rfl (lv_at hl 1 rfl) ?_
              refine va_get (D := (dC, dI)) (ci := 12) (v := .int s293_1) (C := RX12) (T := TX12) (N := 163) (fs := fM (vS a (fT (fT vi 21 s293_1) 22 p293_1) vj)) hx hb hts iwsRX12_canBegin_in12 hown hK hP 0 rfl rfl 21 (by decide) (hts (.fieldLink RX12 515 "OptimaWorksModel" "stop" "I") (by decide +kernel)) (fun _ h9 => h9) rfl dX12_canBegin_97 ?_
              refine lv_if_ne (tgt := 107) hx hb dX12_canBegin_100 (by decide) (fun c_100 => ?_) (fun c9 => False.elim (by have t9 : (s293_1).toInt = 0 := toI_nne c9 rfl (by decide); omega))
              have t_100 : (s293_1).toInt ≠ 0 := toI_ne c_100 rfl (by decide)
              refine lv_iconst (v := 0) hx hb dX12_canBegin_107 (by decide) ?_
              refine W.widen (k := 0) (n := 0) (by decide +kernel) (by decide +kernel) ?_
              exact W.zret (v := 0) hx hb hr rfl (fun t9_ ht hW => ⟨⟨0, (s293_1, p293_1), rfl, by (try dsimp only); exact Or.inr ⟨rfl, by omega⟩, by rw [ht]; exact hP, hD⟩, hS.F ht⟩) hS.2.2 dX12_canBegin_108
        · have f69_1 : SmW (vF 9) (vF 14) (vF 15) fn an kx69 := f69_1
          refine lv_iconst (v := (-1)) hx hb dX12_canBegin_72 (by decide) ?_
          refine lv_icmp_ne (tgt := 96) hx hb dX12_canBegin_73 (by decide) (fun c_73 => ?_) (fun c_73 => ?_)
          · have t_73 : ((kx69 : Nat) : Int) ≠ -1 := toI_ne c_73 (nI_toInt (by omega)) (by decide)
            refine lv_aload_n hx hb dX12_canBegin_96 rfl (lv_at hl 1 rfl) ?_
            refine va_get (D := (dC, dI)) (ci := 12) (v := .int (vi 21)) (C := RX12) (T := TX12) (N := 163) (fs := fM (vS a vi vj)) hx hb hts iwsRX12_canBegin_in12 hown hK hP 0 rfl rfl 21 (by decide) (hts (.fieldLink RX12 515 "OptimaWorksModel" "stop" "I") (by decide +kernel)) (fun _ h9 => h9) rfl dX12_canBegin_97 ?_
            refine lv_if_ne (tgt := 107) hx hb dX12_canBegin_100 (by decide) (fun c_100 => ?_) (fun c_100 => ?_)
            · have t_100 : ((vi 21)).toInt ≠ 0 := toI_ne c_100 rfl (by decide)
              refine lv_iconst (v := 0) hx hb dX12_canBegin_107 (by decide) ?_
              refine W.widen (k := 0) (n := 0) (by decide +kernel) (by decide +kernel) ?_
              have e9 : fT (fT vi 21 (vi 21)) 22 (vi 22) = vi := (fT_id _ _ (fT_ne _ _ (Nat.ne_of_beq_eq_false rfl))).trans (fT_id _ _ (rfl))
              have hP : va_P (dC, dI) vwCl (WR a k h0 (fT (fT vi 21 (vi 21)) 22 (vi 22)) vj vF vG) H := by rw [e9]; exact hP
              have hD : va_D A (WR a k h0 (fT (fT vi 21 (vi 21)) 22 (vi 22)) vj vF vG) := by rw [e9]; exact hD
              clear e9
              exact W.zret (v := 0) hx hb hr rfl (fun t9_ ht hW => ⟨⟨0, ((vi 21), (vi 22)), rfl, by (try dsimp only); exact Or.inr ⟨rfl, by omega⟩, by rw [ht]; exact hP, hD⟩, hS.F ht⟩) hS.2.2 dX12_canBegin_108
            · have t_100 : ((vi 21)).toInt = 0 := toI_nne c_100 rfl (by decide)
              refine lv_iconst (v := 1) hx hb dX12_canBegin_103 (by decide) ?_
              refine lv_goto (tgt := 108) hx hb dX12_canBegin_104 (by decide) ?_
              refine W.widen (k := 0) (n := 0) (by decide +kernel) (by decide +kernel) ?_
              have e9 : fT (fT vi 21 (vi 21)) 22 (vi 22) = vi := (fT_id _ _ (fT_ne _ _ (Nat.ne_of_beq_eq_false rfl))).trans (fT_id _ _ (rfl))
              have hP : va_P (dC, dI) vwCl (WR a k h0 (fT (fT vi 21 (vi 21)) 22 (vi 22)) vj vF vG) H := by rw [e9]; exact hP
              have hD : va_D A (WR a k h0 (fT (fT vi 21 (vi 21)) 22 (vi 22)) vj vF vG) := by rw [e9]; exact hD
              clear e9
              exact W.zret (v := 1) hx hb hr rfl (fun t9_ ht hW => ⟨⟨1, ((vi 21), (vi 22)), rfl, by (try dsimp only); exact Or.inl ⟨rfl, i32z (by omega), (hzq.resolve_right (fun h => c_50 h.1)).2, fun _ => by first | exact Or.inl ⟨kx69, f69_0, f69_1⟩ | exact Or.inr ⟨kx78, f78_0, f78_1, f78_2, f81_1_0⟩⟩, by rw [ht]; exact hP, hD⟩, hS.F ht⟩) hS.2.2 dX12_canBegin_108
          · have t_73 : ((kx69 : Nat) : Int) = -1 := toI_nne c_73 (nI_toInt (by omega)) (by decide)
            refine lv_aload_n hx hb dX12_canBegin_76 rfl (lv_at hl 1 rfl) ?_
            refine lv_aload_n hx hb dX12_canBegin_77 rfl (lv_at hl 1 rfl) ?_
            have hFc := allFree hD hS hA
            refine va_calli (va_runV (As := []) (rest := [.ref h0]) ⟨hx, hb, hml, hown, hts⟩ (r_X12_declaredf l dC dI a k h0 vi vj vF vG an fn nm ha0 hfr (by first | assumption | decide | omega | rfl) (by first | assumption | decide | omega | rfl) hnm (by first | assumption | decide | omega | rfl) (by first | assumption | decide | omega | rfl) H.size) (cwV 0 hts gwsRX12_canBegin_3 rfl rfl rfl hd_yX12_declared_RX12 (by decide +kernel)) (fz_pre (va_recv hK hP (ci := 12) (q0 := 0) rfl rfl) hP hK hD) rfl rfl hl.1 rfl (lv_room (Nat.le_of_ble_eq_true rfl)) dX12_canBegin_78 (by decide +kernel)) hS (fun q _ h => hFc q h) hFc (fun r78_1 u t9_ H locs ht hvm hw9 hB9 hz1 hk1 hS => ?_)
            obtain ⟨kx78_1, hwit78_1⟩ : ∃ w9, w9 = u := ⟨u, rfl⟩
            subst hwit78_1
            have hP : va_P (dC, dI) vwCl (WR a k h0 vi vj vF vG) H := fz_P ht hB9.1
            have hD : va_D A (WR a k h0 vi vj vF vG) := hB9.2.weaken (fun _ q _ h => hFc q.1 h)
            rcases hw9 with ⟨rfl, f78_1_0⟩ | ⟨rfl, f78_1_0, f78_1_1, f78_1_2⟩
            · have f78_1_0 : ∀ k, k < nm → ¬ SmW (vF 9) (vF 11) (vF 12) fn an k := f78_1_0
              have hFc := allFree hD hS hA
              refine va_calli (va_runV (As := [.int (-1)]) (rest := []) ⟨hx, hb, hml, hown, hts⟩ (r_X12_isNodeb l dC dI a k h0 vi vj vF vG H.size) (cwV 1 hts gwsRX12_canBegin_4 rfl rfl rfl hd_yX12_isNode_RX12 (by decide +kernel)) (fz_pre (va_recv hK hP (ci := 12) (q0 := 0) rfl rfl) hP hK hD) rfl rfl hl.1 rfl (lv_room (Nat.le_of_ble_eq_true rfl)) dX12_canBegin_81 (by decide +kernel)) hS (fun q _ h => hFc q h) hFc (fun r81_2 u t9_ H locs ht hvm hw9 hB9 hz1 hk1 hS => ?_)
              have hP : va_P (dC, dI) vwCl (WR a k h0 vi vj vF vG) H := fz_P ht hB9.1
              have hD : va_D A (WR a k h0 vi vj vF vG) := hB9.2.weaken (fun _ q _ h => hFc q.1 h)
              obtain rfl := hw9
              refine lv_if_ne (tgt := 96) hx hb dX12_canBegin_84 (by decide) (fun c9 => absurd c9 (by decide)) (fun _ => ?_)
              refine lv_aload_n hx hb dX12_canBegin_87 rfl (lv_at hl 1 rfl) ?_
              refine lv_iconst (v := 3) hx hb dX12_canBegin_88 (by decide) ?_
              refine lv_aload_n hx hb dX12_canBegin_89 rfl (lv_at hl 1 rfl) ?_
              refine va_get (D := (dC, dI)) (ci := 12) (v := .int (vi 19)) (C := RX12) (T := TX12) (N := 163) (fs := fM (vS a vi vj)) hx hb hts iwsRX12_canBegin_in12 hown hK hP 0 rfl rfl 19 (by decide) (hts (.fieldLink RX12 488 "OptimaWorksModel" "from" "I") (by decide +kernel)) (fun _ h9 => h9) rfl dX12_canBegin_90 ?_
              refine lv_topi (fun y3 hy3 => ?_)
              obtain rfl : (nI fn) = y3 := (hy3.trans (hfr)).symm
              have hFc := allFree hD hS hA
              refine va_callv (va_runV (As := [.int 3, .int (nI fn)]) (rest := []) ⟨hx, hb, hml, hown, hts⟩ (r_X12_faultAt l dC dI a k h0 vi vj vF vG 3 (nI fn) (by first | assumption | decide | omega | rfl) H.size) (cwV 2 hts gwsRX12_canBegin_5 rfl rfl rfl hd_yX12_faultAt_RX12 (by decide +kernel)) (fz_pre (va_recv hK hP (ci := 12) (q0 := 0) rfl rfl) hP hK hD) rfl rfl hl.1 rfl (lv_room (Nat.le_of_ble_eq_true rfl)) dX12_canBegin_93 (by decide +kernel)) hS (fun q _ h => hFc q h) hFc (fun u t9_ H locs ht hvm hw9 hB9 hz1 hk1 hS => ?_)
              obtain ⟨s293_2, p293_2⟩ := u
              try dsimp only at hw9 hB9
              have hP : va_P (dC, dI) vwCl (WR a k h0 (fT (fT vi 21 s293_2) 22 p293_2) vj vF vG) H := fz_P ht hB9.1
              have hD : va_D A (WR a k h0 (fT (fT vi 21 s293_2) 22 p293_2) vj vF vG) := hB9.2.weaken (fun _ q _ h => hFc q.1 h)
              obtain ⟨f93_2_0, f93_2_1⟩ := hw9
              have f93_2_0 : (0 < (vi 21).toInt ∧ s293_2 = (vi 21) ∧ p293_2 = (vi 22)) ∨ (¬ 0 < (vi 21).toInt ∧ s293_2 = 3 ∧ p293_2 = (nI fn)) := f93_2_0
              refine lv_aload_n hx hb dX12_canBegin_96 rfl (lv_at hl 1 rfl) ?_
              refine va_get (D := (dC, dI)) (ci := 12) (v := .int s293_2) (C := RX12) (T := TX12) (N := 163) (fs := fM (vS a (fT (fT vi 21 s293_2) 22 p293_2) vj)) hx hb hts iwsRX12_canBegin_in12 hown hK hP 0 rfl rfl 21 (by decide) (hts (.fieldLink RX12 515 "OptimaWorksModel" "stop" "I") (by decide +kernel)) (fun _ h9 => h9) rfl dX12_canBegin_97 ?_
              refine lv_if_ne (tgt := 107) hx hb dX12_canBegin_100 (by decide) (fun c_100 => ?_) (fun c9 => False.elim (by have t9 : (s293_2).toInt = 0 := toI_nne c9 rfl (by decide); omega))
              have t_100 : (s293_2).toInt ≠ 0 := toI_ne c_100 rfl (by decide)
              refine lv_iconst (v := 0) hx hb dX12_canBegin_107 (by decide) ?_
              refine W.widen (k := 0) (n := 0) (by decide +kernel) (by decide +kernel) ?_
              exact W.zret (v := 0) hx hb hr rfl (fun t9_ ht hW => ⟨⟨0, (s293_2, p293_2), rfl, by (try dsimp only); exact Or.inr ⟨rfl, by omega⟩, by rw [ht]; exact hP, hD⟩, hS.F ht⟩) hS.2.2 dX12_canBegin_108
            · have f78_1_1 : SmW (vF 9) (vF 11) (vF 12) fn an kx78_1 := f78_1_1
              have f78_1_2 : ∀ k, k < kx78_1 → ¬ SmW (vF 9) (vF 11) (vF 12) fn an k := f78_1_2
              have hFc := allFree hD hS hA
              refine va_calli (va_runV (As := [.int (nI kx78_1)]) (rest := []) ⟨hx, hb, hml, hown, hts⟩ (r_X12_isNodea l dC dI a k h0 vi vj vF vG kx78_1 (by first | assumption | decide | omega | rfl) H.size) (cwV 1 hts gwsRX12_canBegin_6 rfl rfl rfl hd_yX12_isNode_RX12 (by decide +kernel)) (fz_pre (va_recv hK hP (ci := 12) (q0 := 0) rfl rfl) hP hK hD) rfl rfl hl.1 rfl (lv_room (Nat.le_of_ble_eq_true rfl)) dX12_canBegin_81 (by decide +kernel)) hS (fun q _ h => hFc q h) hFc (fun r81_3 u t9_ H locs ht hvm hw9 hB9 hz1 hk1 hS => ?_)
              have hP : va_P (dC, dI) vwCl (WR a k h0 vi vj vF vG) H := fz_P ht hB9.1
              have hD : va_D A (WR a k h0 vi vj vF vG) := hB9.2.weaken (fun _ q _ h => hFc q.1 h)
              rcases hw9 with ⟨rfl, f81_3_0⟩ | ⟨rfl, f81_3_0⟩
              · have f81_3_0 : (vF 10) kx78_1 = 2 ∨ (vF 10) kx78_1 = 3 := f81_3_0
                refine lv_if_ne (tgt := 96) hx hb dX12_canBegin_84 (by decide) (fun _ => ?_) (fun c9 => absurd c9 (by decide))
                refine lv_aload_n hx hb dX12_canBegin_96 rfl (lv_at hl 1 rfl) ?_
                refine va_get (D := (dC, dI)) (ci := 12) (v := .int (vi 21)) (C := RX12) (T := TX12) (N := 163) (fs := fM (vS a vi vj)) hx hb hts iwsRX12_canBegin_in12 hown hK hP 0 rfl rfl 21 (by decide) (hts (.fieldLink RX12 515 "OptimaWorksModel" "stop" "I") (by decide +kernel)) (fun _ h9 => h9) rfl dX12_canBegin_97 ?_
                refine lv_if_ne (tgt := 107) hx hb dX12_canBegin_100 (by decide) (fun c_100 => ?_) (fun c_100 => ?_)
                · have t_100 : ((vi 21)).toInt ≠ 0 := toI_ne c_100 rfl (by decide)
                  refine lv_iconst (v := 0) hx hb dX12_canBegin_107 (by decide) ?_
                  refine W.widen (k := 0) (n := 0) (by decide +kernel) (by decide +kernel) ?_
                  have e9 : fT (fT vi 21 (vi 21)) 22 (vi 22) = vi := (fT_id _ _ (fT_ne _ _ (Nat.ne_of_beq_eq_false rfl))).trans (fT_id _ _ (rfl))
                  have hP : va_P (dC, dI) vwCl (WR a k h0 (fT (fT vi 21 (vi 21)) 22 (vi 22)) vj vF vG) H := by rw [e9]; exact hP
                  have hD : va_D A (WR a k h0 (fT (fT vi 21 (vi 21)) 22 (vi 22)) vj vF vG) := by rw [e9]; exact hD
                  clear e9
                  exact W.zret (v := 0) hx hb hr rfl (fun t9_ ht hW => ⟨⟨0, ((vi 21), (vi 22)), rfl, by (try dsimp only); exact Or.inr ⟨rfl, by omega⟩, by rw [ht]; exact hP, hD⟩, hS.F ht⟩) hS.2.2 dX12_canBegin_108
                · have t_100 : ((vi 21)).toInt = 0 := toI_nne c_100 rfl (by decide)
                  refine lv_iconst (v := 1) hx hb dX12_canBegin_103 (by decide) ?_
                  refine lv_goto (tgt := 108) hx hb dX12_canBegin_104 (by decide) ?_
                  refine W.widen (k := 0) (n := 0) (by decide +kernel) (by decide +kernel) ?_
                  have e9 : fT (fT vi 21 (vi 21)) 22 (vi 22) = vi := (fT_id _ _ (fT_ne _ _ (Nat.ne_of_beq_eq_false rfl))).trans (fT_id _ _ (rfl))
                  have hP : va_P (dC, dI) vwCl (WR a k h0 (fT (fT vi 21 (vi 21)) 22 (vi 22)) vj vF vG) H := by rw [e9]; exact hP
                  have hD : va_D A (WR a k h0 (fT (fT vi 21 (vi 21)) 22 (vi 22)) vj vF vG) := by rw [e9]; exact hD
                  clear e9
                  exact W.zret (v := 1) hx hb hr rfl (fun t9_ ht hW => ⟨⟨1, ((vi 21), (vi 22)), rfl, by (try dsimp only); exact Or.inl ⟨rfl, i32z (by omega), (hzq.resolve_right (fun h => c_50 h.1)).2, fun _ => by first | exact Or.inl ⟨kx69, f69_0, f69_1⟩ | exact Or.inr ⟨kx78_1, f78_1_0, f78_1_1, f78_1_2, f81_3_0⟩⟩, by rw [ht]; exact hP, hD⟩, hS.F ht⟩) hS.2.2 dX12_canBegin_108
              · have f81_3_0 : ¬ ((vF 10) kx78_1 = 2 ∨ (vF 10) kx78_1 = 3) := f81_3_0
                refine lv_if_ne (tgt := 96) hx hb dX12_canBegin_84 (by decide) (fun c9 => absurd c9 (by decide)) (fun _ => ?_)
                refine lv_aload_n hx hb dX12_canBegin_87 rfl (lv_at hl 1 rfl) ?_
                refine lv_iconst (v := 3) hx hb dX12_canBegin_88 (by decide) ?_
                refine lv_aload_n hx hb dX12_canBegin_89 rfl (lv_at hl 1 rfl) ?_
                refine va_get (D := (dC, dI)) (ci := 12) (v := .int (vi 19)) (C := RX12) (T := TX12) (N := 163) (fs := fM (vS a vi vj)) hx hb hts iwsRX12_canBegin_in12 hown hK hP 0 rfl rfl 19 (by decide) (hts (.fieldLink RX12 488 "OptimaWorksModel" "from" "I") (by decide +kernel)) (fun _ h9 => h9) rfl dX12_canBegin_90 ?_
                refine lv_topi (fun y4 hy4 => ?_)
                obtain rfl : (nI fn) = y4 := (hy4.trans (hfr)).symm
                have hFc := allFree hD hS hA
                refine va_callv (va_runV (As := [.int 3, .int (nI fn)]) (rest := []) ⟨hx, hb, hml, hown, hts⟩ (r_X12_faultAt l dC dI a k h0 vi vj vF vG 3 (nI fn) (by first | assumption | decide | omega | rfl) H.size) (cwV 2 hts gwsRX12_canBegin_5 rfl rfl rfl hd_yX12_faultAt_RX12 (by decide +kernel)) (fz_pre (va_recv hK hP (ci := 12) (q0 := 0) rfl rfl) hP hK hD) rfl rfl hl.1 rfl (lv_room (Nat.le_of_ble_eq_true rfl)) dX12_canBegin_93 (by decide +kernel)) hS (fun q _ h => hFc q h) hFc (fun u t9_ H locs ht hvm hw9 hB9 hz1 hk1 hS => ?_)
                obtain ⟨s293_3, p293_3⟩ := u
                try dsimp only at hw9 hB9
                have hP : va_P (dC, dI) vwCl (WR a k h0 (fT (fT vi 21 s293_3) 22 p293_3) vj vF vG) H := fz_P ht hB9.1
                have hD : va_D A (WR a k h0 (fT (fT vi 21 s293_3) 22 p293_3) vj vF vG) := hB9.2.weaken (fun _ q _ h => hFc q.1 h)
                obtain ⟨f93_3_0, f93_3_1⟩ := hw9
                have f93_3_0 : (0 < (vi 21).toInt ∧ s293_3 = (vi 21) ∧ p293_3 = (vi 22)) ∨ (¬ 0 < (vi 21).toInt ∧ s293_3 = 3 ∧ p293_3 = (nI fn)) := f93_3_0
                refine lv_aload_n hx hb dX12_canBegin_96 rfl (lv_at hl 1 rfl) ?_
                refine va_get (D := (dC, dI)) (ci := 12) (v := .int s293_3) (C := RX12) (T := TX12) (N := 163) (fs := fM (vS a (fT (fT vi 21 s293_3) 22 p293_3) vj)) hx hb hts iwsRX12_canBegin_in12 hown hK hP 0 rfl rfl 21 (by decide) (hts (.fieldLink RX12 515 "OptimaWorksModel" "stop" "I") (by decide +kernel)) (fun _ h9 => h9) rfl dX12_canBegin_97 ?_
                refine lv_if_ne (tgt := 107) hx hb dX12_canBegin_100 (by decide) (fun c_100 => ?_) (fun c9 => False.elim (by have t9 : (s293_3).toInt = 0 := toI_nne c9 rfl (by decide); omega))
                have t_100 : (s293_3).toInt ≠ 0 := toI_ne c_100 rfl (by decide)
                refine lv_iconst (v := 0) hx hb dX12_canBegin_107 (by decide) ?_
                refine W.widen (k := 0) (n := 0) (by decide +kernel) (by decide +kernel) ?_
                exact W.zret (v := 0) hx hb hr rfl (fun t9_ ht hW => ⟨⟨0, (s293_3, p293_3), rfl, by (try dsimp only); exact Or.inr ⟨rfl, by omega⟩, by rw [ht]; exact hP, hD⟩, hS.F ht⟩) hS.2.2 dX12_canBegin_108
    · have t_50 : (zq).toInt = 0 := toI_nne c_50 rfl (by decide)
      refine lv_aload_n hx hb dX12_canBegin_53 rfl (lv_at hl 1 rfl) ?_
      have hFc := allFree hD hS hA
      refine va_callv (va_runV (As := []) (rest := []) ⟨hx, hb, hml, hown, hts⟩ (r_X12_wrong l dC dI a k h0 vi vj vF vG H.size) (cwV 0 hts gwsRX12_canBegin_7 rfl rfl rfl hd_yX12_wrong_RX12 (by decide +kernel)) (fz_pre (va_recv hK hP (ci := 12) (q0 := 0) rfl rfl) hP hK hD) rfl rfl hl.1 rfl (lv_room (Nat.le_of_ble_eq_true rfl)) dX12_canBegin_54 (by decide +kernel)) hS (fun q _ h => hFc q h) hFc (fun u t9_ H locs ht hvm hw9 hB9 hz1 hk1 hS => ?_)
      obtain ⟨s254, p254⟩ := u
      try dsimp only at hw9 hB9
      have hP : va_P (dC, dI) vwCl (WR a k h0 (fT (fT vi 21 s254) 22 p254) vj vF vG) H := fz_P ht hB9.1
      have hD : va_D A (WR a k h0 (fT (fT vi 21 s254) 22 p254) vj vF vG) := hB9.2.weaken (fun _ q _ h => hFc q.1 h)
      obtain ⟨f54_0, f54_1⟩ := hw9
      have f54_0 : (0 < (vi 21).toInt ∧ s254 = (vi 21) ∧ p254 = (vi 22)) ∨ (¬ 0 < (vi 21).toInt ∧ (s254 = 1 ∨ s254 = 2) ∧ p254 = (vi 19)) := f54_0
      refine lv_goto (tgt := 96) hx hb dX12_canBegin_57 (by decide) ?_
      refine lv_aload_n hx hb dX12_canBegin_96 rfl (lv_at hl 1 rfl) ?_
      refine va_get (D := (dC, dI)) (ci := 12) (v := .int s254) (C := RX12) (T := TX12) (N := 163) (fs := fM (vS a (fT (fT vi 21 s254) 22 p254) vj)) hx hb hts iwsRX12_canBegin_in12 hown hK hP 0 rfl rfl 21 (by decide) (hts (.fieldLink RX12 515 "OptimaWorksModel" "stop" "I") (by decide +kernel)) (fun _ h9 => h9) rfl dX12_canBegin_97 ?_
      refine lv_if_ne (tgt := 107) hx hb dX12_canBegin_100 (by decide) (fun c_100 => ?_) (fun c9 => False.elim (by have t9 : (s254).toInt = 0 := toI_nne c9 rfl (by decide); omega))
      have t_100 : (s254).toInt ≠ 0 := toI_ne c_100 rfl (by decide)
      refine lv_iconst (v := 0) hx hb dX12_canBegin_107 (by decide) ?_
      refine W.widen (k := 0) (n := 0) (by decide +kernel) (by decide +kernel) ?_
      exact W.zret (v := 0) hx hb hr rfl (fun t9_ ht hW => ⟨⟨0, (s254, p254), rfl, by (try dsimp only); exact Or.inr ⟨rfl, by omega⟩, by rw [ht]; exact hP, hD⟩, hS.F ht⟩) hS.2.2 dX12_canBegin_108
